/-! contracts of the reference: a statement named -/
/-- a field of a statement, named -/
def FdN (μ ν : MS) (h : Nat) (V0 : Int32 → Prop) (K : Nat) (Γ : List Int32) (kd : Int32) (c : Nat → Int) (s : Int32) (g : Nat) : Prop := FNm ν h (VS V0 Γ) (BN ν h V0 K Γ) (AN ν h V0 Γ (BN ν h V0 K) 1) (fW kd.toNatClampNeg g) (c g) (c (g + 1)) (μ.2.1 (22 + g) s.toNatClampNeg)
/-- a statement under way: so much weight is used, these fields are named -/
def BnS (n N : Int) (μ : MS) (h : Nat) (V0 : Int32 → Prop) (K : Nat) (Γ : List Int32) (kd : Int32) (c : Nat → Int) (s : Int32) (lo hi : Int) (w U : Nat) (l : List Nat) (ν : MS) : Prop := SFw (bt lo hi) U μ ν ∧ CXs n N (VS V0 Γ) (w - U) ν ∧ (ν.1 17 = 0 → ∀ g ∈ l, FdN μ ν h V0 K Γ kd c s g)
section NMX
variable {X : ev_X} {W : Nat → Prop} {d h K : Nat} {P : MP} {μ ν ν1 : MS} {V V0 : Int32 → Prop} {n N lo hi : Int} {Γ : List Int32} {R : Int32 → MS → Prop} {T : MS → Prop} {s kd : Int32} {c : Nat → Int} {w U : Nat} {l : List Nat}
theorem mono5 (hc : ∀ f, f < 5 → c f ≤ c (f + 1)) : ∀ (k a : Nat), a + k ≤ 5 → c a ≤ c (a + k)
  | 0, a, _ => Int.le_refl _
  | k + 1, a, h => Int.le_trans (mono5 hc k a (by omega)) (hc (a + k) (by omega))
theorem BnS.adv {g u : Nat} (hB : BnS n N μ h V0 K Γ kd c s lo hi w U l ν) (hc : ∀ f, f < 5 → c f ≤ c (f + 1)) (hlo : lo ≤ c 0) (hhi : c 5 ≤ hi) (hg : g < 5) (hl : ∀ x ∈ l, x < 5 ∧ x ≠ g) (q : SFw (bt (c g) (c (g + 1))) u ν ν1) (hF : ν1.1 17 = 0 → FdN μ ν1 h V0 K Γ kd c s g) (hw : U + u ≤ w) : BnS n N μ h V0 K Γ kd c s lo hi w (U + u) (g :: l) ν1 := by
  obtain ⟨b1, b2, b3⟩ := hB
  have m0 := mono5 hc g 0 (by omega)
  have m1 := mono5 hc (5 - (g + 1)) (g + 1) (by omega)
  rw [Nat.zero_add] at m0
  rw [show g + 1 + (5 - (g + 1)) = 5 by omega] at m1
  refine ⟨b1.tr (q.sub (fun j hj => ⟨by have := hj.1; omega, by have := hj.2; omega⟩) (Nat.le_refl _)), CXs.sf (w := u) (by rw [show u + (w - (U + u)) = w - U by omega]; exact b2) q, fun e x hx => ?_⟩
  rcases List.mem_cons.mp hx with hx | hx
  · rw [hx]; exact hF e
  · obtain ⟨x5, xg⟩ := hl x hx
    refine FNm.ss q.1 (fun j hj hj2 => ?_) (b3 (q.1.z e) x hx)
    have j1 : c x ≤ j := hj.1
    have j2 : (j : Int) < c (x + 1) := hj.2
    have j3 : c g ≤ j := hj2.1
    have j4 : (j : Int) < c (g + 1) := hj2.2
    by_cases o : x < g
    · have m2 := mono5 hc (g - (x + 1)) (x + 1) (by omega)
      rw [show x + 1 + (g - (x + 1)) = g by omega] at m2
      omega
    · have m2 := mono5 hc (x - (g + 1)) (g + 1) (by omega)
      rw [show g + 1 + (x - (g + 1)) = x by omega] at m2
      omega
/-- the whole statement -/
theorem BnS.fin (hB : BnS n N μ h V0 K Γ kd c s lo hi w U l ν) (hU : U ≤ w) (ek : μ.2.1 20 s.toNatClampNeg = kd) (hs : sK 3 kd = true) (hk : ¬ kd = 70 ∧ ¬ kd = 48 ∧ ¬ kd = 52 ∧ ¬ kd = 61) (hb : 0 ≤ s.toInt ∧ lo ≤ s.toInt ∧ s.toInt < hi) (hc : ∀ f, f < 5 → c f ≤ c (f + 1)) (h05 : s.toInt + 1 ≤ c 0 ∧ c 5 ≤ hi) (hL : ν.1 17 = 0 → LN ν s.toNatClampNeg) (hl : ∀ f, f < 5 → fW kd.toNatClampNeg f = (0, 0) ∨ f ∈ l) : SFw (bt lo hi) w μ ν ∧ (ν.1 17 = 0 → PNK ν h V0 K 1 Γ 3 lo hi s) := by
  obtain ⟨b1, b2, b3⟩ := hB
  refine ⟨b1.sub (fun _ h => h) hU, fun e => ?_⟩
  have k20 : ν.2.1 20 s.toNatClampNeg = kd := by rw [b1.1.row (g := 20) rfl]; exact ek
  have s48 : ¬ ν.2.1 20 s.toNatClampNeg = 48 := by rw [k20]; exact hk.2.1
  have s52 : ¬ ν.2.1 20 s.toNatClampNeg = 52 := by rw [k20]; exact hk.2.2.1
  have s61 : ¬ ν.2.1 20 s.toNatClampNeg = 61 := by rw [k20]; exact hk.2.2.2
  refine PN1.of b1.1 ek hs hb hk.1 (hL e) (VN.no s48 s52 s61) h05 (fun f hf => ?_)
  rw [scp.no s48 s52 s61]
  rcases hl f hf with hw | hw
  · rw [hw]; exact FNm.fr (hc f hf)
  · exact b3 e f hw
theorem fk74 {S : Nat → Prop} {i : Int32} (hG : G μ (h + 1) S 17 i) : μ.2.1 20 i.toNatClampNeg = 74 ∧ (G μ h (fun j => S j ∧ j ≠ i.toNatClampNeg) 2 (μ.2.1 22 i.toNatClampNeg) ∧ μ.2.1 27 (μ.2.1 22 i.toNatClampNeg).toNatClampNeg = -1) ∧ ∃ m, Lst (G μ h (fun j => S j ∧ j ≠ i.toNatClampNeg) 1) (μ.2.1 27) m (μ.2.1 23 i.toNatClampNeg) := by
  obtain ⟨g1, g2, g3, g4⟩ := hG
  have e : μ.2.1 20 i.toNatClampNeg = 74 := by
    have g3 : ([74] : List Int32).contains (μ.2.1 20 i.toNatClampNeg) = true := g3
    simpa using g3
  have g5 := g4 0 (by decide)
  have g6 := g4 1 (by decide)
  rw [e] at g5 g6
  exact ⟨e, g5, g6⟩
/-- parameters, one after the other -/
theorem par_loop {S S2 : Nat → Prop} (hE : ExC X W P d h) (hS2 : ∀ j, S2 j → S j) : ∀ (m : Nat) (x : Int32) (ν : MS), NE n ν → SB n ν S → SeN ν V → NP V S μ ν → Lst (G μ h S2 1) (μ.2.1 27) m x → (∀ ζ : MS, NP V S ν ζ → (ζ.1 17 = 0 → Lst (NV ζ V S h 1) (ζ.2.1 27) m x) → ME X W true d 360 173 [(0, .ref P.1), (1, .int s), (2, .int (-1))] [] P ζ R T) → ME X W true d 360 173 [(0, .ref P.1), (1, .int s), (2, .int x)] [] P ν R T
  | 0, x, ν, hN, hB, hV, hν, hx, ct => by
    have hx : x = -1 := hx
    subst hx
    exact ct ν NP.rf (fun _ => rfl)
  | m + 1, x, ν, hN, hB, hV, hν, hx, ct => by
    rcases hx with hx | ⟨hG, hx⟩
    · subst hx
      exact ct ν NP.rf (fun _ => Or.inl rfl)
    obtain ⟨i1, i2⟩ := hG.in
    have hcx := @ic x
    have := (hB _ (hS2 _ i2)).1
    refine v_nameStatement_173 _ _ ⟨fun h => by omega, fun _ => MC.mono (hE ν _ n V S S2 x hN hB hV hS2 (hG.np hν)) (fun _ κ hκ => ?_) (fun _ h => h)⟩
    obtain ⟨q1, q2⟩ := hκ
    refine ⟨MI.of ((hN.np q1).1.g rfl rfl : _ = 16000) i1 (by omega), ?_⟩
    rw [(hν.tr q1).row (g := 27) rfl]
    refine par_loop hE hS2 m _ κ (hN.np q1) (hB.np q1) (hV.np q1) (hν.tr q1) hx (fun ζ z1 z2 => ct ζ (q1.tr z1) (fun e => Or.inr ⟨(q2 (z1.z e)).np z1 e, ?_⟩))
    have z3 := z2 e
    rw [((hν.tr q1).tr z1).row (g := 27) rfl] at z3 ⊢
    exact z3
/-- a CALL -/
theorem call_146 {C : Nat → Prop} {a b : Int} {v m9 : Nat} {x : Int32} (hE : ∀ h', h' < h → ExC X W P d h') (hP : ∀ h', h' < h → PlC X W P d h') (hC : CXs n N (VS V0 Γ) w ν) (hs : 0 ≤ s.toInt ∧ bt 0 N s.toNatClampNeg) (h0 : 0 ≤ a) (hN : b ≤ N) (hν : SF C μ ν) (hx : μ.2.1 23 s.toNatClampNeg = x) (hF : FK μ h K m9 (1, 17) a b v x) (ct : ∀ ζ : MS, SFw (bt a b) v ν ζ → (ζ.1 17 = 0 → ∀ B L, FNm ζ h (VS V0 Γ) B L (1, 17) a b x) → ME X W true d 360 581 [(0, .ref P.1), (1, .int s)] [] P ζ R T) : ME X W true d 360 146 [(0, .ref P.1), (1, .int s)] [] P ν R T := by
  obtain ⟨hl, ⟨hG, -⟩, hn⟩ := hF
  have hG : G ν h (bt a b) 17 x := G.ag hν.ag (fun _ h => h) (Nat.le_refl _) hG
  have r23 := hν.row (g := 23) rfl
  have r27 := hν.row (g := 27) rfl
  cases h with
  | zero => exact hG.elim
  | succ k =>
  obtain ⟨i1, i2⟩ := hG.in
  obtain ⟨ek, ⟨gp, np⟩, m0, gl⟩ := fk74 hG
  have sub : ∀ j, (bt a b j ∧ j ≠ x.toNatClampNeg) → bt a b j := fun j hj => hj.1
  have hB : SB n ν (bt a b) := hC.2.1.sub (fun j hj => ⟨by have := hj.1; omega, by have := hj.2; omega⟩)
  have xN : bt 0 N x.toNatClampNeg := ⟨by have := i2.1; omega, by have := i2.2; omega⟩
  have exx : ν.2.1 23 s.toNatClampNeg = x := by rw [r23]; exact hx
  refine v_nameStatement_146 _ ⟨hC.mi rfl rfl hs.1 hs.2, ?_, ?_⟩
  · rw [exx]; exact hC.mi rfl rfl i1 xN
  rw [exx]
  refine MC.mono (hP k (Nat.lt_succ_self k) ν _ n (VS V0 Γ) (bt a b) _ _ hC.1 hB hC.2.2.1 sub gp) (fun _ κ hκ => ?_) (fun _ h => h)
  obtain ⟨q1, q2⟩ := hκ
  have ck : CXs n N (VS V0 Γ) w κ := CXs.sf (w := 0) (by rw [Nat.zero_add]; exact hC) q1.sw
  refine ⟨ck.mi rfl rfl hs.1 hs.2, ?_, ?_⟩
  · rw [q1.row (g := 23) rfl, exx]; exact ck.mi rfl rfl i1 xN
  rw [q1.row (g := 23) rfl, exx]
  refine par_loop (μ := ν) (hE k (Nat.lt_succ_self k)) sub m0 _ κ (hC.1.np q1) (hB.np q1) (hC.2.2.1.np q1) q1 gl (fun ζ z1 z2 => v_nameStatement_173 _ _ ⟨fun _ => ct ζ ((q1.tr z1).sw.sub (fun _ h => h) (Nat.zero_le _)) (fun e B L => FNm.e hl (by decide) ?_ ?_), fun h => absurd h (by decide)⟩)
  · have hz := q1.tr z1
    have k20 : ζ.2.1 20 x.toNatClampNeg = 74 := by rw [hz.row (g := 20) rfl]; exact ek
    refine NV.mk (kd := 74) i1 i2 k20 (by decide) (LN.no (by rw [k20]; decide)) (by decide) (fun f hf => ?_)
    have h5 : f = 0 ∨ f = 1 ∨ f = 2 ∨ f = 3 ∨ f = 4 := by omega
    rcases h5 with rfl | rfl | rfl | rfl | rfl
    · rw [show ζ.2.1 (22 + 0) = ν.2.1 22 from hz.row (g := 22) rfl]
      exact And.intro ((q2 (z1.z e)).np z1 e) (by rw [hz.row (g := 27) rfl]; exact np)
    · rw [show ζ.2.1 (22 + 1) = ν.2.1 23 from hz.row (g := 23) rfl]
      exact ⟨m0, z2 e⟩
    · exact True.intro
    · exact True.intro
    · exact True.intro
  · rw [(q1.tr z1).row (g := 27) rfl, r27]; exact hn
end NMX
