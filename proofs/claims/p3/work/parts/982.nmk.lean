/-! contracts of the reference: a PLACE named -/
/-- an expression of a height is named -/
def ExC (X : ev_X) (W : Nat → Prop) (P : MP) (d h : Nat) : Prop := ∀ (μ : MS) (T : MS → Prop) (n : Int) (V : Int32 → Prop) (S S' : Nat → Prop) (e : Int32), NE n μ → SB n μ S → SeN μ V → (∀ j, S' j → S j) → G μ h S' 1 e → MC X W true d 362 [.ref P.1, .int e] P μ (fun _ μ1 => NP V S μ μ1 ∧ (μ1.1 17 = 0 → NV μ1 V S h 1 e)) T
/-- a PLACE of a height is named -/
def PlC (X : ev_X) (W : Nat → Prop) (P : MP) (d h : Nat) : Prop := ∀ (μ : MS) (T : MS → Prop) (n : Int) (V : Int32 → Prop) (S S' : Nat → Prop) (e : Int32), NE n μ → SB n μ S → SeN μ V → (∀ j, S' j → S j) → G μ h S' 2 e → MC X W true d 363 [.ref P.1, .int e] P μ (fun _ μ1 => NP V S μ μ1 ∧ (μ1.1 17 = 0 → NV μ1 V S h 2 e)) T
/-- a PLACE being named -/
def FP (p : Nat) (μ μ1 : MS) : Prop := kf [17, 18] [24, 26, 28] μ μ1 ∧ (¬ μ.1 17 = 0 → ¬ μ1.1 17 = 0) ∧ ∀ j, j ≠ p → μ1.2.1 24 j = μ.2.1 24 j ∧ μ1.2.1 26 j = μ.2.1 26 j ∧ μ1.2.1 28 j = μ.2.1 28 j
theorem im1 {x : Int32} (h : 0 ≤ x.toInt) (h2 : x.toInt < 3200) : (x + (-1)).toInt = x.toInt - 1 := by
  rw [ia (by rw [show (-1 : Int32).toInt = -1 from rfl]; omega) (by rw [show (-1 : Int32).toInt = -1 from rfl]; omega), show (-1 : Int32).toInt = -1 from rfl]
  rfl
theorem im2 {x : Int32} (h : 0 ≤ x.toInt) (h2 : x.toInt ≤ 3200) : (x - 1).toInt = x.toInt - 1 := by
  rw [ib (by rw [show (1 : Int32).toInt = 1 from rfl]; omega) (by rw [show (1 : Int32).toInt = 1 from rfl]; omega)]; rfl
section NMP
variable {X : ev_X} {W : Nat → Prop} {d h k : Nat} {P : MP} {μ ν κ : MS} {V : Int32 → Prop} {S S' : Nat → Prop} {n : Int} {p : Nat}
theorem FP.rf : FP p μ μ := ⟨kf.rf, id, fun _ _ => ⟨rfl, rfl, rfl⟩⟩
theorem FP.row (h : FP p μ ν) {g : Nat} (hg : ([24, 26, 28] : List Nat).contains g = false) : ν.2.1 g = μ.2.1 g := h.1.2.1 g hg
theorem FP.put {g : Nat} {x : Int32} (h : FP p μ ν) (hg : ([24, 26, 28] : List Nat).contains g = true) : FP p μ (mA1 ν g p x) := by
  have hk : kf [17, 18] [24, 26, 28] μ (mA1 ν g p x) := h.1.A hg
  refine ⟨hk, h.2.1, fun j hj => ?_⟩
  have off : ∀ g', (mA1 ν g p x).2.1 g' j = ν.2.1 g' j := fun g' => by
    show (bif Nat.beq g' g then upd (ν.2.1 g) p x else ν.2.1 g') j = _
    by_cases e : g' = g
    · subst e; rw [nb_self]; exact upd_off hj
    · rw [nb_ne e]; rfl
  rw [off, off, off]
  exact h.2.2 j hj
theorem FP.bad (h : FP p μ ν) (hN : NF ν κ) (h28 : κ.2.1 28 = ν.2.1 28) : FP p μ κ := ⟨h.1.tr (hN.1.up rfl rfl), fun e => hN.2.1 (h.2.1 e), fun j hj => by
  rw [hN.row (g := 24) rfl, hN.row (g := 26) rfl, h28]
  exact h.2.2 j hj⟩
theorem FP.np (h : FP p μ ν) (hk : μ.2.1 20 p = 70) (hS : S p) (hp : ν.1 17 = 0 → PlN ν V p) : NP V S μ ν := ⟨h.1, h.2.1, fun j => by
  by_cases e : j = p
  · subst e
    exact Or.inr (Or.inr ⟨hk, hS, hp⟩)
  · exact Or.inl (h.2.2 j e)⟩
theorem fk70 {i : Int32} (hG : G μ (h + 1) S 2 i) : μ.2.1 20 i.toNatClampNeg = 70 ∧ ∃ m, Lst (G μ h (fun j => S j ∧ j ≠ i.toNatClampNeg) 16) (μ.2.1 27) m (μ.2.1 23 i.toNatClampNeg) := by
  obtain ⟨g1, g2, g3, g4⟩ := hG
  have e : μ.2.1 20 i.toNatClampNeg = 70 := by
    have g3 : ([70] : List Int32).contains (μ.2.1 20 i.toNatClampNeg) = true := g3
    simpa using g3
  have g5 := g4 1 (by decide)
  rw [e] at g5
  exact ⟨e, g5⟩
/-- what is behind a PLACE: a node of it -/
theorem fk16 {i : Int32} (hG : G μ (h + 1) S 16 i) : (μ.2.1 20 i.toNatClampNeg = 71 ∨ μ.2.1 20 i.toNatClampNeg = 73) ∨ (μ.2.1 20 i.toNatClampNeg = 72 ∧ G μ h (fun j => S j ∧ j ≠ i.toNatClampNeg) 1 (μ.2.1 22 i.toNatClampNeg) ∧ μ.2.1 27 (μ.2.1 22 i.toNatClampNeg).toNatClampNeg = -1) := by
  obtain ⟨g1, g2, g3, g4⟩ := hG
  have e : μ.2.1 20 i.toNatClampNeg = 71 ∨ μ.2.1 20 i.toNatClampNeg = 72 ∨ μ.2.1 20 i.toNatClampNeg = 73 := by
    have g3 : ([71, 72, 73] : List Int32).contains (μ.2.1 20 i.toNatClampNeg) = true := g3
    simpa using g3
  rcases e with e | e | e
  · exact Or.inl (Or.inl e)
  · have g5 := g4 0 (by decide)
    rw [e] at g5
    exact Or.inr ⟨e, g5⟩
  · exact Or.inl (Or.inr e)
theorem NV.mk {ζ : MS} {s : Nat} {i kd : Int32} (h0 : 0 ≤ i.toInt) (hS : S i.toNatClampNeg) (ek : ζ.2.1 20 i.toNatClampNeg = kd) (hs : sK s kd = true) (hL : LN ζ i.toNatClampNeg) (h70 : ¬ kd = 70) (hf : ∀ f, f < 5 → FO (NV ζ V S k) (ζ.2.1 27) (fW kd.toNatClampNeg f) (ζ.2.1 (22 + f) i.toNatClampNeg)) : NV ζ V S (k + 1) s i :=
  ⟨h0, hS, by rw [ek]; exact hs, ⟨hL, fun e => absurd (ek.symm.trans e) h70⟩, by rw [ek]; exact hf⟩
theorem pl_step (hE : ∀ h', h' < h → ExC X W P d h') (hd : 3 ≤ d) : PlC X W P (d + 1) h := fun μ T n V S S' p hN hS hV hS' hG => by
  cases h with
  | zero => exact hG.elim
  | succ k =>
  obtain ⟨hL, hU, hI⟩ := id hN
  obtain ⟨ek, m0, h23⟩ := fk70 hG
  have hG0 := hG.in
  have sp := hS' _ hG0.2
  obtain ⟨b1, b2, b3⟩ := hS _ sp
  have hcp := @ic p
  have p16 : p.toInt < 16000 := by omega
  have mi : ∀ {g : Nat} {i : Int32} {κ : MS}, kf [17, 18] [24, 26, 28] μ κ → rk g = true → rlen g = 16000 → 0 ≤ i.toInt → i.toInt < 16000 → MI i (κ.2.2 g) := fun hκ hg hr a0 a1 => MI.of ((hL.to hκ).g hg hr) a0 a1
  have ms : ∀ {g : Nat} {i : Int32} {κ : MS}, kf [17, 18] [24, 26, 28] μ κ → rk g = true → rlen g = 3200 → 0 ≤ i.toInt → i.toInt < 3200 → MI i (κ.2.2 g) := fun hκ hg hr a0 a1 => MI.of ((hL.to hκ).g hg hr) a0 a1
  have sub : ∀ j, (S' j ∧ j ≠ p.toNatClampNeg) → S j := fun j hj => hS' j hj.1
  -- INDEXes named, one after the other
  have lp : ∀ (m : Nat) (x : Int32) (ν : MS), NP V S μ ν → Lst (G μ k (fun j => S' j ∧ j ≠ p.toNatClampNeg) 16) (μ.2.1 27) m x → (∀ ζ : MS, NP V S ν ζ → (ζ.1 17 = 0 → Lst (NV ζ V S k 16) (ζ.2.1 27) m x) → ME X W true d 363 7 [(0, .ref P.1), (1, .int p), (2, .int (-1))] [] P ζ (fun _ μ1 => NP V S μ μ1 ∧ (μ1.1 17 = 0 → NV μ1 V S (k + 1) 2 p)) T) → ME X W true d 363 7 [(0, .ref P.1), (1, .int p), (2, .int x)] [] P ν (fun _ μ1 => NP V S μ μ1 ∧ (μ1.1 17 = 0 → NV μ1 V S (k + 1) 2 p)) T := by
    intro m
    induction m with
    | zero =>
      intro x ν hν hx ct
      have hx : x = -1 := hx
      subst hx
      exact ct ν NP.rf (fun _ => rfl)
    | succ m ih =>
      intro x ν hν hx ct
      rcases hx with hx | ⟨hx1, hx⟩
      · subst hx
        exact ct ν NP.rf (fun _ => Or.inl rfl)
      have hi := hx1.in
      have six := sub _ hi.2
      have hcx := @ic x
      have x16 := (hS _ six).1
      have e27 := hν.row (g := 27) rfl
      have e20 := hν.row (g := 20) rfl
      have e22 := hν.row (g := 22) rfl
      cases k with
      | zero => exact hx1.elim
      | succ j =>
      -- on to the next one
      have next : ∀ κ : MS, NP V S ν κ → (∀ ζ : MS, NP V S κ ζ → ζ.1 17 = 0 → NV ζ V S (j + 1) 16 x) → ME X W true d 363 32 [(0, .ref P.1), (1, .int p), (2, .int x)] [] P κ (fun _ μ1 => NP V S μ μ1 ∧ (μ1.1 17 = 0 → NV μ1 V S (j + 1 + 1) 2 p)) T := fun κ hκ hx2 => by
        refine v_namePlace_32 _ _ ⟨mi (hν.tr hκ).1 rfl rfl hi.1 (by omega), ?_⟩
        rw [(hν.tr hκ).row (g := 27) rfl]
        refine ih _ κ (hν.tr hκ) hx (fun ζ hζ hz => ct ζ (hκ.tr hζ) (fun e => Or.inr ⟨hx2 ζ hζ e, ?_⟩))
        rw [((hν.tr hκ).tr hζ).row (g := 27) rfl]
        have := hz e
        rw [((hν.tr hκ).tr hζ).row (g := 27) rfl] at this
        exact this
      have plain : ∀ ζ : MS, NP V S μ ζ → (μ.2.1 20 x.toNatClampNeg = 71 ∨ μ.2.1 20 x.toNatClampNeg = 73) → NV ζ V S (j + 1) 16 x := fun ζ hζ hk => by
        have z20 := hζ.row (g := 20) rfl
        rcases hk with hk | hk
        · exact NV.mk (kd := 71) hi.1 six (by rw [z20]; exact hk) (by decide) (LN.no (by rw [z20, hk]; decide)) (by decide) (fun f hf => by
            have sh : ∀ f, f < 5 → fW (Int32.toNatClampNeg 71) f = (0, 0) := by decide
            rw [sh f hf]; exact True.intro)
        · exact NV.mk (kd := 73) hi.1 six (by rw [z20]; exact hk) (by decide) (LN.no (by rw [z20, hk]; decide)) (by decide) (fun f hf => by
            have sh : ∀ f, f < 5 → fW (Int32.toNatClampNeg 73) f = (0, 0) := by decide
            rw [sh f hf]; exact True.intro)
      refine v_namePlace_7 _ _ ⟨fun h => by omega, fun _ => ⟨mi hν.1 rfl rfl hi.1 (by omega), fun h72 => ?_, fun h72 => ⟨mi hν.1 rfl rfl hi.1 (by omega), ?_⟩⟩⟩
      · rw [e20] at h72
        refine next ν NP.rf (fun ζ hζ _ => plain ζ (hν.tr hζ) ?_)
        rcases fk16 hx1 with c | c
        · exact c
        · exact absurd c.1 h72
      · rw [e20] at h72
        rcases fk16 hx1 with c | ⟨-, c1, c2⟩
        · rw [h72] at c
          rcases c with c | c <;> exact absurd c (by decide)
        rw [e22]
        refine MC.mono (hE j (by omega) ν _ n V S _ _ (hN.np hν) (hS.np hν) (hV.np hν) (fun i hi => sub i hi.1) (c1.np hν)) (fun _ κ hκ => ?_) (fun _ h => h)
        obtain ⟨k1, k2⟩ := hκ
        refine next κ k1 (fun ζ hζ e => ?_)
        have hz := (hν.tr k1).tr hζ
        have z20 := hz.row (g := 20) rfl
        refine NV.mk (kd := 72) hi.1 six (by rw [z20]; exact h72) (by decide) (LN.no (by rw [z20, h72]; decide)) (by decide) (fun f hf => ?_)
        have h5 : f = 0 ∨ f = 1 ∨ f = 2 ∨ f = 3 ∨ f = 4 := by omega
        rcases h5 with rfl | rfl | rfl | rfl | rfl
        · rw [show ζ.2.1 (22 + 0) = μ.2.1 22 from hz.row (g := 22) rfl]
          exact And.intro ((k2 (hζ.z e)).np hζ e) (by rw [hz.row (g := 27) rfl]; exact c2)
        · exact True.intro
        · exact True.intro
        · exact True.intro
        · exact True.intro
  refine me_meth (by omega) rfl (v_namePlace_0 _ ⟨mi kf.rf rfl rfl hG0.1 p16, lp m0 _ μ NP.rf h23 (fun ζ hζ hz => ?_)⟩)
  have e23 := hζ.row (g := 23) rfl
  have zk : ζ.2.1 20 p.toNatClampNeg = 70 := by rw [hζ.row (g := 20) rfl]; exact ek
  -- the end
  have fin : ∀ κ : MS, FP p.toNatClampNeg ζ κ → (κ.1 17 = 0 → PlN κ V p.toNatClampNeg) → NP V S μ κ ∧ (κ.1 17 = 0 → NV κ V S (k + 1) 2 p) := fun κ hκ hp => by
    have q := hκ.np (V := V) zk sp hp
    refine ⟨hζ.tr q, fun e => ⟨hG0.1, sp, ?_, ⟨LN.no ?_, fun _ => hp e⟩, fun f hf => ?_⟩⟩
    · rw [q.row (g := 20) rfl, zk]; decide
    · rw [q.row (g := 20) rfl, zk]; decide
    · rw [q.row (g := 20) rfl, zk]
      have h5 : f = 0 ∨ f = 1 ∨ f = 2 ∨ f = 3 ∨ f = 4 := by omega
      rcases h5 with rfl | rfl | rfl | rfl | rfl
      · exact True.intro
      · rw [show κ.2.1 (22 + 1) = μ.2.1 23 from (hζ.tr q).row (g := 23) rfl]
        refine ⟨m0, (hz (q.z e)).mono (fun y hy => hy.np q e) (fun y _ => by rw [q.row (g := 27) rfl])⟩
      · exact True.intro
      · exact True.intro
      · exact True.intro
  have bad : ∀ {l kk : Int32} {κ : MS}, FP p.toNatClampNeg ζ κ → ¬ kk = 0 → MC X W true d 290 [.ref P.1, .int kk, .int l] P κ (fun _ μ1 => NP V S μ μ1 ∧ (μ1.1 17 = 0 → NV μ1 V S (k + 1) 2 p)) (fun _ => False) := fun {l kk κ} hκ hk => MC.mono (c_ruleF (by omega) hk) (fun _ μ1 h => fin μ1 (hκ.bad h.1 h.2.1) (fun e => absurd e h.2.2)) (fun _ h => h)
  have kz : ∀ {κ : MS}, FP p.toNatClampNeg ζ κ → kf [17, 18] [24, 26, 28] μ κ := fun hκ => hζ.1.tr hκ.1
  -- a symbol was found, or none
  have s212 : ∀ (κ : MS) (r : Int32), FP p.toNatClampNeg ζ κ → κ.2.1 24 p.toNatClampNeg = 0 → (κ.2.1 26 p.toNatClampNeg = κ.2.1 23 p.toNatClampNeg ∨ (0 ≤ (κ.2.1 23 p.toNatClampNeg).toInt ∧ κ.2.1 20 (κ.2.1 23 p.toNatClampNeg).toNatClampNeg = 71 ∧ κ.2.1 26 p.toNatClampNeg = κ.2.1 27 (κ.2.1 23 p.toNatClampNeg).toNatClampNeg)) → (r = -1 ∨ (0 ≤ r.toInt ∧ r.toInt < (κ.1 43).toInt)) → ME X W true d 363 212 [(0, .ref P.1), (1, .int p), (2, .int r)] [] P κ (fun _ μ1 => NP V S μ μ1 ∧ (μ1.1 17 = 0 → NV μ1 V S (k + 1) 2 p)) T := fun κ r hκ h24 h26 hr => by
    have k43 : κ.1 43 = μ.1 43 := (kz hκ).1 43 rfl
    have u43 := hU.1
    have hcr := @ic r
    have eq43 := eq_i k43
    refine v_namePlace_212 _ _ ⟨fun h0 => ?_, fun _ => ⟨mi (kz hκ) rfl rfl hG0.1 p16, MC.mono (bad hκ (by decide)) (fun _ _ h => v_namePlace_302 _ _ h) (fun _ h => h)⟩⟩
    have hr : 0 ≤ r.toInt ∧ r.toInt < (κ.1 43).toInt := by
      rcases hr with hr | hr
      · rw [hr] at h0; exact absurd h0 (by decide)
      · exact hr
    refine ⟨ms (kz hκ) rfl rfl hr.1 (by omega), fun _ => ⟨ms (kz hκ) rfl rfl hr.1 (by omega), fun _ => ⟨mi (kz hκ) rfl rfl hG0.1 p16, MC.mono (bad hκ (by decide)) (fun _ _ h => v_namePlace_302 _ _ h) (fun _ h => h)⟩, fun h9 => ⟨mi (kz hκ) rfl rfl hG0.1 p16, ms (kz hκ) rfl rfl hr.1 (by omega), mi (kz hκ) rfl rfl hG0.1 p16, v_namePlace_302 _ _ (fin _ ((hκ.put rfl).put rfl) (fun _ => ⟨?_, Or.inr ⟨?_, r.toNatClampNeg, ?_, ?_, ?_⟩⟩))⟩⟩, fun h7 => ⟨ms (kz hκ) rfl rfl hr.1 (by omega), mi (kz hκ) rfl rfl hG0.1 p16, v_namePlace_302 _ _ (fin _ (hκ.put rfl) (fun _ => ⟨?_, Or.inl ⟨?_, Or.inr ⟨r.toNatClampNeg, ?_, ?_, ?_⟩⟩⟩))⟩⟩
    · exact h26
    · exact upd_at
    · show (r.toNatClampNeg : Int) < (κ.1 43).toInt; omega
    · exact h9
    · exact upd_at.symm
    · exact h26
    · exact h24
    · show (r.toNatClampNeg : Int) < (κ.1 43).toInt; omega
    · exact h7
    · exact upd_at.symm
  -- the head's state
  have hκ0 : FP p.toNatClampNeg ζ (mA1 (mA1 ζ 26 p.toNatClampNeg (ζ.2.1 23 p.toNatClampNeg)) 24 p.toNatClampNeg 0) := (FP.rf.put rfl).put rfl
  refine v_namePlace_7 _ _ ⟨fun _ => ⟨mi hζ.1 rfl rfl hG0.1 p16, mi hζ.1 rfl rfl hG0.1 p16, mi hζ.1 rfl rfl hG0.1 p16, ?_⟩, fun h => absurd h (by decide)⟩
  have z24 : (mA1 (mA1 ζ 26 p.toNatClampNeg (ζ.2.1 23 p.toNatClampNeg)) 24 p.toNatClampNeg 0).2.1 24 p.toNatClampNeg = 0 := upd_at
  have z26 : (mA1 (mA1 ζ 26 p.toNatClampNeg (ζ.2.1 23 p.toNatClampNeg)) 24 p.toNatClampNeg 0).2.1 26 p.toNatClampNeg = (mA1 (mA1 ζ 26 p.toNatClampNeg (ζ.2.1 23 p.toNatClampNeg)) 24 p.toNatClampNeg 0).2.1 23 p.toNatClampNeg := (upd_at : upd (ζ.2.1 26) p.toNatClampNeg (ζ.2.1 23 p.toNatClampNeg) p.toNatClampNeg = ζ.2.1 23 p.toNatClampNeg)
  have s62 : ζ.1 62 = (mA1 (mA1 ζ 26 p.toNatClampNeg (ζ.2.1 23 p.toNatClampNeg)) 24 p.toNatClampNeg 0).1 62 := rfl
  rw [s62]
  generalize mA1 (mA1 ζ 26 p.toNatClampNeg (ζ.2.1 23 p.toNatClampNeg)) 24 p.toNatClampNeg 0 = κ at hκ0 z24 z26 ⊢
  have hkk := kz hκ0
  have k62 : κ.1 62 = μ.1 62 := hkk.1 62 rfl
  have k62i := eq_i k62
  have hV62 := hV.1
  have k29 : κ.2.1 29 = μ.2.1 29 := hkk.2.1 29 rfl
  have k64 : κ.2.1 64 = μ.2.1 64 := hkk.2.1 64 rfl
  have k23 : κ.2.1 23 = μ.2.1 23 := hkk.2.1 23 rfl
  have k20 : κ.2.1 20 = μ.2.1 20 := hkk.2.1 20 rfl
  have hNκ : NE n κ := by
    have r43 : κ.1 43 = μ.1 43 := hkk.1 43 rfl
    refine ⟨hL.to hkk, ?_, fun s h1 h2 => ?_⟩
    · unfold US
      rw [r43, hkk.2.1 48 rfl, hkk.2.1 49 rfl, hkk.2.1 50 rfl]
      exact hU
    · rw [r43] at h1
      rw [hkk.2.1 45 rfl] at h2
      rw [hkk.2.1 47 rfl]
      obtain ⟨i1, i2⟩ := hI s h1 h2
      exact ⟨i1, fun e => hκ0.2.1 (hζ.2.1 (i2 e))⟩
  have key : ∀ (m : Nat) (x : Int32), x.toInt + 1 = m → x.toInt < (κ.1 62).toInt → ME X W true d 363 68 [(0, .ref P.1), (1, .int p), (2, .int x)] [] P κ (fun _ μ1 => NP V S μ μ1 ∧ (μ1.1 17 = 0 → NV μ1 V S (k + 1) 2 p)) T := by
    intro m
    induction m with
    | zero =>
      intro x hx hx2
      refine v_namePlace_68 _ _ ⟨fun _ => ⟨mi hkk rfl rfl hG0.1 p16, mi hkk rfl rfl hG0.1 p16, MC.mono (c_find (by omega) hNκ.1 hNκ.2.1 (by rw [k29]; exact b2) (by rw [k29]; exact b3)) (fun r κ1 h => ?_) (fun _ h => h)⟩, fun h => by omega⟩
      obtain ⟨rfl, hv, hr⟩ := h
      have u43 := hNκ.2.1.1
      refine ⟨fun _ => s212 _ _ hκ0 z24 (Or.inl z26) hr, fun h0 => ?_⟩
      have hr : 0 ≤ r.toInt ∧ r.toInt < (κ1.1 43).toInt := by
        rcases hr with hr | hr
        · rw [hr] at h0; exact absurd h0 (by decide)
        · exact hr
      have hcr := @ic r
      refine ⟨ms hkk rfl rfl hr.1 (by omega), fun _ => s212 _ _ hκ0 z24 (Or.inl z26) (Or.inr hr), fun h2 => ⟨mi hkk rfl rfl hG0.1 p16, fun _ => v_namePlace_159 _ _ _ ⟨mi hkk rfl rfl hG0.1 p16, bad hκ0 (by decide)⟩, fun hx0 => ?_⟩⟩
      -- a part of an IMPORT
      have hx16 : (κ1.2.1 23 p.toNatClampNeg).toInt < 16000 := by
        rw [k23] at hx0 ⊢
        cases m0 with
        | zero =>
          have h23 : μ.2.1 23 p.toNatClampNeg = -1 := h23
          rw [h23] at hx0; exact absurd hx0 (by decide)
        | succ m0 =>
          rcases h23 with h23 | ⟨h23, -⟩
          · rw [h23] at hx0; exact absurd hx0 (by decide)
          · have := (hS _ (sub _ h23.in.2)).1
            have hc := @ic (μ.2.1 23 p.toNatClampNeg)
            omega
      refine ⟨mi hkk rfl rfl hx0 hx16, fun h71 => ⟨ms hkk rfl rfl hr.1 (by omega), fun hw => ⟨mi hkk rfl rfl hx0 hx16, mi hkk rfl rfl hG0.1 p16, ms hkk rfl rfl hr.1 (by omega), mi hkk rfl rfl hx0 hx16, ?_⟩, fun hw => ?_⟩, fun _ => v_namePlace_159 _ _ _ ⟨mi hkk rfl rfl hG0.1 p16, bad hκ0 (by decide)⟩⟩
      · obtain ⟨i1, i2⟩ := hNκ.2.2 r.toNatClampNeg (by omega) h2
        have hcw := @ic (κ1.2.1 47 r.toNatClampNeg)
        obtain ⟨w1, w2, w3⟩ := hNκ.2.1.2.2 (κ1.2.1 47 r.toNatClampNeg).toNatClampNeg (by omega)
        have n13 := hNκ.2.1.2.1
        refine MC.mono (c_findIn (μ := mA1 κ1 26 p.toNatClampNeg (κ1.2.1 27 (κ1.2.1 23 p.toNatClampNeg).toNatClampNeg)) (by omega) (hL.to (kz (hκ0.put rfl))) hw (by omega) w1 (by show (κ1.2.1 49 _).toInt ≤ 3200; omega)) (fun r3 κ3 h3 => ?_) (fun _ h => h)
        obtain ⟨e3, hv3, h3⟩ := h3
        rw [e3]
        refine s212 _ _ (hκ0.put rfl) z24 (Or.inr ⟨hx0, h71, upd_at⟩) ?_
        rcases h3 with h3 | ⟨q1, q2, q3, -⟩
        · exact Or.inl h3
        · refine Or.inr ⟨q1, ?_⟩
          have q3 : r3.toInt < (κ1.2.1 49 (κ1.2.1 47 r.toNatClampNeg).toNatClampNeg).toInt := q3
          show r3.toInt < (κ1.1 43).toInt
          omega
      · obtain ⟨i1, i2⟩ := hNκ.2.2 r.toNatClampNeg (by omega) h2
        exact fin _ hκ0 (fun e => absurd e (i2 hw))
    | succ m ih =>
      intro x hx hx2
      have hcx := @ic x
      have nx : ∀ y : Int32, y.toInt = x.toInt - 1 → ME X W true d 363 68 [(0, .ref P.1), (1, .int p), (2, .int y)] [] P κ (fun _ μ1 => NP V S μ μ1 ∧ (μ1.1 17 = 0 → NV μ1 V S (k + 1) 2 p)) T := fun y hy => ih y (by omega) (by omega)
      have h32 : x.toInt < 3200 := by omega
      have h64 : V (κ.2.1 64 x.toNatClampNeg) := by
        rw [k64]
        exact hV.2 _ (by omega)
      have hx0 : ¬ x.toInt < 0 := by omega
      refine v_namePlace_68 _ _ ⟨fun h => absurd h hx0, fun h0 => ⟨ms hkk rfl rfl h0 h32, mi hkk rfl rfl hG0.1 p16, fun _ => nx _ (im1 h0 h32), fun _ => ⟨ms hkk rfl rfl h0 h32, mi hkk rfl rfl hG0.1 p16, fin _ (hκ0.put rfl) (fun _ => ⟨Or.inl z26, Or.inl ⟨z24, Or.inl ?_⟩⟩)⟩⟩⟩
      show V (upd (κ.2.1 28) p.toNatClampNeg (κ.2.1 64 x.toNatClampNeg) p.toNatClampNeg)
      rw [upd_at]
      exact h64
  have st : ∀ y : Int32, y.toInt = (κ.1 62).toInt - 1 → ME X W true d 363 68 [(0, .ref P.1), (1, .int p), (2, .int y)] [] P κ (fun _ μ1 => NP V S μ μ1 ∧ (μ1.1 17 = 0 → NV μ1 V S (k + 1) 2 p)) T := fun y hy => key ((κ.1 62).toInt.toNat) y (by omega) (by omega)
  have u1 : 0 ≤ (κ.1 62).toInt := by omega
  have u2 : (κ.1 62).toInt ≤ 3200 := by omega
  exact st _ (im2 u1 u2)
end NMP
