/-! contracts of the reference: filling a node; statements, what is promised of them -/
theorem TR.trS {e r b n t s δ b' n' t' s' δ' b2 n2 t2 s2 δ2 : Int} {μ ν ν1 : MS} (h : TR e b n t s δ μ ν) (k : TR r b' n' t' s' δ' ν ν1) (hr : r < 0 ∨ r = e ∨ (μ.1 19).toInt ≤ r) (e1 : b2 = b + b') (e2 : n2 = n + n') (e3 : t2 = t + t') (e4 : s2 = s + s') (e5 : δ + δ' ≤ δ2) : TR e b2 n2 t2 s2 δ2 μ ν1 := by
  obtain ⟨⟨h1, h2, h3, h4, h5, h6, h7, h8, h9, h10⟩, g⟩ := h
  obtain ⟨⟨k1, k2, k3, k4, k5, k6, k7, k8, k9, k10⟩, l⟩ := k
  refine ⟨⟨h1.tr k1, k2, by omega, by omega, h5.tr (fun g g1 g2 i g3 g4 => k5 g g1 g2 i (by omega) (by omega)), by omega, by omega, by omega, by omega, h10.tr k10 (h1.1 33 rfl) h4⟩, by omega⟩
/-- a list below the node r -/
def KL (ν : MS) (h : Nat) (lo : Int) (r : Int32) (s : Nat) (x : Int32) : Prop := ∃ m, Lst (Kg ν h lo r s) (ν.2.1 27) m x
section KLS
variable {r b n t s δ lo hi : Int} {ν ν1 : MS} {h k : Nat} {i x : Int32}
theorem KL.of (hL : ∃ m, Lst (G ν h (bt lo hi) k) (ν.2.1 27) m x) {lo' : Int} (h1 : lo' ≤ lo) (h2 : hi ≤ (ν.1 19).toInt) (hr : 0 ≤ i.toInt) (ht : i.toInt < lo ∨ hi ≤ i.toInt) : KL ν h lo' i k x := by
  obtain ⟨m, hm⟩ := hL
  exact ⟨m, hm.mono (fun y hy => Kg.of hy h1 h2 hr ht) (fun _ _ => rfl)⟩
theorem KL.nil : KL ν h lo i k (-1) := ⟨0, rfl⟩
theorem KL.tr (hL : KL ν h lo i k x) (q : TR r b n t s δ ν ν1) (hr : r < 0 ∨ r = i.toInt) (hi0 : 0 ≤ i.toInt) : KL ν1 h lo i k x := by
  obtain ⟨m, hm⟩ := hL
  refine ⟨m, hm.mono (fun y hy => Kg.tr hy q hr hi0) (fun y hy => ?_)⟩
  obtain ⟨-, k2, k3⟩ := hy.in
  exact q.rb 27 (by omega) (by omega) _ k2.2 (by have := @ic i; omega)
theorem KL.up {h' : Nat} (hL : KL ν h lo i k x) (hh : h ≤ h') : KL ν h' lo i k x := by
  obtain ⟨m, hm⟩ := hL
  exact ⟨m, hm.mono (fun y hy => Kg.up hy hh) (fun _ _ => rfl)⟩
end KLS
section FKS
variable {ν ν1 : MS} {h h' K n n' s : Nat} {lo hi r b m' t s' δ : Int} {w v : Nat} {x y i : Int32} {a : Nat × Nat}
theorem FK.tr (hF : FK ν h K n a lo hi w x) (q : TR r b m' t s' δ ν ν1) (h1 : hi ≤ (ν.1 19).toInt) (h2 : r < lo ∨ hi ≤ r) : FK ν1 h K n a lo hi w x := FK.cg (Nat.le_refl _) (Nat.le_refl _) (q.rb.ag h1 h2) hF
theorem FK.up (hh : h ≤ h') (hF : FK ν h K n a lo hi w x) : FK ν h' K n a lo hi w x := FK.cg hh (Nat.le_refl _) (fun _ _ _ _ _ _ => Or.inr rfl) hF
theorem FK.sg {lo' hi' : Int} {m : Nat} (hl : lo ≤ hi) (hG : G ν h (bt lo hi) 8 x) (hn : ν.2.1 27 x.toNatClampNeg = -1) (h1 : lo ≤ lo') (h2 : hi' ≤ hi) (hm : m ≤ w) (hL : Lst (fun q => 0 ≤ q.toInt ∧ bt lo' hi' q.toNatClampNeg ∧ (ν.2.1 27 q.toNatClampNeg = -1 ∨ q.toInt < (ν.2.1 27 q.toNatClampNeg).toInt)) (ν.2.1 27) m (ν.2.1 22 x.toNatClampNeg)) : FK ν h K n (1, 8) lo hi w x := ⟨hl, ⟨hG, fun e => absurd e (by decide), fun _ => ⟨m, hm, hL.mono (fun q hq => ⟨hq.1, ⟨by have := hq.2.1.1; omega, by have := hq.2.1.2; omega⟩, hq.2.2⟩) (fun _ _ => rfl)⟩⟩, hn⟩
theorem FK.at {lo' hi' : Int} (e1 : lo' = lo) (e2 : hi' = hi) (hF : FK ν h K n a lo hi w x) : FK ν h K n a lo' hi' w x := by rw [e1, e2]; exact hF
theorem FK.b3 (hF : FK ν h K n (3, 3) lo hi w x) : FK ν h K n' (3, 3) lo hi w x := FK.st hF.1 (hF.2.1 rfl)
theorem FK.nm0 {k : Nat} (hw : ν.2.1 20 k = 10) (hF : FK ν h K n (1, 6) lo hi w x) : FK (mA1 ν 22 k y) h K n (1, 6) lo hi w x := by
  obtain ⟨h1, ⟨h2, h3, h4⟩, h5⟩ := hF
  exact ⟨h1, ⟨G.free (f := 0) (by decide) (by rw [hw]; decide) h2, h3, fun e => absurd e (by decide)⟩, by rw [row_off rfl]; exact h5⟩
theorem PK.up (hh : h ≤ h') (hn : n ≤ n') (hP : PK ν h K n s lo hi w i) : PK ν h' K n' s lo hi w i := hP.ag hh hn (fun _ _ _ _ _ _ => Or.inr rfl)
theorem PK.tr (hP : PK ν h K n s lo hi w i) (q : TR r b m' t s' δ ν ν1) (h1 : hi ≤ (ν.1 19).toInt) (h2 : r < lo ∨ hi ≤ r) : PK ν1 h K n s lo hi w i := hP.ag (Nat.le_refl _) (Nat.le_refl _) (q.rb.ag h1 h2)
theorem PK.srt {s1 : Nat} (hk : sK s1 (ν.2.1 20 i.toNatClampNeg) = true) (hP : PK ν h K n s lo hi w i) : PK ν h K n s1 lo hi w i := ⟨hP.1, hk, hP.2.2⟩
theorem LK.up (hh : h ≤ h') (hn : n ≤ n') (hP : LK ν h K n s lo hi w x) : LK ν h' K n' s lo hi w x := LK.cg hh hn (fun _ _ _ _ _ _ => Or.inr rfl) hP
theorem OW.tr {u : Nat} {f z : Int32} (hO : OW ν h K n s lo u f z) (q : TR r b m' t s' δ ν ν1) (he : r < lo ∨ (ν.1 19).toInt ≤ r) : OW ν1 h K n s lo u f z := hO.rb q.rb q.l19 he
theorem OW.bt {u : Nat} {f z : Int32} (hO : OW ν h (K - 1) 1 3 lo u f z) (hf : f = -1 ∨ 1 ≤ K) : BT ν h K lo (ν.1 19).toInt u f := by
  cases K with
  | zero =>
    rcases hf with hf | hf
    · exact ⟨hf, hO.le⟩
    · omega
  | succ K => exact hO.done
end FKS
/-- a list and what its spans and weights are, by the nesting that is left -/
def BdS (s h : Nat) (μ : MS) (r : Int32) (μ1 : MS) : Prop := ∀ K : Nat, (K : Int) + (μ.1 40).toInt = 20 → ∃ w : Nat, 2 * (w : Int) + (μ.1 32).toInt ≤ (μ1.1 32).toInt ∧ FK μ1 h K 1 (3, s) (μ.1 19).toInt (μ1.1 19).toInt w r
/-- a statement, the same -/
def BdN (h : Nat) (lo : Int) (μ : MS) (r : Int32) (μ1 : MS) : Prop := ∀ K : Nat, (K : Int) + (μ.1 40).toInt = 20 → ∃ w : Nat, 2 * (w : Int) + (μ.1 32).toInt ≤ (μ1.1 32).toInt ∧ PK μ1 h K 1 3 lo (μ1.1 19).toInt w r
/-- a list under way, its weight paid for in tokens -/
def OWs (t0 l0 : Int) (ν : MS) (h K n s : Nat) (f b : Int32) : Prop := ∃ u : Nat, 2 * (u : Int) + t0 ≤ (ν.1 32).toInt ∧ OW ν h K n s l0 u f b
section OWT
variable {μ ν ν1 : MS} {h h' K n s : Nat} {lo r b m' t s' δ t0 l0 : Int} {v : Nat} {x y f : Int32}
theorem OWs.nil (h1 : t0 ≤ (ν.1 32).toInt) (h2 : l0 ≤ (ν.1 19).toInt) : OWs t0 l0 ν h K n s (-1) (-1) := ⟨0, by omega, OW.nil h2⟩
theorem OWs.tr (hO : OWs t0 l0 ν h K n s f y) (q : TR r b m' t s' δ ν ν1) (he : r < l0 ∨ (ν.1 19).toInt ≤ r) : OWs t0 l0 ν1 h K n s f y := by
  obtain ⟨u, u1, u2⟩ := hO
  have := q.l32
  exact ⟨u, by omega, u2.tr q he⟩
theorem OWs.add (hO : OWs t0 l0 ν h K n s f y) (hy : 0 ≤ y.toInt) (q : TR (-1) b m' t s' δ ν ν1) (h0 : 0 ≤ l0) (hv : 2 * (v : Int) + (ν.1 32).toInt ≤ (ν1.1 32).toInt) (hP : PK ν1 h K n s (ν.1 19).toInt (ν1.1 19).toInt v x) (hl : ν1.2.1 27 x.toNatClampNeg = -1) : OWs t0 l0 (mA1 ν1 27 y.toNatClampNeg x) h K n s f x := by
  obtain ⟨u, u1, u2⟩ := hO
  exact ⟨u + v, by show _ ≤ (ν1.1 32).toInt; omega, u2.add hy q.rb h0 hP hl⟩
theorem OWs.one (hP : PK ν1 h K n s lo (ν1.1 19).toInt v x) (h1 : l0 ≤ lo) (hv : 2 * (v : Int) + t0 ≤ (ν1.1 32).toInt) (hl : ν1.2.1 27 x.toNatClampNeg = -1) : OWs t0 l0 ν1 h K n s x x := ⟨v, hv, OW.one (PK.wd (Int.le_refl _) h1 (Nat.le_refl _) hP) hl⟩
theorem OWs.bd (hO : OWs (μ.1 32).toInt (μ.1 19).toInt ν h K 0 s f y) (hs : ¬ s = 3) (hh : h ≤ h') (hK : (K : Int) + (μ.1 40).toInt = 20) : BdS s h' μ f ν := fun K9 hK9 => by
  obtain rfl : K9 = K := by omega
  obtain ⟨u, u1, u2⟩ := hO
  exact ⟨u, u1, FK.ls u2.le hs (u2.done.up hh (Nat.le_refl _))⟩
theorem OWs.b3 (hO : OWs (μ.1 32).toInt (μ.1 19).toInt ν h (K - 1) 1 3 f y) (hf : f = -1 ∨ 1 ≤ K) (hK : (K : Int) + (μ.1 40).toInt = 20) : BdS 3 h μ f ν := fun K9 hK9 => by
  obtain rfl : K9 = K := by omega
  obtain ⟨u, u1, u2⟩ := hO
  exact ⟨u, u1, FK.st u2.le (u2.bt hf)⟩
end OWT
def SC (X : ev_X) (W : Nat → Prop) (P : MP) (k : Nat) (s : Nat) (rd rh : Int) (d : Nat) : Prop := ∀ (μ : MS) (T : MS → Prop) (h : Nat), PS μ → psS μ + rd ≤ d → hiS μ + rh ≤ h → (μ.1 19).toInt ≤ 2 * (μ.1 32).toInt + 30 → (∀ μ1, kf SPA RPA μ μ1 → T μ1) → srt μ ∈ bgS → MC X W true d k [.ref P.1] P μ (fun r μ1 => XN 0 s h μ r μ1 ∧ BdN h (μ.1 19).toInt μ r μ1) T
/-- a list of trees -/
def SL (X : ev_X) (W : Nat → Prop) (P : MP) (k : Nat) (as : List Value) (s : Nat) (rd rh : Int) (d : Nat) : Prop := ∀ (μ : MS) (T : MS → Prop) (h : Nat), PS μ → psS μ + rd ≤ d → hiS μ + rh ≤ h → (μ.1 19).toInt ≤ 2 * (μ.1 32).toInt + 30 → (∀ μ1, kf SPA RPA μ μ1 → T μ1) → MC X W true d k (.ref P.1 :: as) P μ (fun r μ1 => TR (-1) 0 0 0 0 0 μ μ1 ∧ (∃ m, Lst (G μ1 h (bt (μ.1 19).toInt (μ1.1 19).toInt) s) (μ1.2.1 27) m r) ∧ LCO μ1 (μ.1 19).toInt (μ1.1 19).toInt r ∧ BdS s h μ r μ1) T
/-- a statement's node is filled -/
def FiC (X : ev_X) (W : Nat → Prop) (P : MP) (k : Nat) (up dn : Int) (d : Nat) : Prop := ∀ (μ : MS) (T : MS → Prop) (h : Nat) (s : Int32), PS μ → psS μ + 21 ≤ d → hiS μ + 13 ≤ h → (μ.1 19).toInt ≤ 2 * (μ.1 32).toInt + 30 + up → (∀ μ1, kf SPA RPA μ μ1 → T μ1) → 0 ≤ s.toInt → s.toInt + 1 = (μ.1 19).toInt → ND μ s.toNatClampNeg 43 (-1) (-1) (-1) (-1) (-1) (-1) →
  MC X W true d k [.ref P.1, .int s] P μ (fun _ μ1 => TR s.toInt 0 0 0 0 (-dn) μ μ1 ∧ G μ1 (h + 1) (bt s.toInt (μ1.1 19).toInt) 3 s ∧ μ1.2.1 27 s.toNatClampNeg = -1 ∧ CO μ1 s.toInt (μ1.1 19).toInt s ∧ BdN h s.toInt μ s μ1) T
/-- ELSE and END of a TRY or TYPECASE -/
def OtC (X : ev_X) (W : Nat → Prop) (P : MP) (d : Nat) : Prop := ∀ (μ : MS) (T : MS → Prop) (h : Nat) (s k a b : Int32), PS μ → psS μ + 20 ≤ d → hiS μ + 11 ≤ h → (μ.1 19).toInt ≤ 2 * (μ.1 32).toInt + 30 → (∀ μ1, kf SPA RPA μ μ1 → T μ1) → 0 ≤ s.toInt → s.toInt < (μ.1 19).toInt → ND μ s.toNatClampNeg k a b (-1) (-1) (-1) (-1) →
  MC X W true d 326 [.ref P.1, .int s] P μ (fun _ μ1 => TR s.toInt 0 0 0 0 0 μ μ1 ∧ ∃ c e, ND μ1 s.toNatClampNeg k a b c e (-1) (-1) ∧ KL μ1 h s.toInt s 3 c ∧ LCO μ1 (μ.1 19).toInt (μ1.1 19).toInt c ∧ BdS 3 h μ c μ1) T
theorem Kg.free0 {ν : MS} {h k t : Nat} {lo : Int} {i x y : Int32} (hw : ν.2.1 20 t = 10) (hK : Kg ν h lo i k x) : Kg (mA1 ν 22 t y) h lo i k x := G.free (f := 0) (by decide) (by rw [hw]; decide) hK
theorem Kd.free0 {ν : MS} {h k t : Nat} {lo : Int} {i x y : Int32} (hw : ν.2.1 20 t = 10) (hK : Kd ν h lo i k x) : Kd (mA1 ν 22 t y) h lo i k x := ⟨Kg.free0 hw hK.1, by rw [row_off rfl]; exact hK.2⟩
theorem KL.free0 {ν : MS} {h k t : Nat} {lo : Int} {i x y : Int32} (hw : ν.2.1 20 t = 10) (hK : KL ν h lo i k x) : KL (mA1 ν 22 t y) h lo i k x := by
  obtain ⟨m, hm⟩ := hK
  exact ⟨m, hm.mono (fun _ hy => Kg.free0 hw hy) (fun _ _ => rfl)⟩
theorem n10 {ν : MS} {i : Int32} {h : Nat} {lo hi : Int} {a b c d e n : Int32} (h0 : 0 ≤ i.toInt) (h1 : lo ≤ i.toInt) (h2 : i.toInt < hi) (hN : ND ν i.toNatClampNeg 10 a b c d e n) : G ν (h + 1) (bt lo hi) 6 i := G.mk h0 h1 h2 hN (by decide) True.intro True.intro True.intro True.intro True.intro
/-- IF's arms -/
def ArC (X : ev_X) (W : Nat → Prop) (P : MP) (d : Nat) : Prop := ∀ (μ : MS) (T : MS → Prop) (h : Nat), PS μ → psS μ + 21 ≤ d → hiS μ + 13 ≤ h → (μ.1 19).toInt ≤ 2 * (μ.1 32).toInt + 29 → (∀ μ1, kf SPA RPA μ μ1 → T μ1) → MC X W true d 323 [.ref P.1] P μ (fun r μ1 => TR (-1) 0 0 0 0 0 μ μ1 ∧ ¬ r = -1 ∧ (∃ m, Lst (G μ1 h (bt (μ.1 19).toInt (μ1.1 19).toInt) 13) (μ1.2.1 27) m r) ∧ LCO μ1 (μ.1 19).toInt (μ1.1 19).toInt r ∧ BdS 13 h μ r μ1) T
theorem Kg.lo {ν : MS} {h k : Nat} {lo lo' : Int} {i x : Int32} (hK : Kg ν h lo i k x) (hl : lo' ≤ lo) : Kg ν h lo' i k x := G.mono hK (Nat.le_refl _) (fun j hj => ⟨⟨by have := hj.1.1; omega, hj.1.2⟩, hj.2⟩) (fun _ _ _ _ _ => rfl) (fun _ _ _ => rfl)
theorem Kd.lo {ν : MS} {h k : Nat} {lo lo' : Int} {i x : Int32} (hK : Kd ν h lo i k x) (hl : lo' ≤ lo) : Kd ν h lo' i k x := ⟨Kg.lo hK.1 hl, hK.2⟩
theorem KL.lo {ν : MS} {h k : Nat} {lo lo' : Int} {i x : Int32} (hL : KL ν h lo i k x) (hl : lo' ≤ lo) : KL ν h lo' i k x := by
  obtain ⟨m, hm⟩ := hL
  exact ⟨m, hm.mono (fun y hy => Kg.lo hy hl) (fun _ _ => rfl)⟩
theorem srt_off {μ : MS} {g t : Nat} {x : Int32} (h : Nat.beq 9 g = false) : srt (mA1 μ g t x) = srt μ := by
  show (bif Nat.beq 9 g then upd (μ.2.1 g) t x else μ.2.1 9) (μ.1 32).toNatClampNeg = _
  rw [h]; rfl
