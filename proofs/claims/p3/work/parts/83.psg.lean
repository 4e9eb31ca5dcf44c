/-! contracts of the reference: filling a node; statements, what is promised of them -/
theorem TR.trS {e r b n t s δ b' n' t' s' δ' b2 n2 t2 s2 δ2 : Int} {μ ν ν1 : MS} (h : TR e b n t s δ μ ν) (k : TR r b' n' t' s' δ' ν ν1) (hr : r < 0 ∨ r = e ∨ (μ.1 19).toInt ≤ r) (e1 : b2 = b + b') (e2 : n2 = n + n') (e3 : t2 = t + t') (e4 : s2 = s + s') (e5 : δ + δ' ≤ δ2) : TR e b2 n2 t2 s2 δ2 μ ν1 := by
  obtain ⟨⟨h1, h2, h3, h4, h5, h6, h7, h8, h9, h10⟩, g⟩ := h
  obtain ⟨⟨k1, k2, k3, k4, k5, k6, k7, k8, k9, k10⟩, l⟩ := k
  refine ⟨⟨h1.tr k1, k2, by omega, by omega, h5.tr (fun g g1 g2 i g3 g4 => k5 g g1 g2 i (by omega) (by omega)), by omega, by omega, by omega, by omega, h10.tr k10 (h1.1 33 rfl) h4⟩, by omega⟩
/-- a list below the node r -/
def KL (ν : MS) (h : Nat) (lo : Int) (r : Int32) (s : Nat) (x : Int32) : Prop := ∃ m, Lst (Kg ν h lo r s) (ν.2.1 27) m x
section KLS
variable {r b n t s δ lo hi : Int} {ν ν1 : MS} {h k : Nat} {i x : Int32}
theorem KL.of (hL : ∃ m, Lst (G ν h (bt lo hi) k) (ν.2.1 27) m x) {lo' : Int} (h1 : lo' ≤ lo) (h2 : hi ≤ (ν.1 19).toInt) (hr : 0 ≤ i.toInt) (ht : i.toInt < lo ∨ hi ≤ i.toInt) : KL ν h lo' i k x := by
  obtain ⟨m, hm⟩ := hL
  exact ⟨m, hm.mono (fun y hy => Kg.of hy h1 h2 hr ht) (fun _ _ => rfl)⟩
theorem KL.nil : KL ν h lo i k (-1) := ⟨0, rfl⟩
theorem KL.tr (hL : KL ν h lo i k x) (q : TR r b n t s δ ν ν1) (hr : r < 0 ∨ r = i.toInt) (hi0 : 0 ≤ i.toInt) : KL ν1 h lo i k x := by
  obtain ⟨m, hm⟩ := hL
  refine ⟨m, hm.mono (fun y hy => Kg.tr hy q hr hi0) (fun y hy => ?_)⟩
  obtain ⟨-, k2, k3⟩ := hy.in
  exact q.rb 27 (by omega) (by omega) _ k2.2 (by have := @ic i; omega)
theorem KL.up {h' : Nat} (hL : KL ν h lo i k x) (hh : h ≤ h') : KL ν h' lo i k x := by
  obtain ⟨m, hm⟩ := hL
  exact ⟨m, hm.mono (fun y hy => Kg.up hy hh) (fun _ _ => rfl)⟩
end KLS
def SC (X : ev_X) (W : Nat → Prop) (P : MP) (k : Nat) (s : Nat) (rd rh : Int) (d : Nat) : Prop := ∀ (μ : MS) (T : MS → Prop) (h : Nat), PS μ → psS μ + rd ≤ d → hiS μ + rh ≤ h → (μ.1 19).toInt ≤ 2 * (μ.1 32).toInt + 30 → (∀ μ1, kf SPA RPA μ μ1 → T μ1) → srt μ ∈ bgS → MC X W true d k [.ref P.1] P μ (fun r μ1 => XN 0 s h μ r μ1) T
/-- a list of trees -/
def SL (X : ev_X) (W : Nat → Prop) (P : MP) (k : Nat) (as : List Value) (s : Nat) (rd rh : Int) (d : Nat) : Prop := ∀ (μ : MS) (T : MS → Prop) (h : Nat), PS μ → psS μ + rd ≤ d → hiS μ + rh ≤ h → (μ.1 19).toInt ≤ 2 * (μ.1 32).toInt + 30 → (∀ μ1, kf SPA RPA μ μ1 → T μ1) → MC X W true d k (.ref P.1 :: as) P μ (fun r μ1 => TR (-1) 0 0 0 0 0 μ μ1 ∧ (∃ m, Lst (G μ1 h (bt (μ.1 19).toInt (μ1.1 19).toInt) s) (μ1.2.1 27) m r) ∧ LCO μ1 (μ.1 19).toInt (μ1.1 19).toInt r) T
/-- a statement's node is filled -/
def FiC (X : ev_X) (W : Nat → Prop) (P : MP) (k : Nat) (up dn : Int) (d : Nat) : Prop := ∀ (μ : MS) (T : MS → Prop) (h : Nat) (s : Int32), PS μ → psS μ + 21 ≤ d → hiS μ + 13 ≤ h → (μ.1 19).toInt ≤ 2 * (μ.1 32).toInt + 30 + up → (∀ μ1, kf SPA RPA μ μ1 → T μ1) → 0 ≤ s.toInt → s.toInt + 1 = (μ.1 19).toInt → ND μ s.toNatClampNeg 43 (-1) (-1) (-1) (-1) (-1) (-1) →
  MC X W true d k [.ref P.1, .int s] P μ (fun _ μ1 => TR s.toInt 0 0 0 0 (-dn) μ μ1 ∧ G μ1 (h + 1) (bt s.toInt (μ1.1 19).toInt) 3 s ∧ μ1.2.1 27 s.toNatClampNeg = -1 ∧ CO μ1 s.toInt (μ1.1 19).toInt s) T
/-- ELSE and END of a TRY or TYPECASE -/
def OtC (X : ev_X) (W : Nat → Prop) (P : MP) (d : Nat) : Prop := ∀ (μ : MS) (T : MS → Prop) (h : Nat) (s k a b : Int32), PS μ → psS μ + 20 ≤ d → hiS μ + 11 ≤ h → (μ.1 19).toInt ≤ 2 * (μ.1 32).toInt + 30 → (∀ μ1, kf SPA RPA μ μ1 → T μ1) → 0 ≤ s.toInt → s.toInt < (μ.1 19).toInt → ND μ s.toNatClampNeg k a b (-1) (-1) (-1) (-1) →
  MC X W true d 326 [.ref P.1, .int s] P μ (fun _ μ1 => TR s.toInt 0 0 0 0 0 μ μ1 ∧ ∃ c e, ND μ1 s.toNatClampNeg k a b c e (-1) (-1) ∧ KL μ1 h s.toInt s 3 c ∧ LCO μ1 (μ.1 19).toInt (μ1.1 19).toInt c) T
theorem Kg.free0 {ν : MS} {h k t : Nat} {lo : Int} {i x y : Int32} (hw : ν.2.1 20 t = 10) (hK : Kg ν h lo i k x) : Kg (mA1 ν 22 t y) h lo i k x := G.free (f := 0) (by decide) (by rw [hw]; decide) hK
theorem Kd.free0 {ν : MS} {h k t : Nat} {lo : Int} {i x y : Int32} (hw : ν.2.1 20 t = 10) (hK : Kd ν h lo i k x) : Kd (mA1 ν 22 t y) h lo i k x := ⟨Kg.free0 hw hK.1, by rw [row_off rfl]; exact hK.2⟩
theorem KL.free0 {ν : MS} {h k t : Nat} {lo : Int} {i x y : Int32} (hw : ν.2.1 20 t = 10) (hK : KL ν h lo i k x) : KL (mA1 ν 22 t y) h lo i k x := by
  obtain ⟨m, hm⟩ := hK
  exact ⟨m, hm.mono (fun _ hy => Kg.free0 hw hy) (fun _ _ => rfl)⟩
theorem n10 {ν : MS} {i : Int32} {h : Nat} {lo hi : Int} {a b c d e n : Int32} (h0 : 0 ≤ i.toInt) (h1 : lo ≤ i.toInt) (h2 : i.toInt < hi) (hN : ND ν i.toNatClampNeg 10 a b c d e n) : G ν (h + 1) (bt lo hi) 6 i := G.mk h0 h1 h2 hN (by decide) True.intro True.intro True.intro True.intro True.intro
/-- IF's arms -/
def ArC (X : ev_X) (W : Nat → Prop) (P : MP) (d : Nat) : Prop := ∀ (μ : MS) (T : MS → Prop) (h : Nat), PS μ → psS μ + 21 ≤ d → hiS μ + 13 ≤ h → (μ.1 19).toInt ≤ 2 * (μ.1 32).toInt + 29 → (∀ μ1, kf SPA RPA μ μ1 → T μ1) → MC X W true d 323 [.ref P.1] P μ (fun r μ1 => TR (-1) 0 0 0 0 0 μ μ1 ∧ ¬ r = -1 ∧ (∃ m, Lst (G μ1 h (bt (μ.1 19).toInt (μ1.1 19).toInt) 13) (μ1.2.1 27) m r) ∧ LCO μ1 (μ.1 19).toInt (μ1.1 19).toInt r) T
theorem Kg.lo {ν : MS} {h k : Nat} {lo lo' : Int} {i x : Int32} (hK : Kg ν h lo i k x) (hl : lo' ≤ lo) : Kg ν h lo' i k x := G.mono hK (Nat.le_refl _) (fun j hj => ⟨⟨by have := hj.1.1; omega, hj.1.2⟩, hj.2⟩) (fun _ _ _ _ _ => rfl) (fun _ _ _ => rfl)
theorem Kd.lo {ν : MS} {h k : Nat} {lo lo' : Int} {i x : Int32} (hK : Kd ν h lo i k x) (hl : lo' ≤ lo) : Kd ν h lo' i k x := ⟨Kg.lo hK.1 hl, hK.2⟩
theorem KL.lo {ν : MS} {h k : Nat} {lo lo' : Int} {i x : Int32} (hL : KL ν h lo i k x) (hl : lo' ≤ lo) : KL ν h lo' i k x := by
  obtain ⟨m, hm⟩ := hL
  exact ⟨m, hm.mono (fun y hy => Kg.lo hy hl) (fun _ _ => rfl)⟩
theorem srt_off {μ : MS} {g t : Nat} {x : Int32} (h : Nat.beq 9 g = false) : srt (mA1 μ g t x) = srt μ := by
  show (bif Nat.beq 9 g then upd (μ.2.1 g) t x else μ.2.1 9) (μ.1 32).toNatClampNeg = _
  rw [h]; rfl
