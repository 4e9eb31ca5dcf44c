/-! contracts of the reference: an IMPORT told -/
section NNK
variable {X : ev_X} {W : Nat → Prop} {d : Nat} {P : MP} {μ ν κ ζ : MS} {B n : Int} {T : MS → Prop}
theorem TlP.pre {u a k e w : Int32} (hk : kf [17, 18] [] κ ν) (hf : ¬ κ.1 17 = 0 → ¬ ν.1 17 = 0) (h : TlP u a k e w ν ζ) : TlP u a k e w κ ζ := by
  obtain ⟨h1, h2, h3, h4, h5, h6, h7⟩ := h
  have e43 : ν.1 43 = κ.1 43 := hk.1 43 rfl
  have r : ∀ g, ν.2.1 g = κ.2.1 g := fun g => hk.2.1 g rfl
  rw [e43] at h3 h4 h5
  refine ⟨(hk.up rfl rfl).tr h1, fun e => h2 (hf e), h3, h4, fun s hs => ?_, h6, fun i hi => by rw [← r]; exact h7 i hi⟩
  rw [← r 44, ← r 45, ← r 46, ← r 47]
  exact h5 s hs
theorem im_53 {u e : Int32} (hd : 2 ≤ d) (u0 : 0 ≤ u.toInt) (u1 : u.toInt < n) (hI : DI μ n B ν) (h43 : (ν.1 43).toInt < 3200) (he : 0 ≤ e.toInt ∧ e.toInt < 16000) (hN : ∀ w : Nat, (w : Int) ≤ u.toInt → 0 ≤ (μ.2.1 42 w).toInt ∧ (μ.2.1 42 w).toInt < 16000) (hk : kf [17, 18] [] ν κ) (hf : ¬ ν.1 17 = 0 → ¬ κ.1 17 = 0) (hs : μ.2.1 22 e.toNatClampNeg = μ.2.1 22 (μ.2.1 42 u.toNatClampNeg).toNatClampNeg → ¬ κ.1 17 = 0) : ∀ (j : Nat) (x3 x4 : Int32), x4.toInt + 1 = j → x4.toInt < u.toInt → (x3 = -1 ∨ (0 ≤ x3.toInt ∧ x3.toInt < n)) →
    ME X W true d 346 53 [(0, .ref P.1), (1, .int u), (2, .int e), (3, .int x3), (4, .int x4)] [] P κ (fun _ ζ => DF (fun _ => False) ν ζ ∧ DI μ n B ζ ∧ ((ζ.1 43).toInt = (ν.1 43).toInt + 1 ∧ (ζ.1 52).toInt = (ν.1 52).toInt)) T := by
  have n13 := hI.1.2.1.2.1
  have h0 := hI.1.2.1.1.1
  have hcu := @ic u
  have mi : ∀ {κ : MS} {g : Nat} {i : Int32}, kf [17, 18] [] ν κ → rk g = true → rlen g = 16000 → 0 ≤ i.toInt → i.toInt < 16000 → MI i (κ.2.2 g) := fun hk hg hr a0 a1 => MI.of ((hI.1.1.to hk).g hg hr) a0 a1
  have mu : ∀ {κ : MS} {g : Nat} {i : Int32}, kf [17, 18] [] ν κ → rk g = true → rlen g = 14 → 0 ≤ i.toInt → i.toInt < n → MI i (κ.2.2 g) := fun hk hg hr a0 a1 => MI.of ((hI.1.1.to hk).g hg hr) a0 (by omega)
  have r42 : κ.2.1 42 = μ.2.1 42 := (hk.2.1 42 rfl).trans (hI.row rfl)
  have r22 : κ.2.1 22 = μ.2.1 22 := (hk.2.1 22 rfl).trans (hI.row rfl)
  obtain ⟨e0, e1⟩ := he
  have fin : ∀ {nm x3 : Int32} {κ2 : MS}, TlP u nm 2 e x3 ν κ2 → x3.toInt < n → (x3.toInt < 0 → ¬ κ2.1 17 = 0) → DF (fun _ => False) ν κ2 ∧ DI μ n B κ2 ∧ ((κ2.1 43).toInt = (ν.1 43).toInt + 1 ∧ (κ2.1 52).toInt = (ν.1 52).toInt) := fun hT h3 h4 => ⟨hT.df h0, hI.sy hT u0 u1 h43 (Or.inr ⟨rfl, h3, h4⟩) (Int.le_refl _), hT.2.2.1, eq_i (hT.1.1 52 rfl)⟩
  have sy : ∀ {nm x3 : Int32} {κ1 : MS}, kf [17, 18] [] ν κ1 → (¬ ν.1 17 = 0 → ¬ κ1.1 17 = 0) → x3.toInt < n → (x3.toInt < 0 → ¬ κ1.1 17 = 0) → MC X W true d 340 [.ref P.1, .int nm, .int 2, .int e, .int x3] P κ1 (fun _ κ2 => MI u (κ2.2.2 49) ∧ (DF (fun _ => False) ν (mA1 κ2 49 u.toNatClampNeg (κ2.1 43)) ∧ DI μ n B (mA1 κ2 49 u.toNatClampNeg (κ2.1 43)) ∧ (((mA1 κ2 49 u.toNatClampNeg (κ2.1 43)).1 43).toInt = (ν.1 43).toInt + 1 ∧ ((mA1 κ2 49 u.toNatClampNeg (κ2.1 43)).1 52).toInt = (ν.1 52).toInt))) (fun _ => False) := fun {nm x3 κ1} k1 k2 k3 k4 => by
    have i43 := eq_i (k1.1 43 rfl)
    exact MC.mono (c_symP (by omega) (hI.1.1.to k1) (by omega) (by omega) u0 (by omega) kf.rf id) (fun _ κ2 h => ⟨h.1, fin (h.2.pre k1 k2) k3 (fun e3 => h.2.2.1 (k4 e3))⟩) (fun _ h => h)
  intro j
  induction j with
  | zero =>
    intro x3 x4 hj h4 h3
    have h3n : x3.toInt < n := by
      rcases h3 with h3 | h3
      · rw [h3]; show (-1 : Int) < n; omega
      · exact h3.2
    refine v_imported_53 _ _ _ _ ⟨fun _ => ⟨fun g3 => ⟨mi hk rfl rfl e0 e1, sy hk hf h3n (fun h => by omega)⟩, fun g3 => ⟨mi hk rfl rfl e0 e1, mu hk rfl rfl u0 u1, ?_, fun he2 => ⟨mi hk rfl rfl e0 e1, sy hk hf h3n (fun _ => hs ?_)⟩, fun hne => ⟨mi hk rfl rfl e0 e1, MC.mono (c_rule (by omega)) (fun _ κ1 h1 => ?_) (fun _ h => h)⟩⟩⟩, fun h => by omega⟩
    · rw [r42]
      obtain ⟨a1, a2⟩ := hN u.toNatClampNeg (by omega)
      exact mi hk rfl rfl a1 a2
    · rw [r42, r22] at he2; exact he2
    · have k1 : kf [17, 18] [] ν κ1 := hk.tr h1.1
      have f1 : ¬ κ1.1 17 = 0 := h1.2.resolve_left (by decide)
      exact ⟨mi k1 rfl rfl e0 e1, sy k1 (fun _ => f1) h3n (fun _ => f1)⟩
  | succ j ih =>
    intro x3 x4 hj h4 h3
    have hy := im1 (x := x4) (by omega) (by omega)
    have hc4 := @ic x4
    obtain ⟨y, ey⟩ : ∃ y, y = x4 + (-1) := ⟨_, rfl⟩
    rw [← ey] at hy
    refine v_imported_53 _ _ _ _ ⟨fun h => by omega, fun g4 => ⟨mu hk rfl rfl g4 (by omega), ?_, mi hk rfl rfl e0 e1, fun _ => ?_, fun _ => ⟨mu hk rfl rfl g4 (by omega), fun _ => ?_, fun _ => ?_⟩⟩⟩
    · rw [r42]
      obtain ⟨a1, a2⟩ := hN x4.toNatClampNeg (by omega)
      exact mi hk rfl rfl a1 a2
    · rw [← ey]; exact ih x3 y (by omega) (by omega) h3
    · rw [← ey]; exact ih x3 y (by omega) (by omega) h3
    · rw [← ey]; exact ih x4 y (by omega) (by omega) (Or.inr ⟨g4, by omega⟩)
theorem imported_step {u e : Int32} (hd : 2 ≤ d) (u0 : 0 ≤ u.toInt) (u1 : u.toInt < n) (hI : DI μ n B ν) (h43 : (ν.1 43).toInt < 3200) (he : 0 ≤ e.toInt ∧ e.toInt < 16000) (hN : ∀ w : Nat, (w : Int) ≤ u.toInt → 0 ≤ (μ.2.1 42 w).toInt ∧ (μ.2.1 42 w).toInt < 16000) :
    MC X W true (d + 1) 346 [.ref P.1, .int u, .int e] P ν (fun _ ζ => DF (fun _ => False) ν ζ ∧ DI μ n B ζ ∧ ((ζ.1 43).toInt = (ν.1 43).toInt + 1 ∧ (ζ.1 52).toInt = (ν.1 52).toInt)) T := by
  have n13 := hI.1.2.1.2.1
  have hcu := @ic u
  have mi : ∀ {κ : MS} {g : Nat} {i : Int32}, kf [17, 18] [] ν κ → rk g = true → rlen g = 16000 → 0 ≤ i.toInt → i.toInt < 16000 → MI i (κ.2.2 g) := fun hk hg hr a0 a1 => MI.of ((hI.1.1.to hk).g hg hr) a0 a1
  have hy := im2 (x := u) u0 (by omega)
  have go := fun {κ : MS} (hk : kf [17, 18] [] ν κ) (hf : ¬ ν.1 17 = 0 → ¬ κ.1 17 = 0) hs => im_53 (X := X) (W := W) (P := P) (T := T) (d := d) hd u0 u1 hI h43 he hN hk hf hs u.toInt.toNat (-1)
  obtain ⟨y, ey⟩ : ∃ y, y = u - 1 := ⟨_, rfl⟩
  rw [← ey] at hy
  have r42 : ν.2.1 42 = μ.2.1 42 := hI.row rfl
  have r22 : ν.2.1 22 = μ.2.1 22 := hI.row rfl
  refine me_meth (by omega) rfl (v_imported_0 _ _ ⟨mi kf.rf rfl rfl he.1 he.2, MI.of (hI.1.1.g rfl rfl : _ = 14) u0 (by omega), ?_, fun hq => ⟨mi kf.rf rfl rfl he.1 he.2, MC.mono (c_rule (by omega)) (fun _ κ1 h1 => ?_) (fun _ h => h)⟩, fun hq => ⟨mi kf.rf rfl rfl he.1 he.2, MC.mono (c_isThere (by omega) hI.1.1 hI.1.2.1 u0 u1) (fun r κ hκ => ?_) (fun _ h => h)⟩⟩)
  · rw [r42]
    obtain ⟨a1, a2⟩ := hN u.toNatClampNeg (by omega)
    exact mi kf.rf rfl rfl a1 a2
  · have f1 : ¬ κ1.1 17 = 0 := h1.2.resolve_left (by decide)
    rw [← ey]; exact go h1.1 (fun _ => f1) (fun _ => f1) y (by omega) (by omega) (Or.inl rfl)
  · subst hκ
    rw [r42, r22] at hq
    refine ⟨fun _ => by rw [← ey]; exact go kf.rf id (fun h => absurd h hq) y (by omega) (by omega) (Or.inl rfl), fun _ => ⟨mi kf.rf rfl rfl he.1 he.2, MC.mono (c_rule (by omega)) (fun _ κ1 h1 => ?_) (fun _ h => h)⟩⟩
    have f1 : ¬ κ1.1 17 = 0 := h1.2.resolve_left (by decide)
    rw [← ey]; exact go h1.1 (fun _ => f1) (fun _ => f1) y (by omega) (by omega) (Or.inl rfl)
end NNK
