/-! contracts of the reference: symbols, what finds them -/
/-- symbols of the first so many units -/
def US (n : Int) (ν : MS) : Prop := (0 ≤ (ν.1 43).toInt ∧ (ν.1 43).toInt ≤ 3200) ∧ n ≤ 13 ∧ ∀ w : Nat, (w : Int) < n → 0 ≤ (ν.2.1 48 w).toInt ∧ (ν.2.1 49 w).toInt ≤ (ν.1 43).toInt ∧ (ν.2.1 50 w).toInt < w
/-- what findIn tells, from a symbol on -/
def fiF (ν : MS) (nm im : Int32) : Nat → Int32 → Int32
  | 0, _ => -1
  | j + 1, x => if ν.2.1 44 x.toNatClampNeg = nm ∧ (¬ im = 0 ∨ ¬ ν.2.1 45 x.toNatClampNeg = 2) then x else fiF ν nm im j (x + 1)
def fiV (ν : MS) (u nm im : Int32) : Int32 := fiF ν nm im ((ν.2.1 49 u.toNatClampNeg).toInt - (ν.2.1 48 u.toNatClampNeg).toInt).toNat (ν.2.1 48 u.toNatClampNeg)
/-- what find tells -/
def fdV (ν : MS) (u nm : Int32) : Int32 := if 0 ≤ (fiV ν u nm 1).toInt ∨ (ν.2.1 50 u.toNatClampNeg).toInt < 0 then fiV ν u nm 1 else fiV ν (ν.2.1 50 u.toNatClampNeg) nm 0
section NMA
variable {X : ev_X} {W : Nat → Prop} {d : Nat} {P : MP} {μ : MS} {T : MS → Prop} {n : Int}
theorem c_rule {k l : Int32} (hd : 1 ≤ d) : MC X W true d 290 [.ref P.1, .int k, .int l] P μ (fun _ μ1 => kf [17, 18] [] μ μ1 ∧ (k = 0 ∨ ¬ μ1.1 17 = 0)) T := by
  have a : ∀ x y, kf [17, 18] [] μ (mS1 (mS1 μ 17 x) 18 y) := fun _ _ => (kf.rf.S rfl).S rfl
  have b : ∀ y, k = 0 ∨ ¬ (mS1 (mS1 μ 17 k) 18 y).1 17 = 0 := fun y => by
    by_cases e : k = 0
    · exact Or.inl e
    · exact Or.inr e
  refine me_meth hd rfl (v_rule_0 _ _ ⟨fun _ => ⟨a _ _, b _⟩, fun h0 => ⟨fun _ => ⟨kf.rf, Or.inr h0⟩, fun _ => ⟨fun _ => ⟨a _ _, b _⟩, fun _ => ⟨fun _ => ⟨a _ _, b _⟩, fun _ => ⟨kf.rf, Or.inr h0⟩⟩⟩⟩⟩)
/-- one symbol more -/
def symS (μ : MS) (a b c e : Int32) : MS := mS1 (mA1 (mA1 (mA1 (mA1 μ 44 (μ.1 43).toNatClampNeg a) 45 (μ.1 43).toNatClampNeg b) 46 (μ.1 43).toNatClampNeg c) 47 (μ.1 43).toNatClampNeg e) 43 (μ.1 43 + 1)
theorem c_symbol {a b c e : Int32} (hd : 1 ≤ d) (hL : LRow μ.2.2) (h0 : 0 ≤ (μ.1 43).toInt) (h1 : (μ.1 43).toInt < 3200) : MC X W true d 340 [.ref P.1, .int a, .int b, .int c, .int e] P μ (fun _ μ1 => μ1 = symS μ a b c e) T :=
  me_meth hd rfl (v_symbol_0 _ _ _ _ ⟨MI.of (hL.g rfl rfl : _ = 3200) h0 h1, MI.of (hL.g rfl rfl : _ = 3200) h0 h1, MI.of (hL.g rfl rfl : _ = 3200) h0 h1, MI.of (hL.g rfl rfl : _ = 3200) h0 h1, rfl⟩)
theorem c_findIn {u nm im : Int32} (hd : 1 ≤ d) (hL : LRow μ.2.2) (hu0 : 0 ≤ u.toInt) (hu1 : u.toInt < 14) (h1 : 0 ≤ (μ.2.1 48 u.toNatClampNeg).toInt) (h2 : (μ.2.1 49 u.toNatClampNeg).toInt ≤ 3200) : MC X W true d 342 [.ref P.1, .int u, .int nm, .int im] P μ (fun r μ1 => μ1 = μ ∧ r = fiV μ u nm im ∧ (r = -1 ∨ (0 ≤ r.toInt ∧ (μ.2.1 48 u.toNatClampNeg).toInt ≤ r.toInt ∧ r.toInt < (μ.2.1 49 u.toNatClampNeg).toInt ∧ (im = 0 → ¬ μ.2.1 45 r.toNatClampNeg = 2)))) T := by
  have l48 : μ.2.2 48 = 14 := hL.g rfl rfl
  have l49 : μ.2.2 49 = 14 := hL.g rfl rfl
  have l44 : μ.2.2 44 = 3200 := hL.g rfl rfl
  have l45 : μ.2.2 45 = 3200 := hL.g rfl rfl
  refine me_meth hd rfl (v_findIn_0 _ _ _ ⟨MI.of l48 hu0 hu1, ?_⟩)
  have key : ∀ (j : Nat) (x4 : Int32), ((μ.2.1 49 u.toNatClampNeg).toInt - x4.toInt).toNat = j → (μ.2.1 48 u.toNatClampNeg).toInt ≤ x4.toInt → ME X W true (d - 1) 342 8 [(0, .ref P.1), (1, .int u), (2, .int nm), (3, .int im), (4, .int x4)] [] P μ (fun r μ1 => μ1 = μ ∧ r = fiF μ nm im j x4 ∧ (r = -1 ∨ (0 ≤ r.toInt ∧ (μ.2.1 48 u.toNatClampNeg).toInt ≤ r.toInt ∧ r.toInt < (μ.2.1 49 u.toNatClampNeg).toInt ∧ (im = 0 → ¬ μ.2.1 45 r.toNatClampNeg = 2)))) T := by
    intro j
    induction j with
    | zero =>
      intro x4 hj hx
      exact v_findIn_8 _ _ _ _ ⟨MI.of l49 hu0 hu1, fun _ => ⟨rfl, rfl, Or.inl rfl⟩, fun h => by omega⟩
    | succ j ih =>
      intro x4 hj hx
      have e1 : (x4 + 1).toInt = x4.toInt + 1 ∨ (μ.2.1 49 u.toNatClampNeg).toInt ≤ x4.toInt := by
        by_cases c : x4.toInt < (μ.2.1 49 u.toNatClampNeg).toInt
        · exact Or.inl (ia1 (by omega))
        · exact Or.inr (by omega)
      have yes : (μ.2.1 44 x4.toNatClampNeg = nm ∧ (¬ im = 0 ∨ ¬ μ.2.1 45 x4.toNatClampNeg = 2)) → x4 = fiF μ nm im (j + 1) x4 := fun h => by
        show x4 = if _ then _ else _
        rw [if_pos h]
      have no : x4.toInt < (μ.2.1 49 u.toNatClampNeg).toInt → ¬ (μ.2.1 44 x4.toNatClampNeg = nm ∧ (¬ im = 0 ∨ ¬ μ.2.1 45 x4.toNatClampNeg = 2)) → ME X W true (d - 1) 342 8 [(0, .ref P.1), (1, .int u), (2, .int nm), (3, .int im), (4, .int (x4 + 1))] [] P μ (fun r μ1 => μ1 = μ ∧ r = fiF μ nm im (j + 1) x4 ∧ (r = -1 ∨ (0 ≤ r.toInt ∧ (μ.2.1 48 u.toNatClampNeg).toInt ≤ r.toInt ∧ r.toInt < (μ.2.1 49 u.toNatClampNeg).toInt ∧ (im = 0 → ¬ μ.2.1 45 r.toNatClampNeg = 2)))) T := fun hlt h => by
        have e2 : fiF μ nm im (j + 1) x4 = fiF μ nm im j (x4 + 1) := by
          show (if _ then _ else _) = _
          rw [if_neg h]
        rw [e2]
        exact ih _ (by omega) (by omega)
      refine v_findIn_8 _ _ _ _ ⟨MI.of l49 hu0 hu1, fun _ => by omega, fun hlt => ⟨MI.of l44 (by omega) (by omega), fun hne => no hlt (fun h => hne h.1), fun he => ⟨fun h => ⟨rfl, yes ⟨he, Or.inl h⟩, Or.inr ⟨by omega, hx, hlt, fun e => absurd e h⟩⟩, fun h0 => ⟨MI.of l45 (by omega) (by omega), fun h2 => no hlt (fun h => by
        rcases h.2 with h3 | h3
        · exact h3 h0
        · exact h3 h2), fun h => ⟨rfl, yes ⟨he, Or.inr h⟩, Or.inr ⟨by omega, hx, hlt, fun _ => h⟩⟩⟩⟩⟩⟩
  exact key _ _ rfl (Int.le_refl _)
theorem c_find {u nm : Int32} (hd : 2 ≤ d) (hL : LRow μ.2.2) (hU : US n μ) (hu0 : 0 ≤ u.toInt) (hu1 : u.toInt < n) : MC X W true d 343 [.ref P.1, .int u, .int nm] P μ (fun r μ1 => μ1 = μ ∧ r = fdV μ u nm ∧ (r = -1 ∨ (0 ≤ r.toInt ∧ r.toInt < (μ.1 43).toInt))) T := by
  obtain ⟨⟨s0, s1⟩, hn, hw⟩ := id hU
  have hc := @ic u
  obtain ⟨w1, w2, w3⟩ := hw u.toNatClampNeg (by omega)
  have l50 : μ.2.2 50 = 14 := hL.g rfl rfl
  refine me_meth (by omega) rfl (v_find_0 _ _ (MC.mono (c_findIn (by omega) hL hu0 (by omega) w1 (by omega)) (fun r ν h => ?_) (fun _ h => h)))
  obtain ⟨rfl, hv, h⟩ := h
  refine ⟨fun h0 => ⟨rfl, ?_, Or.inr ?_⟩, fun h0 => ⟨MI.of l50 hu0 (by omega), fun h1 => ⟨MI.of l50 hu0 (by omega), ?_⟩, fun h1 => ⟨rfl, ?_, Or.inl ?_⟩⟩⟩
  · unfold fdV; rw [← hv, if_pos (Or.inl h0)]
  · rcases h with h | ⟨k1, k2, k3, -⟩
    · rw [h] at h0; exact absurd h0 (by decide)
    · exact ⟨k1, by omega⟩
  · have hc2 := @ic (ν.2.1 50 u.toNatClampNeg)
    obtain ⟨v1, v2, v3⟩ := hw (ν.2.1 50 u.toNatClampNeg).toNatClampNeg (by omega)
    refine MC.mono (c_findIn (by omega) hL h1 (by omega) v1 (by omega)) (fun r2 ν2 h2 => ?_) (fun _ h => h)
    obtain ⟨rfl, hv2, h2⟩ := h2
    have hf : r2 = fdV ν2 u nm := by unfold fdV; rw [← hv, if_neg (fun e => by rcases e with e | e <;> omega)]; exact hv2
    rcases h2 with h2 | ⟨k1, k2, k3, -⟩
    · exact ⟨rfl, hf, Or.inl h2⟩
    · exact ⟨rfl, hf, Or.inr ⟨k1, by omega⟩⟩
  · unfold fdV; rw [← hv, if_pos (Or.inr h1)]
  · rcases h with h | ⟨k1, -⟩
    · exact h
    · omega
theorem c_isThere {u nm k : Int32} (hd : 2 ≤ d) (hL : LRow μ.2.2) (hU : US n μ) (hu0 : 0 ≤ u.toInt) (hu1 : u.toInt < n) : MC X W true d 344 [.ref P.1, .int u, .int nm, .int k] P μ (fun _ μ1 => μ1 = μ) T := by
  obtain ⟨⟨s0, s1⟩, hn, hw⟩ := id hU
  have hc := @ic u
  obtain ⟨w1, w2, w3⟩ := hw u.toNatClampNeg (by omega)
  have l50 : μ.2.2 50 = 14 := hL.g rfl rfl
  refine me_meth (by omega) rfl (v_isThere_0 _ _ _ (MC.mono (c_findIn (by omega) hL hu0 (by omega) w1 (by omega)) (fun r ν h => ?_) (fun _ h => h)))
  obtain ⟨rfl, -, h⟩ := h
  refine ⟨fun h0 => ⟨MI.of l50 hu0 (by omega), fun h1 => ⟨MI.of l50 hu0 (by omega), ?_⟩, fun _ => rfl⟩, fun _ => rfl⟩
  have hc2 := @ic (ν.2.1 50 u.toNatClampNeg)
  obtain ⟨v1, v2, v3⟩ := hw (ν.2.1 50 u.toNatClampNeg).toNatClampNeg (by omega)
  refine MC.mono (c_findIn (by omega) hL h1 (by omega) v1 (by omega)) (fun r2 ν2 h2 => ?_) (fun _ h => h)
  obtain ⟨rfl, -, h2⟩ := h2
  refine ⟨fun _ => rfl, fun h3 => ⟨fun _ => rfl, fun _ => ?_⟩⟩
  rcases h2 with h2 | ⟨k1, k2, k3, -⟩
  · rw [h2] at h3; exact absurd h3 (by decide)
  · exact ⟨MI.of (hL.g rfl rfl : _ = 3200) k1 (by omega), fun _ => rfl, fun _ => rfl⟩
end NMA
