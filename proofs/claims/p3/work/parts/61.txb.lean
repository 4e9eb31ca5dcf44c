/-! contracts of the reference: tokens -/
section TXB
variable {X : ev_X} {W : Nat → Prop} {d : Nat} {P : MP} {μ : MS} {T : MS → Prop}
theorem c_knowWords (hd : 2 ≤ d) (hL : LRow μ.2.2) : MC X W true d 281 [.ref P.1] P μ (fun _ μ1 => NM μ1 ∧ kf [12, 16] [13, 14, 15] μ μ1 ∧ (μ1.1 12).toInt ≤ 345 ∧ (μ1.1 16).toInt ≤ 345) T := by
  refine me_meth (by omega) rfl (v_knowWords_0 ?_)
  have key : ∀ (j : Nat) (n k : Int32) (ν : MS), (345 - k.toInt).toNat < j → 0 ≤ n.toInt → 0 ≤ k.toInt → k.toInt ≤ 345 → NM ν → kf [12, 16] [13, 14, 15] μ ν → (ν.1 16).toInt + n.toInt ≤ k.toInt → (ν.1 12).toInt ≤ k.toInt →
      ME X W true (d - 1) 281 14 [(0, .ref P.1), (1, .int n), (2, .int k)] [] P ν (fun _ μ1 => NM μ1 ∧ kf [12, 16] [13, 14, 15] μ μ1 ∧ (μ1.1 12).toInt ≤ 345 ∧ (μ1.1 16).toInt ≤ 345) T := by
    intro j
    induction j with
    | zero => intro n k ν hj; omega
    | succ j ih =>
      intro n k ν hj hn hk hk2 hN hf h1 h2
      have hLν := hL.to hf
      have ek : k.toInt < 345 → (k + 1).toInt = k.toInt + 1 := fun _ => ia1 (by omega)
      have n2 := hN.2.1
      refine v_knowWords_14 _ _ ⟨fun _ => ⟨hN, hf, by omega, by omega⟩, fun hlt => ⟨⟨hk, hlt⟩, fun _ => ⟨⟨hk, hlt⟩, MI.of (hLν.g rfl rfl : _ = 6600) (by rw [ia (by omega) (by omega)]; omega) (by rw [ia (by omega) (by omega)]; omega), ?_⟩, fun _ => (c_nameOf (by omega) hn hN (by omega) (by omega) hLν).mono (fun r ν1 h => ?_) (fun _ h => h)⟩⟩
      · have en : (n + 1).toInt = n.toInt + 1 := ia1 (by omega)
        have := ek hlt
        exact ih (n + 1) (k + 1) _ (by omega) (by omega) (by omega) (by omega) (hN.kf (s := []) (r := [15]) (kf.rf.A rfl) rfl rfl rfl rfl) (hf.A rfl) (by show (ν.1 16).toInt + _ ≤ _; omega) (by show (ν.1 12).toInt ≤ _; omega)
      · obtain ⟨g1, g2, g3, g4, g5⟩ := h
        have := ek hlt
        exact ih 0 (k + 1) _ (by omega) (by decide) (by omega) (by omega) g1 (hf.tr (g2.up rfl rfl)) (by show _ + (0 : Int) ≤ _; omega) (by omega)
  exact key 346 0 0 _ (by decide) (by decide) (by decide) (by decide) ⟨by show (0 : Int) ≤ (0 : Int32).toInt; decide, by show (0 : Int) ≤ (0 : Int32).toInt; decide, fun k hk => by have hk : (k : Int) < (0 : Int) := hk; omega⟩ ((kf.rf.S rfl).S rfl) (by show (0 : Int32).toInt + (0 : Int32).toInt ≤ (0 : Int32).toInt; decide) (by show (0 : Int32).toInt ≤ (0 : Int32).toInt; decide)
theorem c_note (hd : 2 ≤ d) (hs : TS μ) (hL : LRow μ.2.2) (h0 : 0 ≤ (μ.1 6).toInt) (h1 : (μ.1 6).toInt ≤ (μ.1 5).toInt) : MC X W true d 284 [.ref P.1] P μ (fun r μ1 => (r = 0 ∨ r = 1) ∧ kf [6, 7] [] μ μ1 ∧ (μ.1 6).toInt ≤ (μ1.1 6).toInt ∧ (μ1.1 6).toInt ≤ (μ.1 5).toInt ∧ (¬ r = 0 → (μ.1 6).toInt < (μ1.1 6).toInt)) T := by
  have hs2 := hs.2
  refine me_meth (by omega) rfl (v_note_0 ?_)
  have key : ∀ (j : Nat) (x1 x2 x3 : Int32), ((μ.1 5).toInt - x2.toInt).toNat < j → (μ.1 6).toInt ≤ x2.toInt → x2.toInt ≤ (μ.1 5).toInt →
      ME X W true (d - 1) 284 12 [(0, .ref P.1), (1, .int x1), (2, .int x2), (3, .int x3)] [] P μ (fun r μ1 => (r = 0 ∨ r = 1) ∧ kf [6, 7] [] μ μ1 ∧ (μ.1 6).toInt ≤ (μ1.1 6).toInt ∧ (μ1.1 6).toInt ≤ (μ.1 5).toInt ∧ (¬ r = 0 → (μ.1 6).toInt < (μ1.1 6).toInt)) T := by
    intro j
    induction j with
    | zero => intro x1 x2 x3 hj; omega
    | succ j ih =>
      intro x1 x2 x3 hj hx hx2
      refine v_note_12 _ _ _ ((c_see (by omega) (by omega) hs hL).mono (fun r ν h => ?_) (fun _ h => h))
      obtain ⟨rfl, rfl⟩ := h
      refine ⟨fun hr => ?_, fun _ => ⟨Or.inl rfl, kf.rf, by omega, by omega, fun h => absurd rfl h⟩⟩
      have hlt := seeV_neg hr
      have ea1 : (x2 + 1).toInt = x2.toInt + 1 := ia1 (by omega)
      have ea2 : (x2 + 2).toInt = x2.toInt + 2 := ia2 (by omega)
      have fin : ∀ (y : Int32) (x3 : Int32), (ν.1 6).toInt < y.toInt → y.toInt ≤ (ν.1 5).toInt → ((1 : Int32) = 0 ∨ (1 : Int32) = 1) ∧ kf [6, 7] [] ν (mS1 (mS1 ν 6 y) 7 x3) ∧ (ν.1 6).toInt ≤ ((mS1 (mS1 ν 6 y) 7 x3).1 6).toInt ∧ ((mS1 (mS1 ν 6 y) 7 x3).1 6).toInt ≤ (ν.1 5).toInt ∧ (¬ (1 : Int32) = 0 → (ν.1 6).toInt < ((mS1 (mS1 ν 6 y) 7 x3).1 6).toInt) := fun y x3 g1 g2 => ⟨Or.inr rfl, (kf.rf.S rfl).S rfl, by show _ ≤ y.toInt; omega, g2, fun _ => g1⟩
      have t117 : ∀ x1 x3 x4 x5 x6 : Int32, (¬ x5 = 0 → x2.toInt + 2 ≤ (ν.1 5).toInt) → (¬ x6 = 0 → x2.toInt + 2 ≤ (ν.1 5).toInt) → ME X W true (d - 1) 284 117 [(0, .ref P.1), (1, .int x1), (2, .int x2), (3, .int x3), (4, .int x4), (5, .int x5), (6, .int x6)] [] P ν (fun r μ1 => (r = 0 ∨ r = 1) ∧ kf [6, 7] [] ν μ1 ∧ (ν.1 6).toInt ≤ (μ1.1 6).toInt ∧ (μ1.1 6).toInt ≤ (ν.1 5).toInt ∧ (¬ r = 0 → (ν.1 6).toInt < (μ1.1 6).toInt)) T := fun x1 x3 x4 x5 x6 h5 h6 => by
        refine v_note_117 _ _ _ _ _ _ ⟨fun a => ⟨fun _ => ih _ _ _ ?_ ?_ ?_, fun _ => fin _ _ ?_ ?_⟩, fun _ => ⟨fun _ => ⟨fun _ => ih _ _ _ ?_ ?_ ?_, fun _ => fin _ _ ?_ ?_⟩, fun a => ⟨fun _ => ih _ _ _ ?_ ?_ ?_, fun _ => fin _ _ ?_ ?_⟩⟩⟩
        all_goals first
          | omega
          | (have := h5 a; omega)
          | (have := h6 a; omega)
      have t102 : ∀ x1 x3 x4 x5 x6 : Int32, (¬ x5 = 0 → x2.toInt + 2 ≤ (ν.1 5).toInt) → (¬ x6 = 0 → x2.toInt + 2 ≤ (ν.1 5).toInt) → ME X W true (d - 1) 284 102 [(0, .ref P.1), (1, .int x1), (2, .int x2), (3, .int x3), (4, .int x4), (5, .int x5), (6, .int x6)] [] P ν (fun r μ1 => (r = 0 ∨ r = 1) ∧ kf [6, 7] [] ν μ1 ∧ (ν.1 6).toInt ≤ (μ1.1 6).toInt ∧ (μ1.1 6).toInt ≤ (ν.1 5).toInt ∧ (¬ r = 0 → (ν.1 6).toInt < (μ1.1 6).toInt)) T := fun x1 x3 x4 x5 x6 h5 h6 => v_note_102 _ _ _ _ _ _ ⟨fun _ => t117 _ _ _ _ _ h5 h6, fun _ => t117 _ _ _ _ _ h5 h6⟩
      have t78 : ∀ x1 x3 x4 x5 x6 : Int32, (¬ x5 = 0 → x2.toInt + 2 ≤ (ν.1 5).toInt) → (¬ x6 = 0 → x2.toInt + 2 ≤ (ν.1 5).toInt) → ME X W true (d - 1) 284 78 [(0, .ref P.1), (1, .int x1), (2, .int x2), (3, .int x3), (4, .int x4), (5, .int x5), (6, .int x6)] [] P ν (fun r μ1 => (r = 0 ∨ r = 1) ∧ kf [6, 7] [] ν μ1 ∧ (ν.1 6).toInt ≤ (μ1.1 6).toInt ∧ (μ1.1 6).toInt ≤ (ν.1 5).toInt ∧ (¬ r = 0 → (ν.1 6).toInt < (μ1.1 6).toInt)) T := fun x1 x3 x4 x5 x6 h5 h6 => v_note_78 _ _ _ _ _ _ ⟨fun _ => ⟨fun _ => t102 _ _ _ _ _ h5 h6, fun _ => t102 _ _ _ _ _ h5 h6⟩, fun _ => t102 _ _ _ _ _ h5 h6⟩
      have t52 : ∀ x1 x3 x4 x5 : Int32, (¬ x5 = 0 → x2.toInt + 2 ≤ (ν.1 5).toInt) → ME X W true (d - 1) 284 52 [(0, .ref P.1), (1, .int x1), (2, .int x2), (3, .int x3), (4, .int x4), (5, .int x5)] [] P ν (fun r μ1 => (r = 0 ∨ r = 1) ∧ kf [6, 7] [] ν μ1 ∧ (ν.1 6).toInt ≤ (μ1.1 6).toInt ∧ (μ1.1 6).toInt ≤ (ν.1 5).toInt ∧ (¬ r = 0 → (ν.1 6).toInt < (μ1.1 6).toInt)) T := fun x1 x3 x4 x5 h5 => by
        have n75 := v_note_75 (X := X) (W := W) (T := T) x1 x2 x3 x4 x5 (t78 x1 x3 x4 x5 0 h5 (fun h => absurd rfl h))
        refine v_note_52 _ _ _ _ _ ⟨fun _ => n75, fun _ => (c_see (by omega) (by omega) hs hL).mono (fun r ν2 h => ?_) (fun _ h => h)⟩
        obtain ⟨rfl, rfl⟩ := h
        refine ⟨fun _ => n75, fun h => t78 _ _ _ _ _ h5 (fun _ => ?_)⟩
        have := seeV_neg (μ := ν2) (k := x2 + 1) (by rw [h]; decide)
        omega
      have n49 : ∀ x1 x3 x4 : Int32, ME X W true (d - 1) 284 49 [(0, .ref P.1), (1, .int x1), (2, .int x2), (3, .int x3), (4, .int x4)] [] P ν (fun r μ1 => (r = 0 ∨ r = 1) ∧ kf [6, 7] [] ν μ1 ∧ (ν.1 6).toInt ≤ (μ1.1 6).toInt ∧ (μ1.1 6).toInt ≤ (ν.1 5).toInt ∧ (¬ r = 0 → (ν.1 6).toInt < (μ1.1 6).toInt)) T := fun x1 x3 x4 => v_note_49 _ _ _ _ (t52 _ _ _ 0 (fun h => absurd rfl h))
      refine ⟨fun _ => n49 _ _ _, fun _ => (c_see (by omega) (by omega) hs hL).mono (fun r ν2 h => ?_) (fun _ h => h)⟩
      obtain ⟨rfl, rfl⟩ := h
      refine ⟨fun _ => n49 _ _ _, fun h => t52 _ _ _ _ (fun _ => ?_)⟩
      have := seeV_neg (μ := ν2) (k := x2 + 1) (by rw [h]; decide)
      omega
  exact key _ _ _ _ (Nat.lt_succ_self _) (by omega) h1
theorem c_passes (hd : 3 ≤ d) (hs : TS μ) (hL : LRow μ.2.2) (h0 : 0 ≤ (μ.1 6).toInt) (h1 : (μ.1 6).toInt ≤ (μ.1 5).toInt) : MC X W true d 283 [.ref P.1] P μ (fun r μ1 => kf [6, 7] [] μ μ1 ∧ (μ.1 6).toInt ≤ (μ1.1 6).toInt ∧ (μ1.1 6).toInt ≤ (μ.1 5).toInt) T := by
  refine me_meth (by omega) rfl ?_
  have key : ∀ (j : Nat) (ν : MS), ((ν.1 5).toInt - (ν.1 6).toInt).toNat < j → kf [6, 7] [] μ ν → (μ.1 6).toInt ≤ (ν.1 6).toInt → (ν.1 6).toInt ≤ (μ.1 5).toInt →
      ME X W true (d - 1) 283 0 [(0, .ref P.1)] [] P ν (fun r μ1 => kf [6, 7] [] μ μ1 ∧ (μ.1 6).toInt ≤ (μ1.1 6).toInt ∧ (μ1.1 6).toInt ≤ (μ.1 5).toInt) T := by
    intro j
    induction j with
    | zero => intro ν hj; omega
    | succ j ih =>
      intro ν hj hf g1 g2
      have e5 : ν.1 5 = μ.1 5 := hf.1 5 rfl
      have e5i := eq_i e5
      have hsν : TS ν := by unfold TS; rw [e5]; exact hs
      have hs2 := hs.2
      refine v_passes_0 ((c_see (by omega) (by omega) hsν (hL.to hf)).mono (fun r ν1 h => ?_) (fun _ h => h))
      obtain ⟨rfl, rfl⟩ := h
      have go : ∀ x : Int32, 0 ≤ (seeV ν1 (ν1.1 6)).toInt → ME X W true (d - 1) 283 0 [(0, .ref P.1)] [] P (mS1 (mS1 ν1 7 x) 6 (ν1.1 6 + 1)) (fun r μ1 => kf [6, 7] [] μ μ1 ∧ (μ.1 6).toInt ≤ (μ1.1 6).toInt ∧ (μ1.1 6).toInt ≤ (μ.1 5).toInt) T := fun x hx => by
        have hlt := seeV_neg hx
        have ea : (ν1.1 6 + 1).toInt = (ν1.1 6).toInt + 1 := ia1 (by omega)
        exact ih _ (by show ((ν1.1 5).toInt - (ν1.1 6 + 1).toInt).toNat < j; omega) ((hf.S rfl).S rfl) (by show _ ≤ (ν1.1 6 + 1).toInt; omega) (by show (ν1.1 6 + 1).toInt ≤ _; rw [← e5]; omega)
      have big : ∀ {c : Int32}, seeV ν1 (ν1.1 6) = c → 0 ≤ c.toInt → 0 ≤ (seeV ν1 (ν1.1 6)).toInt := fun h h2 => by rw [h]; exact h2
      refine ⟨fun h => ⟨fun _ => go _ (big h (by decide)), fun _ => go _ (big h (by decide))⟩, fun _ => ⟨fun h => ⟨fun _ => go _ (big h (by decide)), fun _ => go _ (big h (by decide))⟩, fun _ => ⟨fun h => ⟨fun _ => go _ (big h (by decide)), fun _ => go _ (big h (by decide))⟩, fun _ => ⟨fun _ => ⟨fun _ => ⟨hf, g1, g2⟩, fun h => ?_⟩, fun h => ⟨fun _ => go _ (big h (by decide)), fun _ => go _ (big h (by decide))⟩⟩⟩⟩⟩
      have hlt := seeV_neg (big h (by decide))
      have ea : (ν1.1 6 + 1).toInt = (ν1.1 6).toInt + 1 := ia1 (by omega)
      refine (c_see (by omega) (by omega) hsν (hL.to hf)).mono (fun r ν2 h => ?_) (fun _ h => h)
      obtain ⟨rfl, rfl⟩ := h
      refine ⟨fun _ => ⟨hf, g1, g2⟩, fun _ => (c_note (by omega) hsν (hL.to hf) (by omega) (by omega)).mono (fun r ν3 h => ?_) (fun _ h => h)⟩
      obtain ⟨-, k1, k2, k3, k4⟩ := h
      refine ⟨fun hr => ih _ ?_ (hf.tr k1) (by omega) (by omega), fun _ => ⟨hf.tr k1, by omega, by omega⟩⟩
      have := k4 hr
      rw [k1.1 5 rfl]
      omega
  exact key _ μ (Nat.lt_succ_self _) kf.rf (by omega) h1
end TXB
