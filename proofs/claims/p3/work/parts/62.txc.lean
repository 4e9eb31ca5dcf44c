/-! contracts of the reference: one token, all tokens -/
/-- a token that goes on -/
def okS (s : Int32) : Prop := ¬ s = 202 ∧ ¬ s = 203
def OneP (μ : MS) (r : Int32) (μ1 : MS) : Prop :=
  kf [6, 8, 12, 16] [9, 10, 11, 13, 14, 15] μ μ1 ∧ NM μ1 ∧ ((μ.1 6).toInt ≤ (μ1.1 6).toInt ∧ (μ1.1 6).toInt ≤ (μ.1 5).toInt) ∧ (μ1.1 8).toInt = (μ.1 8).toInt + 1 ∧ (μ1.1 16).toInt + (μ.1 6).toInt ≤ (μ.1 16).toInt + (μ1.1 6).toInt ∧
  ((μ1.1 12).toInt ≤ (μ.1 12).toInt ∨ ((μ1.1 12).toInt ≤ (μ.1 12).toInt + 1 ∧ isM (seeV μ (μ.1 6)) = true ∧ isM (seeV μ (μ1.1 6)) = false)) ∧
  (∀ i : Nat, (i : Int) < (μ.1 8).toInt → μ1.2.1 9 i = μ.2.1 9 i) ∧
  ((r = 0 ∧ μ1.2.1 9 (μ.1 8).toNatClampNeg = 202) ∨ (r = 1 ∧ (μ.1 6).toInt < (μ1.1 6).toInt ∧ okS (μ1.2.1 9 (μ.1 8).toNatClampNeg)))
theorem one_fin {μ ν μ1 : MS} {s v l r y : Int32} (hf : kf [12, 16] [13, 14, 15] μ ν) (hN : NM ν) (h1 : kf [6] [] (tokS ν s v l) μ1) (h6 : μ1.1 6 = y) (hl : (ν.1 16).toInt + (μ.1 6).toInt ≤ (μ.1 16).toInt + y.toInt) (hy : (μ.1 6).toInt ≤ y.toInt) (hy2 : y.toInt ≤ (μ.1 5).toInt)
    (hn : (ν.1 12).toInt ≤ (μ.1 12).toInt ∨ ((ν.1 12).toInt ≤ (μ.1 12).toInt + 1 ∧ isM (seeV μ (μ.1 6)) = true ∧ isM (seeV μ y) = false)) (ht0 : 0 ≤ (μ.1 8).toInt) (ht1 : (μ.1 8).toInt < 6002) (hr : (r = 0 ∧ s = 202) ∨ (r = 1 ∧ (μ.1 6).toInt < y.toInt ∧ okS s)) : OneP μ r μ1 := by
  have e8 : ν.1 8 = μ.1 8 := hf.1 8 rfl
  have e9 : ν.2.1 9 = μ.2.1 9 := hf.2.1 9 rfl
  have f8 : μ1.1 8 = μ.1 8 + 1 := by rw [h1.1 8 rfl]; show ν.1 8 + 1 = _; rw [e8]
  have f9 : μ1.2.1 9 = upd (μ.2.1 9) (μ.1 8).toNatClampNeg s := by rw [h1.2.1 9 rfl]; show upd (ν.2.1 9) (ν.1 8).toNatClampNeg s = _; rw [e8, e9]
  have f12 : μ1.1 12 = ν.1 12 := h1.1 12 rfl
  have f16 : μ1.1 16 = ν.1 16 := h1.1 16 rfl
  have fN : NM μ1 := (hN.kf tokS_kf rfl rfl rfl rfl).kf h1 rfl rfl rfl rfl
  have fk : kf [6, 8, 12, 16] [9, 10, 11, 13, 14, 15] μ μ1 := ((hf.up rfl rfl).tr (tokS_kf.up rfl rfl)).tr (h1.up rfl rfl)
  have g9 : μ1.2.1 9 (μ.1 8).toNatClampNeg = s := by rw [f9]; unfold upd; rw [if_pos rfl]
  refine ⟨fk, fN, by rw [h6]; exact ⟨hy, hy2⟩, by rw [f8, ia1 (by omega)], by rw [f16, h6]; exact hl, by rw [f12, h6]; exact hn, fun i hi => ?_, ?_⟩
  · rw [f9]
    unfold upd
    rw [if_neg (by have := @ic (μ.1 8); omega)]
  · rw [g9, h6]
    rcases hr with ⟨h1, h2⟩ | ⟨h1, h2, h3⟩
    · exact Or.inl ⟨h1, h2⟩
    · exact Or.inr ⟨h1, h2, h3⟩
section TXC
variable {X : ev_X} {W : Nat → Prop} {d : Nat} {P : MP} {μ : MS} {T : MS → Prop}
theorem c_twoOf {a b : Int32} (hd : 1 ≤ d) : MC X W true d 287 [.int a, .int b] P μ (fun r μ1 => μ1 = μ ∧ (r = 0 ∨ (100 ≤ r.toInt ∧ r.toInt ≤ 124 ∧ 0 ≤ b.toInt))) T := by
  have n92 := v_twoOf_92 (X := X) (W := W) (d := d - 1) (P := P) (μ := μ) (R := fun r μ1 => μ1 = μ ∧ (r = 0 ∨ (100 ≤ r.toInt ∧ r.toInt ≤ 124 ∧ 0 ≤ b.toInt))) (T := T) a b ⟨rfl, Or.inl rfl⟩
  have n75 := v_twoOf_75 a b ⟨fun _ => n92, fun _ => ⟨fun _ => n92, fun h => ⟨rfl, Or.inr ⟨by decide, by decide, by rw [h]; decide⟩⟩⟩⟩
  have n60 := v_twoOf_60 a b ⟨fun _ => n75, fun _ => ⟨fun _ => n75, fun h => ⟨rfl, Or.inr ⟨by decide, by decide, by rw [h]; decide⟩⟩⟩⟩
  have n45 := v_twoOf_45 a b ⟨fun _ => n60, fun _ => ⟨fun _ => n60, fun h => ⟨rfl, Or.inr ⟨by decide, by decide, by rw [h]; decide⟩⟩⟩⟩
  have n30 := v_twoOf_30 a b ⟨fun _ => n45, fun _ => ⟨fun _ => n45, fun h => ⟨rfl, Or.inr ⟨by decide, by decide, by rw [h]; decide⟩⟩⟩⟩
  have n15 := v_twoOf_15 a b ⟨fun _ => n30, fun _ => ⟨fun _ => n30, fun h => ⟨rfl, Or.inr ⟨by decide, by decide, by rw [h]; decide⟩⟩⟩⟩
  exact me_meth hd rfl (v_twoOf_0 a b ⟨fun _ => n15, fun _ => ⟨fun _ => n15, fun h => ⟨rfl, Or.inr ⟨by decide, by decide, by rw [h]; decide⟩⟩⟩⟩)
theorem c_oneOf {a : Int32} (hd : 1 ≤ d) : MC X W true d 288 [.int a] P μ (fun r μ1 => μ1 = μ ∧ (r = 0 ∨ (100 ≤ r.toInt ∧ r.toInt ≤ 124))) T := by
  refine me_meth hd rfl (v_oneOf_0 a ?_)
  refine ⟨?_, ?_, ?_, ?_, ?_, ?_, ?_, ?_, ?_, ?_, ?_, ?_, ?_, ?_, ?_, ?_, ?_, ?_, ?_, fun _ => ⟨rfl, Or.inl rfl⟩⟩ <;> exact fun _ => ⟨rfl, Or.inr ⟨by decide, by decide⟩⟩
theorem isL_M {c : Int32} (h : isL c = true) : isM c = true := by unfold isM; rw [h]; rfl
theorem c_one (hd : 4 ≤ d) (hs : TS μ) (hL : LRow μ.2.2) (h0 : 0 ≤ (μ.1 6).toInt) (h1 : (μ.1 6).toInt < (μ.1 5).toInt) (hN : NM μ) (hn : (μ.1 12).toInt < 6000) (hl : (μ.1 16).toInt + (μ.1 5).toInt ≤ 6600 + (μ.1 6).toInt) (ht0 : 0 ≤ (μ.1 8).toInt) (ht1 : (μ.1 8).toInt < 6002) :
    MC X W true d 286 [.ref P.1] P μ (fun r μ1 => OneP μ r μ1) T := by
  have hs2 := hs.2
  have n16 := hN.2.1
  -- a sign
  have t297 : ∀ x1 x2 x3 x4 : Int32, (0 < x3.toInt → (μ.1 6).toInt + 2 ≤ (μ.1 5).toInt) → (0 < x4.toInt → 100 ≤ x4.toInt ∧ x4.toInt ≤ 124) → ME X W true (d - 1) 286 297 [(0, .ref P.1), (1, .int x1), (2, .int x2), (3, .int x3), (4, .int x4)] [] P μ (fun r μ1 => OneP μ r μ1) T := fun x1 x2 x3 x4 h3 h4 => by
    have ea1 : (μ.1 6 + 1).toInt = (μ.1 6).toInt + 1 := ia1 (by omega)
    have ea2 : (μ.1 6 + 2).toInt = (μ.1 6).toInt + 2 := ia2 (by omega)
    refine v_one_297 _ _ _ _ ⟨fun g => (c_token (by omega) ht0 ht1 hL).mono (fun r ν h => ?_) (fun _ h => h), fun g => (c_token (by omega) ht0 ht1 hL).mono (fun r ν h => ?_) (fun _ h => h)⟩
    · subst h
      refine ⟨fun _ => ⟨fun _ => one_fin (y := μ.1 6 + 1) kf.rf hN (kf.rf.S rfl) rfl (by omega) (by omega) (by omega) (Or.inl (by omega)) ht0 ht1 (Or.inl ⟨rfl, rfl⟩), fun g2 => by omega⟩, fun g3 => ⟨fun _ => one_fin (y := μ.1 6 + 2) kf.rf hN (kf.rf.S rfl) rfl (by omega) (by omega) (by have := h3 g3; omega) (Or.inl (by omega)) ht0 ht1 (Or.inl ⟨rfl, rfl⟩), fun g2 => by omega⟩⟩
    · subst h
      obtain ⟨g4, g5⟩ := h4 g
      have ok : okS x4 := ⟨fun e => by rw [e] at g5; revert g5; decide, fun e => by rw [e] at g5; revert g5; decide⟩
      refine ⟨fun _ => ⟨fun g2 => by omega, fun _ => one_fin (y := μ.1 6 + 1) kf.rf hN (kf.rf.S rfl) rfl (by omega) (by omega) (by omega) (Or.inl (by omega)) ht0 ht1 (Or.inr ⟨rfl, by omega, ok⟩)⟩, fun g3 => ⟨fun g2 => by omega, fun _ => one_fin (y := μ.1 6 + 2) kf.rf hN (kf.rf.S rfl) rfl (by omega) (by omega) (by have := h3 g3; omega) (Or.inl (by omega)) ht0 ht1 (Or.inr ⟨rfl, by omega, ok⟩)⟩⟩
  -- a number
  have t231 : ∀ (x1 x2 : Int32) (x3 : Int64) (x5 : Int32), (x5 = 0 ∨ x5 = 1) → 1 ≤ x2.toInt → (μ.1 6).toInt + x2.toInt ≤ (μ.1 5).toInt → ME X W true (d - 1) 286 231 [(0, .ref P.1), (1, .int x1), (2, .int x2), (3, .long x3), (5, .int x5)] [] P μ (fun r μ1 => OneP μ r μ1) T := fun x1 x2 x3 x5 h5 h2 hz => by
    have ea : (μ.1 6 + x2).toInt = (μ.1 6).toInt + x2.toInt := ia (by omega) (by omega)
    refine v_one_231 _ _ _ _ ⟨fun g => (c_token (by omega) ht0 ht1 hL).mono (fun r ν h => ?_) (fun _ h => h), fun g => (c_token (by omega) ht0 ht1 hL).mono (fun r ν h => ?_) (fun _ h => h)⟩
    · subst h
      exact ⟨h5, one_fin (y := μ.1 6 + x2) kf.rf hN (kf.rf.S rfl) rfl (by omega) (by omega) (by omega) (Or.inl (by omega)) ht0 ht1 (Or.inl ⟨g, rfl⟩)⟩
    · subst h
      exact ⟨h5, one_fin (y := μ.1 6 + x2) kf.rf hN (kf.rf.S rfl) rfl (by omega) (by omega) (by omega) (Or.inl (by omega)) ht0 ht1 (Or.inr ⟨h5.resolve_left g, by omega, by decide, by decide⟩)⟩
  have t194 : ∀ (x1 x2 : Int32) (x3 : Int64), 1 ≤ x2.toInt → (μ.1 6).toInt + x2.toInt ≤ (μ.1 5).toInt → ME X W true (d - 1) 286 194 [(0, .ref P.1), (1, .int x1), (2, .int x2), (3, .long x3)] [] P μ (fun r μ1 => OneP μ r μ1) T := fun x1 x2 x3 h2 hz => by
    have n228 := v_one_228 (X := X) (W := W) (T := T) x1 x2 x3 (t231 x1 x2 x3 0 (Or.inl rfl) h2 hz)
    have ea : (μ.1 6 + x2).toInt = (μ.1 6).toInt + x2.toInt := ia (by omega) (by omega)
    refine v_one_194 _ _ _ ⟨fun _ => n228, fun _ => ⟨fun _ => n228, fun _ => (c_see (by omega) (by omega) hs hL).mono (fun r ν h => ?_) (fun _ h => h)⟩⟩
    obtain ⟨rfl, rfl⟩ := h
    refine (c_isNamed (by omega)).mono (fun r ν2 h => ?_) (fun _ h => h)
    obtain ⟨rfl, rfl⟩ := h
    exact ⟨fun _ => n228, fun _ => t231 _ _ _ _ (Or.inr rfl) h2 hz⟩
  have t144 : ∀ (j : Nat) (x1 x2 : Int32) (x3 : Int64), (11 - x2.toInt).toNat < j → 0 ≤ x2.toInt → x2.toInt ≤ 11 → (μ.1 6).toInt + x2.toInt ≤ (μ.1 5).toInt → (x2 = 0 → isD (seeV μ (μ.1 6)) = true) → ME X W true (d - 1) 286 144 [(0, .ref P.1), (1, .int x1), (2, .int x2), (3, .long x3)] [] P μ (fun r μ1 => OneP μ r μ1) T := by
    intro j
    induction j with
    | zero => intro x1 x2 x3 hj; omega
    | succ j ih =>
      intro x1 x2 x3 hj g0 g1 g2 g3
      have ea : (μ.1 6 + x2).toInt = (μ.1 6).toInt + x2.toInt := ia (by omega) (by omega)
      have e1 : (x2 + 1).toInt = x2.toInt + 1 := ia1 (by omega)
      refine v_one_144 _ _ _ ((c_see (by omega) (by omega) hs hL).mono (fun r ν h => ?_) (fun _ h => h))
      obtain ⟨rfl, rfl⟩ := h
      refine (c_isDigit (by omega)).mono (fun r ν2 h => ?_) (fun _ h => h)
      obtain ⟨rfl, rfl⟩ := h
      refine ⟨fun h => t194 _ _ _ ?_ g2, fun h => ⟨fun h2 => t194 _ _ _ (by omega) g2, fun h2 => (c_see (by omega) (by omega) hs hL).mono (fun r ν3 h3 => ?_) (fun _ h => h)⟩⟩
      · by_cases e : x2.toInt = 0
        · have e0 : x2 = 0 := i_eq (by rw [e]; rfl)
          have := g3 e0
          rw [e0, Int32.add_zero] at h
          rw [bI_f h] at this
          cases this
        · omega
      · obtain ⟨rfl, rfl⟩ := h3
        have hlt := seeV_neg (isD_0 (bI_t h))
        exact ih _ _ _ (by omega) (by omega) (by omega) (by omega) (fun e => by have := eq_i e; rw [e1, show (0 : Int32).toInt = 0 from rfl] at this; omega)
  -- a name
  have t62 : ∀ (j : Nat) (x1 x2 x3 : Int32) (ν : MS), (x2.toInt - x3.toInt).toNat < j → 0 ≤ x3.toInt → 1 ≤ x2.toInt → x2.toInt ≤ 16 → (μ.1 6).toInt + x2.toInt ≤ (μ.1 5).toInt → kf [] [15] μ ν → isM (seeV μ (μ.1 6)) = true → isM (seeV μ (μ.1 6 + x2)) = false → ME X W true (d - 1) 286 62 [(0, .ref P.1), (1, .int x1), (2, .int x2), (3, .int x3)] [] P ν (fun r μ1 => OneP μ r μ1) T := by
    intro j
    induction j with
    | zero => intro x1 x2 x3 ν hj; omega
    | succ j ih =>
      intro x1 x2 x3 ν hj g0 g1 g2 g3 hf q1 q2
      have hNν : NM ν := hN.kf hf rfl rfl rfl rfl
      have e6 : ν.1 6 = μ.1 6 := hf.1 6 rfl
      have e8 : ν.1 8 = μ.1 8 := hf.1 8 rfl
      have e12 : ν.1 12 = μ.1 12 := hf.1 12 rfl
      have e16 : ν.1 16 = μ.1 16 := hf.1 16 rfl
      have hLν := hL.to hf
      refine v_one_62 _ _ _ ⟨fun _ => (c_nameOf (by omega) (by omega) hNν (by rw [e12]; exact hn) (by rw [e16]; omega) hLν).mono (fun r ν1 h => ?_) (fun _ h => h), fun hlt => ⟨MI.of (hLν.g rfl rfl : _ = 6000) ?_ ?_, MI.of (hLν.g rfl rfl : _ = 6600) ?_ ?_, ih _ _ _ _ ?_ ?_ g1 g2 g3 (hf.A rfl) q1 q2⟩⟩
      · obtain ⟨k1, k2, ⟨k3, k3'⟩, ⟨k4, k5⟩, k6, k7⟩ := h
        rw [e12] at k4 k5
        rw [e16] at k6 k7
        have f8 : ν1.1 8 = μ.1 8 := (k2.1 8 rfl).trans e8
        have f6 : ν1.1 6 = μ.1 6 := (k2.1 6 rfl).trans e6
        have ea : (ν1.1 6 + x2).toInt = (μ.1 6).toInt + x2.toInt := by rw [f6]; exact ia (by omega) (by omega)
        have hkf : kf [12, 16] [13, 14, 15] μ ν1 := (hf.up rfl rfl).tr (k2.up rfl rfl)
        have hsee : isM (seeV μ (ν1.1 6 + x2)) = false := by rw [f6]; exact q2
        have hok : r.toInt < 58 → okS r := fun h => ⟨fun e => by rw [e] at h; revert h; decide, fun e => by rw [e] at h; revert h; decide⟩
        refine ⟨fun _ => (c_token (by omega) (by rw [f8]; exact ht0) (by rw [f8]; exact ht1) (hL.to hkf)).mono (fun r2 ν2 h => ?_) (fun _ h => h), fun hr => (c_token (by omega) (by rw [f8]; exact ht0) (by rw [f8]; exact ht1) (hL.to hkf)).mono (fun r2 ν2 h => ?_) (fun _ h => h)⟩
        · subst h
          exact one_fin (y := ν1.1 6 + x2) hkf k1 (kf.rf.S rfl) rfl (by omega) (by omega) (by omega) (Or.inr ⟨k5, q1, hsee⟩) ht0 ht1 (Or.inr ⟨rfl, by omega, by decide, by decide⟩)
        · subst h
          exact one_fin (y := ν1.1 6 + x2) hkf k1 (kf.rf.S rfl) rfl (by omega) (by omega) (by omega) (Or.inr ⟨k5, q1, hsee⟩) ht0 ht1 (Or.inr ⟨rfl, by omega, hok hr⟩)
      · rw [e6, ia (by omega) (by omega)]; omega
      · rw [e6, ia (by omega) (by omega)]; omega
      · rw [e16, ia (by omega) (by omega)]; omega
      · rw [e16, ia (by omega) (by omega)]; omega
      · rw [ia1 (by omega)]; omega
      · rw [ia1 (by omega)]; omega
  have t18 : ∀ (j : Nat) (x1 x2 : Int32), ((μ.1 5).toInt - (μ.1 6).toInt - x2.toInt).toNat < j → 0 ≤ x2.toInt → (μ.1 6).toInt + x2.toInt ≤ (μ.1 5).toInt → isM (seeV μ (μ.1 6)) = true → ME X W true (d - 1) 286 18 [(0, .ref P.1), (1, .int x1), (2, .int x2)] [] P μ (fun r μ1 => OneP μ r μ1) T := by
    intro j
    induction j with
    | zero => intro x1 x2 hj; omega
    | succ j ih =>
      intro x1 x2 hj g0 g1 q1
      have ea : (μ.1 6 + x2).toInt = (μ.1 6).toInt + x2.toInt := ia (by omega) (by omega)
      have e1 : (x2 + 1).toInt = x2.toInt + 1 := ia1 (by omega)
      refine v_one_18 _ _ ((c_see (by omega) (by omega) hs hL).mono (fun r ν h => ?_) (fun _ h => h))
      obtain ⟨rfl, rfl⟩ := h
      refine (c_isNamed (by omega)).mono (fun r ν2 h => ?_) (fun _ h => h)
      obtain ⟨rfl, rfl⟩ := h
      refine ⟨fun h => ?_, fun h => ih _ _ ?_ (by omega) ?_ q1⟩
      · have hx : 1 ≤ x2.toInt := by
          by_cases e : x2.toInt = 0
          · have e0 : x2 = 0 := i_eq (by rw [e]; rfl)
            rw [e0, Int32.add_zero] at h
            rw [bI_f h] at q1
            cases q1
          · omega
        refine ⟨fun g => t62 _ _ _ _ _ (Nat.lt_succ_self _) (by decide) hx (by omega) g1 kf.rf q1 (bI_f h), fun g => (c_token (by omega) ht0 ht1 hL).mono (fun r2 ν3 h => ?_) (fun _ h => h)⟩
        subst h
        exact one_fin (y := ν2.1 6) kf.rf hN kf.rf rfl (by omega) (by omega) (by omega) (Or.inl (by omega)) ht0 ht1 (Or.inl ⟨rfl, rfl⟩)
      · have hlt := seeV_neg (isM_0 (bI_t h)); omega
      · have hlt := seeV_neg (isM_0 (bI_t h)); omega
  refine me_meth (by omega) rfl (v_one_0 ((c_see (by omega) h0 hs hL).mono (fun r ν h => ?_) (fun _ h => h)))
  obtain ⟨rfl, rfl⟩ := h
  refine (c_isLetter (by omega)).mono (fun r ν2 h => ?_) (fun _ h => h)
  obtain ⟨rfl, rfl⟩ := h
  refine ⟨fun _ => (c_isDigit (by omega)).mono (fun r ν3 h => ?_) (fun _ h => h), fun h => t18 _ _ _ (Nat.lt_succ_self _) (by decide) (by show _ + (0 : Int) ≤ _; omega) (isL_M (bI_t h))⟩
  obtain ⟨rfl, rfl⟩ := h
  refine ⟨fun _ => (c_see (by omega) (by rw [ia1 (by omega)]; omega) hs hL).mono (fun r ν4 h => ?_) (fun _ h => h), fun h => t144 _ _ _ _ (Nat.lt_succ_self _) (by decide) (by decide) (by show _ + (0 : Int) ≤ _; omega) (fun _ => bI_t h)⟩
  obtain ⟨rfl, rfl⟩ := h
  refine (c_twoOf (by omega)).mono (fun r5 ν5 h => ?_) (fun _ h => h)
  obtain ⟨rfl, h5⟩ := h
  have w5 : 0 < r5.toInt → (ν5.1 6).toInt + 2 ≤ (ν5.1 5).toInt := fun h => by
    rcases h5 with rfl | ⟨-, -, h6⟩
    · exact absurd h (by decide)
    · have := seeV_neg h6; rw [ia1 (by omega)] at this; omega
  have v5 : 0 < r5.toInt → 100 ≤ r5.toInt ∧ r5.toInt ≤ 124 := fun h => by
    rcases h5 with rfl | ⟨h6, h7, -⟩
    · exact absurd h (by decide)
    · exact ⟨h6, h7⟩
  refine ⟨fun _ => (c_oneOf (by omega)).mono (fun r6 ν6 h => ?_) (fun _ h => h), fun _ => t297 _ _ _ _ w5 v5⟩
  obtain ⟨rfl, h6⟩ := h
  refine t297 _ _ _ _ w5 (fun h => ?_)
  rcases h6 with rfl | ⟨h6, h7⟩
  · exact absurd h (by decide)
  · exact ⟨h6, h7⟩
end TXC
