/-! contracts of the reference: the text's letters and names -/
def seeV (μ : MS) (k : Int32) : Int32 := if k.toInt < (μ.1 5).toInt then μ.2.1 4 k.toNatClampNeg &&& 255 else -1
/-- the text's length -/
def TS (μ : MS) : Prop := 0 ≤ (μ.1 5).toInt ∧ (μ.1 5).toInt ≤ 6000
theorem seeV_neg {μ : MS} {k : Int32} (h : 0 ≤ (seeV μ k).toInt) : k.toInt < (μ.1 5).toInt := by
  unfold seeV at h
  split at h
  · assumption
  · rw [show (-1 : Int32).toInt = -1 from rfl] at h; omega
theorem seeV_pos {μ : MS} {k : Int32} (h : (seeV μ k).toInt < 0) : (μ.1 5).toInt ≤ k.toInt := by
  unfold seeV at h
  split at h
  · have := and255 (μ.2.1 4 k.toNatClampNeg); omega
  · omega
theorem seeV_kf {s r : List Nat} {μ μ1 : MS} {k : Int32} (h : kf s r μ μ1) (h5 : s.contains 5 = false) (h4 : r.contains 4 = false) : seeV μ1 k = seeV μ k := by
  unfold seeV
  rw [h.1 5 h5, h.2.1 4 h4]
def inB (c a b : Int32) : Bool := decide (a.toInt ≤ c.toInt) && decide (c.toInt ≤ b.toInt)
def isL (c : Int32) : Bool := inB c 97 122 || inB c 65 90
def isD (c : Int32) : Bool := inB c 48 57
def isM (c : Int32) : Bool := isL c || (isD c || decide (c = 95))
theorem inB_0 {c a b : Int32} (h : inB c a b = true) : a.toInt ≤ c.toInt := by
  unfold inB at h
  rw [Bool.and_eq_true] at h
  simpa using h.1
theorem isD_0 {c : Int32} (h : isD c = true) : 0 ≤ c.toInt := by have := inB_0 h; rw [show (48 : Int32).toInt = 48 from rfl] at this; omega
theorem isL_0 {c : Int32} (h : isL c = true) : 0 ≤ c.toInt := by
  unfold isL at h
  rw [Bool.or_eq_true] at h
  rcases h with h | h
  · have := inB_0 h; rw [show (97 : Int32).toInt = 97 from rfl] at this; omega
  · have := inB_0 h; rw [show (65 : Int32).toInt = 65 from rfl] at this; omega
theorem isM_0 {c : Int32} (h : isM c = true) : 0 ≤ c.toInt := by
  unfold isM at h
  rw [Bool.or_eq_true, Bool.or_eq_true] at h
  rcases h with h | h | h
  · exact isL_0 h
  · exact isD_0 h
  · have h : c = 95 := by simpa using h
    rw [h]; decide
section TXA
variable {X : ev_X} {W : Nat → Prop} {d : Nat} {P : MP} {μ : MS} {T : MS → Prop}
theorem c_see {k : Int32} (hd : 1 ≤ d) (hk : 0 ≤ k.toInt) (hs : TS μ) (hL : LRow μ.2.2) : MC X W true d 276 [.ref P.1, .int k] P μ (fun r μ1 => r = seeV μ k ∧ μ1 = μ) T := by
  refine me_meth hd rfl (v_see_0 _ ⟨fun h => ⟨?_, rfl⟩, fun h => ⟨MI.of (hL.g rfl rfl : _ = 6000) hk (by have := hs.2; omega), ?_, rfl⟩⟩)
  · unfold seeV; rw [if_neg (by omega)]
  · unfold seeV; rw [if_pos h]
theorem c_in {c a b : Int32} (hd : 1 ≤ d) : MC X W true d 272 [.int c, .int a, .int b] P μ (fun r μ1 => r = bI (inB c a b) ∧ μ1 = μ) T := by
  refine me_meth hd rfl (v_in_0 _ _ _ ⟨fun h => ⟨?_, rfl⟩, fun h => ⟨fun h2 => ⟨?_, rfl⟩, fun h2 => ⟨?_, rfl⟩⟩⟩)
  · unfold inB; rw [decide_eq_false (by omega)]; rfl
  · unfold inB; rw [decide_eq_true h, decide_eq_false (by omega)]; rfl
  · unfold inB; rw [decide_eq_true h, decide_eq_true h2]; rfl
theorem c_isLetter {c : Int32} (hd : 2 ≤ d) : MC X W true d 277 [.int c] P μ (fun r μ1 => r = bI (isL c) ∧ μ1 = μ) T := by
  refine me_meth (by omega) rfl (v_isLetter_0 _ ((c_in (by omega)).mono (fun r μ1 h => ?_) (fun _ h => h)))
  obtain ⟨rfl, rfl⟩ := h
  refine ⟨fun h => ⟨?_, rfl⟩, fun h => (c_in (by omega)).mono (fun r μ1 h2 => ?_) (fun _ h => h)⟩
  · unfold isL; rw [bI_t h]; rfl
  · obtain ⟨rfl, rfl⟩ := h2
    unfold isL
    rw [bI_f h]
    refine ⟨fun h2 => ⟨?_, rfl⟩, fun h2 => ⟨?_, rfl⟩⟩
    · rw [bI_f h2]; rfl
    · rw [bI_t h2]; rfl
theorem c_isDigit {c : Int32} (hd : 2 ≤ d) : MC X W true d 278 [.int c] P μ (fun r μ1 => r = bI (isD c) ∧ μ1 = μ) T := by
  refine me_meth (by omega) rfl (v_isDigit_0 _ ((c_in (by omega)).mono (fun r μ1 h => ?_) (fun _ h => h)))
  obtain ⟨rfl, rfl⟩ := h
  exact ⟨bI_01 _, rfl, rfl⟩
theorem c_isNamed {c : Int32} (hd : 3 ≤ d) : MC X W true d 279 [.int c] P μ (fun r μ1 => r = bI (isM c) ∧ μ1 = μ) T := by
  refine me_meth (by omega) rfl (v_isNamed_0 _ ((c_isLetter (by omega)).mono (fun r μ1 h => ?_) (fun _ h => h)))
  obtain ⟨rfl, rfl⟩ := h
  unfold isM
  refine ⟨fun h => ⟨?_, rfl⟩, fun h => (c_isDigit (by omega)).mono (fun r μ1 h2 => ?_) (fun _ h => h)⟩
  · rw [bI_t h]; rfl
  · obtain ⟨rfl, rfl⟩ := h2
    rw [bI_f h]
    refine ⟨fun h2 => ⟨?_, rfl⟩, fun h2 => ?_⟩
    · rw [bI_t h2]; rfl
    · rw [bI_f h2]
      refine ⟨fun h3 => ⟨?_, rfl⟩, fun h3 => ⟨?_, rfl⟩⟩
      · rw [decide_eq_false h3]; rfl
      · rw [decide_eq_true h3]; rfl
/-- a token more -/
def tokS (μ : MS) (s v l : Int32) : MS := mS1 (mA1 (mA1 (mA1 μ 9 (μ.1 8).toNatClampNeg s) 10 (μ.1 8).toNatClampNeg v) 11 (μ.1 8).toNatClampNeg l) 8 (μ.1 8 + 1)
theorem tokS_kf {s v l : Int32} : kf [8] [9, 10, 11] μ (tokS μ s v l) := (((kf.rf.A rfl).A rfl).A rfl).S rfl
theorem c_token {s v l : Int32} (hd : 1 ≤ d) (h0 : 0 ≤ (μ.1 8).toInt) (h1 : (μ.1 8).toInt < 6002) (hL : LRow μ.2.2) : MC X W true d 282 [.ref P.1, .int s, .int v, .int l] P μ (fun _ μ1 => μ1 = tokS μ s v l) T :=
  me_meth hd rfl (v_token_0 _ _ _ ⟨MI.of (hL.g rfl rfl : _ = 6002) h0 h1, MI.of (hL.g rfl rfl : _ = 6002) h0 h1, MI.of (hL.g rfl rfl : _ = 6002) h0 h1, rfl⟩)
/-- the names so far -/
def NM (μ : MS) : Prop := 0 ≤ (μ.1 12).toInt ∧ 0 ≤ (μ.1 16).toInt ∧ ∀ k : Nat, (k : Int) < (μ.1 12).toInt → 0 ≤ (μ.2.1 13 k).toInt ∧ 0 ≤ (μ.2.1 14 k).toInt ∧ (μ.2.1 13 k).toInt + (μ.2.1 14 k).toInt ≤ (μ.1 16).toInt
theorem NM.kf {s r : List Nat} {μ1 : MS} (h : NM μ) (hf : kf s r μ μ1) (h12 : s.contains 12 = false) (h16 : s.contains 16 = false) (h13 : r.contains 13 = false) (h14 : r.contains 14 = false) : NM μ1 := by
  unfold NM
  rw [hf.1 12 h12, hf.1 16 h16, hf.2.1 13 h13, hf.2.1 14 h14]
  exact h
theorem c_nameOf {n : Int32} (hd : 1 ≤ d) (hn : 0 ≤ n.toInt) (hN : NM μ) (h1 : (μ.1 12).toInt < 6000) (h2 : (μ.1 16).toInt + n.toInt ≤ 6600) (hL : LRow μ.2.2) : MC X W true d 280 [.ref P.1, .int n] P μ (fun r μ1 => NM μ1 ∧ kf [12, 16] [13, 14] μ μ1 ∧ (0 ≤ r.toInt ∧ r.toInt < (μ1.1 12).toInt) ∧ ((μ.1 12).toInt ≤ (μ1.1 12).toInt ∧ (μ1.1 12).toInt ≤ (μ.1 12).toInt + 1) ∧ (μ.1 16).toInt ≤ (μ1.1 16).toInt ∧ (μ1.1 16).toInt ≤ (μ.1 16).toInt + n.toInt) T := by
  obtain ⟨n1, n2, n3⟩ := hN
  have l13 : μ.2.2 13 = 6000 := hL.g rfl rfl
  have l14 : μ.2.2 14 = 6000 := hL.g rfl rfl
  have l15 : μ.2.2 15 = 6600 := hL.g rfl rfl
  have e12 : (μ.1 12 + 1).toInt = (μ.1 12).toInt + 1 := ia1 (by omega)
  have e16 : (μ.1 16 + n).toInt = (μ.1 16).toInt + n.toInt := ia (by omega) (by omega)
  have er : (μ.1 12 + 1 - 1).toInt = (μ.1 12).toInt := by rw [ib (by rw [e12]; show _ ≤ _ - (1 : Int); omega) (by rw [e12]; show _ - (1 : Int) < _; omega), e12]; show _ + 1 - (1 : Int) = _; omega
  refine me_meth hd rfl (v_nameOf_0 _ ?_)
  suffices key : ∀ (j : Nat) (k : Int32), 0 ≤ k.toInt → ((μ.1 12).toInt - k.toInt).toNat ≤ j → ME X W true (d - 1) 280 2 [(0, .ref P.1), (1, .int n), (2, .int k)] [] P μ (fun r μ1 => NM μ1 ∧ kf [12, 16] [13, 14] μ μ1 ∧ (0 ≤ r.toInt ∧ r.toInt < (μ1.1 12).toInt) ∧ ((μ.1 12).toInt ≤ (μ1.1 12).toInt ∧ (μ1.1 12).toInt ≤ (μ.1 12).toInt + 1) ∧ (μ.1 16).toInt ≤ (μ1.1 16).toInt ∧ (μ1.1 16).toInt ≤ (μ.1 16).toInt + n.toInt) T from key _ 0 (by decide) (Nat.le_refl _)
  have out : NM (mS1 (mS1 (mA1 (mA1 μ 13 (μ.1 12).toNatClampNeg (μ.1 16)) 14 (μ.1 12).toNatClampNeg n) 16 (μ.1 16 + n)) 12 (μ.1 12 + 1)) := by
    refine ⟨by show 0 ≤ (μ.1 12 + 1).toInt; omega, by show 0 ≤ (μ.1 16 + n).toInt; omega, fun k hk => ?_⟩
    have hk : (k : Int) < (μ.1 12 + 1).toInt := hk
    show 0 ≤ (upd (μ.2.1 13) (μ.1 12).toNatClampNeg (μ.1 16) k).toInt ∧ 0 ≤ (upd (μ.2.1 14) (μ.1 12).toNatClampNeg n k).toInt ∧ (upd (μ.2.1 13) (μ.1 12).toNatClampNeg (μ.1 16) k).toInt + (upd (μ.2.1 14) (μ.1 12).toNatClampNeg n k).toInt ≤ (μ.1 16 + n).toInt
    have hc : (μ.1 12).toNatClampNeg = (μ.1 12).toInt.toNat := rfl
    unfold upd
    by_cases e : k = (μ.1 12).toNatClampNeg
    · rw [if_pos e, if_pos e]; exact ⟨n2, hn, by omega⟩
    · rw [if_neg e, if_neg e]
      obtain ⟨q1, q2, q3⟩ := n3 k (by omega)
      exact ⟨q1, q2, by omega⟩
  intro j
  induction j with
  | zero =>
    intro k hk hj
    refine v_nameOf_2 _ _ ⟨fun hge => ⟨MI.of l13 n1 h1, MI.of l14 n1 h1, out, (((kf.rf.A rfl).A rfl).S rfl).S rfl, ⟨by rw [er]; exact n1, by rw [er]; show _ < (μ.1 12 + 1).toInt; omega⟩, ⟨by show _ ≤ (μ.1 12 + 1).toInt; omega, by show (μ.1 12 + 1).toInt ≤ _; omega⟩, by show _ ≤ (μ.1 16 + n).toInt; omega, by show (μ.1 16 + n).toInt ≤ _; omega⟩, fun hlt => ?_⟩
    omega
  | succ j ih =>
    intro k hk hj
    refine v_nameOf_2 _ _ ⟨fun hge => ⟨MI.of l13 n1 h1, MI.of l14 n1 h1, out, (((kf.rf.A rfl).A rfl).S rfl).S rfl, ⟨by rw [er]; exact n1, by rw [er]; show _ < (μ.1 12 + 1).toInt; omega⟩, ⟨by show _ ≤ (μ.1 12 + 1).toInt; omega, by show (μ.1 12 + 1).toInt ≤ _; omega⟩, by show _ ≤ (μ.1 16 + n).toInt; omega, by show (μ.1 16 + n).toInt ≤ _; omega⟩, fun hlt => ⟨MI.of l14 hk (by omega), ?_⟩⟩
    have ek : (k + 1).toInt = k.toInt + 1 := ia1 (by omega)
    have nxt : ME X W true (d - 1) 280 2 [(0, .ref P.1), (1, .int n), (2, .int (k + 1))] [] P μ (fun r μ1 => NM μ1 ∧ kf [12, 16] [13, 14] μ μ1 ∧ (0 ≤ r.toInt ∧ r.toInt < (μ1.1 12).toInt) ∧ ((μ.1 12).toInt ≤ (μ1.1 12).toInt ∧ (μ1.1 12).toInt ≤ (μ.1 12).toInt + 1) ∧ (μ.1 16).toInt ≤ (μ1.1 16).toInt ∧ (μ1.1 16).toInt ≤ (μ.1 16).toInt + n.toInt) T := ih (k + 1) (by omega) (by omega)
    obtain ⟨q1, q2, q3⟩ := n3 k.toNatClampNeg (by have := @ic k; omega)
    have inner : ∀ (j2 : Nat) (b i : Int32), 0 ≤ i.toInt → i.toInt ≤ n.toInt → (¬ b = 0 → μ.2.1 14 k.toNatClampNeg = n) → (n.toInt - i.toInt).toNat ≤ j2 → ME X W true (d - 1) 280 29 [(0, .ref P.1), (1, .int n), (2, .int k), (3, .int b), (4, .int i)] [] P μ (fun r μ1 => NM μ1 ∧ kf [12, 16] [13, 14] μ μ1 ∧ (0 ≤ r.toInt ∧ r.toInt < (μ1.1 12).toInt) ∧ ((μ.1 12).toInt ≤ (μ1.1 12).toInt ∧ (μ1.1 12).toInt ≤ (μ.1 12).toInt + 1) ∧ (μ.1 16).toInt ≤ (μ1.1 16).toInt ∧ (μ1.1 16).toInt ≤ (μ.1 16).toInt + n.toInt) T := by
      have done : NM μ ∧ kf [12, 16] [13, 14] μ μ ∧ (0 ≤ k.toInt ∧ k.toInt < (μ.1 12).toInt) ∧ ((μ.1 12).toInt ≤ (μ.1 12).toInt ∧ (μ.1 12).toInt ≤ (μ.1 12).toInt + 1) ∧ (μ.1 16).toInt ≤ (μ.1 16).toInt ∧ (μ.1 16).toInt ≤ (μ.1 16).toInt + n.toInt := ⟨⟨n1, n2, n3⟩, kf.rf, ⟨hk, hlt⟩, ⟨by omega, by omega⟩, by omega, by omega⟩
      intro j2
      induction j2 with
      | zero =>
        intro b i hi hin hb hj2
        exact v_nameOf_29 _ _ _ _ ⟨fun h0 => ⟨fun _ => nxt, fun h => absurd h0 h⟩, fun h0 => ⟨fun _ => ⟨fun h => absurd h h0, fun _ => done⟩, fun hlt2 => by omega⟩⟩
      | succ j2 ih2 =>
        intro b i hi hin hb hj2
        refine v_nameOf_29 _ _ _ _ ⟨fun h0 => ⟨fun _ => nxt, fun h => absurd h0 h⟩, fun h0 => ⟨fun _ => ⟨fun h => absurd h h0, fun _ => done⟩, fun hlt2 => ?_⟩⟩
        have hs := hb h0
        rw [hs] at q3 q2
        have ei : (i + 1).toInt = i.toInt + 1 := ia1 (by omega)
        have e1 : (μ.2.1 13 k.toNatClampNeg + i).toInt = (μ.2.1 13 k.toNatClampNeg).toInt + i.toInt := ia (by omega) (by omega)
        have e2 : (μ.1 16 + i).toInt = (μ.1 16).toInt + i.toInt := ia (by omega) (by omega)
        refine ⟨MI.of l13 hk (by omega), MI.of l15 (by omega) (by omega), MI.of l15 (by omega) (by omega), fun _ => ih2 0 (i + 1) (by omega) (by omega) (fun h => absurd rfl h) (by omega), fun _ => ih2 1 (i + 1) (by omega) (by omega) (fun _ => hs) (by omega)⟩
    exact ⟨fun h => inner _ 0 0 (by decide) (by show (0 : Int) ≤ _; omega) (fun h => absurd rfl h) (Nat.le_refl _), fun h => inner _ 1 0 (by decide) (by show (0 : Int) ≤ _; omega) (fun _ => h) (Nat.le_refl _)⟩
end TXA
