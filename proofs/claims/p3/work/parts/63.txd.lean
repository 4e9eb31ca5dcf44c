/-! contracts of the reference: all tokens -/
/-- the tokens of a text: the last one is an end or bad, no other is -/
def CutP (μ : MS) : Prop := 1 ≤ (μ.1 8).toInt ∧ (μ.1 8).toInt ≤ 6002 ∧ (∀ i : Nat, (i : Int) + 1 < (μ.1 8).toInt → okS (μ.2.1 9 i)) ∧ ¬ okS (μ.2.1 9 ((μ.1 8).toInt.toNat - 1))
theorem CutP.kf {s r : List Nat} {μ μ1 : MS} (h : CutP μ) (hf : kf s r μ μ1) (h8 : s.contains 8 = false) (h9 : r.contains 9 = false) : CutP μ1 := by
  unfold CutP
  rw [hf.1 8 h8, hf.2.1 9 h9]
  exact h
theorem CutP.tok {μ : MS} {s v l : Int32} (h0 : 0 ≤ (μ.1 8).toInt) (h1 : (μ.1 8).toInt < 6002) (hg : ∀ i : Nat, (i : Int) < (μ.1 8).toInt → okS (μ.2.1 9 i)) (hs : ¬ okS s) : CutP (tokS μ s v l) := by
  have e8 : (μ.1 8 + 1).toInt = (μ.1 8).toInt + 1 := ia1 (by omega)
  have hc := @ic (μ.1 8)
  refine ⟨by show 1 ≤ (μ.1 8 + 1).toInt; omega, by show (μ.1 8 + 1).toInt ≤ _; omega, fun i hi => ?_, ?_⟩
  · have hi : (i : Int) + 1 < (μ.1 8 + 1).toInt := hi
    show okS (upd (μ.2.1 9) (μ.1 8).toNatClampNeg s i)
    unfold upd
    rw [if_neg (by omega)]
    exact hg i (by omega)
  · show ¬ okS (upd (μ.2.1 9) (μ.1 8).toNatClampNeg s ((μ.1 8 + 1).toInt.toNat - 1))
    unfold upd
    rw [if_pos (by omega)]
    exact hs
/-- between two tokens -/
def CI (μ ν : MS) : Prop := kf [6, 7, 8, 12, 16] [9, 10, 11, 13, 14, 15] μ ν ∧ (0 ≤ (ν.1 6).toInt ∧ (ν.1 6).toInt ≤ (ν.1 5).toInt) ∧ (0 ≤ (ν.1 8).toInt ∧ (ν.1 8).toInt ≤ (ν.1 6).toInt) ∧ NM ν ∧ (ν.1 16).toInt ≤ 345 + (ν.1 6).toInt ∧ 2 * ((ν.1 12).toInt - 345) ≤ (ν.1 6).toInt + 1 ∧ (isM (seeV ν (ν.1 6)) = true → 2 * ((ν.1 12).toInt - 345) ≤ (ν.1 6).toInt) ∧ ∀ i : Nat, (i : Int) < (ν.1 8).toInt → okS (ν.2.1 9 i)
theorem CI.pass {μ ν ν1 : MS} (h : CI μ ν) (k : kf [6, 7] [] ν ν1) (h1 : (ν.1 6).toInt ≤ (ν1.1 6).toInt) (h2 : (ν1.1 6).toInt ≤ (ν.1 5).toInt) : CI μ ν1 := by
  obtain ⟨a1, ⟨a2, a3⟩, ⟨a4, a5⟩, a6, a7, a8, a9, a10⟩ := h
  have e5 : ν1.1 5 = ν.1 5 := k.1 5 rfl
  have e8 : ν1.1 8 = ν.1 8 := k.1 8 rfl
  have e12 : ν1.1 12 = ν.1 12 := k.1 12 rfl
  have e16 : ν1.1 16 = ν.1 16 := k.1 16 rfl
  have e9 : ν1.2.1 9 = ν.2.1 9 := k.2.1 9 rfl
  refine ⟨a1.tr (k.up rfl rfl), ⟨by omega, by rw [e5]; exact h2⟩, ⟨by rw [e8]; exact a4, by rw [e8]; omega⟩, a6.kf k rfl rfl rfl rfl, by rw [e16]; omega, by rw [e12]; omega, fun hm => ?_, by rw [e8, e9]; exact a10⟩
  rw [e12]
  by_cases e : (ν1.1 6).toInt = (ν.1 6).toInt
  · have e6 : ν1.1 6 = ν.1 6 := i_eq e
    rw [seeV_kf k rfl rfl, e6] at hm
    have := a9 hm
    omega
  · omega
section TXD
variable {X : ev_X} {W : Nat → Prop} {d : Nat} {P : MP} {μ : MS} {T : MS → Prop}
theorem c_cut (hd : 5 ≤ d) (hs : TS μ) (hL : LRow μ.2.2) : MC X W true d 285 [.ref P.1] P μ (fun _ μ1 => kf [6, 7, 8, 12, 16] [9, 10, 11, 13, 14, 15] μ μ1 ∧ CutP μ1) T := by
  have hs1 := hs.1
  have hs2 := hs.2
  have key : ∀ (j : Nat) (x1 : Int32) (ν : MS), ((ν.1 5).toInt - (ν.1 6).toInt).toNat < j → (x1 = 0 → kf [6, 7, 8, 12, 16] [9, 10, 11, 13, 14, 15] μ ν ∧ CutP ν) → (¬ x1 = 0 → CI μ ν) →
      ME X W true (d - 1) 285 21 [(0, .ref P.1), (1, .int x1)] [] P ν (fun _ μ1 => kf [6, 7, 8, 12, 16] [9, 10, 11, 13, 14, 15] μ μ1 ∧ CutP μ1) T := by
    intro j
    induction j with
    | zero => intro x1 ν hj; omega
    | succ j ih =>
      intro x1 ν hj g0 g1
      refine v_cut_21 _ ⟨fun h => g0 h, fun h => ?_⟩
      have hI := g1 h
      have e5 : ν.1 5 = μ.1 5 := hI.1.1 5 rfl
      have hsν : TS ν := by unfold TS; rw [e5]; exact hs
      refine (c_passes (by omega) hsν (hL.to hI.1) hI.2.1.1 hI.2.1.2).mono (fun r ν1 h => ?_) (fun _ h => h)
      obtain ⟨k1, k2, k3⟩ := h
      have hJ := hI.pass k1 k2 k3
      obtain ⟨a1, ⟨a2, a3⟩, ⟨a4, a5⟩, a6, a7, a8, a9, a10⟩ := id hJ
      have f5 : ν1.1 5 = μ.1 5 := a1.1 5 rfl
      have f5i := eq_i f5
      have e5i := eq_i e5
      have tok : ∀ {s v l : Int32}, ¬ okS s → MC X W true (d - 1) 282 [.ref P.1, .int s, .int v, .int l] P ν1 (fun _ μ1 => kf [6, 7, 8, 12, 16] [9, 10, 11, 13, 14, 15] μ μ1 ∧ CutP μ1) (fun _ => False) := fun hs => (c_token (by omega) a4 (by omega) (hL.to a1)).mono (fun r ν2 h => by subst h; exact ⟨a1.tr (tokS_kf.up rfl rfl), CutP.tok a4 (by omega) a10 hs⟩) (fun _ h => h)
      refine ⟨fun _ => ⟨fun hne => ?_, fun _ => tok (fun h => h.2 rfl)⟩, fun _ => tok (fun h => h.1 rfl)⟩
      have hne := ne_i hne
      have hsν1 : TS ν1 := by unfold TS; rw [f5]; exact hs
      refine (c_one (by omega) hsν1 (hL.to a1) a2 (by omega) a6 (by omega) (by omega) a4 (by omega)).mono (fun r ν2 h => ?_) (fun _ h => h)
      obtain ⟨b1, b2, ⟨b3, b4⟩, b5, b6, b7, b8, b9⟩ := h
      have h5 : ν2.1 5 = ν1.1 5 := b1.1 5 rfl
      have h5i := eq_i h5
      have bf : kf [6, 7, 8, 12, 16] [9, 10, 11, 13, 14, 15] μ ν2 := a1.tr (b1.up rfl rfl)
      have hc := @ic (ν1.1 8)
      rcases b9 with ⟨rfl, b9⟩ | ⟨rfl, b9, b10⟩
      · refine v_cut_21 _ ⟨fun _ => ⟨bf, by omega, by omega, fun i hi => ?_, ?_⟩, fun h => absurd rfl h⟩
        · rw [b8 i (by omega)]; exact a10 i (by omega)
        · rw [show (ν2.1 8).toInt.toNat - 1 = (ν1.1 8).toNatClampNeg by omega, b9]
          exact fun h => h.1 rfl
      · have hsee : ∀ x, seeV ν2 x = seeV ν1 x := fun x => by unfold seeV; rw [b1.1 5 rfl, b1.2.1 4 rfl]
        refine ih 1 ν2 (by omega) (fun h => by cases h) (fun _ => ⟨bf, ⟨by omega, by omega⟩, ⟨by omega, by omega⟩, b2, by omega, ?_, fun hm => ?_, fun i hi => ?_⟩)
        · rcases b7 with b7 | ⟨b7, b7', b7''⟩
          · omega
          · have := a9 b7'; omega
        · rw [hsee] at hm
          rcases b7 with b7 | ⟨b7, b7', b7''⟩
          · omega
          · rw [b7''] at hm; cases hm
        · by_cases e : (i : Int) < (ν1.1 8).toInt
          · rw [b8 i e]; exact a10 i e
          · rw [show i = (ν1.1 8).toNatClampNeg by omega]; exact b10
  refine me_meth (by omega) rfl (v_cut_0 ((c_knowWords (by omega) hL).mono (fun r ν h => ?_) (fun _ h => h)))
  obtain ⟨k1, k2, k3, k4⟩ := h
  have z : ∀ x : Int32, (mS1 (mS1 (mS1 ν 8 0) 6 0) 7 x).1 6 = 0 := fun _ => rfl
  refine key _ _ _ (Nat.lt_succ_self _) (fun h => by cases h) (fun _ => ⟨(((k2.up rfl rfl).S rfl).S rfl).S rfl, ⟨by show (0 : Int) ≤ (0 : Int32).toInt; decide, ?_⟩, ⟨by show (0 : Int) ≤ (0 : Int32).toInt; decide, by show (0 : Int32).toInt ≤ (0 : Int32).toInt; decide⟩, k1.kf (s := [6, 7, 8]) (r := []) (((kf.rf.S rfl).S rfl).S rfl) rfl rfl rfl rfl, ?_, ?_, fun _ => ?_, fun i hi => ?_⟩)
  · show (0 : Int) ≤ (ν.1 5).toInt
    rw [k2.1 5 rfl]; exact hs1
  · show (ν.1 16).toInt ≤ 345 + (0 : Int); omega
  · show 2 * ((ν.1 12).toInt - 345) ≤ (0 : Int) + 1; omega
  · show 2 * ((ν.1 12).toInt - 345) ≤ (0 : Int); omega
  · have hi : (i : Int) < (0 : Int) := hi
    omega
end TXD
