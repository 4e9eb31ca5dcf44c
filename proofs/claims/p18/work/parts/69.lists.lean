/-! lists of what parse leaves -/
theorem Ll_seq {nx : Nat → Value} : ∀ (N : Nat) (f : Nat → Nat), (∀ i, i < N → nx (f i) = .ref (f (i + 1))) → nx (f N) = .null → Ll nx (.ref (f 0)) ((List.range (N + 1)).map f)
  | 0, f, _, h => ⟨rfl, (by show Ll nx (nx (f 0)) []; rw [h]; exact rfl)⟩
  | N + 1, f, h, hl => by
    rw [List.range_succ_eq_map, List.map_cons, List.map_map]
    refine ⟨rfl, ?_⟩
    rw [h 0 (Nat.succ_pos N)]
    exact Ll_seq N (fun i => f (i + 1)) (fun i hi => h (i + 1) (by omega)) hl
/-- the i-th DECLARATION of unit t -/
def a_ds (L i : Nat) : Nat := bif Nat.beq i 0 then 28 else bif Nat.ble i L then 26 + 5 * i else 25 + 5 * i
theorem a_ds_0 {L : Nat} : a_ds L 0 = 28 := rfl
theorem a_ds_l {L k : Nat} (h : k < L) : a_ds L k = a_dl k := by
  unfold a_ds a_dl
  rw [show Nat.ble k L = true from Nat.ble_eq_true_of_le (by omega)]
  rfl
theorem a_ds_o {L : Nat} (h : 0 < L) : a_ds L L = a_do L := by
  unfold a_ds a_do
  rw [nb_ne (show L ≠ 0 by omega), show Nat.ble L L = true from Nat.ble_eq_true_of_le (Nat.le_refl L)]
  rfl
theorem a_ds_r {L r : Nat} : a_ds L (L + 1 + r) = a_rg L r := by
  unfold a_ds a_rg
  rw [nb_ne (show L + 1 + r ≠ 0 by omega), show Nat.ble (L + 1 + r) L = false by
    cases hb : Nat.ble (L + 1 + r) L with
    | false => rfl
    | true => exact absurd (Nat.le_of_ble_eq_true hb) (by omega)]
  show 25 + 5 * (L + 1 + r) = 30 + 5 * L + 5 * r
  omega
/-- what follows: unit t's DECLARATIONS -/
theorem w_ds {lf : UInt32 → Int32} {L n m : Nat} {σ : fl_S} (hL : 2 ≤ L) (hnm : 1 ≤ n + m)
    (h1 : ∀ k, k < L → Wc lf σ (a_dl k) 1 (w_dl L n m k)) (h2 : Wc lf σ (a_do L) 1 (w_do L n m)) (h3 : ∀ r, r < n + m → Wc lf σ (a_rg L r) 1 (w_rd L n m r)) :
    Ll (fun a => sF σ a 37) (.ref 28) ((List.range (L + (n + m) + 1)).map (a_ds L)) := by
  refine Ll_seq (L + (n + m)) (a_ds L) (fun i hi => ?_) ?_
  · by_cases e : i < L
    · show sF σ (a_ds L i) 37 = _
      rw [a_ds_l e, (h1 i e).2 37 (.ref (31 + 5 * i)) (by unfold w_dl; simp)]
      show Value.ref (31 + 5 * i) = _
      congr 1
      unfold a_ds
      rw [nb_ne (show i + 1 ≠ 0 by omega), show Nat.ble (i + 1) L = true from Nat.ble_eq_true_of_le (by omega)]
      show 31 + 5 * i = 26 + 5 * (i + 1)
      omega
    · by_cases e2 : i = L
      · subst e2
        show sF σ (a_ds i i) 37 = _
        rw [a_ds_o (by omega), h2.2 37 (.ref (a_rg i 0)) (by unfold w_do; simp)]
        show Value.ref (a_rg i 0) = .ref (a_ds i (i + 1))
        rw [← a_ds_r]
      · obtain ⟨r, rfl⟩ : ∃ r, i = L + 1 + r := ⟨i - (L + 1), by omega⟩
        show sF σ (a_ds L (L + 1 + r)) 37 = _
        rw [a_ds_r, (h3 r (by omega)).2 37 (bif Nat.beq (r + 1) (n + m) then .null else .ref (a_rg L (r + 1))) (by unfold w_rd; simp), nb_ne (show r + 1 ≠ n + m by omega)]
        show Value.ref (a_rg L (r + 1)) = .ref (a_ds L (L + 1 + r + 1))
        rw [← a_ds_r]
        rfl
  · obtain ⟨r, hr⟩ : ∃ r, n + m = r + 1 := ⟨n + m - 1, by omega⟩
    show sF σ (a_ds L (L + (n + m))) 37 = _
    rw [show L + (n + m) = L + 1 + r by omega, a_ds_r, (h3 r (by omega)).2 37 (bif Nat.beq (r + 1) (n + m) then .null else .ref (a_rg L (r + 1))) (by unfold w_rd; simp), hr, nb_self]
    rfl
