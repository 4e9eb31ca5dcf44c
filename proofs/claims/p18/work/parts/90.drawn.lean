/-! the rings' periods -/
theorem i32_an (x : Int32) (k : Nat) (hk : k < 2147483648) : ∃ q, q ≤ k ∧ x &&& Int32.ofNat k = Int32.ofNat q := ⟨_, i32_and hk, (i32_bv _).symm⟩
theorem sIt_a {n m : Nat} : ∀ k r, r < n → sIt n m k r = (r + k) % n
  | 0, r, h => by show r = _; rw [Nat.add_zero, Nat.mod_eq_of_lt h]
  | k + 1, r, h => by
    show sIt n m k (r_s n m r) = _
    have e : r_s n m r = (r + 1) % n := by unfold r_s; rw [bleF h]; rfl
    rw [e, sIt_a k _ (Nat.mod_lt _ (by omega)), Nat.mod_add_mod]
    congr 1
    omega
theorem sIt_b {n m : Nat} : ∀ k r, r < m → sIt n m k (n + r) = n + (r + k) % m
  | 0, r, h => by show n + r = _; rw [Nat.add_zero, Nat.mod_eq_of_lt h]
  | k + 1, r, h => by
    show sIt n m k (r_s n m (n + r)) = _
    have e : r_s n m (n + r) = n + (r + 1) % m := by unfold r_s; rw [bleT (Nat.le_add_right n r), Nat.add_sub_cancel_left]; rfl
    rw [e, sIt_b k _ (Nat.mod_lt _ (by omega)), Nat.mod_add_mod, show r + 1 + k = r + (k + 1) by omega]
theorem smK_lt {n m i j : Nat} {v w : Int32} : ∀ k, smK n v i m w j k = true ↔ ∀ q, q < k → bdV v ((i + q) % n) = bdV w ((j + q) % m)
  | 0 => ⟨fun _ q hq => absurd hq (Nat.not_lt_zero _), fun _ => rfl⟩
  | k + 1 => by
    show (smK n v i m w j k && decide (bdV v ((i + k) % n) = bdV w ((j + k) % m))) = true ↔ _
    rw [Bool.and_eq_true, smK_lt k, decide_eq_true_eq]
    constructor
    · rintro ⟨h1, h2⟩ q hq
      rcases Nat.lt_succ_iff_lt_or_eq.mp hq with h | h
      · exact h1 q h
      · rw [h]; exact h2
    · exact fun h => ⟨fun q hq => h q (Nat.lt_succ_of_lt hq), h k (Nat.lt_succ_self _)⟩
theorem smK_all {n m i j : Nat} {v w : Int32} (hn : 0 < n) (hm : 0 < m) : smK n v i m w j (n * m) = true ↔ ∀ q, bdV v ((i + q) % n) = bdV w ((j + q) % m) := by
  rw [smK_lt]
  constructor
  · intro h q
    have h1 := h (q % (n * m)) (Nat.mod_lt _ (Nat.mul_pos hn hm))
    have e1 : (i + q % (n * m)) % n = (i + q) % n := by rw [Nat.add_mod, Nat.mod_mul_right_mod, ← Nat.add_mod]
    have e2 : (j + q % (n * m)) % m = (j + q) % m := by rw [Nat.add_mod, Nat.mod_mul_left_mod, ← Nat.add_mod]
    rw [e1, e2] at h1
    exact h1
  · exact fun h q _ => h q
/-- the bounds that both rings were drawn -/
def bdL (n : Nat) (v w : Int32) (r : Nat) : Nat := bif Nat.ble n r then bdV w (r - n) else bdV v r
theorem bdL_a {n r : Nat} {v w : Int32} (h : r < n) : bdL n v w r = bdV v r := by unfold bdL; rw [bleF h]; rfl
theorem bdL_b {n r : Nat} {v w : Int32} : bdL n v w (n + r) = bdV w r := by unfold bdL; rw [bleT (Nat.le_add_right n r), Nat.add_sub_cancel_left]; rfl
theorem bdL_12 {n r : Nat} {v w : Int32} : bdL n v w r = 1 ∨ bdL n v w r = 2 := by
  unfold bdL
  cases Nat.ble n r
  · exact bdV_12 v r
  · exact bdV_12 w (r - n)
section SMR
variable {n m i j : Nat} {v w : Int32}
theorem sm_ab (hi : i < n) (hj : j < m) : smK n v i m w j (n * m) = true ↔ smW n m (bdL n v w) i (n + j) := by
  rw [smK_all (by omega) (by omega)]
  have e : ∀ q, bdL n v w (sIt n m q i) = bdV v ((i + q) % n) ∧ bdL n v w (sIt n m q (n + j)) = bdV w ((j + q) % m) := fun q => ⟨by rw [sIt_a q i hi, bdL_a (Nat.mod_lt _ (by omega))], by rw [sIt_b q j hj, bdL_b]⟩
  exact ⟨fun h q => by rw [(e q).1, (e q).2]; exact h q, fun h q => by rw [← (e q).1, ← (e q).2]; exact h q⟩
theorem sm_aa (hi : i < n) (hj : j < n) : smK n v i n v j (n * n) = true ↔ smW n m (bdL n v w) i j := by
  rw [smK_all (by omega) (by omega)]
  have e : ∀ i, i < n → ∀ q, bdL n v w (sIt n m q i) = bdV v ((i + q) % n) := fun i hi q => by rw [sIt_a q i hi, bdL_a (Nat.mod_lt _ (by omega))]
  exact ⟨fun h q => by rw [e i hi q, e j hj q]; exact h q, fun h q => by rw [← e i hi q, ← e j hj q]; exact h q⟩
theorem sm_bb (hi : i < m) (hj : j < m) : smK m w i m w j (m * m) = true ↔ smW n m (bdL n v w) (n + i) (n + j) := by
  rw [smK_all (by omega) (by omega)]
  have e : ∀ i, i < m → ∀ q, bdL n v w (sIt n m q (n + i)) = bdV w ((i + q) % m) := fun i hi q => by rw [sIt_b q i hi, bdL_b]
  exact ⟨fun h q => by rw [e i hi q, e j hj q]; exact h q, fun h q => by rw [← e i hi q, ← e j hj q]; exact h q⟩
theorem sm_ba (hi : i < m) (hj : j < n) : smK m w i n v j (m * n) = true ↔ smW n m (bdL n v w) (n + i) j := by
  rw [smK_all (by omega) (by omega)]
  have e : ∀ q, bdL n v w (sIt n m q j) = bdV v ((j + q) % n) ∧ bdL n v w (sIt n m q (n + i)) = bdV w ((i + q) % m) := fun q => ⟨by rw [sIt_a q j hj, bdL_a (Nat.mod_lt _ (by omega))], by rw [sIt_b q i hi, bdL_b]⟩
  exact ⟨fun h q => by rw [(e q).1, (e q).2]; exact h q, fun h q => by rw [← (e q).1, ← (e q).2]; exact h q⟩
theorem smW_sym {n m r q : Nat} {bd : Nat → Nat} : smW n m bd r q ↔ smW n m bd q r := ⟨fun h j => (h j).symm, fun h j => (h j).symm⟩
end SMR
/-! the text, line by line -/
theorem txS_sn {tx : Nat → List Nat} : ∀ (k c : Nat), txS tx (k + 1) c = txS tx k c ++ tx (c + k)
  | 0, c => by show tx c ++ [] = [] ++ tx (c + 0); rw [List.append_nil]; rfl
  | k + 1, c => by
    show tx c ++ txS tx (k + 1) (c + 1) = (tx c ++ txS tx k (c + 1)) ++ tx (c + (k + 1))
    rw [txS_sn k (c + 1), List.append_assoc, show c + 1 + k = c + (k + 1) by omega]
section TXC
variable {L n m sh hi mo : Nat} {bd : Nat → Nat}
theorem txC_0 : txC L n m sh hi mo bd 0 = cI0 := rfl
theorem txC_1 (hL : 2 ≤ L) : txC L n m sh hi mo bd 1 = cI1 := by unfold txC; rw [bleT (show 1 ≤ L by omega)]; rfl
theorem txC_l {k : Nat} (h0 : 1 ≤ k) (hk : k < L) : txC L n m sh hi mo bd (k + 1) = cLv k := by
  unfold txC
  rw [nb_ne (show k + 1 ≠ 0 by omega), bleT (show k + 1 ≤ L by omega), nb_ne (show k + 1 ≠ 1 by omega)]
  rfl
theorem txC_o : txC L n m sh hi mo bd (L + 1) = cOp sh := by
  unfold txC
  rw [nb_ne (show L + 1 ≠ 0 by omega), bleF (show L < L + 1 by omega), nb_self]
  rfl
theorem txC_a {k : Nat} (hk : k < n) : txC L n m sh hi mo bd (L + 2 + k) = cRg 97 k (Nat.mod (k + 1) n) (bd k) := by
  unfold txC
  rw [nb_ne (show L + 2 + k ≠ 0 by omega), bleF (show L < L + 2 + k by omega), nb_ne (show L + 2 + k ≠ L + 1 by omega), bleT (show L + 2 + k ≤ L + 1 + (n + m) by omega), Nat.add_sub_cancel_left, bleF hk]
  rfl
theorem txC_b {k : Nat} (hk : k < m) : txC L n m sh hi mo bd (L + 2 + (n + k)) = cRg 98 k (Nat.mod (k + 1) m) (bd (n + k)) := by
  unfold txC
  rw [nb_ne (show L + 2 + (n + k) ≠ 0 by omega), bleF (show L < L + 2 + (n + k) by omega), nb_ne (show L + 2 + (n + k) ≠ L + 1 by omega), bleT (show L + 2 + (n + k) ≤ L + 1 + (n + m) by omega), Nat.add_sub_cancel_left, bleT (Nat.le_add_right n k), Nat.add_sub_cancel_left]
  rfl
theorem txC_t0 : txC L n m sh hi mo bd (L + 2 + (n + m)) = cT0 := by
  unfold txC
  rw [nb_ne (show L + 2 + (n + m) ≠ 0 by omega), bleF (show L < L + 2 + (n + m) by omega), nb_ne (show L + 2 + (n + m) ≠ L + 1 by omega), bleF (show L + 1 + (n + m) < L + 2 + (n + m) by omega), nb_self]
  rfl
theorem txC_t1 : txC L n m sh hi mo bd (L + 3 + (n + m)) = cT1 mo := by
  unfold txC
  rw [nb_ne (show L + 3 + (n + m) ≠ 0 by omega), bleF (show L < L + 3 + (n + m) by omega), nb_ne (show L + 3 + (n + m) ≠ L + 1 by omega), bleF (show L + 1 + (n + m) < L + 3 + (n + m) by omega), nb_ne (show L + 3 + (n + m) ≠ L + 2 + (n + m) by omega), nb_self]
  rfl
theorem txC_t2 : txC L n m sh hi mo bd (L + 4 + (n + m)) = cT2 := by
  unfold txC
  rw [nb_ne (show L + 4 + (n + m) ≠ 0 by omega), bleF (show L < L + 4 + (n + m) by omega), nb_ne (show L + 4 + (n + m) ≠ L + 1 by omega), bleF (show L + 1 + (n + m) < L + 4 + (n + m) by omega), nb_ne (show L + 4 + (n + m) ≠ L + 2 + (n + m) by omega), nb_ne (show L + 4 + (n + m) ≠ L + 3 + (n + m) by omega), nb_self]
  rfl
theorem txC_t3 : txC L n m sh hi mo bd (L + 5 + (n + m)) = cT3 hi := by
  unfold txC
  rw [nb_ne (show L + 5 + (n + m) ≠ 0 by omega), bleF (show L < L + 5 + (n + m) by omega), nb_ne (show L + 5 + (n + m) ≠ L + 1 by omega), bleF (show L + 1 + (n + m) < L + 5 + (n + m) by omega), nb_ne (show L + 5 + (n + m) ≠ L + 2 + (n + m) by omega), nb_ne (show L + 5 + (n + m) ≠ L + 3 + (n + m) by omega), nb_ne (show L + 5 + (n + m) ≠ L + 4 + (n + m) by omega), nb_self]
  rfl
theorem txC_t4 : txC L n m sh hi mo bd (L + 6 + (n + m)) = cT4 := by
  unfold txC
  rw [nb_ne (show L + 6 + (n + m) ≠ 0 by omega), bleF (show L < L + 6 + (n + m) by omega), nb_ne (show L + 6 + (n + m) ≠ L + 1 by omega), bleF (show L + 1 + (n + m) < L + 6 + (n + m) by omega), nb_ne (show L + 6 + (n + m) ≠ L + 2 + (n + m) by omega), nb_ne (show L + 6 + (n + m) ≠ L + 3 + (n + m) by omega), nb_ne (show L + 6 + (n + m) ≠ L + 4 + (n + m) by omega), nb_ne (show L + 6 + (n + m) ≠ L + 5 + (n + m) by omega)]
  rfl
theorem tx_2 (hL : 2 ≤ L) : txS (txC L n m sh hi mo bd) 2 0 = cI0 ++ cI1 := by
  rw [txS_sn 1 0, txS_sn 0 0, txC_0, txC_1 hL]
  rfl
theorem tx_a {v w : Int32} : ∀ k, k ≤ n → txS (txC L n m sh hi mo (bdL n v w)) (L + 2 + k) 0 = txS (txC L n m sh hi mo (bdL n v w)) (L + 2) 0 ++ rgL 97 n v k
  | 0, _ => (List.append_nil _).symm
  | k + 1, hk => by
    rw [show L + 2 + (k + 1) = L + 2 + k + 1 by omega, txS_sn, tx_a k (by omega), Nat.zero_add, txC_a (show k < n by omega), bdL_a (show k < n by omega), List.append_assoc]
    rfl
theorem tx_b {v w : Int32} : ∀ k, k ≤ m → txS (txC L n m sh hi mo (bdL n v w)) (L + 2 + n + k) 0 = txS (txC L n m sh hi mo (bdL n v w)) (L + 2 + n) 0 ++ rgL 98 m w k
  | 0, _ => (List.append_nil _).symm
  | k + 1, hk => by
    rw [show L + 2 + n + (k + 1) = L + 2 + n + k + 1 by omega, txS_sn, tx_b k (by omega), Nat.zero_add, show L + 2 + n + k = L + 2 + (n + k) by omega, txC_b (show k < m by omega), bdL_b, List.append_assoc]
    rfl
theorem tx_t : txS (txC L n m sh hi mo bd) (L + (n + m) + 7) 0 = txS (txC L n m sh hi mo bd) (L + 2 + (n + m)) 0 ++ (cT0 ++ (cT1 mo ++ (cT2 ++ (cT3 hi ++ cT4)))) := by
  rw [show L + (n + m) + 7 = L + 2 + (n + m) + 1 + 1 + 1 + 1 + 1 by omega, txS_sn, txS_sn, txS_sn, txS_sn, txS_sn, Nat.zero_add, Nat.zero_add, Nat.zero_add, Nat.zero_add, Nat.zero_add, txC_t0,
    show L + 2 + (n + m) + 1 = L + 3 + (n + m) by omega, txC_t1, show L + 2 + (n + m) + 2 = L + 4 + (n + m) by omega, txC_t2, show L + 2 + (n + m) + 3 = L + 5 + (n + m) by omega, txC_t3, show L + 2 + (n + m) + 4 = L + 6 + (n + m) by omega, txC_t4]
  simp only [List.append_assoc]
theorem txS_le {tx : Nat → List Nat} {b : Nat} (h : ∀ c, (tx c).length ≤ b) : ∀ k c, (txS tx k c).length ≤ b * k
  | 0, c => Nat.zero_le _
  | k + 1, c => by
    show (tx c ++ txS tx k (c + 1)).length ≤ _
    rw [List.length_append]
    have h1 := h c
    have h2 := txS_le h k (c + 1)
    rw [Nat.mul_succ]
    omega
theorem txC_le {c : Nat} : (txC L n m sh hi mo bd c).length ≤ 100 := by
  have h : ∀ {b : Bool} {x y : List Nat}, x.length ≤ 100 → y.length ≤ 100 → (bif b then x else y).length ≤ 100 := fun {b x y} hx hy => by cases b <;> assumption
  unfold txC
  refine h (Nat.le_of_ble_eq_true rfl) (h (h (Nat.le_of_ble_eq_true rfl) (Nat.le_of_ble_eq_true rfl)) (h (Nat.le_of_ble_eq_true rfl) (h (h (Nat.le_of_ble_eq_true rfl) (Nat.le_of_ble_eq_true rfl)) (h (Nat.le_of_ble_eq_true rfl) (h (Nat.le_of_ble_eq_true rfl) (h (Nat.le_of_ble_eq_true rfl) (h (Nat.le_of_ble_eq_true rfl) (Nat.le_of_ble_eq_true rfl))))))))
end TXC
