/-! addresses of what parse leaves: cases, indexes, the declarations of unit t -/
theorem rall {N : Nat} {p : Nat → Bool} (h : (List.range N).all p = true) {i : Nat} (hi : i < N) : p i = true := List.all_eq_true.mp h i (List.mem_range.mpr hi)
theorem ns_all {L n m : Nat} {p : Nat → Prop} (hL : 2 ≤ L) (h24 : p 24) (h25 : p 25) (h26 : p 26) (hlv : ∀ k, k < L → p (a_lv k)) (hnl : ∀ k, k < L → 0 < k → p (a_nl k)) (hoN : p (a_oN L)) (hon : p (a_on L)) (hrr : ∀ r, r < n + m → p (a_rg L r + 1)) (hra : ∀ r, r < n + m → p (a_rg L r + 2)) (hrn : ∀ r, r < n + m → p (a_rg L r + 3)) (hhn : p (a_T L n m + 4)) (hvn : p (a_T L n m + 12)) (hvl : p (a_T L n m + 14)) : ∀ a ∈ a_ns L n m, p a := by
  intro a ha
  unfold a_ns a_lvs a_rgs at ha
  simp only [List.mem_append, List.mem_cons, List.mem_flatMap, List.mem_range, List.not_mem_nil, or_false] at ha
  rcases ha with (rfl | rfl | rfl | rfl) | ⟨k, hk, rfl | rfl⟩ | (rfl | rfl) | ⟨r, hr, rfl | rfl | rfl⟩ | (rfl | rfl | rfl)
  · exact h24
  · exact h25
  · exact h26
  · exact hlv 0 (by omega)
  · exact hnl (k + 1) (by omega) (by omega)
  · exact hlv (k + 1) (by omega)
  · exact hoN
  · exact hon
  · exact hrr r hr
  · exact hra r hr
  · exact hrn r hr
  · exact hhn
  · exact hvn
  · exact hvl
theorem ns_24 {L n m : Nat} : 24 ∈ a_ns L n m := by unfold a_ns; simp
theorem ns_lv {L n m k : Nat} (hk : k < L) : a_lv k ∈ a_ns L n m := by
  unfold a_ns a_lvs
  simp only [List.mem_append, List.mem_cons, List.mem_flatMap, List.mem_range, List.not_mem_nil, or_false]
  by_cases e : k = 0
  · subst e
    exact Or.inl (Or.inr (Or.inr (Or.inr rfl)))
  · exact Or.inr (Or.inl ⟨k - 1, by omega, Or.inr (by rw [show k - 1 + 1 = k by omega])⟩)
theorem ns_oN {L n m : Nat} : a_oN L ∈ a_ns L n m := by unfold a_ns; simp
theorem ns_rr {L n m r : Nat} (hr : r < n + m) : a_rg L r + 1 ∈ a_ns L n m := by
  unfold a_ns a_rgs
  simp only [List.mem_append, List.mem_cons, List.mem_flatMap, List.mem_range, List.not_mem_nil, or_false]
  exact Or.inr (Or.inr (Or.inr (Or.inl ⟨r, hr, Or.inl rfl⟩)))
theorem ns_ra {L n m r : Nat} (hr : r < n + m) : a_rg L r + 2 ∈ a_ns L n m := by
  unfold a_ns a_rgs
  simp only [List.mem_append, List.mem_cons, List.mem_flatMap, List.mem_range, List.not_mem_nil, or_false]
  exact Or.inr (Or.inr (Or.inr (Or.inl ⟨r, hr, Or.inr (Or.inl rfl)⟩)))
theorem ns_vl {L n m : Nat} : a_T L n m + 14 ∈ a_ns L n m := by unfold a_ns; simp
/-- a type's index by its address -/
def ixN (L R a : Nat) : Nat := bif Nat.ble a 26 then a - 24 else bif Nat.ble a (26 + 5 * L) then (bif Nat.beq (Nat.mod (a - 27) 5) 2 then 2 * (Nat.div (a - 27) 5) + 3 else 2 * (Nat.div (a - 27) 5) + 2) else bif Nat.ble a (28 + 5 * L) then 2 * L + 2 + (a - (27 + 5 * L)) else bif Nat.ble a (29 + 5 * L + 5 * R) then 2 * L + 4 + 3 * (Nat.div (a - (30 + 5 * L)) 5) + (Nat.mod (a - (30 + 5 * L)) 5 - 1) else bif Nat.beq a (34 + 5 * L + 5 * R) then 2 * L + 4 + 3 * R else bif Nat.beq a (42 + 5 * L + 5 * R) then 2 * L + 5 + 3 * R else 2 * L + 6 + 3 * R
def lnq : List Nat → List Nat → Bool
  | [], [] => true
  | a :: l, b :: r => Nat.beq a b && lnq l r
  | _, _ => false
theorem lnq_ok : ∀ {l r : List Nat}, lnq l r = true → l = r
  | [], [], _ => rfl
  | a :: l, b :: r, h => by
    unfold lnq at h
    rw [Bool.and_eq_true] at h
    rw [Nat.eq_of_beq_eq_true h.1, lnq_ok h.2]
  | [], _ :: _, h => by cases h
  | _ :: _, [], h => by cases h
set_option maxRecDepth 100000 in
theorem ns_ixB : ((List.range 4).all fun L => (List.range 4).all fun n => (List.range 4).all fun m => lnq ((a_ns (L + 2) (n + 1) (m + 1)).map (ixN (L + 2) (n + 1 + (m + 1)))) (List.range (x_T (L + 2) (n + 1) (m + 1) + 3))) = true := by decide +kernel
theorem ns_ix {L n m : Nat} (hL : 2 ≤ L ∧ L ≤ 5) (hn : 1 ≤ n ∧ n ≤ 4) (hm : 1 ≤ m ∧ m ≤ 4) : (a_ns L n m).map (ixN L (n + m)) = List.range (x_T L n m + 3) := by
  have h := lnq_ok (rall (rall (rall ns_ixB (show L - 2 < 4 by omega)) (show n - 1 < 4 by omega)) (show m - 1 < 4 by omega))
  rw [show L - 2 + 2 = L by omega, show n - 1 + 1 = n by omega, show m - 1 + 1 = m by omega] at h
  exact h
theorem inj_map {f : Nat → Nat} : ∀ {l : List Nat}, (l.map f).Nodup → ∀ x ∈ l, ∀ y ∈ l, f x = f y → x = y
  | [], _, x, hx, _, _, _ => by cases hx
  | a :: l, h, x, hx, y, hy, e => by
    rw [List.map_cons, List.nodup_cons] at h
    rcases List.mem_cons.mp hx with h1 | h1
    · rcases List.mem_cons.mp hy with h2 | h2
      · rw [h1, h2]
      · exact absurd (by rw [← h1, e]; exact List.mem_map_of_mem h2) h.1
    · rcases List.mem_cons.mp hy with h2 | h2
      · exact absurd (by rw [← h2, ← e]; exact List.mem_map_of_mem h1) h.1
      · exact inj_map h.2 x h1 y h2 e
theorem nodup_map {f : Nat → Nat} : ∀ {l : List Nat}, (l.map f).Nodup → l.Nodup
  | [], _ => List.nodup_nil
  | a :: l, h => by
    rw [List.map_cons, List.nodup_cons] at h
    exact List.nodup_cons.mpr ⟨fun hm => h.1 (List.mem_map_of_mem hm), nodup_map h.2⟩
theorem ns_inj {L n m : Nat} (hL : 2 ≤ L ∧ L ≤ 5) (hn : 1 ≤ n ∧ n ≤ 4) (hm : 1 ≤ m ∧ m ≤ 4) : ∀ x ∈ a_ns L n m, ∀ y ∈ a_ns L n m, ixN L (n + m) x = ixN L (n + m) y → x = y := inj_map (by rw [ns_ix hL hn hm]; exact List.nodup_range)
theorem ns_nodup {L n m : Nat} (hL : 2 ≤ L ∧ L ≤ 5) (hn : 1 ≤ n ∧ n ≤ 4) (hm : 1 ≤ m ∧ m ≤ 4) : (a_ns L n m).Nodup := nodup_map (f := ixN L (n + m)) (by rw [ns_ix hL hn hm]; exact List.nodup_range)
theorem ns_len {L n m : Nat} (hL : 2 ≤ L ∧ L ≤ 5) (hn : 1 ≤ n ∧ n ≤ 4) (hm : 1 ≤ m ∧ m ≤ 4) : (a_ns L n m).length = x_T L n m + 3 := by
  have := congrArg List.length (ns_ix hL hn hm)
  rw [List.length_map, List.length_range] at this
  exact this
theorem ns_lt {L n m : Nat} (hL : 2 ≤ L ∧ L ≤ 5) (hn : 1 ≤ n ∧ n ≤ 4) (hm : 1 ≤ m ∧ m ≤ 4) : ∀ x ∈ a_ns L n m, ixN L (n + m) x < x_T L n m + 3 := fun x hx => by
  have : ixN L (n + m) x ∈ (a_ns L n m).map (ixN L (n + m)) := List.mem_map_of_mem hx
  rw [ns_ix hL hn hm] at this
  exact List.mem_range.mp this
theorem bleF {a b : Nat} (h : b < a) : Nat.ble a b = false := by
  cases hb : Nat.ble a b with
  | false => rfl
  | true => exact absurd (Nat.le_of_ble_eq_true hb) (by omega)
theorem bleT {a b : Nat} (h : a ≤ b) : Nat.ble a b = true := Nat.ble_eq_true_of_le h
theorem ndiv {a b q r : Nat} (hb : r < b) (h : a = b * q + r) : Nat.div a b = q := by
  show a / b = q
  subst h
  rw [Nat.mul_add_div (by omega), Nat.div_eq_of_lt hb, Nat.add_zero]
theorem nmod {a b q r : Nat} (hb : r < b) (h : a = b * q + r) : Nat.mod a b = r := by
  show a % b = r
  subst h
  rw [Nat.mul_add_mod, Nat.mod_eq_of_lt hb]
theorem ix_lv {L R k : Nat} (hk : k < L) : ixN L R (a_lv k) = 2 * k + 3 := by
  unfold ixN a_lv
  rw [bleF (show 26 < 29 + 5 * k by omega), bleT (show 29 + 5 * k ≤ 26 + 5 * L by omega), nmod (q := k) (r := 2) (by decide) (show 29 + 5 * k - 27 = 5 * k + 2 by omega), ndiv (q := k) (r := 2) (by decide) (show 29 + 5 * k - 27 = 5 * k + 2 by omega)]
  rfl
theorem ix_nl {L R k : Nat} (hk : k < L) (h0 : 0 < k) : ixN L R (a_nl k) = 2 * k + 2 := by
  unfold ixN a_nl
  rw [bleF (show 26 < 27 + 5 * k by omega), bleT (show 27 + 5 * k ≤ 26 + 5 * L by omega), nmod (q := k) (r := 0) (by decide) (show 27 + 5 * k - 27 = 5 * k + 0 by omega), ndiv (q := k) (r := 0) (by decide) (show 27 + 5 * k - 27 = 5 * k + 0 by omega)]
  rfl
theorem ix_oN {L R : Nat} : ixN L R (a_oN L) = 2 * L + 2 := by
  unfold ixN a_oN
  rw [bleF (show 26 < 27 + 5 * L by omega), bleF (show 26 + 5 * L < 27 + 5 * L by omega), bleT (show 27 + 5 * L ≤ 28 + 5 * L by omega), Nat.sub_self]
  rfl
theorem ix_on {L R : Nat} : ixN L R (a_on L) = 2 * L + 3 := by
  unfold ixN a_on
  rw [bleF (show 26 < 28 + 5 * L by omega), bleF (show 26 + 5 * L < 28 + 5 * L by omega), bleT (show 28 + 5 * L ≤ 28 + 5 * L by omega), show 28 + 5 * L - (27 + 5 * L) = 1 by omega]
  rfl
theorem ix_rg {L R r i : Nat} (hr : r < R) (hi : 1 ≤ i ∧ i ≤ 3) : ixN L R (a_rg L r + i) = 2 * L + 4 + 3 * r + (i - 1) := by
  unfold ixN a_rg
  rw [bleF (show 26 < 30 + 5 * L + 5 * r + i by omega), bleF (show 26 + 5 * L < 30 + 5 * L + 5 * r + i by omega), bleF (show 28 + 5 * L < 30 + 5 * L + 5 * r + i by omega), bleT (show 30 + 5 * L + 5 * r + i ≤ 29 + 5 * L + 5 * R by omega), nmod (q := r) (r := i) (by omega) (show 30 + 5 * L + 5 * r + i - (30 + 5 * L) = 5 * r + i by omega), ndiv (q := r) (r := i) (by omega) (show 30 + 5 * L + 5 * r + i - (30 + 5 * L) = 5 * r + i by omega)]
  rfl
theorem ix_T {L n m i : Nat} (hi : i = 4 ∨ i = 12 ∨ i = 14) : ixN L (n + m) (a_T L n m + i) = x_T L n m + (bif Nat.beq i 4 then 0 else bif Nat.beq i 12 then 1 else 2) := by
  unfold ixN a_T x_T
  rw [bleF (show 26 < 30 + 5 * L + 5 * (n + m) + i by omega), bleF (show 26 + 5 * L < 30 + 5 * L + 5 * (n + m) + i by omega), bleF (show 28 + 5 * L < 30 + 5 * L + 5 * (n + m) + i by omega), bleF (show 29 + 5 * L + 5 * (n + m) < 30 + 5 * L + 5 * (n + m) + i by omega)]
  rcases hi with rfl | rfl | rfl
  · rw [show (30 + 5 * L + 5 * (n + m) + 4) = (34 + 5 * L + 5 * (n + m)) by omega, nb_self]
    rfl
  · rw [nb_ne (show 30 + 5 * L + 5 * (n + m) + 12 ≠ 34 + 5 * L + 5 * (n + m) by omega), show 30 + 5 * L + 5 * (n + m) + 12 = 42 + 5 * L + 5 * (n + m) by omega, nb_self]
    show 2 * L + 5 + 3 * (n + m) = 2 * L + 4 + 3 * (n + m) + 1
    omega
  · rw [nb_ne (show 30 + 5 * L + 5 * (n + m) + 14 ≠ 34 + 5 * L + 5 * (n + m) by omega), nb_ne (show 30 + 5 * L + 5 * (n + m) + 14 ≠ 42 + 5 * L + 5 * (n + m) by omega)]
    show 2 * L + 6 + 3 * (n + m) = 2 * L + 4 + 3 * (n + m) + 2
    omega
/-- the name of unit t's i-th declaration -/
def dnN (L i : Nat) : Nat := bif Nat.ble i L then 2 * i + 1 else L + 1 + i
theorem dnN_lt {L i j : Nat} (h : i < j) : dnN L i < dnN L j := by
  unfold dnN
  by_cases e : j ≤ L
  · rw [bleT e, bleT (show i ≤ L by omega)]
    show 2 * i + 1 < 2 * j + 1
    omega
  · rw [bleF (show L < j by omega)]
    by_cases e2 : i ≤ L
    · rw [bleT e2]
      show 2 * i + 1 < L + 1 + j
      omega
    · rw [bleF (show L < i by omega)]
      show L + 1 + i < L + 1 + j
      omega
theorem dnN_ne {L i j : Nat} (h : i ≠ j) : dnN L i ≠ dnN L j := by
  rcases Nat.lt_or_gt_of_ne h with h | h
  · exact Nat.ne_of_lt (dnN_lt h)
  · exact Nat.ne_of_gt (dnN_lt h)
theorem find_rg {p : Nat → Bool} {f : Nat → Nat} {N i : Nat} (hi : i < N) (h1 : p (f i) = true) (h2 : ∀ j, j < i → p (f j) = false) : ((List.range N).map f).find? p = some (f i) := by
  induction i generalizing N f with
  | zero =>
    obtain ⟨M, rfl⟩ : ∃ M, N = M + 1 := ⟨N - 1, by omega⟩
    rw [List.range_succ_eq_map, List.map_cons, List.find?_cons, h1]
  | succ i ih =>
    obtain ⟨M, rfl⟩ : ∃ M, N = M + 1 := ⟨N - 1, by omega⟩
    rw [List.range_succ_eq_map, List.map_cons, List.find?_cons, h2 0 (by omega), List.map_map]
    exact ih (f := fun j => f (j + 1)) (by omega) h1 (fun j hj => h2 (j + 1) (by omega))
theorem rg_split {f : Nat → Nat} {N i : Nat} (hi : i < N) : ∃ post, (List.range N).map f = (List.range i).map f ++ f i :: post := by
  induction i generalizing N f with
  | zero =>
    obtain ⟨M, rfl⟩ : ∃ M, N = M + 1 := ⟨N - 1, by omega⟩
    exact ⟨_, by rw [List.range_succ_eq_map, List.map_cons]; rfl⟩
  | succ i ih =>
    obtain ⟨M, rfl⟩ : ∃ M, N = M + 1 := ⟨N - 1, by omega⟩
    obtain ⟨post, hp⟩ := ih (f := fun j => f (j + 1)) (N := M) (by omega)
    refine ⟨post, ?_⟩
    rw [List.range_succ_eq_map, List.map_cons, List.map_map, List.range_succ_eq_map, List.map_cons, List.map_map]
    exact congrArg (List.cons (f 0)) hp
theorem a_ds_inj {L i j : Nat} (h : i ≠ j) : a_ds L i ≠ a_ds L j := by
  have key : ∀ i j, i < j → a_ds L i < a_ds L j := by
    intro i j h
    unfold a_ds
    rw [nb_ne (show j ≠ 0 by omega)]
    by_cases e0 : i = 0
    · subst e0
      by_cases e : j ≤ L
      · rw [bleT e]
        show 28 < 26 + 5 * j
        omega
      · rw [bleF (show L < j by omega)]
        show 28 < 25 + 5 * j
        omega
    · rw [nb_ne e0]
      by_cases e : j ≤ L
      · rw [bleT e, bleT (show i ≤ L by omega)]
        show 26 + 5 * i < 26 + 5 * j
        omega
      · rw [bleF (show L < j by omega)]
        by_cases e2 : i ≤ L
        · rw [bleT e2]
          show 26 + 5 * i < 25 + 5 * j
          omega
        · rw [bleF (show L < i by omega)]
          show 25 + 5 * i < 25 + 5 * j
          omega
  rcases Nat.lt_or_gt_of_ne h with h | h
  · exact Nat.ne_of_lt (key i j h)
  · exact Nat.ne_of_gt (key j i h)
