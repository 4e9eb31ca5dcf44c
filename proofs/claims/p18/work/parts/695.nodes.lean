/-! the chain of all types that parse leaves -/
def Lg (nx : Nat → Value) : Value → List Nat → Value → Prop
  | v, [], w => v = w
  | v, a :: l, w => v = .ref a ∧ Lg nx (nx a) l w
theorem Lg.app {nx : Nat → Value} {w z : Value} {r : List Nat} (h2 : Lg nx w r z) : ∀ {v : Value} {l : List Nat}, Lg nx v l w → Lg nx v (l ++ r) z
  | _, [], h => by have h : _ = w := h; subst h; exact h2
  | _, _ :: _, h => ⟨h.1, Lg.app h2 h.2⟩
theorem Lg.ll {nx : Nat → Value} : ∀ {v : Value} {l : List Nat}, Lg nx v l .null → Ll nx v l
  | _, [], h => h
  | _, _ :: _, h => ⟨h.1, Lg.ll h.2⟩
theorem Lg_flat {nx : Nat → Value} : ∀ (N : Nat) (g : Nat → List Nat) (p : Nat → Value), (∀ i, i < N → Lg nx (p i) (g i) (p (i + 1))) → Lg nx (p 0) ((List.range N).flatMap g) (p N)
  | 0, _, _, _ => rfl
  | N + 1, g, p, h => by
    rw [List.range_succ_eq_map, List.flatMap_cons, List.flatMap_map]
    exact Lg.app (Lg_flat N (fun i => g (i + 1)) (fun i => p (i + 1)) (fun i hi => h (i + 1) (by omega))) (h 0 (Nat.succ_pos N))
def a_lvs (L : Nat) : List Nat := (List.range (L - 1)).flatMap fun k => [a_nl (k + 1), a_lv (k + 1)]
def a_rgs (L n m : Nat) : List Nat := (List.range (n + m)).flatMap fun r => [a_rg L r + 1, a_rg L r + 2, a_rg L r + 3]
def a_ns (L n m : Nat) : List Nat := [24, 25, 26, 29] ++ (a_lvs L ++ ([a_oN L, a_on L] ++ (a_rgs L n m ++ [a_T L n m + 4, a_T L n m + 12, a_T L n m + 14])))
theorem vr_eq {a b : Nat} (h : a = b) : Value.ref a = .ref b := by rw [h]
theorem w_ns {lf : UInt32 → Int32} {L n m : Nat} {σ : fl_S} (hL : 2 ≤ L) (hnm : 1 ≤ n + m)
    (r1 : Wc lf σ 24 4 (w_root L n m)) (r2 : Wc lf σ 25 4 (w_int L n m)) (r3 : Wc lf σ 26 4 (w_bool L n m))
    (h1 : ∀ k, k < L → Wc lf σ (a_lv k) 4 (w_lv L n m k)) (h2 : ∀ k, k < L → 0 < k → Wc lf σ (a_nl k) 4 (w_nl L n m k))
    (h3 : Wc lf σ (a_oN L) 4 (w_oN L n m)) (h4 : Wc lf σ (a_on L) 4 (w_on L n m))
    (h5 : ∀ r, r < n + m → Wc lf σ (a_rg L r + 1) 4 (w_rr L n m r) ∧ Wc lf σ (a_rg L r + 2) 4 (w_ra L n m r) ∧ Wc lf σ (a_rg L r + 3) 4 (w_rn L n m r))
    (h6 : Wc lf σ (a_T L n m + 4) 4 (w_hn L n m)) (h7 : Wc lf σ (a_T L n m + 12) 4 (w_vn L n m)) (h8 : Wc lf σ (a_T L n m + 14) 4 (w_vl L n m)) :
    Ll (fun a => sF σ a 146) (.ref 24) (a_ns L n m) := by
  refine Lg.ll ?_
  unfold a_ns
  refine Lg.app (w := .ref (32 + 5 * 0)) (Lg.app (w := .ref (32 + 5 * (L - 1))) (Lg.app (w := .ref (a_rg L 0 + 1)) (Lg.app (w := .ref (a_T L n m + 4)) ?_ ?_) ?_) ?_) ?_
  · refine ⟨rfl, (h6.2 146 (.ref (a_T L n m + 12)) (by unfold w_hn; simp)).trans rfl, (h7.2 146 (.ref (a_T L n m + 14)) (by unfold w_vn; simp)).trans rfl, (h8.2 146 .null (by unfold w_vl; simp)).trans rfl⟩
  · have := Lg_flat (nx := fun a => sF σ a 146) (n + m) (fun r => [a_rg L r + 1, a_rg L r + 2, a_rg L r + 3]) (fun r => bif Nat.beq r (n + m) then .ref (a_T L n m + 4) else .ref (a_rg L r + 1)) (fun r hr => ?_)
    · rw [nb_ne (show 0 ≠ n + m by omega), nb_self] at this
      exact this
    · obtain ⟨q1, q2, q3⟩ := h5 r hr
      refine ⟨by rw [nb_ne (show r ≠ n + m by omega)]; rfl, (q1.2 146 (.ref (a_rg L r + 2)) (by unfold w_rr; simp)).trans rfl, (q2.2 146 (.ref (a_rg L r + 3)) (by unfold w_ra; simp)).trans rfl, ?_⟩
      show sF σ (a_rg L r + 3) 146 = _
      rw [q3.2 146 (bif Nat.beq (r + 1) (n + m) then .ref (a_T L n m + 4) else .ref (a_rg L (r + 1) + 1)) (by unfold w_rn; simp)]
      cases Nat.beq (r + 1) (n + m) <;> rfl
  · refine ⟨vr_eq (show 32 + 5 * (L - 1) = 27 + 5 * L by omega), (h3.2 146 (.ref (a_on L)) (by unfold w_oN; simp)).trans rfl, (h4.2 146 (.ref (a_rg L 0 + 1)) (by unfold w_on; simp)).trans rfl⟩
  · refine Lg_flat (nx := fun a => sF σ a 146) (L - 1) (fun k => [a_nl (k + 1), a_lv (k + 1)]) (fun k => .ref (32 + 5 * k)) (fun k hk => ⟨vr_eq (show 32 + 5 * k = 27 + 5 * (k + 1) by omega), ?_, ?_⟩)
    · exact ((h2 (k + 1) (by omega) (by omega)).2 146 (.ref (a_lv (k + 1))) (by unfold w_nl; simp)).trans rfl
    · exact ((h1 (k + 1) (by omega)).2 146 (.ref (32 + 5 * (k + 1))) (by unfold w_lv; simp)).trans rfl
  · refine ⟨rfl, (r1.2 146 (.ref 25) (by unfold w_root; simp)).trans rfl, (r2.2 146 (.ref 26) (by unfold w_int; simp)).trans rfl, (r3.2 146 (.ref 29) (by unfold w_bool; simp)).trans rfl, ?_⟩
    exact ((h1 0 (by omega)).2 146 (.ref (32 + 5 * 0)) (by unfold w_lv; simp)).trans rfl
