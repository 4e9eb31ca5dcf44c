/-! the declarations of all units -/
theorem w_more {lf : UInt32 → Int32} {L n m : Nat} {σ : fl_S} (h : Wd lf L n m σ) :
    Ll (fun a => sF σ a 37) (sF σ (a_T L n m) 43) [a_T L n m + 1, a_T L n m + 2] ∧ (∀ a ∈ [a_T L n m + 1, a_T L n m + 2], sC σ 1 a = true ∧ ∃ kd, sF σ a 32 = .int kd ∧ ¬ kd = 3 ∧ ¬ kd = 4 ∧ ¬ kd = 8 ∧ ¬ kd = 9) ∧ Ll (fun a => sF σ a 37) (sF σ (a_T L n m + 6) 43) [a_T L n m + 7, a_T L n m + 8] ∧ (∀ a ∈ [a_T L n m + 7, a_T L n m + 8], sC σ 1 a = true ∧ ∃ kd, sF σ a 32 = .int kd ∧ ¬ kd = 3 ∧ ¬ kd = 4 ∧ ¬ kd = 8 ∧ ¬ kd = 9) ∧ Ll (fun a => sF σ a 37) (sF σ (a_T L n m + 9) 43) [a_T L n m + 10] ∧ (∀ a ∈ [a_T L n m + 10], sC σ 1 a = true ∧ ∃ kd, sF σ a 32 = .int kd ∧ ¬ kd = 3 ∧ ¬ kd = 4 ∧ ¬ kd = 8 ∧ ¬ kd = 9) ∧ Ll (fun a => sF σ a 37) (sF σ (a_T L n m + 17) 43) [a_T L n m + 18] ∧ (∀ a ∈ [a_T L n m + 18], sC σ 1 a = true ∧ ∃ kd, sF σ a 32 = .int kd ∧ ¬ kd = 3 ∧ ¬ kd = 4 ∧ ¬ kd = 8 ∧ ¬ kd = 9) := by
  obtain ⟨h_ps, h_sc, h_x, h_root, h_int, h_bool, h_u0, h_do, h_oN, h_on, h_oo, h_u1, h_im1, h_dh, h_oh, h_hn, h_ho, h_u2, h_ima, h_imb, h_u3, h_dr, h_orr, h_vn, h_vo, h_vl, h_fz, h_u4, h_im4, hk, hr⟩ := h
  exact ⟨⟨((h_u1.2 43 (.ref (a_T L n m + 1)) (by unfold w_u1; simp)).trans rfl), ((h_im1.2 37 (.ref (a_T L n m + 2)) (by unfold w_im1; simp)).trans rfl), ((h_dh.2 37 (.null) (by unfold w_dh; simp)).trans rfl)⟩,
    (fun a ha => by
    simp only [List.mem_cons, List.not_mem_nil, or_false] at ha
    rcases ha with rfl | rfl
    · exact ⟨h_im1.1, _, ((h_im1.2 32 (i32 (2)) (by unfold w_im1; simp)).trans rfl), by decide, by decide, by decide, by decide⟩
    · exact ⟨h_dh.1, _, ((h_dh.2 32 (i32 (6)) (by unfold w_dh; simp)).trans rfl), by decide, by decide, by decide, by decide⟩),
    ⟨((h_u2.2 43 (.ref (a_T L n m + 7)) (by unfold w_u2; simp)).trans rfl), ((h_ima.2 37 (.ref (a_T L n m + 8)) (by unfold w_ima; simp)).trans rfl), ((h_imb.2 37 (.null) (by unfold w_imb; simp)).trans rfl)⟩,
    (fun a ha => by
    simp only [List.mem_cons, List.not_mem_nil, or_false] at ha
    rcases ha with rfl | rfl
    · exact ⟨h_ima.1, _, ((h_ima.2 32 (i32 (2)) (by unfold w_ima; simp)).trans rfl), by decide, by decide, by decide, by decide⟩
    · exact ⟨h_imb.1, _, ((h_imb.2 32 (i32 (2)) (by unfold w_imb; simp)).trans rfl), by decide, by decide, by decide, by decide⟩),
    ⟨((h_u3.2 43 (.ref (a_T L n m + 10)) (by unfold w_u3; simp)).trans rfl), ((h_dr.2 37 (.null) (by unfold w_dr; simp)).trans rfl)⟩,
    (fun a ha => by
    simp only [List.mem_cons, List.not_mem_nil, or_false] at ha
    subst ha
    exact ⟨h_dr.1, _, ((h_dr.2 32 (i32 (5)) (by unfold w_dr; simp)).trans rfl), by decide, by decide, by decide, by decide⟩),
    ⟨((h_u4.2 43 (.ref (a_T L n m + 18)) (by unfold w_u4; simp)).trans rfl), ((h_im4.2 37 (.null) (by unfold w_im4; simp)).trans rfl)⟩,
    (fun a ha => by
    simp only [List.mem_cons, List.not_mem_nil, or_false] at ha
    subst ha
    exact ⟨h_im4.1, _, ((h_im4.2 32 (i32 (2)) (by unfold w_im4; simp)).trans rfl), by decide, by decide, by decide, by decide⟩)⟩
theorem w_ds0 {lf : UInt32 → Int32} {L n m : Nat} {σ : fl_S} (hL : 2 ≤ L) (hnm : 1 ≤ n + m) (h : Wd lf L n m σ) :
    Ll (fun a => sF σ a 37) (sF σ 27 43) ((List.range (L + (n + m) + 1)).map (a_ds L)) ∧ ∀ a ∈ (List.range (L + (n + m) + 1)).map (a_ds L), sC σ 1 a = true ∧ (sF σ a 32 = .int 3 ∨ sF σ a 32 = .int 4) := by
  obtain ⟨h_ps, h_sc, h_x, h_root, h_int, h_bool, h_u0, h_do, h_oN, h_on, h_oo, h_u1, h_im1, h_dh, h_oh, h_hn, h_ho, h_u2, h_ima, h_imb, h_u3, h_dr, h_orr, h_vn, h_vo, h_vl, h_fz, h_u4, h_im4, hk, hr⟩ := h
  refine ⟨?_, fun a ha => ?_⟩
  · rw [show sF σ 27 43 = .ref 28 from ((h_u0.2 43 (.ref 28) (by unfold w_u0; simp)).trans rfl)]
    exact w_ds hL hnm (fun k hk0 => (hk k hk0).1) h_do (fun r hr0 => (hr r hr0).1)
  · simp only [List.mem_map, List.mem_range] at ha
    obtain ⟨i, hi, rfl⟩ := ha
    by_cases e : i < L
    · rw [a_ds_l e]
      exact ⟨(hk i e).1.1, Or.inl (((hk i e).1.2 32 (i32 (3)) (by unfold w_dl; simp)).trans rfl)⟩
    · by_cases e2 : i = L
      · subst e2
        rw [a_ds_o (by omega)]
        exact ⟨h_do.1, Or.inr ((h_do.2 32 (i32 (4)) (by unfold w_do; simp)).trans rfl)⟩
      · obtain ⟨r, rfl⟩ : ∃ r, i = L + 1 + r := ⟨i - (L + 1), by omega⟩
        rw [a_ds_r]
        exact ⟨(hr r (by omega)).1.1, Or.inl (((hr r (by omega)).1.2 32 (i32 (3)) (by unfold w_rd; simp)).trans rfl)⟩
