/-! each field of it -/
theorem c_ps' {lf : UInt32 → Int32} {L n m : Nat} {σ : fl_S} (h : Wd lf L n m σ) : Wc lf σ (21) 6 (w_ps L n m) := h.1
theorem c_ps {P : List Nat} {lf : UInt32 → Int32} {L n m : Nat} {σ : fl_S} (h : We P lf L n m σ) : sC σ 6 (21) = true := by
  obtain ⟨σ0, h, hs⟩ := h
  exact hs.1 _ _ (c_ps' h).1
theorem q_ps_192 {P : List Nat} {lf : UInt32 → Int32} {L n m : Nat} {σ : fl_S} (h : We P lf L n m σ) (hp : iP 192 P = true) : sF σ (21) 192 = .ref 3 := by
  obtain ⟨σ0, h, hs⟩ := h
  exact (hs.2 _ _ hp).trans ((c_ps' h).2 192 (.ref 3) (List.mem_of_getElem? (i := 0) rfl))
theorem q_ps_195 {P : List Nat} {lf : UInt32 → Int32} {L n m : Nat} {σ : fl_S} (h : We P lf L n m σ) (hp : iP 195 P = true) : sF σ (21) 195 = .int 0 := by
  obtain ⟨σ0, h, hs⟩ := h
  exact (hs.2 _ _ hp).trans ((c_ps' h).2 195 (i32 (0)) (List.mem_of_getElem? (i := 1) rfl))
theorem q_ps_205 {P : List Nat} {lf : UInt32 → Int32} {L n m : Nat} {σ : fl_S} (h : We P lf L n m σ) (hp : iP 205 P = true) : sF σ (21) 205 = .ref (a_T L n m + 14) := by
  obtain ⟨σ0, h, hs⟩ := h
  exact (hs.2 _ _ hp).trans ((c_ps' h).2 205 (.ref (a_T L n m + 14)) (List.mem_of_getElem? (i := 2) rfl))
theorem q_ps_207 {P : List Nat} {lf : UInt32 → Int32} {L n m : Nat} {σ : fl_S} (h : We P lf L n m σ) (hp : iP 207 P = true) : sF σ (21) 207 = .ref 27 := by
  obtain ⟨σ0, h, hs⟩ := h
  exact (hs.2 _ _ hp).trans ((c_ps' h).2 207 (.ref 27) (List.mem_of_getElem? (i := 3) rfl))
theorem q_ps_208 {P : List Nat} {lf : UInt32 → Int32} {L n m : Nat} {σ : fl_S} (h : We P lf L n m σ) (hp : iP 208 P = true) : sF σ (21) 208 = .null := by
  obtain ⟨σ0, h, hs⟩ := h
  exact (hs.2 _ _ hp).trans ((c_ps' h).2 208 (.null) (List.mem_of_getElem? (i := 4) rfl))
theorem q_ps_209 {P : List Nat} {lf : UInt32 → Int32} {L n m : Nat} {σ : fl_S} (h : We P lf L n m σ) (hp : iP 209 P = true) : sF σ (21) 209 = .ref 24 := by
  obtain ⟨σ0, h, hs⟩ := h
  exact (hs.2 _ _ hp).trans ((c_ps' h).2 209 (.ref 24) (List.mem_of_getElem? (i := 5) rfl))
theorem q_ps_210 {P : List Nat} {lf : UInt32 → Int32} {L n m : Nat} {σ : fl_S} (h : We P lf L n m σ) (hp : iP 210 P = true) : sF σ (21) 210 = .ref 25 := by
  obtain ⟨σ0, h, hs⟩ := h
  exact (hs.2 _ _ hp).trans ((c_ps' h).2 210 (.ref 25) (List.mem_of_getElem? (i := 6) rfl))
theorem q_ps_211 {P : List Nat} {lf : UInt32 → Int32} {L n m : Nat} {σ : fl_S} (h : We P lf L n m σ) (hp : iP 211 P = true) : sF σ (21) 211 = .ref 26 := by
  obtain ⟨σ0, h, hs⟩ := h
  exact (hs.2 _ _ hp).trans ((c_ps' h).2 211 (.ref 26) (List.mem_of_getElem? (i := 7) rfl))
theorem c_sc' {lf : UInt32 → Int32} {L n m : Nat} {σ : fl_S} (h : Wd lf L n m σ) : Wc lf σ (3) 7 (w_sc L n m) := h.2.1
theorem c_sc {P : List Nat} {lf : UInt32 → Int32} {L n m : Nat} {σ : fl_S} (h : We P lf L n m σ) : sC σ 7 (3) = true := by
  obtain ⟨σ0, h, hs⟩ := h
  exact hs.1 _ _ (c_sc' h).1
theorem q_sc_227 {P : List Nat} {lf : UInt32 → Int32} {L n m : Nat} {σ : fl_S} (h : We P lf L n m σ) (hp : iP 227 P = true) : sF σ (3) 227 = .int (Int32.ofNat (tk_n L n m)) := by
  obtain ⟨σ0, h, hs⟩ := h
  exact (hs.2 _ _ hp).trans ((c_sc' h).2 227 (i32 (tk_n L n m)) (List.mem_of_getElem? (i := 0) rfl))
theorem c_x' {lf : UInt32 → Int32} {L n m : Nat} {σ : fl_S} (h : Wd lf L n m σ) : Wc lf σ (1) 10 (w_x L n m) := h.2.2.1
theorem c_x {P : List Nat} {lf : UInt32 → Int32} {L n m : Nat} {σ : fl_S} (h : We P lf L n m σ) : sC σ 10 (1) = true := by
  obtain ⟨σ0, h, hs⟩ := h
  exact hs.1 _ _ (c_x' h).1
theorem q_x_320 {P : List Nat} {lf : UInt32 → Int32} {L n m : Nat} {σ : fl_S} (h : We P lf L n m σ) (hp : iP 320 P = true) : sF σ (1) 320 = .ref 2 := by
  obtain ⟨σ0, h, hs⟩ := h
  exact (hs.2 _ _ hp).trans ((c_x' h).2 320 (.ref 2) (List.mem_of_getElem? (i := 0) rfl))
theorem q_x_321 {P : List Nat} {lf : UInt32 → Int32} {L n m : Nat} {σ : fl_S} (h : We P lf L n m σ) (hp : iP 321 P = true) : sF σ (1) 321 = .int 0 := by
  obtain ⟨σ0, h, hs⟩ := h
  exact (hs.2 _ _ hp).trans ((c_x' h).2 321 (i32 (0)) (List.mem_of_getElem? (i := 1) rfl))
theorem q_x_322 {P : List Nat} {lf : UInt32 → Int32} {L n m : Nat} {σ : fl_S} (h : We P lf L n m σ) (hp : iP 322 P = true) : sF σ (1) 322 = .ref 3 := by
  obtain ⟨σ0, h, hs⟩ := h
  exact (hs.2 _ _ hp).trans ((c_x' h).2 322 (.ref 3) (List.mem_of_getElem? (i := 2) rfl))
theorem q_x_323 {P : List Nat} {lf : UInt32 → Int32} {L n m : Nat} {σ : fl_S} (h : We P lf L n m σ) (hp : iP 323 P = true) : sF σ (1) 323 = .ref 11 := by
  obtain ⟨σ0, h, hs⟩ := h
  exact (hs.2 _ _ hp).trans ((c_x' h).2 323 (.ref 11) (List.mem_of_getElem? (i := 3) rfl))
theorem q_x_324 {P : List Nat} {lf : UInt32 → Int32} {L n m : Nat} {σ : fl_S} (h : We P lf L n m σ) (hp : iP 324 P = true) : sF σ (1) 324 = .null := by
  obtain ⟨σ0, h, hs⟩ := h
  exact (hs.2 _ _ hp).trans ((c_x' h).2 324 (.null) (List.mem_of_getElem? (i := 4) rfl))
theorem c_root' {lf : UInt32 → Int32} {L n m : Nat} {σ : fl_S} (h : Wd lf L n m σ) : Wc lf σ (24) 4 (w_root L n m) := h.2.2.2.1
theorem c_root {P : List Nat} {lf : UInt32 → Int32} {L n m : Nat} {σ : fl_S} (h : We P lf L n m σ) : sC σ 4 (24) = true := by
  obtain ⟨σ0, h, hs⟩ := h
  exact hs.1 _ _ (c_root' h).1
theorem q_root_128 {P : List Nat} {lf : UInt32 → Int32} {L n m : Nat} {σ : fl_S} (h : We P lf L n m σ) (hp : iP 128 P = true) : sF σ (24) 128 = .int 10 := by
  obtain ⟨σ0, h, hs⟩ := h
  exact (hs.2 _ _ hp).trans ((c_root' h).2 128 (i32 (10)) (List.mem_of_getElem? (i := 0) rfl))
theorem q_root_129 {P : List Nat} {lf : UInt32 → Int32} {L n m : Nat} {σ : fl_S} (h : We P lf L n m σ) (hp : iP 129 P = true) : sF σ (24) 129 = .int 0 := by
  obtain ⟨σ0, h, hs⟩ := h
  exact (hs.2 _ _ hp).trans ((c_root' h).2 129 (i32 (0)) (List.mem_of_getElem? (i := 1) rfl))
theorem q_root_131 {P : List Nat} {lf : UInt32 → Int32} {L n m : Nat} {σ : fl_S} (h : We P lf L n m σ) (hp : iP 131 P = true) : sF σ (24) 131 = .null := by
  obtain ⟨σ0, h, hs⟩ := h
  exact (hs.2 _ _ hp).trans ((c_root' h).2 131 (.null) (List.mem_of_getElem? (i := 2) rfl))
theorem q_root_132 {P : List Nat} {lf : UInt32 → Int32} {L n m : Nat} {σ : fl_S} (h : We P lf L n m σ) (hp : iP 132 P = true) : sF σ (24) 132 = .int 0 := by
  obtain ⟨σ0, h, hs⟩ := h
  exact (hs.2 _ _ hp).trans ((c_root' h).2 132 (i32 (0)) (List.mem_of_getElem? (i := 3) rfl))
theorem q_root_133 {P : List Nat} {lf : UInt32 → Int32} {L n m : Nat} {σ : fl_S} (h : We P lf L n m σ) (hp : iP 133 P = true) : sF σ (24) 133 = .int 0 := by
  obtain ⟨σ0, h, hs⟩ := h
  exact (hs.2 _ _ hp).trans ((c_root' h).2 133 (i32 (0)) (List.mem_of_getElem? (i := 4) rfl))
theorem q_root_134 {P : List Nat} {lf : UInt32 → Int32} {L n m : Nat} {σ : fl_S} (h : We P lf L n m σ) (hp : iP 134 P = true) : sF σ (24) 134 = .null := by
  obtain ⟨σ0, h, hs⟩ := h
  exact (hs.2 _ _ hp).trans ((c_root' h).2 134 (.null) (List.mem_of_getElem? (i := 5) rfl))
theorem q_root_135 {P : List Nat} {lf : UInt32 → Int32} {L n m : Nat} {σ : fl_S} (h : We P lf L n m σ) (hp : iP 135 P = true) : sF σ (24) 135 = .null := by
  obtain ⟨σ0, h, hs⟩ := h
  exact (hs.2 _ _ hp).trans ((c_root' h).2 135 (.null) (List.mem_of_getElem? (i := 6) rfl))
theorem q_root_136 {P : List Nat} {lf : UInt32 → Int32} {L n m : Nat} {σ : fl_S} (h : We P lf L n m σ) (hp : iP 136 P = true) : sF σ (24) 136 = .null := by
  obtain ⟨σ0, h, hs⟩ := h
  exact (hs.2 _ _ hp).trans ((c_root' h).2 136 (.null) (List.mem_of_getElem? (i := 7) rfl))
theorem q_root_137 {P : List Nat} {lf : UInt32 → Int32} {L n m : Nat} {σ : fl_S} (h : We P lf L n m σ) (hp : iP 137 P = true) : sF σ (24) 137 = .null := by
  obtain ⟨σ0, h, hs⟩ := h
  exact (hs.2 _ _ hp).trans ((c_root' h).2 137 (.null) (List.mem_of_getElem? (i := 8) rfl))
theorem q_root_138 {P : List Nat} {lf : UInt32 → Int32} {L n m : Nat} {σ : fl_S} (h : We P lf L n m σ) (hp : iP 138 P = true) : sF σ (24) 138 = .null := by
  obtain ⟨σ0, h, hs⟩ := h
  exact (hs.2 _ _ hp).trans ((c_root' h).2 138 (.null) (List.mem_of_getElem? (i := 9) rfl))
theorem q_root_139 {P : List Nat} {lf : UInt32 → Int32} {L n m : Nat} {σ : fl_S} (h : We P lf L n m σ) (hp : iP 139 P = true) : sF σ (24) 139 = .null := by
  obtain ⟨σ0, h, hs⟩ := h
  exact (hs.2 _ _ hp).trans ((c_root' h).2 139 (.null) (List.mem_of_getElem? (i := 10) rfl))
theorem q_root_140 {P : List Nat} {lf : UInt32 → Int32} {L n m : Nat} {σ : fl_S} (h : We P lf L n m σ) (hp : iP 140 P = true) : sF σ (24) 140 = .null := by
  obtain ⟨σ0, h, hs⟩ := h
  exact (hs.2 _ _ hp).trans ((c_root' h).2 140 (.null) (List.mem_of_getElem? (i := 11) rfl))
theorem q_root_141 {P : List Nat} {lf : UInt32 → Int32} {L n m : Nat} {σ : fl_S} (h : We P lf L n m σ) (hp : iP 141 P = true) : sF σ (24) 141 = .null := by
  obtain ⟨σ0, h, hs⟩ := h
  exact (hs.2 _ _ hp).trans ((c_root' h).2 141 (.null) (List.mem_of_getElem? (i := 12) rfl))
theorem q_root_142 {P : List Nat} {lf : UInt32 → Int32} {L n m : Nat} {σ : fl_S} (h : We P lf L n m σ) (hp : iP 142 P = true) : sF σ (24) 142 = .int 0 := by
  obtain ⟨σ0, h, hs⟩ := h
  exact (hs.2 _ _ hp).trans ((c_root' h).2 142 (i32 (0)) (List.mem_of_getElem? (i := 13) rfl))
theorem q_root_143 {P : List Nat} {lf : UInt32 → Int32} {L n m : Nat} {σ : fl_S} (h : We P lf L n m σ) (hp : iP 143 P = true) : sF σ (24) 143 = .int (-1) := by
  obtain ⟨σ0, h, hs⟩ := h
  exact (hs.2 _ _ hp).trans ((c_root' h).2 143 (.int (-1)) (List.mem_of_getElem? (i := 14) rfl))
theorem q_root_144 {P : List Nat} {lf : UInt32 → Int32} {L n m : Nat} {σ : fl_S} (h : We P lf L n m σ) (hp : iP 144 P = true) : sF σ (24) 144 = .null := by
  obtain ⟨σ0, h, hs⟩ := h
  exact (hs.2 _ _ hp).trans ((c_root' h).2 144 (.null) (List.mem_of_getElem? (i := 15) rfl))
theorem q_root_145 {P : List Nat} {lf : UInt32 → Int32} {L n m : Nat} {σ : fl_S} (h : We P lf L n m σ) (hp : iP 145 P = true) : sF σ (24) 145 = .int 0 := by
  obtain ⟨σ0, h, hs⟩ := h
  exact (hs.2 _ _ hp).trans ((c_root' h).2 145 (i32 (0)) (List.mem_of_getElem? (i := 16) rfl))
theorem q_root_146 {P : List Nat} {lf : UInt32 → Int32} {L n m : Nat} {σ : fl_S} (h : We P lf L n m σ) (hp : iP 146 P = true) : sF σ (24) 146 = .ref 25 := by
  obtain ⟨σ0, h, hs⟩ := h
  exact (hs.2 _ _ hp).trans ((c_root' h).2 146 (.ref 25) (List.mem_of_getElem? (i := 17) rfl))
theorem q_root_147 {P : List Nat} {lf : UInt32 → Int32} {L n m : Nat} {σ : fl_S} (h : We P lf L n m σ) (hp : iP 147 P = true) : sF σ (24) 147 = .null := by
  obtain ⟨σ0, h, hs⟩ := h
  exact (hs.2 _ _ hp).trans ((c_root' h).2 147 (.null) (List.mem_of_getElem? (i := 18) rfl))
theorem c_int' {lf : UInt32 → Int32} {L n m : Nat} {σ : fl_S} (h : Wd lf L n m σ) : Wc lf σ (25) 4 (w_int L n m) := h.2.2.2.2.1
theorem c_int {P : List Nat} {lf : UInt32 → Int32} {L n m : Nat} {σ : fl_S} (h : We P lf L n m σ) : sC σ 4 (25) = true := by
  obtain ⟨σ0, h, hs⟩ := h
  exact hs.1 _ _ (c_int' h).1
theorem q_int_128 {P : List Nat} {lf : UInt32 → Int32} {L n m : Nat} {σ : fl_S} (h : We P lf L n m σ) (hp : iP 128 P = true) : sF σ (25) 128 = .int 0 := by
  obtain ⟨σ0, h, hs⟩ := h
  exact (hs.2 _ _ hp).trans ((c_int' h).2 128 (i32 (0)) (List.mem_of_getElem? (i := 0) rfl))
theorem q_int_129 {P : List Nat} {lf : UInt32 → Int32} {L n m : Nat} {σ : fl_S} (h : We P lf L n m σ) (hp : iP 129 P = true) : sF σ (25) 129 = .int 1 := by
  obtain ⟨σ0, h, hs⟩ := h
  exact (hs.2 _ _ hp).trans ((c_int' h).2 129 (i32 (1)) (List.mem_of_getElem? (i := 1) rfl))
theorem q_int_131 {P : List Nat} {lf : UInt32 → Int32} {L n m : Nat} {σ : fl_S} (h : We P lf L n m σ) (hp : iP 131 P = true) : sF σ (25) 131 = .null := by
  obtain ⟨σ0, h, hs⟩ := h
  exact (hs.2 _ _ hp).trans ((c_int' h).2 131 (.null) (List.mem_of_getElem? (i := 2) rfl))
theorem q_int_132 {P : List Nat} {lf : UInt32 → Int32} {L n m : Nat} {σ : fl_S} (h : We P lf L n m σ) (hp : iP 132 P = true) : sF σ (25) 132 = .int 0 := by
  obtain ⟨σ0, h, hs⟩ := h
  exact (hs.2 _ _ hp).trans ((c_int' h).2 132 (i32 (0)) (List.mem_of_getElem? (i := 3) rfl))
theorem q_int_133 {P : List Nat} {lf : UInt32 → Int32} {L n m : Nat} {σ : fl_S} (h : We P lf L n m σ) (hp : iP 133 P = true) : sF σ (25) 133 = .int 0 := by
  obtain ⟨σ0, h, hs⟩ := h
  exact (hs.2 _ _ hp).trans ((c_int' h).2 133 (i32 (0)) (List.mem_of_getElem? (i := 4) rfl))
theorem q_int_134 {P : List Nat} {lf : UInt32 → Int32} {L n m : Nat} {σ : fl_S} (h : We P lf L n m σ) (hp : iP 134 P = true) : sF σ (25) 134 = .null := by
  obtain ⟨σ0, h, hs⟩ := h
  exact (hs.2 _ _ hp).trans ((c_int' h).2 134 (.null) (List.mem_of_getElem? (i := 5) rfl))
theorem q_int_135 {P : List Nat} {lf : UInt32 → Int32} {L n m : Nat} {σ : fl_S} (h : We P lf L n m σ) (hp : iP 135 P = true) : sF σ (25) 135 = .null := by
  obtain ⟨σ0, h, hs⟩ := h
  exact (hs.2 _ _ hp).trans ((c_int' h).2 135 (.null) (List.mem_of_getElem? (i := 6) rfl))
theorem q_int_136 {P : List Nat} {lf : UInt32 → Int32} {L n m : Nat} {σ : fl_S} (h : We P lf L n m σ) (hp : iP 136 P = true) : sF σ (25) 136 = .null := by
  obtain ⟨σ0, h, hs⟩ := h
  exact (hs.2 _ _ hp).trans ((c_int' h).2 136 (.null) (List.mem_of_getElem? (i := 7) rfl))
theorem q_int_137 {P : List Nat} {lf : UInt32 → Int32} {L n m : Nat} {σ : fl_S} (h : We P lf L n m σ) (hp : iP 137 P = true) : sF σ (25) 137 = .null := by
  obtain ⟨σ0, h, hs⟩ := h
  exact (hs.2 _ _ hp).trans ((c_int' h).2 137 (.null) (List.mem_of_getElem? (i := 8) rfl))
theorem q_int_138 {P : List Nat} {lf : UInt32 → Int32} {L n m : Nat} {σ : fl_S} (h : We P lf L n m σ) (hp : iP 138 P = true) : sF σ (25) 138 = .null := by
  obtain ⟨σ0, h, hs⟩ := h
  exact (hs.2 _ _ hp).trans ((c_int' h).2 138 (.null) (List.mem_of_getElem? (i := 9) rfl))
theorem q_int_139 {P : List Nat} {lf : UInt32 → Int32} {L n m : Nat} {σ : fl_S} (h : We P lf L n m σ) (hp : iP 139 P = true) : sF σ (25) 139 = .null := by
  obtain ⟨σ0, h, hs⟩ := h
  exact (hs.2 _ _ hp).trans ((c_int' h).2 139 (.null) (List.mem_of_getElem? (i := 10) rfl))
theorem q_int_140 {P : List Nat} {lf : UInt32 → Int32} {L n m : Nat} {σ : fl_S} (h : We P lf L n m σ) (hp : iP 140 P = true) : sF σ (25) 140 = .null := by
  obtain ⟨σ0, h, hs⟩ := h
  exact (hs.2 _ _ hp).trans ((c_int' h).2 140 (.null) (List.mem_of_getElem? (i := 11) rfl))
theorem q_int_141 {P : List Nat} {lf : UInt32 → Int32} {L n m : Nat} {σ : fl_S} (h : We P lf L n m σ) (hp : iP 141 P = true) : sF σ (25) 141 = .null := by
  obtain ⟨σ0, h, hs⟩ := h
  exact (hs.2 _ _ hp).trans ((c_int' h).2 141 (.null) (List.mem_of_getElem? (i := 12) rfl))
theorem q_int_142 {P : List Nat} {lf : UInt32 → Int32} {L n m : Nat} {σ : fl_S} (h : We P lf L n m σ) (hp : iP 142 P = true) : sF σ (25) 142 = .int 0 := by
  obtain ⟨σ0, h, hs⟩ := h
  exact (hs.2 _ _ hp).trans ((c_int' h).2 142 (i32 (0)) (List.mem_of_getElem? (i := 13) rfl))
theorem q_int_143 {P : List Nat} {lf : UInt32 → Int32} {L n m : Nat} {σ : fl_S} (h : We P lf L n m σ) (hp : iP 143 P = true) : sF σ (25) 143 = .int (-1) := by
  obtain ⟨σ0, h, hs⟩ := h
  exact (hs.2 _ _ hp).trans ((c_int' h).2 143 (.int (-1)) (List.mem_of_getElem? (i := 14) rfl))
theorem q_int_144 {P : List Nat} {lf : UInt32 → Int32} {L n m : Nat} {σ : fl_S} (h : We P lf L n m σ) (hp : iP 144 P = true) : sF σ (25) 144 = .null := by
  obtain ⟨σ0, h, hs⟩ := h
  exact (hs.2 _ _ hp).trans ((c_int' h).2 144 (.null) (List.mem_of_getElem? (i := 15) rfl))
theorem q_int_145 {P : List Nat} {lf : UInt32 → Int32} {L n m : Nat} {σ : fl_S} (h : We P lf L n m σ) (hp : iP 145 P = true) : sF σ (25) 145 = .int 0 := by
  obtain ⟨σ0, h, hs⟩ := h
  exact (hs.2 _ _ hp).trans ((c_int' h).2 145 (i32 (0)) (List.mem_of_getElem? (i := 16) rfl))
theorem q_int_146 {P : List Nat} {lf : UInt32 → Int32} {L n m : Nat} {σ : fl_S} (h : We P lf L n m σ) (hp : iP 146 P = true) : sF σ (25) 146 = .ref 26 := by
  obtain ⟨σ0, h, hs⟩ := h
  exact (hs.2 _ _ hp).trans ((c_int' h).2 146 (.ref 26) (List.mem_of_getElem? (i := 17) rfl))
theorem q_int_147 {P : List Nat} {lf : UInt32 → Int32} {L n m : Nat} {σ : fl_S} (h : We P lf L n m σ) (hp : iP 147 P = true) : sF σ (25) 147 = .null := by
  obtain ⟨σ0, h, hs⟩ := h
  exact (hs.2 _ _ hp).trans ((c_int' h).2 147 (.null) (List.mem_of_getElem? (i := 18) rfl))
theorem c_bool' {lf : UInt32 → Int32} {L n m : Nat} {σ : fl_S} (h : Wd lf L n m σ) : Wc lf σ (26) 4 (w_bool L n m) := h.2.2.2.2.2.1
theorem c_bool {P : List Nat} {lf : UInt32 → Int32} {L n m : Nat} {σ : fl_S} (h : We P lf L n m σ) : sC σ 4 (26) = true := by
  obtain ⟨σ0, h, hs⟩ := h
  exact hs.1 _ _ (c_bool' h).1
theorem q_bool_128 {P : List Nat} {lf : UInt32 → Int32} {L n m : Nat} {σ : fl_S} (h : We P lf L n m σ) (hp : iP 128 P = true) : sF σ (26) 128 = .int 1 := by
  obtain ⟨σ0, h, hs⟩ := h
  exact (hs.2 _ _ hp).trans ((c_bool' h).2 128 (i32 (1)) (List.mem_of_getElem? (i := 0) rfl))
theorem q_bool_129 {P : List Nat} {lf : UInt32 → Int32} {L n m : Nat} {σ : fl_S} (h : We P lf L n m σ) (hp : iP 129 P = true) : sF σ (26) 129 = .int 2 := by
  obtain ⟨σ0, h, hs⟩ := h
  exact (hs.2 _ _ hp).trans ((c_bool' h).2 129 (i32 (2)) (List.mem_of_getElem? (i := 1) rfl))
theorem q_bool_131 {P : List Nat} {lf : UInt32 → Int32} {L n m : Nat} {σ : fl_S} (h : We P lf L n m σ) (hp : iP 131 P = true) : sF σ (26) 131 = .null := by
  obtain ⟨σ0, h, hs⟩ := h
  exact (hs.2 _ _ hp).trans ((c_bool' h).2 131 (.null) (List.mem_of_getElem? (i := 2) rfl))
theorem q_bool_132 {P : List Nat} {lf : UInt32 → Int32} {L n m : Nat} {σ : fl_S} (h : We P lf L n m σ) (hp : iP 132 P = true) : sF σ (26) 132 = .int 0 := by
  obtain ⟨σ0, h, hs⟩ := h
  exact (hs.2 _ _ hp).trans ((c_bool' h).2 132 (i32 (0)) (List.mem_of_getElem? (i := 3) rfl))
theorem q_bool_133 {P : List Nat} {lf : UInt32 → Int32} {L n m : Nat} {σ : fl_S} (h : We P lf L n m σ) (hp : iP 133 P = true) : sF σ (26) 133 = .int 0 := by
  obtain ⟨σ0, h, hs⟩ := h
  exact (hs.2 _ _ hp).trans ((c_bool' h).2 133 (i32 (0)) (List.mem_of_getElem? (i := 4) rfl))
theorem q_bool_134 {P : List Nat} {lf : UInt32 → Int32} {L n m : Nat} {σ : fl_S} (h : We P lf L n m σ) (hp : iP 134 P = true) : sF σ (26) 134 = .null := by
  obtain ⟨σ0, h, hs⟩ := h
  exact (hs.2 _ _ hp).trans ((c_bool' h).2 134 (.null) (List.mem_of_getElem? (i := 5) rfl))
theorem q_bool_135 {P : List Nat} {lf : UInt32 → Int32} {L n m : Nat} {σ : fl_S} (h : We P lf L n m σ) (hp : iP 135 P = true) : sF σ (26) 135 = .null := by
  obtain ⟨σ0, h, hs⟩ := h
  exact (hs.2 _ _ hp).trans ((c_bool' h).2 135 (.null) (List.mem_of_getElem? (i := 6) rfl))
theorem q_bool_136 {P : List Nat} {lf : UInt32 → Int32} {L n m : Nat} {σ : fl_S} (h : We P lf L n m σ) (hp : iP 136 P = true) : sF σ (26) 136 = .null := by
  obtain ⟨σ0, h, hs⟩ := h
  exact (hs.2 _ _ hp).trans ((c_bool' h).2 136 (.null) (List.mem_of_getElem? (i := 7) rfl))
theorem q_bool_137 {P : List Nat} {lf : UInt32 → Int32} {L n m : Nat} {σ : fl_S} (h : We P lf L n m σ) (hp : iP 137 P = true) : sF σ (26) 137 = .null := by
  obtain ⟨σ0, h, hs⟩ := h
  exact (hs.2 _ _ hp).trans ((c_bool' h).2 137 (.null) (List.mem_of_getElem? (i := 8) rfl))
theorem q_bool_138 {P : List Nat} {lf : UInt32 → Int32} {L n m : Nat} {σ : fl_S} (h : We P lf L n m σ) (hp : iP 138 P = true) : sF σ (26) 138 = .null := by
  obtain ⟨σ0, h, hs⟩ := h
  exact (hs.2 _ _ hp).trans ((c_bool' h).2 138 (.null) (List.mem_of_getElem? (i := 9) rfl))
theorem q_bool_139 {P : List Nat} {lf : UInt32 → Int32} {L n m : Nat} {σ : fl_S} (h : We P lf L n m σ) (hp : iP 139 P = true) : sF σ (26) 139 = .null := by
  obtain ⟨σ0, h, hs⟩ := h
  exact (hs.2 _ _ hp).trans ((c_bool' h).2 139 (.null) (List.mem_of_getElem? (i := 10) rfl))
theorem q_bool_140 {P : List Nat} {lf : UInt32 → Int32} {L n m : Nat} {σ : fl_S} (h : We P lf L n m σ) (hp : iP 140 P = true) : sF σ (26) 140 = .null := by
  obtain ⟨σ0, h, hs⟩ := h
  exact (hs.2 _ _ hp).trans ((c_bool' h).2 140 (.null) (List.mem_of_getElem? (i := 11) rfl))
theorem q_bool_141 {P : List Nat} {lf : UInt32 → Int32} {L n m : Nat} {σ : fl_S} (h : We P lf L n m σ) (hp : iP 141 P = true) : sF σ (26) 141 = .null := by
  obtain ⟨σ0, h, hs⟩ := h
  exact (hs.2 _ _ hp).trans ((c_bool' h).2 141 (.null) (List.mem_of_getElem? (i := 12) rfl))
theorem q_bool_142 {P : List Nat} {lf : UInt32 → Int32} {L n m : Nat} {σ : fl_S} (h : We P lf L n m σ) (hp : iP 142 P = true) : sF σ (26) 142 = .int 0 := by
  obtain ⟨σ0, h, hs⟩ := h
  exact (hs.2 _ _ hp).trans ((c_bool' h).2 142 (i32 (0)) (List.mem_of_getElem? (i := 13) rfl))
theorem q_bool_143 {P : List Nat} {lf : UInt32 → Int32} {L n m : Nat} {σ : fl_S} (h : We P lf L n m σ) (hp : iP 143 P = true) : sF σ (26) 143 = .int (-1) := by
  obtain ⟨σ0, h, hs⟩ := h
  exact (hs.2 _ _ hp).trans ((c_bool' h).2 143 (.int (-1)) (List.mem_of_getElem? (i := 14) rfl))
theorem q_bool_144 {P : List Nat} {lf : UInt32 → Int32} {L n m : Nat} {σ : fl_S} (h : We P lf L n m σ) (hp : iP 144 P = true) : sF σ (26) 144 = .null := by
  obtain ⟨σ0, h, hs⟩ := h
  exact (hs.2 _ _ hp).trans ((c_bool' h).2 144 (.null) (List.mem_of_getElem? (i := 15) rfl))
theorem q_bool_145 {P : List Nat} {lf : UInt32 → Int32} {L n m : Nat} {σ : fl_S} (h : We P lf L n m σ) (hp : iP 145 P = true) : sF σ (26) 145 = .int 0 := by
  obtain ⟨σ0, h, hs⟩ := h
  exact (hs.2 _ _ hp).trans ((c_bool' h).2 145 (i32 (0)) (List.mem_of_getElem? (i := 16) rfl))
theorem q_bool_146 {P : List Nat} {lf : UInt32 → Int32} {L n m : Nat} {σ : fl_S} (h : We P lf L n m σ) (hp : iP 146 P = true) : sF σ (26) 146 = .ref 29 := by
  obtain ⟨σ0, h, hs⟩ := h
  exact (hs.2 _ _ hp).trans ((c_bool' h).2 146 (.ref 29) (List.mem_of_getElem? (i := 17) rfl))
theorem q_bool_147 {P : List Nat} {lf : UInt32 → Int32} {L n m : Nat} {σ : fl_S} (h : We P lf L n m σ) (hp : iP 147 P = true) : sF σ (26) 147 = .null := by
  obtain ⟨σ0, h, hs⟩ := h
  exact (hs.2 _ _ hp).trans ((c_bool' h).2 147 (.null) (List.mem_of_getElem? (i := 18) rfl))
theorem c_u0' {lf : UInt32 → Int32} {L n m : Nat} {σ : fl_S} (h : Wd lf L n m σ) : Wc lf σ (27) 1 (w_u0 L n m) := h.2.2.2.2.2.2.1
theorem c_u0 {P : List Nat} {lf : UInt32 → Int32} {L n m : Nat} {σ : fl_S} (h : We P lf L n m σ) : sC σ 1 (27) = true := by
  obtain ⟨σ0, h, hs⟩ := h
  exact hs.1 _ _ (c_u0' h).1
theorem q_u0_32 {P : List Nat} {lf : UInt32 → Int32} {L n m : Nat} {σ : fl_S} (h : We P lf L n m σ) (hp : iP 32 P = true) : sF σ (27) 32 = .int 0 := by
  obtain ⟨σ0, h, hs⟩ := h
  exact (hs.2 _ _ hp).trans ((c_u0' h).2 32 (i32 (0)) (List.mem_of_getElem? (i := 0) rfl))
theorem q_u0_33 {P : List Nat} {lf : UInt32 → Int32} {L n m : Nat} {σ : fl_S} (h : We P lf L n m σ) (hp : iP 33 P = true) : sF σ (27) 33 = .int 0 := by
  obtain ⟨σ0, h, hs⟩ := h
  exact (hs.2 _ _ hp).trans ((c_u0' h).2 33 (i32 (0)) (List.mem_of_getElem? (i := 1) rfl))
theorem q_u0_36 {P : List Nat} {lf : UInt32 → Int32} {L n m : Nat} {σ : fl_S} (h : We P lf L n m σ) (hp : iP 36 P = true) : sF σ (27) 36 = .ref (27) := by
  obtain ⟨σ0, h, hs⟩ := h
  exact (hs.2 _ _ hp).trans ((c_u0' h).2 36 (.ref (27)) (List.mem_of_getElem? (i := 2) rfl))
theorem q_u0_37 {P : List Nat} {lf : UInt32 → Int32} {L n m : Nat} {σ : fl_S} (h : We P lf L n m σ) (hp : iP 37 P = true) : sF σ (27) 37 = .ref (a_T L n m) := by
  obtain ⟨σ0, h, hs⟩ := h
  exact (hs.2 _ _ hp).trans ((c_u0' h).2 37 (.ref (a_T L n m)) (List.mem_of_getElem? (i := 3) rfl))
theorem q_u0_38 {P : List Nat} {lf : UInt32 → Int32} {L n m : Nat} {σ : fl_S} (h : We P lf L n m σ) (hp : iP 38 P = true) : sF σ (27) 38 = .null := by
  obtain ⟨σ0, h, hs⟩ := h
  exact (hs.2 _ _ hp).trans ((c_u0' h).2 38 (.null) (List.mem_of_getElem? (i := 4) rfl))
theorem q_u0_39 {P : List Nat} {lf : UInt32 → Int32} {L n m : Nat} {σ : fl_S} (h : We P lf L n m σ) (hp : iP 39 P = true) : sF σ (27) 39 = .null := by
  obtain ⟨σ0, h, hs⟩ := h
  exact (hs.2 _ _ hp).trans ((c_u0' h).2 39 (.null) (List.mem_of_getElem? (i := 5) rfl))
theorem q_u0_40 {P : List Nat} {lf : UInt32 → Int32} {L n m : Nat} {σ : fl_S} (h : We P lf L n m σ) (hp : iP 40 P = true) : sF σ (27) 40 = .null := by
  obtain ⟨σ0, h, hs⟩ := h
  exact (hs.2 _ _ hp).trans ((c_u0' h).2 40 (.null) (List.mem_of_getElem? (i := 6) rfl))
theorem q_u0_41 {P : List Nat} {lf : UInt32 → Int32} {L n m : Nat} {σ : fl_S} (h : We P lf L n m σ) (hp : iP 41 P = true) : sF σ (27) 41 = .int 0 := by
  obtain ⟨σ0, h, hs⟩ := h
  exact (hs.2 _ _ hp).trans ((c_u0' h).2 41 (i32 0) (List.mem_of_getElem? (i := 7) rfl))
theorem q_u0_42 {P : List Nat} {lf : UInt32 → Int32} {L n m : Nat} {σ : fl_S} (h : We P lf L n m σ) (hp : iP 42 P = true) : sF σ (27) 42 = .int 0 := by
  obtain ⟨σ0, h, hs⟩ := h
  exact (hs.2 _ _ hp).trans ((c_u0' h).2 42 (i32 (0)) (List.mem_of_getElem? (i := 8) rfl))
theorem q_u0_43 {P : List Nat} {lf : UInt32 → Int32} {L n m : Nat} {σ : fl_S} (h : We P lf L n m σ) (hp : iP 43 P = true) : sF σ (27) 43 = .ref 28 := by
  obtain ⟨σ0, h, hs⟩ := h
  exact (hs.2 _ _ hp).trans ((c_u0' h).2 43 (.ref 28) (List.mem_of_getElem? (i := 9) rfl))
theorem q_u0_44 {P : List Nat} {lf : UInt32 → Int32} {L n m : Nat} {σ : fl_S} (h : We P lf L n m σ) (hp : iP 44 P = true) : sF σ (27) 44 = .null := by
  obtain ⟨σ0, h, hs⟩ := h
  exact (hs.2 _ _ hp).trans ((c_u0' h).2 44 (.null) (List.mem_of_getElem? (i := 10) rfl))
theorem q_u0_46 {P : List Nat} {lf : UInt32 → Int32} {L n m : Nat} {σ : fl_S} (h : We P lf L n m σ) (hp : iP 46 P = true) : sF σ (27) 46 = .null := by
  obtain ⟨σ0, h, hs⟩ := h
  exact (hs.2 _ _ hp).trans ((c_u0' h).2 46 (.null) (List.mem_of_getElem? (i := 11) rfl))
theorem q_u0_47 {P : List Nat} {lf : UInt32 → Int32} {L n m : Nat} {σ : fl_S} (h : We P lf L n m σ) (hp : iP 47 P = true) : sF σ (27) 47 = .null := by
  obtain ⟨σ0, h, hs⟩ := h
  exact (hs.2 _ _ hp).trans ((c_u0' h).2 47 (.null) (List.mem_of_getElem? (i := 12) rfl))
theorem q_u0_48 {P : List Nat} {lf : UInt32 → Int32} {L n m : Nat} {σ : fl_S} (h : We P lf L n m σ) (hp : iP 48 P = true) : sF σ (27) 48 = .int 0 := by
  obtain ⟨σ0, h, hs⟩ := h
  exact (hs.2 _ _ hp).trans ((c_u0' h).2 48 (i32 (0)) (List.mem_of_getElem? (i := 13) rfl))
theorem q_u0_49 {P : List Nat} {lf : UInt32 → Int32} {L n m : Nat} {σ : fl_S} (h : We P lf L n m σ) (hp : iP 49 P = true) : sF σ (27) 49 = .int 0 := by
  obtain ⟨σ0, h, hs⟩ := h
  exact (hs.2 _ _ hp).trans ((c_u0' h).2 49 (i32 (0)) (List.mem_of_getElem? (i := 14) rfl))
theorem q_u0_50 {P : List Nat} {lf : UInt32 → Int32} {L n m : Nat} {σ : fl_S} (h : We P lf L n m σ) (hp : iP 50 P = true) : sF σ (27) 50 = .null := by
  obtain ⟨σ0, h, hs⟩ := h
  exact (hs.2 _ _ hp).trans ((c_u0' h).2 50 (.null) (List.mem_of_getElem? (i := 15) rfl))
theorem c_dl' {lf : UInt32 → Int32} {L n m : Nat} {σ : fl_S} (h : Wd lf L n m σ) {k : Nat} (hk : k < L) : Wc lf σ (a_dl k) 1 (w_dl L n m k) := (h.2.2.2.2.2.2.2.2.2.2.2.2.2.2.2.2.2.2.2.2.2.2.2.2.2.2.2.2.2.1 k hk).1
theorem c_dl {P : List Nat} {lf : UInt32 → Int32} {L n m : Nat} {σ : fl_S} (h : We P lf L n m σ) {k : Nat} (hk : k < L) : sC σ 1 (a_dl k) = true := by
  obtain ⟨σ0, h, hs⟩ := h
  exact hs.1 _ _ (c_dl' h hk).1
theorem q_dl_32 {P : List Nat} {lf : UInt32 → Int32} {L n m : Nat} {σ : fl_S} (h : We P lf L n m σ) (hp : iP 32 P = true) {k : Nat} (hk : k < L) : sF σ (a_dl k) 32 = .int 3 := by
  obtain ⟨σ0, h, hs⟩ := h
  exact (hs.2 _ _ hp).trans ((c_dl' h hk).2 32 (i32 (3)) (List.mem_of_getElem? (i := 0) rfl))
theorem q_dl_33 {P : List Nat} {lf : UInt32 → Int32} {L n m : Nat} {σ : fl_S} (h : We P lf L n m σ) (hp : iP 33 P = true) {k : Nat} (hk : k < L) : sF σ (a_dl k) 33 = .int (Int32.ofNat (2 * k + 1)) := by
  obtain ⟨σ0, h, hs⟩ := h
  exact (hs.2 _ _ hp).trans ((c_dl' h hk).2 33 (i32 (2 * k + 1)) (List.mem_of_getElem? (i := 1) rfl))
theorem q_dl_36 {P : List Nat} {lf : UInt32 → Int32} {L n m : Nat} {σ : fl_S} (h : We P lf L n m σ) (hp : iP 36 P = true) {k : Nat} (hk : k < L) : sF σ (a_dl k) 36 = .ref (27) := by
  obtain ⟨σ0, h, hs⟩ := h
  exact (hs.2 _ _ hp).trans ((c_dl' h hk).2 36 (.ref (27)) (List.mem_of_getElem? (i := 2) rfl))
theorem q_dl_37 {P : List Nat} {lf : UInt32 → Int32} {L n m : Nat} {σ : fl_S} (h : We P lf L n m σ) (hp : iP 37 P = true) {k : Nat} (hk : k < L) : sF σ (a_dl k) 37 = .ref (31 + 5 * k) := by
  obtain ⟨σ0, h, hs⟩ := h
  exact (hs.2 _ _ hp).trans ((c_dl' h hk).2 37 (.ref (31 + 5 * k)) (List.mem_of_getElem? (i := 3) rfl))
theorem q_dl_38 {P : List Nat} {lf : UInt32 → Int32} {L n m : Nat} {σ : fl_S} (h : We P lf L n m σ) (hp : iP 38 P = true) {k : Nat} (hk : k < L) : sF σ (a_dl k) 38 = .ref (a_lv k) := by
  obtain ⟨σ0, h, hs⟩ := h
  exact (hs.2 _ _ hp).trans ((c_dl' h hk).2 38 (.ref (a_lv k)) (List.mem_of_getElem? (i := 4) rfl))
theorem q_dl_39 {P : List Nat} {lf : UInt32 → Int32} {L n m : Nat} {σ : fl_S} (h : We P lf L n m σ) (hp : iP 39 P = true) {k : Nat} (hk : k < L) : sF σ (a_dl k) 39 = .null := by
  obtain ⟨σ0, h, hs⟩ := h
  exact (hs.2 _ _ hp).trans ((c_dl' h hk).2 39 (.null) (List.mem_of_getElem? (i := 5) rfl))
theorem q_dl_40 {P : List Nat} {lf : UInt32 → Int32} {L n m : Nat} {σ : fl_S} (h : We P lf L n m σ) (hp : iP 40 P = true) {k : Nat} (hk : k < L) : sF σ (a_dl k) 40 = .null := by
  obtain ⟨σ0, h, hs⟩ := h
  exact (hs.2 _ _ hp).trans ((c_dl' h hk).2 40 (.null) (List.mem_of_getElem? (i := 6) rfl))
theorem q_dl_41 {P : List Nat} {lf : UInt32 → Int32} {L n m : Nat} {σ : fl_S} (h : We P lf L n m σ) (hp : iP 41 P = true) {k : Nat} (hk : k < L) : sF σ (a_dl k) 41 = .int 0 := by
  obtain ⟨σ0, h, hs⟩ := h
  exact (hs.2 _ _ hp).trans ((c_dl' h hk).2 41 (i32 0) (List.mem_of_getElem? (i := 7) rfl))
theorem q_dl_42 {P : List Nat} {lf : UInt32 → Int32} {L n m : Nat} {σ : fl_S} (h : We P lf L n m σ) (hp : iP 42 P = true) {k : Nat} (hk : k < L) : sF σ (a_dl k) 42 = .int 0 := by
  obtain ⟨σ0, h, hs⟩ := h
  exact (hs.2 _ _ hp).trans ((c_dl' h hk).2 42 (i32 (0)) (List.mem_of_getElem? (i := 8) rfl))
theorem q_dl_43 {P : List Nat} {lf : UInt32 → Int32} {L n m : Nat} {σ : fl_S} (h : We P lf L n m σ) (hp : iP 43 P = true) {k : Nat} (hk : k < L) : sF σ (a_dl k) 43 = .null := by
  obtain ⟨σ0, h, hs⟩ := h
  exact (hs.2 _ _ hp).trans ((c_dl' h hk).2 43 (.null) (List.mem_of_getElem? (i := 9) rfl))
theorem q_dl_44 {P : List Nat} {lf : UInt32 → Int32} {L n m : Nat} {σ : fl_S} (h : We P lf L n m σ) (hp : iP 44 P = true) {k : Nat} (hk : k < L) : sF σ (a_dl k) 44 = .null := by
  obtain ⟨σ0, h, hs⟩ := h
  exact (hs.2 _ _ hp).trans ((c_dl' h hk).2 44 (.null) (List.mem_of_getElem? (i := 10) rfl))
theorem q_dl_46 {P : List Nat} {lf : UInt32 → Int32} {L n m : Nat} {σ : fl_S} (h : We P lf L n m σ) (hp : iP 46 P = true) {k : Nat} (hk : k < L) : sF σ (a_dl k) 46 = .null := by
  obtain ⟨σ0, h, hs⟩ := h
  exact (hs.2 _ _ hp).trans ((c_dl' h hk).2 46 (.null) (List.mem_of_getElem? (i := 11) rfl))
theorem q_dl_47 {P : List Nat} {lf : UInt32 → Int32} {L n m : Nat} {σ : fl_S} (h : We P lf L n m σ) (hp : iP 47 P = true) {k : Nat} (hk : k < L) : sF σ (a_dl k) 47 = .null := by
  obtain ⟨σ0, h, hs⟩ := h
  exact (hs.2 _ _ hp).trans ((c_dl' h hk).2 47 (.null) (List.mem_of_getElem? (i := 12) rfl))
theorem q_dl_48 {P : List Nat} {lf : UInt32 → Int32} {L n m : Nat} {σ : fl_S} (h : We P lf L n m σ) (hp : iP 48 P = true) {k : Nat} (hk : k < L) : sF σ (a_dl k) 48 = .int 0 := by
  obtain ⟨σ0, h, hs⟩ := h
  exact (hs.2 _ _ hp).trans ((c_dl' h hk).2 48 (i32 (0)) (List.mem_of_getElem? (i := 13) rfl))
theorem q_dl_49 {P : List Nat} {lf : UInt32 → Int32} {L n m : Nat} {σ : fl_S} (h : We P lf L n m σ) (hp : iP 49 P = true) {k : Nat} (hk : k < L) : sF σ (a_dl k) 49 = .int 0 := by
  obtain ⟨σ0, h, hs⟩ := h
  exact (hs.2 _ _ hp).trans ((c_dl' h hk).2 49 (i32 (0)) (List.mem_of_getElem? (i := 14) rfl))
theorem q_dl_50 {P : List Nat} {lf : UInt32 → Int32} {L n m : Nat} {σ : fl_S} (h : We P lf L n m σ) (hp : iP 50 P = true) {k : Nat} (hk : k < L) : sF σ (a_dl k) 50 = .null := by
  obtain ⟨σ0, h, hs⟩ := h
  exact (hs.2 _ _ hp).trans ((c_dl' h hk).2 50 (.null) (List.mem_of_getElem? (i := 15) rfl))
theorem c_lv' {lf : UInt32 → Int32} {L n m : Nat} {σ : fl_S} (h : Wd lf L n m σ) {k : Nat} (hk : k < L) : Wc lf σ (a_lv k) 4 (w_lv L n m k) := (h.2.2.2.2.2.2.2.2.2.2.2.2.2.2.2.2.2.2.2.2.2.2.2.2.2.2.2.2.2.1 k hk).2.1
theorem c_lv {P : List Nat} {lf : UInt32 → Int32} {L n m : Nat} {σ : fl_S} (h : We P lf L n m σ) {k : Nat} (hk : k < L) : sC σ 4 (a_lv k) = true := by
  obtain ⟨σ0, h, hs⟩ := h
  exact hs.1 _ _ (c_lv' h hk).1
theorem q_lv_128 {P : List Nat} {lf : UInt32 → Int32} {L n m : Nat} {σ : fl_S} (h : We P lf L n m σ) (hp : iP 128 P = true) {k : Nat} (hk : k < L) : sF σ (a_lv k) 128 = .int 11 := by
  obtain ⟨σ0, h, hs⟩ := h
  exact (hs.2 _ _ hp).trans ((c_lv' h hk).2 128 (i32 (11)) (List.mem_of_getElem? (i := 0) rfl))
theorem q_lv_129 {P : List Nat} {lf : UInt32 → Int32} {L n m : Nat} {σ : fl_S} (h : We P lf L n m σ) (hp : iP 129 P = true) {k : Nat} (hk : k < L) : sF σ (a_lv k) 129 = .int (Int32.ofNat (2 * k + 3)) := by
  obtain ⟨σ0, h, hs⟩ := h
  exact (hs.2 _ _ hp).trans ((c_lv' h hk).2 129 (i32 (2 * k + 3)) (List.mem_of_getElem? (i := 1) rfl))
theorem q_lv_131 {P : List Nat} {lf : UInt32 → Int32} {L n m : Nat} {σ : fl_S} (h : We P lf L n m σ) (hp : iP 131 P = true) {k : Nat} (hk : k < L) : sF σ (a_lv k) 131 = .ref (27) := by
  obtain ⟨σ0, h, hs⟩ := h
  exact (hs.2 _ _ hp).trans ((c_lv' h hk).2 131 (.ref (27)) (List.mem_of_getElem? (i := 2) rfl))
theorem q_lv_132 {P : List Nat} {lf : UInt32 → Int32} {L n m : Nat} {σ : fl_S} (h : We P lf L n m σ) (hp : iP 132 P = true) {k : Nat} (hk : k < L) : sF σ (a_lv k) 132 = .int 0 := by
  obtain ⟨σ0, h, hs⟩ := h
  exact (hs.2 _ _ hp).trans ((c_lv' h hk).2 132 (i32 (0)) (List.mem_of_getElem? (i := 3) rfl))
theorem q_lv_133 {P : List Nat} {lf : UInt32 → Int32} {L n m : Nat} {σ : fl_S} (h : We P lf L n m σ) (hp : iP 133 P = true) {k : Nat} (hk : k < L) : sF σ (a_lv k) 133 = .int 0 := by
  obtain ⟨σ0, h, hs⟩ := h
  exact (hs.2 _ _ hp).trans ((c_lv' h hk).2 133 (i32 0) (List.mem_of_getElem? (i := 4) rfl))
theorem q_lv_134 {P : List Nat} {lf : UInt32 → Int32} {L n m : Nat} {σ : fl_S} (h : We P lf L n m σ) (hp : iP 134 P = true) {k : Nat} (hk : k < L) : sF σ (a_lv k) 134 = gl_v lf ((bif Nat.beq k 0 then .ref 24 else .ref (a_nl k))) := by
  obtain ⟨σ0, h, hs⟩ := h
  exact (hs.2 _ _ hp).trans ((c_lv' h hk).2 134 ((bif Nat.beq k 0 then .ref 24 else .ref (a_nl k))) (List.mem_of_getElem? (i := 5) rfl))
theorem q_lv_135 {P : List Nat} {lf : UInt32 → Int32} {L n m : Nat} {σ : fl_S} (h : We P lf L n m σ) (hp : iP 135 P = true) {k : Nat} (hk : k < L) : sF σ (a_lv k) 135 = .ref (a_fd k) := by
  obtain ⟨σ0, h, hs⟩ := h
  exact (hs.2 _ _ hp).trans ((c_lv' h hk).2 135 (.ref (a_fd k)) (List.mem_of_getElem? (i := 6) rfl))
theorem q_lv_136 {P : List Nat} {lf : UInt32 → Int32} {L n m : Nat} {σ : fl_S} (h : We P lf L n m σ) (hp : iP 136 P = true) {k : Nat} (hk : k < L) : sF σ (a_lv k) 136 = .null := by
  obtain ⟨σ0, h, hs⟩ := h
  exact (hs.2 _ _ hp).trans ((c_lv' h hk).2 136 (.null) (List.mem_of_getElem? (i := 7) rfl))
theorem q_lv_137 {P : List Nat} {lf : UInt32 → Int32} {L n m : Nat} {σ : fl_S} (h : We P lf L n m σ) (hp : iP 137 P = true) {k : Nat} (hk : k < L) : sF σ (a_lv k) 137 = .null := by
  obtain ⟨σ0, h, hs⟩ := h
  exact (hs.2 _ _ hp).trans ((c_lv' h hk).2 137 (.null) (List.mem_of_getElem? (i := 8) rfl))
theorem q_lv_138 {P : List Nat} {lf : UInt32 → Int32} {L n m : Nat} {σ : fl_S} (h : We P lf L n m σ) (hp : iP 138 P = true) {k : Nat} (hk : k < L) : sF σ (a_lv k) 138 = .null := by
  obtain ⟨σ0, h, hs⟩ := h
  exact (hs.2 _ _ hp).trans ((c_lv' h hk).2 138 (.null) (List.mem_of_getElem? (i := 9) rfl))
theorem q_lv_139 {P : List Nat} {lf : UInt32 → Int32} {L n m : Nat} {σ : fl_S} (h : We P lf L n m σ) (hp : iP 139 P = true) {k : Nat} (hk : k < L) : sF σ (a_lv k) 139 = .null := by
  obtain ⟨σ0, h, hs⟩ := h
  exact (hs.2 _ _ hp).trans ((c_lv' h hk).2 139 (.null) (List.mem_of_getElem? (i := 10) rfl))
theorem q_lv_140 {P : List Nat} {lf : UInt32 → Int32} {L n m : Nat} {σ : fl_S} (h : We P lf L n m σ) (hp : iP 140 P = true) {k : Nat} (hk : k < L) : sF σ (a_lv k) 140 = .null := by
  obtain ⟨σ0, h, hs⟩ := h
  exact (hs.2 _ _ hp).trans ((c_lv' h hk).2 140 (.null) (List.mem_of_getElem? (i := 11) rfl))
theorem q_lv_141 {P : List Nat} {lf : UInt32 → Int32} {L n m : Nat} {σ : fl_S} (h : We P lf L n m σ) (hp : iP 141 P = true) {k : Nat} (hk : k < L) : sF σ (a_lv k) 141 = .null := by
  obtain ⟨σ0, h, hs⟩ := h
  exact (hs.2 _ _ hp).trans ((c_lv' h hk).2 141 (.null) (List.mem_of_getElem? (i := 12) rfl))
theorem q_lv_142 {P : List Nat} {lf : UInt32 → Int32} {L n m : Nat} {σ : fl_S} (h : We P lf L n m σ) (hp : iP 142 P = true) {k : Nat} (hk : k < L) : sF σ (a_lv k) 142 = .int 0 := by
  obtain ⟨σ0, h, hs⟩ := h
  exact (hs.2 _ _ hp).trans ((c_lv' h hk).2 142 (i32 (0)) (List.mem_of_getElem? (i := 13) rfl))
theorem q_lv_143 {P : List Nat} {lf : UInt32 → Int32} {L n m : Nat} {σ : fl_S} (h : We P lf L n m σ) (hp : iP 143 P = true) {k : Nat} (hk : k < L) : sF σ (a_lv k) 143 = .int (-1) := by
  obtain ⟨σ0, h, hs⟩ := h
  exact (hs.2 _ _ hp).trans ((c_lv' h hk).2 143 (.int (-1)) (List.mem_of_getElem? (i := 14) rfl))
theorem q_lv_144 {P : List Nat} {lf : UInt32 → Int32} {L n m : Nat} {σ : fl_S} (h : We P lf L n m σ) (hp : iP 144 P = true) {k : Nat} (hk : k < L) : sF σ (a_lv k) 144 = .null := by
  obtain ⟨σ0, h, hs⟩ := h
  exact (hs.2 _ _ hp).trans ((c_lv' h hk).2 144 (.null) (List.mem_of_getElem? (i := 15) rfl))
theorem q_lv_145 {P : List Nat} {lf : UInt32 → Int32} {L n m : Nat} {σ : fl_S} (h : We P lf L n m σ) (hp : iP 145 P = true) {k : Nat} (hk : k < L) : sF σ (a_lv k) 145 = .int 0 := by
  obtain ⟨σ0, h, hs⟩ := h
  exact (hs.2 _ _ hp).trans ((c_lv' h hk).2 145 (i32 (0)) (List.mem_of_getElem? (i := 16) rfl))
theorem q_lv_146 {P : List Nat} {lf : UInt32 → Int32} {L n m : Nat} {σ : fl_S} (h : We P lf L n m σ) (hp : iP 146 P = true) {k : Nat} (hk : k < L) : sF σ (a_lv k) 146 = .ref (32 + 5 * k) := by
  obtain ⟨σ0, h, hs⟩ := h
  exact (hs.2 _ _ hp).trans ((c_lv' h hk).2 146 (.ref (32 + 5 * k)) (List.mem_of_getElem? (i := 17) rfl))
theorem q_lv_147 {P : List Nat} {lf : UInt32 → Int32} {L n m : Nat} {σ : fl_S} (h : We P lf L n m σ) (hp : iP 147 P = true) {k : Nat} (hk : k < L) : sF σ (a_lv k) 147 = .null := by
  obtain ⟨σ0, h, hs⟩ := h
  exact (hs.2 _ _ hp).trans ((c_lv' h hk).2 147 (.null) (List.mem_of_getElem? (i := 18) rfl))
theorem c_fd' {lf : UInt32 → Int32} {L n m : Nat} {σ : fl_S} (h : Wd lf L n m σ) {k : Nat} (hk : k < L) : Wc lf σ (a_fd k) 1 (w_fd L n m k) := (h.2.2.2.2.2.2.2.2.2.2.2.2.2.2.2.2.2.2.2.2.2.2.2.2.2.2.2.2.2.1 k hk).2.2.1
theorem c_fd {P : List Nat} {lf : UInt32 → Int32} {L n m : Nat} {σ : fl_S} (h : We P lf L n m σ) {k : Nat} (hk : k < L) : sC σ 1 (a_fd k) = true := by
  obtain ⟨σ0, h, hs⟩ := h
  exact hs.1 _ _ (c_fd' h hk).1
theorem q_fd_32 {P : List Nat} {lf : UInt32 → Int32} {L n m : Nat} {σ : fl_S} (h : We P lf L n m σ) (hp : iP 32 P = true) {k : Nat} (hk : k < L) : sF σ (a_fd k) 32 = .int 10 := by
  obtain ⟨σ0, h, hs⟩ := h
  exact (hs.2 _ _ hp).trans ((c_fd' h hk).2 32 (i32 (10)) (List.mem_of_getElem? (i := 0) rfl))
theorem q_fd_33 {P : List Nat} {lf : UInt32 → Int32} {L n m : Nat} {σ : fl_S} (h : We P lf L n m σ) (hp : iP 33 P = true) {k : Nat} (hk : k < L) : sF σ (a_fd k) 33 = .int (Int32.ofNat (2 * k + 2)) := by
  obtain ⟨σ0, h, hs⟩ := h
  exact (hs.2 _ _ hp).trans ((c_fd' h hk).2 33 (i32 (2 * k + 2)) (List.mem_of_getElem? (i := 1) rfl))
theorem q_fd_36 {P : List Nat} {lf : UInt32 → Int32} {L n m : Nat} {σ : fl_S} (h : We P lf L n m σ) (hp : iP 36 P = true) {k : Nat} (hk : k < L) : sF σ (a_fd k) 36 = .ref (27) := by
  obtain ⟨σ0, h, hs⟩ := h
  exact (hs.2 _ _ hp).trans ((c_fd' h hk).2 36 (.ref (27)) (List.mem_of_getElem? (i := 2) rfl))
theorem q_fd_37 {P : List Nat} {lf : UInt32 → Int32} {L n m : Nat} {σ : fl_S} (h : We P lf L n m σ) (hp : iP 37 P = true) {k : Nat} (hk : k < L) : sF σ (a_fd k) 37 = .null := by
  obtain ⟨σ0, h, hs⟩ := h
  exact (hs.2 _ _ hp).trans ((c_fd' h hk).2 37 (.null) (List.mem_of_getElem? (i := 3) rfl))
theorem q_fd_38 {P : List Nat} {lf : UInt32 → Int32} {L n m : Nat} {σ : fl_S} (h : We P lf L n m σ) (hp : iP 38 P = true) {k : Nat} (hk : k < L) : sF σ (a_fd k) 38 = .ref 25 := by
  obtain ⟨σ0, h, hs⟩ := h
  exact (hs.2 _ _ hp).trans ((c_fd' h hk).2 38 (.ref 25) (List.mem_of_getElem? (i := 4) rfl))
theorem q_fd_39 {P : List Nat} {lf : UInt32 → Int32} {L n m : Nat} {σ : fl_S} (h : We P lf L n m σ) (hp : iP 39 P = true) {k : Nat} (hk : k < L) : sF σ (a_fd k) 39 = .null := by
  obtain ⟨σ0, h, hs⟩ := h
  exact (hs.2 _ _ hp).trans ((c_fd' h hk).2 39 (.null) (List.mem_of_getElem? (i := 5) rfl))
theorem q_fd_40 {P : List Nat} {lf : UInt32 → Int32} {L n m : Nat} {σ : fl_S} (h : We P lf L n m σ) (hp : iP 40 P = true) {k : Nat} (hk : k < L) : sF σ (a_fd k) 40 = .null := by
  obtain ⟨σ0, h, hs⟩ := h
  exact (hs.2 _ _ hp).trans ((c_fd' h hk).2 40 (.null) (List.mem_of_getElem? (i := 6) rfl))
theorem q_fd_41 {P : List Nat} {lf : UInt32 → Int32} {L n m : Nat} {σ : fl_S} (h : We P lf L n m σ) (hp : iP 41 P = true) {k : Nat} (hk : k < L) : sF σ (a_fd k) 41 = .int 0 := by
  obtain ⟨σ0, h, hs⟩ := h
  exact (hs.2 _ _ hp).trans ((c_fd' h hk).2 41 (i32 0) (List.mem_of_getElem? (i := 7) rfl))
theorem q_fd_42 {P : List Nat} {lf : UInt32 → Int32} {L n m : Nat} {σ : fl_S} (h : We P lf L n m σ) (hp : iP 42 P = true) {k : Nat} (hk : k < L) : sF σ (a_fd k) 42 = .int 0 := by
  obtain ⟨σ0, h, hs⟩ := h
  exact (hs.2 _ _ hp).trans ((c_fd' h hk).2 42 (i32 (0)) (List.mem_of_getElem? (i := 8) rfl))
theorem q_fd_43 {P : List Nat} {lf : UInt32 → Int32} {L n m : Nat} {σ : fl_S} (h : We P lf L n m σ) (hp : iP 43 P = true) {k : Nat} (hk : k < L) : sF σ (a_fd k) 43 = .null := by
  obtain ⟨σ0, h, hs⟩ := h
  exact (hs.2 _ _ hp).trans ((c_fd' h hk).2 43 (.null) (List.mem_of_getElem? (i := 9) rfl))
theorem q_fd_44 {P : List Nat} {lf : UInt32 → Int32} {L n m : Nat} {σ : fl_S} (h : We P lf L n m σ) (hp : iP 44 P = true) {k : Nat} (hk : k < L) : sF σ (a_fd k) 44 = .null := by
  obtain ⟨σ0, h, hs⟩ := h
  exact (hs.2 _ _ hp).trans ((c_fd' h hk).2 44 (.null) (List.mem_of_getElem? (i := 10) rfl))
theorem q_fd_46 {P : List Nat} {lf : UInt32 → Int32} {L n m : Nat} {σ : fl_S} (h : We P lf L n m σ) (hp : iP 46 P = true) {k : Nat} (hk : k < L) : sF σ (a_fd k) 46 = .null := by
  obtain ⟨σ0, h, hs⟩ := h
  exact (hs.2 _ _ hp).trans ((c_fd' h hk).2 46 (.null) (List.mem_of_getElem? (i := 11) rfl))
theorem q_fd_47 {P : List Nat} {lf : UInt32 → Int32} {L n m : Nat} {σ : fl_S} (h : We P lf L n m σ) (hp : iP 47 P = true) {k : Nat} (hk : k < L) : sF σ (a_fd k) 47 = .null := by
  obtain ⟨σ0, h, hs⟩ := h
  exact (hs.2 _ _ hp).trans ((c_fd' h hk).2 47 (.null) (List.mem_of_getElem? (i := 12) rfl))
theorem q_fd_48 {P : List Nat} {lf : UInt32 → Int32} {L n m : Nat} {σ : fl_S} (h : We P lf L n m σ) (hp : iP 48 P = true) {k : Nat} (hk : k < L) : sF σ (a_fd k) 48 = .int 0 := by
  obtain ⟨σ0, h, hs⟩ := h
  exact (hs.2 _ _ hp).trans ((c_fd' h hk).2 48 (i32 (0)) (List.mem_of_getElem? (i := 13) rfl))
theorem q_fd_49 {P : List Nat} {lf : UInt32 → Int32} {L n m : Nat} {σ : fl_S} (h : We P lf L n m σ) (hp : iP 49 P = true) {k : Nat} (hk : k < L) : sF σ (a_fd k) 49 = .int 0 := by
  obtain ⟨σ0, h, hs⟩ := h
  exact (hs.2 _ _ hp).trans ((c_fd' h hk).2 49 (i32 (0)) (List.mem_of_getElem? (i := 14) rfl))
theorem q_fd_50 {P : List Nat} {lf : UInt32 → Int32} {L n m : Nat} {σ : fl_S} (h : We P lf L n m σ) (hp : iP 50 P = true) {k : Nat} (hk : k < L) : sF σ (a_fd k) 50 = .null := by
  obtain ⟨σ0, h, hs⟩ := h
  exact (hs.2 _ _ hp).trans ((c_fd' h hk).2 50 (.null) (List.mem_of_getElem? (i := 15) rfl))
theorem c_nl' {lf : UInt32 → Int32} {L n m : Nat} {σ : fl_S} (h : Wd lf L n m σ) {k : Nat} (hk : k < L) (h0 : 0 < k) : Wc lf σ (a_nl k) 4 (w_nl L n m k) := ((h.2.2.2.2.2.2.2.2.2.2.2.2.2.2.2.2.2.2.2.2.2.2.2.2.2.2.2.2.2.1 k hk).2.2.2 h0).1
theorem c_nl {P : List Nat} {lf : UInt32 → Int32} {L n m : Nat} {σ : fl_S} (h : We P lf L n m σ) {k : Nat} (hk : k < L) (h0 : 0 < k) : sC σ 4 (a_nl k) = true := by
  obtain ⟨σ0, h, hs⟩ := h
  exact hs.1 _ _ (c_nl' h hk h0).1
theorem q_nl_128 {P : List Nat} {lf : UInt32 → Int32} {L n m : Nat} {σ : fl_S} (h : We P lf L n m σ) (hp : iP 128 P = true) {k : Nat} (hk : k < L) (h0 : 0 < k) : sF σ (a_nl k) 128 = .int 13 := by
  obtain ⟨σ0, h, hs⟩ := h
  exact (hs.2 _ _ hp).trans ((c_nl' h hk h0).2 128 (i32 (13)) (List.mem_of_getElem? (i := 0) rfl))
theorem q_nl_129 {P : List Nat} {lf : UInt32 → Int32} {L n m : Nat} {σ : fl_S} (h : We P lf L n m σ) (hp : iP 129 P = true) {k : Nat} (hk : k < L) (h0 : 0 < k) : sF σ (a_nl k) 129 = .int (Int32.ofNat (2 * k + 2)) := by
  obtain ⟨σ0, h, hs⟩ := h
  exact (hs.2 _ _ hp).trans ((c_nl' h hk h0).2 129 (i32 (2 * k + 2)) (List.mem_of_getElem? (i := 1) rfl))
theorem q_nl_131 {P : List Nat} {lf : UInt32 → Int32} {L n m : Nat} {σ : fl_S} (h : We P lf L n m σ) (hp : iP 131 P = true) {k : Nat} (hk : k < L) (h0 : 0 < k) : sF σ (a_nl k) 131 = .ref (27) := by
  obtain ⟨σ0, h, hs⟩ := h
  exact (hs.2 _ _ hp).trans ((c_nl' h hk h0).2 131 (.ref (27)) (List.mem_of_getElem? (i := 2) rfl))
theorem q_nl_132 {P : List Nat} {lf : UInt32 → Int32} {L n m : Nat} {σ : fl_S} (h : We P lf L n m σ) (hp : iP 132 P = true) {k : Nat} (hk : k < L) (h0 : 0 < k) : sF σ (a_nl k) 132 = .int 0 := by
  obtain ⟨σ0, h, hs⟩ := h
  exact (hs.2 _ _ hp).trans ((c_nl' h hk h0).2 132 (i32 (0)) (List.mem_of_getElem? (i := 3) rfl))
theorem q_nl_133 {P : List Nat} {lf : UInt32 → Int32} {L n m : Nat} {σ : fl_S} (h : We P lf L n m σ) (hp : iP 133 P = true) {k : Nat} (hk : k < L) (h0 : 0 < k) : sF σ (a_nl k) 133 = .int 0 := by
  obtain ⟨σ0, h, hs⟩ := h
  exact (hs.2 _ _ hp).trans ((c_nl' h hk h0).2 133 (i32 0) (List.mem_of_getElem? (i := 4) rfl))
theorem q_nl_134 {P : List Nat} {lf : UInt32 → Int32} {L n m : Nat} {σ : fl_S} (h : We P lf L n m σ) (hp : iP 134 P = true) {k : Nat} (hk : k < L) (h0 : 0 < k) : sF σ (a_nl k) 134 = .null := by
  obtain ⟨σ0, h, hs⟩ := h
  exact (hs.2 _ _ hp).trans ((c_nl' h hk h0).2 134 (.null) (List.mem_of_getElem? (i := 5) rfl))
theorem q_nl_135 {P : List Nat} {lf : UInt32 → Int32} {L n m : Nat} {σ : fl_S} (h : We P lf L n m σ) (hp : iP 135 P = true) {k : Nat} (hk : k < L) (h0 : 0 < k) : sF σ (a_nl k) 135 = .null := by
  obtain ⟨σ0, h, hs⟩ := h
  exact (hs.2 _ _ hp).trans ((c_nl' h hk h0).2 135 (.null) (List.mem_of_getElem? (i := 6) rfl))
theorem q_nl_136 {P : List Nat} {lf : UInt32 → Int32} {L n m : Nat} {σ : fl_S} (h : We P lf L n m σ) (hp : iP 136 P = true) {k : Nat} (hk : k < L) (h0 : 0 < k) : sF σ (a_nl k) 136 = .null := by
  obtain ⟨σ0, h, hs⟩ := h
  exact (hs.2 _ _ hp).trans ((c_nl' h hk h0).2 136 (.null) (List.mem_of_getElem? (i := 7) rfl))
theorem q_nl_137 {P : List Nat} {lf : UInt32 → Int32} {L n m : Nat} {σ : fl_S} (h : We P lf L n m σ) (hp : iP 137 P = true) {k : Nat} (hk : k < L) (h0 : 0 < k) : sF σ (a_nl k) 137 = .ref (a_ol k) := by
  obtain ⟨σ0, h, hs⟩ := h
  exact (hs.2 _ _ hp).trans ((c_nl' h hk h0).2 137 (.ref (a_ol k)) (List.mem_of_getElem? (i := 8) rfl))
theorem q_nl_138 {P : List Nat} {lf : UInt32 → Int32} {L n m : Nat} {σ : fl_S} (h : We P lf L n m σ) (hp : iP 138 P = true) {k : Nat} (hk : k < L) (h0 : 0 < k) : sF σ (a_nl k) 138 = .null := by
  obtain ⟨σ0, h, hs⟩ := h
  exact (hs.2 _ _ hp).trans ((c_nl' h hk h0).2 138 (.null) (List.mem_of_getElem? (i := 9) rfl))
theorem q_nl_139 {P : List Nat} {lf : UInt32 → Int32} {L n m : Nat} {σ : fl_S} (h : We P lf L n m σ) (hp : iP 139 P = true) {k : Nat} (hk : k < L) (h0 : 0 < k) : sF σ (a_nl k) 139 = .null := by
  obtain ⟨σ0, h, hs⟩ := h
  exact (hs.2 _ _ hp).trans ((c_nl' h hk h0).2 139 (.null) (List.mem_of_getElem? (i := 10) rfl))
theorem q_nl_140 {P : List Nat} {lf : UInt32 → Int32} {L n m : Nat} {σ : fl_S} (h : We P lf L n m σ) (hp : iP 140 P = true) {k : Nat} (hk : k < L) (h0 : 0 < k) : sF σ (a_nl k) 140 = .null := by
  obtain ⟨σ0, h, hs⟩ := h
  exact (hs.2 _ _ hp).trans ((c_nl' h hk h0).2 140 (.null) (List.mem_of_getElem? (i := 11) rfl))
theorem q_nl_141 {P : List Nat} {lf : UInt32 → Int32} {L n m : Nat} {σ : fl_S} (h : We P lf L n m σ) (hp : iP 141 P = true) {k : Nat} (hk : k < L) (h0 : 0 < k) : sF σ (a_nl k) 141 = .null := by
  obtain ⟨σ0, h, hs⟩ := h
  exact (hs.2 _ _ hp).trans ((c_nl' h hk h0).2 141 (.null) (List.mem_of_getElem? (i := 12) rfl))
theorem q_nl_142 {P : List Nat} {lf : UInt32 → Int32} {L n m : Nat} {σ : fl_S} (h : We P lf L n m σ) (hp : iP 142 P = true) {k : Nat} (hk : k < L) (h0 : 0 < k) : sF σ (a_nl k) 142 = .int 0 := by
  obtain ⟨σ0, h, hs⟩ := h
  exact (hs.2 _ _ hp).trans ((c_nl' h hk h0).2 142 (i32 (0)) (List.mem_of_getElem? (i := 13) rfl))
theorem q_nl_143 {P : List Nat} {lf : UInt32 → Int32} {L n m : Nat} {σ : fl_S} (h : We P lf L n m σ) (hp : iP 143 P = true) {k : Nat} (hk : k < L) (h0 : 0 < k) : sF σ (a_nl k) 143 = .int (-1) := by
  obtain ⟨σ0, h, hs⟩ := h
  exact (hs.2 _ _ hp).trans ((c_nl' h hk h0).2 143 (.int (-1)) (List.mem_of_getElem? (i := 14) rfl))
theorem q_nl_144 {P : List Nat} {lf : UInt32 → Int32} {L n m : Nat} {σ : fl_S} (h : We P lf L n m σ) (hp : iP 144 P = true) {k : Nat} (hk : k < L) (h0 : 0 < k) : sF σ (a_nl k) 144 = .null := by
  obtain ⟨σ0, h, hs⟩ := h
  exact (hs.2 _ _ hp).trans ((c_nl' h hk h0).2 144 (.null) (List.mem_of_getElem? (i := 15) rfl))
theorem q_nl_145 {P : List Nat} {lf : UInt32 → Int32} {L n m : Nat} {σ : fl_S} (h : We P lf L n m σ) (hp : iP 145 P = true) {k : Nat} (hk : k < L) (h0 : 0 < k) : sF σ (a_nl k) 145 = .int 0 := by
  obtain ⟨σ0, h, hs⟩ := h
  exact (hs.2 _ _ hp).trans ((c_nl' h hk h0).2 145 (i32 (0)) (List.mem_of_getElem? (i := 16) rfl))
theorem q_nl_146 {P : List Nat} {lf : UInt32 → Int32} {L n m : Nat} {σ : fl_S} (h : We P lf L n m σ) (hp : iP 146 P = true) {k : Nat} (hk : k < L) (h0 : 0 < k) : sF σ (a_nl k) 146 = .ref (a_lv k) := by
  obtain ⟨σ0, h, hs⟩ := h
  exact (hs.2 _ _ hp).trans ((c_nl' h hk h0).2 146 (.ref (a_lv k)) (List.mem_of_getElem? (i := 17) rfl))
theorem q_nl_147 {P : List Nat} {lf : UInt32 → Int32} {L n m : Nat} {σ : fl_S} (h : We P lf L n m σ) (hp : iP 147 P = true) {k : Nat} (hk : k < L) (h0 : 0 < k) : sF σ (a_nl k) 147 = .null := by
  obtain ⟨σ0, h, hs⟩ := h
  exact (hs.2 _ _ hp).trans ((c_nl' h hk h0).2 147 (.null) (List.mem_of_getElem? (i := 18) rfl))
theorem c_ol' {lf : UInt32 → Int32} {L n m : Nat} {σ : fl_S} (h : Wd lf L n m σ) {k : Nat} (hk : k < L) (h0 : 0 < k) : Wc lf σ (a_ol k) 5 (w_ol L n m k) := ((h.2.2.2.2.2.2.2.2.2.2.2.2.2.2.2.2.2.2.2.2.2.2.2.2.2.2.2.2.2.1 k hk).2.2.2 h0).2
theorem c_ol {P : List Nat} {lf : UInt32 → Int32} {L n m : Nat} {σ : fl_S} (h : We P lf L n m σ) {k : Nat} (hk : k < L) (h0 : 0 < k) : sC σ 5 (a_ol k) = true := by
  obtain ⟨σ0, h, hs⟩ := h
  exact hs.1 _ _ (c_ol' h hk h0).1
theorem q_ol_160 {P : List Nat} {lf : UInt32 → Int32} {L n m : Nat} {σ : fl_S} (h : We P lf L n m σ) (hp : iP 160 P = true) {k : Nat} (hk : k < L) (h0 : 0 < k) : sF σ (a_ol k) 160 = .int 315 := by
  obtain ⟨σ0, h, hs⟩ := h
  exact (hs.2 _ _ hp).trans ((c_ol' h hk h0).2 160 (i32 (315)) (List.mem_of_getElem? (i := 0) rfl))
theorem q_ol_161 {P : List Nat} {lf : UInt32 → Int32} {L n m : Nat} {σ : fl_S} (h : We P lf L n m σ) (hp : iP 161 P = true) {k : Nat} (hk : k < L) (h0 : 0 < k) : sF σ (a_ol k) 161 = .int (Int32.ofNat (2 * k - 1)) := by
  obtain ⟨σ0, h, hs⟩ := h
  exact (hs.2 _ _ hp).trans ((c_ol' h hk h0).2 161 (i32 (2 * k - 1)) (List.mem_of_getElem? (i := 1) rfl))
theorem q_ol_162 {P : List Nat} {lf : UInt32 → Int32} {L n m : Nat} {σ : fl_S} (h : We P lf L n m σ) (hp : iP 162 P = true) {k : Nat} (hk : k < L) (h0 : 0 < k) : sF σ (a_ol k) 162 = .int (-1) := by
  obtain ⟨σ0, h, hs⟩ := h
  exact (hs.2 _ _ hp).trans ((c_ol' h hk h0).2 162 (.int (-1)) (List.mem_of_getElem? (i := 2) rfl))
theorem q_ol_164 {P : List Nat} {lf : UInt32 → Int32} {L n m : Nat} {σ : fl_S} (h : We P lf L n m σ) (hp : iP 164 P = true) {k : Nat} (hk : k < L) (h0 : 0 < k) : sF σ (a_ol k) 164 = .null := by
  obtain ⟨σ0, h, hs⟩ := h
  exact (hs.2 _ _ hp).trans ((c_ol' h hk h0).2 164 (.null) (List.mem_of_getElem? (i := 3) rfl))
theorem q_ol_165 {P : List Nat} {lf : UInt32 → Int32} {L n m : Nat} {σ : fl_S} (h : We P lf L n m σ) (hp : iP 165 P = true) {k : Nat} (hk : k < L) (h0 : 0 < k) : sF σ (a_ol k) 165 = .null := by
  obtain ⟨σ0, h, hs⟩ := h
  exact (hs.2 _ _ hp).trans ((c_ol' h hk h0).2 165 (.null) (List.mem_of_getElem? (i := 4) rfl))
theorem q_ol_166 {P : List Nat} {lf : UInt32 → Int32} {L n m : Nat} {σ : fl_S} (h : We P lf L n m σ) (hp : iP 166 P = true) {k : Nat} (hk : k < L) (h0 : 0 < k) : sF σ (a_ol k) 166 = .null := by
  obtain ⟨σ0, h, hs⟩ := h
  exact (hs.2 _ _ hp).trans ((c_ol' h hk h0).2 166 (.null) (List.mem_of_getElem? (i := 5) rfl))
theorem q_ol_167 {P : List Nat} {lf : UInt32 → Int32} {L n m : Nat} {σ : fl_S} (h : We P lf L n m σ) (hp : iP 167 P = true) {k : Nat} (hk : k < L) (h0 : 0 < k) : sF σ (a_ol k) 167 = .null := by
  obtain ⟨σ0, h, hs⟩ := h
  exact (hs.2 _ _ hp).trans ((c_ol' h hk h0).2 167 (.null) (List.mem_of_getElem? (i := 6) rfl))
theorem c_do' {lf : UInt32 → Int32} {L n m : Nat} {σ : fl_S} (h : Wd lf L n m σ) : Wc lf σ (a_do L) 1 (w_do L n m) := h.2.2.2.2.2.2.2.1
theorem c_do {P : List Nat} {lf : UInt32 → Int32} {L n m : Nat} {σ : fl_S} (h : We P lf L n m σ) : sC σ 1 (a_do L) = true := by
  obtain ⟨σ0, h, hs⟩ := h
  exact hs.1 _ _ (c_do' h).1
theorem q_do_32 {P : List Nat} {lf : UInt32 → Int32} {L n m : Nat} {σ : fl_S} (h : We P lf L n m σ) (hp : iP 32 P = true) : sF σ (a_do L) 32 = .int 4 := by
  obtain ⟨σ0, h, hs⟩ := h
  exact (hs.2 _ _ hp).trans ((c_do' h).2 32 (i32 (4)) (List.mem_of_getElem? (i := 0) rfl))
theorem q_do_33 {P : List Nat} {lf : UInt32 → Int32} {L n m : Nat} {σ : fl_S} (h : We P lf L n m σ) (hp : iP 33 P = true) : sF σ (a_do L) 33 = .int (Int32.ofNat (2 * L + 1)) := by
  obtain ⟨σ0, h, hs⟩ := h
  exact (hs.2 _ _ hp).trans ((c_do' h).2 33 (i32 (2 * L + 1)) (List.mem_of_getElem? (i := 1) rfl))
theorem q_do_36 {P : List Nat} {lf : UInt32 → Int32} {L n m : Nat} {σ : fl_S} (h : We P lf L n m σ) (hp : iP 36 P = true) : sF σ (a_do L) 36 = .ref (27) := by
  obtain ⟨σ0, h, hs⟩ := h
  exact (hs.2 _ _ hp).trans ((c_do' h).2 36 (.ref (27)) (List.mem_of_getElem? (i := 2) rfl))
theorem q_do_37 {P : List Nat} {lf : UInt32 → Int32} {L n m : Nat} {σ : fl_S} (h : We P lf L n m σ) (hp : iP 37 P = true) : sF σ (a_do L) 37 = .ref (a_rg L 0) := by
  obtain ⟨σ0, h, hs⟩ := h
  exact (hs.2 _ _ hp).trans ((c_do' h).2 37 (.ref (a_rg L 0)) (List.mem_of_getElem? (i := 3) rfl))
theorem q_do_38 {P : List Nat} {lf : UInt32 → Int32} {L n m : Nat} {σ : fl_S} (h : We P lf L n m σ) (hp : iP 38 P = true) : sF σ (a_do L) 38 = .ref (a_oN L) := by
  obtain ⟨σ0, h, hs⟩ := h
  exact (hs.2 _ _ hp).trans ((c_do' h).2 38 (.ref (a_oN L)) (List.mem_of_getElem? (i := 4) rfl))
theorem q_do_39 {P : List Nat} {lf : UInt32 → Int32} {L n m : Nat} {σ : fl_S} (h : We P lf L n m σ) (hp : iP 39 P = true) : sF σ (a_do L) 39 = .ref (a_on L) := by
  obtain ⟨σ0, h, hs⟩ := h
  exact (hs.2 _ _ hp).trans ((c_do' h).2 39 (.ref (a_on L)) (List.mem_of_getElem? (i := 5) rfl))
theorem q_do_40 {P : List Nat} {lf : UInt32 → Int32} {L n m : Nat} {σ : fl_S} (h : We P lf L n m σ) (hp : iP 40 P = true) : sF σ (a_do L) 40 = .null := by
  obtain ⟨σ0, h, hs⟩ := h
  exact (hs.2 _ _ hp).trans ((c_do' h).2 40 (.null) (List.mem_of_getElem? (i := 6) rfl))
theorem q_do_41 {P : List Nat} {lf : UInt32 → Int32} {L n m : Nat} {σ : fl_S} (h : We P lf L n m σ) (hp : iP 41 P = true) : sF σ (a_do L) 41 = .int 0 := by
  obtain ⟨σ0, h, hs⟩ := h
  exact (hs.2 _ _ hp).trans ((c_do' h).2 41 (i32 0) (List.mem_of_getElem? (i := 7) rfl))
theorem q_do_42 {P : List Nat} {lf : UInt32 → Int32} {L n m : Nat} {σ : fl_S} (h : We P lf L n m σ) (hp : iP 42 P = true) : sF σ (a_do L) 42 = .int 0 := by
  obtain ⟨σ0, h, hs⟩ := h
  exact (hs.2 _ _ hp).trans ((c_do' h).2 42 (i32 (0)) (List.mem_of_getElem? (i := 8) rfl))
theorem q_do_43 {P : List Nat} {lf : UInt32 → Int32} {L n m : Nat} {σ : fl_S} (h : We P lf L n m σ) (hp : iP 43 P = true) : sF σ (a_do L) 43 = .null := by
  obtain ⟨σ0, h, hs⟩ := h
  exact (hs.2 _ _ hp).trans ((c_do' h).2 43 (.null) (List.mem_of_getElem? (i := 9) rfl))
theorem q_do_44 {P : List Nat} {lf : UInt32 → Int32} {L n m : Nat} {σ : fl_S} (h : We P lf L n m σ) (hp : iP 44 P = true) : sF σ (a_do L) 44 = .null := by
  obtain ⟨σ0, h, hs⟩ := h
  exact (hs.2 _ _ hp).trans ((c_do' h).2 44 (.null) (List.mem_of_getElem? (i := 10) rfl))
theorem q_do_46 {P : List Nat} {lf : UInt32 → Int32} {L n m : Nat} {σ : fl_S} (h : We P lf L n m σ) (hp : iP 46 P = true) : sF σ (a_do L) 46 = .null := by
  obtain ⟨σ0, h, hs⟩ := h
  exact (hs.2 _ _ hp).trans ((c_do' h).2 46 (.null) (List.mem_of_getElem? (i := 11) rfl))
theorem q_do_47 {P : List Nat} {lf : UInt32 → Int32} {L n m : Nat} {σ : fl_S} (h : We P lf L n m σ) (hp : iP 47 P = true) : sF σ (a_do L) 47 = .null := by
  obtain ⟨σ0, h, hs⟩ := h
  exact (hs.2 _ _ hp).trans ((c_do' h).2 47 (.null) (List.mem_of_getElem? (i := 12) rfl))
theorem q_do_48 {P : List Nat} {lf : UInt32 → Int32} {L n m : Nat} {σ : fl_S} (h : We P lf L n m σ) (hp : iP 48 P = true) : sF σ (a_do L) 48 = .int 0 := by
  obtain ⟨σ0, h, hs⟩ := h
  exact (hs.2 _ _ hp).trans ((c_do' h).2 48 (i32 (0)) (List.mem_of_getElem? (i := 13) rfl))
theorem q_do_49 {P : List Nat} {lf : UInt32 → Int32} {L n m : Nat} {σ : fl_S} (h : We P lf L n m σ) (hp : iP 49 P = true) : sF σ (a_do L) 49 = .int 0 := by
  obtain ⟨σ0, h, hs⟩ := h
  exact (hs.2 _ _ hp).trans ((c_do' h).2 49 (i32 (0)) (List.mem_of_getElem? (i := 14) rfl))
theorem q_do_50 {P : List Nat} {lf : UInt32 → Int32} {L n m : Nat} {σ : fl_S} (h : We P lf L n m σ) (hp : iP 50 P = true) : sF σ (a_do L) 50 = .null := by
  obtain ⟨σ0, h, hs⟩ := h
  exact (hs.2 _ _ hp).trans ((c_do' h).2 50 (.null) (List.mem_of_getElem? (i := 15) rfl))
theorem c_oN' {lf : UInt32 → Int32} {L n m : Nat} {σ : fl_S} (h : Wd lf L n m σ) : Wc lf σ (a_oN L) 4 (w_oN L n m) := h.2.2.2.2.2.2.2.2.1
theorem c_oN {P : List Nat} {lf : UInt32 → Int32} {L n m : Nat} {σ : fl_S} (h : We P lf L n m σ) : sC σ 4 (a_oN L) = true := by
  obtain ⟨σ0, h, hs⟩ := h
  exact hs.1 _ _ (c_oN' h).1
theorem q_oN_128 {P : List Nat} {lf : UInt32 → Int32} {L n m : Nat} {σ : fl_S} (h : We P lf L n m σ) (hp : iP 128 P = true) : sF σ (a_oN L) 128 = .int 12 := by
  obtain ⟨σ0, h, hs⟩ := h
  exact (hs.2 _ _ hp).trans ((c_oN' h).2 128 (i32 (12)) (List.mem_of_getElem? (i := 0) rfl))
theorem q_oN_129 {P : List Nat} {lf : UInt32 → Int32} {L n m : Nat} {σ : fl_S} (h : We P lf L n m σ) (hp : iP 129 P = true) : sF σ (a_oN L) 129 = .int (Int32.ofNat (2 * L + 2)) := by
  obtain ⟨σ0, h, hs⟩ := h
  exact (hs.2 _ _ hp).trans ((c_oN' h).2 129 (i32 (2 * L + 2)) (List.mem_of_getElem? (i := 1) rfl))
theorem q_oN_131 {P : List Nat} {lf : UInt32 → Int32} {L n m : Nat} {σ : fl_S} (h : We P lf L n m σ) (hp : iP 131 P = true) : sF σ (a_oN L) 131 = .ref (27) := by
  obtain ⟨σ0, h, hs⟩ := h
  exact (hs.2 _ _ hp).trans ((c_oN' h).2 131 (.ref (27)) (List.mem_of_getElem? (i := 2) rfl))
theorem q_oN_132 {P : List Nat} {lf : UInt32 → Int32} {L n m : Nat} {σ : fl_S} (h : We P lf L n m σ) (hp : iP 132 P = true) : sF σ (a_oN L) 132 = .int 0 := by
  obtain ⟨σ0, h, hs⟩ := h
  exact (hs.2 _ _ hp).trans ((c_oN' h).2 132 (i32 (0)) (List.mem_of_getElem? (i := 3) rfl))
theorem q_oN_133 {P : List Nat} {lf : UInt32 → Int32} {L n m : Nat} {σ : fl_S} (h : We P lf L n m σ) (hp : iP 133 P = true) : sF σ (a_oN L) 133 = .int 0 := by
  obtain ⟨σ0, h, hs⟩ := h
  exact (hs.2 _ _ hp).trans ((c_oN' h).2 133 (i32 0) (List.mem_of_getElem? (i := 4) rfl))
theorem q_oN_134 {P : List Nat} {lf : UInt32 → Int32} {L n m : Nat} {σ : fl_S} (h : We P lf L n m σ) (hp : iP 134 P = true) : sF σ (a_oN L) 134 = .null := by
  obtain ⟨σ0, h, hs⟩ := h
  exact (hs.2 _ _ hp).trans ((c_oN' h).2 134 (.null) (List.mem_of_getElem? (i := 5) rfl))
theorem q_oN_135 {P : List Nat} {lf : UInt32 → Int32} {L n m : Nat} {σ : fl_S} (h : We P lf L n m σ) (hp : iP 135 P = true) : sF σ (a_oN L) 135 = .null := by
  obtain ⟨σ0, h, hs⟩ := h
  exact (hs.2 _ _ hp).trans ((c_oN' h).2 135 (.null) (List.mem_of_getElem? (i := 6) rfl))
theorem q_oN_136 {P : List Nat} {lf : UInt32 → Int32} {L n m : Nat} {σ : fl_S} (h : We P lf L n m σ) (hp : iP 136 P = true) : sF σ (a_oN L) 136 = .null := by
  obtain ⟨σ0, h, hs⟩ := h
  exact (hs.2 _ _ hp).trans ((c_oN' h).2 136 (.null) (List.mem_of_getElem? (i := 7) rfl))
theorem q_oN_137 {P : List Nat} {lf : UInt32 → Int32} {L n m : Nat} {σ : fl_S} (h : We P lf L n m σ) (hp : iP 137 P = true) : sF σ (a_oN L) 137 = .null := by
  obtain ⟨σ0, h, hs⟩ := h
  exact (hs.2 _ _ hp).trans ((c_oN' h).2 137 (.null) (List.mem_of_getElem? (i := 8) rfl))
theorem q_oN_138 {P : List Nat} {lf : UInt32 → Int32} {L n m : Nat} {σ : fl_S} (h : We P lf L n m σ) (hp : iP 138 P = true) : sF σ (a_oN L) 138 = .ref (a_do L) := by
  obtain ⟨σ0, h, hs⟩ := h
  exact (hs.2 _ _ hp).trans ((c_oN' h).2 138 (.ref (a_do L)) (List.mem_of_getElem? (i := 9) rfl))
theorem q_oN_139 {P : List Nat} {lf : UInt32 → Int32} {L n m : Nat} {σ : fl_S} (h : We P lf L n m σ) (hp : iP 139 P = true) : sF σ (a_oN L) 139 = .null := by
  obtain ⟨σ0, h, hs⟩ := h
  exact (hs.2 _ _ hp).trans ((c_oN' h).2 139 (.null) (List.mem_of_getElem? (i := 10) rfl))
theorem q_oN_140 {P : List Nat} {lf : UInt32 → Int32} {L n m : Nat} {σ : fl_S} (h : We P lf L n m σ) (hp : iP 140 P = true) : sF σ (a_oN L) 140 = .null := by
  obtain ⟨σ0, h, hs⟩ := h
  exact (hs.2 _ _ hp).trans ((c_oN' h).2 140 (.null) (List.mem_of_getElem? (i := 11) rfl))
theorem q_oN_141 {P : List Nat} {lf : UInt32 → Int32} {L n m : Nat} {σ : fl_S} (h : We P lf L n m σ) (hp : iP 141 P = true) : sF σ (a_oN L) 141 = .null := by
  obtain ⟨σ0, h, hs⟩ := h
  exact (hs.2 _ _ hp).trans ((c_oN' h).2 141 (.null) (List.mem_of_getElem? (i := 12) rfl))
theorem q_oN_142 {P : List Nat} {lf : UInt32 → Int32} {L n m : Nat} {σ : fl_S} (h : We P lf L n m σ) (hp : iP 142 P = true) : sF σ (a_oN L) 142 = .int 0 := by
  obtain ⟨σ0, h, hs⟩ := h
  exact (hs.2 _ _ hp).trans ((c_oN' h).2 142 (i32 (0)) (List.mem_of_getElem? (i := 13) rfl))
theorem q_oN_143 {P : List Nat} {lf : UInt32 → Int32} {L n m : Nat} {σ : fl_S} (h : We P lf L n m σ) (hp : iP 143 P = true) : sF σ (a_oN L) 143 = .int (-1) := by
  obtain ⟨σ0, h, hs⟩ := h
  exact (hs.2 _ _ hp).trans ((c_oN' h).2 143 (.int (-1)) (List.mem_of_getElem? (i := 14) rfl))
theorem q_oN_144 {P : List Nat} {lf : UInt32 → Int32} {L n m : Nat} {σ : fl_S} (h : We P lf L n m σ) (hp : iP 144 P = true) : sF σ (a_oN L) 144 = .null := by
  obtain ⟨σ0, h, hs⟩ := h
  exact (hs.2 _ _ hp).trans ((c_oN' h).2 144 (.null) (List.mem_of_getElem? (i := 15) rfl))
theorem q_oN_145 {P : List Nat} {lf : UInt32 → Int32} {L n m : Nat} {σ : fl_S} (h : We P lf L n m σ) (hp : iP 145 P = true) : sF σ (a_oN L) 145 = .int 0 := by
  obtain ⟨σ0, h, hs⟩ := h
  exact (hs.2 _ _ hp).trans ((c_oN' h).2 145 (i32 (0)) (List.mem_of_getElem? (i := 16) rfl))
theorem q_oN_146 {P : List Nat} {lf : UInt32 → Int32} {L n m : Nat} {σ : fl_S} (h : We P lf L n m σ) (hp : iP 146 P = true) : sF σ (a_oN L) 146 = .ref (a_on L) := by
  obtain ⟨σ0, h, hs⟩ := h
  exact (hs.2 _ _ hp).trans ((c_oN' h).2 146 (.ref (a_on L)) (List.mem_of_getElem? (i := 17) rfl))
theorem q_oN_147 {P : List Nat} {lf : UInt32 → Int32} {L n m : Nat} {σ : fl_S} (h : We P lf L n m σ) (hp : iP 147 P = true) : sF σ (a_oN L) 147 = .null := by
  obtain ⟨σ0, h, hs⟩ := h
  exact (hs.2 _ _ hp).trans ((c_oN' h).2 147 (.null) (List.mem_of_getElem? (i := 18) rfl))
theorem c_on' {lf : UInt32 → Int32} {L n m : Nat} {σ : fl_S} (h : Wd lf L n m σ) : Wc lf σ (a_on L) 4 (w_on L n m) := h.2.2.2.2.2.2.2.2.2.1
theorem c_on {P : List Nat} {lf : UInt32 → Int32} {L n m : Nat} {σ : fl_S} (h : We P lf L n m σ) : sC σ 4 (a_on L) = true := by
  obtain ⟨σ0, h, hs⟩ := h
  exact hs.1 _ _ (c_on' h).1
theorem q_on_128 {P : List Nat} {lf : UInt32 → Int32} {L n m : Nat} {σ : fl_S} (h : We P lf L n m σ) (hp : iP 128 P = true) : sF σ (a_on L) 128 = .int 13 := by
  obtain ⟨σ0, h, hs⟩ := h
  exact (hs.2 _ _ hp).trans ((c_on' h).2 128 (i32 (13)) (List.mem_of_getElem? (i := 0) rfl))
theorem q_on_129 {P : List Nat} {lf : UInt32 → Int32} {L n m : Nat} {σ : fl_S} (h : We P lf L n m σ) (hp : iP 129 P = true) : sF σ (a_on L) 129 = .int (Int32.ofNat (2 * L + 3)) := by
  obtain ⟨σ0, h, hs⟩ := h
  exact (hs.2 _ _ hp).trans ((c_on' h).2 129 (i32 (2 * L + 3)) (List.mem_of_getElem? (i := 1) rfl))
theorem q_on_131 {P : List Nat} {lf : UInt32 → Int32} {L n m : Nat} {σ : fl_S} (h : We P lf L n m σ) (hp : iP 131 P = true) : sF σ (a_on L) 131 = .ref (27) := by
  obtain ⟨σ0, h, hs⟩ := h
  exact (hs.2 _ _ hp).trans ((c_on' h).2 131 (.ref (27)) (List.mem_of_getElem? (i := 2) rfl))
theorem q_on_132 {P : List Nat} {lf : UInt32 → Int32} {L n m : Nat} {σ : fl_S} (h : We P lf L n m σ) (hp : iP 132 P = true) : sF σ (a_on L) 132 = .int 0 := by
  obtain ⟨σ0, h, hs⟩ := h
  exact (hs.2 _ _ hp).trans ((c_on' h).2 132 (i32 (0)) (List.mem_of_getElem? (i := 3) rfl))
theorem q_on_133 {P : List Nat} {lf : UInt32 → Int32} {L n m : Nat} {σ : fl_S} (h : We P lf L n m σ) (hp : iP 133 P = true) : sF σ (a_on L) 133 = .int 0 := by
  obtain ⟨σ0, h, hs⟩ := h
  exact (hs.2 _ _ hp).trans ((c_on' h).2 133 (i32 0) (List.mem_of_getElem? (i := 4) rfl))
theorem q_on_134 {P : List Nat} {lf : UInt32 → Int32} {L n m : Nat} {σ : fl_S} (h : We P lf L n m σ) (hp : iP 134 P = true) : sF σ (a_on L) 134 = .null := by
  obtain ⟨σ0, h, hs⟩ := h
  exact (hs.2 _ _ hp).trans ((c_on' h).2 134 (.null) (List.mem_of_getElem? (i := 5) rfl))
theorem q_on_135 {P : List Nat} {lf : UInt32 → Int32} {L n m : Nat} {σ : fl_S} (h : We P lf L n m σ) (hp : iP 135 P = true) : sF σ (a_on L) 135 = .null := by
  obtain ⟨σ0, h, hs⟩ := h
  exact (hs.2 _ _ hp).trans ((c_on' h).2 135 (.null) (List.mem_of_getElem? (i := 6) rfl))
theorem q_on_136 {P : List Nat} {lf : UInt32 → Int32} {L n m : Nat} {σ : fl_S} (h : We P lf L n m σ) (hp : iP 136 P = true) : sF σ (a_on L) 136 = .null := by
  obtain ⟨σ0, h, hs⟩ := h
  exact (hs.2 _ _ hp).trans ((c_on' h).2 136 (.null) (List.mem_of_getElem? (i := 7) rfl))
theorem q_on_137 {P : List Nat} {lf : UInt32 → Int32} {L n m : Nat} {σ : fl_S} (h : We P lf L n m σ) (hp : iP 137 P = true) : sF σ (a_on L) 137 = .ref (a_oo L) := by
  obtain ⟨σ0, h, hs⟩ := h
  exact (hs.2 _ _ hp).trans ((c_on' h).2 137 (.ref (a_oo L)) (List.mem_of_getElem? (i := 8) rfl))
theorem q_on_138 {P : List Nat} {lf : UInt32 → Int32} {L n m : Nat} {σ : fl_S} (h : We P lf L n m σ) (hp : iP 138 P = true) : sF σ (a_on L) 138 = .null := by
  obtain ⟨σ0, h, hs⟩ := h
  exact (hs.2 _ _ hp).trans ((c_on' h).2 138 (.null) (List.mem_of_getElem? (i := 9) rfl))
theorem q_on_139 {P : List Nat} {lf : UInt32 → Int32} {L n m : Nat} {σ : fl_S} (h : We P lf L n m σ) (hp : iP 139 P = true) : sF σ (a_on L) 139 = .null := by
  obtain ⟨σ0, h, hs⟩ := h
  exact (hs.2 _ _ hp).trans ((c_on' h).2 139 (.null) (List.mem_of_getElem? (i := 10) rfl))
theorem q_on_140 {P : List Nat} {lf : UInt32 → Int32} {L n m : Nat} {σ : fl_S} (h : We P lf L n m σ) (hp : iP 140 P = true) : sF σ (a_on L) 140 = .null := by
  obtain ⟨σ0, h, hs⟩ := h
  exact (hs.2 _ _ hp).trans ((c_on' h).2 140 (.null) (List.mem_of_getElem? (i := 11) rfl))
theorem q_on_141 {P : List Nat} {lf : UInt32 → Int32} {L n m : Nat} {σ : fl_S} (h : We P lf L n m σ) (hp : iP 141 P = true) : sF σ (a_on L) 141 = .null := by
  obtain ⟨σ0, h, hs⟩ := h
  exact (hs.2 _ _ hp).trans ((c_on' h).2 141 (.null) (List.mem_of_getElem? (i := 12) rfl))
theorem q_on_142 {P : List Nat} {lf : UInt32 → Int32} {L n m : Nat} {σ : fl_S} (h : We P lf L n m σ) (hp : iP 142 P = true) : sF σ (a_on L) 142 = .int 0 := by
  obtain ⟨σ0, h, hs⟩ := h
  exact (hs.2 _ _ hp).trans ((c_on' h).2 142 (i32 (0)) (List.mem_of_getElem? (i := 13) rfl))
theorem q_on_143 {P : List Nat} {lf : UInt32 → Int32} {L n m : Nat} {σ : fl_S} (h : We P lf L n m σ) (hp : iP 143 P = true) : sF σ (a_on L) 143 = .int (-1) := by
  obtain ⟨σ0, h, hs⟩ := h
  exact (hs.2 _ _ hp).trans ((c_on' h).2 143 (.int (-1)) (List.mem_of_getElem? (i := 14) rfl))
theorem q_on_144 {P : List Nat} {lf : UInt32 → Int32} {L n m : Nat} {σ : fl_S} (h : We P lf L n m σ) (hp : iP 144 P = true) : sF σ (a_on L) 144 = .null := by
  obtain ⟨σ0, h, hs⟩ := h
  exact (hs.2 _ _ hp).trans ((c_on' h).2 144 (.null) (List.mem_of_getElem? (i := 15) rfl))
theorem q_on_145 {P : List Nat} {lf : UInt32 → Int32} {L n m : Nat} {σ : fl_S} (h : We P lf L n m σ) (hp : iP 145 P = true) : sF σ (a_on L) 145 = .int 0 := by
  obtain ⟨σ0, h, hs⟩ := h
  exact (hs.2 _ _ hp).trans ((c_on' h).2 145 (i32 (0)) (List.mem_of_getElem? (i := 16) rfl))
theorem q_on_146 {P : List Nat} {lf : UInt32 → Int32} {L n m : Nat} {σ : fl_S} (h : We P lf L n m σ) (hp : iP 146 P = true) : sF σ (a_on L) 146 = .ref (a_rg L 0 + 1) := by
  obtain ⟨σ0, h, hs⟩ := h
  exact (hs.2 _ _ hp).trans ((c_on' h).2 146 (.ref (a_rg L 0 + 1)) (List.mem_of_getElem? (i := 17) rfl))
theorem q_on_147 {P : List Nat} {lf : UInt32 → Int32} {L n m : Nat} {σ : fl_S} (h : We P lf L n m σ) (hp : iP 147 P = true) : sF σ (a_on L) 147 = .null := by
  obtain ⟨σ0, h, hs⟩ := h
  exact (hs.2 _ _ hp).trans ((c_on' h).2 147 (.null) (List.mem_of_getElem? (i := 18) rfl))
theorem c_oo' {lf : UInt32 → Int32} {L n m : Nat} {σ : fl_S} (h : Wd lf L n m σ) : Wc lf σ (a_oo L) 5 (w_oo L n m) := h.2.2.2.2.2.2.2.2.2.2.1
theorem c_oo {P : List Nat} {lf : UInt32 → Int32} {L n m : Nat} {σ : fl_S} (h : We P lf L n m σ) : sC σ 5 (a_oo L) = true := by
  obtain ⟨σ0, h, hs⟩ := h
  exact hs.1 _ _ (c_oo' h).1
theorem q_oo_160 {P : List Nat} {lf : UInt32 → Int32} {L n m : Nat} {σ : fl_S} (h : We P lf L n m σ) (hp : iP 160 P = true) : sF σ (a_oo L) 160 = .int 315 := by
  obtain ⟨σ0, h, hs⟩ := h
  exact (hs.2 _ _ hp).trans ((c_oo' h).2 160 (i32 (315)) (List.mem_of_getElem? (i := 0) rfl))
theorem q_oo_161 {P : List Nat} {lf : UInt32 → Int32} {L n m : Nat} {σ : fl_S} (h : We P lf L n m σ) (hp : iP 161 P = true) : sF σ (a_oo L) 161 = .int (lf (UInt32.ofNat 1009)) := by
  obtain ⟨σ0, h, hs⟩ := h
  exact (hs.2 _ _ hp).trans ((c_oo' h).2 161 (iv 1009) (List.mem_of_getElem? (i := 1) rfl))
theorem q_oo_162 {P : List Nat} {lf : UInt32 → Int32} {L n m : Nat} {σ : fl_S} (h : We P lf L n m σ) (hp : iP 162 P = true) : sF σ (a_oo L) 162 = .int (-1) := by
  obtain ⟨σ0, h, hs⟩ := h
  exact (hs.2 _ _ hp).trans ((c_oo' h).2 162 (.int (-1)) (List.mem_of_getElem? (i := 2) rfl))
theorem q_oo_164 {P : List Nat} {lf : UInt32 → Int32} {L n m : Nat} {σ : fl_S} (h : We P lf L n m σ) (hp : iP 164 P = true) : sF σ (a_oo L) 164 = .null := by
  obtain ⟨σ0, h, hs⟩ := h
  exact (hs.2 _ _ hp).trans ((c_oo' h).2 164 (.null) (List.mem_of_getElem? (i := 3) rfl))
theorem q_oo_165 {P : List Nat} {lf : UInt32 → Int32} {L n m : Nat} {σ : fl_S} (h : We P lf L n m σ) (hp : iP 165 P = true) : sF σ (a_oo L) 165 = .null := by
  obtain ⟨σ0, h, hs⟩ := h
  exact (hs.2 _ _ hp).trans ((c_oo' h).2 165 (.null) (List.mem_of_getElem? (i := 4) rfl))
theorem q_oo_166 {P : List Nat} {lf : UInt32 → Int32} {L n m : Nat} {σ : fl_S} (h : We P lf L n m σ) (hp : iP 166 P = true) : sF σ (a_oo L) 166 = .null := by
  obtain ⟨σ0, h, hs⟩ := h
  exact (hs.2 _ _ hp).trans ((c_oo' h).2 166 (.null) (List.mem_of_getElem? (i := 5) rfl))
theorem q_oo_167 {P : List Nat} {lf : UInt32 → Int32} {L n m : Nat} {σ : fl_S} (h : We P lf L n m σ) (hp : iP 167 P = true) : sF σ (a_oo L) 167 = .null := by
  obtain ⟨σ0, h, hs⟩ := h
  exact (hs.2 _ _ hp).trans ((c_oo' h).2 167 (.null) (List.mem_of_getElem? (i := 6) rfl))
theorem c_rd' {lf : UInt32 → Int32} {L n m : Nat} {σ : fl_S} (h : Wd lf L n m σ) {r : Nat} (hr : r < n + m) : Wc lf σ (a_rg L r) 1 (w_rd L n m r) := (h.2.2.2.2.2.2.2.2.2.2.2.2.2.2.2.2.2.2.2.2.2.2.2.2.2.2.2.2.2.2 r hr).1
theorem c_rd {P : List Nat} {lf : UInt32 → Int32} {L n m : Nat} {σ : fl_S} (h : We P lf L n m σ) {r : Nat} (hr : r < n + m) : sC σ 1 (a_rg L r) = true := by
  obtain ⟨σ0, h, hs⟩ := h
  exact hs.1 _ _ (c_rd' h hr).1
theorem q_rd_32 {P : List Nat} {lf : UInt32 → Int32} {L n m : Nat} {σ : fl_S} (h : We P lf L n m σ) (hp : iP 32 P = true) {r : Nat} (hr : r < n + m) : sF σ (a_rg L r) 32 = .int 3 := by
  obtain ⟨σ0, h, hs⟩ := h
  exact (hs.2 _ _ hp).trans ((c_rd' h hr).2 32 (i32 (3)) (List.mem_of_getElem? (i := 0) rfl))
theorem q_rd_33 {P : List Nat} {lf : UInt32 → Int32} {L n m : Nat} {σ : fl_S} (h : We P lf L n m σ) (hp : iP 33 P = true) {r : Nat} (hr : r < n + m) : sF σ (a_rg L r) 33 = .int (Int32.ofNat (2 * L + 2 + r)) := by
  obtain ⟨σ0, h, hs⟩ := h
  exact (hs.2 _ _ hp).trans ((c_rd' h hr).2 33 (i32 (2 * L + 2 + r)) (List.mem_of_getElem? (i := 1) rfl))
theorem q_rd_36 {P : List Nat} {lf : UInt32 → Int32} {L n m : Nat} {σ : fl_S} (h : We P lf L n m σ) (hp : iP 36 P = true) {r : Nat} (hr : r < n + m) : sF σ (a_rg L r) 36 = .ref (27) := by
  obtain ⟨σ0, h, hs⟩ := h
  exact (hs.2 _ _ hp).trans ((c_rd' h hr).2 36 (.ref (27)) (List.mem_of_getElem? (i := 2) rfl))
theorem q_rd_37 {P : List Nat} {lf : UInt32 → Int32} {L n m : Nat} {σ : fl_S} (h : We P lf L n m σ) (hp : iP 37 P = true) {r : Nat} (hr : r < n + m) : sF σ (a_rg L r) 37 = gl_v lf ((bif Nat.beq (r + 1) (n + m) then .null else .ref (a_rg L (r + 1)))) := by
  obtain ⟨σ0, h, hs⟩ := h
  exact (hs.2 _ _ hp).trans ((c_rd' h hr).2 37 ((bif Nat.beq (r + 1) (n + m) then .null else .ref (a_rg L (r + 1)))) (List.mem_of_getElem? (i := 3) rfl))
theorem q_rd_38 {P : List Nat} {lf : UInt32 → Int32} {L n m : Nat} {σ : fl_S} (h : We P lf L n m σ) (hp : iP 38 P = true) {r : Nat} (hr : r < n + m) : sF σ (a_rg L r) 38 = .ref (a_rg L r + 1) := by
  obtain ⟨σ0, h, hs⟩ := h
  exact (hs.2 _ _ hp).trans ((c_rd' h hr).2 38 (.ref (a_rg L r + 1)) (List.mem_of_getElem? (i := 4) rfl))
theorem q_rd_39 {P : List Nat} {lf : UInt32 → Int32} {L n m : Nat} {σ : fl_S} (h : We P lf L n m σ) (hp : iP 39 P = true) {r : Nat} (hr : r < n + m) : sF σ (a_rg L r) 39 = .null := by
  obtain ⟨σ0, h, hs⟩ := h
  exact (hs.2 _ _ hp).trans ((c_rd' h hr).2 39 (.null) (List.mem_of_getElem? (i := 5) rfl))
theorem q_rd_40 {P : List Nat} {lf : UInt32 → Int32} {L n m : Nat} {σ : fl_S} (h : We P lf L n m σ) (hp : iP 40 P = true) {r : Nat} (hr : r < n + m) : sF σ (a_rg L r) 40 = .null := by
  obtain ⟨σ0, h, hs⟩ := h
  exact (hs.2 _ _ hp).trans ((c_rd' h hr).2 40 (.null) (List.mem_of_getElem? (i := 6) rfl))
theorem q_rd_41 {P : List Nat} {lf : UInt32 → Int32} {L n m : Nat} {σ : fl_S} (h : We P lf L n m σ) (hp : iP 41 P = true) {r : Nat} (hr : r < n + m) : sF σ (a_rg L r) 41 = .int 0 := by
  obtain ⟨σ0, h, hs⟩ := h
  exact (hs.2 _ _ hp).trans ((c_rd' h hr).2 41 (i32 0) (List.mem_of_getElem? (i := 7) rfl))
theorem q_rd_42 {P : List Nat} {lf : UInt32 → Int32} {L n m : Nat} {σ : fl_S} (h : We P lf L n m σ) (hp : iP 42 P = true) {r : Nat} (hr : r < n + m) : sF σ (a_rg L r) 42 = .int 0 := by
  obtain ⟨σ0, h, hs⟩ := h
  exact (hs.2 _ _ hp).trans ((c_rd' h hr).2 42 (i32 (0)) (List.mem_of_getElem? (i := 8) rfl))
theorem q_rd_43 {P : List Nat} {lf : UInt32 → Int32} {L n m : Nat} {σ : fl_S} (h : We P lf L n m σ) (hp : iP 43 P = true) {r : Nat} (hr : r < n + m) : sF σ (a_rg L r) 43 = .null := by
  obtain ⟨σ0, h, hs⟩ := h
  exact (hs.2 _ _ hp).trans ((c_rd' h hr).2 43 (.null) (List.mem_of_getElem? (i := 9) rfl))
theorem q_rd_44 {P : List Nat} {lf : UInt32 → Int32} {L n m : Nat} {σ : fl_S} (h : We P lf L n m σ) (hp : iP 44 P = true) {r : Nat} (hr : r < n + m) : sF σ (a_rg L r) 44 = .null := by
  obtain ⟨σ0, h, hs⟩ := h
  exact (hs.2 _ _ hp).trans ((c_rd' h hr).2 44 (.null) (List.mem_of_getElem? (i := 10) rfl))
theorem q_rd_46 {P : List Nat} {lf : UInt32 → Int32} {L n m : Nat} {σ : fl_S} (h : We P lf L n m σ) (hp : iP 46 P = true) {r : Nat} (hr : r < n + m) : sF σ (a_rg L r) 46 = .null := by
  obtain ⟨σ0, h, hs⟩ := h
  exact (hs.2 _ _ hp).trans ((c_rd' h hr).2 46 (.null) (List.mem_of_getElem? (i := 11) rfl))
theorem q_rd_47 {P : List Nat} {lf : UInt32 → Int32} {L n m : Nat} {σ : fl_S} (h : We P lf L n m σ) (hp : iP 47 P = true) {r : Nat} (hr : r < n + m) : sF σ (a_rg L r) 47 = .null := by
  obtain ⟨σ0, h, hs⟩ := h
  exact (hs.2 _ _ hp).trans ((c_rd' h hr).2 47 (.null) (List.mem_of_getElem? (i := 12) rfl))
theorem q_rd_48 {P : List Nat} {lf : UInt32 → Int32} {L n m : Nat} {σ : fl_S} (h : We P lf L n m σ) (hp : iP 48 P = true) {r : Nat} (hr : r < n + m) : sF σ (a_rg L r) 48 = .int 0 := by
  obtain ⟨σ0, h, hs⟩ := h
  exact (hs.2 _ _ hp).trans ((c_rd' h hr).2 48 (i32 (0)) (List.mem_of_getElem? (i := 13) rfl))
theorem q_rd_49 {P : List Nat} {lf : UInt32 → Int32} {L n m : Nat} {σ : fl_S} (h : We P lf L n m σ) (hp : iP 49 P = true) {r : Nat} (hr : r < n + m) : sF σ (a_rg L r) 49 = .int 0 := by
  obtain ⟨σ0, h, hs⟩ := h
  exact (hs.2 _ _ hp).trans ((c_rd' h hr).2 49 (i32 (0)) (List.mem_of_getElem? (i := 14) rfl))
theorem q_rd_50 {P : List Nat} {lf : UInt32 → Int32} {L n m : Nat} {σ : fl_S} (h : We P lf L n m σ) (hp : iP 50 P = true) {r : Nat} (hr : r < n + m) : sF σ (a_rg L r) 50 = .null := by
  obtain ⟨σ0, h, hs⟩ := h
  exact (hs.2 _ _ hp).trans ((c_rd' h hr).2 50 (.null) (List.mem_of_getElem? (i := 15) rfl))
theorem c_rr' {lf : UInt32 → Int32} {L n m : Nat} {σ : fl_S} (h : Wd lf L n m σ) {r : Nat} (hr : r < n + m) : Wc lf σ (a_rg L r + 1) 4 (w_rr L n m r) := (h.2.2.2.2.2.2.2.2.2.2.2.2.2.2.2.2.2.2.2.2.2.2.2.2.2.2.2.2.2.2 r hr).2.1
theorem c_rr {P : List Nat} {lf : UInt32 → Int32} {L n m : Nat} {σ : fl_S} (h : We P lf L n m σ) {r : Nat} (hr : r < n + m) : sC σ 4 (a_rg L r + 1) = true := by
  obtain ⟨σ0, h, hs⟩ := h
  exact hs.1 _ _ (c_rr' h hr).1
theorem q_rr_128 {P : List Nat} {lf : UInt32 → Int32} {L n m : Nat} {σ : fl_S} (h : We P lf L n m σ) (hp : iP 128 P = true) {r : Nat} (hr : r < n + m) : sF σ (a_rg L r + 1) 128 = .int 5 := by
  obtain ⟨σ0, h, hs⟩ := h
  exact (hs.2 _ _ hp).trans ((c_rr' h hr).2 128 (i32 (5)) (List.mem_of_getElem? (i := 0) rfl))
theorem q_rr_129 {P : List Nat} {lf : UInt32 → Int32} {L n m : Nat} {σ : fl_S} (h : We P lf L n m σ) (hp : iP 129 P = true) {r : Nat} (hr : r < n + m) : sF σ (a_rg L r + 1) 129 = .int (Int32.ofNat (2 * L + 4 + 3 * r)) := by
  obtain ⟨σ0, h, hs⟩ := h
  exact (hs.2 _ _ hp).trans ((c_rr' h hr).2 129 (i32 (2 * L + 4 + 3 * r)) (List.mem_of_getElem? (i := 1) rfl))
theorem q_rr_131 {P : List Nat} {lf : UInt32 → Int32} {L n m : Nat} {σ : fl_S} (h : We P lf L n m σ) (hp : iP 131 P = true) {r : Nat} (hr : r < n + m) : sF σ (a_rg L r + 1) 131 = .ref (27) := by
  obtain ⟨σ0, h, hs⟩ := h
  exact (hs.2 _ _ hp).trans ((c_rr' h hr).2 131 (.ref (27)) (List.mem_of_getElem? (i := 2) rfl))
theorem q_rr_132 {P : List Nat} {lf : UInt32 → Int32} {L n m : Nat} {σ : fl_S} (h : We P lf L n m σ) (hp : iP 132 P = true) {r : Nat} (hr : r < n + m) : sF σ (a_rg L r + 1) 132 = .int 0 := by
  obtain ⟨σ0, h, hs⟩ := h
  exact (hs.2 _ _ hp).trans ((c_rr' h hr).2 132 (i32 (0)) (List.mem_of_getElem? (i := 3) rfl))
theorem q_rr_133 {P : List Nat} {lf : UInt32 → Int32} {L n m : Nat} {σ : fl_S} (h : We P lf L n m σ) (hp : iP 133 P = true) {r : Nat} (hr : r < n + m) : sF σ (a_rg L r + 1) 133 = .int 0 := by
  obtain ⟨σ0, h, hs⟩ := h
  exact (hs.2 _ _ hp).trans ((c_rr' h hr).2 133 (i32 0) (List.mem_of_getElem? (i := 4) rfl))
theorem q_rr_134 {P : List Nat} {lf : UInt32 → Int32} {L n m : Nat} {σ : fl_S} (h : We P lf L n m σ) (hp : iP 134 P = true) {r : Nat} (hr : r < n + m) : sF σ (a_rg L r + 1) 134 = .ref (a_rg L r + 2) := by
  obtain ⟨σ0, h, hs⟩ := h
  exact (hs.2 _ _ hp).trans ((c_rr' h hr).2 134 (.ref (a_rg L r + 2)) (List.mem_of_getElem? (i := 5) rfl))
theorem q_rr_135 {P : List Nat} {lf : UInt32 → Int32} {L n m : Nat} {σ : fl_S} (h : We P lf L n m σ) (hp : iP 135 P = true) {r : Nat} (hr : r < n + m) : sF σ (a_rg L r + 1) 135 = .null := by
  obtain ⟨σ0, h, hs⟩ := h
  exact (hs.2 _ _ hp).trans ((c_rr' h hr).2 135 (.null) (List.mem_of_getElem? (i := 6) rfl))
theorem q_rr_136 {P : List Nat} {lf : UInt32 → Int32} {L n m : Nat} {σ : fl_S} (h : We P lf L n m σ) (hp : iP 136 P = true) {r : Nat} (hr : r < n + m) : sF σ (a_rg L r + 1) 136 = .null := by
  obtain ⟨σ0, h, hs⟩ := h
  exact (hs.2 _ _ hp).trans ((c_rr' h hr).2 136 (.null) (List.mem_of_getElem? (i := 7) rfl))
theorem q_rr_137 {P : List Nat} {lf : UInt32 → Int32} {L n m : Nat} {σ : fl_S} (h : We P lf L n m σ) (hp : iP 137 P = true) {r : Nat} (hr : r < n + m) : sF σ (a_rg L r + 1) 137 = .null := by
  obtain ⟨σ0, h, hs⟩ := h
  exact (hs.2 _ _ hp).trans ((c_rr' h hr).2 137 (.null) (List.mem_of_getElem? (i := 8) rfl))
theorem q_rr_138 {P : List Nat} {lf : UInt32 → Int32} {L n m : Nat} {σ : fl_S} (h : We P lf L n m σ) (hp : iP 138 P = true) {r : Nat} (hr : r < n + m) : sF σ (a_rg L r + 1) 138 = .null := by
  obtain ⟨σ0, h, hs⟩ := h
  exact (hs.2 _ _ hp).trans ((c_rr' h hr).2 138 (.null) (List.mem_of_getElem? (i := 9) rfl))
theorem q_rr_139 {P : List Nat} {lf : UInt32 → Int32} {L n m : Nat} {σ : fl_S} (h : We P lf L n m σ) (hp : iP 139 P = true) {r : Nat} (hr : r < n + m) : sF σ (a_rg L r + 1) 139 = .null := by
  obtain ⟨σ0, h, hs⟩ := h
  exact (hs.2 _ _ hp).trans ((c_rr' h hr).2 139 (.null) (List.mem_of_getElem? (i := 10) rfl))
theorem q_rr_140 {P : List Nat} {lf : UInt32 → Int32} {L n m : Nat} {σ : fl_S} (h : We P lf L n m σ) (hp : iP 140 P = true) {r : Nat} (hr : r < n + m) : sF σ (a_rg L r + 1) 140 = .null := by
  obtain ⟨σ0, h, hs⟩ := h
  exact (hs.2 _ _ hp).trans ((c_rr' h hr).2 140 (.null) (List.mem_of_getElem? (i := 11) rfl))
theorem q_rr_141 {P : List Nat} {lf : UInt32 → Int32} {L n m : Nat} {σ : fl_S} (h : We P lf L n m σ) (hp : iP 141 P = true) {r : Nat} (hr : r < n + m) : sF σ (a_rg L r + 1) 141 = .null := by
  obtain ⟨σ0, h, hs⟩ := h
  exact (hs.2 _ _ hp).trans ((c_rr' h hr).2 141 (.null) (List.mem_of_getElem? (i := 12) rfl))
theorem q_rr_142 {P : List Nat} {lf : UInt32 → Int32} {L n m : Nat} {σ : fl_S} (h : We P lf L n m σ) (hp : iP 142 P = true) {r : Nat} (hr : r < n + m) : sF σ (a_rg L r + 1) 142 = .int 0 := by
  obtain ⟨σ0, h, hs⟩ := h
  exact (hs.2 _ _ hp).trans ((c_rr' h hr).2 142 (i32 (0)) (List.mem_of_getElem? (i := 13) rfl))
theorem q_rr_143 {P : List Nat} {lf : UInt32 → Int32} {L n m : Nat} {σ : fl_S} (h : We P lf L n m σ) (hp : iP 143 P = true) {r : Nat} (hr : r < n + m) : sF σ (a_rg L r + 1) 143 = .int (-1) := by
  obtain ⟨σ0, h, hs⟩ := h
  exact (hs.2 _ _ hp).trans ((c_rr' h hr).2 143 (.int (-1)) (List.mem_of_getElem? (i := 14) rfl))
theorem q_rr_144 {P : List Nat} {lf : UInt32 → Int32} {L n m : Nat} {σ : fl_S} (h : We P lf L n m σ) (hp : iP 144 P = true) {r : Nat} (hr : r < n + m) : sF σ (a_rg L r + 1) 144 = .null := by
  obtain ⟨σ0, h, hs⟩ := h
  exact (hs.2 _ _ hp).trans ((c_rr' h hr).2 144 (.null) (List.mem_of_getElem? (i := 15) rfl))
theorem q_rr_145 {P : List Nat} {lf : UInt32 → Int32} {L n m : Nat} {σ : fl_S} (h : We P lf L n m σ) (hp : iP 145 P = true) {r : Nat} (hr : r < n + m) : sF σ (a_rg L r + 1) 145 = .int 0 := by
  obtain ⟨σ0, h, hs⟩ := h
  exact (hs.2 _ _ hp).trans ((c_rr' h hr).2 145 (i32 (0)) (List.mem_of_getElem? (i := 16) rfl))
theorem q_rr_146 {P : List Nat} {lf : UInt32 → Int32} {L n m : Nat} {σ : fl_S} (h : We P lf L n m σ) (hp : iP 146 P = true) {r : Nat} (hr : r < n + m) : sF σ (a_rg L r + 1) 146 = .ref (a_rg L r + 2) := by
  obtain ⟨σ0, h, hs⟩ := h
  exact (hs.2 _ _ hp).trans ((c_rr' h hr).2 146 (.ref (a_rg L r + 2)) (List.mem_of_getElem? (i := 17) rfl))
theorem q_rr_147 {P : List Nat} {lf : UInt32 → Int32} {L n m : Nat} {σ : fl_S} (h : We P lf L n m σ) (hp : iP 147 P = true) {r : Nat} (hr : r < n + m) : sF σ (a_rg L r + 1) 147 = .null := by
  obtain ⟨σ0, h, hs⟩ := h
  exact (hs.2 _ _ hp).trans ((c_rr' h hr).2 147 (.null) (List.mem_of_getElem? (i := 18) rfl))
theorem c_ra' {lf : UInt32 → Int32} {L n m : Nat} {σ : fl_S} (h : Wd lf L n m σ) {r : Nat} (hr : r < n + m) : Wc lf σ (a_rg L r + 2) 4 (w_ra L n m r) := (h.2.2.2.2.2.2.2.2.2.2.2.2.2.2.2.2.2.2.2.2.2.2.2.2.2.2.2.2.2.2 r hr).2.2.1
theorem c_ra {P : List Nat} {lf : UInt32 → Int32} {L n m : Nat} {σ : fl_S} (h : We P lf L n m σ) {r : Nat} (hr : r < n + m) : sC σ 4 (a_rg L r + 2) = true := by
  obtain ⟨σ0, h, hs⟩ := h
  exact hs.1 _ _ (c_ra' h hr).1
theorem q_ra_128 {P : List Nat} {lf : UInt32 → Int32} {L n m : Nat} {σ : fl_S} (h : We P lf L n m σ) (hp : iP 128 P = true) {r : Nat} (hr : r < n + m) : sF σ (a_rg L r + 2) 128 = .int 3 := by
  obtain ⟨σ0, h, hs⟩ := h
  exact (hs.2 _ _ hp).trans ((c_ra' h hr).2 128 (i32 (3)) (List.mem_of_getElem? (i := 0) rfl))
theorem q_ra_129 {P : List Nat} {lf : UInt32 → Int32} {L n m : Nat} {σ : fl_S} (h : We P lf L n m σ) (hp : iP 129 P = true) {r : Nat} (hr : r < n + m) : sF σ (a_rg L r + 2) 129 = .int (Int32.ofNat (2 * L + 5 + 3 * r)) := by
  obtain ⟨σ0, h, hs⟩ := h
  exact (hs.2 _ _ hp).trans ((c_ra' h hr).2 129 (i32 (2 * L + 5 + 3 * r)) (List.mem_of_getElem? (i := 1) rfl))
theorem q_ra_131 {P : List Nat} {lf : UInt32 → Int32} {L n m : Nat} {σ : fl_S} (h : We P lf L n m σ) (hp : iP 131 P = true) {r : Nat} (hr : r < n + m) : sF σ (a_rg L r + 2) 131 = .ref (27) := by
  obtain ⟨σ0, h, hs⟩ := h
  exact (hs.2 _ _ hp).trans ((c_ra' h hr).2 131 (.ref (27)) (List.mem_of_getElem? (i := 2) rfl))
theorem q_ra_132 {P : List Nat} {lf : UInt32 → Int32} {L n m : Nat} {σ : fl_S} (h : We P lf L n m σ) (hp : iP 132 P = true) {r : Nat} (hr : r < n + m) : sF σ (a_rg L r + 2) 132 = .int 0 := by
  obtain ⟨σ0, h, hs⟩ := h
  exact (hs.2 _ _ hp).trans ((c_ra' h hr).2 132 (i32 (0)) (List.mem_of_getElem? (i := 3) rfl))
theorem q_ra_133 {P : List Nat} {lf : UInt32 → Int32} {L n m : Nat} {σ : fl_S} (h : We P lf L n m σ) (hp : iP 133 P = true) {r : Nat} (hr : r < n + m) : sF σ (a_rg L r + 2) 133 = gl_v lf (iv (r_b n r)) := by
  obtain ⟨σ0, h, hs⟩ := h
  exact (hs.2 _ _ hp).trans ((c_ra' h hr).2 133 (iv (r_b n r)) (List.mem_of_getElem? (i := 4) rfl))
theorem q_ra_134 {P : List Nat} {lf : UInt32 → Int32} {L n m : Nat} {σ : fl_S} (h : We P lf L n m σ) (hp : iP 134 P = true) {r : Nat} (hr : r < n + m) : sF σ (a_rg L r + 2) 134 = .ref (a_rg L r + 3) := by
  obtain ⟨σ0, h, hs⟩ := h
  exact (hs.2 _ _ hp).trans ((c_ra' h hr).2 134 (.ref (a_rg L r + 3)) (List.mem_of_getElem? (i := 5) rfl))
theorem q_ra_135 {P : List Nat} {lf : UInt32 → Int32} {L n m : Nat} {σ : fl_S} (h : We P lf L n m σ) (hp : iP 135 P = true) {r : Nat} (hr : r < n + m) : sF σ (a_rg L r + 2) 135 = .null := by
  obtain ⟨σ0, h, hs⟩ := h
  exact (hs.2 _ _ hp).trans ((c_ra' h hr).2 135 (.null) (List.mem_of_getElem? (i := 6) rfl))
theorem q_ra_136 {P : List Nat} {lf : UInt32 → Int32} {L n m : Nat} {σ : fl_S} (h : We P lf L n m σ) (hp : iP 136 P = true) {r : Nat} (hr : r < n + m) : sF σ (a_rg L r + 2) 136 = .null := by
  obtain ⟨σ0, h, hs⟩ := h
  exact (hs.2 _ _ hp).trans ((c_ra' h hr).2 136 (.null) (List.mem_of_getElem? (i := 7) rfl))
theorem q_ra_137 {P : List Nat} {lf : UInt32 → Int32} {L n m : Nat} {σ : fl_S} (h : We P lf L n m σ) (hp : iP 137 P = true) {r : Nat} (hr : r < n + m) : sF σ (a_rg L r + 2) 137 = .null := by
  obtain ⟨σ0, h, hs⟩ := h
  exact (hs.2 _ _ hp).trans ((c_ra' h hr).2 137 (.null) (List.mem_of_getElem? (i := 8) rfl))
theorem q_ra_138 {P : List Nat} {lf : UInt32 → Int32} {L n m : Nat} {σ : fl_S} (h : We P lf L n m σ) (hp : iP 138 P = true) {r : Nat} (hr : r < n + m) : sF σ (a_rg L r + 2) 138 = .null := by
  obtain ⟨σ0, h, hs⟩ := h
  exact (hs.2 _ _ hp).trans ((c_ra' h hr).2 138 (.null) (List.mem_of_getElem? (i := 9) rfl))
theorem q_ra_139 {P : List Nat} {lf : UInt32 → Int32} {L n m : Nat} {σ : fl_S} (h : We P lf L n m σ) (hp : iP 139 P = true) {r : Nat} (hr : r < n + m) : sF σ (a_rg L r + 2) 139 = .null := by
  obtain ⟨σ0, h, hs⟩ := h
  exact (hs.2 _ _ hp).trans ((c_ra' h hr).2 139 (.null) (List.mem_of_getElem? (i := 10) rfl))
theorem q_ra_140 {P : List Nat} {lf : UInt32 → Int32} {L n m : Nat} {σ : fl_S} (h : We P lf L n m σ) (hp : iP 140 P = true) {r : Nat} (hr : r < n + m) : sF σ (a_rg L r + 2) 140 = .null := by
  obtain ⟨σ0, h, hs⟩ := h
  exact (hs.2 _ _ hp).trans ((c_ra' h hr).2 140 (.null) (List.mem_of_getElem? (i := 11) rfl))
theorem q_ra_141 {P : List Nat} {lf : UInt32 → Int32} {L n m : Nat} {σ : fl_S} (h : We P lf L n m σ) (hp : iP 141 P = true) {r : Nat} (hr : r < n + m) : sF σ (a_rg L r + 2) 141 = .null := by
  obtain ⟨σ0, h, hs⟩ := h
  exact (hs.2 _ _ hp).trans ((c_ra' h hr).2 141 (.null) (List.mem_of_getElem? (i := 12) rfl))
theorem q_ra_142 {P : List Nat} {lf : UInt32 → Int32} {L n m : Nat} {σ : fl_S} (h : We P lf L n m σ) (hp : iP 142 P = true) {r : Nat} (hr : r < n + m) : sF σ (a_rg L r + 2) 142 = .int 0 := by
  obtain ⟨σ0, h, hs⟩ := h
  exact (hs.2 _ _ hp).trans ((c_ra' h hr).2 142 (i32 (0)) (List.mem_of_getElem? (i := 13) rfl))
theorem q_ra_143 {P : List Nat} {lf : UInt32 → Int32} {L n m : Nat} {σ : fl_S} (h : We P lf L n m σ) (hp : iP 143 P = true) {r : Nat} (hr : r < n + m) : sF σ (a_rg L r + 2) 143 = .int (-1) := by
  obtain ⟨σ0, h, hs⟩ := h
  exact (hs.2 _ _ hp).trans ((c_ra' h hr).2 143 (.int (-1)) (List.mem_of_getElem? (i := 14) rfl))
theorem q_ra_144 {P : List Nat} {lf : UInt32 → Int32} {L n m : Nat} {σ : fl_S} (h : We P lf L n m σ) (hp : iP 144 P = true) {r : Nat} (hr : r < n + m) : sF σ (a_rg L r + 2) 144 = .null := by
  obtain ⟨σ0, h, hs⟩ := h
  exact (hs.2 _ _ hp).trans ((c_ra' h hr).2 144 (.null) (List.mem_of_getElem? (i := 15) rfl))
theorem q_ra_145 {P : List Nat} {lf : UInt32 → Int32} {L n m : Nat} {σ : fl_S} (h : We P lf L n m σ) (hp : iP 145 P = true) {r : Nat} (hr : r < n + m) : sF σ (a_rg L r + 2) 145 = .int 0 := by
  obtain ⟨σ0, h, hs⟩ := h
  exact (hs.2 _ _ hp).trans ((c_ra' h hr).2 145 (i32 (0)) (List.mem_of_getElem? (i := 16) rfl))
theorem q_ra_146 {P : List Nat} {lf : UInt32 → Int32} {L n m : Nat} {σ : fl_S} (h : We P lf L n m σ) (hp : iP 146 P = true) {r : Nat} (hr : r < n + m) : sF σ (a_rg L r + 2) 146 = .ref (a_rg L r + 3) := by
  obtain ⟨σ0, h, hs⟩ := h
  exact (hs.2 _ _ hp).trans ((c_ra' h hr).2 146 (.ref (a_rg L r + 3)) (List.mem_of_getElem? (i := 17) rfl))
theorem q_ra_147 {P : List Nat} {lf : UInt32 → Int32} {L n m : Nat} {σ : fl_S} (h : We P lf L n m σ) (hp : iP 147 P = true) {r : Nat} (hr : r < n + m) : sF σ (a_rg L r + 2) 147 = .null := by
  obtain ⟨σ0, h, hs⟩ := h
  exact (hs.2 _ _ hp).trans ((c_ra' h hr).2 147 (.null) (List.mem_of_getElem? (i := 18) rfl))
theorem c_rn' {lf : UInt32 → Int32} {L n m : Nat} {σ : fl_S} (h : Wd lf L n m σ) {r : Nat} (hr : r < n + m) : Wc lf σ (a_rg L r + 3) 4 (w_rn L n m r) := (h.2.2.2.2.2.2.2.2.2.2.2.2.2.2.2.2.2.2.2.2.2.2.2.2.2.2.2.2.2.2 r hr).2.2.2.1
theorem c_rn {P : List Nat} {lf : UInt32 → Int32} {L n m : Nat} {σ : fl_S} (h : We P lf L n m σ) {r : Nat} (hr : r < n + m) : sC σ 4 (a_rg L r + 3) = true := by
  obtain ⟨σ0, h, hs⟩ := h
  exact hs.1 _ _ (c_rn' h hr).1
theorem q_rn_128 {P : List Nat} {lf : UInt32 → Int32} {L n m : Nat} {σ : fl_S} (h : We P lf L n m σ) (hp : iP 128 P = true) {r : Nat} (hr : r < n + m) : sF σ (a_rg L r + 3) 128 = .int 13 := by
  obtain ⟨σ0, h, hs⟩ := h
  exact (hs.2 _ _ hp).trans ((c_rn' h hr).2 128 (i32 (13)) (List.mem_of_getElem? (i := 0) rfl))
theorem q_rn_129 {P : List Nat} {lf : UInt32 → Int32} {L n m : Nat} {σ : fl_S} (h : We P lf L n m σ) (hp : iP 129 P = true) {r : Nat} (hr : r < n + m) : sF σ (a_rg L r + 3) 129 = .int (Int32.ofNat (2 * L + 6 + 3 * r)) := by
  obtain ⟨σ0, h, hs⟩ := h
  exact (hs.2 _ _ hp).trans ((c_rn' h hr).2 129 (i32 (2 * L + 6 + 3 * r)) (List.mem_of_getElem? (i := 1) rfl))
theorem q_rn_131 {P : List Nat} {lf : UInt32 → Int32} {L n m : Nat} {σ : fl_S} (h : We P lf L n m σ) (hp : iP 131 P = true) {r : Nat} (hr : r < n + m) : sF σ (a_rg L r + 3) 131 = .ref (27) := by
  obtain ⟨σ0, h, hs⟩ := h
  exact (hs.2 _ _ hp).trans ((c_rn' h hr).2 131 (.ref (27)) (List.mem_of_getElem? (i := 2) rfl))
theorem q_rn_132 {P : List Nat} {lf : UInt32 → Int32} {L n m : Nat} {σ : fl_S} (h : We P lf L n m σ) (hp : iP 132 P = true) {r : Nat} (hr : r < n + m) : sF σ (a_rg L r + 3) 132 = .int 0 := by
  obtain ⟨σ0, h, hs⟩ := h
  exact (hs.2 _ _ hp).trans ((c_rn' h hr).2 132 (i32 (0)) (List.mem_of_getElem? (i := 3) rfl))
theorem q_rn_133 {P : List Nat} {lf : UInt32 → Int32} {L n m : Nat} {σ : fl_S} (h : We P lf L n m σ) (hp : iP 133 P = true) {r : Nat} (hr : r < n + m) : sF σ (a_rg L r + 3) 133 = .int 0 := by
  obtain ⟨σ0, h, hs⟩ := h
  exact (hs.2 _ _ hp).trans ((c_rn' h hr).2 133 (i32 0) (List.mem_of_getElem? (i := 4) rfl))
theorem q_rn_134 {P : List Nat} {lf : UInt32 → Int32} {L n m : Nat} {σ : fl_S} (h : We P lf L n m σ) (hp : iP 134 P = true) {r : Nat} (hr : r < n + m) : sF σ (a_rg L r + 3) 134 = .null := by
  obtain ⟨σ0, h, hs⟩ := h
  exact (hs.2 _ _ hp).trans ((c_rn' h hr).2 134 (.null) (List.mem_of_getElem? (i := 5) rfl))
theorem q_rn_135 {P : List Nat} {lf : UInt32 → Int32} {L n m : Nat} {σ : fl_S} (h : We P lf L n m σ) (hp : iP 135 P = true) {r : Nat} (hr : r < n + m) : sF σ (a_rg L r + 3) 135 = .null := by
  obtain ⟨σ0, h, hs⟩ := h
  exact (hs.2 _ _ hp).trans ((c_rn' h hr).2 135 (.null) (List.mem_of_getElem? (i := 6) rfl))
theorem q_rn_136 {P : List Nat} {lf : UInt32 → Int32} {L n m : Nat} {σ : fl_S} (h : We P lf L n m σ) (hp : iP 136 P = true) {r : Nat} (hr : r < n + m) : sF σ (a_rg L r + 3) 136 = .null := by
  obtain ⟨σ0, h, hs⟩ := h
  exact (hs.2 _ _ hp).trans ((c_rn' h hr).2 136 (.null) (List.mem_of_getElem? (i := 7) rfl))
theorem q_rn_137 {P : List Nat} {lf : UInt32 → Int32} {L n m : Nat} {σ : fl_S} (h : We P lf L n m σ) (hp : iP 137 P = true) {r : Nat} (hr : r < n + m) : sF σ (a_rg L r + 3) 137 = .ref (a_rg L r + 4) := by
  obtain ⟨σ0, h, hs⟩ := h
  exact (hs.2 _ _ hp).trans ((c_rn' h hr).2 137 (.ref (a_rg L r + 4)) (List.mem_of_getElem? (i := 8) rfl))
theorem q_rn_138 {P : List Nat} {lf : UInt32 → Int32} {L n m : Nat} {σ : fl_S} (h : We P lf L n m σ) (hp : iP 138 P = true) {r : Nat} (hr : r < n + m) : sF σ (a_rg L r + 3) 138 = .null := by
  obtain ⟨σ0, h, hs⟩ := h
  exact (hs.2 _ _ hp).trans ((c_rn' h hr).2 138 (.null) (List.mem_of_getElem? (i := 9) rfl))
theorem q_rn_139 {P : List Nat} {lf : UInt32 → Int32} {L n m : Nat} {σ : fl_S} (h : We P lf L n m σ) (hp : iP 139 P = true) {r : Nat} (hr : r < n + m) : sF σ (a_rg L r + 3) 139 = .null := by
  obtain ⟨σ0, h, hs⟩ := h
  exact (hs.2 _ _ hp).trans ((c_rn' h hr).2 139 (.null) (List.mem_of_getElem? (i := 10) rfl))
theorem q_rn_140 {P : List Nat} {lf : UInt32 → Int32} {L n m : Nat} {σ : fl_S} (h : We P lf L n m σ) (hp : iP 140 P = true) {r : Nat} (hr : r < n + m) : sF σ (a_rg L r + 3) 140 = .null := by
  obtain ⟨σ0, h, hs⟩ := h
  exact (hs.2 _ _ hp).trans ((c_rn' h hr).2 140 (.null) (List.mem_of_getElem? (i := 11) rfl))
theorem q_rn_141 {P : List Nat} {lf : UInt32 → Int32} {L n m : Nat} {σ : fl_S} (h : We P lf L n m σ) (hp : iP 141 P = true) {r : Nat} (hr : r < n + m) : sF σ (a_rg L r + 3) 141 = .null := by
  obtain ⟨σ0, h, hs⟩ := h
  exact (hs.2 _ _ hp).trans ((c_rn' h hr).2 141 (.null) (List.mem_of_getElem? (i := 12) rfl))
theorem q_rn_142 {P : List Nat} {lf : UInt32 → Int32} {L n m : Nat} {σ : fl_S} (h : We P lf L n m σ) (hp : iP 142 P = true) {r : Nat} (hr : r < n + m) : sF σ (a_rg L r + 3) 142 = .int 0 := by
  obtain ⟨σ0, h, hs⟩ := h
  exact (hs.2 _ _ hp).trans ((c_rn' h hr).2 142 (i32 (0)) (List.mem_of_getElem? (i := 13) rfl))
theorem q_rn_143 {P : List Nat} {lf : UInt32 → Int32} {L n m : Nat} {σ : fl_S} (h : We P lf L n m σ) (hp : iP 143 P = true) {r : Nat} (hr : r < n + m) : sF σ (a_rg L r + 3) 143 = .int (-1) := by
  obtain ⟨σ0, h, hs⟩ := h
  exact (hs.2 _ _ hp).trans ((c_rn' h hr).2 143 (.int (-1)) (List.mem_of_getElem? (i := 14) rfl))
theorem q_rn_144 {P : List Nat} {lf : UInt32 → Int32} {L n m : Nat} {σ : fl_S} (h : We P lf L n m σ) (hp : iP 144 P = true) {r : Nat} (hr : r < n + m) : sF σ (a_rg L r + 3) 144 = .null := by
  obtain ⟨σ0, h, hs⟩ := h
  exact (hs.2 _ _ hp).trans ((c_rn' h hr).2 144 (.null) (List.mem_of_getElem? (i := 15) rfl))
theorem q_rn_145 {P : List Nat} {lf : UInt32 → Int32} {L n m : Nat} {σ : fl_S} (h : We P lf L n m σ) (hp : iP 145 P = true) {r : Nat} (hr : r < n + m) : sF σ (a_rg L r + 3) 145 = .int 0 := by
  obtain ⟨σ0, h, hs⟩ := h
  exact (hs.2 _ _ hp).trans ((c_rn' h hr).2 145 (i32 (0)) (List.mem_of_getElem? (i := 16) rfl))
theorem q_rn_146 {P : List Nat} {lf : UInt32 → Int32} {L n m : Nat} {σ : fl_S} (h : We P lf L n m σ) (hp : iP 146 P = true) {r : Nat} (hr : r < n + m) : sF σ (a_rg L r + 3) 146 = gl_v lf ((bif Nat.beq (r + 1) (n + m) then .ref (a_T L n m + 4) else .ref (a_rg L (r + 1) + 1))) := by
  obtain ⟨σ0, h, hs⟩ := h
  exact (hs.2 _ _ hp).trans ((c_rn' h hr).2 146 ((bif Nat.beq (r + 1) (n + m) then .ref (a_T L n m + 4) else .ref (a_rg L (r + 1) + 1))) (List.mem_of_getElem? (i := 17) rfl))
theorem q_rn_147 {P : List Nat} {lf : UInt32 → Int32} {L n m : Nat} {σ : fl_S} (h : We P lf L n m σ) (hp : iP 147 P = true) {r : Nat} (hr : r < n + m) : sF σ (a_rg L r + 3) 147 = .null := by
  obtain ⟨σ0, h, hs⟩ := h
  exact (hs.2 _ _ hp).trans ((c_rn' h hr).2 147 (.null) (List.mem_of_getElem? (i := 18) rfl))
theorem c_ro' {lf : UInt32 → Int32} {L n m : Nat} {σ : fl_S} (h : Wd lf L n m σ) {r : Nat} (hr : r < n + m) : Wc lf σ (a_rg L r + 4) 5 (w_ro L n m r) := (h.2.2.2.2.2.2.2.2.2.2.2.2.2.2.2.2.2.2.2.2.2.2.2.2.2.2.2.2.2.2 r hr).2.2.2.2
theorem c_ro {P : List Nat} {lf : UInt32 → Int32} {L n m : Nat} {σ : fl_S} (h : We P lf L n m σ) {r : Nat} (hr : r < n + m) : sC σ 5 (a_rg L r + 4) = true := by
  obtain ⟨σ0, h, hs⟩ := h
  exact hs.1 _ _ (c_ro' h hr).1
theorem q_ro_160 {P : List Nat} {lf : UInt32 → Int32} {L n m : Nat} {σ : fl_S} (h : We P lf L n m σ) (hp : iP 160 P = true) {r : Nat} (hr : r < n + m) : sF σ (a_rg L r + 4) 160 = .int 315 := by
  obtain ⟨σ0, h, hs⟩ := h
  exact (hs.2 _ _ hp).trans ((c_ro' h hr).2 160 (i32 (315)) (List.mem_of_getElem? (i := 0) rfl))
theorem q_ro_161 {P : List Nat} {lf : UInt32 → Int32} {L n m : Nat} {σ : fl_S} (h : We P lf L n m σ) (hp : iP 161 P = true) {r : Nat} (hr : r < n + m) : sF σ (a_rg L r + 4) 161 = .int (Int32.ofNat (2 * L + 2 + r_s n m r)) := by
  obtain ⟨σ0, h, hs⟩ := h
  exact (hs.2 _ _ hp).trans ((c_ro' h hr).2 161 (i32 (2 * L + 2 + r_s n m r)) (List.mem_of_getElem? (i := 1) rfl))
theorem q_ro_162 {P : List Nat} {lf : UInt32 → Int32} {L n m : Nat} {σ : fl_S} (h : We P lf L n m σ) (hp : iP 162 P = true) {r : Nat} (hr : r < n + m) : sF σ (a_rg L r + 4) 162 = .int (-1) := by
  obtain ⟨σ0, h, hs⟩ := h
  exact (hs.2 _ _ hp).trans ((c_ro' h hr).2 162 (.int (-1)) (List.mem_of_getElem? (i := 2) rfl))
theorem q_ro_164 {P : List Nat} {lf : UInt32 → Int32} {L n m : Nat} {σ : fl_S} (h : We P lf L n m σ) (hp : iP 164 P = true) {r : Nat} (hr : r < n + m) : sF σ (a_rg L r + 4) 164 = .null := by
  obtain ⟨σ0, h, hs⟩ := h
  exact (hs.2 _ _ hp).trans ((c_ro' h hr).2 164 (.null) (List.mem_of_getElem? (i := 3) rfl))
theorem q_ro_165 {P : List Nat} {lf : UInt32 → Int32} {L n m : Nat} {σ : fl_S} (h : We P lf L n m σ) (hp : iP 165 P = true) {r : Nat} (hr : r < n + m) : sF σ (a_rg L r + 4) 165 = .null := by
  obtain ⟨σ0, h, hs⟩ := h
  exact (hs.2 _ _ hp).trans ((c_ro' h hr).2 165 (.null) (List.mem_of_getElem? (i := 4) rfl))
theorem q_ro_166 {P : List Nat} {lf : UInt32 → Int32} {L n m : Nat} {σ : fl_S} (h : We P lf L n m σ) (hp : iP 166 P = true) {r : Nat} (hr : r < n + m) : sF σ (a_rg L r + 4) 166 = .null := by
  obtain ⟨σ0, h, hs⟩ := h
  exact (hs.2 _ _ hp).trans ((c_ro' h hr).2 166 (.null) (List.mem_of_getElem? (i := 5) rfl))
theorem q_ro_167 {P : List Nat} {lf : UInt32 → Int32} {L n m : Nat} {σ : fl_S} (h : We P lf L n m σ) (hp : iP 167 P = true) {r : Nat} (hr : r < n + m) : sF σ (a_rg L r + 4) 167 = .null := by
  obtain ⟨σ0, h, hs⟩ := h
  exact (hs.2 _ _ hp).trans ((c_ro' h hr).2 167 (.null) (List.mem_of_getElem? (i := 6) rfl))
theorem c_u1' {lf : UInt32 → Int32} {L n m : Nat} {σ : fl_S} (h : Wd lf L n m σ) : Wc lf σ (a_T L n m) 1 (w_u1 L n m) := h.2.2.2.2.2.2.2.2.2.2.2.1
theorem c_u1 {P : List Nat} {lf : UInt32 → Int32} {L n m : Nat} {σ : fl_S} (h : We P lf L n m σ) : sC σ 1 (a_T L n m) = true := by
  obtain ⟨σ0, h, hs⟩ := h
  exact hs.1 _ _ (c_u1' h).1
theorem q_u1_32 {P : List Nat} {lf : UInt32 → Int32} {L n m : Nat} {σ : fl_S} (h : We P lf L n m σ) (hp : iP 32 P = true) : sF σ (a_T L n m) 32 = .int 0 := by
  obtain ⟨σ0, h, hs⟩ := h
  exact (hs.2 _ _ hp).trans ((c_u1' h).2 32 (i32 (0)) (List.mem_of_getElem? (i := 0) rfl))
theorem q_u1_33 {P : List Nat} {lf : UInt32 → Int32} {L n m : Nat} {σ : fl_S} (h : We P lf L n m σ) (hp : iP 33 P = true) : sF σ (a_T L n m) 33 = .int (Int32.ofNat (n_T L n m)) := by
  obtain ⟨σ0, h, hs⟩ := h
  exact (hs.2 _ _ hp).trans ((c_u1' h).2 33 (i32 (n_T L n m)) (List.mem_of_getElem? (i := 1) rfl))
theorem q_u1_36 {P : List Nat} {lf : UInt32 → Int32} {L n m : Nat} {σ : fl_S} (h : We P lf L n m σ) (hp : iP 36 P = true) : sF σ (a_T L n m) 36 = .ref (a_T L n m) := by
  obtain ⟨σ0, h, hs⟩ := h
  exact (hs.2 _ _ hp).trans ((c_u1' h).2 36 (.ref (a_T L n m)) (List.mem_of_getElem? (i := 2) rfl))
theorem q_u1_37 {P : List Nat} {lf : UInt32 → Int32} {L n m : Nat} {σ : fl_S} (h : We P lf L n m σ) (hp : iP 37 P = true) : sF σ (a_T L n m) 37 = .ref (a_T L n m + 6) := by
  obtain ⟨σ0, h, hs⟩ := h
  exact (hs.2 _ _ hp).trans ((c_u1' h).2 37 (.ref (a_T L n m + 6)) (List.mem_of_getElem? (i := 3) rfl))
theorem q_u1_38 {P : List Nat} {lf : UInt32 → Int32} {L n m : Nat} {σ : fl_S} (h : We P lf L n m σ) (hp : iP 38 P = true) : sF σ (a_T L n m) 38 = .null := by
  obtain ⟨σ0, h, hs⟩ := h
  exact (hs.2 _ _ hp).trans ((c_u1' h).2 38 (.null) (List.mem_of_getElem? (i := 4) rfl))
theorem q_u1_39 {P : List Nat} {lf : UInt32 → Int32} {L n m : Nat} {σ : fl_S} (h : We P lf L n m σ) (hp : iP 39 P = true) : sF σ (a_T L n m) 39 = .null := by
  obtain ⟨σ0, h, hs⟩ := h
  exact (hs.2 _ _ hp).trans ((c_u1' h).2 39 (.null) (List.mem_of_getElem? (i := 5) rfl))
theorem q_u1_40 {P : List Nat} {lf : UInt32 → Int32} {L n m : Nat} {σ : fl_S} (h : We P lf L n m σ) (hp : iP 40 P = true) : sF σ (a_T L n m) 40 = .null := by
  obtain ⟨σ0, h, hs⟩ := h
  exact (hs.2 _ _ hp).trans ((c_u1' h).2 40 (.null) (List.mem_of_getElem? (i := 6) rfl))
theorem q_u1_41 {P : List Nat} {lf : UInt32 → Int32} {L n m : Nat} {σ : fl_S} (h : We P lf L n m σ) (hp : iP 41 P = true) : sF σ (a_T L n m) 41 = .int 1 := by
  obtain ⟨σ0, h, hs⟩ := h
  exact (hs.2 _ _ hp).trans ((c_u1' h).2 41 (i32 (1)) (List.mem_of_getElem? (i := 7) rfl))
theorem q_u1_42 {P : List Nat} {lf : UInt32 → Int32} {L n m : Nat} {σ : fl_S} (h : We P lf L n m σ) (hp : iP 42 P = true) : sF σ (a_T L n m) 42 = .int 0 := by
  obtain ⟨σ0, h, hs⟩ := h
  exact (hs.2 _ _ hp).trans ((c_u1' h).2 42 (i32 (0)) (List.mem_of_getElem? (i := 8) rfl))
theorem q_u1_43 {P : List Nat} {lf : UInt32 → Int32} {L n m : Nat} {σ : fl_S} (h : We P lf L n m σ) (hp : iP 43 P = true) : sF σ (a_T L n m) 43 = .ref (a_T L n m + 1) := by
  obtain ⟨σ0, h, hs⟩ := h
  exact (hs.2 _ _ hp).trans ((c_u1' h).2 43 (.ref (a_T L n m + 1)) (List.mem_of_getElem? (i := 9) rfl))
theorem q_u1_44 {P : List Nat} {lf : UInt32 → Int32} {L n m : Nat} {σ : fl_S} (h : We P lf L n m σ) (hp : iP 44 P = true) : sF σ (a_T L n m) 44 = .null := by
  obtain ⟨σ0, h, hs⟩ := h
  exact (hs.2 _ _ hp).trans ((c_u1' h).2 44 (.null) (List.mem_of_getElem? (i := 10) rfl))
theorem q_u1_46 {P : List Nat} {lf : UInt32 → Int32} {L n m : Nat} {σ : fl_S} (h : We P lf L n m σ) (hp : iP 46 P = true) : sF σ (a_T L n m) 46 = .null := by
  obtain ⟨σ0, h, hs⟩ := h
  exact (hs.2 _ _ hp).trans ((c_u1' h).2 46 (.null) (List.mem_of_getElem? (i := 11) rfl))
theorem q_u1_47 {P : List Nat} {lf : UInt32 → Int32} {L n m : Nat} {σ : fl_S} (h : We P lf L n m σ) (hp : iP 47 P = true) : sF σ (a_T L n m) 47 = .null := by
  obtain ⟨σ0, h, hs⟩ := h
  exact (hs.2 _ _ hp).trans ((c_u1' h).2 47 (.null) (List.mem_of_getElem? (i := 12) rfl))
theorem q_u1_48 {P : List Nat} {lf : UInt32 → Int32} {L n m : Nat} {σ : fl_S} (h : We P lf L n m σ) (hp : iP 48 P = true) : sF σ (a_T L n m) 48 = .int 0 := by
  obtain ⟨σ0, h, hs⟩ := h
  exact (hs.2 _ _ hp).trans ((c_u1' h).2 48 (i32 (0)) (List.mem_of_getElem? (i := 13) rfl))
theorem q_u1_49 {P : List Nat} {lf : UInt32 → Int32} {L n m : Nat} {σ : fl_S} (h : We P lf L n m σ) (hp : iP 49 P = true) : sF σ (a_T L n m) 49 = .int 0 := by
  obtain ⟨σ0, h, hs⟩ := h
  exact (hs.2 _ _ hp).trans ((c_u1' h).2 49 (i32 (0)) (List.mem_of_getElem? (i := 14) rfl))
theorem q_u1_50 {P : List Nat} {lf : UInt32 → Int32} {L n m : Nat} {σ : fl_S} (h : We P lf L n m σ) (hp : iP 50 P = true) : sF σ (a_T L n m) 50 = .null := by
  obtain ⟨σ0, h, hs⟩ := h
  exact (hs.2 _ _ hp).trans ((c_u1' h).2 50 (.null) (List.mem_of_getElem? (i := 15) rfl))
theorem c_im1' {lf : UInt32 → Int32} {L n m : Nat} {σ : fl_S} (h : Wd lf L n m σ) : Wc lf σ (a_T L n m + 1) 1 (w_im1 L n m) := h.2.2.2.2.2.2.2.2.2.2.2.2.1
theorem c_im1 {P : List Nat} {lf : UInt32 → Int32} {L n m : Nat} {σ : fl_S} (h : We P lf L n m σ) : sC σ 1 (a_T L n m + 1) = true := by
  obtain ⟨σ0, h, hs⟩ := h
  exact hs.1 _ _ (c_im1' h).1
theorem q_im1_32 {P : List Nat} {lf : UInt32 → Int32} {L n m : Nat} {σ : fl_S} (h : We P lf L n m σ) (hp : iP 32 P = true) : sF σ (a_T L n m + 1) 32 = .int 2 := by
  obtain ⟨σ0, h, hs⟩ := h
  exact (hs.2 _ _ hp).trans ((c_im1' h).2 32 (i32 (2)) (List.mem_of_getElem? (i := 0) rfl))
theorem q_im1_33 {P : List Nat} {lf : UInt32 → Int32} {L n m : Nat} {σ : fl_S} (h : We P lf L n m σ) (hp : iP 33 P = true) : sF σ (a_T L n m + 1) 33 = .int 0 := by
  obtain ⟨σ0, h, hs⟩ := h
  exact (hs.2 _ _ hp).trans ((c_im1' h).2 33 (i32 (0)) (List.mem_of_getElem? (i := 1) rfl))
theorem q_im1_36 {P : List Nat} {lf : UInt32 → Int32} {L n m : Nat} {σ : fl_S} (h : We P lf L n m σ) (hp : iP 36 P = true) : sF σ (a_T L n m + 1) 36 = .ref (a_T L n m) := by
  obtain ⟨σ0, h, hs⟩ := h
  exact (hs.2 _ _ hp).trans ((c_im1' h).2 36 (.ref (a_T L n m)) (List.mem_of_getElem? (i := 2) rfl))
theorem q_im1_37 {P : List Nat} {lf : UInt32 → Int32} {L n m : Nat} {σ : fl_S} (h : We P lf L n m σ) (hp : iP 37 P = true) : sF σ (a_T L n m + 1) 37 = .ref (a_T L n m + 2) := by
  obtain ⟨σ0, h, hs⟩ := h
  exact (hs.2 _ _ hp).trans ((c_im1' h).2 37 (.ref (a_T L n m + 2)) (List.mem_of_getElem? (i := 3) rfl))
theorem q_im1_38 {P : List Nat} {lf : UInt32 → Int32} {L n m : Nat} {σ : fl_S} (h : We P lf L n m σ) (hp : iP 38 P = true) : sF σ (a_T L n m + 1) 38 = .null := by
  obtain ⟨σ0, h, hs⟩ := h
  exact (hs.2 _ _ hp).trans ((c_im1' h).2 38 (.null) (List.mem_of_getElem? (i := 4) rfl))
theorem q_im1_39 {P : List Nat} {lf : UInt32 → Int32} {L n m : Nat} {σ : fl_S} (h : We P lf L n m σ) (hp : iP 39 P = true) : sF σ (a_T L n m + 1) 39 = .null := by
  obtain ⟨σ0, h, hs⟩ := h
  exact (hs.2 _ _ hp).trans ((c_im1' h).2 39 (.null) (List.mem_of_getElem? (i := 5) rfl))
theorem q_im1_40 {P : List Nat} {lf : UInt32 → Int32} {L n m : Nat} {σ : fl_S} (h : We P lf L n m σ) (hp : iP 40 P = true) : sF σ (a_T L n m + 1) 40 = .null := by
  obtain ⟨σ0, h, hs⟩ := h
  exact (hs.2 _ _ hp).trans ((c_im1' h).2 40 (.null) (List.mem_of_getElem? (i := 6) rfl))
theorem q_im1_41 {P : List Nat} {lf : UInt32 → Int32} {L n m : Nat} {σ : fl_S} (h : We P lf L n m σ) (hp : iP 41 P = true) : sF σ (a_T L n m + 1) 41 = .int 0 := by
  obtain ⟨σ0, h, hs⟩ := h
  exact (hs.2 _ _ hp).trans ((c_im1' h).2 41 (i32 0) (List.mem_of_getElem? (i := 7) rfl))
theorem q_im1_42 {P : List Nat} {lf : UInt32 → Int32} {L n m : Nat} {σ : fl_S} (h : We P lf L n m σ) (hp : iP 42 P = true) : sF σ (a_T L n m + 1) 42 = .int 0 := by
  obtain ⟨σ0, h, hs⟩ := h
  exact (hs.2 _ _ hp).trans ((c_im1' h).2 42 (i32 (0)) (List.mem_of_getElem? (i := 8) rfl))
theorem q_im1_43 {P : List Nat} {lf : UInt32 → Int32} {L n m : Nat} {σ : fl_S} (h : We P lf L n m σ) (hp : iP 43 P = true) : sF σ (a_T L n m + 1) 43 = .null := by
  obtain ⟨σ0, h, hs⟩ := h
  exact (hs.2 _ _ hp).trans ((c_im1' h).2 43 (.null) (List.mem_of_getElem? (i := 9) rfl))
theorem q_im1_44 {P : List Nat} {lf : UInt32 → Int32} {L n m : Nat} {σ : fl_S} (h : We P lf L n m σ) (hp : iP 44 P = true) : sF σ (a_T L n m + 1) 44 = .null := by
  obtain ⟨σ0, h, hs⟩ := h
  exact (hs.2 _ _ hp).trans ((c_im1' h).2 44 (.null) (List.mem_of_getElem? (i := 10) rfl))
theorem q_im1_46 {P : List Nat} {lf : UInt32 → Int32} {L n m : Nat} {σ : fl_S} (h : We P lf L n m σ) (hp : iP 46 P = true) : sF σ (a_T L n m + 1) 46 = .null := by
  obtain ⟨σ0, h, hs⟩ := h
  exact (hs.2 _ _ hp).trans ((c_im1' h).2 46 (.null) (List.mem_of_getElem? (i := 11) rfl))
theorem q_im1_47 {P : List Nat} {lf : UInt32 → Int32} {L n m : Nat} {σ : fl_S} (h : We P lf L n m σ) (hp : iP 47 P = true) : sF σ (a_T L n m + 1) 47 = .null := by
  obtain ⟨σ0, h, hs⟩ := h
  exact (hs.2 _ _ hp).trans ((c_im1' h).2 47 (.null) (List.mem_of_getElem? (i := 12) rfl))
theorem q_im1_48 {P : List Nat} {lf : UInt32 → Int32} {L n m : Nat} {σ : fl_S} (h : We P lf L n m σ) (hp : iP 48 P = true) : sF σ (a_T L n m + 1) 48 = .int 0 := by
  obtain ⟨σ0, h, hs⟩ := h
  exact (hs.2 _ _ hp).trans ((c_im1' h).2 48 (i32 (0)) (List.mem_of_getElem? (i := 13) rfl))
theorem q_im1_49 {P : List Nat} {lf : UInt32 → Int32} {L n m : Nat} {σ : fl_S} (h : We P lf L n m σ) (hp : iP 49 P = true) : sF σ (a_T L n m + 1) 49 = .int 0 := by
  obtain ⟨σ0, h, hs⟩ := h
  exact (hs.2 _ _ hp).trans ((c_im1' h).2 49 (i32 (0)) (List.mem_of_getElem? (i := 14) rfl))
theorem q_im1_50 {P : List Nat} {lf : UInt32 → Int32} {L n m : Nat} {σ : fl_S} (h : We P lf L n m σ) (hp : iP 50 P = true) : sF σ (a_T L n m + 1) 50 = .null := by
  obtain ⟨σ0, h, hs⟩ := h
  exact (hs.2 _ _ hp).trans ((c_im1' h).2 50 (.null) (List.mem_of_getElem? (i := 15) rfl))
theorem c_dh' {lf : UInt32 → Int32} {L n m : Nat} {σ : fl_S} (h : Wd lf L n m σ) : Wc lf σ (a_T L n m + 2) 1 (w_dh L n m) := h.2.2.2.2.2.2.2.2.2.2.2.2.2.1
theorem c_dh {P : List Nat} {lf : UInt32 → Int32} {L n m : Nat} {σ : fl_S} (h : We P lf L n m σ) : sC σ 1 (a_T L n m + 2) = true := by
  obtain ⟨σ0, h, hs⟩ := h
  exact hs.1 _ _ (c_dh' h).1
theorem q_dh_32 {P : List Nat} {lf : UInt32 → Int32} {L n m : Nat} {σ : fl_S} (h : We P lf L n m σ) (hp : iP 32 P = true) : sF σ (a_T L n m + 2) 32 = .int 6 := by
  obtain ⟨σ0, h, hs⟩ := h
  exact (hs.2 _ _ hp).trans ((c_dh' h).2 32 (i32 (6)) (List.mem_of_getElem? (i := 0) rfl))
theorem q_dh_33 {P : List Nat} {lf : UInt32 → Int32} {L n m : Nat} {σ : fl_S} (h : We P lf L n m σ) (hp : iP 33 P = true) : sF σ (a_T L n m + 2) 33 = .int (-1) := by
  obtain ⟨σ0, h, hs⟩ := h
  exact (hs.2 _ _ hp).trans ((c_dh' h).2 33 (.int (-1)) (List.mem_of_getElem? (i := 1) rfl))
theorem q_dh_36 {P : List Nat} {lf : UInt32 → Int32} {L n m : Nat} {σ : fl_S} (h : We P lf L n m σ) (hp : iP 36 P = true) : sF σ (a_T L n m + 2) 36 = .ref (a_T L n m) := by
  obtain ⟨σ0, h, hs⟩ := h
  exact (hs.2 _ _ hp).trans ((c_dh' h).2 36 (.ref (a_T L n m)) (List.mem_of_getElem? (i := 2) rfl))
theorem q_dh_37 {P : List Nat} {lf : UInt32 → Int32} {L n m : Nat} {σ : fl_S} (h : We P lf L n m σ) (hp : iP 37 P = true) : sF σ (a_T L n m + 2) 37 = .null := by
  obtain ⟨σ0, h, hs⟩ := h
  exact (hs.2 _ _ hp).trans ((c_dh' h).2 37 (.null) (List.mem_of_getElem? (i := 3) rfl))
theorem q_dh_38 {P : List Nat} {lf : UInt32 → Int32} {L n m : Nat} {σ : fl_S} (h : We P lf L n m σ) (hp : iP 38 P = true) : sF σ (a_T L n m + 2) 38 = .null := by
  obtain ⟨σ0, h, hs⟩ := h
  exact (hs.2 _ _ hp).trans ((c_dh' h).2 38 (.null) (List.mem_of_getElem? (i := 4) rfl))
theorem q_dh_39 {P : List Nat} {lf : UInt32 → Int32} {L n m : Nat} {σ : fl_S} (h : We P lf L n m σ) (hp : iP 39 P = true) : sF σ (a_T L n m + 2) 39 = .ref (a_T L n m + 4) := by
  obtain ⟨σ0, h, hs⟩ := h
  exact (hs.2 _ _ hp).trans ((c_dh' h).2 39 (.ref (a_T L n m + 4)) (List.mem_of_getElem? (i := 5) rfl))
theorem q_dh_40 {P : List Nat} {lf : UInt32 → Int32} {L n m : Nat} {σ : fl_S} (h : We P lf L n m σ) (hp : iP 40 P = true) : sF σ (a_T L n m + 2) 40 = .ref (a_T L n m + 3) := by
  obtain ⟨σ0, h, hs⟩ := h
  exact (hs.2 _ _ hp).trans ((c_dh' h).2 40 (.ref (a_T L n m + 3)) (List.mem_of_getElem? (i := 6) rfl))
theorem q_dh_41 {P : List Nat} {lf : UInt32 → Int32} {L n m : Nat} {σ : fl_S} (h : We P lf L n m σ) (hp : iP 41 P = true) : sF σ (a_T L n m + 2) 41 = .int 0 := by
  obtain ⟨σ0, h, hs⟩ := h
  exact (hs.2 _ _ hp).trans ((c_dh' h).2 41 (i32 0) (List.mem_of_getElem? (i := 7) rfl))
theorem q_dh_42 {P : List Nat} {lf : UInt32 → Int32} {L n m : Nat} {σ : fl_S} (h : We P lf L n m σ) (hp : iP 42 P = true) : sF σ (a_T L n m + 2) 42 = .int 0 := by
  obtain ⟨σ0, h, hs⟩ := h
  exact (hs.2 _ _ hp).trans ((c_dh' h).2 42 (i32 (0)) (List.mem_of_getElem? (i := 8) rfl))
theorem q_dh_43 {P : List Nat} {lf : UInt32 → Int32} {L n m : Nat} {σ : fl_S} (h : We P lf L n m σ) (hp : iP 43 P = true) : sF σ (a_T L n m + 2) 43 = .null := by
  obtain ⟨σ0, h, hs⟩ := h
  exact (hs.2 _ _ hp).trans ((c_dh' h).2 43 (.null) (List.mem_of_getElem? (i := 9) rfl))
theorem q_dh_44 {P : List Nat} {lf : UInt32 → Int32} {L n m : Nat} {σ : fl_S} (h : We P lf L n m σ) (hp : iP 44 P = true) : sF σ (a_T L n m + 2) 44 = .null := by
  obtain ⟨σ0, h, hs⟩ := h
  exact (hs.2 _ _ hp).trans ((c_dh' h).2 44 (.null) (List.mem_of_getElem? (i := 10) rfl))
theorem q_dh_46 {P : List Nat} {lf : UInt32 → Int32} {L n m : Nat} {σ : fl_S} (h : We P lf L n m σ) (hp : iP 46 P = true) : sF σ (a_T L n m + 2) 46 = .null := by
  obtain ⟨σ0, h, hs⟩ := h
  exact (hs.2 _ _ hp).trans ((c_dh' h).2 46 (.null) (List.mem_of_getElem? (i := 11) rfl))
theorem q_dh_47 {P : List Nat} {lf : UInt32 → Int32} {L n m : Nat} {σ : fl_S} (h : We P lf L n m σ) (hp : iP 47 P = true) : sF σ (a_T L n m + 2) 47 = .null := by
  obtain ⟨σ0, h, hs⟩ := h
  exact (hs.2 _ _ hp).trans ((c_dh' h).2 47 (.null) (List.mem_of_getElem? (i := 12) rfl))
theorem q_dh_48 {P : List Nat} {lf : UInt32 → Int32} {L n m : Nat} {σ : fl_S} (h : We P lf L n m σ) (hp : iP 48 P = true) : sF σ (a_T L n m + 2) 48 = .int 0 := by
  obtain ⟨σ0, h, hs⟩ := h
  exact (hs.2 _ _ hp).trans ((c_dh' h).2 48 (i32 (0)) (List.mem_of_getElem? (i := 13) rfl))
theorem q_dh_49 {P : List Nat} {lf : UInt32 → Int32} {L n m : Nat} {σ : fl_S} (h : We P lf L n m σ) (hp : iP 49 P = true) : sF σ (a_T L n m + 2) 49 = .int 0 := by
  obtain ⟨σ0, h, hs⟩ := h
  exact (hs.2 _ _ hp).trans ((c_dh' h).2 49 (i32 (0)) (List.mem_of_getElem? (i := 14) rfl))
theorem q_dh_50 {P : List Nat} {lf : UInt32 → Int32} {L n m : Nat} {σ : fl_S} (h : We P lf L n m σ) (hp : iP 50 P = true) : sF σ (a_T L n m + 2) 50 = .null := by
  obtain ⟨σ0, h, hs⟩ := h
  exact (hs.2 _ _ hp).trans ((c_dh' h).2 50 (.null) (List.mem_of_getElem? (i := 15) rfl))
theorem c_oh' {lf : UInt32 → Int32} {L n m : Nat} {σ : fl_S} (h : Wd lf L n m σ) : Wc lf σ (a_T L n m + 3) 5 (w_oh L n m) := h.2.2.2.2.2.2.2.2.2.2.2.2.2.2.1
theorem c_oh {P : List Nat} {lf : UInt32 → Int32} {L n m : Nat} {σ : fl_S} (h : We P lf L n m σ) : sC σ 5 (a_T L n m + 3) = true := by
  obtain ⟨σ0, h, hs⟩ := h
  exact hs.1 _ _ (c_oh' h).1
theorem q_oh_160 {P : List Nat} {lf : UInt32 → Int32} {L n m : Nat} {σ : fl_S} (h : We P lf L n m σ) (hp : iP 160 P = true) : sF σ (a_T L n m + 3) 160 = .int 315 := by
  obtain ⟨σ0, h, hs⟩ := h
  exact (hs.2 _ _ hp).trans ((c_oh' h).2 160 (i32 (315)) (List.mem_of_getElem? (i := 0) rfl))
theorem q_oh_161 {P : List Nat} {lf : UInt32 → Int32} {L n m : Nat} {σ : fl_S} (h : We P lf L n m σ) (hp : iP 161 P = true) : sF σ (a_T L n m + 3) 161 = .int (Int32.ofNat (2 * L + 1)) := by
  obtain ⟨σ0, h, hs⟩ := h
  exact (hs.2 _ _ hp).trans ((c_oh' h).2 161 (i32 (2 * L + 1)) (List.mem_of_getElem? (i := 1) rfl))
theorem q_oh_162 {P : List Nat} {lf : UInt32 → Int32} {L n m : Nat} {σ : fl_S} (h : We P lf L n m σ) (hp : iP 162 P = true) : sF σ (a_T L n m + 3) 162 = .int 0 := by
  obtain ⟨σ0, h, hs⟩ := h
  exact (hs.2 _ _ hp).trans ((c_oh' h).2 162 (i32 (0)) (List.mem_of_getElem? (i := 2) rfl))
theorem q_oh_164 {P : List Nat} {lf : UInt32 → Int32} {L n m : Nat} {σ : fl_S} (h : We P lf L n m σ) (hp : iP 164 P = true) : sF σ (a_T L n m + 3) 164 = .null := by
  obtain ⟨σ0, h, hs⟩ := h
  exact (hs.2 _ _ hp).trans ((c_oh' h).2 164 (.null) (List.mem_of_getElem? (i := 3) rfl))
theorem q_oh_165 {P : List Nat} {lf : UInt32 → Int32} {L n m : Nat} {σ : fl_S} (h : We P lf L n m σ) (hp : iP 165 P = true) : sF σ (a_T L n m + 3) 165 = .null := by
  obtain ⟨σ0, h, hs⟩ := h
  exact (hs.2 _ _ hp).trans ((c_oh' h).2 165 (.null) (List.mem_of_getElem? (i := 4) rfl))
theorem q_oh_166 {P : List Nat} {lf : UInt32 → Int32} {L n m : Nat} {σ : fl_S} (h : We P lf L n m σ) (hp : iP 166 P = true) : sF σ (a_T L n m + 3) 166 = .null := by
  obtain ⟨σ0, h, hs⟩ := h
  exact (hs.2 _ _ hp).trans ((c_oh' h).2 166 (.null) (List.mem_of_getElem? (i := 5) rfl))
theorem q_oh_167 {P : List Nat} {lf : UInt32 → Int32} {L n m : Nat} {σ : fl_S} (h : We P lf L n m σ) (hp : iP 167 P = true) : sF σ (a_T L n m + 3) 167 = .null := by
  obtain ⟨σ0, h, hs⟩ := h
  exact (hs.2 _ _ hp).trans ((c_oh' h).2 167 (.null) (List.mem_of_getElem? (i := 6) rfl))
theorem c_hn' {lf : UInt32 → Int32} {L n m : Nat} {σ : fl_S} (h : Wd lf L n m σ) : Wc lf σ (a_T L n m + 4) 4 (w_hn L n m) := h.2.2.2.2.2.2.2.2.2.2.2.2.2.2.2.1
theorem c_hn {P : List Nat} {lf : UInt32 → Int32} {L n m : Nat} {σ : fl_S} (h : We P lf L n m σ) : sC σ 4 (a_T L n m + 4) = true := by
  obtain ⟨σ0, h, hs⟩ := h
  exact hs.1 _ _ (c_hn' h).1
theorem q_hn_128 {P : List Nat} {lf : UInt32 → Int32} {L n m : Nat} {σ : fl_S} (h : We P lf L n m σ) (hp : iP 128 P = true) : sF σ (a_T L n m + 4) 128 = .int 13 := by
  obtain ⟨σ0, h, hs⟩ := h
  exact (hs.2 _ _ hp).trans ((c_hn' h).2 128 (i32 (13)) (List.mem_of_getElem? (i := 0) rfl))
theorem q_hn_129 {P : List Nat} {lf : UInt32 → Int32} {L n m : Nat} {σ : fl_S} (h : We P lf L n m σ) (hp : iP 129 P = true) : sF σ (a_T L n m + 4) 129 = .int (Int32.ofNat (x_T L n m)) := by
  obtain ⟨σ0, h, hs⟩ := h
  exact (hs.2 _ _ hp).trans ((c_hn' h).2 129 (i32 (x_T L n m)) (List.mem_of_getElem? (i := 1) rfl))
theorem q_hn_131 {P : List Nat} {lf : UInt32 → Int32} {L n m : Nat} {σ : fl_S} (h : We P lf L n m σ) (hp : iP 131 P = true) : sF σ (a_T L n m + 4) 131 = .ref (a_T L n m) := by
  obtain ⟨σ0, h, hs⟩ := h
  exact (hs.2 _ _ hp).trans ((c_hn' h).2 131 (.ref (a_T L n m)) (List.mem_of_getElem? (i := 2) rfl))
theorem q_hn_132 {P : List Nat} {lf : UInt32 → Int32} {L n m : Nat} {σ : fl_S} (h : We P lf L n m σ) (hp : iP 132 P = true) : sF σ (a_T L n m + 4) 132 = .int 0 := by
  obtain ⟨σ0, h, hs⟩ := h
  exact (hs.2 _ _ hp).trans ((c_hn' h).2 132 (i32 (0)) (List.mem_of_getElem? (i := 3) rfl))
theorem q_hn_133 {P : List Nat} {lf : UInt32 → Int32} {L n m : Nat} {σ : fl_S} (h : We P lf L n m σ) (hp : iP 133 P = true) : sF σ (a_T L n m + 4) 133 = .int 0 := by
  obtain ⟨σ0, h, hs⟩ := h
  exact (hs.2 _ _ hp).trans ((c_hn' h).2 133 (i32 0) (List.mem_of_getElem? (i := 4) rfl))
theorem q_hn_134 {P : List Nat} {lf : UInt32 → Int32} {L n m : Nat} {σ : fl_S} (h : We P lf L n m σ) (hp : iP 134 P = true) : sF σ (a_T L n m + 4) 134 = .null := by
  obtain ⟨σ0, h, hs⟩ := h
  exact (hs.2 _ _ hp).trans ((c_hn' h).2 134 (.null) (List.mem_of_getElem? (i := 5) rfl))
theorem q_hn_135 {P : List Nat} {lf : UInt32 → Int32} {L n m : Nat} {σ : fl_S} (h : We P lf L n m σ) (hp : iP 135 P = true) : sF σ (a_T L n m + 4) 135 = .null := by
  obtain ⟨σ0, h, hs⟩ := h
  exact (hs.2 _ _ hp).trans ((c_hn' h).2 135 (.null) (List.mem_of_getElem? (i := 6) rfl))
theorem q_hn_136 {P : List Nat} {lf : UInt32 → Int32} {L n m : Nat} {σ : fl_S} (h : We P lf L n m σ) (hp : iP 136 P = true) : sF σ (a_T L n m + 4) 136 = .null := by
  obtain ⟨σ0, h, hs⟩ := h
  exact (hs.2 _ _ hp).trans ((c_hn' h).2 136 (.null) (List.mem_of_getElem? (i := 7) rfl))
theorem q_hn_137 {P : List Nat} {lf : UInt32 → Int32} {L n m : Nat} {σ : fl_S} (h : We P lf L n m σ) (hp : iP 137 P = true) : sF σ (a_T L n m + 4) 137 = .ref (a_T L n m + 5) := by
  obtain ⟨σ0, h, hs⟩ := h
  exact (hs.2 _ _ hp).trans ((c_hn' h).2 137 (.ref (a_T L n m + 5)) (List.mem_of_getElem? (i := 8) rfl))
theorem q_hn_138 {P : List Nat} {lf : UInt32 → Int32} {L n m : Nat} {σ : fl_S} (h : We P lf L n m σ) (hp : iP 138 P = true) : sF σ (a_T L n m + 4) 138 = .null := by
  obtain ⟨σ0, h, hs⟩ := h
  exact (hs.2 _ _ hp).trans ((c_hn' h).2 138 (.null) (List.mem_of_getElem? (i := 9) rfl))
theorem q_hn_139 {P : List Nat} {lf : UInt32 → Int32} {L n m : Nat} {σ : fl_S} (h : We P lf L n m σ) (hp : iP 139 P = true) : sF σ (a_T L n m + 4) 139 = .null := by
  obtain ⟨σ0, h, hs⟩ := h
  exact (hs.2 _ _ hp).trans ((c_hn' h).2 139 (.null) (List.mem_of_getElem? (i := 10) rfl))
theorem q_hn_140 {P : List Nat} {lf : UInt32 → Int32} {L n m : Nat} {σ : fl_S} (h : We P lf L n m σ) (hp : iP 140 P = true) : sF σ (a_T L n m + 4) 140 = .null := by
  obtain ⟨σ0, h, hs⟩ := h
  exact (hs.2 _ _ hp).trans ((c_hn' h).2 140 (.null) (List.mem_of_getElem? (i := 11) rfl))
theorem q_hn_141 {P : List Nat} {lf : UInt32 → Int32} {L n m : Nat} {σ : fl_S} (h : We P lf L n m σ) (hp : iP 141 P = true) : sF σ (a_T L n m + 4) 141 = .null := by
  obtain ⟨σ0, h, hs⟩ := h
  exact (hs.2 _ _ hp).trans ((c_hn' h).2 141 (.null) (List.mem_of_getElem? (i := 12) rfl))
theorem q_hn_142 {P : List Nat} {lf : UInt32 → Int32} {L n m : Nat} {σ : fl_S} (h : We P lf L n m σ) (hp : iP 142 P = true) : sF σ (a_T L n m + 4) 142 = .int 0 := by
  obtain ⟨σ0, h, hs⟩ := h
  exact (hs.2 _ _ hp).trans ((c_hn' h).2 142 (i32 (0)) (List.mem_of_getElem? (i := 13) rfl))
theorem q_hn_143 {P : List Nat} {lf : UInt32 → Int32} {L n m : Nat} {σ : fl_S} (h : We P lf L n m σ) (hp : iP 143 P = true) : sF σ (a_T L n m + 4) 143 = .int (-1) := by
  obtain ⟨σ0, h, hs⟩ := h
  exact (hs.2 _ _ hp).trans ((c_hn' h).2 143 (.int (-1)) (List.mem_of_getElem? (i := 14) rfl))
theorem q_hn_144 {P : List Nat} {lf : UInt32 → Int32} {L n m : Nat} {σ : fl_S} (h : We P lf L n m σ) (hp : iP 144 P = true) : sF σ (a_T L n m + 4) 144 = .null := by
  obtain ⟨σ0, h, hs⟩ := h
  exact (hs.2 _ _ hp).trans ((c_hn' h).2 144 (.null) (List.mem_of_getElem? (i := 15) rfl))
theorem q_hn_145 {P : List Nat} {lf : UInt32 → Int32} {L n m : Nat} {σ : fl_S} (h : We P lf L n m σ) (hp : iP 145 P = true) : sF σ (a_T L n m + 4) 145 = .int 0 := by
  obtain ⟨σ0, h, hs⟩ := h
  exact (hs.2 _ _ hp).trans ((c_hn' h).2 145 (i32 (0)) (List.mem_of_getElem? (i := 16) rfl))
theorem q_hn_146 {P : List Nat} {lf : UInt32 → Int32} {L n m : Nat} {σ : fl_S} (h : We P lf L n m σ) (hp : iP 146 P = true) : sF σ (a_T L n m + 4) 146 = .ref (a_T L n m + 12) := by
  obtain ⟨σ0, h, hs⟩ := h
  exact (hs.2 _ _ hp).trans ((c_hn' h).2 146 (.ref (a_T L n m + 12)) (List.mem_of_getElem? (i := 17) rfl))
theorem q_hn_147 {P : List Nat} {lf : UInt32 → Int32} {L n m : Nat} {σ : fl_S} (h : We P lf L n m σ) (hp : iP 147 P = true) : sF σ (a_T L n m + 4) 147 = .null := by
  obtain ⟨σ0, h, hs⟩ := h
  exact (hs.2 _ _ hp).trans ((c_hn' h).2 147 (.null) (List.mem_of_getElem? (i := 18) rfl))
theorem c_ho' {lf : UInt32 → Int32} {L n m : Nat} {σ : fl_S} (h : Wd lf L n m σ) : Wc lf σ (a_T L n m + 5) 5 (w_ho L n m) := h.2.2.2.2.2.2.2.2.2.2.2.2.2.2.2.2.1
theorem c_ho {P : List Nat} {lf : UInt32 → Int32} {L n m : Nat} {σ : fl_S} (h : We P lf L n m σ) : sC σ 5 (a_T L n m + 5) = true := by
  obtain ⟨σ0, h, hs⟩ := h
  exact hs.1 _ _ (c_ho' h).1
theorem q_ho_160 {P : List Nat} {lf : UInt32 → Int32} {L n m : Nat} {σ : fl_S} (h : We P lf L n m σ) (hp : iP 160 P = true) : sF σ (a_T L n m + 5) 160 = .int 315 := by
  obtain ⟨σ0, h, hs⟩ := h
  exact (hs.2 _ _ hp).trans ((c_ho' h).2 160 (i32 (315)) (List.mem_of_getElem? (i := 0) rfl))
theorem q_ho_161 {P : List Nat} {lf : UInt32 → Int32} {L n m : Nat} {σ : fl_S} (h : We P lf L n m σ) (hp : iP 161 P = true) : sF σ (a_T L n m + 5) 161 = .int (lf (UInt32.ofNat 1011)) := by
  obtain ⟨σ0, h, hs⟩ := h
  exact (hs.2 _ _ hp).trans ((c_ho' h).2 161 (iv 1011) (List.mem_of_getElem? (i := 1) rfl))
theorem q_ho_162 {P : List Nat} {lf : UInt32 → Int32} {L n m : Nat} {σ : fl_S} (h : We P lf L n m σ) (hp : iP 162 P = true) : sF σ (a_T L n m + 5) 162 = .int 0 := by
  obtain ⟨σ0, h, hs⟩ := h
  exact (hs.2 _ _ hp).trans ((c_ho' h).2 162 (i32 (0)) (List.mem_of_getElem? (i := 2) rfl))
theorem q_ho_164 {P : List Nat} {lf : UInt32 → Int32} {L n m : Nat} {σ : fl_S} (h : We P lf L n m σ) (hp : iP 164 P = true) : sF σ (a_T L n m + 5) 164 = .null := by
  obtain ⟨σ0, h, hs⟩ := h
  exact (hs.2 _ _ hp).trans ((c_ho' h).2 164 (.null) (List.mem_of_getElem? (i := 3) rfl))
theorem q_ho_165 {P : List Nat} {lf : UInt32 → Int32} {L n m : Nat} {σ : fl_S} (h : We P lf L n m σ) (hp : iP 165 P = true) : sF σ (a_T L n m + 5) 165 = .null := by
  obtain ⟨σ0, h, hs⟩ := h
  exact (hs.2 _ _ hp).trans ((c_ho' h).2 165 (.null) (List.mem_of_getElem? (i := 4) rfl))
theorem q_ho_166 {P : List Nat} {lf : UInt32 → Int32} {L n m : Nat} {σ : fl_S} (h : We P lf L n m σ) (hp : iP 166 P = true) : sF σ (a_T L n m + 5) 166 = .null := by
  obtain ⟨σ0, h, hs⟩ := h
  exact (hs.2 _ _ hp).trans ((c_ho' h).2 166 (.null) (List.mem_of_getElem? (i := 5) rfl))
theorem q_ho_167 {P : List Nat} {lf : UInt32 → Int32} {L n m : Nat} {σ : fl_S} (h : We P lf L n m σ) (hp : iP 167 P = true) : sF σ (a_T L n m + 5) 167 = .null := by
  obtain ⟨σ0, h, hs⟩ := h
  exact (hs.2 _ _ hp).trans ((c_ho' h).2 167 (.null) (List.mem_of_getElem? (i := 6) rfl))
theorem c_u2' {lf : UInt32 → Int32} {L n m : Nat} {σ : fl_S} (h : Wd lf L n m σ) : Wc lf σ (a_T L n m + 6) 1 (w_u2 L n m) := h.2.2.2.2.2.2.2.2.2.2.2.2.2.2.2.2.2.1
theorem c_u2 {P : List Nat} {lf : UInt32 → Int32} {L n m : Nat} {σ : fl_S} (h : We P lf L n m σ) : sC σ 1 (a_T L n m + 6) = true := by
  obtain ⟨σ0, h, hs⟩ := h
  exact hs.1 _ _ (c_u2' h).1
theorem q_u2_32 {P : List Nat} {lf : UInt32 → Int32} {L n m : Nat} {σ : fl_S} (h : We P lf L n m σ) (hp : iP 32 P = true) : sF σ (a_T L n m + 6) 32 = .int 0 := by
  obtain ⟨σ0, h, hs⟩ := h
  exact (hs.2 _ _ hp).trans ((c_u2' h).2 32 (i32 (0)) (List.mem_of_getElem? (i := 0) rfl))
theorem q_u2_33 {P : List Nat} {lf : UInt32 → Int32} {L n m : Nat} {σ : fl_S} (h : We P lf L n m σ) (hp : iP 33 P = true) : sF σ (a_T L n m + 6) 33 = .int (Int32.ofNat (n_T L n m + 1)) := by
  obtain ⟨σ0, h, hs⟩ := h
  exact (hs.2 _ _ hp).trans ((c_u2' h).2 33 (i32 (n_T L n m + 1)) (List.mem_of_getElem? (i := 1) rfl))
theorem q_u2_36 {P : List Nat} {lf : UInt32 → Int32} {L n m : Nat} {σ : fl_S} (h : We P lf L n m σ) (hp : iP 36 P = true) : sF σ (a_T L n m + 6) 36 = .ref (a_T L n m + 6) := by
  obtain ⟨σ0, h, hs⟩ := h
  exact (hs.2 _ _ hp).trans ((c_u2' h).2 36 (.ref (a_T L n m + 6)) (List.mem_of_getElem? (i := 2) rfl))
theorem q_u2_37 {P : List Nat} {lf : UInt32 → Int32} {L n m : Nat} {σ : fl_S} (h : We P lf L n m σ) (hp : iP 37 P = true) : sF σ (a_T L n m + 6) 37 = .ref (a_T L n m + 9) := by
  obtain ⟨σ0, h, hs⟩ := h
  exact (hs.2 _ _ hp).trans ((c_u2' h).2 37 (.ref (a_T L n m + 9)) (List.mem_of_getElem? (i := 3) rfl))
theorem q_u2_38 {P : List Nat} {lf : UInt32 → Int32} {L n m : Nat} {σ : fl_S} (h : We P lf L n m σ) (hp : iP 38 P = true) : sF σ (a_T L n m + 6) 38 = .null := by
  obtain ⟨σ0, h, hs⟩ := h
  exact (hs.2 _ _ hp).trans ((c_u2' h).2 38 (.null) (List.mem_of_getElem? (i := 4) rfl))
theorem q_u2_39 {P : List Nat} {lf : UInt32 → Int32} {L n m : Nat} {σ : fl_S} (h : We P lf L n m σ) (hp : iP 39 P = true) : sF σ (a_T L n m + 6) 39 = .null := by
  obtain ⟨σ0, h, hs⟩ := h
  exact (hs.2 _ _ hp).trans ((c_u2' h).2 39 (.null) (List.mem_of_getElem? (i := 5) rfl))
theorem q_u2_40 {P : List Nat} {lf : UInt32 → Int32} {L n m : Nat} {σ : fl_S} (h : We P lf L n m σ) (hp : iP 40 P = true) : sF σ (a_T L n m + 6) 40 = .null := by
  obtain ⟨σ0, h, hs⟩ := h
  exact (hs.2 _ _ hp).trans ((c_u2' h).2 40 (.null) (List.mem_of_getElem? (i := 6) rfl))
theorem q_u2_41 {P : List Nat} {lf : UInt32 → Int32} {L n m : Nat} {σ : fl_S} (h : We P lf L n m σ) (hp : iP 41 P = true) : sF σ (a_T L n m + 6) 41 = .int 2 := by
  obtain ⟨σ0, h, hs⟩ := h
  exact (hs.2 _ _ hp).trans ((c_u2' h).2 41 (i32 (2)) (List.mem_of_getElem? (i := 7) rfl))
theorem q_u2_42 {P : List Nat} {lf : UInt32 → Int32} {L n m : Nat} {σ : fl_S} (h : We P lf L n m σ) (hp : iP 42 P = true) : sF σ (a_T L n m + 6) 42 = .int 0 := by
  obtain ⟨σ0, h, hs⟩ := h
  exact (hs.2 _ _ hp).trans ((c_u2' h).2 42 (i32 (0)) (List.mem_of_getElem? (i := 8) rfl))
theorem q_u2_43 {P : List Nat} {lf : UInt32 → Int32} {L n m : Nat} {σ : fl_S} (h : We P lf L n m σ) (hp : iP 43 P = true) : sF σ (a_T L n m + 6) 43 = .ref (a_T L n m + 7) := by
  obtain ⟨σ0, h, hs⟩ := h
  exact (hs.2 _ _ hp).trans ((c_u2' h).2 43 (.ref (a_T L n m + 7)) (List.mem_of_getElem? (i := 9) rfl))
theorem q_u2_44 {P : List Nat} {lf : UInt32 → Int32} {L n m : Nat} {σ : fl_S} (h : We P lf L n m σ) (hp : iP 44 P = true) : sF σ (a_T L n m + 6) 44 = .null := by
  obtain ⟨σ0, h, hs⟩ := h
  exact (hs.2 _ _ hp).trans ((c_u2' h).2 44 (.null) (List.mem_of_getElem? (i := 10) rfl))
theorem q_u2_46 {P : List Nat} {lf : UInt32 → Int32} {L n m : Nat} {σ : fl_S} (h : We P lf L n m σ) (hp : iP 46 P = true) : sF σ (a_T L n m + 6) 46 = .null := by
  obtain ⟨σ0, h, hs⟩ := h
  exact (hs.2 _ _ hp).trans ((c_u2' h).2 46 (.null) (List.mem_of_getElem? (i := 11) rfl))
theorem q_u2_47 {P : List Nat} {lf : UInt32 → Int32} {L n m : Nat} {σ : fl_S} (h : We P lf L n m σ) (hp : iP 47 P = true) : sF σ (a_T L n m + 6) 47 = .null := by
  obtain ⟨σ0, h, hs⟩ := h
  exact (hs.2 _ _ hp).trans ((c_u2' h).2 47 (.null) (List.mem_of_getElem? (i := 12) rfl))
theorem q_u2_48 {P : List Nat} {lf : UInt32 → Int32} {L n m : Nat} {σ : fl_S} (h : We P lf L n m σ) (hp : iP 48 P = true) : sF σ (a_T L n m + 6) 48 = .int 0 := by
  obtain ⟨σ0, h, hs⟩ := h
  exact (hs.2 _ _ hp).trans ((c_u2' h).2 48 (i32 (0)) (List.mem_of_getElem? (i := 13) rfl))
theorem q_u2_49 {P : List Nat} {lf : UInt32 → Int32} {L n m : Nat} {σ : fl_S} (h : We P lf L n m σ) (hp : iP 49 P = true) : sF σ (a_T L n m + 6) 49 = .int 0 := by
  obtain ⟨σ0, h, hs⟩ := h
  exact (hs.2 _ _ hp).trans ((c_u2' h).2 49 (i32 (0)) (List.mem_of_getElem? (i := 14) rfl))
theorem q_u2_50 {P : List Nat} {lf : UInt32 → Int32} {L n m : Nat} {σ : fl_S} (h : We P lf L n m σ) (hp : iP 50 P = true) : sF σ (a_T L n m + 6) 50 = .null := by
  obtain ⟨σ0, h, hs⟩ := h
  exact (hs.2 _ _ hp).trans ((c_u2' h).2 50 (.null) (List.mem_of_getElem? (i := 15) rfl))
theorem c_ima' {lf : UInt32 → Int32} {L n m : Nat} {σ : fl_S} (h : Wd lf L n m σ) : Wc lf σ (a_T L n m + 7) 1 (w_ima L n m) := h.2.2.2.2.2.2.2.2.2.2.2.2.2.2.2.2.2.2.1
theorem c_ima {P : List Nat} {lf : UInt32 → Int32} {L n m : Nat} {σ : fl_S} (h : We P lf L n m σ) : sC σ 1 (a_T L n m + 7) = true := by
  obtain ⟨σ0, h, hs⟩ := h
  exact hs.1 _ _ (c_ima' h).1
theorem q_ima_32 {P : List Nat} {lf : UInt32 → Int32} {L n m : Nat} {σ : fl_S} (h : We P lf L n m σ) (hp : iP 32 P = true) : sF σ (a_T L n m + 7) 32 = .int 2 := by
  obtain ⟨σ0, h, hs⟩ := h
  exact (hs.2 _ _ hp).trans ((c_ima' h).2 32 (i32 (2)) (List.mem_of_getElem? (i := 0) rfl))
theorem q_ima_33 {P : List Nat} {lf : UInt32 → Int32} {L n m : Nat} {σ : fl_S} (h : We P lf L n m σ) (hp : iP 33 P = true) : sF σ (a_T L n m + 7) 33 = .int 0 := by
  obtain ⟨σ0, h, hs⟩ := h
  exact (hs.2 _ _ hp).trans ((c_ima' h).2 33 (i32 (0)) (List.mem_of_getElem? (i := 1) rfl))
theorem q_ima_36 {P : List Nat} {lf : UInt32 → Int32} {L n m : Nat} {σ : fl_S} (h : We P lf L n m σ) (hp : iP 36 P = true) : sF σ (a_T L n m + 7) 36 = .ref (a_T L n m + 6) := by
  obtain ⟨σ0, h, hs⟩ := h
  exact (hs.2 _ _ hp).trans ((c_ima' h).2 36 (.ref (a_T L n m + 6)) (List.mem_of_getElem? (i := 2) rfl))
theorem q_ima_37 {P : List Nat} {lf : UInt32 → Int32} {L n m : Nat} {σ : fl_S} (h : We P lf L n m σ) (hp : iP 37 P = true) : sF σ (a_T L n m + 7) 37 = .ref (a_T L n m + 8) := by
  obtain ⟨σ0, h, hs⟩ := h
  exact (hs.2 _ _ hp).trans ((c_ima' h).2 37 (.ref (a_T L n m + 8)) (List.mem_of_getElem? (i := 3) rfl))
theorem q_ima_38 {P : List Nat} {lf : UInt32 → Int32} {L n m : Nat} {σ : fl_S} (h : We P lf L n m σ) (hp : iP 38 P = true) : sF σ (a_T L n m + 7) 38 = .null := by
  obtain ⟨σ0, h, hs⟩ := h
  exact (hs.2 _ _ hp).trans ((c_ima' h).2 38 (.null) (List.mem_of_getElem? (i := 4) rfl))
theorem q_ima_39 {P : List Nat} {lf : UInt32 → Int32} {L n m : Nat} {σ : fl_S} (h : We P lf L n m σ) (hp : iP 39 P = true) : sF σ (a_T L n m + 7) 39 = .null := by
  obtain ⟨σ0, h, hs⟩ := h
  exact (hs.2 _ _ hp).trans ((c_ima' h).2 39 (.null) (List.mem_of_getElem? (i := 5) rfl))
theorem q_ima_40 {P : List Nat} {lf : UInt32 → Int32} {L n m : Nat} {σ : fl_S} (h : We P lf L n m σ) (hp : iP 40 P = true) : sF σ (a_T L n m + 7) 40 = .null := by
  obtain ⟨σ0, h, hs⟩ := h
  exact (hs.2 _ _ hp).trans ((c_ima' h).2 40 (.null) (List.mem_of_getElem? (i := 6) rfl))
theorem q_ima_41 {P : List Nat} {lf : UInt32 → Int32} {L n m : Nat} {σ : fl_S} (h : We P lf L n m σ) (hp : iP 41 P = true) : sF σ (a_T L n m + 7) 41 = .int 0 := by
  obtain ⟨σ0, h, hs⟩ := h
  exact (hs.2 _ _ hp).trans ((c_ima' h).2 41 (i32 0) (List.mem_of_getElem? (i := 7) rfl))
theorem q_ima_42 {P : List Nat} {lf : UInt32 → Int32} {L n m : Nat} {σ : fl_S} (h : We P lf L n m σ) (hp : iP 42 P = true) : sF σ (a_T L n m + 7) 42 = .int 0 := by
  obtain ⟨σ0, h, hs⟩ := h
  exact (hs.2 _ _ hp).trans ((c_ima' h).2 42 (i32 (0)) (List.mem_of_getElem? (i := 8) rfl))
theorem q_ima_43 {P : List Nat} {lf : UInt32 → Int32} {L n m : Nat} {σ : fl_S} (h : We P lf L n m σ) (hp : iP 43 P = true) : sF σ (a_T L n m + 7) 43 = .null := by
  obtain ⟨σ0, h, hs⟩ := h
  exact (hs.2 _ _ hp).trans ((c_ima' h).2 43 (.null) (List.mem_of_getElem? (i := 9) rfl))
theorem q_ima_44 {P : List Nat} {lf : UInt32 → Int32} {L n m : Nat} {σ : fl_S} (h : We P lf L n m σ) (hp : iP 44 P = true) : sF σ (a_T L n m + 7) 44 = .null := by
  obtain ⟨σ0, h, hs⟩ := h
  exact (hs.2 _ _ hp).trans ((c_ima' h).2 44 (.null) (List.mem_of_getElem? (i := 10) rfl))
theorem q_ima_46 {P : List Nat} {lf : UInt32 → Int32} {L n m : Nat} {σ : fl_S} (h : We P lf L n m σ) (hp : iP 46 P = true) : sF σ (a_T L n m + 7) 46 = .null := by
  obtain ⟨σ0, h, hs⟩ := h
  exact (hs.2 _ _ hp).trans ((c_ima' h).2 46 (.null) (List.mem_of_getElem? (i := 11) rfl))
theorem q_ima_47 {P : List Nat} {lf : UInt32 → Int32} {L n m : Nat} {σ : fl_S} (h : We P lf L n m σ) (hp : iP 47 P = true) : sF σ (a_T L n m + 7) 47 = .null := by
  obtain ⟨σ0, h, hs⟩ := h
  exact (hs.2 _ _ hp).trans ((c_ima' h).2 47 (.null) (List.mem_of_getElem? (i := 12) rfl))
theorem q_ima_48 {P : List Nat} {lf : UInt32 → Int32} {L n m : Nat} {σ : fl_S} (h : We P lf L n m σ) (hp : iP 48 P = true) : sF σ (a_T L n m + 7) 48 = .int 0 := by
  obtain ⟨σ0, h, hs⟩ := h
  exact (hs.2 _ _ hp).trans ((c_ima' h).2 48 (i32 (0)) (List.mem_of_getElem? (i := 13) rfl))
theorem q_ima_49 {P : List Nat} {lf : UInt32 → Int32} {L n m : Nat} {σ : fl_S} (h : We P lf L n m σ) (hp : iP 49 P = true) : sF σ (a_T L n m + 7) 49 = .int 0 := by
  obtain ⟨σ0, h, hs⟩ := h
  exact (hs.2 _ _ hp).trans ((c_ima' h).2 49 (i32 (0)) (List.mem_of_getElem? (i := 14) rfl))
theorem q_ima_50 {P : List Nat} {lf : UInt32 → Int32} {L n m : Nat} {σ : fl_S} (h : We P lf L n m σ) (hp : iP 50 P = true) : sF σ (a_T L n m + 7) 50 = .null := by
  obtain ⟨σ0, h, hs⟩ := h
  exact (hs.2 _ _ hp).trans ((c_ima' h).2 50 (.null) (List.mem_of_getElem? (i := 15) rfl))
theorem c_imb' {lf : UInt32 → Int32} {L n m : Nat} {σ : fl_S} (h : Wd lf L n m σ) : Wc lf σ (a_T L n m + 8) 1 (w_imb L n m) := h.2.2.2.2.2.2.2.2.2.2.2.2.2.2.2.2.2.2.2.1
theorem c_imb {P : List Nat} {lf : UInt32 → Int32} {L n m : Nat} {σ : fl_S} (h : We P lf L n m σ) : sC σ 1 (a_T L n m + 8) = true := by
  obtain ⟨σ0, h, hs⟩ := h
  exact hs.1 _ _ (c_imb' h).1
theorem q_imb_32 {P : List Nat} {lf : UInt32 → Int32} {L n m : Nat} {σ : fl_S} (h : We P lf L n m σ) (hp : iP 32 P = true) : sF σ (a_T L n m + 8) 32 = .int 2 := by
  obtain ⟨σ0, h, hs⟩ := h
  exact (hs.2 _ _ hp).trans ((c_imb' h).2 32 (i32 (2)) (List.mem_of_getElem? (i := 0) rfl))
theorem q_imb_33 {P : List Nat} {lf : UInt32 → Int32} {L n m : Nat} {σ : fl_S} (h : We P lf L n m σ) (hp : iP 33 P = true) : sF σ (a_T L n m + 8) 33 = .int (Int32.ofNat (n_T L n m)) := by
  obtain ⟨σ0, h, hs⟩ := h
  exact (hs.2 _ _ hp).trans ((c_imb' h).2 33 (i32 (n_T L n m)) (List.mem_of_getElem? (i := 1) rfl))
theorem q_imb_36 {P : List Nat} {lf : UInt32 → Int32} {L n m : Nat} {σ : fl_S} (h : We P lf L n m σ) (hp : iP 36 P = true) : sF σ (a_T L n m + 8) 36 = .ref (a_T L n m + 6) := by
  obtain ⟨σ0, h, hs⟩ := h
  exact (hs.2 _ _ hp).trans ((c_imb' h).2 36 (.ref (a_T L n m + 6)) (List.mem_of_getElem? (i := 2) rfl))
theorem q_imb_37 {P : List Nat} {lf : UInt32 → Int32} {L n m : Nat} {σ : fl_S} (h : We P lf L n m σ) (hp : iP 37 P = true) : sF σ (a_T L n m + 8) 37 = .null := by
  obtain ⟨σ0, h, hs⟩ := h
  exact (hs.2 _ _ hp).trans ((c_imb' h).2 37 (.null) (List.mem_of_getElem? (i := 3) rfl))
theorem q_imb_38 {P : List Nat} {lf : UInt32 → Int32} {L n m : Nat} {σ : fl_S} (h : We P lf L n m σ) (hp : iP 38 P = true) : sF σ (a_T L n m + 8) 38 = .null := by
  obtain ⟨σ0, h, hs⟩ := h
  exact (hs.2 _ _ hp).trans ((c_imb' h).2 38 (.null) (List.mem_of_getElem? (i := 4) rfl))
theorem q_imb_39 {P : List Nat} {lf : UInt32 → Int32} {L n m : Nat} {σ : fl_S} (h : We P lf L n m σ) (hp : iP 39 P = true) : sF σ (a_T L n m + 8) 39 = .null := by
  obtain ⟨σ0, h, hs⟩ := h
  exact (hs.2 _ _ hp).trans ((c_imb' h).2 39 (.null) (List.mem_of_getElem? (i := 5) rfl))
theorem q_imb_40 {P : List Nat} {lf : UInt32 → Int32} {L n m : Nat} {σ : fl_S} (h : We P lf L n m σ) (hp : iP 40 P = true) : sF σ (a_T L n m + 8) 40 = .null := by
  obtain ⟨σ0, h, hs⟩ := h
  exact (hs.2 _ _ hp).trans ((c_imb' h).2 40 (.null) (List.mem_of_getElem? (i := 6) rfl))
theorem q_imb_41 {P : List Nat} {lf : UInt32 → Int32} {L n m : Nat} {σ : fl_S} (h : We P lf L n m σ) (hp : iP 41 P = true) : sF σ (a_T L n m + 8) 41 = .int 0 := by
  obtain ⟨σ0, h, hs⟩ := h
  exact (hs.2 _ _ hp).trans ((c_imb' h).2 41 (i32 0) (List.mem_of_getElem? (i := 7) rfl))
theorem q_imb_42 {P : List Nat} {lf : UInt32 → Int32} {L n m : Nat} {σ : fl_S} (h : We P lf L n m σ) (hp : iP 42 P = true) : sF σ (a_T L n m + 8) 42 = .int 0 := by
  obtain ⟨σ0, h, hs⟩ := h
  exact (hs.2 _ _ hp).trans ((c_imb' h).2 42 (i32 (0)) (List.mem_of_getElem? (i := 8) rfl))
theorem q_imb_43 {P : List Nat} {lf : UInt32 → Int32} {L n m : Nat} {σ : fl_S} (h : We P lf L n m σ) (hp : iP 43 P = true) : sF σ (a_T L n m + 8) 43 = .null := by
  obtain ⟨σ0, h, hs⟩ := h
  exact (hs.2 _ _ hp).trans ((c_imb' h).2 43 (.null) (List.mem_of_getElem? (i := 9) rfl))
theorem q_imb_44 {P : List Nat} {lf : UInt32 → Int32} {L n m : Nat} {σ : fl_S} (h : We P lf L n m σ) (hp : iP 44 P = true) : sF σ (a_T L n m + 8) 44 = .null := by
  obtain ⟨σ0, h, hs⟩ := h
  exact (hs.2 _ _ hp).trans ((c_imb' h).2 44 (.null) (List.mem_of_getElem? (i := 10) rfl))
theorem q_imb_46 {P : List Nat} {lf : UInt32 → Int32} {L n m : Nat} {σ : fl_S} (h : We P lf L n m σ) (hp : iP 46 P = true) : sF σ (a_T L n m + 8) 46 = .null := by
  obtain ⟨σ0, h, hs⟩ := h
  exact (hs.2 _ _ hp).trans ((c_imb' h).2 46 (.null) (List.mem_of_getElem? (i := 11) rfl))
theorem q_imb_47 {P : List Nat} {lf : UInt32 → Int32} {L n m : Nat} {σ : fl_S} (h : We P lf L n m σ) (hp : iP 47 P = true) : sF σ (a_T L n m + 8) 47 = .null := by
  obtain ⟨σ0, h, hs⟩ := h
  exact (hs.2 _ _ hp).trans ((c_imb' h).2 47 (.null) (List.mem_of_getElem? (i := 12) rfl))
theorem q_imb_48 {P : List Nat} {lf : UInt32 → Int32} {L n m : Nat} {σ : fl_S} (h : We P lf L n m σ) (hp : iP 48 P = true) : sF σ (a_T L n m + 8) 48 = .int 0 := by
  obtain ⟨σ0, h, hs⟩ := h
  exact (hs.2 _ _ hp).trans ((c_imb' h).2 48 (i32 (0)) (List.mem_of_getElem? (i := 13) rfl))
theorem q_imb_49 {P : List Nat} {lf : UInt32 → Int32} {L n m : Nat} {σ : fl_S} (h : We P lf L n m σ) (hp : iP 49 P = true) : sF σ (a_T L n m + 8) 49 = .int 0 := by
  obtain ⟨σ0, h, hs⟩ := h
  exact (hs.2 _ _ hp).trans ((c_imb' h).2 49 (i32 (0)) (List.mem_of_getElem? (i := 14) rfl))
theorem q_imb_50 {P : List Nat} {lf : UInt32 → Int32} {L n m : Nat} {σ : fl_S} (h : We P lf L n m σ) (hp : iP 50 P = true) : sF σ (a_T L n m + 8) 50 = .null := by
  obtain ⟨σ0, h, hs⟩ := h
  exact (hs.2 _ _ hp).trans ((c_imb' h).2 50 (.null) (List.mem_of_getElem? (i := 15) rfl))
theorem c_u3' {lf : UInt32 → Int32} {L n m : Nat} {σ : fl_S} (h : Wd lf L n m σ) : Wc lf σ (a_T L n m + 9) 1 (w_u3 L n m) := h.2.2.2.2.2.2.2.2.2.2.2.2.2.2.2.2.2.2.2.2.1
theorem c_u3 {P : List Nat} {lf : UInt32 → Int32} {L n m : Nat} {σ : fl_S} (h : We P lf L n m σ) : sC σ 1 (a_T L n m + 9) = true := by
  obtain ⟨σ0, h, hs⟩ := h
  exact hs.1 _ _ (c_u3' h).1
theorem q_u3_32 {P : List Nat} {lf : UInt32 → Int32} {L n m : Nat} {σ : fl_S} (h : We P lf L n m σ) (hp : iP 32 P = true) : sF σ (a_T L n m + 9) 32 = .int 1 := by
  obtain ⟨σ0, h, hs⟩ := h
  exact (hs.2 _ _ hp).trans ((c_u3' h).2 32 (i32 (1)) (List.mem_of_getElem? (i := 0) rfl))
theorem q_u3_33 {P : List Nat} {lf : UInt32 → Int32} {L n m : Nat} {σ : fl_S} (h : We P lf L n m σ) (hp : iP 33 P = true) : sF σ (a_T L n m + 9) 33 = .int 0 := by
  obtain ⟨σ0, h, hs⟩ := h
  exact (hs.2 _ _ hp).trans ((c_u3' h).2 33 (i32 (0)) (List.mem_of_getElem? (i := 1) rfl))
theorem q_u3_36 {P : List Nat} {lf : UInt32 → Int32} {L n m : Nat} {σ : fl_S} (h : We P lf L n m σ) (hp : iP 36 P = true) : sF σ (a_T L n m + 9) 36 = .ref (a_T L n m + 9) := by
  obtain ⟨σ0, h, hs⟩ := h
  exact (hs.2 _ _ hp).trans ((c_u3' h).2 36 (.ref (a_T L n m + 9)) (List.mem_of_getElem? (i := 2) rfl))
theorem q_u3_37 {P : List Nat} {lf : UInt32 → Int32} {L n m : Nat} {σ : fl_S} (h : We P lf L n m σ) (hp : iP 37 P = true) : sF σ (a_T L n m + 9) 37 = .ref (a_T L n m + 17) := by
  obtain ⟨σ0, h, hs⟩ := h
  exact (hs.2 _ _ hp).trans ((c_u3' h).2 37 (.ref (a_T L n m + 17)) (List.mem_of_getElem? (i := 3) rfl))
theorem q_u3_38 {P : List Nat} {lf : UInt32 → Int32} {L n m : Nat} {σ : fl_S} (h : We P lf L n m σ) (hp : iP 38 P = true) : sF σ (a_T L n m + 9) 38 = .null := by
  obtain ⟨σ0, h, hs⟩ := h
  exact (hs.2 _ _ hp).trans ((c_u3' h).2 38 (.null) (List.mem_of_getElem? (i := 4) rfl))
theorem q_u3_39 {P : List Nat} {lf : UInt32 → Int32} {L n m : Nat} {σ : fl_S} (h : We P lf L n m σ) (hp : iP 39 P = true) : sF σ (a_T L n m + 9) 39 = .null := by
  obtain ⟨σ0, h, hs⟩ := h
  exact (hs.2 _ _ hp).trans ((c_u3' h).2 39 (.null) (List.mem_of_getElem? (i := 5) rfl))
theorem q_u3_40 {P : List Nat} {lf : UInt32 → Int32} {L n m : Nat} {σ : fl_S} (h : We P lf L n m σ) (hp : iP 40 P = true) : sF σ (a_T L n m + 9) 40 = .null := by
  obtain ⟨σ0, h, hs⟩ := h
  exact (hs.2 _ _ hp).trans ((c_u3' h).2 40 (.null) (List.mem_of_getElem? (i := 6) rfl))
theorem q_u3_41 {P : List Nat} {lf : UInt32 → Int32} {L n m : Nat} {σ : fl_S} (h : We P lf L n m σ) (hp : iP 41 P = true) : sF σ (a_T L n m + 9) 41 = .int 3 := by
  obtain ⟨σ0, h, hs⟩ := h
  exact (hs.2 _ _ hp).trans ((c_u3' h).2 41 (i32 (3)) (List.mem_of_getElem? (i := 7) rfl))
theorem q_u3_42 {P : List Nat} {lf : UInt32 → Int32} {L n m : Nat} {σ : fl_S} (h : We P lf L n m σ) (hp : iP 42 P = true) : sF σ (a_T L n m + 9) 42 = .int 0 := by
  obtain ⟨σ0, h, hs⟩ := h
  exact (hs.2 _ _ hp).trans ((c_u3' h).2 42 (i32 (0)) (List.mem_of_getElem? (i := 8) rfl))
theorem q_u3_43 {P : List Nat} {lf : UInt32 → Int32} {L n m : Nat} {σ : fl_S} (h : We P lf L n m σ) (hp : iP 43 P = true) : sF σ (a_T L n m + 9) 43 = .ref (a_T L n m + 10) := by
  obtain ⟨σ0, h, hs⟩ := h
  exact (hs.2 _ _ hp).trans ((c_u3' h).2 43 (.ref (a_T L n m + 10)) (List.mem_of_getElem? (i := 9) rfl))
theorem q_u3_44 {P : List Nat} {lf : UInt32 → Int32} {L n m : Nat} {σ : fl_S} (h : We P lf L n m σ) (hp : iP 44 P = true) : sF σ (a_T L n m + 9) 44 = .ref (a_T L n m + 16) := by
  obtain ⟨σ0, h, hs⟩ := h
  exact (hs.2 _ _ hp).trans ((c_u3' h).2 44 (.ref (a_T L n m + 16)) (List.mem_of_getElem? (i := 10) rfl))
theorem q_u3_46 {P : List Nat} {lf : UInt32 → Int32} {L n m : Nat} {σ : fl_S} (h : We P lf L n m σ) (hp : iP 46 P = true) : sF σ (a_T L n m + 9) 46 = .null := by
  obtain ⟨σ0, h, hs⟩ := h
  exact (hs.2 _ _ hp).trans ((c_u3' h).2 46 (.null) (List.mem_of_getElem? (i := 11) rfl))
theorem q_u3_47 {P : List Nat} {lf : UInt32 → Int32} {L n m : Nat} {σ : fl_S} (h : We P lf L n m σ) (hp : iP 47 P = true) : sF σ (a_T L n m + 9) 47 = .null := by
  obtain ⟨σ0, h, hs⟩ := h
  exact (hs.2 _ _ hp).trans ((c_u3' h).2 47 (.null) (List.mem_of_getElem? (i := 12) rfl))
theorem q_u3_48 {P : List Nat} {lf : UInt32 → Int32} {L n m : Nat} {σ : fl_S} (h : We P lf L n m σ) (hp : iP 48 P = true) : sF σ (a_T L n m + 9) 48 = .int 0 := by
  obtain ⟨σ0, h, hs⟩ := h
  exact (hs.2 _ _ hp).trans ((c_u3' h).2 48 (i32 (0)) (List.mem_of_getElem? (i := 13) rfl))
theorem q_u3_49 {P : List Nat} {lf : UInt32 → Int32} {L n m : Nat} {σ : fl_S} (h : We P lf L n m σ) (hp : iP 49 P = true) : sF σ (a_T L n m + 9) 49 = .int 0 := by
  obtain ⟨σ0, h, hs⟩ := h
  exact (hs.2 _ _ hp).trans ((c_u3' h).2 49 (i32 (0)) (List.mem_of_getElem? (i := 14) rfl))
theorem q_u3_50 {P : List Nat} {lf : UInt32 → Int32} {L n m : Nat} {σ : fl_S} (h : We P lf L n m σ) (hp : iP 50 P = true) : sF σ (a_T L n m + 9) 50 = .null := by
  obtain ⟨σ0, h, hs⟩ := h
  exact (hs.2 _ _ hp).trans ((c_u3' h).2 50 (.null) (List.mem_of_getElem? (i := 15) rfl))
theorem c_dr' {lf : UInt32 → Int32} {L n m : Nat} {σ : fl_S} (h : Wd lf L n m σ) : Wc lf σ (a_T L n m + 10) 1 (w_dr L n m) := h.2.2.2.2.2.2.2.2.2.2.2.2.2.2.2.2.2.2.2.2.2.1
theorem c_dr {P : List Nat} {lf : UInt32 → Int32} {L n m : Nat} {σ : fl_S} (h : We P lf L n m σ) : sC σ 1 (a_T L n m + 10) = true := by
  obtain ⟨σ0, h, hs⟩ := h
  exact hs.1 _ _ (c_dr' h).1
theorem q_dr_32 {P : List Nat} {lf : UInt32 → Int32} {L n m : Nat} {σ : fl_S} (h : We P lf L n m σ) (hp : iP 32 P = true) : sF σ (a_T L n m + 10) 32 = .int 5 := by
  obtain ⟨σ0, h, hs⟩ := h
  exact (hs.2 _ _ hp).trans ((c_dr' h).2 32 (i32 (5)) (List.mem_of_getElem? (i := 0) rfl))
theorem q_dr_33 {P : List Nat} {lf : UInt32 → Int32} {L n m : Nat} {σ : fl_S} (h : We P lf L n m σ) (hp : iP 33 P = true) : sF σ (a_T L n m + 10) 33 = .int (-1) := by
  obtain ⟨σ0, h, hs⟩ := h
  exact (hs.2 _ _ hp).trans ((c_dr' h).2 33 (.int (-1)) (List.mem_of_getElem? (i := 1) rfl))
theorem q_dr_36 {P : List Nat} {lf : UInt32 → Int32} {L n m : Nat} {σ : fl_S} (h : We P lf L n m σ) (hp : iP 36 P = true) : sF σ (a_T L n m + 10) 36 = .ref (a_T L n m + 9) := by
  obtain ⟨σ0, h, hs⟩ := h
  exact (hs.2 _ _ hp).trans ((c_dr' h).2 36 (.ref (a_T L n m + 9)) (List.mem_of_getElem? (i := 2) rfl))
theorem q_dr_37 {P : List Nat} {lf : UInt32 → Int32} {L n m : Nat} {σ : fl_S} (h : We P lf L n m σ) (hp : iP 37 P = true) : sF σ (a_T L n m + 10) 37 = .null := by
  obtain ⟨σ0, h, hs⟩ := h
  exact (hs.2 _ _ hp).trans ((c_dr' h).2 37 (.null) (List.mem_of_getElem? (i := 3) rfl))
theorem q_dr_38 {P : List Nat} {lf : UInt32 → Int32} {L n m : Nat} {σ : fl_S} (h : We P lf L n m σ) (hp : iP 38 P = true) : sF σ (a_T L n m + 10) 38 = .ref (a_T L n m + 14) := by
  obtain ⟨σ0, h, hs⟩ := h
  exact (hs.2 _ _ hp).trans ((c_dr' h).2 38 (.ref (a_T L n m + 14)) (List.mem_of_getElem? (i := 4) rfl))
theorem q_dr_39 {P : List Nat} {lf : UInt32 → Int32} {L n m : Nat} {σ : fl_S} (h : We P lf L n m σ) (hp : iP 39 P = true) : sF σ (a_T L n m + 10) 39 = .null := by
  obtain ⟨σ0, h, hs⟩ := h
  exact (hs.2 _ _ hp).trans ((c_dr' h).2 39 (.null) (List.mem_of_getElem? (i := 5) rfl))
theorem q_dr_40 {P : List Nat} {lf : UInt32 → Int32} {L n m : Nat} {σ : fl_S} (h : We P lf L n m σ) (hp : iP 40 P = true) : sF σ (a_T L n m + 10) 40 = .ref (a_T L n m + 11) := by
  obtain ⟨σ0, h, hs⟩ := h
  exact (hs.2 _ _ hp).trans ((c_dr' h).2 40 (.ref (a_T L n m + 11)) (List.mem_of_getElem? (i := 6) rfl))
theorem q_dr_41 {P : List Nat} {lf : UInt32 → Int32} {L n m : Nat} {σ : fl_S} (h : We P lf L n m σ) (hp : iP 41 P = true) : sF σ (a_T L n m + 10) 41 = .int 0 := by
  obtain ⟨σ0, h, hs⟩ := h
  exact (hs.2 _ _ hp).trans ((c_dr' h).2 41 (i32 0) (List.mem_of_getElem? (i := 7) rfl))
theorem q_dr_42 {P : List Nat} {lf : UInt32 → Int32} {L n m : Nat} {σ : fl_S} (h : We P lf L n m σ) (hp : iP 42 P = true) : sF σ (a_T L n m + 10) 42 = .int 0 := by
  obtain ⟨σ0, h, hs⟩ := h
  exact (hs.2 _ _ hp).trans ((c_dr' h).2 42 (i32 (0)) (List.mem_of_getElem? (i := 8) rfl))
theorem q_dr_43 {P : List Nat} {lf : UInt32 → Int32} {L n m : Nat} {σ : fl_S} (h : We P lf L n m σ) (hp : iP 43 P = true) : sF σ (a_T L n m + 10) 43 = .null := by
  obtain ⟨σ0, h, hs⟩ := h
  exact (hs.2 _ _ hp).trans ((c_dr' h).2 43 (.null) (List.mem_of_getElem? (i := 9) rfl))
theorem q_dr_44 {P : List Nat} {lf : UInt32 → Int32} {L n m : Nat} {σ : fl_S} (h : We P lf L n m σ) (hp : iP 44 P = true) : sF σ (a_T L n m + 10) 44 = .null := by
  obtain ⟨σ0, h, hs⟩ := h
  exact (hs.2 _ _ hp).trans ((c_dr' h).2 44 (.null) (List.mem_of_getElem? (i := 10) rfl))
theorem q_dr_46 {P : List Nat} {lf : UInt32 → Int32} {L n m : Nat} {σ : fl_S} (h : We P lf L n m σ) (hp : iP 46 P = true) : sF σ (a_T L n m + 10) 46 = .null := by
  obtain ⟨σ0, h, hs⟩ := h
  exact (hs.2 _ _ hp).trans ((c_dr' h).2 46 (.null) (List.mem_of_getElem? (i := 11) rfl))
theorem q_dr_47 {P : List Nat} {lf : UInt32 → Int32} {L n m : Nat} {σ : fl_S} (h : We P lf L n m σ) (hp : iP 47 P = true) : sF σ (a_T L n m + 10) 47 = .null := by
  obtain ⟨σ0, h, hs⟩ := h
  exact (hs.2 _ _ hp).trans ((c_dr' h).2 47 (.null) (List.mem_of_getElem? (i := 12) rfl))
theorem q_dr_48 {P : List Nat} {lf : UInt32 → Int32} {L n m : Nat} {σ : fl_S} (h : We P lf L n m σ) (hp : iP 48 P = true) : sF σ (a_T L n m + 10) 48 = .int 0 := by
  obtain ⟨σ0, h, hs⟩ := h
  exact (hs.2 _ _ hp).trans ((c_dr' h).2 48 (i32 (0)) (List.mem_of_getElem? (i := 13) rfl))
theorem q_dr_49 {P : List Nat} {lf : UInt32 → Int32} {L n m : Nat} {σ : fl_S} (h : We P lf L n m σ) (hp : iP 49 P = true) : sF σ (a_T L n m + 10) 49 = .int 0 := by
  obtain ⟨σ0, h, hs⟩ := h
  exact (hs.2 _ _ hp).trans ((c_dr' h).2 49 (i32 (0)) (List.mem_of_getElem? (i := 14) rfl))
theorem q_dr_50 {P : List Nat} {lf : UInt32 → Int32} {L n m : Nat} {σ : fl_S} (h : We P lf L n m σ) (hp : iP 50 P = true) : sF σ (a_T L n m + 10) 50 = .null := by
  obtain ⟨σ0, h, hs⟩ := h
  exact (hs.2 _ _ hp).trans ((c_dr' h).2 50 (.null) (List.mem_of_getElem? (i := 15) rfl))
theorem c_orr' {lf : UInt32 → Int32} {L n m : Nat} {σ : fl_S} (h : Wd lf L n m σ) : Wc lf σ (a_T L n m + 11) 5 (w_orr L n m) := h.2.2.2.2.2.2.2.2.2.2.2.2.2.2.2.2.2.2.2.2.2.2.1
theorem c_orr {P : List Nat} {lf : UInt32 → Int32} {L n m : Nat} {σ : fl_S} (h : We P lf L n m σ) : sC σ 5 (a_T L n m + 11) = true := by
  obtain ⟨σ0, h, hs⟩ := h
  exact hs.1 _ _ (c_orr' h).1
theorem q_orr_160 {P : List Nat} {lf : UInt32 → Int32} {L n m : Nat} {σ : fl_S} (h : We P lf L n m σ) (hp : iP 160 P = true) : sF σ (a_T L n m + 11) 160 = .int 315 := by
  obtain ⟨σ0, h, hs⟩ := h
  exact (hs.2 _ _ hp).trans ((c_orr' h).2 160 (i32 (315)) (List.mem_of_getElem? (i := 0) rfl))
theorem q_orr_161 {P : List Nat} {lf : UInt32 → Int32} {L n m : Nat} {σ : fl_S} (h : We P lf L n m σ) (hp : iP 161 P = true) : sF σ (a_T L n m + 11) 161 = .int (Int32.ofNat (2 * L + 1)) := by
  obtain ⟨σ0, h, hs⟩ := h
  exact (hs.2 _ _ hp).trans ((c_orr' h).2 161 (i32 (2 * L + 1)) (List.mem_of_getElem? (i := 1) rfl))
theorem q_orr_162 {P : List Nat} {lf : UInt32 → Int32} {L n m : Nat} {σ : fl_S} (h : We P lf L n m σ) (hp : iP 162 P = true) : sF σ (a_T L n m + 11) 162 = .int (-1) := by
  obtain ⟨σ0, h, hs⟩ := h
  exact (hs.2 _ _ hp).trans ((c_orr' h).2 162 (.int (-1)) (List.mem_of_getElem? (i := 2) rfl))
theorem q_orr_164 {P : List Nat} {lf : UInt32 → Int32} {L n m : Nat} {σ : fl_S} (h : We P lf L n m σ) (hp : iP 164 P = true) : sF σ (a_T L n m + 11) 164 = .null := by
  obtain ⟨σ0, h, hs⟩ := h
  exact (hs.2 _ _ hp).trans ((c_orr' h).2 164 (.null) (List.mem_of_getElem? (i := 3) rfl))
theorem q_orr_165 {P : List Nat} {lf : UInt32 → Int32} {L n m : Nat} {σ : fl_S} (h : We P lf L n m σ) (hp : iP 165 P = true) : sF σ (a_T L n m + 11) 165 = .null := by
  obtain ⟨σ0, h, hs⟩ := h
  exact (hs.2 _ _ hp).trans ((c_orr' h).2 165 (.null) (List.mem_of_getElem? (i := 4) rfl))
theorem q_orr_166 {P : List Nat} {lf : UInt32 → Int32} {L n m : Nat} {σ : fl_S} (h : We P lf L n m σ) (hp : iP 166 P = true) : sF σ (a_T L n m + 11) 166 = .null := by
  obtain ⟨σ0, h, hs⟩ := h
  exact (hs.2 _ _ hp).trans ((c_orr' h).2 166 (.null) (List.mem_of_getElem? (i := 5) rfl))
theorem q_orr_167 {P : List Nat} {lf : UInt32 → Int32} {L n m : Nat} {σ : fl_S} (h : We P lf L n m σ) (hp : iP 167 P = true) : sF σ (a_T L n m + 11) 167 = .null := by
  obtain ⟨σ0, h, hs⟩ := h
  exact (hs.2 _ _ hp).trans ((c_orr' h).2 167 (.null) (List.mem_of_getElem? (i := 6) rfl))
theorem c_vn' {lf : UInt32 → Int32} {L n m : Nat} {σ : fl_S} (h : Wd lf L n m σ) : Wc lf σ (a_T L n m + 12) 4 (w_vn L n m) := h.2.2.2.2.2.2.2.2.2.2.2.2.2.2.2.2.2.2.2.2.2.2.2.1
theorem c_vn {P : List Nat} {lf : UInt32 → Int32} {L n m : Nat} {σ : fl_S} (h : We P lf L n m σ) : sC σ 4 (a_T L n m + 12) = true := by
  obtain ⟨σ0, h, hs⟩ := h
  exact hs.1 _ _ (c_vn' h).1
theorem q_vn_128 {P : List Nat} {lf : UInt32 → Int32} {L n m : Nat} {σ : fl_S} (h : We P lf L n m σ) (hp : iP 128 P = true) : sF σ (a_T L n m + 12) 128 = .int 13 := by
  obtain ⟨σ0, h, hs⟩ := h
  exact (hs.2 _ _ hp).trans ((c_vn' h).2 128 (i32 (13)) (List.mem_of_getElem? (i := 0) rfl))
theorem q_vn_129 {P : List Nat} {lf : UInt32 → Int32} {L n m : Nat} {σ : fl_S} (h : We P lf L n m σ) (hp : iP 129 P = true) : sF σ (a_T L n m + 12) 129 = .int (Int32.ofNat (x_T L n m + 1)) := by
  obtain ⟨σ0, h, hs⟩ := h
  exact (hs.2 _ _ hp).trans ((c_vn' h).2 129 (i32 (x_T L n m + 1)) (List.mem_of_getElem? (i := 1) rfl))
theorem q_vn_131 {P : List Nat} {lf : UInt32 → Int32} {L n m : Nat} {σ : fl_S} (h : We P lf L n m σ) (hp : iP 131 P = true) : sF σ (a_T L n m + 12) 131 = .ref (a_T L n m + 9) := by
  obtain ⟨σ0, h, hs⟩ := h
  exact (hs.2 _ _ hp).trans ((c_vn' h).2 131 (.ref (a_T L n m + 9)) (List.mem_of_getElem? (i := 2) rfl))
theorem q_vn_132 {P : List Nat} {lf : UInt32 → Int32} {L n m : Nat} {σ : fl_S} (h : We P lf L n m σ) (hp : iP 132 P = true) : sF σ (a_T L n m + 12) 132 = .int 0 := by
  obtain ⟨σ0, h, hs⟩ := h
  exact (hs.2 _ _ hp).trans ((c_vn' h).2 132 (i32 (0)) (List.mem_of_getElem? (i := 3) rfl))
theorem q_vn_133 {P : List Nat} {lf : UInt32 → Int32} {L n m : Nat} {σ : fl_S} (h : We P lf L n m σ) (hp : iP 133 P = true) : sF σ (a_T L n m + 12) 133 = .int 0 := by
  obtain ⟨σ0, h, hs⟩ := h
  exact (hs.2 _ _ hp).trans ((c_vn' h).2 133 (i32 0) (List.mem_of_getElem? (i := 4) rfl))
theorem q_vn_134 {P : List Nat} {lf : UInt32 → Int32} {L n m : Nat} {σ : fl_S} (h : We P lf L n m σ) (hp : iP 134 P = true) : sF σ (a_T L n m + 12) 134 = .null := by
  obtain ⟨σ0, h, hs⟩ := h
  exact (hs.2 _ _ hp).trans ((c_vn' h).2 134 (.null) (List.mem_of_getElem? (i := 5) rfl))
theorem q_vn_135 {P : List Nat} {lf : UInt32 → Int32} {L n m : Nat} {σ : fl_S} (h : We P lf L n m σ) (hp : iP 135 P = true) : sF σ (a_T L n m + 12) 135 = .null := by
  obtain ⟨σ0, h, hs⟩ := h
  exact (hs.2 _ _ hp).trans ((c_vn' h).2 135 (.null) (List.mem_of_getElem? (i := 6) rfl))
theorem q_vn_136 {P : List Nat} {lf : UInt32 → Int32} {L n m : Nat} {σ : fl_S} (h : We P lf L n m σ) (hp : iP 136 P = true) : sF σ (a_T L n m + 12) 136 = .null := by
  obtain ⟨σ0, h, hs⟩ := h
  exact (hs.2 _ _ hp).trans ((c_vn' h).2 136 (.null) (List.mem_of_getElem? (i := 7) rfl))
theorem q_vn_137 {P : List Nat} {lf : UInt32 → Int32} {L n m : Nat} {σ : fl_S} (h : We P lf L n m σ) (hp : iP 137 P = true) : sF σ (a_T L n m + 12) 137 = .ref (a_T L n m + 13) := by
  obtain ⟨σ0, h, hs⟩ := h
  exact (hs.2 _ _ hp).trans ((c_vn' h).2 137 (.ref (a_T L n m + 13)) (List.mem_of_getElem? (i := 8) rfl))
theorem q_vn_138 {P : List Nat} {lf : UInt32 → Int32} {L n m : Nat} {σ : fl_S} (h : We P lf L n m σ) (hp : iP 138 P = true) : sF σ (a_T L n m + 12) 138 = .null := by
  obtain ⟨σ0, h, hs⟩ := h
  exact (hs.2 _ _ hp).trans ((c_vn' h).2 138 (.null) (List.mem_of_getElem? (i := 9) rfl))
theorem q_vn_139 {P : List Nat} {lf : UInt32 → Int32} {L n m : Nat} {σ : fl_S} (h : We P lf L n m σ) (hp : iP 139 P = true) : sF σ (a_T L n m + 12) 139 = .null := by
  obtain ⟨σ0, h, hs⟩ := h
  exact (hs.2 _ _ hp).trans ((c_vn' h).2 139 (.null) (List.mem_of_getElem? (i := 10) rfl))
theorem q_vn_140 {P : List Nat} {lf : UInt32 → Int32} {L n m : Nat} {σ : fl_S} (h : We P lf L n m σ) (hp : iP 140 P = true) : sF σ (a_T L n m + 12) 140 = .null := by
  obtain ⟨σ0, h, hs⟩ := h
  exact (hs.2 _ _ hp).trans ((c_vn' h).2 140 (.null) (List.mem_of_getElem? (i := 11) rfl))
theorem q_vn_141 {P : List Nat} {lf : UInt32 → Int32} {L n m : Nat} {σ : fl_S} (h : We P lf L n m σ) (hp : iP 141 P = true) : sF σ (a_T L n m + 12) 141 = .null := by
  obtain ⟨σ0, h, hs⟩ := h
  exact (hs.2 _ _ hp).trans ((c_vn' h).2 141 (.null) (List.mem_of_getElem? (i := 12) rfl))
theorem q_vn_142 {P : List Nat} {lf : UInt32 → Int32} {L n m : Nat} {σ : fl_S} (h : We P lf L n m σ) (hp : iP 142 P = true) : sF σ (a_T L n m + 12) 142 = .int 0 := by
  obtain ⟨σ0, h, hs⟩ := h
  exact (hs.2 _ _ hp).trans ((c_vn' h).2 142 (i32 (0)) (List.mem_of_getElem? (i := 13) rfl))
theorem q_vn_143 {P : List Nat} {lf : UInt32 → Int32} {L n m : Nat} {σ : fl_S} (h : We P lf L n m σ) (hp : iP 143 P = true) : sF σ (a_T L n m + 12) 143 = .int (-1) := by
  obtain ⟨σ0, h, hs⟩ := h
  exact (hs.2 _ _ hp).trans ((c_vn' h).2 143 (.int (-1)) (List.mem_of_getElem? (i := 14) rfl))
theorem q_vn_144 {P : List Nat} {lf : UInt32 → Int32} {L n m : Nat} {σ : fl_S} (h : We P lf L n m σ) (hp : iP 144 P = true) : sF σ (a_T L n m + 12) 144 = .null := by
  obtain ⟨σ0, h, hs⟩ := h
  exact (hs.2 _ _ hp).trans ((c_vn' h).2 144 (.null) (List.mem_of_getElem? (i := 15) rfl))
theorem q_vn_145 {P : List Nat} {lf : UInt32 → Int32} {L n m : Nat} {σ : fl_S} (h : We P lf L n m σ) (hp : iP 145 P = true) : sF σ (a_T L n m + 12) 145 = .int 0 := by
  obtain ⟨σ0, h, hs⟩ := h
  exact (hs.2 _ _ hp).trans ((c_vn' h).2 145 (i32 (0)) (List.mem_of_getElem? (i := 16) rfl))
theorem q_vn_146 {P : List Nat} {lf : UInt32 → Int32} {L n m : Nat} {σ : fl_S} (h : We P lf L n m σ) (hp : iP 146 P = true) : sF σ (a_T L n m + 12) 146 = .ref (a_T L n m + 14) := by
  obtain ⟨σ0, h, hs⟩ := h
  exact (hs.2 _ _ hp).trans ((c_vn' h).2 146 (.ref (a_T L n m + 14)) (List.mem_of_getElem? (i := 17) rfl))
theorem q_vn_147 {P : List Nat} {lf : UInt32 → Int32} {L n m : Nat} {σ : fl_S} (h : We P lf L n m σ) (hp : iP 147 P = true) : sF σ (a_T L n m + 12) 147 = .null := by
  obtain ⟨σ0, h, hs⟩ := h
  exact (hs.2 _ _ hp).trans ((c_vn' h).2 147 (.null) (List.mem_of_getElem? (i := 18) rfl))
theorem c_vo' {lf : UInt32 → Int32} {L n m : Nat} {σ : fl_S} (h : Wd lf L n m σ) : Wc lf σ (a_T L n m + 13) 5 (w_vo L n m) := h.2.2.2.2.2.2.2.2.2.2.2.2.2.2.2.2.2.2.2.2.2.2.2.2.1
theorem c_vo {P : List Nat} {lf : UInt32 → Int32} {L n m : Nat} {σ : fl_S} (h : We P lf L n m σ) : sC σ 5 (a_T L n m + 13) = true := by
  obtain ⟨σ0, h, hs⟩ := h
  exact hs.1 _ _ (c_vo' h).1
theorem q_vo_160 {P : List Nat} {lf : UInt32 → Int32} {L n m : Nat} {σ : fl_S} (h : We P lf L n m σ) (hp : iP 160 P = true) : sF σ (a_T L n m + 13) 160 = .int 315 := by
  obtain ⟨σ0, h, hs⟩ := h
  exact (hs.2 _ _ hp).trans ((c_vo' h).2 160 (i32 (315)) (List.mem_of_getElem? (i := 0) rfl))
theorem q_vo_161 {P : List Nat} {lf : UInt32 → Int32} {L n m : Nat} {σ : fl_S} (h : We P lf L n m σ) (hp : iP 161 P = true) : sF σ (a_T L n m + 13) 161 = .int (lf (UInt32.ofNat 1010)) := by
  obtain ⟨σ0, h, hs⟩ := h
  exact (hs.2 _ _ hp).trans ((c_vo' h).2 161 (iv 1010) (List.mem_of_getElem? (i := 1) rfl))
theorem q_vo_162 {P : List Nat} {lf : UInt32 → Int32} {L n m : Nat} {σ : fl_S} (h : We P lf L n m σ) (hp : iP 162 P = true) : sF σ (a_T L n m + 13) 162 = .int (-1) := by
  obtain ⟨σ0, h, hs⟩ := h
  exact (hs.2 _ _ hp).trans ((c_vo' h).2 162 (.int (-1)) (List.mem_of_getElem? (i := 2) rfl))
theorem q_vo_164 {P : List Nat} {lf : UInt32 → Int32} {L n m : Nat} {σ : fl_S} (h : We P lf L n m σ) (hp : iP 164 P = true) : sF σ (a_T L n m + 13) 164 = .null := by
  obtain ⟨σ0, h, hs⟩ := h
  exact (hs.2 _ _ hp).trans ((c_vo' h).2 164 (.null) (List.mem_of_getElem? (i := 3) rfl))
theorem q_vo_165 {P : List Nat} {lf : UInt32 → Int32} {L n m : Nat} {σ : fl_S} (h : We P lf L n m σ) (hp : iP 165 P = true) : sF σ (a_T L n m + 13) 165 = .null := by
  obtain ⟨σ0, h, hs⟩ := h
  exact (hs.2 _ _ hp).trans ((c_vo' h).2 165 (.null) (List.mem_of_getElem? (i := 4) rfl))
theorem q_vo_166 {P : List Nat} {lf : UInt32 → Int32} {L n m : Nat} {σ : fl_S} (h : We P lf L n m σ) (hp : iP 166 P = true) : sF σ (a_T L n m + 13) 166 = .null := by
  obtain ⟨σ0, h, hs⟩ := h
  exact (hs.2 _ _ hp).trans ((c_vo' h).2 166 (.null) (List.mem_of_getElem? (i := 5) rfl))
theorem q_vo_167 {P : List Nat} {lf : UInt32 → Int32} {L n m : Nat} {σ : fl_S} (h : We P lf L n m σ) (hp : iP 167 P = true) : sF σ (a_T L n m + 13) 167 = .null := by
  obtain ⟨σ0, h, hs⟩ := h
  exact (hs.2 _ _ hp).trans ((c_vo' h).2 167 (.null) (List.mem_of_getElem? (i := 6) rfl))
theorem c_vl' {lf : UInt32 → Int32} {L n m : Nat} {σ : fl_S} (h : Wd lf L n m σ) : Wc lf σ (a_T L n m + 14) 4 (w_vl L n m) := h.2.2.2.2.2.2.2.2.2.2.2.2.2.2.2.2.2.2.2.2.2.2.2.2.2.1
theorem c_vl {P : List Nat} {lf : UInt32 → Int32} {L n m : Nat} {σ : fl_S} (h : We P lf L n m σ) : sC σ 4 (a_T L n m + 14) = true := by
  obtain ⟨σ0, h, hs⟩ := h
  exact hs.1 _ _ (c_vl' h).1
theorem q_vl_128 {P : List Nat} {lf : UInt32 → Int32} {L n m : Nat} {σ : fl_S} (h : We P lf L n m σ) (hp : iP 128 P = true) : sF σ (a_T L n m + 14) 128 = .int 11 := by
  obtain ⟨σ0, h, hs⟩ := h
  exact (hs.2 _ _ hp).trans ((c_vl' h).2 128 (i32 (11)) (List.mem_of_getElem? (i := 0) rfl))
theorem q_vl_129 {P : List Nat} {lf : UInt32 → Int32} {L n m : Nat} {σ : fl_S} (h : We P lf L n m σ) (hp : iP 129 P = true) : sF σ (a_T L n m + 14) 129 = .int (Int32.ofNat (x_T L n m + 2)) := by
  obtain ⟨σ0, h, hs⟩ := h
  exact (hs.2 _ _ hp).trans ((c_vl' h).2 129 (i32 (x_T L n m + 2)) (List.mem_of_getElem? (i := 1) rfl))
theorem q_vl_131 {P : List Nat} {lf : UInt32 → Int32} {L n m : Nat} {σ : fl_S} (h : We P lf L n m σ) (hp : iP 131 P = true) : sF σ (a_T L n m + 14) 131 = .ref (a_T L n m + 9) := by
  obtain ⟨σ0, h, hs⟩ := h
  exact (hs.2 _ _ hp).trans ((c_vl' h).2 131 (.ref (a_T L n m + 9)) (List.mem_of_getElem? (i := 2) rfl))
theorem q_vl_132 {P : List Nat} {lf : UInt32 → Int32} {L n m : Nat} {σ : fl_S} (h : We P lf L n m σ) (hp : iP 132 P = true) : sF σ (a_T L n m + 14) 132 = .int 0 := by
  obtain ⟨σ0, h, hs⟩ := h
  exact (hs.2 _ _ hp).trans ((c_vl' h).2 132 (i32 (0)) (List.mem_of_getElem? (i := 3) rfl))
theorem q_vl_133 {P : List Nat} {lf : UInt32 → Int32} {L n m : Nat} {σ : fl_S} (h : We P lf L n m σ) (hp : iP 133 P = true) : sF σ (a_T L n m + 14) 133 = .int 0 := by
  obtain ⟨σ0, h, hs⟩ := h
  exact (hs.2 _ _ hp).trans ((c_vl' h).2 133 (i32 0) (List.mem_of_getElem? (i := 4) rfl))
theorem q_vl_134 {P : List Nat} {lf : UInt32 → Int32} {L n m : Nat} {σ : fl_S} (h : We P lf L n m σ) (hp : iP 134 P = true) : sF σ (a_T L n m + 14) 134 = .ref (a_T L n m + 12) := by
  obtain ⟨σ0, h, hs⟩ := h
  exact (hs.2 _ _ hp).trans ((c_vl' h).2 134 (.ref (a_T L n m + 12)) (List.mem_of_getElem? (i := 5) rfl))
theorem q_vl_135 {P : List Nat} {lf : UInt32 → Int32} {L n m : Nat} {σ : fl_S} (h : We P lf L n m σ) (hp : iP 135 P = true) : sF σ (a_T L n m + 14) 135 = .ref (a_T L n m + 15) := by
  obtain ⟨σ0, h, hs⟩ := h
  exact (hs.2 _ _ hp).trans ((c_vl' h).2 135 (.ref (a_T L n m + 15)) (List.mem_of_getElem? (i := 6) rfl))
theorem q_vl_136 {P : List Nat} {lf : UInt32 → Int32} {L n m : Nat} {σ : fl_S} (h : We P lf L n m σ) (hp : iP 136 P = true) : sF σ (a_T L n m + 14) 136 = .null := by
  obtain ⟨σ0, h, hs⟩ := h
  exact (hs.2 _ _ hp).trans ((c_vl' h).2 136 (.null) (List.mem_of_getElem? (i := 7) rfl))
theorem q_vl_137 {P : List Nat} {lf : UInt32 → Int32} {L n m : Nat} {σ : fl_S} (h : We P lf L n m σ) (hp : iP 137 P = true) : sF σ (a_T L n m + 14) 137 = .null := by
  obtain ⟨σ0, h, hs⟩ := h
  exact (hs.2 _ _ hp).trans ((c_vl' h).2 137 (.null) (List.mem_of_getElem? (i := 8) rfl))
theorem q_vl_138 {P : List Nat} {lf : UInt32 → Int32} {L n m : Nat} {σ : fl_S} (h : We P lf L n m σ) (hp : iP 138 P = true) : sF σ (a_T L n m + 14) 138 = .ref (a_T L n m + 10) := by
  obtain ⟨σ0, h, hs⟩ := h
  exact (hs.2 _ _ hp).trans ((c_vl' h).2 138 (.ref (a_T L n m + 10)) (List.mem_of_getElem? (i := 9) rfl))
theorem q_vl_139 {P : List Nat} {lf : UInt32 → Int32} {L n m : Nat} {σ : fl_S} (h : We P lf L n m σ) (hp : iP 139 P = true) : sF σ (a_T L n m + 14) 139 = .null := by
  obtain ⟨σ0, h, hs⟩ := h
  exact (hs.2 _ _ hp).trans ((c_vl' h).2 139 (.null) (List.mem_of_getElem? (i := 10) rfl))
theorem q_vl_140 {P : List Nat} {lf : UInt32 → Int32} {L n m : Nat} {σ : fl_S} (h : We P lf L n m σ) (hp : iP 140 P = true) : sF σ (a_T L n m + 14) 140 = .null := by
  obtain ⟨σ0, h, hs⟩ := h
  exact (hs.2 _ _ hp).trans ((c_vl' h).2 140 (.null) (List.mem_of_getElem? (i := 11) rfl))
theorem q_vl_141 {P : List Nat} {lf : UInt32 → Int32} {L n m : Nat} {σ : fl_S} (h : We P lf L n m σ) (hp : iP 141 P = true) : sF σ (a_T L n m + 14) 141 = .null := by
  obtain ⟨σ0, h, hs⟩ := h
  exact (hs.2 _ _ hp).trans ((c_vl' h).2 141 (.null) (List.mem_of_getElem? (i := 12) rfl))
theorem q_vl_142 {P : List Nat} {lf : UInt32 → Int32} {L n m : Nat} {σ : fl_S} (h : We P lf L n m σ) (hp : iP 142 P = true) : sF σ (a_T L n m + 14) 142 = .int 0 := by
  obtain ⟨σ0, h, hs⟩ := h
  exact (hs.2 _ _ hp).trans ((c_vl' h).2 142 (i32 (0)) (List.mem_of_getElem? (i := 13) rfl))
theorem q_vl_143 {P : List Nat} {lf : UInt32 → Int32} {L n m : Nat} {σ : fl_S} (h : We P lf L n m σ) (hp : iP 143 P = true) : sF σ (a_T L n m + 14) 143 = .int (-1) := by
  obtain ⟨σ0, h, hs⟩ := h
  exact (hs.2 _ _ hp).trans ((c_vl' h).2 143 (.int (-1)) (List.mem_of_getElem? (i := 14) rfl))
theorem q_vl_144 {P : List Nat} {lf : UInt32 → Int32} {L n m : Nat} {σ : fl_S} (h : We P lf L n m σ) (hp : iP 144 P = true) : sF σ (a_T L n m + 14) 144 = .null := by
  obtain ⟨σ0, h, hs⟩ := h
  exact (hs.2 _ _ hp).trans ((c_vl' h).2 144 (.null) (List.mem_of_getElem? (i := 15) rfl))
theorem q_vl_145 {P : List Nat} {lf : UInt32 → Int32} {L n m : Nat} {σ : fl_S} (h : We P lf L n m σ) (hp : iP 145 P = true) : sF σ (a_T L n m + 14) 145 = .int 0 := by
  obtain ⟨σ0, h, hs⟩ := h
  exact (hs.2 _ _ hp).trans ((c_vl' h).2 145 (i32 (0)) (List.mem_of_getElem? (i := 16) rfl))
theorem q_vl_146 {P : List Nat} {lf : UInt32 → Int32} {L n m : Nat} {σ : fl_S} (h : We P lf L n m σ) (hp : iP 146 P = true) : sF σ (a_T L n m + 14) 146 = .null := by
  obtain ⟨σ0, h, hs⟩ := h
  exact (hs.2 _ _ hp).trans ((c_vl' h).2 146 (.null) (List.mem_of_getElem? (i := 17) rfl))
theorem q_vl_147 {P : List Nat} {lf : UInt32 → Int32} {L n m : Nat} {σ : fl_S} (h : We P lf L n m σ) (hp : iP 147 P = true) : sF σ (a_T L n m + 14) 147 = .null := by
  obtain ⟨σ0, h, hs⟩ := h
  exact (hs.2 _ _ hp).trans ((c_vl' h).2 147 (.null) (List.mem_of_getElem? (i := 18) rfl))
theorem c_fz' {lf : UInt32 → Int32} {L n m : Nat} {σ : fl_S} (h : Wd lf L n m σ) : Wc lf σ (a_T L n m + 15) 1 (w_fz L n m) := h.2.2.2.2.2.2.2.2.2.2.2.2.2.2.2.2.2.2.2.2.2.2.2.2.2.2.1
theorem c_fz {P : List Nat} {lf : UInt32 → Int32} {L n m : Nat} {σ : fl_S} (h : We P lf L n m σ) : sC σ 1 (a_T L n m + 15) = true := by
  obtain ⟨σ0, h, hs⟩ := h
  exact hs.1 _ _ (c_fz' h).1
theorem q_fz_32 {P : List Nat} {lf : UInt32 → Int32} {L n m : Nat} {σ : fl_S} (h : We P lf L n m σ) (hp : iP 32 P = true) : sF σ (a_T L n m + 15) 32 = .int 10 := by
  obtain ⟨σ0, h, hs⟩ := h
  exact (hs.2 _ _ hp).trans ((c_fz' h).2 32 (i32 (10)) (List.mem_of_getElem? (i := 0) rfl))
theorem q_fz_33 {P : List Nat} {lf : UInt32 → Int32} {L n m : Nat} {σ : fl_S} (h : We P lf L n m σ) (hp : iP 33 P = true) : sF σ (a_T L n m + 15) 33 = .int (Int32.ofNat (n_T L n m + 2)) := by
  obtain ⟨σ0, h, hs⟩ := h
  exact (hs.2 _ _ hp).trans ((c_fz' h).2 33 (i32 (n_T L n m + 2)) (List.mem_of_getElem? (i := 1) rfl))
theorem q_fz_36 {P : List Nat} {lf : UInt32 → Int32} {L n m : Nat} {σ : fl_S} (h : We P lf L n m σ) (hp : iP 36 P = true) : sF σ (a_T L n m + 15) 36 = .ref (a_T L n m + 9) := by
  obtain ⟨σ0, h, hs⟩ := h
  exact (hs.2 _ _ hp).trans ((c_fz' h).2 36 (.ref (a_T L n m + 9)) (List.mem_of_getElem? (i := 2) rfl))
theorem q_fz_37 {P : List Nat} {lf : UInt32 → Int32} {L n m : Nat} {σ : fl_S} (h : We P lf L n m σ) (hp : iP 37 P = true) : sF σ (a_T L n m + 15) 37 = .null := by
  obtain ⟨σ0, h, hs⟩ := h
  exact (hs.2 _ _ hp).trans ((c_fz' h).2 37 (.null) (List.mem_of_getElem? (i := 3) rfl))
theorem q_fz_38 {P : List Nat} {lf : UInt32 → Int32} {L n m : Nat} {σ : fl_S} (h : We P lf L n m σ) (hp : iP 38 P = true) : sF σ (a_T L n m + 15) 38 = .ref 25 := by
  obtain ⟨σ0, h, hs⟩ := h
  exact (hs.2 _ _ hp).trans ((c_fz' h).2 38 (.ref 25) (List.mem_of_getElem? (i := 4) rfl))
theorem q_fz_39 {P : List Nat} {lf : UInt32 → Int32} {L n m : Nat} {σ : fl_S} (h : We P lf L n m σ) (hp : iP 39 P = true) : sF σ (a_T L n m + 15) 39 = .null := by
  obtain ⟨σ0, h, hs⟩ := h
  exact (hs.2 _ _ hp).trans ((c_fz' h).2 39 (.null) (List.mem_of_getElem? (i := 5) rfl))
theorem q_fz_40 {P : List Nat} {lf : UInt32 → Int32} {L n m : Nat} {σ : fl_S} (h : We P lf L n m σ) (hp : iP 40 P = true) : sF σ (a_T L n m + 15) 40 = .null := by
  obtain ⟨σ0, h, hs⟩ := h
  exact (hs.2 _ _ hp).trans ((c_fz' h).2 40 (.null) (List.mem_of_getElem? (i := 6) rfl))
theorem q_fz_41 {P : List Nat} {lf : UInt32 → Int32} {L n m : Nat} {σ : fl_S} (h : We P lf L n m σ) (hp : iP 41 P = true) : sF σ (a_T L n m + 15) 41 = .int 0 := by
  obtain ⟨σ0, h, hs⟩ := h
  exact (hs.2 _ _ hp).trans ((c_fz' h).2 41 (i32 0) (List.mem_of_getElem? (i := 7) rfl))
theorem q_fz_42 {P : List Nat} {lf : UInt32 → Int32} {L n m : Nat} {σ : fl_S} (h : We P lf L n m σ) (hp : iP 42 P = true) : sF σ (a_T L n m + 15) 42 = .int 0 := by
  obtain ⟨σ0, h, hs⟩ := h
  exact (hs.2 _ _ hp).trans ((c_fz' h).2 42 (i32 (0)) (List.mem_of_getElem? (i := 8) rfl))
theorem q_fz_43 {P : List Nat} {lf : UInt32 → Int32} {L n m : Nat} {σ : fl_S} (h : We P lf L n m σ) (hp : iP 43 P = true) : sF σ (a_T L n m + 15) 43 = .null := by
  obtain ⟨σ0, h, hs⟩ := h
  exact (hs.2 _ _ hp).trans ((c_fz' h).2 43 (.null) (List.mem_of_getElem? (i := 9) rfl))
theorem q_fz_44 {P : List Nat} {lf : UInt32 → Int32} {L n m : Nat} {σ : fl_S} (h : We P lf L n m σ) (hp : iP 44 P = true) : sF σ (a_T L n m + 15) 44 = .null := by
  obtain ⟨σ0, h, hs⟩ := h
  exact (hs.2 _ _ hp).trans ((c_fz' h).2 44 (.null) (List.mem_of_getElem? (i := 10) rfl))
theorem q_fz_46 {P : List Nat} {lf : UInt32 → Int32} {L n m : Nat} {σ : fl_S} (h : We P lf L n m σ) (hp : iP 46 P = true) : sF σ (a_T L n m + 15) 46 = .null := by
  obtain ⟨σ0, h, hs⟩ := h
  exact (hs.2 _ _ hp).trans ((c_fz' h).2 46 (.null) (List.mem_of_getElem? (i := 11) rfl))
theorem q_fz_47 {P : List Nat} {lf : UInt32 → Int32} {L n m : Nat} {σ : fl_S} (h : We P lf L n m σ) (hp : iP 47 P = true) : sF σ (a_T L n m + 15) 47 = .null := by
  obtain ⟨σ0, h, hs⟩ := h
  exact (hs.2 _ _ hp).trans ((c_fz' h).2 47 (.null) (List.mem_of_getElem? (i := 12) rfl))
theorem q_fz_48 {P : List Nat} {lf : UInt32 → Int32} {L n m : Nat} {σ : fl_S} (h : We P lf L n m σ) (hp : iP 48 P = true) : sF σ (a_T L n m + 15) 48 = .int 0 := by
  obtain ⟨σ0, h, hs⟩ := h
  exact (hs.2 _ _ hp).trans ((c_fz' h).2 48 (i32 (0)) (List.mem_of_getElem? (i := 13) rfl))
theorem q_fz_49 {P : List Nat} {lf : UInt32 → Int32} {L n m : Nat} {σ : fl_S} (h : We P lf L n m σ) (hp : iP 49 P = true) : sF σ (a_T L n m + 15) 49 = .int 0 := by
  obtain ⟨σ0, h, hs⟩ := h
  exact (hs.2 _ _ hp).trans ((c_fz' h).2 49 (i32 (0)) (List.mem_of_getElem? (i := 14) rfl))
theorem q_fz_50 {P : List Nat} {lf : UInt32 → Int32} {L n m : Nat} {σ : fl_S} (h : We P lf L n m σ) (hp : iP 50 P = true) : sF σ (a_T L n m + 15) 50 = .null := by
  obtain ⟨σ0, h, hs⟩ := h
  exact (hs.2 _ _ hp).trans ((c_fz' h).2 50 (.null) (List.mem_of_getElem? (i := 15) rfl))
theorem c_u4' {lf : UInt32 → Int32} {L n m : Nat} {σ : fl_S} (h : Wd lf L n m σ) : Wc lf σ (a_T L n m + 17) 1 (w_u4 L n m) := h.2.2.2.2.2.2.2.2.2.2.2.2.2.2.2.2.2.2.2.2.2.2.2.2.2.2.2.1
theorem c_u4 {P : List Nat} {lf : UInt32 → Int32} {L n m : Nat} {σ : fl_S} (h : We P lf L n m σ) : sC σ 1 (a_T L n m + 17) = true := by
  obtain ⟨σ0, h, hs⟩ := h
  exact hs.1 _ _ (c_u4' h).1
theorem q_u4_32 {P : List Nat} {lf : UInt32 → Int32} {L n m : Nat} {σ : fl_S} (h : We P lf L n m σ) (hp : iP 32 P = true) : sF σ (a_T L n m + 17) 32 = .int 1 := by
  obtain ⟨σ0, h, hs⟩ := h
  exact (hs.2 _ _ hp).trans ((c_u4' h).2 32 (i32 (1)) (List.mem_of_getElem? (i := 0) rfl))
theorem q_u4_33 {P : List Nat} {lf : UInt32 → Int32} {L n m : Nat} {σ : fl_S} (h : We P lf L n m σ) (hp : iP 33 P = true) : sF σ (a_T L n m + 17) 33 = .int (Int32.ofNat (n_T L n m + 3)) := by
  obtain ⟨σ0, h, hs⟩ := h
  exact (hs.2 _ _ hp).trans ((c_u4' h).2 33 (i32 (n_T L n m + 3)) (List.mem_of_getElem? (i := 1) rfl))
theorem q_u4_36 {P : List Nat} {lf : UInt32 → Int32} {L n m : Nat} {σ : fl_S} (h : We P lf L n m σ) (hp : iP 36 P = true) : sF σ (a_T L n m + 17) 36 = .ref (a_T L n m + 17) := by
  obtain ⟨σ0, h, hs⟩ := h
  exact (hs.2 _ _ hp).trans ((c_u4' h).2 36 (.ref (a_T L n m + 17)) (List.mem_of_getElem? (i := 2) rfl))
theorem q_u4_37 {P : List Nat} {lf : UInt32 → Int32} {L n m : Nat} {σ : fl_S} (h : We P lf L n m σ) (hp : iP 37 P = true) : sF σ (a_T L n m + 17) 37 = .null := by
  obtain ⟨σ0, h, hs⟩ := h
  exact (hs.2 _ _ hp).trans ((c_u4' h).2 37 (.null) (List.mem_of_getElem? (i := 3) rfl))
theorem q_u4_38 {P : List Nat} {lf : UInt32 → Int32} {L n m : Nat} {σ : fl_S} (h : We P lf L n m σ) (hp : iP 38 P = true) : sF σ (a_T L n m + 17) 38 = .null := by
  obtain ⟨σ0, h, hs⟩ := h
  exact (hs.2 _ _ hp).trans ((c_u4' h).2 38 (.null) (List.mem_of_getElem? (i := 4) rfl))
theorem q_u4_39 {P : List Nat} {lf : UInt32 → Int32} {L n m : Nat} {σ : fl_S} (h : We P lf L n m σ) (hp : iP 39 P = true) : sF σ (a_T L n m + 17) 39 = .null := by
  obtain ⟨σ0, h, hs⟩ := h
  exact (hs.2 _ _ hp).trans ((c_u4' h).2 39 (.null) (List.mem_of_getElem? (i := 5) rfl))
theorem q_u4_40 {P : List Nat} {lf : UInt32 → Int32} {L n m : Nat} {σ : fl_S} (h : We P lf L n m σ) (hp : iP 40 P = true) : sF σ (a_T L n m + 17) 40 = .null := by
  obtain ⟨σ0, h, hs⟩ := h
  exact (hs.2 _ _ hp).trans ((c_u4' h).2 40 (.null) (List.mem_of_getElem? (i := 6) rfl))
theorem q_u4_41 {P : List Nat} {lf : UInt32 → Int32} {L n m : Nat} {σ : fl_S} (h : We P lf L n m σ) (hp : iP 41 P = true) : sF σ (a_T L n m + 17) 41 = .int 4 := by
  obtain ⟨σ0, h, hs⟩ := h
  exact (hs.2 _ _ hp).trans ((c_u4' h).2 41 (i32 (4)) (List.mem_of_getElem? (i := 7) rfl))
theorem q_u4_42 {P : List Nat} {lf : UInt32 → Int32} {L n m : Nat} {σ : fl_S} (h : We P lf L n m σ) (hp : iP 42 P = true) : sF σ (a_T L n m + 17) 42 = .int 0 := by
  obtain ⟨σ0, h, hs⟩ := h
  exact (hs.2 _ _ hp).trans ((c_u4' h).2 42 (i32 (0)) (List.mem_of_getElem? (i := 8) rfl))
theorem q_u4_43 {P : List Nat} {lf : UInt32 → Int32} {L n m : Nat} {σ : fl_S} (h : We P lf L n m σ) (hp : iP 43 P = true) : sF σ (a_T L n m + 17) 43 = .ref (a_T L n m + 18) := by
  obtain ⟨σ0, h, hs⟩ := h
  exact (hs.2 _ _ hp).trans ((c_u4' h).2 43 (.ref (a_T L n m + 18)) (List.mem_of_getElem? (i := 9) rfl))
theorem q_u4_44 {P : List Nat} {lf : UInt32 → Int32} {L n m : Nat} {σ : fl_S} (h : We P lf L n m σ) (hp : iP 44 P = true) : sF σ (a_T L n m + 17) 44 = .ref (a_T L n m + 19) := by
  obtain ⟨σ0, h, hs⟩ := h
  exact (hs.2 _ _ hp).trans ((c_u4' h).2 44 (.ref (a_T L n m + 19)) (List.mem_of_getElem? (i := 10) rfl))
theorem q_u4_46 {P : List Nat} {lf : UInt32 → Int32} {L n m : Nat} {σ : fl_S} (h : We P lf L n m σ) (hp : iP 46 P = true) : sF σ (a_T L n m + 17) 46 = .null := by
  obtain ⟨σ0, h, hs⟩ := h
  exact (hs.2 _ _ hp).trans ((c_u4' h).2 46 (.null) (List.mem_of_getElem? (i := 11) rfl))
theorem q_u4_47 {P : List Nat} {lf : UInt32 → Int32} {L n m : Nat} {σ : fl_S} (h : We P lf L n m σ) (hp : iP 47 P = true) : sF σ (a_T L n m + 17) 47 = .null := by
  obtain ⟨σ0, h, hs⟩ := h
  exact (hs.2 _ _ hp).trans ((c_u4' h).2 47 (.null) (List.mem_of_getElem? (i := 12) rfl))
theorem q_u4_48 {P : List Nat} {lf : UInt32 → Int32} {L n m : Nat} {σ : fl_S} (h : We P lf L n m σ) (hp : iP 48 P = true) : sF σ (a_T L n m + 17) 48 = .int 0 := by
  obtain ⟨σ0, h, hs⟩ := h
  exact (hs.2 _ _ hp).trans ((c_u4' h).2 48 (i32 (0)) (List.mem_of_getElem? (i := 13) rfl))
theorem q_u4_49 {P : List Nat} {lf : UInt32 → Int32} {L n m : Nat} {σ : fl_S} (h : We P lf L n m σ) (hp : iP 49 P = true) : sF σ (a_T L n m + 17) 49 = .int 0 := by
  obtain ⟨σ0, h, hs⟩ := h
  exact (hs.2 _ _ hp).trans ((c_u4' h).2 49 (i32 (0)) (List.mem_of_getElem? (i := 14) rfl))
theorem q_u4_50 {P : List Nat} {lf : UInt32 → Int32} {L n m : Nat} {σ : fl_S} (h : We P lf L n m σ) (hp : iP 50 P = true) : sF σ (a_T L n m + 17) 50 = .null := by
  obtain ⟨σ0, h, hs⟩ := h
  exact (hs.2 _ _ hp).trans ((c_u4' h).2 50 (.null) (List.mem_of_getElem? (i := 15) rfl))
theorem c_im4' {lf : UInt32 → Int32} {L n m : Nat} {σ : fl_S} (h : Wd lf L n m σ) : Wc lf σ (a_T L n m + 18) 1 (w_im4 L n m) := h.2.2.2.2.2.2.2.2.2.2.2.2.2.2.2.2.2.2.2.2.2.2.2.2.2.2.2.2.1
theorem c_im4 {P : List Nat} {lf : UInt32 → Int32} {L n m : Nat} {σ : fl_S} (h : We P lf L n m σ) : sC σ 1 (a_T L n m + 18) = true := by
  obtain ⟨σ0, h, hs⟩ := h
  exact hs.1 _ _ (c_im4' h).1
theorem q_im4_32 {P : List Nat} {lf : UInt32 → Int32} {L n m : Nat} {σ : fl_S} (h : We P lf L n m σ) (hp : iP 32 P = true) : sF σ (a_T L n m + 18) 32 = .int 2 := by
  obtain ⟨σ0, h, hs⟩ := h
  exact (hs.2 _ _ hp).trans ((c_im4' h).2 32 (i32 (2)) (List.mem_of_getElem? (i := 0) rfl))
theorem q_im4_33 {P : List Nat} {lf : UInt32 → Int32} {L n m : Nat} {σ : fl_S} (h : We P lf L n m σ) (hp : iP 33 P = true) : sF σ (a_T L n m + 18) 33 = .int 0 := by
  obtain ⟨σ0, h, hs⟩ := h
  exact (hs.2 _ _ hp).trans ((c_im4' h).2 33 (i32 (0)) (List.mem_of_getElem? (i := 1) rfl))
theorem q_im4_36 {P : List Nat} {lf : UInt32 → Int32} {L n m : Nat} {σ : fl_S} (h : We P lf L n m σ) (hp : iP 36 P = true) : sF σ (a_T L n m + 18) 36 = .ref (a_T L n m + 17) := by
  obtain ⟨σ0, h, hs⟩ := h
  exact (hs.2 _ _ hp).trans ((c_im4' h).2 36 (.ref (a_T L n m + 17)) (List.mem_of_getElem? (i := 2) rfl))
theorem q_im4_37 {P : List Nat} {lf : UInt32 → Int32} {L n m : Nat} {σ : fl_S} (h : We P lf L n m σ) (hp : iP 37 P = true) : sF σ (a_T L n m + 18) 37 = .null := by
  obtain ⟨σ0, h, hs⟩ := h
  exact (hs.2 _ _ hp).trans ((c_im4' h).2 37 (.null) (List.mem_of_getElem? (i := 3) rfl))
theorem q_im4_38 {P : List Nat} {lf : UInt32 → Int32} {L n m : Nat} {σ : fl_S} (h : We P lf L n m σ) (hp : iP 38 P = true) : sF σ (a_T L n m + 18) 38 = .null := by
  obtain ⟨σ0, h, hs⟩ := h
  exact (hs.2 _ _ hp).trans ((c_im4' h).2 38 (.null) (List.mem_of_getElem? (i := 4) rfl))
theorem q_im4_39 {P : List Nat} {lf : UInt32 → Int32} {L n m : Nat} {σ : fl_S} (h : We P lf L n m σ) (hp : iP 39 P = true) : sF σ (a_T L n m + 18) 39 = .null := by
  obtain ⟨σ0, h, hs⟩ := h
  exact (hs.2 _ _ hp).trans ((c_im4' h).2 39 (.null) (List.mem_of_getElem? (i := 5) rfl))
theorem q_im4_40 {P : List Nat} {lf : UInt32 → Int32} {L n m : Nat} {σ : fl_S} (h : We P lf L n m σ) (hp : iP 40 P = true) : sF σ (a_T L n m + 18) 40 = .null := by
  obtain ⟨σ0, h, hs⟩ := h
  exact (hs.2 _ _ hp).trans ((c_im4' h).2 40 (.null) (List.mem_of_getElem? (i := 6) rfl))
theorem q_im4_41 {P : List Nat} {lf : UInt32 → Int32} {L n m : Nat} {σ : fl_S} (h : We P lf L n m σ) (hp : iP 41 P = true) : sF σ (a_T L n m + 18) 41 = .int 0 := by
  obtain ⟨σ0, h, hs⟩ := h
  exact (hs.2 _ _ hp).trans ((c_im4' h).2 41 (i32 0) (List.mem_of_getElem? (i := 7) rfl))
theorem q_im4_42 {P : List Nat} {lf : UInt32 → Int32} {L n m : Nat} {σ : fl_S} (h : We P lf L n m σ) (hp : iP 42 P = true) : sF σ (a_T L n m + 18) 42 = .int 0 := by
  obtain ⟨σ0, h, hs⟩ := h
  exact (hs.2 _ _ hp).trans ((c_im4' h).2 42 (i32 (0)) (List.mem_of_getElem? (i := 8) rfl))
theorem q_im4_43 {P : List Nat} {lf : UInt32 → Int32} {L n m : Nat} {σ : fl_S} (h : We P lf L n m σ) (hp : iP 43 P = true) : sF σ (a_T L n m + 18) 43 = .null := by
  obtain ⟨σ0, h, hs⟩ := h
  exact (hs.2 _ _ hp).trans ((c_im4' h).2 43 (.null) (List.mem_of_getElem? (i := 9) rfl))
theorem q_im4_44 {P : List Nat} {lf : UInt32 → Int32} {L n m : Nat} {σ : fl_S} (h : We P lf L n m σ) (hp : iP 44 P = true) : sF σ (a_T L n m + 18) 44 = .null := by
  obtain ⟨σ0, h, hs⟩ := h
  exact (hs.2 _ _ hp).trans ((c_im4' h).2 44 (.null) (List.mem_of_getElem? (i := 10) rfl))
theorem q_im4_46 {P : List Nat} {lf : UInt32 → Int32} {L n m : Nat} {σ : fl_S} (h : We P lf L n m σ) (hp : iP 46 P = true) : sF σ (a_T L n m + 18) 46 = .null := by
  obtain ⟨σ0, h, hs⟩ := h
  exact (hs.2 _ _ hp).trans ((c_im4' h).2 46 (.null) (List.mem_of_getElem? (i := 11) rfl))
theorem q_im4_47 {P : List Nat} {lf : UInt32 → Int32} {L n m : Nat} {σ : fl_S} (h : We P lf L n m σ) (hp : iP 47 P = true) : sF σ (a_T L n m + 18) 47 = .null := by
  obtain ⟨σ0, h, hs⟩ := h
  exact (hs.2 _ _ hp).trans ((c_im4' h).2 47 (.null) (List.mem_of_getElem? (i := 12) rfl))
theorem q_im4_48 {P : List Nat} {lf : UInt32 → Int32} {L n m : Nat} {σ : fl_S} (h : We P lf L n m σ) (hp : iP 48 P = true) : sF σ (a_T L n m + 18) 48 = .int 0 := by
  obtain ⟨σ0, h, hs⟩ := h
  exact (hs.2 _ _ hp).trans ((c_im4' h).2 48 (i32 (0)) (List.mem_of_getElem? (i := 13) rfl))
theorem q_im4_49 {P : List Nat} {lf : UInt32 → Int32} {L n m : Nat} {σ : fl_S} (h : We P lf L n m σ) (hp : iP 49 P = true) : sF σ (a_T L n m + 18) 49 = .int 0 := by
  obtain ⟨σ0, h, hs⟩ := h
  exact (hs.2 _ _ hp).trans ((c_im4' h).2 49 (i32 (0)) (List.mem_of_getElem? (i := 14) rfl))
theorem q_im4_50 {P : List Nat} {lf : UInt32 → Int32} {L n m : Nat} {σ : fl_S} (h : We P lf L n m σ) (hp : iP 50 P = true) : sF σ (a_T L n m + 18) 50 = .null := by
  obtain ⟨σ0, h, hs⟩ := h
  exact (hs.2 _ _ hp).trans ((c_im4' h).2 50 (.null) (List.mem_of_getElem? (i := 15) rfl))
