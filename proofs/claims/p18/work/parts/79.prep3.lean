/-! prepare -/
def S0 (L n m : Nat) (σ : fl_S) : Prop := (∀ a ∈ a_ns L n m, sF σ a 142 = .int 0) ∧ ∀ a ∈ a_ns L n m, sF σ a 143 = .int (-1)
theorem S0.sm {L n m : Nat} {P : List Nat} {σ τ : fl_S} (h : S0 L n m σ) (hs : Sm P σ τ) (h1 : iP 142 P = true) (h2 : iP 143 P = true) : S0 L n m τ := ⟨fun a ha => (hs.2 _ _ h1).trans (h.1 a ha), fun a ha => (hs.2 _ _ h2).trans (h.2 a ha)⟩
/-- the types prepared -/
def FIN (lf : UInt32 → Int32) (L n m sh hi mo : Nat) (bd : Nat → Nat) (ty : Nat) (σ : fl_S) : Prop := We P2 lf L n m σ ∧ NF L n m sh hi mo σ ∧ TY L n m ty σ ∧ UA L n m ty σ ∧ TA L n m ty σ ∧ PA ty σ ∧ UF L n m σ ∧ RF L n m sh hi mo σ ∧ OF L n m σ ∧ FF L n m hi σ ∧ SH L n m ty bd σ ∧ VF L sh hi mo ty σ ∧ CE L n m σ
section W79
variable {X : ev_X} {d : Nat} {lf : UInt32 → Int32} {L n m sh hi mo : Nat} {bd : Nat → Nat} {ty : Nat} {σ : fl_S}
theorem w_S0 (hL : 2 ≤ L) (h : We P1 lf L n m σ) : S0 L n m σ := by
  refine ⟨?_, ?_⟩
  · exact ns_all (p := fun a => sF σ a 142 = .int 0) hL (q_root_142 h rfl) (q_int_142 h rfl) (q_bool_142 h rfl) (fun k hk => q_lv_142 h rfl hk) (fun k hk h0 => q_nl_142 h rfl hk h0) (q_oN_142 h rfl) (q_on_142 h rfl) (fun r hr => q_rr_142 h rfl hr) (fun r hr => q_ra_142 h rfl hr) (fun r hr => q_rn_142 h rfl hr) (q_hn_142 h rfl) (q_vn_142 h rfl) (q_vl_142 h rfl)
  · exact ns_all (p := fun a => sF σ a 143 = .int (-1)) hL (q_root_143 h rfl) (q_int_143 h rfl) (q_bool_143 h rfl) (fun k hk => q_lv_143 h rfl hk) (fun k hk h0 => q_nl_143 h rfl hk h0) (q_oN_143 h rfl) (q_on_143 h rfl) (fun r hr => q_rr_143 h rfl hr) (fun r hr => q_ra_143 h rfl hr) (fun r hr => q_rn_143 h rfl hr) (q_hn_143 h rfl) (q_vn_143 h rfl) (q_vl_143 h rfl)
theorem w_prepare (hd : 8 ≤ d) (hD : Dr lf L n m sh hi mo bd) (h : We P1 lf L n m σ) (hN : NF L n m sh hi mo σ) (hT : TY L n m ty σ) (hU : UA L n m ty σ) (hTR : ∃ TR, sR σ (ty + 3) = some (2, L + (n + m) + 1, TR)) (hP : PA ty σ) (hF : UF L n m σ) (hz : sZ σ = ty + 6) (hz2 : ty + 12 ≤ 256) :
    CQ X d 74 [.ref ty] σ (fun v σ1 => v = none ∧ FIN lf L n m sh hi mo bd ty σ1 ∧ sZ σ1 = ty + 12 ∧ sc σ1 = sc σ + 6 ∧ ss σ1 ≤ ss σ + 1100) := by
  have hD0 := hD
  obtain ⟨hL, hn, hm, d1, d2, d3, -⟩ := hD0
  have h2 : We P2 lf L n m σ := h.sub rfl
  have hS := w_S0 hL.1 h
  have h47 : sF σ (a_do L) 47 = .null ∧ sF σ (a_T L n m + 2) 47 = .null ∧ sF σ (a_T L n m + 10) 47 = .null := ⟨q_do_47 h rfl, q_dh_47 h rfl, q_dr_47 h rfl⟩
  clear h
  refine f_meth (by omega) rfl ?_
  refine f_go (pc1 := 1) (lv1 := [(0, .ref ty)]) (st1 := [.ref ty]) 1 rfl ?_
  refine f_vtQ rfl rfl hT.1 rfl (w_number (by omega) hD h2 hT hU hTR hP hF) ?_
  rintro v σ1 ⟨rfl, s1, hU1, hA1, hP1, hF1, z1, c1, e1⟩
  have hT1 := hT.sm (s1.sub rfl)
  have hN1 := hN.sm s1 rfl rfl
  have hS1 := hS.sm s1 rfl rfl
  have g1 := h2.PC s1 rfl
  have k47 : sF σ1 (a_do L) 47 = .null ∧ sF σ1 (a_T L n m + 2) 47 = .null ∧ sF σ1 (a_T L n m + 10) 47 = .null := ⟨(s1.2 _ _ rfl).trans h47.1, (s1.2 _ _ rfl).trans h47.2.1, (s1.2 _ _ rfl).trans h47.2.2⟩
  rw [hz] at z1
  clear h2 hT hU hTR hP hF hN hS h47 s1
  show EQ X (d - 1) 74 4 [(0, .ref ty)] [] σ1 _
  refine f_go (pc1 := 5) (lv1 := [(0, .ref ty)]) (st1 := [.ref ty]) 1 rfl ?_
  refine f_getf rfl rfl (g := 297) rfl hT1.1 hT1.2.2.2.2.1 ?_
  refine f_go (pc1 := 9) (lv1 := [(1, .ref 24), (0, .ref ty)]) (st1 := []) 1 rfl ?_
  refine w_real (by omega) hD g1 hN1 hT1 hA1 ?_
  intro σ2 s2 A2 hR2 z2 c2 e2
  have hT2 := hT1.sm (s2.sub rfl)
  have hN2 := hN1.sm s2 rfl rfl
  have hS2 := hS1.sm s2 rfl rfl
  have g2 := g1.PC s2 rfl
  have hF2 := hF1.sm s2 rfl
  have hU2 := hU1.ar A2 (Nat.le_refl _)
  have hA2 := hA1.ar A2 (Nat.le_refl _)
  have hP2 := hP1.ar A2 (Nat.le_refl _)
  have l47 : sF σ2 (a_do L) 47 = .null ∧ sF σ2 (a_T L n m + 2) 47 = .null ∧ sF σ2 (a_T L n m + 10) 47 = .null := ⟨(s2.2 _ _ rfl).trans k47.1, (s2.2 _ _ rfl).trans k47.2.1, (s2.2 _ _ rfl).trans k47.2.2⟩
  rw [z1] at z2
  rw [c1] at c2
  rw [e1] at e2
  clear hT1 hN1 hS1 g1 hF1 hU1 hA1 hP1 k47 s2 A2 z1 c1 e1
  refine f_go (pc1 := 31) (lv1 := [(0, .ref ty)]) (st1 := [.ref ty]) 1 rfl ?_
  refine f_vtQ rfl rfl hT2.1 rfl (w_link (by omega) hD g2 l47 hN2 hT2 hU2 hR2) ?_
  rintro v σ3 ⟨rfl, s3, A3, hO3, z3, c3, e3⟩
  have hT3 := hT2.sm (s3.sub rfl)
  have hN3 := hN2.sm s3 rfl rfl
  have hS3 := hS2.sm s3 rfl rfl
  have g3 := g2.PC s3 rfl
  have hF3 := hF2.sm s3 rfl
  have hR3 := hR2.sm s3 rfl
  have hU3 := hU2.ar A3 (Nat.le_refl _)
  have hA3 := hA2.ar A3 (Nat.le_refl _)
  have hP3 := hP2.ar A3 (Nat.le_refl _)
  rw [z2] at z3
  rw [c2] at c3
  rw [e2] at e3
  clear hT2 hN2 hS2 g2 hF2 hR2 hU2 hA2 hP2 l47 s3 A3 z2 c2 e2
  show EQ X (d - 1) 74 34 [(0, .ref ty)] [] σ3 _
  refine f_go (pc1 := 35) (lv1 := [(0, .ref ty)]) (st1 := [.ref ty]) 1 rfl ?_
  refine f_getf rfl rfl (g := 297) rfl hT3.1 hT3.2.2.2.2.1 ?_
  refine f_go (pc1 := 39) (lv1 := [(1, .ref 24), (0, .ref ty)]) (st1 := []) 1 rfl ?_
  refine w_up (by omega) hD g3 hT3 hF3 hR3 hO3 ?_
  intro σ4 s4 A4 hFF4 z4 c4 e4
  have hT4 := hT3.sm (s4.sub rfl)
  have hN4 := hN3.sm s4 rfl rfl
  have hS4 := hS3.sm s4 rfl rfl
  have g4 := g3.PC s4 rfl
  have hF4 := hF3.sm s4 rfl
  have hR4 := hR3.sm s4 rfl
  have hO4 := hO3.sm s4 rfl
  have hU4 := hU3.ar A4 (Nat.le_refl _)
  have hA4 := hA3.ar A4 (Nat.le_refl _)
  have hP4 := hP3.ar A4 (Nat.le_refl _)
  rw [z3] at z4
  rw [c3] at c4
  rw [e3] at e4
  clear hT3 hN3 hS3 g3 hF3 hR3 hO3 hU3 hA3 hP3 s4 A4 z3 c3 e3
  refine f_go (pc1 := 61) (lv1 := [(0, .ref ty)]) (st1 := [.ref ty]) 1 rfl ?_
  refine f_vtQ rfl rfl hT4.1 rfl (w_shapes (by omega) hD g4 hT4 hA4 hR4 hS4.1 z4 (by omega)) ?_
  rintro v σ5 ⟨rfl, s5, A5, hH5, z5, c5, e5⟩
  have hT5 := hT4.sm (s5.sub rfl)
  have hN5 := hN4.sm s5 rfl rfl
  have k5 : ∀ a ∈ a_ns L n m, sF σ5 a 143 = .int (-1) := fun a ha => (s5.2 _ _ rfl).trans (hS4.2 a ha)
  have g5 := g4.PC s5 rfl
  have hF5 := hF4.sm s5 rfl
  have hR5 := hR4.sm s5 rfl
  have hO5 := hO4.sm s5 rfl
  have hFF5 := hFF4.sm s5 rfl
  have hU5 := hU4.ar A5 (Nat.le_refl _)
  have hA5 := hA4.ar A5 (Nat.le_refl _)
  have hP5 := hP4.ar A5 (Nat.le_refl _)
  rw [c4] at c5
  rw [e4] at e5
  clear hT4 hN4 hS4 g4 hF4 hR4 hO4 hFF4 hU4 hA4 hP4 s5 A5 z4 c4 e4
  show EQ X (d - 1) 74 64 [(0, .ref ty)] [] σ5 _
  refine f_go (pc1 := 65) (lv1 := [(0, .ref ty)]) (st1 := [.ref ty]) 1 rfl ?_
  refine f_vtQ rfl rfl hT5.1 rfl (w_views (by omega) hD g5 hN5 hT5 hU5 hF5 hR5 hO5 hFF5 hH5 z5 (by omega)) ?_
  rintro v σ6 ⟨rfl, s6, A6, i6, hV6, z6, c6, e6⟩
  have hT6 := hT5.sm (s6.sub rfl)
  have hN6 := hN5.sm s6 rfl rfl
  have k6 : ∀ a ∈ a_ns L n m, sF σ6 a 143 = .int (-1) := fun a ha => (s6.2 _ _ rfl).trans (k5 a ha)
  have g6 := g5.PC s6 rfl
  have hF6 := hF5.sm s6 rfl
  have hR6 := hR5.sm s6 rfl
  have hO6 := hO5.sm s6 rfl
  have hFF6 := hFF5.sm s6 rfl
  have hH6 := hH5.sm s6 rfl rfl (fun a x hx => (i6 a).trans hx)
  have hU6 := hU5.ar A6 (by omega)
  have hA6 := hA5.ar A6 (by omega)
  have hP6 := hP5.ar A6 (by omega)
  rw [c5] at c6
  clear hT5 hN5 k5 g5 hF5 hR5 hO5 hFF5 hH5 hU5 hA5 hP5 s6 A6 i6 z5 c5
  show EQ X (d - 1) 74 68 [(0, .ref ty)] [] σ6 _
  refine f_go (pc1 := 72) (lv1 := [(2, .int 0), (1, .int 1), (0, .ref ty)]) (st1 := []) 4 rfl ?_
  refine w_cells (by omega) hD g6 hT6 hR6 k6 ?_
  intro σ7 s7 A7 i7 hC7 z7 c7 e7
  refine ⟨rfl, ⟨g6.PC s7 rfl, hN6.sm s7 rfl rfl, hT6.sm (s7.sub rfl), hU6.ar A7 (by omega), hA6.ar A7 (by omega), hP6.ar A7 (by omega), hF6.sm s7 rfl, hR6.sm s7 rfl, hO6.sm s7 rfl, hFF6.sm s7 rfl, hH6.sm s7 rfl rfl (fun a x hx => (i7 a).trans hx), hV6.sm s7 rfl A7 (Nat.le_refl _), hC7⟩, by omega, by omega, by omega⟩
end W79
