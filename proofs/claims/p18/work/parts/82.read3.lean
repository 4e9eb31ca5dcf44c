/-! read behind the parse -/
section W82
variable {X : ev_X} {d : Nat} {lf : UInt32 → Int32} {L n m sh hi mo : Nat} {bd : Nat → Nat} {σ : fl_S}
theorem sN_at {ci k : Nat} : sC (sN σ ci k) ci (sZ σ) = true := by
  show (bif (Nat.beq ci ci && Nat.beq (sZ σ) (sZ σ)) then true else sC σ ci (sZ σ)) = true
  rw [nb_self, nb_self]
  rfl
theorem ps_z_le (hL : L ≤ 5) (hnm : n + m ≤ 8) : ps_z L n m + 20 ≤ 256 := by unfold ps_z a_T; omega
theorem w_UF (h : We P1 lf L n m σ) : UF L n m σ := ⟨q_u0_41 h rfl, q_u1_41 h rfl, q_u2_41 h rfl, q_u3_41 h rfl, q_u4_41 h rfl⟩
theorem r_tail (hd : 20 ≤ d) (hD : Dr lf L n m sh hi mo bd) (h : Wd lf L n m σ) (hz : sZ σ = ps_z L n m) :
    EQ X (d - 1) 4 48 [(1, .ref 21), (0, .ref 1)] [] σ (fun v σ1 => v = some (.int 0) ∧ FIN lf L n m sh hi mo bd (ps_z L n m + 1) σ1 ∧ sC σ1 10 1 = true ∧ sF σ1 1 324 = .ref (ps_z L n m + 1) ∧ sc σ1 ≤ sc σ + 20 ∧ ss σ1 ≤ ss σ + 2000) := by
  have hD0 := hD
  obtain ⟨hL, hn, hm, d1, d2, d3, -⟩ := hD0
  have hzl := ps_z_le (L := L) (n := n) (m := m) hL.2 (by omega)
  have h0 : We P0 lf L n m σ := ⟨σ, h, Sm.rf⟩
  clear h
  refine f_go (pc1 := 49) (lv1 := [(1, .ref 21), (0, .ref 1)]) (st1 := [.ref 21]) 1 rfl ?_
  refine f_getf rfl rfl (g := 195) rfl (c_ps h0) (q_ps_195 h0 rfl) ?_
  refine f_ifc (t := 60) rfl rfl true (ic_eq rfl) ?_
  show EQ X (d - 1) 4 60 [(1, .ref 21), (0, .ref 1)] [] σ _
  refine f_new rfl (by omega) rfl ?_
  refine f_go (pc1 := 65) (lv1 := [(1, .ref 21), (0, .ref 1)]) (st1 := [.ref 21, .ref (sZ σ), .ref (sZ σ)]) 2 rfl ?_
  refine f_sp rfl rfl rfl rfl (g_namesInit (by omega) sN_at) ?_
  have k1 : We P0 lf L n m (sU (sU (sN σ 3 2) (sZ σ) 97 (.int 2147483647)) (sZ σ) 96 (.ref 21)) := h0.sm (((Sm.rf.n rfl).u rfl).u rfl)
  have k2 : sC (sU (sU (sN σ 3 2) (sZ σ) 97 (.int 2147483647)) (sZ σ) 96 (.ref 21)) 3 (sZ σ) = true := sN_at (σ := σ) (ci := 3) (k := 2)
  have k3 : sF (sU (sU (sN σ 3 2) (sZ σ) 97 (.int 2147483647)) (sZ σ) 96 (.ref 21)) (sZ σ) 96 = .ref 21 := sU_at
  have k4 : sF (sU (sU (sN σ 3 2) (sZ σ) 97 (.int 2147483647)) (sZ σ) 96 (.ref 21)) (sZ σ) 97 = .int 2147483647 := (sU_gne rfl).trans sU_at
  have k5 : sZ (sU (sU (sN σ 3 2) (sZ σ) 97 (.int 2147483647)) (sZ σ) 96 (.ref 21)) = sZ σ + 1 ∧ sc (sU (sU (sN σ 3 2) (sZ σ) 97 (.int 2147483647)) (sZ σ) 96 (.ref 21)) = sc σ + 1 ∧ ss (sU (sU (sN σ 3 2) (sZ σ) 97 (.int 2147483647)) (sZ σ) 96 (.ref 21)) = ss σ + 2 := ⟨rfl, rfl, rfl⟩
  generalize sU (sU (sN σ 3 2) (sZ σ) 97 (.int 2147483647)) (sZ σ) 96 (.ref 21) = σ1 at k1 k2 k3 k4 k5 ⊢
  show EQ X (d - 1) 4 68 [(1, .ref 21), (0, .ref 1)] [.ref (sZ σ)] σ1 _
  refine f_vtQ rfl rfl k2 rfl (w_names (by omega) hD k1 k2 k3 k4) ?_
  rintro v σ2 ⟨rfl, g2, hN2, z2, c2, e2⟩
  rw [k5.1, hz] at z2
  rw [k5.2.1] at c2
  rw [k5.2.2] at e2
  clear k1 k2 k3 k4 k5 h0
  show EQ X (d - 1) 4 71 [(1, .ref 21), (0, .ref 1)] [.int 0] σ2 _
  refine f_go (pc1 := 73) (lv1 := [(2, .int 0), (1, .ref 21), (0, .ref 1)]) (st1 := [.int 0]) 2 rfl ?_
  refine f_ifc (t := 78) rfl rfl true (ic_eq rfl) ?_
  show EQ X (d - 1) 4 78 [(2, .int 0), (1, .ref 21), (0, .ref 1)] [] σ2 _
  refine f_new rfl (by omega) rfl ?_
  have m1 : We P1 lf L n m (sN σ2 9 13) := g2.sm (Sm.rf.n rfl)
  have m2 : NF L n m sh hi mo (sN σ2 9 13) := hN2.sm (P := [48, 165]) (Sm.rf.n rfl) rfl rfl
  have m3 : sC (sN σ2 9 13) 9 (ps_z L n m + 1) = true := by rw [← z2]; exact sN_at
  have m4 : sZ (sN σ2 9 13) = ps_z L n m + 1 + 1 := by show sZ σ2 + 1 = _; rw [z2]
  have m5 : sc (sN σ2 9 13) = sc σ2 + 1 ∧ ss (sN σ2 9 13) = ss σ2 + 13 := ⟨rfl, rfl⟩
  rw [z2]
  generalize sN σ2 9 13 = σ3 at m1 m2 m3 m4 m5 ⊢
  refine f_go (pc1 := 83) (lv1 := [(2, .int 0), (1, .ref 21), (0, .ref 1)]) (st1 := [.ref 21, .ref (ps_z L n m + 1), .ref (ps_z L n m + 1)]) 2 rfl ?_
  refine f_spQ rfl rfl rfl rfl (w_tinit (by omega) hD m1 (w_UF m1) m3 m4 (by omega)) ?_
  rintro v σ4 ⟨rfl, s4, hT4, hU4, hR4, hP4, z4, c4, e4⟩
  have n1 : We P1 lf L n m σ4 := m1.sm (s4.sub rfl)
  have n2 : NF L n m sh hi mo σ4 := m2.sm s4 rfl rfl
  have n3 : UF L n m σ4 := w_UF n1
  clear m1 m2 m3 s4
  show EQ X (d - 1) 4 86 [(2, .int 0), (1, .ref 21), (0, .ref 1)] [.ref (ps_z L n m + 1)] σ4 _
  refine f_go (pc1 := 88) (lv1 := [(3, .ref (ps_z L n m + 1)), (2, .int 0), (1, .ref 21), (0, .ref 1)]) (st1 := [.ref (ps_z L n m + 1)]) 2 rfl ?_
  refine f_vtQ rfl rfl hT4.1 rfl (w_prepare (by omega) hD n1 n2 hT4 hU4 hR4 hP4 n3 z4 (by omega)) ?_
  rintro v σ5 ⟨rfl, hF5, z5, c5, e5⟩
  clear hT4 hU4 hR4 hP4 n1 n2 n3
  show EQ X (d - 1) 4 91 [(3, .ref (ps_z L n m + 1)), (2, .int 0), (1, .ref 21), (0, .ref 1)] [] σ5 _
  refine f_go (pc1 := 92) (lv1 := [(3, .ref (ps_z L n m + 1)), (2, .int 0), (1, .ref 21), (0, .ref 1)]) (st1 := [.ref (ps_z L n m + 1)]) 1 rfl ?_
  refine f_vt rfl rfl hF5.2.2.1.1 rfl (w_judge (by omega) hD hF5) ?_
  show EQ X (d - 1) 4 95 [(3, .ref (ps_z L n m + 1)), (2, .int 0), (1, .ref 21), (0, .ref 1)] [.int 0] σ5 _
  refine f_go (pc1 := 97) (lv1 := [(2, .int 0), (3, .ref (ps_z L n m + 1)), (1, .ref 21), (0, .ref 1)]) (st1 := [.int 0]) 2 rfl ?_
  refine f_ifc (t := 102) rfl rfl true (ic_eq rfl) ?_
  show EQ X (d - 1) 4 102 [(2, .int 0), (3, .ref (ps_z L n m + 1)), (1, .ref 21), (0, .ref 1)] [] σ5 _
  refine f_go (pc1 := 103) (lv1 := [(2, .int 0), (3, .ref (ps_z L n m + 1)), (1, .ref 21), (0, .ref 1)]) (st1 := [.ref (ps_z L n m + 1)]) 1 rfl ?_
  refine f_vtQ rfl rfl hF5.2.2.1.1 rfl (w_layOut (by omega) hD hF5) ?_
  rintro v σ6 ⟨rfl, hF6, -, z6, c6, e6⟩
  rw [z5] at z6
  clear hF5
  show EQ X (d - 1) 4 106 [(2, .int 0), (3, .ref (ps_z L n m + 1)), (1, .ref 21), (0, .ref 1)] [] σ6 _
  refine f_new rfl (by omega) rfl ?_
  refine f_go (pc1 := 111) (lv1 := [(2, .int 0), (3, .ref (ps_z L n m + 1)), (1, .ref 21), (0, .ref 1)]) (st1 := [.ref (ps_z L n m + 1), .ref (sZ σ6), .ref (sZ σ6)]) 2 rfl ?_
  refine f_sp rfl rfl rfl rfl (g_ckInit (by omega) sN_at (by show sZ σ6 + 1 < 256; omega)) ?_
  have p1 : FIN lf L n m sh hi mo bd (ps_z L n m + 1) (sU (sU (sU (sR1 (sZ1 (sN σ6 0 7) 200) (sZ (sN σ6 0 7)) (3, 200, fun _ => none)) (sZ σ6) 2 (.ref (sZ (sN σ6 0 7)))) (sZ σ6) 6 (.int 2147483647)) (sZ σ6) 0 (.ref (ps_z L n m + 1))) := by
    refine hF6.sm (P := PI) (((((((Sm.rf.n rfl).z1).r1).u rfl).u rfl).u rfl)) rfl (fun a ha => ?_) (fun _ _ hx => hx)
    exact aU_ne (by show a ≠ sZ σ6 + 1; omega)
  have p2 : sC (sU (sU (sU (sR1 (sZ1 (sN σ6 0 7) 200) (sZ (sN σ6 0 7)) (3, 200, fun _ => none)) (sZ σ6) 2 (.ref (sZ (sN σ6 0 7)))) (sZ σ6) 6 (.int 2147483647)) (sZ σ6) 0 (.ref (ps_z L n m + 1))) 0 (sZ σ6) = true := sN_at (σ := σ6) (ci := 0) (k := 7)
  have p3 : sF (sU (sU (sU (sR1 (sZ1 (sN σ6 0 7) 200) (sZ (sN σ6 0 7)) (3, 200, fun _ => none)) (sZ σ6) 2 (.ref (sZ (sN σ6 0 7)))) (sZ σ6) 6 (.int 2147483647)) (sZ σ6) 0 (.ref (ps_z L n m + 1))) (sZ σ6) 6 = .int 2147483647 := (sU_gne rfl).trans sU_at
  have p4 : sc (sU (sU (sU (sR1 (sZ1 (sN σ6 0 7) 200) (sZ (sN σ6 0 7)) (3, 200, fun _ => none)) (sZ σ6) 2 (.ref (sZ (sN σ6 0 7)))) (sZ σ6) 6 (.int 2147483647)) (sZ σ6) 0 (.ref (ps_z L n m + 1))) = sc σ6 + 1 + 1 ∧ ss (sU (sU (sU (sR1 (sZ1 (sN σ6 0 7) 200) (sZ (sN σ6 0 7)) (3, 200, fun _ => none)) (sZ σ6) 2 (.ref (sZ (sN σ6 0 7)))) (sZ σ6) 6 (.int 2147483647)) (sZ σ6) 0 (.ref (ps_z L n m + 1))) = ss σ6 + 7 + 200 := ⟨rfl, rfl⟩
  generalize sU (sU (sU (sR1 (sZ1 (sN σ6 0 7) 200) (sZ (sN σ6 0 7)) (3, 200, fun _ => none)) (sZ σ6) 2 (.ref (sZ (sN σ6 0 7)))) (sZ σ6) 6 (.int 2147483647)) (sZ σ6) 0 (.ref (ps_z L n m + 1)) = σ7 at p1 p2 p3 p4 ⊢
  have q0 : We P2 lf L n m σ7 := p1.1
  show EQ X (d - 1) 4 114 [(2, .int 0), (3, .ref (ps_z L n m + 1)), (1, .ref 21), (0, .ref 1)] [.ref (sZ σ6)] σ7 _
  refine f_go (pc1 := 119) (lv1 := [(4, .ref (sZ σ6)), (2, .int 0), (3, .ref (ps_z L n m + 1)), (1, .ref 21), (0, .ref 1)]) (st1 := [.ref 21, .ref (sZ σ6)]) 3 rfl ?_
  refine f_getf rfl rfl (g := 208) rfl (c_ps q0) (q_ps_208 q0 rfl) ?_
  refine f_vt rfl rfl p2 rfl (g_ckTypes (by omega) p2 p3) ?_
  show EQ X (d - 1) 4 125 [(4, .ref (sZ σ6)), (2, .int 0), (3, .ref (ps_z L n m + 1)), (1, .ref 21), (0, .ref 1)] [.int 0] σ7 _
  refine f_go (pc1 := 127) (lv1 := [(2, .int 0), (4, .ref (sZ σ6)), (3, .ref (ps_z L n m + 1)), (1, .ref 21), (0, .ref 1)]) (st1 := [.int 0]) 2 rfl ?_
  refine f_ifc (t := 140) rfl rfl false (ic_nen rfl) ?_
  show EQ X (d - 1) 4 130 [(2, .int 0), (4, .ref (sZ σ6)), (3, .ref (ps_z L n m + 1)), (1, .ref 21), (0, .ref 1)] [] σ7 _
  refine f_go (pc1 := 133) (lv1 := [(2, .int 0), (4, .ref (sZ σ6)), (3, .ref (ps_z L n m + 1)), (1, .ref 21), (0, .ref 1)]) (st1 := [.ref 21, .ref (sZ σ6)]) 2 rfl ?_
  refine f_getf rfl rfl (g := 208) rfl (c_ps q0) (q_ps_208 q0 rfl) ?_
  refine f_vt rfl rfl p2 rfl (g_ckExc (by omega) p2 p3) ?_
  show EQ X (d - 1) 4 139 [(2, .int 0), (4, .ref (sZ σ6)), (3, .ref (ps_z L n m + 1)), (1, .ref 21), (0, .ref 1)] [.int 0] σ7 _
  refine f_go (pc1 := 141) (lv1 := [(2, .int 0), (4, .ref (sZ σ6)), (3, .ref (ps_z L n m + 1)), (1, .ref 21), (0, .ref 1)]) (st1 := [.int 0]) 2 rfl ?_
  refine f_ifc (t := 149) rfl rfl false (ic_nen rfl) ?_
  show EQ X (d - 1) 4 144 [(2, .int 0), (4, .ref (sZ σ6)), (3, .ref (ps_z L n m + 1)), (1, .ref 21), (0, .ref 1)] [] σ7 _
  refine f_go (pc1 := 146) (lv1 := [(2, .int 0), (4, .ref (sZ σ6)), (3, .ref (ps_z L n m + 1)), (1, .ref 21), (0, .ref 1)]) (st1 := [.ref (ps_z L n m + 1), .ref 1]) 2 rfl ?_
  refine f_putf rfl rfl (g := 324) rfl (c_x q0) rfl ?_
  refine f_go (pc1 := 150) (lv1 := [(2, .int 0), (4, .ref (sZ σ6)), (3, .ref (ps_z L n m + 1)), (1, .ref 21), (0, .ref 1)]) (st1 := [.int 0]) 1 rfl ?_
  refine f_rtQ rfl rfl ⟨rfl, p1.sm (P := PI) (Sm.rf.u rfl) rfl (fun _ _ => rfl) (fun _ _ hx => hx), (show sC σ7 10 1 = true from c_x q0), sU_at, ?_, ?_⟩
  · show sc σ7 ≤ _
    omega
  · show ss σ7 ≤ _
    omega
end W82
