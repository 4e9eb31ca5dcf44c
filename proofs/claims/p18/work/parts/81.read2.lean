/-! the layout; read behind the parse -/
def PI : List Nat := [32,33,36,37,38,39,40,41,43,44,46,47,48,128,129,131,132,133,134,135,136,137,138,139,140,141,142,143,144,146,160,161,162,165,192,195,205,207,208,209,210,211,227,289,290,291,292,297,298,300,320,321,322,323]
theorem FIN.sm {lf : UInt32 → Int32} {L n m sh hi mo : Nat} {bd : Nat → Nat} {ty : Nat} {P : List Nat} {σ τ : fl_S} (hF : FIN lf L n m sh hi mo bd ty σ) (hs : Sm P σ τ) (hp : (PI.all fun g => iP g P) = true) (hA : Ar (ty + 12) σ τ) (hi' : ∀ a x, sI σ a = some x → sI τ a = some x) : FIN lf L n m sh hi mo bd ty τ := by
  obtain ⟨h, hN, hT, hU, hA0, hP, hUF, hR, hO, hFF, hSH, hVF, hCE⟩ := hF
  have s : Sm PI σ τ := hs.sub hp
  exact ⟨h.PC s rfl, hN.sm s rfl rfl, hT.sm (s.sub rfl), hU.ar hA (by omega), hA0.ar hA (by omega), hP.ar hA (by omega), hUF.sm s rfl, hR.sm s rfl, hO.sm s rfl, hFF.sm s rfl, hSH.sm s rfl rfl hi', hVF.sm s rfl hA (Nat.le_refl _), hCE.sm s rfl⟩
def fcf (σ : fl_S) (a : Nat) : Int32 := if kdf σ a = 11 ∨ kdf σ a = 12 then 0 + 1 else 0
def lvf (T : Nat) (σ : fl_S) (a : Nat) : Option Nat := if kdf σ a = 11 then some a else if kdf σ a = 12 then some (T + 14) else none
section W81
variable {X : ev_X} {d : Nat} {lf : UInt32 → Int32} {L n m sh hi mo : Nat} {bd : Nat → Nat} {ty : Nat} {σ : fl_S}
theorem fcf_1 {a : Nat} {k : Int32} (h : sF σ a 128 = .int k) (hk : k = 11 ∨ k = 12) : fcf σ a = 0 + 1 := by unfold fcf; rw [kd_of h, if_pos hk]
theorem fcf_0 {a : Nat} {k : Int32} (h : sF σ a 128 = .int k) (h1 : ¬ k = 11) (h2 : ¬ k = 12) : fcf σ a = 0 := by
  unfold fcf
  rw [kd_of h, if_neg (fun e => e.elim h1 h2)]
theorem w_layOut (hd : 6 ≤ d) (hD : Dr lf L n m sh hi mo bd) (hF : FIN lf L n m sh hi mo bd ty σ) : CQ X d 107 [.ref ty] σ (fun v σ1 => v = none ∧ FIN lf L n m sh hi mo bd ty σ1 ∧ Sm PI σ σ1 ∧ sZ σ1 = sZ σ ∧ sc σ1 = sc σ ∧ ss σ1 = ss σ) := by
  have hD0 := hD
  obtain ⟨hL, hn, hm, d1, d2, d3, -⟩ := hD0
  have hF0 := hF
  obtain ⟨h, hN, hT, hU, hA, hP, hUF, hR, hO, hFF, hSH, hVF, hCE⟩ := hF0
  have hsm : ∀ φ φ', Sm PI σ (sS (sS σ 145 φ) 42 φ') := fun φ φ' => (Sm.rf.s rfl).s rfl
  have hf : ∀ φ φ', FIN lf L n m sh hi mo bd ty (sS (sS σ 145 φ) 42 φ') := fun φ φ' => hF.sm (hsm φ φ') rfl (fun _ _ => rfl) (fun _ _ hx => hx)
  have hW : LW X (d - 1) σ ty (ty + 5) (a_ns L n m) (x_T L n m + 3) (kdf σ) (rlv σ) (onf σ) (fup L (a_T L n m) hi) (lvf (a_T L n m) σ) (itf σ) (fun _ => 25) (fun _ => 25) (fcf σ) (fun _ => 1) := by
    refine ⟨hT.1, hT.2.2.2.2.1, hT.2.2.2.2.2.1, by unfold x_T; omega, e_ns hL.1 (by omega) h, w_SA hL.1 h hR, ?_, ?_, ?_, ?_, hT.2.2.2.1, hP⟩
    · intro a ha
      refine ⟨hFF a ha, fun b hb => ?_⟩
      unfold fup at hb
      cases e1 : Nat.beq a 29 with
      | true => rw [e1] at hb; cases hb; exact ns_24
      | false =>
        rw [e1] at hb
        cases e2 : (Nat.ble 30 a && Nat.ble a (26 + 5 * L) && Nat.beq (Nat.mod (a - 27) 5) 2) with
        | true =>
          rw [e2] at hb
          cases hb
          rw [Bool.and_eq_true, Bool.and_eq_true] at e2
          have q1 := Nat.le_of_ble_eq_true e2.1.1
          have q2 := Nat.le_of_ble_eq_true e2.1.2
          have q3 : (a - 27) % 5 = 2 := Nat.eq_of_beq_eq_true e2.2
          have := ns_lv (L := L) (n := n) (m := m) (k := (a - 27) / 5 - 1) (by omega)
          unfold a_lv at this
          rw [show 29 + 5 * ((a - 27) / 5 - 1) = a - 5 by omega] at this
          exact this
        | false =>
          rw [e2] at hb
          cases e3 : (Nat.beq a (27 + 5 * L) || Nat.beq a (a_T L n m + 14)) with
          | true => rw [e3] at hb; cases hb; exact ns_lv d2
          | false => rw [e3] at hb; cases hb
    · intro φ φ'
      have hf' := hf φ φ'
      have hOW := j_OW hD hf'
      obtain ⟨h', hN', hT', hU', hA', hP', hUF', hR', hO', hFF', hSH', hVF', hCE'⟩ := hf'
      have o : ∀ {a : Nat} {k : Int32}, sC (sS (sS σ 145 φ) 42 φ') 4 a = true → sF (sS (sS σ 145 φ) 42 φ') a 128 = .int k → sF σ a 128 = .int k → ¬ k = 11 → ¬ k = 12 → CF X (d - 1) 108 [.ref ty, .ref a] (sS (sS σ 145 φ) 42 φ') (some (.int (fcf σ a))) (sS (sS σ 145 φ) 42 φ') := fun c h1 h0 e1 e2 => by
        rw [fcf_0 h0 e1 e2]
        exact g_fieldCells_n (by omega) hT'.1 c h1 e1 e2
      refine ns_all hL.1 (o (c_root h') (q_root_128 h' rfl) (q_root_128 h rfl) (by decide) (by decide)) (o (c_int h') (q_int_128 h' rfl) (q_int_128 h rfl) (by decide) (by decide)) (o (c_bool h') (q_bool_128 h' rfl) (q_bool_128 h rfl) (by decide) (by decide)) (fun k hk => ?_) (fun k hk h0 => o (c_nl h' hk h0) (q_nl_128 h' rfl hk h0) (q_nl_128 h rfl hk h0) (by decide) (by decide)) ?_ (o (c_on h') (q_on_128 h' rfl) (q_on_128 h rfl) (by decide) (by decide)) (fun r hr => o (c_rr h' hr) (q_rr_128 h' rfl hr) (q_rr_128 h rfl hr) (by decide) (by decide)) (fun r hr => o (c_ra h' hr) (q_ra_128 h' rfl hr) (q_ra_128 h rfl hr) (by decide) (by decide)) (fun r hr => o (c_rn h' hr) (q_rn_128 h' rfl hr) (q_rn_128 h rfl hr) (by decide) (by decide)) (o (c_hn h') (q_hn_128 h' rfl) (q_hn_128 h rfl) (by decide) (by decide)) (o (c_vn h') (q_vn_128 h' rfl) (q_vn_128 h rfl) (by decide) (by decide)) ?_
      · rw [fcf_1 (q_lv_128 h rfl hk) (Or.inl rfl)]
        exact g_fieldCells_L (by omega) hT'.1 (c_lv h' hk) (q_lv_128 h' rfl hk) (q_lv_135 h' rfl hk) (c_fd h' hk) (q_fd_32 h' rfl hk) (q_fd_37 h' rfl hk) (q_fd_38 h' rfl hk) (c_int h') hR'.2.1 (c_int h') hCE'.2.2.1
      · rw [fcf_1 (q_oN_128 h rfl) (Or.inr rfl)]
        exact g_fieldCells_O (by omega) hT'.1 hOW (q_vl_135 h' rfl) (c_fz h') (q_fz_32 h' rfl) (q_fz_37 h' rfl) (q_fz_38 h' rfl) (c_int h') hR'.2.1 (c_int h') hCE'.2.2.1
      · rw [fcf_1 (q_vl_128 h rfl) (Or.inl rfl)]
        exact g_fieldCells_L (by omega) hT'.1 (c_vl h') (q_vl_128 h' rfl) (q_vl_135 h' rfl) (c_fz h') (q_fz_32 h' rfl) (q_fz_37 h' rfl) (q_fz_38 h' rfl) (c_int h') hR'.2.1 (c_int h') hCE'.2.2.1
    · intro φ φ' a ha ho
      have hf' := hf φ φ'
      have hOW := j_OW hD hf'
      obtain ⟨h', -⟩ := hf'
      have o : ∀ {a : Nat} {k : Int32}, sC (sS (sS σ 145 φ) 42 φ') 4 a = true → sF (sS (sS σ 145 φ) 42 φ') a 128 = .int k → sF σ a 128 = .int k → ¬ k = 11 → ¬ k = 12 → CF X (d - 1) 79 [.ref ty, .null, .ref a] (sS (sS σ 145 φ) 42 φ') (some (va_rf (lvf (a_T L n m) σ a))) (sS (sS σ 145 φ) 42 φ') := fun c h1 h0 e1 e2 => by
        unfold lvf
        rw [kd_of h0, if_neg e1, if_neg e2]
        exact g_levelOf_nN (by omega) c h1 e1 e2
      rcases w_oc hD h hR a ha ho with rfl | rfl | rfl | ⟨k, hk, rfl⟩ | rfl | ⟨r, hr, rfl⟩ | ⟨r, hr, rfl⟩
      · exact o (c_root h') (q_root_128 h' rfl) (q_root_128 h rfl) (by decide) (by decide)
      · exact o (c_int h') (q_int_128 h' rfl) (q_int_128 h rfl) (by decide) (by decide)
      · exact o (c_bool h') (q_bool_128 h' rfl) (q_bool_128 h rfl) (by decide) (by decide)
      · unfold lvf
        rw [kd_of (q_lv_128 h rfl hk), if_pos rfl]
        exact g_levelOf_LN (by omega) (c_lv h' hk) (q_lv_128 h' rfl hk)
      · unfold lvf
        rw [kd_of (q_oN_128 h rfl), if_neg (by decide), if_pos rfl]
        exact g_levelOf_O0 (by omega) hOW
      · exact o (c_rr h' hr) (q_rr_128 h' rfl hr) (q_rr_128 h rfl hr) (by decide) (by decide)
      · exact o (c_ra h' hr) (q_ra_128 h' rfl hr) (q_ra_128 h rfl hr) (by decide) (by decide)
    · intro a ha ho w hw
      have it1 : ∀ {x y : Nat}, sF σ x 135 = .ref y → itf σ x = y := fun e => by unfold itf; rw [e]; rfl
      have no : ∀ {a : Nat} {k : Int32}, sF σ a 128 = .int k → ¬ k = 11 → ¬ k = 12 → lvf (a_T L n m) σ a = some w → False := fun h0 e1 e2 hw => by
        unfold lvf at hw
        rw [kd_of h0, if_neg e1, if_neg e2] at hw
        cases hw
      rcases w_oc hD h hR a ha ho with rfl | rfl | rfl | ⟨k, hk, rfl⟩ | rfl | ⟨r, hr, rfl⟩ | ⟨r, hr, rfl⟩
      · exact (no (q_root_128 h rfl) (by decide) (by decide) hw).elim
      · exact (no (q_int_128 h rfl) (by decide) (by decide) hw).elim
      · exact (no (q_bool_128 h rfl) (by decide) (by decide) hw).elim
      · unfold lvf at hw
        rw [kd_of (q_lv_128 h rfl hk), if_pos rfl] at hw
        cases hw
        rw [it1 (q_lv_135 h rfl hk)]
        exact ⟨c_lv h hk, q_lv_135 h rfl hk, c_fd h hk, q_fd_32 h rfl hk, q_fd_37 h rfl hk, q_fd_38 h rfl hk, c_int h, hR.2.1, c_int h, hCE.2.2.1⟩
      · unfold lvf at hw
        rw [kd_of (q_oN_128 h rfl), if_neg (by decide), if_pos rfl] at hw
        cases hw
        rw [it1 (q_vl_135 h rfl)]
        exact ⟨c_vl h, q_vl_135 h rfl, c_fz h, q_fz_32 h rfl, q_fz_37 h rfl, q_fz_38 h rfl, c_int h, hR.2.1, c_int h, hCE.2.2.1⟩
      · exact (no (q_rr_128 h rfl hr) (by decide) (by decide) hw).elim
      · exact (no (q_ra_128 h rfl hr) (by decide) (by decide) hw).elim
  refine CQ.mono (g_layOut (by omega) hW) ?_
  rintro v σ1 ⟨hv, φ, φ', rfl⟩
  exact ⟨hv, hf φ φ', hsm φ φ', rfl, rfl, rfl⟩
end W81
