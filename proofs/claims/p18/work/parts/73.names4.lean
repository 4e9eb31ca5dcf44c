/-! the first round, all of it -/
def ndf (σ : fl_S) (a : Nat) : Bool := decide (vI (sF σ a 128) = 13)
def opf (σ : fl_S) (a : Nat) : Nat := vR (sF σ a 137)
def rsf (L : Nat) (σ : fl_S) (op : Nat) : Nat := a_ds L (inL L (vI (sF σ op 161)).toNatClampNeg)
theorem r_s_lt {n m r : Nat} (hn : 1 ≤ n) (hm : 1 ≤ m) (hr : r < n + m) : r_s n m r < n + m := by
  unfold r_s
  by_cases e : n ≤ r
  · rw [bleT e]
    show n + (r - n + 1) % m < n + m
    have := Nat.mod_lt (r - n + 1) (show 0 < m by omega)
    omega
  · rw [bleF (show r < n by omega)]
    show (r + 1) % n < n + m
    have := Nat.mod_lt (r + 1) (show 0 < n by omega)
    omega
theorem dn_b {L n m i : Nat} (hL : L ≤ 5) (hnm : n + m ≤ 8) (hi : i < L + (n + m) + 1) : dnN L i < 1000 := by
  unfold dnN
  cases Nat.ble i L
  · show L + 1 + i < 1000
    omega
  · show 2 * i + 1 < 1000
    omega
theorem dn_l {L i : Nat} (h : i ≤ L) : dnN L i = 2 * i + 1 := by unfold dnN; rw [bleT h]; rfl
theorem dn_r {L r : Nat} : dnN L (L + 1 + r) = 2 * L + 2 + r := by
  unfold dnN
  rw [bleF (show L < L + 1 + r by omega)]
  show L + 1 + (L + 1 + r) = _
  omega
theorem rs_of {L n m i op : Nat} {σ : fl_S} (hL : L ≤ 5) (hnm : n + m ≤ 8) (hi : i < L + (n + m) + 1) (h : sF σ op 161 = .int (Int32.ofNat (dnN L i))) : rsf L σ op = a_ds L i := by
  unfold rsf
  rw [h]
  show a_ds L (inL L (Int32.ofNat (dnN L i)).toNatClampNeg) = _
  rw [nat_cl (dn_b hL hnm hi), inL_dn]
theorem n_if1 {L n m i a op : Nat} {σ τ : fl_S} (hL : L ≤ 5) (hnm : n + m ≤ 8) (hi : i < L + (n + m) + 1) (h1 : sF σ a 128 = .int 13) (h2 : sF σ a 137 = .ref op) (h3 : sF σ op 161 = .int (Int32.ofNat (dnN L i))) : (if ndf σ a then sU τ (opf σ a) 165 (.ref (rsf L σ (opf σ a))) else τ) = sU τ op 165 (.ref (a_ds L i)) := by
  have e1 : ndf σ a = true := by unfold ndf; rw [h1]; rfl
  have e2 : opf σ a = op := by unfold opf; rw [h2]; rfl
  rw [if_pos e1, e2, rs_of hL hnm hi h3]
theorem n_if0 {L a : Nat} {k : Int32} {σ τ : fl_S} (h1 : sF σ a 128 = .int k) (hk : ¬ k = 13) : (if ndf σ a then sU τ (opf σ a) 165 (.ref (rsf L σ (opf σ a))) else τ) = τ := by
  have e1 : ¬ ndf σ a = true := by unfold ndf; rw [h1]; exact fun h => hk (of_decide_eq_true h)
  rw [if_neg e1]
section N73
variable {X : ev_X} {d : Nat} {lf : UInt32 → Int32} {L n m sh hi mo : Nat} {bd : Nat → Nat}
theorem n_nodes (hd : 10 ≤ d) (hD : Dr lf L n m sh hi mo bd) {U σ : fl_S} (h : We P2 lf L n m σ) (hW : ∀ φ, We P2 lf L n m (sS U 165 φ)) (hN : ∀ φ, NM L n m (sS U 165 φ)) {nmo : Nat} (cn : sC U 3 nmo = true) : ∀ a ∈ a_ns L n m, ∀ φ, CF X d 71 [.ref nmo, .ref a] (sS U 165 φ) none (if ndf σ a then sU (sS U 165 φ) (opf σ a) 165 (.ref (rsf L σ (opf σ a))) else sS U 165 φ) := by
  obtain ⟨hL, hn, hm, d1, d2, d3, l1, l2, l3, -⟩ := hD
  have hnm : 1 ≤ n + m ∧ n + m ≤ 8 := by omega
  refine ns_all hL.1 ?_ ?_ ?_ ?_ ?_ ?_ ?_ ?_ ?_ ?_ ?_ ?_ ?_
  · intro φ
    rw [n_if0 (q_root_128 h rfl) (by decide)]
    exact g_nNode_o (by omega) (c_root (hW φ)) (q_root_128 (hW φ) rfl) (q_root_136 (hW φ) rfl) (q_root_135 (hW φ) rfl) (by decide)
  · intro φ
    rw [n_if0 (q_int_128 h rfl) (by decide)]
    exact g_nNode_o (by omega) (c_int (hW φ)) (q_int_128 (hW φ) rfl) (q_int_136 (hW φ) rfl) (q_int_135 (hW φ) rfl) (by decide)
  · intro φ
    rw [n_if0 (q_bool_128 h rfl) (by decide)]
    exact g_nNode_o (by omega) (c_bool (hW φ)) (q_bool_128 (hW φ) rfl) (q_bool_136 (hW φ) rfl) (q_bool_135 (hW φ) rfl) (by decide)
  · intro k hk φ
    rw [n_if0 (q_lv_128 h rfl hk) (by decide)]
    exact g_nNode_L (by omega) (c_lv (hW φ) hk) (q_lv_128 (hW φ) rfl hk) (q_lv_136 (hW φ) rfl hk) (q_lv_135 (hW φ) rfl hk) (c_fd (hW φ) hk) (q_fd_40 (hW φ) rfl hk) (q_fd_37 (hW φ) rfl hk) (n_there1 (by omega) (post := []) ⟨rfl, q_fd_37 (hW φ) rfl hk⟩ (c_fd (hW φ) hk) (q_fd_33 (hW φ) rfl hk))
  · intro k hk h0 φ
    have e : ∀ {τ : fl_S}, We P2 lf L n m τ → sF τ (a_ol k) 161 = .int (Int32.ofNat (dnN L (k - 1))) := fun hτ => (q_ol_161 hτ rfl hk h0).trans (by rw [dn_l (show k - 1 ≤ L by omega), show 2 * (k - 1) + 1 = 2 * k - 1 by omega])
    rw [n_if1 hL.2 hnm.2 (by omega) (q_nl_128 h rfl hk h0) (q_nl_137 h rfl hk h0) (e h)]
    exact g_nNode_n (by omega) (c_nl (hW φ) hk h0) (q_nl_128 (hW φ) rfl hk h0) (q_nl_136 (hW φ) rfl hk h0) (q_nl_135 (hW φ) rfl hk h0) (q_nl_131 (hW φ) rfl hk h0) (q_nl_137 (hW φ) rfl hk h0) cn (n_useA (by omega) hL hnm (hW φ) (c_ol (hW φ) hk h0) (q_ol_162 (hW φ) rfl hk h0) (e (hW φ)) (by omega))
  · intro φ
    rw [n_if0 (q_oN_128 h rfl) (by decide)]
    exact g_nNode_o (by omega) (c_oN (hW φ)) (q_oN_128 (hW φ) rfl) (q_oN_136 (hW φ) rfl) (q_oN_135 (hW φ) rfl) (by decide)
  · intro φ
    have e : ∀ {τ : fl_S}, We P2 lf L n m τ → sF τ (a_oo L) 161 = .int (Int32.ofNat (dnN L sh)) := fun hτ => (q_oo_161 hτ rfl).trans (by rw [l1, dn_l (show sh ≤ L by omega)])
    rw [n_if1 hL.2 hnm.2 (by omega) (q_on_128 h rfl) (q_on_137 h rfl) (e h)]
    exact g_nNode_n (by omega) (c_on (hW φ)) (q_on_128 (hW φ) rfl) (q_on_136 (hW φ) rfl) (q_on_135 (hW φ) rfl) (q_on_131 (hW φ) rfl) (q_on_137 (hW φ) rfl) cn (n_useA (by omega) hL hnm (hW φ) (c_oo (hW φ)) (q_oo_162 (hW φ) rfl) (e (hW φ)) (by omega))
  · intro r hr φ
    rw [n_if0 (q_rr_128 h rfl hr) (by decide)]
    exact g_nNode_o (by omega) (c_rr (hW φ) hr) (q_rr_128 (hW φ) rfl hr) (q_rr_136 (hW φ) rfl hr) (q_rr_135 (hW φ) rfl hr) (by decide)
  · intro r hr φ
    rw [n_if0 (q_ra_128 h rfl hr) (by decide)]
    exact g_nNode_o (by omega) (c_ra (hW φ) hr) (q_ra_128 (hW φ) rfl hr) (q_ra_136 (hW φ) rfl hr) (q_ra_135 (hW φ) rfl hr) (by decide)
  · intro r hr φ
    have hs := r_s_lt hn.1 hm.1 hr
    have e : ∀ {τ : fl_S}, We P2 lf L n m τ → sF τ (a_rg L r + 4) 161 = .int (Int32.ofNat (dnN L (L + 1 + r_s n m r))) := fun hτ => (q_ro_161 hτ rfl hr).trans (by rw [dn_r])
    rw [n_if1 hL.2 hnm.2 (by omega) (q_rn_128 h rfl hr) (q_rn_137 h rfl hr) (e h)]
    exact g_nNode_n (by omega) (c_rn (hW φ) hr) (q_rn_128 (hW φ) rfl hr) (q_rn_136 (hW φ) rfl hr) (q_rn_135 (hW φ) rfl hr) (q_rn_131 (hW φ) rfl hr) (q_rn_137 (hW φ) rfl hr) cn (n_useA (by omega) hL hnm (hW φ) (c_ro (hW φ) hr) (q_ro_162 (hW φ) rfl hr) (e (hW φ)) (by omega))
  · intro φ
    have e : ∀ {τ : fl_S}, We P2 lf L n m τ → sF τ (a_T L n m + 5) 161 = .int (Int32.ofNat (dnN L mo)) := fun hτ => (q_ho_161 hτ rfl).trans (by rw [l3, dn_l (show mo ≤ L by omega)])
    rw [n_if1 hL.2 hnm.2 (by omega) (q_hn_128 h rfl) (q_hn_137 h rfl) (e h)]
    exact g_nNode_n (by omega) (c_hn (hW φ)) (q_hn_128 (hW φ) rfl) (q_hn_136 (hW φ) rfl) (q_hn_135 (hW φ) rfl) (q_hn_131 (hW φ) rfl) (q_hn_137 (hW φ) rfl) cn (n_useB (by omega) hL hnm (hW φ) (hN φ) (c_ho (hW φ)) (q_ho_162 (hW φ) rfl) (e (hW φ)) (by omega))
  · intro φ
    have e : ∀ {τ : fl_S}, We P2 lf L n m τ → sF τ (a_T L n m + 13) 161 = .int (Int32.ofNat (dnN L hi)) := fun hτ => (q_vo_161 hτ rfl).trans (by rw [l2, dn_l (show hi ≤ L by omega)])
    rw [n_if1 hL.2 hnm.2 (by omega) (q_vn_128 h rfl) (q_vn_137 h rfl) (e h)]
    exact g_nNode_n (by omega) (c_vn (hW φ)) (q_vn_128 (hW φ) rfl) (q_vn_136 (hW φ) rfl) (q_vn_135 (hW φ) rfl) (q_vn_131 (hW φ) rfl) (q_vn_137 (hW φ) rfl) cn (n_useO (by omega) hL hnm (hW φ) (hN φ) (c_vo (hW φ)) (q_vo_162 (hW φ) rfl) (e (hW φ)) (by omega))
  · intro φ
    rw [n_if0 (q_vl_128 h rfl) (by decide)]
    exact g_nNode_L (by omega) (c_vl (hW φ)) (q_vl_128 (hW φ) rfl) (q_vl_136 (hW φ) rfl) (q_vl_135 (hW φ) rfl) (c_fz (hW φ)) (q_fz_40 (hW φ) rfl) (q_fz_37 (hW φ) rfl) (n_there1 (by omega) (post := []) ⟨rfl, q_fz_37 (hW φ) rfl⟩ (c_fz (hW φ)) (q_fz_33 (hW φ) rfl))
/-- what names mean; who sees whom -/
def NF (L n m sh hi mo : Nat) (σ : fl_S) : Prop := (sF σ 27 48 = .int 1 ∧ sF σ (a_T L n m) 48 = .int 3 ∧ sF σ (a_T L n m + 6) 48 = .int 7 ∧ sF σ (a_T L n m + 9) 48 = .int 9 ∧ sF σ (a_T L n m + 17) 48 = .int 17) ∧ (∀ k, k < L → 0 < k → sF σ (a_ol k) 165 = .ref (a_dl (k - 1))) ∧ sF σ (a_oo L) 165 = .ref (a_dl sh) ∧ (∀ r, r < n + m → sF σ (a_rg L r + 4) 165 = .ref (a_rg L (r_s n m r))) ∧ sF σ (a_T L n m + 3) 165 = .ref (a_do L) ∧ sF σ (a_T L n m + 5) 165 = .ref (a_dl mo) ∧ sF σ (a_T L n m + 11) 165 = .ref (a_do L) ∧ sF σ (a_T L n m + 13) 165 = .ref (a_dl hi)
theorem U5_sm {P : List Nat} {σ : fl_S} {u0 u1 u2 u3 u4 im1 ima imb im4 : Nat} {φ : Nat → Value} (h1 : iP 46 P = false) (h2 : iP 48 P = false) (h3 : iP 165 P = false) : Sm P σ (sS (U5 σ u0 u1 u2 u3 u4 im1 ima imb im4) 165 φ) := by
  unfold U5
  exact (((((((((((((((((Sm.rf.u h2).u h2).u h1).u h2).u h2).u h1).u h2).u h1).u h2).u h2).u h1).u h2).u h2).u h1).u h2).u h1).u h2).s h3
theorem w_names (hd : 12 ≤ d) (hD : Dr lf L n m sh hi mo bd) {σ : fl_S} {nmo : Nat} (h : We P0 lf L n m σ) (cn : sC σ 3 nmo = true) (n96 : sF σ nmo 96 = .ref 21) (n97 : sF σ nmo 97 = .int 2147483647) :
    CQ X d 62 [.ref nmo] σ (fun v σ1 => v = some (.int 0) ∧ We P1 lf L n m σ1 ∧ NF L n m sh hi mo σ1 ∧ sZ σ1 = sZ σ ∧ sc σ1 = sc σ ∧ ss σ1 = ss σ) := by
  have hD0 := hD
  obtain ⟨hL, hn, hm, d1, d2, d3, l1, l2, l3, -⟩ := hD0
  have hnm : 1 ≤ n + m ∧ n + m ≤ 8 := by omega
  have h2 : We P2 lf L n m σ := h.sub rfl
  have hx : [27, a_T L n m, a_T L n m + 6, a_T L n m + 9, a_T L n m + 17, a_T L n m + 1, a_T L n m + 7, a_T L n m + 8, a_T L n m + 18].Nodup := by
    unfold a_T
    simp
    omega
  have hUN : UN σ nmo 21 27 (a_T L n m) (a_T L n m + 6) (a_T L n m + 9) (a_T L n m + 17) 28 (a_T L n m + 1) (a_T L n m + 7) (a_T L n m + 8) (a_T L n m + 18) (a_T L n m + 2) (a_T L n m + 10) (Int32.ofNat 0) (Int32.ofNat (n_T L n m)) (Int32.ofNat (n_T L n m + 1)) (Int32.ofNat (n_T L n m + 3)) :=
    ⟨cn, n96, c_ps h2, q_ps_207 h2 rfl, c_u0 h2, q_u0_32 h2 rfl, q_u0_33 h2 rfl, q_u0_37 h2 rfl, q_u0_41 h rfl, q_u0_43 h2 rfl, c_u1 h2, q_u1_32 h2 rfl, q_u1_33 h2 rfl, q_u1_37 h2 rfl, q_u1_41 h rfl, q_u1_43 h2 rfl, c_u2 h2, q_u2_32 h2 rfl, q_u2_33 h2 rfl, q_u2_37 h2 rfl, q_u2_41 h rfl, q_u2_43 h2 rfl, c_u3 h2, q_u3_32 h2 rfl, q_u3_33 h2 rfl, q_u3_37 h2 rfl, q_u3_41 h rfl, q_u3_43 h2 rfl, c_u4 h2, q_u4_32 h2 rfl, q_u4_33 h2 rfl, q_u4_37 h2 rfl, q_u4_41 h rfl, q_u4_43 h2 rfl, c_dl h2 (k := 0) (by omega), q_dl_32 h2 rfl (k := 0) (by omega), c_dr h2, q_dr_32 h2 rfl, q_dr_37 h2 rfl, c_im1 h2, q_im1_32 h2 rfl, q_im1_33 h2 rfl, q_im1_37 h2 rfl, c_ima h2, q_ima_32 h2 rfl, q_ima_33 h2 rfl, q_ima_37 h2 rfl, c_imb h2, q_imb_32 h2 rfl, q_imb_33 h2 rfl, q_imb_37 h2 rfl, c_im4 h2, q_im4_32 h2 rfl, q_im4_33 h2 rfl, q_im4_37 h2 rfl, c_dh h2, q_dh_32 h2 rfl, q_dh_37 h2 rfl,
    (fun e => by have := nat_inj (a := 0) (b := n_T L n m) (by omega) (by simp only [n_T]; omega) e; unfold n_T at this; omega),
    (fun e => by have := nat_inj (a := 0) (b := n_T L n m + 1) (by omega) (by simp only [n_T]; omega) e; unfold n_T at this; omega),
    (fun e => by have := nat_inj (a := 0) (b := n_T L n m + 3) (by omega) (by simp only [n_T]; omega) e; unfold n_T at this; omega),
    (fun e => by have := nat_inj (a := n_T L n m) (b := n_T L n m + 1) (by simp only [n_T]; omega) (by simp only [n_T]; omega) e; unfold n_T at this; omega),
    (fun e => by have := nat_inj (a := n_T L n m) (b := n_T L n m + 3) (by simp only [n_T]; omega) (by simp only [n_T]; omega) e; unfold n_T at this; omega),
    (fun e => by have := nat_inj (a := n_T L n m + 1) (b := n_T L n m + 3) (by simp only [n_T]; omega) (by simp only [n_T]; omega) e; unfold n_T at this; omega),
    (by unfold a_T; omega), (by omega), (by omega), (by omega)⟩
  have hU5 := U5_facts (σ := σ) hx
  have hsm1 : ∀ φ, Sm P1 σ (sS (U5 σ 27 (a_T L n m) (a_T L n m + 6) (a_T L n m + 9) (a_T L n m + 17) (a_T L n m + 1) (a_T L n m + 7) (a_T L n m + 8) (a_T L n m + 18)) 165 φ) := fun φ => U5_sm rfl rfl rfl
  have h46 : sF σ 27 46 = .null ∧ sF σ (a_T L n m) 46 = .null ∧ sF σ (a_T L n m + 6) 46 = .null := ⟨q_u0_46 h rfl, q_u1_46 h rfl, q_u2_46 h rfl⟩
  have hcU : sC (U5 σ 27 (a_T L n m) (a_T L n m + 6) (a_T L n m + 9) (a_T L n m + 17) (a_T L n m + 1) (a_T L n m + 7) (a_T L n m + 8) (a_T L n m + 18)) 3 nmo = true := cn
  have hzU : sZ (U5 σ 27 (a_T L n m) (a_T L n m + 6) (a_T L n m + 9) (a_T L n m + 17) (a_T L n m + 1) (a_T L n m + 7) (a_T L n m + 8) (a_T L n m + 18)) = sZ σ ∧ sc (U5 σ 27 (a_T L n m) (a_T L n m + 6) (a_T L n m + 9) (a_T L n m + 17) (a_T L n m + 1) (a_T L n m + 7) (a_T L n m + 8) (a_T L n m + 18)) = sc σ ∧ ss (U5 σ 27 (a_T L n m) (a_T L n m + 6) (a_T L n m + 9) (a_T L n m + 17) (a_T L n m + 1) (a_T L n m + 7) (a_T L n m + 8) (a_T L n m + 18)) = ss σ := ⟨rfl, rfl, rfl⟩
  have gj := g_nJudge (X := X) (d := d) (σ := σ) (by omega) (oh := a_T L n m + 3) (orr := a_T L n m + 11) (ds0 := ds0 L n m) (ns := a_ns L n m) (nd := ndf σ) (op := opf σ) (rs := rsf L σ) hUN hx h46
  generalize hUe : U5 σ 27 (a_T L n m) (a_T L n m + 6) (a_T L n m + 9) (a_T L n m + 17) (a_T L n m + 1) (a_T L n m + 7) (a_T L n m + 8) (a_T L n m + 18) = U at gj hU5 hsm1 hcU hzU
  obtain ⟨k48, k1, k2, k3, k4, k5, k6, k7, k8, k9⟩ := hU5
  have hW1 : ∀ φ, We P1 lf L n m (sS U 165 φ) := fun φ => (h.sub rfl).sm (hsm1 φ)
  have hW : ∀ φ, We P2 lf L n m (sS U 165 φ) := fun φ => (hW1 φ).sub rfl
  have hN : ∀ φ, NM L n m (sS U 165 φ) := fun φ => ⟨k1, k2, k3, k4, k5, k6, k7.trans h46.1, k8.trans h46.2.1, k9.trans h46.2.2⟩
  have r1 : rsf L σ (a_T L n m + 3) = a_ds L L := rs_of hL.2 hnm.2 (by omega) ((q_oh_161 h2 rfl).trans (by rw [dn_l (Nat.le_refl L)]))
  have r2 : rsf L σ (a_T L n m + 11) = a_ds L L := rs_of hL.2 hnm.2 (by omega) ((q_orr_161 h2 rfl).trans (by rw [dn_l (Nat.le_refl L)]))
  have gk := gj (q_ps_208 h2 rfl) (q_ps_209 h2 rfl) n97 (by have := e_ds0 hL.1 hnm.1 h2; rw [q_u0_43 h2 rfl] at this; exact this) (e_ns hL.1 hnm.1 h2) (fun a ha => ?_) (fun φ => e_dm (i := 0) (fun i hi => ⟨(e_d hL.1 h2 hi).1, n_decl0 (by omega) hL hnm (hW φ) (hN φ) hi⟩)) (fun φ => n_im1 (by omega) (hW φ) (hN φ)) (fun φ => n_ima (by omega) (hW φ) (hN φ)) (fun φ => n_imb (by omega) hL.2 hnm.2 (hW φ) (hN φ)) (fun φ => n_im4 (by omega) (hW φ) (hN φ)) (fun φ => by rw [r1]; exact n_dh (by omega) hL hnm (hW φ) (hN φ) hcU) (fun φ => by rw [r2]; exact n_dr (by omega) hL hnm (hW φ) (hN φ) hcU) (fun φ a ha => n_nodes (by omega) hD h2 hW hN hcU a ha φ)
  · refine gk.mono ?_
    rintro v σ1 ⟨hv, φ, rfl, f1, f2, f3⟩
    have g3 : ∀ a ∈ a_ns L n m, ∀ op i, i < L + (n + m) + 1 → sF σ a 128 = .int 13 → sF σ a 137 = .ref op → sF σ op 161 = .int (Int32.ofNat (dnN L i)) → φ op = .ref (a_ds L i) := by
      intro a ha op i hi e1 e2 e3
      have := f3 a ha (by unfold ndf; rw [e1]; rfl)
      rw [show opf σ a = op by unfold opf; rw [e2]; rfl, rs_of hL.2 hnm.2 hi e3] at this
      exact this
    refine ⟨hv, hW1 φ, ⟨k48, ?_, ?_, ?_, ?_, ?_, ?_, ?_⟩, hzU.1, hzU.2.1, hzU.2.2⟩
    · intro k hk h0
      have := g3 (a_nl k) (by
        unfold a_ns a_lvs
        simp only [List.mem_append, List.mem_cons, List.mem_flatMap, List.mem_range, List.not_mem_nil, or_false]
        exact Or.inr (Or.inl ⟨k - 1, by omega, Or.inl (by rw [show k - 1 + 1 = k by omega])⟩)) (a_ol k) (k - 1) (by omega) (q_nl_128 h2 rfl hk h0) (q_nl_137 h2 rfl hk h0) ((q_ol_161 h2 rfl hk h0).trans (by rw [dn_l (show k - 1 ≤ L by omega), show 2 * (k - 1) + 1 = 2 * k - 1 by omega]))
      rw [a_ds_l (show k - 1 < L by omega)] at this
      exact this
    · have := g3 (a_on L) (by unfold a_ns; simp) (a_oo L) sh (by omega) (q_on_128 h2 rfl) (q_on_137 h2 rfl) ((q_oo_161 h2 rfl).trans (by rw [l1, dn_l (show sh ≤ L by omega)]))
      rw [a_ds_l (show sh < L by omega)] at this
      exact this
    · intro r hr
      have hs := r_s_lt hn.1 hm.1 hr
      have := g3 (a_rg L r + 3) (by
        unfold a_ns a_rgs
        simp only [List.mem_append, List.mem_cons, List.mem_flatMap, List.mem_range, List.not_mem_nil, or_false]
        exact Or.inr (Or.inr (Or.inr (Or.inl ⟨r, hr, Or.inr (Or.inr rfl)⟩)))) (a_rg L r + 4) (L + 1 + r_s n m r) (by omega) (q_rn_128 h2 rfl hr) (q_rn_137 h2 rfl hr) ((q_ro_161 h2 rfl hr).trans (by rw [dn_r]))
      rw [a_ds_r] at this
      exact this
    · have := f1
      rw [r1, a_ds_o (by omega)] at this
      exact this
    · have := g3 (a_T L n m + 4) (by unfold a_ns; simp) (a_T L n m + 5) mo (by omega) (q_hn_128 h2 rfl) (q_hn_137 h2 rfl) ((q_ho_161 h2 rfl).trans (by rw [l3, dn_l (show mo ≤ L by omega)]))
      rw [a_ds_l (show mo < L by omega)] at this
      exact this
    · have := f2
      rw [r2, a_ds_o (by omega)] at this
      exact this
    · have := g3 (a_T L n m + 12) (by unfold a_ns; simp) (a_T L n m + 13) hi (by omega) (q_vn_128 h2 rfl) (q_vn_137 h2 rfl) ((q_vo_161 h2 rfl).trans (by rw [l2, dn_l (show hi ≤ L by omega)]))
      rw [a_ds_l (show hi < L by omega)] at this
      exact this
  · exact ns_all (p := fun a => sC σ 4 a = true) hL.1 (c_root h2) (c_int h2) (c_bool h2) (fun k hk => c_lv h2 hk) (fun k hk h0 => c_nl h2 hk h0) (c_oN h2) (c_on h2) (fun r hr => c_rr h2 hr) (fun r hr => c_ra h2 hr) (fun r hr => c_rn h2 hr) (c_hn h2) (c_vn h2) (c_vl h2) a ha
end N73
