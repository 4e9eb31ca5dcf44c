/-! the second round and the layout over what parse leaves -/
/-- the declaration that stands above one, by its name -/
def gab (L hi a : Nat) : Option Nat := bif (Nat.ble 31 a && Nat.ble a (25 + 5 * L) && Nat.beq (Nat.mod (a - 26) 5) 0) then some (a_dl (Nat.div (a - 26) 5 - 1)) else bif Nat.beq a (26 + 5 * L) then some (a_dl hi) else none
theorem gab_l {L hi k : Nat} (hk : k < L) (h0 : 0 < k) : gab L hi (a_dl k) = some (a_dl (k - 1)) := by
  have e : a_dl k = 26 + 5 * k := by unfold a_dl; rw [nb_ne (show k ≠ 0 by omega)]; rfl
  rw [e]
  unfold gab
  rw [bleT (show 31 ≤ 26 + 5 * k by omega), bleT (show 26 + 5 * k ≤ 25 + 5 * L by omega), nmod (q := k) (r := 0) (by decide) (show 26 + 5 * k - 26 = 5 * k + 0 by omega), ndiv (q := k) (r := 0) (by decide) (show 26 + 5 * k - 26 = 5 * k + 0 by omega)]
  rfl
theorem gab_0 {L hi : Nat} (hL : 1 ≤ L) : gab L hi 28 = none := by
  unfold gab
  rw [show Nat.ble 31 28 = false from rfl, nb_ne (show 28 ≠ 26 + 5 * L by omega)]
  rfl
theorem gab_o {L hi : Nat} : gab L hi (a_do L) = some (a_dl hi) := by
  unfold gab a_do
  rw [bleF (show 25 + 5 * L < 26 + 5 * L by omega), nb_self, Bool.and_false]
  rfl
theorem gab_r {L hi r : Nat} : gab L hi (a_rg L r) = none := by
  unfold gab a_rg
  rw [bleF (show 25 + 5 * L < 30 + 5 * L + 5 * r by omega), nb_ne (show 30 + 5 * L + 5 * r ≠ 26 + 5 * L by omega), Bool.and_false]
  rfl
def dlL : Nat → List Nat
  | 0 => [28]
  | k + 1 => a_dl (k + 1) :: dlL k
theorem dlL_len : ∀ k, (dlL k).length = k + 1
  | 0 => rfl
  | k + 1 => by
    unfold dlL
    rw [List.length_cons, dlL_len k]
theorem dlL_chn {L hi : Nat} (hL : 1 ≤ L) : ∀ k, k < L → Chn (gab L hi) (some (a_dl k)) (dlL k)
  | 0, _ => ⟨rfl, gab_0 hL⟩
  | k + 1, hk => ⟨rfl, by
    rw [gab_l hk (by omega)]
    exact dlL_chn hL k (by omega)⟩
theorem dlL_all {p : Nat → Prop} : ∀ k, (∀ j, j ≤ k → p (a_dl j)) → ∀ a ∈ dlL k, p a
  | 0, h, a, ha => by
    cases List.mem_singleton.mp ha
    exact h 0 (Nat.le_refl 0)
  | k + 1, h, a, ha => by
    unfold dlL at ha
    rcases List.mem_cons.mp ha with rfl | ha
    · exact h (k + 1) (Nat.le_refl _)
    · exact dlL_all k (fun j hj => h j (by omega)) a ha
theorem a_dl_le {j k : Nat} (h : j < k) : a_dl j < a_dl k := by
  unfold a_dl
  rw [nb_ne (show k ≠ 0 by omega)]
  by_cases e : j = 0
  · subst e
    show 28 < 26 + 5 * k
    omega
  · rw [nb_ne e]
    show 26 + 5 * j < 26 + 5 * k
    omega
section W80
variable {X : ev_X} {d : Nat} {lf : UInt32 → Int32} {L n m sh hi mo : Nat} {bd : Nat → Nat} {ty : Nat} {σ : fl_S}
theorem j_abn_l (hd : 1 ≤ d) (hF : FIN lf L n m sh hi mo bd ty σ) {k : Nat} (hk : k < L) : CF X d 104 [.ref ty, .ref (a_dl k)] σ (some (va_rf (gab L hi (a_dl k)))) σ := by
  obtain ⟨h, hN, hT, -, -, -, -, hR, -⟩ := hF
  have he := q_lv_134 h rfl hk
  by_cases e : k = 0
  · subst e
    rw [show a_dl 0 = 28 from rfl, gab_0 (by omega)]
    exact g_abn_l0 hd (c_dl h hk) (q_dl_32 h rfl hk) (q_dl_38 h rfl hk) (c_lv h hk) (q_lv_128 h rfl hk) he (c_root h) (q_root_128 h rfl)
  · rw [nb_ne e] at he
    rw [gab_l hk (by omega)]
    exact g_abn_lk hd (c_dl h hk) (q_dl_32 h rfl hk) (q_dl_38 h rfl hk) (c_lv h hk) (q_lv_128 h rfl hk) he (c_nl h hk (by omega)) (q_nl_128 h rfl hk (by omega)) (q_nl_137 h rfl hk (by omega)) (c_ol h hk (by omega)) (hN.2.1 k hk (by omega))
theorem j_OW (hD : Dr lf L n m sh hi mo bd) (hF : FIN lf L n m sh hi mo bd ty σ) : OW σ (a_oN L) (a_do L) (a_on L) (a_lv sh) (a_T L n m + 2) (a_T L n m + 4) (a_lv mo) (a_T L n m + 10) (a_T L n m) (a_T L n m + 9) (a_T L n m + 14) := by
  obtain ⟨h, -, -, -, -, -, hUF, hR, hO, -⟩ := hF
  exact w_OW hD h hUF hR hO
theorem j_abn_o (hd : 2 ≤ d) (hD : Dr lf L n m sh hi mo bd) (hF : FIN lf L n m sh hi mo bd ty σ) : CF X d 104 [.ref ty, .ref (a_do L)] σ (some (va_rf (gab L hi (a_do L)))) σ := by
  have hO := j_OW hD hF
  obtain ⟨h, hN, hT, -⟩ := hF
  rw [gab_o]
  exact g_abn_o hd hT.1 hO (q_do_32 h rfl) (q_do_38 h rfl) (q_vl_128 h rfl) (q_vl_134 h rfl) (c_vn h) (q_vn_128 h rfl) (q_vn_137 h rfl) (c_vo h) hN.2.2.2.2.2.2.2
theorem j_abn_r (hd : 1 ≤ d) (hF : FIN lf L n m sh hi mo bd ty σ) {r : Nat} (hr : r < n + m) : CF X d 104 [.ref ty, .ref (a_rg L r)] σ (some (va_rf (gab L hi (a_rg L r)))) σ := by
  obtain ⟨h, -⟩ := hF
  rw [gab_r]
  exact g_abn_ref hd (c_rd h hr) (q_rd_32 h rfl hr) (q_rd_38 h rfl hr) (c_rr h hr) (q_rr_128 h rfl hr)
theorem j_ring (hd : 4 ≤ d) (hD : Dr lf L n m sh hi mo bd) (hF : FIN lf L n m sh hi mo bd ty σ) {a : Nat} {l : List Nat} (ha : CF X (d - 1) 104 [.ref ty, .ref a] σ (some (va_rf (gab L hi a))) σ) (hl : Chn (gab L hi) (gab L hi a) l) (hg : ∀ e ∈ l, ∃ k, k < L ∧ e = a_dl k) (hno : a ∉ l) (hlen : l.length ≤ L) : CF X d 103 [.ref ty, .ref a] σ (some (.int 0)) σ := by
  have hF0 := hF
  obtain ⟨h, hN, hT, hU, ⟨TR, hA, -⟩, -⟩ := hF0
  obtain ⟨hL, hn, hm, -⟩ := hD
  exact g_isInRing (by omega) hT.1 hT.2.2.1 hA (by omega) ha hl (fun e he => by
    obtain ⟨k, hk, rfl⟩ := hg e he
    exact j_abn_l (by omega) hF hk) hno (by omega)
theorem j_ring_l (hd : 4 ≤ d) (hD : Dr lf L n m sh hi mo bd) (hF : FIN lf L n m sh hi mo bd ty σ) {k : Nat} (hk : k < L) : CF X d 103 [.ref ty, .ref (a_dl k)] σ (some (.int 0)) σ := by
  have hL := hD.1
  by_cases e : k = 0
  · subst e
    exact j_ring hd hD hF (l := []) (j_abn_l (by omega) hF hk) (gab_0 (by omega)) (fun e he => by cases he) (fun he => by cases he) (by simp)
  · refine j_ring hd hD hF (l := dlL (k - 1)) (j_abn_l (by omega) hF hk) (by rw [gab_l hk (by omega)]; exact dlL_chn (by omega) _ (by omega)) (dlL_all (k - 1) (fun j hj => ⟨j, by omega, rfl⟩)) (fun he => ?_) (by rw [dlL_len]; omega)
    have := dlL_all (p := fun a => a < a_dl k) (k - 1) (fun j hj => a_dl_le (by omega)) _ he
    exact absurd this (Nat.lt_irrefl _)
theorem j_ring_o (hd : 4 ≤ d) (hD : Dr lf L n m sh hi mo bd) (hF : FIN lf L n m sh hi mo bd ty σ) : CF X d 103 [.ref ty, .ref (a_do L)] σ (some (.int 0)) σ := by
  have hL := hD.1
  have hh := hD.2.2.2.2.1
  refine j_ring hd hD hF (l := dlL hi) (j_abn_o (by omega) hD hF) (by rw [gab_o]; exact dlL_chn (by omega) _ hh) (dlL_all hi (fun j hj => ⟨j, by omega, rfl⟩)) (fun he => ?_) (by rw [dlL_len]; omega)
  have := dlL_all (p := fun a => a < a_do L) hi (fun j hj => by
    have := a_dl_le (j := j) (k := L) (by omega)
    have e : a_dl L = a_do L := by unfold a_dl a_do; rw [nb_ne (show L ≠ 0 by omega)]; rfl
    rw [e] at this
    exact this) _ he
  exact absurd this (Nat.lt_irrefl _)
theorem j_ring_r (hd : 4 ≤ d) (hD : Dr lf L n m sh hi mo bd) (hF : FIN lf L n m sh hi mo bd ty σ) {r : Nat} (hr : r < n + m) : CF X d 103 [.ref ty, .ref (a_rg L r)] σ (some (.int 0)) σ :=
  j_ring hd hD hF (l := []) (j_abn_r (by omega) hF hr) gab_r (fun e he => by cases he) (fun he => by cases he) (by simp)
/-- the OPAQUE type is below a level in the whole -/
theorem j_abw (hd : 2 ≤ d) (hD : Dr lf L n m sh hi mo bd) (hF : FIN lf L n m sh hi mo bd ty σ) {x : Nat} (hx : x ≤ hi) : CF X d 102 [.ref ty, .ref (a_oN L), .ref (a_lv x)] σ (some (.int 1)) σ := by
  obtain ⟨h, hN, hT, hU, hA, hP, hUF, hR, hO, hFF, ⟨S, many, le, Lf, s1, s2, s3, s4, s5, s6, s7, s8, -⟩, -⟩ := hF
  obtain ⟨hL, hn, hm, d1, d2, d3, -⟩ := hD
  have hl := chL_chn (L := L) (hi := hi) (T := a_T L n m) (fup_24 (by unfold a_T; omega)) hi d2
  have hlt : ∀ a ∈ a_ns L n m, S a < 100000 := fun a ha => by have := (s1 a ha).2; omega
  have g := g_isAboveW (X := X) (d := d) (σ := σ) hd (ty := ty) (a := a_oN L) (b := a_lv x) (nn := x_T L n m + 3) (kb := 11) (f := fup L (a_T L n m) hi) (S := fun a => Int32.ofNat (S a)) (l := chL hi) hT.1 hT.2.2.2.2.2.1 (by unfold x_T; omega) (c_oN h) (hFF _ ns_oN) (s1 _ ns_oN).1 (c_lv h (by omega)) (q_lv_128 h rfl (by omega)) (Or.inr (Or.inl rfl)) (s1 _ (ns_lv (by omega))).1 (by rw [fup_o (by omega)]; exact hl)
    (chL_all (p := fun a => sC σ 4 a = true ∧ sF σ a 142 = .int (Int32.ofNat (S a)) ∧ sF σ a 140 = va_rf (fup L (a_T L n m) hi a)) ⟨c_root h, (s1 _ ns_24).1, hFF _ ns_24⟩ hi (fun j hj => ⟨c_lv h (by omega), (s1 _ (ns_lv (by omega))).1, hFF _ (ns_lv (by omega))⟩)) (by rw [chL_len]; unfold x_T; omega)
  rw [if_pos ((chL_any hi).mpr (Or.inr ⟨x, hx, by
    show (decide (Int32.ofNat (S (a_lv x)) = Int32.ofNat (S (a_lv x))) && !decide (Int32.ofNat (S (a_lv x)) = Int32.ofNat (S (a_oN L)))) = true
    rw [decide_eq_true rfl, decide_eq_false (fun e => (s6 x (by omega)).2.1 (nat_in (hlt _ (ns_lv (by omega))) (hlt _ ns_oN) e).symm)]
    rfl⟩))] at g
  exact g
theorem j_node (hd : 4 ≤ d) (hD : Dr lf L n m sh hi mo bd) (hF : FIN lf L n m sh hi mo bd ty σ) : ∀ a ∈ a_ns L n m, sC σ 4 a = true ∧ sF σ a 128 = .int (kdf σ a) ∧ CF X d 105 [.ref ty, .ref a] σ none σ ∧ (kdf σ a = 11 → CF X d 106 [.ref ty, .ref a] σ none σ) := by
  have hD0 := hD
  obtain ⟨hL, hn, hm, d1, d2, d3, -, -, -, hb⟩ := hD0
  obtain ⟨h, hN, hT, hU, hA, hP, hUF, hR, hO, hFF, hSH, hVF, hCE⟩ := hF
  have o : ∀ {a : Nat} {k : Int32}, sC σ 4 a = true → sF σ a 128 = .int k → ¬ k = 2 → ¬ k = 3 → ¬ k = 4 → ¬ k = 6 → ¬ k = 11 → sC σ 4 a = true ∧ sF σ a 128 = .int (kdf σ a) ∧ CF X d 105 [.ref ty, .ref a] σ none σ ∧ (kdf σ a = 11 → CF X d 106 [.ref ty, .ref a] σ none σ) := fun c h1 e1 e2 e3 e4 e5 => ⟨c, vI_of h1, g_judgeNode_n (by omega) c h1 e1 e2 e3 e4 e5, fun e => absurd ((kd_of h1).symm.trans e) e5⟩
  refine ns_all hL.1 (o (c_root h) (q_root_128 h rfl) (by decide) (by decide) (by decide) (by decide) (by decide)) (o (c_int h) (q_int_128 h rfl) (by decide) (by decide) (by decide) (by decide) (by decide)) (o (c_bool h) (q_bool_128 h rfl) (by decide) (by decide) (by decide) (by decide) (by decide)) (fun k hk => ?_) (fun k hk h0 => o (c_nl h hk h0) (q_nl_128 h rfl hk h0) (by decide) (by decide) (by decide) (by decide) (by decide)) (o (c_oN h) (q_oN_128 h rfl) (by decide) (by decide) (by decide) (by decide) (by decide)) (o (c_on h) (q_on_128 h rfl) (by decide) (by decide) (by decide) (by decide) (by decide)) (fun r hr => o (c_rr h hr) (q_rr_128 h rfl hr) (by decide) (by decide) (by decide) (by decide) (by decide)) (fun r hr => ?_) (fun r hr => o (c_rn h hr) (q_rn_128 h rfl hr) (by decide) (by decide) (by decide) (by decide) (by decide)) (o (c_hn h) (q_hn_128 h rfl) (by decide) (by decide) (by decide) (by decide) (by decide)) (o (c_vn h) (q_vn_128 h rfl) (by decide) (by decide) (by decide) (by decide) (by decide)) ?_
  · have he := q_lv_134 h rfl hk
    refine ⟨c_lv h hk, vI_of (q_lv_128 h rfl hk), ?_, fun _ => g_judgeMethods (by omega) (c_lv h hk) (q_lv_138 h rfl hk) (q_lv_131 h rfl hk) (q_lv_135 h rfl hk) (c_fd h hk) (q_fd_32 h rfl hk) (q_fd_37 h rfl hk)⟩
    by_cases e : k = 0
    · subst e
      exact g_judgeNode_L (by omega) (c_lv h hk) (q_lv_128 h rfl hk) he (c_root h) hR.1 (c_root h) (q_root_128 h rfl) (Or.inl rfl)
    · rw [nb_ne e] at he
      exact g_judgeNode_L (by omega) (c_lv h hk) (q_lv_128 h rfl hk) he (c_nl h hk (by omega)) (hR.2.2.2.2.1 k hk (by omega)) (c_lv h (by omega)) (q_lv_128 h rfl (show k - 1 < L by omega)) (Or.inr (Or.inl rfl))
  · obtain ⟨cl, e1, e2⟩ := hCE.2.2.2.1 r hr
    refine ⟨c_ra h hr, vI_of (q_ra_128 h rfl hr), ?_, fun e => absurd ((kd_of (q_ra_128 h rfl hr)).symm.trans e) (by decide)⟩
    have hh := (q_ra_133 h rfl hr).trans (hb r hr).1
    rcases (hb r hr).2 with e | e
    · rw [e] at hh
      exact g_judgeNode_A1 (by omega) (c_ra h hr) (q_ra_128 h rfl hr) (q_ra_132 h rfl hr) hh e1 e2
    · rw [e] at hh
      exact g_judgeNode_A2 (by omega) (c_ra h hr) (q_ra_128 h rfl hr) (q_ra_132 h rfl hr) hh e1 e2
  · refine ⟨c_vl h, vI_of (q_vl_128 h rfl), g_judgeNode_L (by omega) (c_vl h) (q_vl_128 h rfl) (q_vl_134 h rfl) (c_vn h) hR.2.2.2.2.2.2.2.2.2.2.2.1 (c_lv h d2) (q_lv_128 h rfl d2) (Or.inr (Or.inl rfl)), fun _ => ?_⟩
    exact g_judgeMethodsR (by omega) (c_vl h) (q_vl_138 h rfl) (q_vl_131 h rfl) (q_vl_135 h rfl) (c_fz h) (q_fz_32 h rfl) (q_fz_37 h rfl) (g_revealed (by omega) (c_dr h) (q_dr_40 h rfl) (c_orr h) hN.2.2.2.2.2.2.1 (c_do h) (q_do_38 h rfl) (c_oN h) hR.2.2.2.2.2.1)
theorem j_decl0 (hd : 6 ≤ d) (hD : Dr lf L n m sh hi mo bd) (hF : FIN lf L n m sh hi mo bd ty σ) {i : Nat} (hi' : i < L + (n + m) + 1) : CF X d 100 [.ref ty, .ref (a_ds L i)] σ none σ := by
  have hD0 := hD
  obtain ⟨hL, hn, hm, d1, d2, d3, -⟩ := hD0
  have hF0 := hF
  obtain ⟨h, hN, hT, hU, hA, hP, hUF, hR, hO, hFF, hSH, hVF, hCE⟩ := hF0
  by_cases e : i < L
  · rw [a_ds_l e]
    exact g_judgeDecl_T (by omega) (c_dl h e) (q_dl_32 h rfl e) (q_dl_38 h rfl e) (c_lv h e) (hR.2.2.2.1 i e) (c_lv h e) (hCE.1 i e) (by decide) (j_ring_l (by omega) hD hF e) hT.1
  · by_cases e2 : i = L
    · subst e2
      rw [a_ds_o (by omega)]
      exact g_judgeDecl_O (by omega) (j_OW hD hF) (q_do_32 h rfl) (q_do_38 h rfl) (j_abw (by omega) hD hF d1) hT.1
    · obtain ⟨r, rfl⟩ : ∃ r, i = L + 1 + r := ⟨i - (L + 1), by omega⟩
      have hr : r < n + m := by omega
      rw [a_ds_r]
      exact g_judgeDecl_T (by omega) (c_rd h hr) (q_rd_32 h rfl hr) (q_rd_38 h rfl hr) (c_rr h hr) (hR.2.2.2.2.2.2.2.1 r hr) (c_rr h hr) (hCE.2.1 r hr) (by decide) (j_ring_r (by omega) hD hF hr) hT.1
theorem w_judge (hd : 10 ≤ d) (hD : Dr lf L n m sh hi mo bd) (hF : FIN lf L n m sh hi mo bd ty σ) : CF X d 99 [.ref ty] σ (some (.int 0)) σ := by
  have hD0 := hD
  obtain ⟨hL, hn, hm, d1, d2, d3, -⟩ := hD0
  have hF0 := hF
  obtain ⟨h, hN, hT, hU, hA, hP, hUF, hR, hO, hFF, hSH, hVF, hCE⟩ := hF0
  have hOW := j_OW hD hF
  refine g_judge (by omega) (w_UW hL.1 (by omega) h hT hU) (ns := a_ns L n m) hT.2.2.2.2.1 (e_ns hL.1 (by omega) h) hT.2.2.2.2.2.2 (j_node (by omega) hD hF) (i5 ?_ ?_ ?_ ?_ ?_)
  · exact e_dm (i := 0) (fun i hi' => j_decl0 (by omega) hD hF hi')
  · intro a ha
    have ha : a ∈ [a_T L n m + 1, a_T L n m + 2] := ha
    simp only [List.mem_cons, List.not_mem_nil, or_false] at ha
    rcases ha with rfl | rfl
    · exact g_judgeDecl_I (by omega) (c_im1 h) (q_im1_32 h rfl)
    · exact g_judgeDecl_6 (by omega) (c_dh h) (q_dh_32 h rfl) (g_judgeRevealH (by omega) (g_revealed (by omega) (c_dh h) (q_dh_40 h rfl) (c_oh h) hN.2.2.2.2.1 (c_do h) (q_do_38 h rfl) (c_oN h) hR.2.2.2.2.2.1) hOW (j_abw (by omega) hD hF d3) hT.1) hT.1
  · intro a ha
    have ha : a ∈ [a_T L n m + 7, a_T L n m + 8] := ha
    simp only [List.mem_cons, List.not_mem_nil, or_false] at ha
    rcases ha with rfl | rfl
    · exact g_judgeDecl_I (by omega) (c_ima h) (q_ima_32 h rfl)
    · exact g_judgeDecl_I (by omega) (c_imb h) (q_imb_32 h rfl)
  · intro a ha
    cases List.mem_singleton.mp ha
    exact g_judgeDecl_5 (by omega) (c_dr h) (q_dr_32 h rfl) (g_judgeRevealR (by omega) (g_revealed (by omega) (c_dr h) (q_dr_40 h rfl) (c_orr h) hN.2.2.2.2.2.2.1 (c_do h) (q_do_38 h rfl) (c_oN h) hR.2.2.2.2.2.1) hOW (j_ring_o (by omega) hD hF) hT.1) hT.1
  · intro a ha
    cases List.mem_singleton.mp ha
    exact g_judgeDecl_I (by omega) (c_im4 h) (q_im4_32 h rfl)
end W80
