/-! names replaced, REVEALs linked, what is above -/
/-- what types are, names replaced -/
def RF (L n m sh hi mo : Nat) (σ : fl_S) : Prop := sF σ 24 139 = .ref 24 ∧ sF σ 25 139 = .ref 25 ∧ sF σ 26 139 = .ref 26 ∧ (∀ k, k < L → sF σ (a_lv k) 139 = .ref (a_lv k)) ∧ (∀ k, k < L → 0 < k → sF σ (a_nl k) 139 = .ref (a_lv (k - 1))) ∧ sF σ (a_oN L) 139 = .ref (a_oN L) ∧ sF σ (a_on L) 139 = .ref (a_lv sh) ∧ (∀ r, r < n + m → sF σ (a_rg L r + 1) 139 = .ref (a_rg L r + 1)) ∧ (∀ r, r < n + m → sF σ (a_rg L r + 2) 139 = .ref (a_rg L r + 2)) ∧ (∀ r, r < n + m → sF σ (a_rg L r + 3) 139 = .ref (a_rg L (r_s n m r) + 1)) ∧ sF σ (a_T L n m + 4) 139 = .ref (a_lv mo) ∧ sF σ (a_T L n m + 12) 139 = .ref (a_lv hi) ∧ sF σ (a_T L n m + 14) 139 = .ref (a_T L n m + 14)
theorem RF.sm {L n m sh hi mo : Nat} {P : List Nat} {σ τ : fl_S} (h : RF L n m sh hi mo σ) (hs : Sm P σ τ) (hp : iP 139 P = true) : RF L n m sh hi mo τ := by
  obtain ⟨a1, a2, a3, a4, a5, a6, a7, a8, a9, b1, b2, b3, b4⟩ := h
  exact ⟨(hs.2 _ _ hp).trans a1, (hs.2 _ _ hp).trans a2, (hs.2 _ _ hp).trans a3, fun k hk => (hs.2 _ _ hp).trans (a4 k hk), fun k hk h0 => (hs.2 _ _ hp).trans (a5 k hk h0), (hs.2 _ _ hp).trans a6, (hs.2 _ _ hp).trans a7, fun r hr => (hs.2 _ _ hp).trans (a8 r hr), fun r hr => (hs.2 _ _ hp).trans (a9 r hr), fun r hr => (hs.2 _ _ hp).trans (b1 r hr), (hs.2 _ _ hp).trans b2, (hs.2 _ _ hp).trans b3, (hs.2 _ _ hp).trans b4⟩
def rlf (σ : fl_S) (a : Nat) : Nat := if vI (sF σ a 128) = 13 then vR (sF σ (vR (sF σ (vR (sF σ a 137)) 165)) 38) else a
theorem rlf_n {σ : fl_S} {a op d p : Nat} (h1 : sF σ a 128 = .int 13) (h2 : sF σ a 137 = .ref op) (h3 : sF σ op 165 = .ref d) (h4 : sF σ d 38 = .ref p) : rlf σ a = p := by
  unfold rlf
  rw [h1, h2, if_pos (show vI (.int 13) = 13 from rfl)]
  show vR (sF σ (vR (sF σ op 165)) 38) = p
  rw [h3]
  show vR (sF σ d 38) = p
  rw [h4]
  rfl
theorem rlf_o {σ : fl_S} {a : Nat} {k : Int32} (h1 : sF σ a 128 = .int k) (hk : ¬ k = 13) : rlf σ a = a := by
  unfold rlf
  rw [h1]
  exact if_neg hk
section W75
variable {X : ev_X} {d : Nat} {lf : UInt32 → Int32} {L n m sh hi mo : Nat} {bd : Nat → Nat} {ty : Nat}
/-- a type replaced, over any state -/
theorem w_rep (hd : 1 ≤ d) (hD : Dr lf L n m sh hi mo bd) {σ τ : fl_S} (h : We P2 lf L n m τ) (hN : NF L n m sh hi mo τ) (hT : TY L n m ty τ) (hR : TA L n m ty τ) (hs : ∀ a g, iP g PB = true → ¬ g = 139 → sF τ a g = sF σ a g) : ∀ a ∈ a_ns L n m, CF X d 76 [.ref ty, .ref a] τ (some (va_rf (some (rlf σ a)))) τ := by
  obtain ⟨hL, hn, hm, d1, d2, d3, -⟩ := hD
  obtain ⟨TR, hR, -⟩ := hR
  obtain ⟨-, n1, n2, n3, n4, n5, n6, n7⟩ := hN
  have ho : ∀ {a : Nat} {k : Int32}, sC τ 4 a = true → sF τ a 128 = .int k → ¬ k = 13 → CF X d 76 [.ref ty, .ref a] τ (some (va_rf (some (rlf σ a)))) τ := fun {a k} c h1 hk => by
    rw [rlf_o ((hs _ _ rfl (by decide)).symm.trans h1) hk]
    exact g_replaced_o hd hT.1 hT.2.2.1 hR (by omega) c h1 hk
  have hn' : ∀ {a op q p : Nat} {k : Int32}, sC τ 4 a = true → sF τ a 128 = .int 13 → sF τ a 137 = .ref op → sC τ 5 op = true → sF τ op 165 = .ref q → sC τ 1 q = true → sF τ q 38 = .ref p → sC τ 4 p = true → sF τ p 128 = .int k → ¬ k = 13 → CF X d 76 [.ref ty, .ref a] τ (some (va_rf (some (rlf σ a)))) τ := fun {a op q p k} c h1 h2 h3 h4 h5 h6 h7 h8 h9 => by
    rw [rlf_n ((hs _ _ rfl (by decide)).symm.trans h1) ((hs _ _ rfl (by decide)).symm.trans h2) ((hs _ _ rfl (by decide)).symm.trans h4) ((hs _ _ rfl (by decide)).symm.trans h6)]
    exact g_replaced_n hd hT.1 hT.2.2.1 hR (by omega) (by omega) c h1 h2 h3 h4 h5 h6 h7 h8 h9
  refine ns_all hL.1 (ho (c_root h) (q_root_128 h rfl) (by decide)) (ho (c_int h) (q_int_128 h rfl) (by decide)) (ho (c_bool h) (q_bool_128 h rfl) (by decide)) (fun k hk => ho (c_lv h hk) (q_lv_128 h rfl hk) (by decide)) (fun k hk h0 => ?_) (ho (c_oN h) (q_oN_128 h rfl) (by decide)) ?_ (fun r hr => ho (c_rr h hr) (q_rr_128 h rfl hr) (by decide)) (fun r hr => ho (c_ra h hr) (q_ra_128 h rfl hr) (by decide)) (fun r hr => ?_) ?_ ?_ (ho (c_vl h) (q_vl_128 h rfl) (by decide))
  · have hk' : k - 1 < L := by omega
    exact hn' (c_nl h hk h0) (q_nl_128 h rfl hk h0) (q_nl_137 h rfl hk h0) (c_ol h hk h0) (n1 k hk h0) (c_dl h hk') (q_dl_38 h rfl hk') (c_lv h hk') (q_lv_128 h rfl hk') (by decide)
  · have hk' : sh < L := by omega
    exact hn' (c_on h) (q_on_128 h rfl) (q_on_137 h rfl) (c_oo h) n2 (c_dl h hk') (q_dl_38 h rfl hk') (c_lv h hk') (q_lv_128 h rfl hk') (by decide)
  · have hr' := r_s_lt hn.1 hm.1 hr
    exact hn' (c_rn h hr) (q_rn_128 h rfl hr) (q_rn_137 h rfl hr) (c_ro h hr) (n3 r hr) (c_rd h hr') (q_rd_38 h rfl hr') (c_rr h hr') (q_rr_128 h rfl hr') (by decide)
  · have hk' : mo < L := by omega
    exact hn' (c_hn h) (q_hn_128 h rfl) (q_hn_137 h rfl) (c_ho h) n5 (c_dl h hk') (q_dl_38 h rfl hk') (c_lv h hk') (q_lv_128 h rfl hk') (by decide)
  · exact hn' (c_vn h) (q_vn_128 h rfl) (q_vn_137 h rfl) (c_vo h) n7 (c_dl h d2) (q_dl_38 h rfl d2) (c_lv h d2) (q_lv_128 h rfl d2) (by decide)
theorem w_cn (hL : 2 ≤ L) {σ : fl_S} (h : We P2 lf L n m σ) : ∀ a ∈ a_ns L n m, sC σ 4 a = true := ns_all (p := fun a => sC σ 4 a = true) hL (c_root h) (c_int h) (c_bool h) (fun k hk => c_lv h hk) (fun k hk h0 => c_nl h hk h0) (c_oN h) (c_on h) (fun r hr => c_rr h hr) (fun r hr => c_ra h hr) (fun r hr => c_rn h hr) (c_hn h) (c_vn h) (c_vl h)
def PC : List Nat := [32,33,36,37,38,39,40,41,42,43,44,46,47,48,128,129,131,132,133,134,135,136,137,138,140,141,142,143,144,145,146,160,161,162,165,192,195,205,207,208,209,210,211,227,289,290,291,292,297,298,300,320,321,322,323,324]
theorem We.PC {σ τ : fl_S} {P : List Nat} (h : We P2 lf L n m σ) (hs : Sm P σ τ) (hp : (P2.all fun g => iP g P) = true) : We P2 lf L n m τ := h.sm (hs.sub hp)
theorem w_real {Q : Option Value → fl_S → Prop} (hd : 2 ≤ d) (hD : Dr lf L n m sh hi mo bd) {σ : fl_S} (h : We P2 lf L n m σ) (hN : NF L n m sh hi mo σ) (hT : TY L n m ty σ) (hR : TA L n m ty σ)
    (next : ∀ σ1, Sm PC σ σ1 → Ar (ty + 6) σ σ1 → RF L n m sh hi mo σ1 → sZ σ1 = sZ σ → sc σ1 = sc σ → ss σ1 = ss σ → EQ X (d - 1) 74 30 [(0, .ref ty)] [] σ1 Q) : EQ X (d - 1) 74 9 [(1, .ref 24), (0, .ref ty)] [] σ Q := by
  have hD0 := hD
  obtain ⟨hL, hn, hm, d1, d2, d3, -⟩ := hD0
  have hsm : ∀ φ, Sm PC σ (sS σ 139 φ) := fun φ => Sm.rf.s rfl
  have hsm2 : ∀ φ, Sm [48, 165] σ (sS σ 139 φ) := fun φ => Sm.rf.s rfl
  have hsm9 : ∀ φ, Sm P9 σ (sS σ 139 φ) := fun φ => Sm.rf.s rfl
  have hC : ∀ φ, ∀ a ∈ a_ns L n m, CF X (d - 1) 76 [.ref ty, .ref a] (sS σ 139 φ) (some (va_rf (some (rlf σ a)))) (sS σ 139 φ) := fun φ => w_rep (σ := σ) (by omega) hD (h.PC (hsm φ) rfl) (hN.sm (hsm2 φ) rfl rfl) (hT.sm (hsm9 φ)) hR (fun a g hg h9 => by
    show FS (sF σ) 139 φ a g = sF σ a g
    unfold FS
    rw [nb_ne h9]
    rfl)
  have g := g_set_real (X := X) (d := d) (σ := σ) (Q := Q) (ty := ty) (ns := a_ns L n m) (e_ns hL.1 (by omega) h) (w_cn hL.1 h) hT.1 (f := fun a => some (rlf σ a)) hC (fun φ f1 f2 => ?_) (a_ns L n m) [] (fun b => sF σ b 139) rfl (fun x hx => by cases hx) (fun _ _ => rfl)
  · rw [sS_same] at g
    exact g
  · refine next (sS σ 139 φ) (hsm φ) (fun _ _ => rfl) ?_ rfl rfl rfl
    obtain ⟨-, n1, n2, n3, n4, n5, n6, n7⟩ := hN
    have ho : ∀ {a : Nat} {k : Int32}, a ∈ a_ns L n m → sF σ a 128 = .int k → ¬ k = 13 → sF (sS σ 139 φ) a 139 = .ref a := fun {a k} ha h1 hk => by
      have := f1 a ha
      rw [rlf_o h1 hk] at this
      exact this
    have hn' : ∀ {a op q p : Nat}, a ∈ a_ns L n m → sF σ a 128 = .int 13 → sF σ a 137 = .ref op → sF σ op 165 = .ref q → sF σ q 38 = .ref p → sF (sS σ 139 φ) a 139 = .ref p := fun {a op q p} ha h1 h2 h3 h4 => by
      have := f1 a ha
      rw [rlf_n h1 h2 h3 h4] at this
      exact this
    refine ⟨ho ns_24 (q_root_128 h rfl) (by decide), ho (by unfold a_ns; simp) (q_int_128 h rfl) (by decide), ho (by unfold a_ns; simp) (q_bool_128 h rfl) (by decide), fun k hk => ho (ns_lv hk) (q_lv_128 h rfl hk) (by decide), fun k hk h0 => ?_, ho ns_oN (q_oN_128 h rfl) (by decide), ?_, fun r hr => ho (ns_rr hr) (q_rr_128 h rfl hr) (by decide), fun r hr => ho (ns_ra hr) (q_ra_128 h rfl hr) (by decide), fun r hr => ?_, ?_, ?_, ho ns_vl (q_vl_128 h rfl) (by decide)⟩
    · refine hn' ?_ (q_nl_128 h rfl hk h0) (q_nl_137 h rfl hk h0) (n1 k hk h0) (q_dl_38 h rfl (show k - 1 < L by omega))
      unfold a_ns a_lvs
      simp only [List.mem_append, List.mem_cons, List.mem_flatMap, List.mem_range, List.not_mem_nil, or_false]
      exact Or.inr (Or.inl ⟨k - 1, by omega, Or.inl (by rw [show k - 1 + 1 = k by omega])⟩)
    · exact hn' (by unfold a_ns; simp) (q_on_128 h rfl) (q_on_137 h rfl) n2 (q_dl_38 h rfl (show sh < L by omega))
    · refine hn' ?_ (q_rn_128 h rfl hr) (q_rn_137 h rfl hr) (n3 r hr) (q_rd_38 h rfl (r_s_lt hn.1 hm.1 hr))
      unfold a_ns a_rgs
      simp only [List.mem_append, List.mem_cons, List.mem_flatMap, List.mem_range, List.not_mem_nil, or_false]
      exact Or.inr (Or.inr (Or.inr (Or.inl ⟨r, hr, Or.inr (Or.inr rfl)⟩)))
    · exact hn' (by unfold a_ns; simp) (q_hn_128 h rfl) (q_hn_137 h rfl) n5 (q_dl_38 h rfl (show mo < L by omega))
    · exact hn' (by unfold a_ns; simp) (q_vn_128 h rfl) (q_vn_137 h rfl) n7 (q_dl_38 h rfl d2)
/-- the REVEALs of the OPAQUE type in a row -/
def OF (L n m : Nat) (σ : fl_S) : Prop := sF σ (a_do L) 47 = .ref (a_T L n m + 2) ∧ sF σ (a_T L n m + 2) 47 = .ref (a_T L n m + 10) ∧ sF σ (a_T L n m + 10) 47 = .null
theorem OF.sm {P : List Nat} {σ τ : fl_S} (h : OF L n m σ) (hs : Sm P σ τ) (hp : iP 47 P = true) : OF L n m τ := ⟨(hs.2 _ _ hp).trans h.1, (hs.2 _ _ hp).trans h.2.1, (hs.2 _ _ hp).trans h.2.2⟩
def PD : List Nat := [32,33,36,37,38,39,40,41,42,43,44,46,48,128,129,131,132,133,134,135,136,137,138,139,140,141,142,143,144,145,146,160,161,162,165,192,195,205,207,208,209,210,211,227,289,290,291,292,297,298,300,320,321,322,323,324]
theorem w_link (hd : 2 ≤ d) (hD : Dr lf L n m sh hi mo bd) {σ : fl_S} (h : We P2 lf L n m σ) (h47 : sF σ (a_do L) 47 = .null ∧ sF σ (a_T L n m + 2) 47 = .null ∧ sF σ (a_T L n m + 10) 47 = .null) (hN : NF L n m sh hi mo σ) (hT : TY L n m ty σ) (hU : UA L n m ty σ) (hR : RF L n m sh hi mo σ) :
    CQ X d 77 [.ref ty] σ (fun v σ1 => v = none ∧ Sm PD σ σ1 ∧ Ar (ty + 6) σ σ1 ∧ OF L n m σ1 ∧ sZ σ1 = sZ σ ∧ sc σ1 = sc σ ∧ ss σ1 = ss σ) := by
  obtain ⟨hL, hn, hm, d1, d2, d3, -⟩ := hD
  obtain ⟨t0, t1, t2, t3, t4⟩ := w_dk hL.1 h
  have hdo : a_T L n m + 2 ≠ a_do L ∧ a_T L n m + 10 ≠ a_do L := by unfold a_T a_do; omega
  have g := g_linkReveals (X := X) (d := d) (σ := σ) hd (ty := ty) (ur := ty + 2) (im := a_T L n m + 1) (dh := a_T L n m + 2) (dr := a_T L n m + 10) (P := a_oN L) (dO := a_do L) (us := usN L n m) (ds := dsN L n m) (w_UW hL.1 (by omega) h hT hU)
    (fun a ha => by rcases (t0 a ha).2 with e | e; exact ⟨3, e, by decide, by decide⟩; exact ⟨4, e, by decide, by decide⟩) rfl (q_im1_32 h rfl) (q_dh_32 h rfl)
    (fun a ha => ⟨2, by
      have ha : a ∈ [a_T L n m + 7, a_T L n m + 8] := ha
      simp only [List.mem_cons, List.not_mem_nil, or_false] at ha
      rcases ha with rfl | rfl
      · exact q_ima_32 h rfl
      · exact q_imb_32 h rfl, by decide, by decide⟩) rfl (q_dr_32 h rfl)
    (fun a ha => ⟨2, by
      cases List.mem_singleton.mp ha
      exact q_im4_32 h rfl, by decide, by decide⟩) (c_oN h) (q_oN_138 h rfl) (c_do h) h47.1 h47.2.1 h47.2.2 hdo.1 hdo.2 (by omega)
    (g_revealed (by omega) (c_dh h) (q_dh_40 h rfl) (c_oh h) hN.2.2.2.2.1 (c_do h) (q_do_38 h rfl) (c_oN h) hR.2.2.2.2.2.1)
    (by
      have h' : We P2 lf L n m (sU σ (a_do L) 47 (.ref (a_T L n m + 2))) := h.sm (Sm.rf.u rfl)
      exact g_revealed (by omega) (c_dr h') (q_dr_40 h' rfl) (c_orr h') hN.2.2.2.2.2.2.1 (c_do h') (q_do_38 h' rfl) (c_oN h') hR.2.2.2.2.2.1)
  refine CQ.mono g ?_
  rintro v σ1 ⟨hv, rfl⟩
  refine ⟨hv, (Sm.rf.u rfl).u rfl, fun _ _ => rfl, ⟨(sU_ne hdo.1.symm).trans sU_at, sU_at, (sU_ne (by omega)).trans ((sU_ne hdo.2).trans h47.2.2)⟩, rfl, rfl, rfl⟩
/-- the OPAQUE type as the contracts ask for it -/
theorem w_OW (hD : Dr lf L n m sh hi mo bd) {σ : fl_S} (h : We P2 lf L n m σ) (hF : UF L n m σ) (hR : RF L n m sh hi mo σ) (hO : OF L n m σ) : OW σ (a_oN L) (a_do L) (a_on L) (a_lv sh) (a_T L n m + 2) (a_T L n m + 4) (a_lv mo) (a_T L n m + 10) (a_T L n m) (a_T L n m + 9) (a_T L n m + 14) := by
  obtain ⟨hL, hn, hm, d1, d2, d3, -⟩ := hD
  exact ⟨c_oN h, q_oN_128 h rfl, q_oN_138 h rfl, c_do h, hO.1, q_do_39 h rfl, c_on h, hR.2.2.2.2.2.2.1, c_lv h (by omega), c_dh h, q_dh_32 h rfl, hO.2.1, q_dh_36 h rfl, q_dh_39 h rfl, c_hn h, hR.2.2.2.2.2.2.2.2.2.2.1, c_lv h (by omega), c_dr h, q_dr_32 h rfl, hO.2.2, q_dr_36 h rfl, q_dr_38 h rfl, c_u1 h, hF.2.1, c_u3 h, hF.2.2.2.1, c_vl h⟩
/-- what is above, in the whole -/
def fup (L T hi a : Nat) : Option Nat := bif Nat.beq a 29 then some 24 else bif (Nat.ble 30 a && Nat.ble a (26 + 5 * L) && Nat.beq (Nat.mod (a - 27) 5) 2) then some (a - 5) else bif (Nat.beq a (27 + 5 * L) || Nat.beq a (T + 14)) then some (a_lv hi) else none
theorem fup_lv {T k : Nat} (hk : k < L) : fup L T hi (a_lv k) = some (if k = 0 then 24 else a_lv (k - 1)) := by
  unfold fup a_lv
  by_cases e : k = 0
  · subst e
    rfl
  · rw [nb_ne (show 29 + 5 * k ≠ 29 by omega), bleT (show 30 ≤ 29 + 5 * k by omega), bleT (show 29 + 5 * k ≤ 26 + 5 * L by omega), nmod (q := k) (r := 2) (by decide) (show 29 + 5 * k - 27 = 5 * k + 2 by omega), if_neg e]
    show some (29 + 5 * k - 5) = some (29 + 5 * (k - 1))
    rw [show 29 + 5 * k - 5 = 29 + 5 * (k - 1) by omega]
theorem fup_n {T a : Nat} (h1 : a ≠ 29) (h2 : a < 30 ∨ 26 + 5 * L < a ∨ ∃ k, a = 27 + 5 * k) (h3 : a ≠ 27 + 5 * L) (h4 : a ≠ T + 14) : fup L T hi a = none := by
  unfold fup
  rw [nb_ne h1, nb_ne h3, nb_ne h4]
  have : (Nat.ble 30 a && Nat.ble a (26 + 5 * L) && Nat.beq (Nat.mod (a - 27) 5) 2) = false := by
    rcases h2 with h | h | ⟨k, rfl⟩
    · rw [bleF h]; rfl
    · rw [bleF h, Bool.and_false]; rfl
    · rw [nmod (q := k) (r := 0) (by decide) (show 27 + 5 * k - 27 = 5 * k + 0 by omega)]
      exact Bool.and_false _
  rw [this]
  rfl
theorem fup_o {T : Nat} (hL : 1 ≤ L) : fup L T hi (a_oN L) = some (a_lv hi) := by
  unfold fup a_oN
  rw [nb_ne (show 27 + 5 * L ≠ 29 by omega), bleF (show 26 + 5 * L < 27 + 5 * L by omega), nb_self, Bool.and_false]
  rfl
theorem fup_v {T : Nat} (hT : 26 + 5 * L < T + 14) (hL : 1 ≤ L) : fup L T hi (T + 14) = some (a_lv hi) := by
  unfold fup
  rw [nb_ne (show T + 14 ≠ 29 by omega), bleF hT, nb_self, Bool.and_false, Bool.or_true]
  rfl
/-- fields of what is above -/
def FF (L n m hi : Nat) (σ : fl_S) : Prop := ∀ a ∈ a_ns L n m, sF σ a 140 = va_rf (fup L (a_T L n m) hi a)
theorem FF.sm {P : List Nat} {σ τ : fl_S} (h : FF L n m hi σ) (hs : Sm P σ τ) (hp : iP 140 P = true) : FF L n m hi τ := fun a ha => (hs.2 _ _ hp).trans (h a ha)
def PE : List Nat := [32,33,36,37,38,39,40,41,42,43,44,46,47,48,128,129,131,132,133,134,135,136,137,138,139,141,142,143,144,145,146,160,161,162,165,192,195,205,207,208,209,210,211,227,289,290,291,292,297,298,300,320,321,322,323,324]
theorem w_up {Q : Option Value → fl_S → Prop} (hd : 3 ≤ d) (hD : Dr lf L n m sh hi mo bd) {σ : fl_S} (h : We P2 lf L n m σ) (hT : TY L n m ty σ) (hF : UF L n m σ) (hR : RF L n m sh hi mo σ) (hO : OF L n m σ)
    (next : ∀ σ1, Sm PE σ σ1 → Ar (ty + 6) σ σ1 → FF L n m hi σ1 → sZ σ1 = sZ σ → sc σ1 = sc σ → ss σ1 = ss σ → EQ X (d - 1) 74 60 [(0, .ref ty)] [] σ1 Q) : EQ X (d - 1) 74 39 [(1, .ref 24), (0, .ref ty)] [] σ Q := by
  have hD0 := hD
  obtain ⟨hL, hn, hm, d1, d2, d3, -⟩ := hD0
  have hsm : ∀ φ, Sm PE σ (sS σ 140 φ) := fun φ => Sm.rf.s rfl
  have hC : ∀ φ, ∀ a ∈ a_ns L n m, CF X (d - 1) 80 [.ref ty, .ref a] (sS σ 140 φ) (some (va_rf (fup L (a_T L n m) hi a))) (sS σ 140 φ) := by
    intro φ
    have h' := h.PC (hsm φ) rfl
    have hT' := hT.sm ((hsm φ).sub rfl)
    have hR' := hR.sm (hsm φ) rfl
    have hO' := hO.sm (hsm φ) rfl
    have hF' := hF.sm (hsm φ) rfl
    have hOW := w_OW hD h' hF' hR' hO'
    have hno : ∀ {a : Nat} {k : Int32}, sC (sS σ 140 φ) 4 a = true → sF (sS σ 140 φ) a 128 = .int k → ¬ k = 11 → ¬ k = 12 → a ≠ 29 → (a < 30 ∨ 26 + 5 * L < a ∨ ∃ k, a = 27 + 5 * k) → a ≠ 27 + 5 * L → a ≠ a_T L n m + 14 → CF X (d - 1) 80 [.ref ty, .ref a] (sS σ 140 φ) (some (va_rf (fup L (a_T L n m) hi a))) (sS σ 140 φ) := fun {a k} c h1 k1 k2 e1 e2 e3 e4 => by
      rw [fup_n e1 e2 e3 e4]
      exact g_aboveW_n (by omega) hT'.1 c h1 k1 k2
    refine ns_all hL.1 (hno (c_root h') (q_root_128 h' rfl) (by decide) (by decide) (by omega) (by omega) (by omega) (by unfold a_T; omega)) (hno (c_int h') (q_int_128 h' rfl) (by decide) (by decide) (by omega) (by omega) (by omega) (by unfold a_T; omega)) (hno (c_bool h') (q_bool_128 h' rfl) (by decide) (by decide) (by omega) (by omega) (by omega) (by unfold a_T; omega)) (fun k hk => ?_) (fun k hk h0 => hno (c_nl h' hk h0) (q_nl_128 h' rfl hk h0) (by decide) (by decide) (by unfold a_nl; omega) (Or.inr (Or.inr ⟨k, rfl⟩)) (by unfold a_nl; omega) (by unfold a_nl a_T; omega)) ?_ (hno (c_on h') (q_on_128 h' rfl) (by decide) (by decide) (by unfold a_on; omega) (by unfold a_on; omega) (by unfold a_on; omega) (by unfold a_on a_T; omega)) (fun r hr => hno (c_rr h' hr) (q_rr_128 h' rfl hr) (by decide) (by decide) (by unfold a_rg; omega) (by unfold a_rg; omega) (by unfold a_rg; omega) (by unfold a_rg a_T; omega)) (fun r hr => hno (c_ra h' hr) (q_ra_128 h' rfl hr) (by decide) (by decide) (by unfold a_rg; omega) (by unfold a_rg; omega) (by unfold a_rg; omega) (by unfold a_rg a_T; omega)) (fun r hr => hno (c_rn h' hr) (q_rn_128 h' rfl hr) (by decide) (by decide) (by unfold a_rg; omega) (by unfold a_rg; omega) (by unfold a_rg; omega) (by unfold a_rg a_T; omega)) (hno (c_hn h') (q_hn_128 h' rfl) (by decide) (by decide) (by unfold a_T; omega) (by unfold a_T; omega) (by unfold a_T; omega) (by omega)) (hno (c_vn h') (q_vn_128 h' rfl) (by decide) (by decide) (by unfold a_T; omega) (by unfold a_T; omega) (by unfold a_T; omega) (by omega)) ?_
    · rw [fup_lv hk]
      have he := q_lv_134 h' rfl hk
      by_cases e : k = 0
      · subst e
        exact g_aboveW_L (by omega) hT'.1 (c_lv h' hk) (q_lv_128 h' rfl hk) he (c_root h') hR'.1
      · rw [nb_ne e] at he
        rw [if_neg e]
        exact g_aboveW_L (by omega) hT'.1 (c_lv h' hk) (q_lv_128 h' rfl hk) he (c_nl h' hk (by omega)) (hR'.2.2.2.2.1 k hk (by omega))
    · rw [fup_o (by omega)]
      exact g_aboveW_O (by omega) hT'.1 hOW (q_vl_134 h' rfl) (c_vn h') hR'.2.2.2.2.2.2.2.2.2.2.2.1
    · rw [fup_v (by unfold a_T; omega) (by omega)]
      exact g_aboveW_L (by omega) hT'.1 (c_vl h') (q_vl_128 h' rfl) (q_vl_134 h' rfl) (c_vn h') hR'.2.2.2.2.2.2.2.2.2.2.2.1
  have g := g_set_up (X := X) (d := d) (σ := σ) (Q := Q) (ty := ty) (ns := a_ns L n m) (e_ns hL.1 (by omega) h) (w_cn hL.1 h) hT.1 (f := fup L (a_T L n m) hi) hC (fun φ f1 f2 => next (sS σ 140 φ) (hsm φ) (fun _ _ => rfl) f1 rfl rfl rfl) (a_ns L n m) [] (fun b => sF σ b 140) rfl (fun x hx => by cases hx) (fun _ _ => rfl)
  rw [sS_same] at g
  exact g
end W75
