/-! the first round over what parse leaves -/
def vI (v : Value) : Int32 := match v with | .int x => x | _ => 0
def vR (v : Value) : Nat := match v with | .ref x => x | _ => 0
def vO (v : Value) : Option Nat := match v with | .ref x => some x | _ => none
theorem vI_of {v : Value} {x : Int32} (h : v = .int x) : v = .int (vI v) := by rw [h]; rfl
theorem vR_of {v : Value} {x : Nat} (h : v = .ref x) : v = .ref (vR v) := by rw [h]; rfl
theorem vO_of {v : Value} {o : Option Nat} (h : v = va_rf o) : v = va_rf (vO v) := by
  rw [h]
  cases o <;> rfl
def inL (L y : Nat) : Nat := bif Nat.ble y (2 * L + 1) then Nat.div (y - 1) 2 else y - (L + 1)
theorem inL_dn (L i : Nat) : inL L (dnN L i) = i := by
  unfold inL dnN
  by_cases e : i ≤ L
  · rw [bleT e]
    show (bif Nat.ble (2 * i + 1) (2 * L + 1) then Nat.div (2 * i + 1 - 1) 2 else 2 * i + 1 - (L + 1)) = i
    rw [bleT (show 2 * i + 1 ≤ 2 * L + 1 by omega)]
    show (2 * i + 1 - 1) / 2 = i
    omega
  · rw [bleF (show L < i by omega)]
    show (bif Nat.ble (L + 1 + i) (2 * L + 1) then Nat.div (L + 1 + i - 1) 2 else L + 1 + i - (L + 1)) = i
    rw [bleF (show 2 * L + 1 < L + 1 + i by omega)]
    show L + 1 + i - (L + 1) = i
    omega
theorem nat_cl {x : Nat} (h : x < 1000) : (Int32.ofNat x).toNatClampNeg = x := nat_c (by omega)
/-- what is drawn: levels, rings, digits, bounds -/
def Dr (lf : UInt32 → Int32) (L n m sh hi mo : Nat) (bd : Nat → Nat) : Prop := (2 ≤ L ∧ L ≤ 5) ∧ (1 ≤ n ∧ n ≤ 4) ∧ (1 ≤ m ∧ m ≤ 4) ∧ sh ≤ hi ∧ hi < L ∧ mo ≤ hi ∧ lf (UInt32.ofNat 1009) = Int32.ofNat (2 * sh + 1) ∧ lf (UInt32.ofNat 1010) = Int32.ofNat (2 * hi + 1) ∧ lf (UInt32.ofNat 1011) = Int32.ofNat (2 * mo + 1) ∧ ∀ r, r < n + m → gl_v lf (iv (r_b n r)) = .int (Int32.ofNat (bd r)) ∧ (bd r = 1 ∨ bd r = 2)
def ds0 (L n m : Nat) : List Nat := (List.range (L + (n + m) + 1)).map (a_ds L)
section EDS
variable {lf : UInt32 → Int32} {L n m : Nat} {σ : fl_S}
theorem e_ds0 (hL : 2 ≤ L) (hnm : 1 ≤ n + m) (h : We P2 lf L n m σ) : Ll (fun a => sF σ a 37) (sF σ 27 43) (ds0 L n m) := by
  obtain ⟨σ0, h, hs⟩ := h
  rw [hs.2 27 43 rfl]
  exact Ll.sm hs rfl (w_ds0 hL hnm h).1
theorem e_ns (hL : 2 ≤ L) (hnm : 1 ≤ n + m) (h : We P2 lf L n m σ) : Ll (fun a => sF σ a 146) (.ref 24) (a_ns L n m) := by
  obtain ⟨σ0, h, hs⟩ := h
  exact Ll.sm hs rfl (w_ns hL hnm (c_root' h) (c_int' h) (c_bool' h) (fun k hk => c_lv' h hk) (fun k hk h0 => c_nl' h hk h0) (c_oN' h) (c_on' h) (fun r hr => ⟨c_rr' h hr, c_ra' h hr, c_rn' h hr⟩) (c_hn' h) (c_vn' h) (c_vl' h))
theorem e_d (hL : 2 ≤ L) (h : We P2 lf L n m σ) {i : Nat} (hi : i < L + (n + m) + 1) : sC σ 1 (a_ds L i) = true ∧ sF σ (a_ds L i) 33 = .int (Int32.ofNat (dnN L i)) ∧ sF σ (a_ds L i) 32 = .int (if i = L then 4 else 3) := by
  unfold dnN
  by_cases e : i < L
  · rw [a_ds_l e, bleT (show i ≤ L by omega), if_neg (show i ≠ L by omega)]
    exact ⟨c_dl h e, q_dl_33 h rfl e, q_dl_32 h rfl e⟩
  · by_cases e2 : i = L
    · subst e2
      rw [a_ds_o (by omega), bleT (Nat.le_refl i), if_pos rfl]
      exact ⟨c_do h, q_do_33 h rfl, q_do_32 h rfl⟩
    · obtain ⟨r, rfl⟩ : ∃ r, i = L + 1 + r := ⟨i - (L + 1), by omega⟩
      rw [a_ds_r, bleF (show L < L + 1 + r by omega), if_neg e2]
      refine ⟨c_rd h (by omega), (q_rd_33 h rfl (by omega)).trans ?_, q_rd_32 h rfl (by omega)⟩
      show Value.int (Int32.ofNat (2 * L + 2 + r)) = .int (Int32.ofNat (L + 1 + (L + 1 + r)))
      rw [show 2 * L + 2 + r = L + 1 + (L + 1 + r) by omega]
theorem e_dm {i : Nat} {p : Nat → Prop} (h : ∀ i, i < L + (n + m) + 1 → p (a_ds L i)) : ∀ a ∈ ds0 L n m, p a := by
  intro a ha
  unfold ds0 at ha
  simp only [List.mem_map, List.mem_range] at ha
  obtain ⟨i, hi, rfl⟩ := ha
  exact h i hi
theorem dn_ne {i j : Nat} (hL : L ≤ 5) (hnm : n + m ≤ 8) (hi : i < L + (n + m) + 1) (hj : j < L + (n + m) + 1) (h : i ≠ j) : ¬ Int32.ofNat (dnN L i) = Int32.ofNat (dnN L j) := fun e => by
  have b : ∀ x, x < L + (n + m) + 1 → dnN L x < 1000 := by
    intro x hx
    unfold dnN
    cases Nat.ble x L
    · show L + 1 + x < 1000
      omega
    · show 2 * x + 1 < 1000
      omega
  exact dnN_ne h (nat_inj (b i hi) (b j hj) e)
end EDS
/-- what the units import, which unit a module is of -/
def NM (L n m : Nat) (σ : fl_S) : Prop := sF σ (a_T L n m + 1) 46 = .ref 27 ∧ sF σ (a_T L n m + 7) 46 = .ref 27 ∧ sF σ (a_T L n m + 8) 46 = .ref (a_T L n m) ∧ sF σ (a_T L n m + 18) 46 = .ref 27 ∧ sF σ (a_T L n m + 9) 46 = .ref 27 ∧ sF σ (a_T L n m + 17) 46 = .null ∧ sF σ 27 46 = .null ∧ sF σ (a_T L n m) 46 = .null ∧ sF σ (a_T L n m + 6) 46 = .null
section N72
variable {X : ev_X} {d : Nat} {lf : UInt32 → Int32} {L n m : Nat} {τ : fl_S}
theorem n_known (hd : 3 ≤ d) (hL : 2 ≤ L ∧ L ≤ 5) (hnm : 1 ≤ n + m ∧ n + m ≤ 8) (h : We P2 lf L n m τ) {i : Nat} (hi : i < L + (n + m) + 1) : CF X d 67 [.ref 27, .int (Int32.ofNat (dnN L i))] τ (some (.ref (a_ds L i))) τ := by
  refine g_knownIn_f (by omega) (nm := fun a => vI (sF τ a 33)) (c_u0 h) (e_ds0 hL.1 hnm.1 h) (e_dm (i := 0) (fun j hj => ⟨(e_d hL.1 h hj).1, by rw [(e_d hL.1 h hj).2.1]; rfl⟩)) ?_
  unfold kn_find ds0
  refine find_rg hi ?_ (fun j hj => ?_)
  · show decide (vI (sF τ (a_ds L i) 33) = _) = true
    rw [(e_d hL.1 h hi).2.1]
    exact decide_eq_true rfl
  · show decide (vI (sF τ (a_ds L j) 33) = _) = false
    rw [(e_d hL.1 h (show j < L + (n + m) + 1 by omega)).2.1]
    exact decide_eq_false (dn_ne hL.2 hnm.2 (by omega) hi (by omega))
theorem n_told (hd : 3 ≤ d) (hL : 2 ≤ L ∧ L ≤ 5) (hnm : 1 ≤ n + m ∧ n + m ≤ 8) (h : We P2 lf L n m τ) {i : Nat} (hi : i < L + (n + m) + 1) : CF X d 66 [.ref 27, .int (Int32.ofNat (dnN L i))] τ (some (.ref (a_ds L i))) τ := by
  have e : td_find (fun a => vI (sF τ a 33)) (fun a => vI (sF τ a 32)) (Int32.ofNat (dnN L i)) (ds0 L n m) = some (a_ds L i) := by
    unfold td_find ds0
    refine find_rg hi ?_ (fun j hj => ?_)
    · show (decide (vI (sF τ (a_ds L i) 33) = _) && !decide (vI (sF τ (a_ds L i) 32) = 2)) = true
      rw [(e_d hL.1 h hi).2.1, (e_d hL.1 h hi).2.2, decide_eq_true (show vI (.int (Int32.ofNat (dnN L i))) = Int32.ofNat (dnN L i) from rfl)]
      by_cases e : i = L
      · rw [if_pos e]; rfl
      · rw [if_neg e]; rfl
    · show (decide (vI (sF τ (a_ds L j) 33) = _) && _) = false
      rw [(e_d hL.1 h (show j < L + (n + m) + 1 by omega)).2.1, decide_eq_false (show ¬ vI (.int (Int32.ofNat (dnN L j))) = Int32.ofNat (dnN L i) from dn_ne hL.2 hnm.2 (by omega) hi (by omega))]
      rfl
  have g := g_toldBy (X := X) (d := d) (σ := τ) (by omega) (u := 27) (name := Int32.ofNat (dnN L i)) (nm := fun a => vI (sF τ a 33)) (kd := fun a => vI (sF τ a 32)) (ds := ds0 L n m) (c_u0 h) (e_ds0 hL.1 hnm.1 h) (e_dm (i := 0) (fun j hj => ⟨(e_d hL.1 h hj).1, vI_of (e_d hL.1 h hj).2.1, vI_of (e_d hL.1 h hj).2.2⟩))
  rw [e] at g
  exact g
theorem n_useA (hd : 5 ≤ d) (hL : 2 ≤ L ∧ L ≤ 5) (hnm : 1 ≤ n + m ∧ n + m ≤ 8) (h : We P2 lf L n m τ) {nmo op i : Nat} (c : sC τ 5 op = true) (h1 : sF τ op 162 = .int (-1)) (h2 : sF τ op 161 = .int (Int32.ofNat (dnN L i))) (hi : i < L + (n + m) + 1) : CF X d 72 [.ref nmo, .ref 27, .ref op, .int 3] τ none (sU τ op 165 (.ref (a_ds L i))) := by
  have hk := (e_d hL.1 h hi).2.2
  by_cases e : i = L
  · rw [if_pos e] at hk
    exact g_judgeUse_a4 (by omega) c h1 h2 (n_known (by omega) hL hnm h hi) (e_d hL.1 h hi).1 hk
  · rw [if_neg e] at hk
    exact g_judgeUse_a3 (by omega) c h1 h2 (n_known (by omega) hL hnm h hi) (e_d hL.1 h hi).1 hk
theorem n_knownO (hd : 5 ≤ d) (hL : 2 ≤ L ∧ L ≤ 5) (hnm : 1 ≤ n + m ∧ n + m ≤ 8) (h : We P2 lf L n m τ) (hN : NM L n m τ) {i : Nat} (hi : i < L + (n + m) + 1) : CF X d 67 [.ref (a_T L n m + 9), .int (Int32.ofNat (dnN L i))] τ (some (.ref (a_ds L i))) τ := by
  refine g_knownIn_o (by omega) (nm := fun a => vI (sF τ a 33)) (ds := [a_T L n m + 10]) (c_u3 h) ⟨q_u3_43 h rfl, q_dr_37 h rfl⟩ ?_ ?_ hN.2.2.2.2.1 (n_told (by omega) hL hnm h hi)
  · intro a ha
    cases List.mem_singleton.mp ha
    exact ⟨c_dr h, by rw [q_dr_33 h rfl]; rfl⟩
  · unfold kn_find
    rw [List.find?_cons]
    show (match decide (vI (sF τ (a_T L n m + 10) 33) = Int32.ofNat (dnN L i)) with | true => _ | false => _) = none
    rw [q_dr_33 h rfl, decide_eq_false]
    · rfl
    · intro e
      have h1 : (Int32.ofNat (dnN L i)).toInt = (dnN L i : Int) := nat_i (by
        unfold dnN
        cases Nat.ble i L
        · show L + 1 + i < 2147483648
          omega
        · show 2 * i + 1 < 2147483648
          omega)
      rw [← e] at h1
      rw [show (vI (.int (-1))).toInt = -1 from rfl] at h1
      omega
theorem n_useO (hd : 6 ≤ d) (hL : 2 ≤ L ∧ L ≤ 5) (hnm : 1 ≤ n + m ∧ n + m ≤ 8) (h : We P2 lf L n m τ) (hN : NM L n m τ) {nmo op i : Nat} (c : sC τ 5 op = true) (h1 : sF τ op 162 = .int (-1)) (h2 : sF τ op 161 = .int (Int32.ofNat (dnN L i))) (hi : i < L + (n + m) + 1) : CF X d 72 [.ref nmo, .ref (a_T L n m + 9), .ref op, .int 3] τ none (sU τ op 165 (.ref (a_ds L i))) := by
  have hk := (e_d hL.1 h hi).2.2
  by_cases e : i = L
  · rw [if_pos e] at hk
    exact g_judgeUse_a4 (by omega) c h1 h2 (n_knownO (by omega) hL hnm h hN hi) (e_d hL.1 h hi).1 hk
  · rw [if_neg e] at hk
    exact g_judgeUse_a3 (by omega) c h1 h2 (n_knownO (by omega) hL hnm h hN hi) (e_d hL.1 h hi).1 hk
theorem n_useB (hd : 6 ≤ d) (hL : 2 ≤ L ∧ L ≤ 5) (hnm : 1 ≤ n + m ∧ n + m ≤ 8) (h : We P2 lf L n m τ) (hN : NM L n m τ) {nmo op i : Nat} (c : sC τ 5 op = true) (h1 : sF τ op 162 = .int 0) (h2 : sF τ op 161 = .int (Int32.ofNat (dnN L i))) (hi : i < L + (n + m) + 1) : CF X d 72 [.ref nmo, .ref (a_T L n m), .ref op, .int 3] τ none (sU τ op 165 (.ref (a_ds L i))) := by
  have hk := (e_d hL.1 h hi).2.2
  have hK : CF X (d - 1) 67 [.ref (a_T L n m), .int 0] τ (some (.ref (a_T L n m + 1))) τ := by
    refine g_knownIn_f (by omega) (nm := fun a => vI (sF τ a 33)) (ds := [a_T L n m + 1, a_T L n m + 2]) (c_u1 h) ⟨q_u1_43 h rfl, q_im1_37 h rfl, q_dh_37 h rfl⟩ ?_ ?_
    · intro a ha
      simp only [List.mem_cons, List.not_mem_nil, or_false] at ha
      rcases ha with rfl | rfl
      · exact ⟨c_im1 h, by rw [q_im1_33 h rfl]; rfl⟩
      · exact ⟨c_dh h, by rw [q_dh_33 h rfl]; rfl⟩
    · unfold kn_find
      rw [List.find?_cons]
      show (match decide (vI (sF τ (a_T L n m + 1) 33) = 0) with | true => _ | false => _) = _
      rw [q_im1_33 h rfl]
      rfl
  by_cases e : i = L
  · rw [if_pos e] at hk
    exact g_judgeUse_b4 (by omega) c h1 h2 (by decide) hK (c_im1 h) (q_im1_32 h rfl) hN.1 (n_told (by omega) hL hnm h hi) (e_d hL.1 h hi).1 hk
  · rw [if_neg e] at hk
    exact g_judgeUse_b3 (by omega) c h1 h2 (by decide) hK (c_im1 h) (q_im1_32 h rfl) hN.1 (n_told (by omega) hL hnm h hi) (e_d hL.1 h hi).1 hk
/-- a declaration of unit t -/
theorem n_decl0 (hd : 6 ≤ d) (hL : 2 ≤ L ∧ L ≤ 5) (hnm : 1 ≤ n + m ∧ n + m ≤ 8) (h : We P2 lf L n m τ) (hN : NM L n m τ) {nmo i : Nat} (hi : i < L + (n + m) + 1) : CF X d 68 [.ref nmo, .ref 27, .ref (a_ds L i)] τ none τ := by
  have hk := (e_d hL.1 h hi).2.2
  have hT : CF X (d - 1) 69 [.ref 27, .ref (a_ds L i)] τ (some (.int 0)) τ := g_isToldBy0 (by omega) (c_u0 h) hN.2.2.2.2.2.2.1
  have hI : CF X (d - 1) 70 [.ref 28, .ref (a_ds L i)] τ (some (.int 0)) τ := by
    obtain ⟨post, hp⟩ := rg_split (f := a_ds L) hi
    have hl := e_ds0 hL.1 hnm.1 h
    unfold ds0 at hl
    rw [hp, q_u0_43 h rfl] at hl
    refine g_isThere (by omega) (nm := fun a => vI (sF τ a 33)) (pre := (List.range i).map (a_ds L)) (post := post) ?_ hl ?_ (e_d hL.1 h hi).1 (by rw [(e_d hL.1 h hi).2.1]; rfl)
    · rw [← hp, List.range_succ_eq_map, List.map_cons]
      rfl
    · intro b hb
      simp only [List.mem_map, List.mem_range] at hb
      obtain ⟨j, hj, rfl⟩ := hb
      refine ⟨(e_d hL.1 h (by omega)).1, by rw [(e_d hL.1 h (show j < L + (n + m) + 1 by omega)).2.1]; rfl, a_ds_inj (by omega), ?_⟩
      show ¬ vI (sF τ (a_ds L j) 33) = vI (sF τ (a_ds L i) 33)
      rw [(e_d hL.1 h (show j < L + (n + m) + 1 by omega)).2.1, (e_d hL.1 h hi).2.1]
      exact dn_ne hL.2 hnm.2 (by omega) hi (by omega)
  by_cases e : i = L
  · rw [if_pos e] at hk
    exact g_nDecl_o (by omega) (e_d hL.1 h hi).1 hk (by decide) (by decide) (by decide) (c_u0 h) (q_u0_43 h rfl) hI hT
  · rw [if_neg e] at hk
    exact g_nDecl_o (by omega) (e_d hL.1 h hi).1 hk (by decide) (by decide) (by decide) (c_u0 h) (q_u0_43 h rfl) hI hT
theorem n_there1 (hd : 1 ≤ d) {a : Nat} {x : Int32} {post : List Nat} (hl : Ll (fun a => sF τ a 37) (.ref a) (a :: post)) (c : sC τ 1 a = true) (hn : sF τ a 33 = .int x) : CF X d 70 [.ref a, .ref a] τ (some (.int 0)) τ :=
  g_isThere hd (nm := fun a => vI (sF τ a 33)) (pre := []) (post := post) rfl hl (fun b hb => by cases hb) c (by rw [hn]; rfl)
theorem n_im1 (hd : 6 ≤ d) (h : We P2 lf L n m τ) (hN : NM L n m τ) {nmo : Nat} : CF X d 68 [.ref nmo, .ref (a_T L n m), .ref (a_T L n m + 1)] τ none τ :=
  g_nDecl_o (by omega) (c_im1 h) (q_im1_32 h rfl) (by decide) (by decide) (by decide) (c_u1 h) (q_u1_43 h rfl) (n_there1 (by omega) (post := [a_T L n m + 2]) ⟨rfl, q_im1_37 h rfl, q_dh_37 h rfl⟩ (c_im1 h) (q_im1_33 h rfl)) (g_isToldBy0 (by omega) (c_u1 h) hN.2.2.2.2.2.2.2.1)
theorem n_ima (hd : 6 ≤ d) (h : We P2 lf L n m τ) (hN : NM L n m τ) {nmo : Nat} : CF X d 68 [.ref nmo, .ref (a_T L n m + 6), .ref (a_T L n m + 7)] τ none τ :=
  g_nDecl_o (by omega) (c_ima h) (q_ima_32 h rfl) (by decide) (by decide) (by decide) (c_u2 h) (q_u2_43 h rfl) (n_there1 (by omega) (post := [a_T L n m + 8]) ⟨rfl, q_ima_37 h rfl, q_imb_37 h rfl⟩ (c_ima h) (q_ima_33 h rfl)) (g_isToldBy0 (by omega) (c_u2 h) hN.2.2.2.2.2.2.2.2)
theorem n_im4 (hd : 6 ≤ d) (h : We P2 lf L n m τ) (hN : NM L n m τ) {nmo : Nat} : CF X d 68 [.ref nmo, .ref (a_T L n m + 17), .ref (a_T L n m + 18)] τ none τ :=
  g_nDecl_o (by omega) (c_im4 h) (q_im4_32 h rfl) (by decide) (by decide) (by decide) (c_u4 h) (q_u4_43 h rfl) (n_there1 (by omega) (post := []) ⟨rfl, q_im4_37 h rfl⟩ (c_im4 h) (q_im4_33 h rfl)) (g_isToldBy0 (by omega) (c_u4 h) hN.2.2.2.2.2.1)
theorem n_imb (hd : 6 ≤ d) (hL : L ≤ 5) (hnm : n + m ≤ 8) (h : We P2 lf L n m τ) (hN : NM L n m τ) {nmo : Nat} : CF X d 68 [.ref nmo, .ref (a_T L n m + 6), .ref (a_T L n m + 8)] τ none τ := by
  refine g_nDecl_o (by omega) (c_imb h) (q_imb_32 h rfl) (by decide) (by decide) (by decide) (c_u2 h) (q_u2_43 h rfl) ?_ (g_isToldBy0 (by omega) (c_u2 h) hN.2.2.2.2.2.2.2.2)
  refine g_isThere (by omega) (nm := fun a => vI (sF τ a 33)) (pre := [a_T L n m + 7]) (post := []) rfl ⟨rfl, q_ima_37 h rfl, q_imb_37 h rfl⟩ ?_ (c_imb h) (by rw [q_imb_33 h rfl]; rfl)
  intro b hb
  cases List.mem_singleton.mp hb
  refine ⟨c_ima h, by rw [q_ima_33 h rfl]; rfl, by omega, ?_⟩
  show ¬ vI (sF τ (a_T L n m + 7) 33) = vI (sF τ (a_T L n m + 8) 33)
  rw [q_ima_33 h rfl, q_imb_33 h rfl]
  intro e
  have := nat_inj (a := 0) (b := n_T L n m) (by omega) (by unfold n_T; omega) e
  unfold n_T at this
  omega
theorem n_dh (hd : 8 ≤ d) (hL : 2 ≤ L ∧ L ≤ 5) (hnm : 1 ≤ n + m ∧ n + m ≤ 8) (h : We P2 lf L n m τ) (hN : NM L n m τ) {nmo : Nat} (cn : sC τ 3 nmo = true) : CF X d 68 [.ref nmo, .ref (a_T L n m), .ref (a_T L n m + 2)] τ none (sU τ (a_T L n m + 3) 165 (.ref (a_ds L L))) :=
  g_nDecl_6 (by omega) (c_dh h) (q_dh_32 h rfl) (q_dh_40 h rfl) cn (n_useB (by omega) hL hnm h hN (c_oh h) (q_oh_162 h rfl) ((q_oh_161 h rfl).trans (by unfold dnN; rw [bleT (Nat.le_refl L)]; rfl)) (by omega))
theorem n_dr (hd : 8 ≤ d) (hL : 2 ≤ L ∧ L ≤ 5) (hnm : 1 ≤ n + m ∧ n + m ≤ 8) (h : We P2 lf L n m τ) (hN : NM L n m τ) {nmo : Nat} (cn : sC τ 3 nmo = true) : CF X d 68 [.ref nmo, .ref (a_T L n m + 9), .ref (a_T L n m + 10)] τ none (sU τ (a_T L n m + 11) 165 (.ref (a_ds L L))) :=
  g_nDecl_5 (by omega) (c_dr h) (q_dr_32 h rfl) (q_dr_40 h rfl) cn (n_useO (by omega) hL hnm h hN (c_orr h) (q_orr_162 h rfl) ((q_orr_161 h rfl).trans (by unfold dnN; rw [bleT (Nat.le_refl L)]; rfl)) (by omega))
end N72
