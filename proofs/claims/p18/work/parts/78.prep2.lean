/-! views, CELLS, all of prepare -/
theorem SH.sm {L n m ty : Nat} {bd : Nat → Nat} {P : List Nat} {σ τ : fl_S} (h : SH L n m ty bd σ) (hs : Sm P σ τ) (h1 : iP 142 P = true) (h2 : iP 292 P = true) (hi : ∀ a x, sI σ a = some x → sI τ a = some x) : SH L n m ty bd τ := by
  obtain ⟨S, many, le, Lf, a1, a2, a3, a4, a5⟩ := h
  exact ⟨S, many, le, Lf, fun a ha => ⟨(hs.2 _ _ h1).trans (a1 a ha).1, (a1 a ha).2⟩, a2, (hs.2 _ _ h2).trans a3, hi _ _ a4, a5⟩
theorem UA.ar {L n m ty N : Nat} {σ τ : fl_S} (h : UA L n m ty σ) (hA : Ar N σ τ) (hN : ty + 6 ≤ N) : UA L n m ty τ := by
  obtain ⟨UR, a1, a2⟩ := h
  exact ⟨UR, (hA _ (by omega)).trans a1, a2⟩
theorem TA.ar {L n m ty N : Nat} {σ τ : fl_S} (h : TA L n m ty σ) (hA : Ar N σ τ) (hN : ty + 6 ≤ N) : TA L n m ty τ := by
  obtain ⟨TR, a1, a2⟩ := h
  exact ⟨TR, (hA _ (by omega)).trans a1, a2⟩
theorem PA.ar {ty N : Nat} {σ τ : fl_S} (h : PA ty σ) (hA : Ar N σ τ) (hN : ty + 6 ≤ N) : PA ty τ := by
  obtain ⟨PR, a1⟩ := h
  exact ⟨PR, (hA _ (by omega)).trans a1⟩
/-- how far down units see the OPAQUE type -/
def rchN (sh hi mo i : Nat) : Nat := bif Nat.beq i 3 then hi else bif (Nat.beq i 1 || Nat.beq i 2) then (if sh ≤ mo then mo else sh) else sh
def VF (L sh hi mo ty : Nat) (σ : fl_S) : Prop := sF σ (a_oN L) 141 = .ref (ty + 11) ∧ ∃ V, sR σ (ty + 11) = some (3, 5, V) ∧ ∀ i, i < 5 → V i = some (a_lv (rchN sh hi mo i))
theorem VF.sm {L sh hi mo ty N : Nat} {P : List Nat} {σ τ : fl_S} (h : VF L sh hi mo ty σ) (hs : Sm P σ τ) (h1 : iP 141 P = true) (hA : Ar N σ τ) (hN : ty + 12 ≤ N) : VF L sh hi mo ty τ := by
  obtain ⟨a1, V, a2, a3⟩ := h
  exact ⟨(hs.2 _ _ h1).trans a1, V, (hA _ (by omega)).trans a2, a3⟩
def PG : List Nat := [32,33,36,37,38,39,40,41,42,43,44,46,47,48,128,129,131,132,133,134,135,136,137,138,139,140,142,143,144,145,146,160,161,162,165,192,195,205,207,208,209,210,211,227,289,290,291,292,297,298,300,320,321,322,323,324]
section W78
variable {X : ev_X} {d : Nat} {lf : UInt32 → Int32} {L n m sh hi mo : Nat} {bd : Nat → Nat} {ty : Nat} {σ : fl_S}
theorem fup_24 {T : Nat} (hT : 30 ≤ T) : fup L T hi 24 = none := fup_n (by decide) (Or.inl (by decide)) (by omega) (by omega)
/-- a unit that the whole REVEAL isn't told to -/
theorem w_v2 (hd : 2 ≤ d) (hD : Dr lf L n m sh hi mo bd) (h : We P2 lf L n m σ) (hT : TY L n m ty σ) (hUF : UF L n m σ) (hR : RF L n m sh hi mo σ) (hO : OF L n m σ) (hF : FF L n m hi σ) (hS : SH L n m ty bd σ) {u : Nat} {mk : Int32} (cu : sC σ 1 u = true) (um : sF σ u 48 = .int mk) (hb3 : ¬ ((mk >>> (3 &&& 31)) &&& 1) = 1) {x : Nat} (hx : x ≤ hi)
    (h1 : (decide (sh = x) || (decide (((mk >>> (1 &&& 31)) &&& 1) = 1) && decide (mo = x))) = true) (h2 : ∀ j, x < j → j ≤ hi → (decide (sh = j) || (decide (((mk >>> (1 &&& 31)) &&& 1) = 1) && decide (mo = j))) = false) : CF X d 83 [.ref ty, .ref u, .ref (a_oN L)] σ (some (.ref (a_lv x))) σ := by
  have hD0 := hD
  obtain ⟨hL, hn, hm, d1, d2, d3, -⟩ := hD0
  obtain ⟨S, many, le, Lf, s1, s2, s3, s4, s5, s6, s7, s8, -⟩ := hS
  have hlt : ∀ a ∈ a_ns L n m, S a < 100000 := fun a ha => by have := (s1 a ha).2; omega
  have hl := chL_chn (L := L) (hi := hi) (T := a_T L n m) (fup_24 (by unfold a_T; omega)) hi d2
  have g := g_viewed2 (X := X) (d := d) (σ := σ) hd (ty := ty) (u := u) (nn := x_T L n m + 3) (mk := mk) (f := fup L (a_T L n m) hi) (S := fun a => Int32.ofNat (S a)) (l := chL hi) hT.1 hT.2.2.2.2.2.1 (by unfold x_T; omega) (w_OW hD h hUF hR hO) cu um hb3 (hF _ ns_oN) (s1 _ ns_oN).1 (s1 _ (ns_lv (by omega))).1 (s1 _ (ns_lv (by omega))).1 (by rw [fup_o (by omega)]; exact hl)
    (chL_all (p := fun a => sC σ 4 a = true ∧ sF σ a 142 = .int (Int32.ofNat (S a)) ∧ sF σ a 140 = va_rf (fup L (a_T L n m) hi a)) ⟨c_root h, (s1 _ ns_24).1, hF _ ns_24⟩ hi (fun j hj => ⟨c_lv h (by omega), (s1 _ (ns_lv (by omega))).1, hF _ (ns_lv (by omega))⟩)) (by rw [chL_len]; unfold x_T; omega)
  have e : ∀ a b, a < L → b < L → decide (Int32.ofNat (S (a_lv a)) = Int32.ofNat (S (a_lv b))) = decide (a = b) := fun a b ha hb => by
    by_cases e : a = b
    · subst e
      rw [decide_eq_true rfl, decide_eq_true rfl]
    · rw [decide_eq_false e, decide_eq_false (fun h => e (s5 a ha b hb (nat_in (hlt _ (ns_lv ha)) (hlt _ (ns_lv hb)) h)))]
  have e0 : ∀ b, b < L → decide (Int32.ofNat (S (a_lv b)) = Int32.ofNat (S (a_oN L))) = false := fun b hb => decide_eq_false (fun h => (s6 b hb).2.1 (nat_in (hlt _ (ns_lv hb)) (hlt _ ns_oN) h).symm)
  have hf : (chL hi).find? (fun c => !decide (Int32.ofNat (S c) = Int32.ofNat (S (a_oN L))) && toldAb (fun a => Int32.ofNat (S a)) (a_lv sh) (a_lv mo) c (decide (((mk >>> (1 &&& 31)) &&& 1) = 1))) = some (a_lv x) := by
    refine chL_find hi hx ?_ (fun j hj hk => ?_)
    · show (!decide (Int32.ofNat (S (a_lv x)) = Int32.ofNat (S (a_oN L))) && (decide (Int32.ofNat (S (a_lv sh)) = Int32.ofNat (S (a_lv x))) || (_ && decide (Int32.ofNat (S (a_lv mo)) = Int32.ofNat (S (a_lv x)))))) = true
      rw [e0 x (by omega), e sh x (by omega) (by omega), e mo x (by omega) (by omega), h1]
      rfl
    · show (!decide (Int32.ofNat (S (a_lv j)) = Int32.ofNat (S (a_oN L))) && (decide (Int32.ofNat (S (a_lv sh)) = Int32.ofNat (S (a_lv j))) || (_ && decide (Int32.ofNat (S (a_lv mo)) = Int32.ofNat (S (a_lv j)))))) = false
      rw [e0 j (by omega), e sh j (by omega) (by omega), e mo j (by omega) (by omega), h2 j hj hk]
      rfl
  rw [hf] at g
  exact g
theorem VS_sm {P : List Nat} {a U : Nat} {V : Nat → Option Nat} (h1 : iP 141 P = false) : Sm P σ (VS σ a U V) := by
  unfold VS
  exact (((Sm.rf.z1).r1).u h1).r1
theorem w_kd12 (hL : 2 ≤ L) (h : We P2 lf L n m σ) : ∀ a ∈ a_ns L n m, kdf σ a = 12 → a = a_oN L := by
  have f : ∀ {a : Nat} {k : Int32}, sF σ a 128 = .int k → ¬ k = 12 → kdf σ a = 12 → a = a_oN L := fun h1 h2 h3 => absurd ((kd_of h1).symm.trans h3) h2
  exact ns_all hL (f (q_root_128 h rfl) (by decide)) (f (q_int_128 h rfl) (by decide)) (f (q_bool_128 h rfl) (by decide)) (fun k hk => f (q_lv_128 h rfl hk) (by decide)) (fun k hk h0 => f (q_nl_128 h rfl hk h0) (by decide)) (fun _ => rfl) (f (q_on_128 h rfl) (by decide)) (fun r hr => f (q_rr_128 h rfl hr) (by decide)) (fun r hr => f (q_ra_128 h rfl hr) (by decide)) (fun r hr => f (q_rn_128 h rfl hr) (by decide)) (f (q_hn_128 h rfl) (by decide)) (f (q_vn_128 h rfl) (by decide)) (f (q_vl_128 h rfl) (by decide))
theorem w_views (hd : 3 ≤ d) (hD : Dr lf L n m sh hi mo bd) (h : We P2 lf L n m σ) (hN : NF L n m sh hi mo σ) (hT : TY L n m ty σ) (hU : UA L n m ty σ) (hUF : UF L n m σ) (hR : RF L n m sh hi mo σ) (hO : OF L n m σ) (hF : FF L n m hi σ) (hS : SH L n m ty bd σ) (hz : sZ σ = ty + 11) (hz2 : ty + 12 ≤ 256) :
    CQ X d 82 [.ref ty] σ (fun v σ1 => v = none ∧ Sm PG σ σ1 ∧ Ar (ty + 11) σ σ1 ∧ (∀ a, sI σ1 a = sI σ a) ∧ VF L sh hi mo ty σ1 ∧ sZ σ1 = ty + 12 ∧ sc σ1 = sc σ + 1 ∧ ss σ1 = ss σ + 5) := by
  have hD0 := hD
  obtain ⟨hL, hn, hm, d1, d2, d3, -⟩ := hD0
  obtain ⟨UR, u1, u2⟩ := hU
  have hsp : a_ns L n m = ([24, 25, 26, 29] ++ a_lvs L) ++ a_oN L :: (a_on L :: (a_rgs L n m ++ [a_T L n m + 4, a_T L n m + 12, a_T L n m + 14])) := by
    unfold a_ns
    rw [List.append_assoc]
    rfl
  have hk := w_kd12 hL.1 h
  have hnd := ns_nodup hL hn hm
  rw [hsp, List.nodup_append] at hnd
  have hsm : ∀ V, Sm PG σ (VS σ (a_oN L) 5 V) := fun V => VS_sm rfl
  have hv : ∀ V i, i < 5 → CF X (d - 1) 83 [.ref ty, .ref (usN L n m i), .ref (a_oN L)] (VS σ (a_oN L) 5 V) (some (.ref (a_lv (rchN sh hi mo i)))) (VS σ (a_oN L) 5 V) := by
    intro V
    have h' := h.PC (hsm V) rfl
    have hT' := hT.sm ((hsm V).sub rfl)
    have hUF' := hUF.sm (hsm V) rfl
    have hR' := hR.sm (hsm V) rfl
    have hO' := hO.sm (hsm V) rfl
    have hF' := hF.sm (hsm V) rfl
    have hS' := hS.sm (hsm V) rfl rfl (fun _ _ hx => hx)
    have hN' := hN.sm (hsm V) rfl rfl
    obtain ⟨⟨m0, m1, m2, m3, m4⟩, -⟩ := hN'
    have nh : ∀ {mk : Int32}, ¬ ((mk >>> (1 &&& 31)) &&& 1) = 1 → (decide (sh = sh) || (decide (((mk >>> (1 &&& 31)) &&& 1) = 1) && decide (mo = sh))) = true ∧ ∀ j, sh < j → j ≤ hi → (decide (sh = j) || (decide (((mk >>> (1 &&& 31)) &&& 1) = 1) && decide (mo = j))) = false := fun hk => ⟨by rw [decide_eq_true (show sh = sh from rfl)]; rfl, fun j hj _ => by rw [decide_eq_false (show ¬ sh = j by omega), decide_eq_false hk]; rfl⟩
    have wh : ∀ {mk : Int32}, ((mk >>> (1 &&& 31)) &&& 1) = 1 → (decide (sh = (if sh ≤ mo then mo else sh)) || (decide (((mk >>> (1 &&& 31)) &&& 1) = 1) && decide (mo = (if sh ≤ mo then mo else sh)))) = true ∧ ∀ j, (if sh ≤ mo then mo else sh) < j → j ≤ hi → (decide (sh = j) || (decide (((mk >>> (1 &&& 31)) &&& 1) = 1) && decide (mo = j))) = false := fun hk => by
      by_cases e : sh ≤ mo
      · rw [if_pos e]
        exact ⟨by rw [decide_eq_true (show mo = mo from rfl), decide_eq_true hk]; simp, fun j hj _ => by rw [decide_eq_false (show ¬ sh = j by omega), decide_eq_false (show ¬ mo = j by omega), Bool.and_false]; rfl⟩
      · rw [if_neg e]
        exact ⟨by rw [decide_eq_true (show sh = sh from rfl)]; rfl, fun j hj _ => by rw [decide_eq_false (show ¬ sh = j by omega), decide_eq_false (show ¬ mo = j by omega), Bool.and_false]; rfl⟩
    have hle : (if sh ≤ mo then mo else sh) ≤ hi := by
      by_cases e : sh ≤ mo
      · rw [if_pos e]; exact d3
      · rw [if_neg e]; exact d1
    refine i5 ?_ ?_ ?_ ?_ ?_
    · have q := nh (mk := 1) (by decide)
      exact w_v2 (by omega) hD h' hT' hUF' hR' hO' hF' hS' (c_u0 h') m0 (by decide) d1 q.1 q.2
    · have q := wh (mk := 3) (by decide)
      exact w_v2 (by omega) hD h' hT' hUF' hR' hO' hF' hS' (c_u1 h') m1 (by decide) hle q.1 q.2
    · have q := wh (mk := 7) (by decide)
      exact w_v2 (by omega) hD h' hT' hUF' hR' hO' hF' hS' (c_u2 h') m2 (by decide) hle q.1 q.2
    · exact g_viewed1 (by omega) hT'.1 (w_OW hD h' hUF' hR' hO') (c_u3 h') m3 (by decide) (q_vl_134 h' rfl) (c_vn h') hR'.2.2.2.2.2.2.2.2.2.2.2.1
    · have q := nh (mk := 17) (by decide)
      exact w_v2 (by omega) hD h' hT' hUF' hR' hO' hF' hS' (c_u4 h') m4 (by decide) d1 q.1 q.2
  have g := g_findViews (X := X) (d := d) (σ := σ) (ty := ty) (P := a_oN L) (U := 5) (ur := ty + 2) (us := usN L n m) (UR := UR) (vw := fun i => a_lv (rchN sh hi mo i)) (kd := kdf σ) (by omega) hsp (e_ns hL.1 (by omega) h) (fun a ha => ⟨w_cn hL.1 h a ha, (w_SA hL.1 h hR a ha).2.1⟩)
    (fun a ha e => hnd.2.2 a ha _ List.mem_cons_self (hk a (by rw [hsp]; exact List.mem_append_left _ ha) e)) (fun a ha e => by
      have hm2 := List.nodup_cons.mp hnd.2.1
      exact hm2.1 (by rw [← hk a (by rw [hsp]; exact List.mem_append_right _ (List.mem_cons_of_mem _ ha)) e]; exact ha)) (kd_of (q_oN_128 h rfl)) hT.2.2.2.2.1 hT.1 hT.2.1 u1 (by omega) (by omega) (by decide) u2 (fun i hi5 => ?_) hv
  · refine CQ.mono g ?_
    rintro v σ1 ⟨hv0, V, hV, rfl⟩
    refine ⟨hv0, hsm V, fun a ha => VS_R (by omega), fun a => rfl, ⟨?_, V, ?_, hV⟩, ?_, rfl, rfl⟩
    · have := VS_views (σ := σ) (P := a_oN L) (U := 5) (V := V)
      rw [hz] at this
      exact this
    · have := VS_V (σ := σ) (P := a_oN L) (U := 5) (V := V)
      rw [hz] at this
      exact this
    · show sZ σ + 1 = ty + 12
      omega
  · have hle : rchN sh hi mo i < L := by
      unfold rchN
      cases Nat.beq i 3
      · cases (Nat.beq i 1 || Nat.beq i 2)
        · show sh < L
          omega
        · show (if sh ≤ mo then mo else sh) < L
          by_cases e : sh ≤ mo
          · rw [if_pos e]; omega
          · rw [if_neg e]; omega
      · exact d2
    exact c_lv h hle
/-- CELLS found -/
def CE (L n m : Nat) (σ : fl_S) : Prop := (∀ k, k < L → sF σ (a_lv k) 143 = .int 1) ∧ (∀ r, r < n + m → sF σ (a_rg L r + 1) 143 = .int 1) ∧ sF σ 25 143 = .int 1 ∧ (∀ r, r < n + m → ∃ cl, sF σ (a_rg L r + 2) 143 = .int cl ∧ ev_ic .le cl 2000 = true) ∧ sF σ (a_oN L) 143 = .int 1
theorem CE.sm {P : List Nat} {τ : fl_S} (h : CE L n m σ) (hs : Sm P σ τ) (hp : iP 143 P = true) : CE L n m τ := by
  obtain ⟨a1, a2, a3, a4, a5⟩ := h
  exact ⟨fun k hk => (hs.2 _ _ hp).trans (a1 k hk), fun r hr => (hs.2 _ _ hp).trans (a2 r hr), (hs.2 _ _ hp).trans a3, fun r hr => by
    obtain ⟨cl, e1, e2⟩ := a4 r hr
    exact ⟨cl, (hs.2 _ _ hp).trans e1, e2⟩, (hs.2 _ _ hp).trans a5⟩
theorem w_CW (hD : Dr lf L n m sh hi mo bd) (h : We P2 lf L n m σ) (hR : RF L n m sh hi mo σ) : CW σ (a_ns L n m) (kdf σ) (hif σ) (rlv σ) (onf σ) (elf σ) (ptf σ) := by
  have hD0 := hD
  obtain ⟨hL, hn, hm, -, -, -, -, -, -, hb⟩ := hD0
  have hR0 := hR
  obtain ⟨a1, a2, a3, a4, a5, a6, a7, a8, a9, b1, b2, b3, b4⟩ := hR0
  have k2 : ∀ {a : Nat} {k : Int32}, sF σ a 128 = .int k → ¬ k = 2 → ¬ k = 4 → kdf σ a ≠ 2 ∧ kdf σ a ≠ 4 := fun h1 h2 h3 => by rw [kd_of h1]; exact ⟨h2, h3⟩
  refine ⟨e_ns hL.1 (by omega) h, ns_nodup hL hn hm, w_SA hL.1 h hR, ?_, ?_, ?_⟩
  · exact ns_all (p := fun a => kdf σ a ≠ 2 ∧ kdf σ a ≠ 4) hL.1 (k2 (q_root_128 h rfl) (by decide) (by decide)) (k2 (q_int_128 h rfl) (by decide) (by decide)) (k2 (q_bool_128 h rfl) (by decide) (by decide)) (fun k hk => k2 (q_lv_128 h rfl hk) (by decide) (by decide)) (fun k hk h0 => k2 (q_nl_128 h rfl hk h0) (by decide) (by decide)) (k2 (q_oN_128 h rfl) (by decide) (by decide)) (k2 (q_on_128 h rfl) (by decide) (by decide)) (fun r hr => k2 (q_rr_128 h rfl hr) (by decide) (by decide)) (fun r hr => k2 (q_ra_128 h rfl hr) (by decide) (by decide)) (fun r hr => k2 (q_rn_128 h rfl hr) (by decide) (by decide)) (k2 (q_hn_128 h rfl) (by decide) (by decide)) (k2 (q_vn_128 h rfl) (by decide) (by decide)) (k2 (q_vl_128 h rfl) (by decide) (by decide))
  · exact ns_all (p := fun a => sF σ a 144 = .null) hL.1 (q_root_144 h rfl) (q_int_144 h rfl) (q_bool_144 h rfl) (fun k hk => q_lv_144 h rfl hk) (fun k hk h0 => q_nl_144 h rfl hk h0) (q_oN_144 h rfl) (q_on_144 h rfl) (fun r hr => q_rr_144 h rfl hr) (fun r hr => q_ra_144 h rfl hr) (fun r hr => q_rn_144 h rfl hr) (q_hn_144 h rfl) (q_vn_144 h rfl) (q_vl_144 h rfl)
  · have f : ∀ {a : Nat} {k : Int32} {q : Prop}, sF σ a 128 = .int k → ¬ k = 3 → kdf σ a = 3 → q := fun h1 h2 h3 => absurd ((kd_of h1).symm.trans h3) h2
    refine ns_all hL.1 (f (q_root_128 h rfl) (by decide)) (f (q_int_128 h rfl) (by decide)) (f (q_bool_128 h rfl) (by decide)) (fun k hk => f (q_lv_128 h rfl hk) (by decide)) (fun k hk h0 => f (q_nl_128 h rfl hk h0) (by decide)) (f (q_oN_128 h rfl) (by decide)) (f (q_on_128 h rfl) (by decide)) (fun r hr => f (q_rr_128 h rfl hr) (by decide)) (fun r hr _ => ?_) (fun r hr => f (q_rn_128 h rfl hr) (by decide)) (f (q_hn_128 h rfl) (by decide)) (f (q_vn_128 h rfl) (by decide)) (f (q_vl_128 h rfl) (by decide))
    have hs := r_s_lt hn.1 hm.1 hr
    obtain ⟨e1, e2, e3, e4⟩ := f_ra hD h hR hr
    obtain ⟨q1, q2, ⟨q3, q4, q5, q6⟩, q7, q8⟩ := sl_p (q_ra_132 h rfl hr) ((q_ra_133 h rfl hr).trans (hb r hr).1) (q_ra_134 h rfl hr) (c_rn h hr) (b1 r hr) (c_rr h hs) (ns_rr hs) (o_rr h hR hs)
    refine ⟨by unfold rlv; rw [a9 r hr]; rfl, q1, q2, ?_, q3, q4, q5, q7, ?_⟩
    · rw [e2]
      rcases e4 with e | e <;> rw [e]
      · exact Or.inl rfl
      · exact Or.inr rfl
    · rw [e3]
      exact kd_of (q_rr_128 h rfl hs)
def PH : List Nat := [32,33,36,37,38,39,40,41,42,43,44,46,47,48,128,129,131,132,133,134,135,136,137,138,139,140,141,142,144,145,146,160,161,162,165,192,195,205,207,208,209,210,211,227,289,290,291,292,297,298,300,320,321,322,323,324]
theorem w_cells (hd : 3 ≤ d) (hD : Dr lf L n m sh hi mo bd) (h : We P2 lf L n m σ) (hT : TY L n m ty σ) (hR : RF L n m sh hi mo σ) (h0 : ∀ a ∈ a_ns L n m, sF σ a 143 = .int (-1)) {Q : Option Value → fl_S → Prop} (next : ∀ σ1, Sm PH σ σ1 → Ar (ty + 12) σ σ1 → (∀ a, sI σ1 a = sI σ a) → CE L n m σ1 → sZ σ1 = sZ σ → sc σ1 = sc σ → ss σ1 = ss σ → Q none σ1) : EQ X (d - 1) 74 72 [(2, .int 0), (1, .int 1), (0, .ref ty)] [] σ Q := by
  have hD0 := hD
  obtain ⟨hL, hn, hm, -⟩ := hD0
  have hR0 := hR
  obtain ⟨a1, a2, a3, a4, a5, a6, a7, a8, a9, b1, b2, b3, b4⟩ := hR0
  have rl : ∀ {a : Nat}, sF σ a 139 = .ref a → rlv σ a = a := fun e => by unfold rlv; rw [e]; rfl
  have kk : ∀ {a : Nat} {k : Int32}, sF σ a 128 = .int k → ¬ k = 13 → ¬ k = 3 → kdf σ a ≠ 13 ∧ kdf σ a ≠ 3 := fun h1 h2 h3 => by rw [kd_of h1]; exact ⟨h2, h3⟩
  have g := g_crounds (X := X) (d := d) (σ := σ) (Q := Q) (ty := ty) (ns := a_ns L n m) hd hT.1 hT.2.2.2.2.1 hT.2.2.2.2.2.1 (by unfold x_T; omega) (w_CW hD h hR) (fun φ hI hC => next (sS σ 143 φ) (Sm.rf.s rfl) (fun _ _ => rfl) (fun _ => rfl)
    ⟨fun k hk => hC _ (ns_lv hk) (rl (a4 k hk)) (kk (q_lv_128 h rfl hk) (by decide) (by decide)).1 (kk (q_lv_128 h rfl hk) (by decide) (by decide)).2,
     fun r hr => hC _ (ns_rr hr) (rl (a8 r hr)) (kk (q_rr_128 h rfl hr) (by decide) (by decide)).1 (kk (q_rr_128 h rfl hr) (by decide) (by decide)).2,
     hC 25 (by unfold a_ns; simp) (rl a2) (kk (q_int_128 h rfl) (by decide) (by decide)).1 (kk (q_int_128 h rfl) (by decide) (by decide)).2,
     fun r hr => (by
      rcases hI _ (ns_ra hr) with e | ⟨-, e⟩ | ⟨-, e | e⟩
      · exact ⟨_, e, by decide⟩
      · exact ⟨_, e, by decide⟩
      · exact ⟨_, e, by decide⟩
      · exact ⟨_, e, by decide⟩),
     hC _ ns_oN (rl a6) (kk (q_oN_128 h rfl) (by decide) (by decide)).1 (kk (q_oN_128 h rfl) (by decide) (by decide)).2⟩ rfl rfl rfl)
    (x_T L n m + 3 + 2) 0 1 (fun b => sF σ b 143) (by omega) (Or.inr rfl) (fun a ha => Or.inl (h0 a ha)) (Or.inr ⟨rfl, rfl⟩)
  rw [sS_same] at g
  exact g
end W78
