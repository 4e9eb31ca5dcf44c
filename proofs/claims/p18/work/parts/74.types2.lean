/-! Types made, numbered, names replaced -/
def usN (L n m i : Nat) : Nat := bif Nat.beq i 0 then 27 else bif Nat.beq i 1 then a_T L n m else bif Nat.beq i 2 then a_T L n m + 6 else bif Nat.beq i 3 then a_T L n m + 9 else a_T L n m + 17
def dsN (L n m i : Nat) : List Nat := bif Nat.beq i 0 then ds0 L n m else bif Nat.beq i 1 then [a_T L n m + 1, a_T L n m + 2] else bif Nat.beq i 2 then [a_T L n m + 7, a_T L n m + 8] else bif Nat.beq i 3 then [a_T L n m + 10] else [a_T L n m + 18]
theorem i5 {p : Nat → Prop} (h0 : p 0) (h1 : p 1) (h2 : p 2) (h3 : p 3) (h4 : p 4) : ∀ i, i < 5 → p i := fun i hi => by
  obtain rfl | rfl | rfl | rfl | rfl : i = 0 ∨ i = 1 ∨ i = 2 ∨ i = 3 ∨ i = 4 := by omega
  · exact h0
  · exact h1
  · exact h2
  · exact h3
  · exact h4
theorem ds0_len (L n m : Nat) : (ds0 L n m).length = L + (n + m) + 1 := by unfold ds0; simp
theorem ds0_at {L n m i : Nat} (hi : i < L + (n + m) + 1) : (ds0 L n m)[i]? = some (a_ds L i) := by
  unfold ds0
  rw [List.getElem?_map, List.getElem?_range hi]
  rfl
/-- Types' own fields -/
def TY (L n m ty : Nat) (σ : fl_S) : Prop := sC σ 9 ty = true ∧ sF σ ty 289 = .ref (ty + 2) ∧ sF σ ty 290 = .ref (ty + 3) ∧ sF σ ty 291 = .ref (ty + 5) ∧ sF σ ty 297 = .ref 24 ∧ sF σ ty 298 = .int (Int32.ofNat (x_T L n m + 3)) ∧ sF σ ty 300 = .int 2147483647
def P9 : List Nat := [289, 290, 291, 297, 298, 300]
theorem TY.sm {L n m ty : Nat} {σ τ : fl_S} (h : TY L n m ty σ) (hs : Sm P9 σ τ) : TY L n m ty τ := ⟨hs.1 _ _ h.1, (hs.2 _ _ rfl).trans h.2.1, (hs.2 _ _ rfl).trans h.2.2.1, (hs.2 _ _ rfl).trans h.2.2.2.1, (hs.2 _ _ rfl).trans h.2.2.2.2.1, (hs.2 _ _ rfl).trans h.2.2.2.2.2.1, (hs.2 _ _ rfl).trans h.2.2.2.2.2.2⟩
/-- the row of units -/
def UA (L n m ty : Nat) (σ : fl_S) : Prop := ∃ UR, sR σ (ty + 2) = some (2, 5, UR) ∧ ∀ i, i < 5 → UR i = some (usN L n m i)
/-- the row of types -/
def TA (L n m ty : Nat) (σ : fl_S) : Prop := ∃ TR, sR σ (ty + 3) = some (2, L + (n + m) + 1, TR) ∧ ∀ i, i < L + (n + m) + 1 → TR i = some (a_ds L i)
def PA (ty : Nat) (σ : fl_S) : Prop := ∃ PR, sR σ (ty + 5) = some (2, 0, PR)
/-- units' numbers -/
def UF (L n m : Nat) (σ : fl_S) : Prop := sF σ 27 41 = .int 0 ∧ sF σ (a_T L n m) 41 = .int 1 ∧ sF σ (a_T L n m + 6) 41 = .int 2 ∧ sF σ (a_T L n m + 9) 41 = .int 3 ∧ sF σ (a_T L n m + 17) 41 = .int 4
theorem UF.sm {L n m : Nat} {P : List Nat} {σ τ : fl_S} (h : UF L n m σ) (hs : Sm P σ τ) (hp : iP 41 P = true) : UF L n m τ := ⟨(hs.2 _ _ hp).trans h.1, (hs.2 _ _ hp).trans h.2.1, (hs.2 _ _ hp).trans h.2.2.1, (hs.2 _ _ hp).trans h.2.2.2.1, (hs.2 _ _ hp).trans h.2.2.2.2⟩
theorem NF.sm {L n m sh hi mo : Nat} {P : List Nat} {σ τ : fl_S} (h : NF L n m sh hi mo σ) (hs : Sm P σ τ) (h1 : iP 48 P = true) (h2 : iP 165 P = true) : NF L n m sh hi mo τ := by
  obtain ⟨⟨m0, m1, m2, m3, m4⟩, a1, a2, a3, a4, a5, a6, a7⟩ := h
  exact ⟨⟨(hs.2 _ _ h1).trans m0, (hs.2 _ _ h1).trans m1, (hs.2 _ _ h1).trans m2, (hs.2 _ _ h1).trans m3, (hs.2 _ _ h1).trans m4⟩, fun k hk h0 => (hs.2 _ _ h2).trans (a1 k hk h0), (hs.2 _ _ h2).trans a2, fun r hr => (hs.2 _ _ h2).trans (a3 r hr), (hs.2 _ _ h2).trans a4, (hs.2 _ _ h2).trans a5, (hs.2 _ _ h2).trans a6, (hs.2 _ _ h2).trans a7⟩
theorem T5_sm {P : List Nat} {σ : fl_S} {ty ig bo root x : Nat} {tk : Int32} {l : List Nat} {UR : Nat → Option Nat} (hp : (P.all fun g => Nat.ble g 287 || Nat.ble 301 g) = true) : Sm P σ (T5 σ ty ig bo root x tk l UR) := by
  have e : ∀ g, Nat.ble 288 g = true → Nat.ble g 300 = true → iP g P = false := by
    intro g h1 h2
    cases hb : iP g P with
    | false => rfl
    | true =>
      have := iP_all hb hp
      rw [Bool.or_eq_true] at this
      have h1 := Nat.le_of_ble_eq_true h1
      have h2 := Nat.le_of_ble_eq_true h2
      rcases this with h3 | h3
      · have := Nat.le_of_ble_eq_true h3; omega
      · have := Nat.le_of_ble_eq_true h3; omega
  unfold T5 T4
  exact ((((((((((((((((Sm.rf.z1).u (e _ rfl rfl)).u (e _ rfl rfl)).u (e _ rfl rfl)).u (e _ rfl rfl)).u (e _ rfl rfl)).u (e _ rfl rfl)).u (e _ rfl rfl)).z1.r1).u (e _ rfl rfl)).z1.r1).u (e _ rfl rfl)).z1.r1).u (e _ rfl rfl)).z1.r1).u (e _ rfl rfl)).r1
section W74
variable {X : ev_X} {d : Nat} {lf : UInt32 → Int32} {L n m sh hi mo : Nat} {bd : Nat → Nat} {ty : Nat}
theorem w_UW (hL : 2 ≤ L) (hnm : 1 ≤ n + m) {σ : fl_S} (h : We P2 lf L n m σ) (hT : TY L n m ty σ) (hU : UA L n m ty σ) : UW σ ty (ty + 2) 5 (usN L n m) (dsN L n m) := by
  refine ⟨hT.1, hT.2.1, hU, by decide, i5 ⟨c_u0 h, e_ds0 hL hnm h, e_dm (i := 0) (fun i hi => (e_d hL h hi).1)⟩ ⟨c_u1 h, ⟨q_u1_43 h rfl, q_im1_37 h rfl, q_dh_37 h rfl⟩, ?_⟩ ⟨c_u2 h, ⟨q_u2_43 h rfl, q_ima_37 h rfl, q_imb_37 h rfl⟩, ?_⟩ ⟨c_u3 h, ⟨q_u3_43 h rfl, q_dr_37 h rfl⟩, ?_⟩ ⟨c_u4 h, ⟨q_u4_43 h rfl, q_im4_37 h rfl⟩, ?_⟩⟩
  · intro a ha
    have ha : a ∈ [a_T L n m + 1, a_T L n m + 2] := ha
    simp only [List.mem_cons, List.not_mem_nil, or_false] at ha
    rcases ha with rfl | rfl
    · exact c_im1 h
    · exact c_dh h
  · intro a ha
    have ha : a ∈ [a_T L n m + 7, a_T L n m + 8] := ha
    simp only [List.mem_cons, List.not_mem_nil, or_false] at ha
    rcases ha with rfl | rfl
    · exact c_ima h
    · exact c_imb h
  · intro a ha
    cases List.mem_singleton.mp ha
    exact c_dr h
  · intro a ha
    cases List.mem_singleton.mp ha
    exact c_im4 h
theorem w_dk (hL : 2 ≤ L) {σ : fl_S} (h : We P2 lf L n m σ) : (∀ a ∈ dsN L n m 0, sC σ 1 a = true ∧ (sF σ a 32 = .int 3 ∨ sF σ a 32 = .int 4)) ∧ (∀ a ∈ dsN L n m 1, sC σ 1 a = true ∧ ∃ kd, sF σ a 32 = .int kd ∧ ¬ kd = 3 ∧ ¬ kd = 4 ∧ ¬ kd = 8 ∧ ¬ kd = 9) ∧ (∀ a ∈ dsN L n m 2, sC σ 1 a = true ∧ ∃ kd, sF σ a 32 = .int kd ∧ ¬ kd = 3 ∧ ¬ kd = 4 ∧ ¬ kd = 8 ∧ ¬ kd = 9) ∧ (∀ a ∈ dsN L n m 3, sC σ 1 a = true ∧ ∃ kd, sF σ a 32 = .int kd ∧ ¬ kd = 3 ∧ ¬ kd = 4 ∧ ¬ kd = 8 ∧ ¬ kd = 9) ∧ (∀ a ∈ dsN L n m 4, sC σ 1 a = true ∧ ∃ kd, sF σ a 32 = .int kd ∧ ¬ kd = 3 ∧ ¬ kd = 4 ∧ ¬ kd = 8 ∧ ¬ kd = 9) := by
  refine ⟨e_dm (i := 0) (fun i hi => ⟨(e_d hL h hi).1, ?_⟩), ?_, ?_, ?_, ?_⟩
  · have hk := (e_d hL h hi).2.2
    by_cases e : i = L
    · rw [if_pos e] at hk; exact Or.inr hk
    · rw [if_neg e] at hk; exact Or.inl hk
  · intro a ha
    have ha : a ∈ [a_T L n m + 1, a_T L n m + 2] := ha
    simp only [List.mem_cons, List.not_mem_nil, or_false] at ha
    rcases ha with rfl | rfl
    · exact ⟨c_im1 h, _, q_im1_32 h rfl, by decide, by decide, by decide, by decide⟩
    · exact ⟨c_dh h, _, q_dh_32 h rfl, by decide, by decide, by decide, by decide⟩
  · intro a ha
    have ha : a ∈ [a_T L n m + 7, a_T L n m + 8] := ha
    simp only [List.mem_cons, List.not_mem_nil, or_false] at ha
    rcases ha with rfl | rfl
    · exact ⟨c_ima h, _, q_ima_32 h rfl, by decide, by decide, by decide, by decide⟩
    · exact ⟨c_imb h, _, q_imb_32 h rfl, by decide, by decide, by decide, by decide⟩
  · intro a ha
    cases List.mem_singleton.mp ha
    exact ⟨c_dr h, _, q_dr_32 h rfl, by decide, by decide, by decide, by decide⟩
  · intro a ha
    cases List.mem_singleton.mp ha
    exact ⟨c_im4 h, _, q_im4_32 h rfl, by decide, by decide, by decide, by decide⟩
theorem w_tinit (hd : 2 ≤ d) (hD : Dr lf L n m sh hi mo bd) {σ : fl_S} (h : We P1 lf L n m σ) (hU : UF L n m σ) (cty : sC σ 9 ty = true) (hz : sZ σ = ty + 1) (hz2 : ty + 6 ≤ 256) :
    CQ X d 73 [.ref ty, .ref 21] σ (fun v σ1 => v = none ∧ Sm P0 σ σ1 ∧ TY L n m ty σ1 ∧ UA L n m ty σ1 ∧ (∃ TR, sR σ1 (ty + 3) = some (2, L + (n + m) + 1, TR)) ∧ PA ty σ1 ∧ sZ σ1 = ty + 6 ∧ sc σ1 = sc σ + 5 ∧ ss σ1 ≤ ss σ + 100) := by
  obtain ⟨hL, hn, hm, -⟩ := hD
  have h2 : We P2 lf L n m σ := h.sub rfl
  obtain ⟨t0, t1, t2, t3, t4⟩ := w_dk hL.1 h2
  have w : ∀ {l : List Nat}, (∀ a ∈ l, sC σ 1 a = true ∧ ∃ kd, sF σ a 32 = .int kd ∧ ¬ kd = 3 ∧ ¬ kd = 4 ∧ ¬ kd = 8 ∧ ¬ kd = 9) → ∀ a ∈ l, sC σ 1 a = true ∧ ∃ kd, sF σ a 32 = .int kd ∧ ¬ kd = 3 ∧ ¬ kd = 4 ∧ ¬ kd = 9 := fun hl a ha => by
    obtain ⟨q1, kd, q2, q3, q4, q5, q6⟩ := hl a ha
    exact ⟨q1, kd, q2, q3, q4, q6⟩
  have g := g_typesInit (X := X) (d := d) (σ := σ) hd (ty := ty) (ps := 21) (sc0 := 3) (ig := 25) (bo := 26) (root := 24) (lnode := a_T L n m + 14) (x := x_T L n m + 2) (u0 := 27) (u1 := a_T L n m) (u2 := a_T L n m + 6) (u3 := a_T L n m + 9) (u4 := a_T L n m + 17) (tk := Int32.ofNat (tk_n L n m)) (ds0 := ds0 L n m) (ds1 := [a_T L n m + 1, a_T L n m + 2]) (ds2 := [a_T L n m + 7, a_T L n m + 8]) (ds3 := [a_T L n m + 10]) (ds4 := [a_T L n m + 18]) cty (by omega) (c_ps h2) (q_ps_192 h2 rfl) (c_sc h2) (q_sc_227 h2 rfl) (q_ps_210 h2 rfl) (q_ps_211 h2 rfl) (q_ps_209 h2 rfl) (q_ps_205 h2 rfl) (c_vl h2) (q_vl_129 h2 rfl) (q_ps_207 h2 rfl) (c_u0 h2) (q_u0_37 h2 rfl) (e_ds0 hL.1 (by omega) h2) (c_u1 h2) (q_u1_37 h2 rfl) ⟨q_u1_43 h2 rfl, q_im1_37 h2 rfl, q_dh_37 h2 rfl⟩ (c_u2 h2) (q_u2_37 h2 rfl) ⟨q_u2_43 h2 rfl, q_ima_37 h2 rfl, q_imb_37 h2 rfl⟩ (c_u3 h2) (q_u3_37 h2 rfl) ⟨q_u3_43 h2 rfl, q_dr_37 h2 rfl⟩ (c_u4 h2) (q_u4_37 h2 rfl) ⟨q_u4_43 h2 rfl, q_im4_37 h2 rfl⟩ t0 (by rw [ds0_len]; omega) (w t1) (w t2) (w t3) (w t4)
  refine CQ.mono g ?_
  rintro v σ1 ⟨hv, rfl⟩
  have e2 : ty + 2 = sZ σ + 1 := by omega
  have e3 : ty + 3 = sZ σ + 2 := by omega
  have e5 : ty + 5 = sZ σ + 4 := by omega
  refine ⟨hv, T5_sm rfl, ⟨cty, T5_289.trans (by rw [hz]), T5_290.trans (by rw [hz]), T5_291.trans (by rw [hz]), T5_297, T5_298, T5_300⟩, ⟨_, (congrArg (sR _) e2).trans T5_UR, i5 rfl rfl rfl rfl rfl⟩, ⟨fun _ => none, ((congrArg (sR _) e3).trans T5_TR).trans (by rw [ds0_len])⟩, ⟨fun _ => none, (congrArg (sR _) e5).trans T5_PR⟩, ?_, rfl, ?_⟩
  · show sZ σ + 1 + 1 + 1 + 1 + 1 = _
    omega
  · show ss σ + 20 + 5 + (ds0 L n m).length + (ds0 L n m).length + 0 ≤ _
    rw [ds0_len]
    omega
def PB : List Nat := [32,33,36,37,38,39,40,42,43,44,46,47,48,128,129,131,132,133,134,135,136,137,138,139,140,141,142,143,144,145,146,160,161,162,165,192,195,205,207,208,209,210,211,227,289,290,291,292,297,298,300,320,321,322,323,324]
/-- the rows stay: everything of the arrays of references that is known -/
def Ar (N : Nat) (σ τ : fl_S) : Prop := ∀ a, a < N → sR τ a = sR σ a
theorem w_number (hd : 1 ≤ d) (hD : Dr lf L n m sh hi mo bd) {σ : fl_S} (h : We P2 lf L n m σ) (hT : TY L n m ty σ) (hU : UA L n m ty σ) (hR : ∃ TR, sR σ (ty + 3) = some (2, L + (n + m) + 1, TR)) (hP : PA ty σ) (hF : UF L n m σ) :
    CQ X d 75 [.ref ty] σ (fun v σ1 => v = none ∧ Sm PB σ σ1 ∧ UA L n m ty σ1 ∧ TA L n m ty σ1 ∧ PA ty σ1 ∧ UF L n m σ1 ∧ sZ σ1 = sZ σ ∧ sc σ1 = sc σ ∧ ss σ1 = ss σ) := by
  obtain ⟨hL, hn, hm, -⟩ := hD
  obtain ⟨t0, t1, t2, t3, t4⟩ := w_dk hL.1 h
  obtain ⟨TR0, hR⟩ := hR
  obtain ⟨UR, hU1, hU2⟩ := hU
  obtain ⟨PR, hP⟩ := hP
  have g := g_number (X := X) (d := d) (σ := σ) hd (ty := ty) (ur := ty + 2) (tr := ty + 3) (T := L + (n + m) + 1) (w_UW hL.1 (by omega) h hT ⟨UR, hU1, hU2⟩) hT.2.2.1 hR (by omega) (by omega) (ds0_len L n m) (fun a ha => (t0 a ha).2) (fun a ha => (t1 a ha).2) (fun a ha => (t2 a ha).2) (fun a ha => (t3 a ha).2) (fun a ha => (t4 a ha).2)
  refine CQ.mono g ?_
  rintro v σ1 ⟨hv, φ, TR, rfl, h1, h2⟩
  have hno : ∀ b, b = 27 ∨ a_T L n m ≤ b → b ∉ ds0 L n m := by
    intro b hb hm
    unfold ds0 at hm
    simp only [List.mem_map, List.mem_range] at hm
    obtain ⟨i, hi, rfl⟩ := hm
    unfold a_ds a_T at hb
    by_cases e0 : i = 0
    · subst e0
      have hb : (28 = 27 ∨ 30 + 5 * L + 5 * (n + m) ≤ 28) := hb
      omega
    · rw [nb_ne e0] at hb
      by_cases e : i ≤ L
      · rw [bleT e] at hb
        have hb : (26 + 5 * i = 27 ∨ 30 + 5 * L + 5 * (n + m) ≤ 26 + 5 * i) := hb
        omega
      · rw [bleF (show L < i by omega)] at hb
        have hb : (25 + 5 * i = 27 ∨ 30 + 5 * L + 5 * (n + m) ≤ 25 + 5 * i) := hb
        omega
  refine ⟨hv, (Sm.rf.s rfl).r1, ⟨UR, (NS_Rn (by omega)).trans hU1, hU2⟩, ⟨TR, NS_R, fun i hi => (h1 i hi).trans (ds0_at hi)⟩, ⟨PR, (NS_Rn (by omega)).trans hP⟩, ⟨(h2 _ (hno _ (by omega))).trans hF.1, (h2 _ (hno _ (by omega))).trans hF.2.1, (h2 _ (hno _ (by omega))).trans hF.2.2.1, (h2 _ (hno _ (by omega))).trans hF.2.2.2.1, (h2 _ (hno _ (by omega))).trans hF.2.2.2.2⟩, rfl, rfl, rfl⟩
end W74
