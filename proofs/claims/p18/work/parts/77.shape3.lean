/-! which types are of one shape -/
/-- shapes told: which differ, which are one, the least TYPE of each -/
def SH (L n m ty : Nat) (bd : Nat → Nat) (σ : fl_S) : Prop := ∃ (S : Nat → Nat) (many le : Nat) (Lf : Nat → Int32), (∀ a ∈ a_ns L n m, sF σ a 142 = .int (Int32.ofNat (S a)) ∧ S a < many) ∧ many < 100000 ∧ sF σ ty 292 = .ref le ∧ sI σ le = some (many, Lf) ∧
  (∀ k, k < L → ∀ j, j < L → S (a_lv k) = S (a_lv j) → k = j) ∧ (∀ k, k < L → S 24 ≠ S (a_lv k) ∧ S (a_oN L) ≠ S (a_lv k) ∧ ∀ r, r < n + m → S (a_lv k) ≠ S (a_rg L r + 1)) ∧ S (a_oN L) ≠ S 24 ∧ (∀ r, r < n + m → S (a_oN L) ≠ S (a_rg L r + 1)) ∧
  (∀ r q, r < n + m → q < n + m → (S (a_rg L r + 1) = S (a_rg L q + 1) ↔ ∀ j, bd (sIt n m j r) = bd (sIt n m j q))) ∧ LeP S (tnN L) (L + (n + m) + 1) 0 Lf
theorem st_one {ns : List Nat} {own : Nat → Bool} {kd hi : Nat → Int32} {pt S : Nat → Nat} (h : Stb ns own kd hi pt S) {x y : Nat} (hx : x ∈ ns) (ox : own x = true) (hy : y ∈ ns) (oy : own y = true) (h3 : ¬ kd x = 3) (h5 : ¬ kd x = 5) (e : S x = S y) : x = y := by
  have := h x hx y hy ox oy e
  unfold lkt at this
  rw [decide_eq_false h3, decide_eq_false h5, Bool.or_self, Bool.and_false, Bool.false_and, Bool.false_and, Bool.or_false] at this
  exact of_decide_eq_true this
theorem st_two {ns : List Nat} {own : Nat → Bool} {kd hi : Nat → Int32} {pt S : Nat → Nat} (h : Stb ns own kd hi pt S) {x y : Nat} (hx : x ∈ ns) (ox : own x = true) (hy : y ∈ ns) (oy : own y = true) (e : S x = S y) : x = y ∨ (hi x = hi y ∧ Int32.ofNat (S (pt x)) = Int32.ofNat (S (pt y))) := by
  have := h x hx y hy ox oy e
  unfold lkt at this
  rw [Bool.or_eq_true, Bool.and_eq_true, Bool.and_eq_true] at this
  rcases this with e | ⟨⟨-, e1⟩, e2⟩
  · exact Or.inl (of_decide_eq_true e)
  · exact Or.inr ⟨of_decide_eq_true e1, of_decide_eq_true e2⟩
theorem nat_in {a b : Nat} (ha : a < 100000) (hb : b < 100000) (h : Int32.ofNat a = Int32.ofNat b) : a = b := (nat_e (by omega) (by omega)).mp h
section W77
variable {X : ev_X} {d : Nat} {lf : UInt32 → Int32} {L n m sh hi mo : Nat} {bd : Nat → Nat} {ty : Nat} {σ : fl_S}
theorem rg_inj {r q i : Nat} (h : a_rg L r + i = a_rg L q + i) : r = q := by unfold a_rg at h; omega
theorem w_ring (hD : Dr lf L n m sh hi mo bd) (h : We P2 lf L n m σ) (hR : RF L n m sh hi mo σ) {S : Nat → Nat} {many : Nat} (hO : OI (a_ns L n m) (ownt (kdf σ) (rlv σ) (onf σ)) (kdf σ) (hif σ) (ptf σ) (x_T L n m + 3) S many) (hS : Stb (a_ns L n m) (ownt (kdf σ) (rlv σ) (onf σ)) (kdf σ) (hif σ) (ptf σ) S) (hb : ∀ a ∈ a_ns L n m, S a < 100000) :
    ∀ r q, r < n + m → q < n + m → (S (a_rg L r + 1) = S (a_rg L q + 1) ↔ ∀ j, bd (sIt n m j r) = bd (sIt n m j q)) := by
  have hD0 := hD
  obtain ⟨hL, hn, hm, -⟩ := hD0
  have go : ∀ j r q, r < n + m → q < n + m → S (a_rg L r + 1) = S (a_rg L q + 1) → bd (sIt n m j r) = bd (sIt n m j q) := by
    intro j
    induction j with
    | zero =>
      intro r q hr hq e
      rcases st_two hS (ns_rr hr) (o_rr h hR hr) (ns_rr hq) (o_rr h hR hq) e with e | ⟨-, e⟩
      · rw [rg_inj e]
      · rw [(f_rr h hR hr).2.2, (f_rr h hR hq).2.2] at e
        rcases st_two hS (ns_ra hr) (o_ra h hR hr) (ns_ra hq) (o_ra h hR hq) (nat_in (hb _ (ns_ra hr)) (hb _ (ns_ra hq)) e) with e | ⟨e, -⟩
        · rw [rg_inj e]
        · obtain ⟨-, e1, -, e2⟩ := f_ra hD h hR hr
          obtain ⟨-, e3, -, e4⟩ := f_ra hD h hR hq
          rw [e1, e3] at e
          show bd r = bd q
          exact nat_in (by omega) (by omega) e
    | succ j ih =>
      intro r q hr hq e
      rcases st_two hS (ns_rr hr) (o_rr h hR hr) (ns_rr hq) (o_rr h hR hq) e with e | ⟨-, e⟩
      · rw [rg_inj e]
      · rw [(f_rr h hR hr).2.2, (f_rr h hR hq).2.2] at e
        rcases st_two hS (ns_ra hr) (o_ra h hR hr) (ns_ra hq) (o_ra h hR hq) (nat_in (hb _ (ns_ra hr)) (hb _ (ns_ra hq)) e) with e | ⟨-, e⟩
        · rw [rg_inj e]
        · obtain ⟨-, -, e1, -⟩ := f_ra hD h hR hr
          obtain ⟨-, -, e3, -⟩ := f_ra hD h hR hq
          rw [e1, e3] at e
          have s1 := r_s_lt hn.1 hm.1 hr
          have s2 := r_s_lt hn.1 hm.1 hq
          exact ih _ _ s1 s2 (nat_in (hb _ (ns_rr s1)) (hb _ (ns_rr s2)) e)
  intro r q hr hq
  refine ⟨fun e j => go j r q hr hq e, fun hall => ?_⟩
  refine hO.2.2.2.2.1 (fun x y => ∃ r q, r < n + m ∧ q < n + m ∧ (∀ j, bd (sIt n m j r) = bd (sIt n m j q)) ∧ ((x = a_rg L r + 1 ∧ y = a_rg L q + 1) ∨ (x = a_rg L r + 2 ∧ y = a_rg L q + 2))) ?_ _ (ns_rr hr) _ (ns_rr hq) (o_rr h hR hr) (o_rr h hR hq) ⟨r, q, hr, hq, hall, Or.inl ⟨rfl, rfl⟩⟩
  rintro x - y - - - ⟨r, q, hr, hq, hall, ⟨rfl, rfl⟩ | ⟨rfl, rfl⟩⟩
  · obtain ⟨e1, e2, e3⟩ := f_rr h hR hr
    obtain ⟨e4, e5, e6⟩ := f_rr h hR hq
    exact Or.inr ⟨e1.trans e4.symm, Or.inr e1, e2.trans e5.symm, r, q, hr, hq, hall, Or.inr ⟨e3, e6⟩⟩
  · obtain ⟨e1, e2, e3, -⟩ := f_ra hD h hR hr
    obtain ⟨e4, e5, e6, -⟩ := f_ra hD h hR hq
    exact Or.inr ⟨e1.trans e4.symm, Or.inl e1, e2.trans ((congrArg Int32.ofNat (hall 0)).trans e5.symm), _, _, r_s_lt hn.1 hm.1 hr, r_s_lt hn.1 hm.1 hq, fun j => hall (j + 1), Or.inl ⟨e3, e6⟩⟩
def PF : List Nat := [32,33,36,37,38,39,40,41,42,43,44,46,47,48,128,129,131,132,133,134,135,136,137,138,139,140,141,143,144,145,146,160,161,162,165,192,195,205,207,208,209,210,211,227,289,290,291,297,298,300,320,321,322,323,324]
theorem LSt_sm {P : List Nat} {nn many : Nat} {H C Sh : Nat → Int32} {M : Nat → Option Nat} {φ : Nat → Value} {Lf : Nat → Int32} (h1 : iP 142 P = false) (h2 : iP 292 P = false) : Sm P σ (LSt σ ty nn many H C Sh M φ Lf) := by
  have e : Sm P σ (RS σ nn H C Sh M φ) := (Sm.rf.s h1 : Sm P σ (sS σ 142 φ))
  unfold LSt
  exact (((e.z1).i1).u h2).i1
theorem w_row (hL : 2 ≤ L) (h : We P2 lf L n m σ) : ∀ i, i < L + (n + m) + 1 → sC σ 1 (a_ds L i) = true ∧ sF σ (a_ds L i) 38 = .ref (tnN L i) ∧ sC σ 4 (tnN L i) = true := by
  intro i hi
  refine ⟨(e_d hL h hi).1, ?_⟩
  by_cases e : i < L
  · rw [a_ds_l e, tn_l e]
    exact ⟨q_dl_38 h rfl e, c_lv h e⟩
  · by_cases e2 : i = L
    · subst e2
      rw [a_ds_o (by omega), tn_o]
      exact ⟨q_do_38 h rfl, c_oN h⟩
    · obtain ⟨r, rfl⟩ : ∃ r, i = L + 1 + r := ⟨i - (L + 1), by omega⟩
      rw [a_ds_r, tn_r]
      exact ⟨q_rd_38 h rfl (by omega), c_rr h (by omega)⟩
theorem w_tn (h : We P2 lf L n m σ) (hR : RF L n m sh hi mo σ) : ∀ i, i < L + (n + m) + 1 → sF σ (tnN L i) 139 = .ref (tnN L i) ∧ tnN L i ∈ a_ns L n m ∧ ownf σ (tnN L i) = true := tn_all (p := fun a => sF σ a 139 = .ref a ∧ a ∈ a_ns L n m ∧ ownf σ a = true) (fun i hi => ⟨hR.2.2.2.1 i hi, ns_lv hi, o_lv h hR hi⟩) ⟨hR.2.2.2.2.2.1, ns_oN, o_oN h hR⟩ (fun r hr => ⟨hR.2.2.2.2.2.2.2.1 r hr, ns_rr hr, o_rr h hR hr⟩)
theorem w_shapes (hd : 5 ≤ d) (hD : Dr lf L n m sh hi mo bd) (h : We P2 lf L n m σ) (hT : TY L n m ty σ) (hA : TA L n m ty σ) (hR : RF L n m sh hi mo σ) (h0 : ∀ a ∈ a_ns L n m, sF σ a 142 = .int 0) (hz : sZ σ = ty + 6) (hz2 : ty + 11 ≤ 256) :
    CQ X d 87 [.ref ty] σ (fun v σ1 => v = none ∧ Sm PF σ σ1 ∧ Ar (ty + 6) σ σ1 ∧ SH L n m ty bd σ1 ∧ sZ σ1 = ty + 11 ∧ sc σ1 = sc σ + 5 ∧ ss σ1 ≤ ss σ + 1000) := by
  have hD0 := hD
  obtain ⟨hL, hn, hm, -⟩ := hD0
  obtain ⟨TR, hA1, hA2⟩ := hA
  have g := g_findShapes (X := X) (d := d) (σ := σ) hd (w_FW hD h hR) hT.1 hT.2.2.2.2.2.1 hT.2.2.2.2.1 h0 ⟨24, ns_24, o_24 h hR⟩ (by omega) hT.2.2.1 hA1 (by omega) (by omega) (td := a_ds L) (tn := tnN L) (rt := tnN L)
    (fun i hi => ⟨hA2 i hi, (w_row hL.1 h i hi).1, (w_row hL.1 h i hi).2.1, (w_row hL.1 h i hi).2.2, (w_tn h hR i hi).1, (w_tn h hR i hi).2.1, (w_tn h hR i hi).2.2⟩)
  refine CQ.mono g ?_
  rintro v σ1 ⟨hv, many, S, H, C, Sh, M, φ, Lf, rfl, hφ, hO, hS, hLe⟩
  have hx : x_T L n m + 3 ≤ 45 := by unfold x_T; omega
  have hb : ∀ a ∈ a_ns L n m, S a < many := fun a ha => by
    cases ho : ownt (kdf σ) (rlv σ) (onf σ) a with
    | true => exact hO.1 a ha ho
    | false => rw [hO.2.2.2.2.2 a ha ho]; exact hO.2.2.1
  have hm1 : many ≤ 45 := Nat.le_trans hO.2.1 hx
  have hb2 : ∀ a ∈ a_ns L n m, S a < 100000 := fun a ha => by have := hb a ha; omega
  refine ⟨hv, LSt_sm rfl rfl, fun a ha => LSt_R (by omega), ⟨S, many, sZ σ + 4, Lf, fun a ha => ⟨hφ a ha, hb a ha⟩, by omega, LSt_least, LSt_L, ?_, ?_, ?_, ?_, w_ring hD h hR hO hS hb2, hLe⟩, ?_, ?_, ?_⟩
  · intro k hk j hj e
    have := st_one hS (ns_lv hk) (o_lv h hR hk) (ns_lv hj) (o_lv h hR hj) (by rw [kd_of (q_lv_128 h rfl hk)]; decide) (by rw [kd_of (q_lv_128 h rfl hk)]; decide) e
    unfold a_lv at this
    omega
  · intro k hk
    refine ⟨fun e => ?_, fun e => ?_, fun r hr e => ?_⟩
    · have := st_one hS ns_24 (o_24 h hR) (ns_lv hk) (o_lv h hR hk) (by rw [kd_of (q_root_128 h rfl)]; decide) (by rw [kd_of (q_root_128 h rfl)]; decide) e
      unfold a_lv at this
      omega
    · have := st_one hS ns_oN (o_oN h hR) (ns_lv hk) (o_lv h hR hk) (by rw [kd_of (q_oN_128 h rfl)]; decide) (by rw [kd_of (q_oN_128 h rfl)]; decide) e
      unfold a_lv a_oN at this
      omega
    · have := st_one hS (ns_lv hk) (o_lv h hR hk) (ns_rr hr) (o_rr h hR hr) (by rw [kd_of (q_lv_128 h rfl hk)]; decide) (by rw [kd_of (q_lv_128 h rfl hk)]; decide) e
      unfold a_lv a_rg at this
      omega
  · intro e
    have := st_one hS ns_oN (o_oN h hR) ns_24 (o_24 h hR) (by rw [kd_of (q_oN_128 h rfl)]; decide) (by rw [kd_of (q_oN_128 h rfl)]; decide) e
    unfold a_oN at this
    omega
  · intro r hr e
    have := st_one hS ns_oN (o_oN h hR) (ns_rr hr) (o_rr h hR hr) (by rw [kd_of (q_oN_128 h rfl)]; decide) (by rw [kd_of (q_oN_128 h rfl)]; decide) e
    unfold a_oN a_rg at this
    omega
  · show sZ σ + 4 + 1 = ty + 11
    omega
  · rfl
  · show ss σ + (x_T L n m + 3) + (x_T L n m + 3) + (x_T L n m + 3) + (x_T L n m + 3) + many ≤ _
    omega
/-- the chain above the k-th level, from it on -/
def chL : Nat → List Nat
  | 0 => [29, 24]
  | k + 1 => a_lv (k + 1) :: chL k
theorem chL_len : ∀ k, (chL k).length = k + 2
  | 0 => rfl
  | k + 1 => by
    unfold chL
    rw [List.length_cons, chL_len k]
theorem chL_chn {T : Nat} (h24 : fup L T hi 24 = none) : ∀ k, k < L → Chn (fup L T hi) (some (a_lv k)) (chL k)
  | 0, hk => ⟨rfl, by rw [show (29 : Nat) = a_lv 0 from rfl, fup_lv hk]; exact ⟨rfl, h24⟩⟩
  | k + 1, hk => ⟨rfl, by
    rw [fup_lv hk, if_neg (by omega)]
    exact chL_chn h24 k (by omega)⟩
theorem chL_all {p : Nat → Prop} (h24 : p 24) : ∀ k, (∀ j, j ≤ k → p (a_lv j)) → ∀ a ∈ chL k, p a
  | 0, h, a, ha => by
    unfold chL at ha
    simp only [List.mem_cons, List.not_mem_nil, or_false] at ha
    rcases ha with rfl | rfl
    · exact h 0 (Nat.le_refl 0)
    · exact h24
  | k + 1, h, a, ha => by
    unfold chL at ha
    rcases List.mem_cons.mp ha with rfl | ha
    · exact h (k + 1) (Nat.le_refl _)
    · exact chL_all h24 k (fun j hj => h j (by omega)) a ha
theorem chL_find {p : Nat → Bool} {x : Nat} : ∀ k, x ≤ k → p (a_lv x) = true → (∀ j, x < j → j ≤ k → p (a_lv j) = false) → (chL k).find? p = some (a_lv x)
  | 0, hk, h1, _ => by
    obtain rfl : x = 0 := by omega
    unfold chL
    rw [List.find?_cons]
    show (match p (a_lv 0) with | true => some 29 | false => _) = _
    rw [h1]
    rfl
  | k + 1, hk, h1, h2 => by
    unfold chL
    rw [List.find?_cons]
    by_cases e : x = k + 1
    · subst e
      rw [h1]
    · rw [h2 (k + 1) (by omega) (Nat.le_refl _)]
      exact chL_find k (by omega) h1 (fun j hj hk => h2 j hj (by omega))
theorem chL_any {p : Nat → Bool} : ∀ k, (chL k).any p = true ↔ (p 24 = true ∨ ∃ j, j ≤ k ∧ p (a_lv j) = true)
  | 0 => by
    unfold chL
    simp only [List.any_cons, List.any_nil, Bool.or_false, Bool.or_eq_true]
    constructor
    · rintro (h | h)
      · exact Or.inr ⟨0, Nat.le_refl 0, h⟩
      · exact Or.inl h
    · rintro (h | ⟨j, hj, h⟩)
      · exact Or.inr h
      · obtain rfl : j = 0 := by omega
        exact Or.inl h
  | k + 1 => by
    unfold chL
    rw [List.any_cons, Bool.or_eq_true, chL_any k]
    constructor
    · rintro (h | h | ⟨j, hj, h⟩)
      · exact Or.inr ⟨k + 1, Nat.le_refl _, h⟩
      · exact Or.inl h
      · exact Or.inr ⟨j, by omega, h⟩
    · rintro (h | ⟨j, hj, h⟩)
      · exact Or.inr (Or.inl h)
      · by_cases e : j = k + 1
        · subst e; exact Or.inl h
        · exact Or.inr (Or.inr ⟨j, by omega, h⟩)
end W77
