/-! what the queries answer behind read -/
/-- two places of rings have one endless writing -/
def smW (n m : Nat) (bd : Nat → Nat) (r q : Nat) : Prop := ∀ j, bd (sIt n m j r) = bd (sIt n m j q)
theorem Chn.cg {f g : Nat → Option Nat} : ∀ {v : Option Nat} {l : List Nat}, Chn f v l → (∀ a ∈ l, f a = g a) → Chn g v l
  | _, [], h, _ => h
  | _, a :: l, h, e => ⟨h.1, by
    rw [← e a List.mem_cons_self]
    exact Chn.cg h.2 (fun b hb => e b (List.mem_cons_of_mem _ hb))⟩
theorem Chn.tl {f : Nat → Option Nat} {a : Nat} {l : List Nat} (h : Chn f (some a) (a :: l)) : Chn f (f a) l := h.2
section W83
variable {X : ev_X} {d : Nat} {lf : UInt32 → Int32} {L n m sh hi mo : Nat} {bd : Nat → Nat} {ty : Nat} {σ : fl_S}
def QF (lf : UInt32 → Int32) (L n m sh hi mo : Nat) (bd : Nat → Nat) (ty : Nat) (σ : fl_S) : Prop := FIN lf L n m sh hi mo bd ty σ ∧ sC σ 10 1 = true ∧ sF σ 1 324 = .ref ty
theorem a_QW (hD : Dr lf L n m sh hi mo bd) (hQ : QF lf L n m sh hi mo bd ty σ) : QW σ 1 ty (ty + 3) (L + (n + m) + 1) (ty + 2) 5 (a_ds L) (tnN L) (tnN L) (usN L n m) := by
  obtain ⟨hF, h1, h2⟩ := hQ
  have hF0 := hF
  obtain ⟨h, hN, hT, ⟨UR, u1, u2⟩, hA, hP, hUF, hR, -⟩ := hF0
  obtain ⟨hL, hn, hm, -⟩ := hD
  refine ⟨h1, h2, hT.1, hT.2.2.1, hA, by omega, fun i hi' => ?_, hT.2.1, ⟨UR, u1, u2⟩, by decide⟩
  obtain ⟨w1, w2, w3⟩ := w_row hL.1 h i hi'
  exact ⟨w1, w2, w3, (w_tn h hR i hi').1, w3⟩
theorem a_sh (hD : Dr lf L n m sh hi mo bd) (hQ : QF lf L n m sh hi mo bd ty σ) : ∃ (S : Nat → Nat) (many le : Nat) (Lf : Nat → Int32), (∀ a ∈ a_ns L n m, sF σ a 142 = .int (Int32.ofNat (S a)) ∧ S a < many) ∧ many < 100000 ∧ sF σ ty 292 = .ref le ∧ sI σ le = some (many, Lf) ∧ (∀ k, k < L → ∀ j, j < L → S (a_lv k) = S (a_lv j) → k = j) ∧ (∀ k, k < L → S 24 ≠ S (a_lv k) ∧ S (a_oN L) ≠ S (a_lv k) ∧ ∀ r, r < n + m → S (a_lv k) ≠ S (a_rg L r + 1)) ∧ S (a_oN L) ≠ S 24 ∧ (∀ r, r < n + m → S (a_oN L) ≠ S (a_rg L r + 1)) ∧
  (∀ r q, r < n + m → q < n + m → (S (a_rg L r + 1) = S (a_rg L q + 1) ↔ smW n m bd r q)) ∧ LeP S (tnN L) (L + (n + m) + 1) 0 Lf := hQ.1.2.2.2.2.2.2.2.2.2.2.1
theorem a_alike (hd : 3 ≤ d) (hD : Dr lf L n m sh hi mo bd) (hQ : QF lf L n m sh hi mo bd ty σ) {r q : Nat} (hr : r < n + m) (hq : q < n + m) {b : Bool} (hb : b = true ↔ smW n m bd r q) : CF X d 7 [.ref 1, .int (Int32.ofNat (L + 1 + r)), .int (Int32.ofNat (L + 1 + q))] σ (some (.int (if b = true then 1 else 0))) σ := by
  obtain ⟨S, many, le, Lf, s1, s2, s3, s4, s5, s6, s7, s8, s9, s10⟩ := a_sh hD hQ
  have hlt : ∀ a ∈ a_ns L n m, S a < 100000 := fun a ha => by have := (s1 a ha).2; omega
  have g := g_alike (X := X) (d := d) (σ := σ) (by omega) (a_QW hD hQ) (i := L + 1 + r) (j := L + 1 + q) (S := fun a => Int32.ofNat (S a)) (by omega) (by omega) (by rw [tn_r]; exact (s1 _ (ns_rr hr)).1) (by rw [tn_r]; exact (s1 _ (ns_rr hq)).1)
  rw [tn_r, tn_r] at g
  have e : (Int32.ofNat (S (a_rg L r + 1)) = Int32.ofNat (S (a_rg L q + 1))) ↔ b = true := ⟨fun h => hb.mpr ((s9 r q hr hq).mp (nat_in (hlt _ (ns_rr hr)) (hlt _ (ns_rr hq)) h)), fun h => congrArg Int32.ofNat ((s9 r q hr hq).mpr (hb.mp h))⟩
  cases b with
  | true => rw [if_pos (e.mpr rfl)] at g; exact g
  | false => rw [if_neg (fun h => Bool.false_ne_true (e.mp h))] at g; exact g
theorem a_belowR (hd : 6 ≤ d) (hD : Dr lf L n m sh hi mo bd) (hQ : QF lf L n m sh hi mo bd ty σ) {r q : Nat} (hr : r < n + m) (hq : q < n + m) {b : Bool} (hb : b = true ↔ smW n m bd r q) : CF X d 8 [.ref 1, .int 4, .int (Int32.ofNat (L + 1 + r)), .int (Int32.ofNat (L + 1 + q))] σ (some (.int (if b = true then 1 else 0))) σ := by
  obtain ⟨S, many, le, Lf, s1, s2, s3, s4, s5, s6, s7, s8, s9, s10⟩ := a_sh hD hQ
  have hlt : ∀ a ∈ a_ns L n m, S a < 100000 := fun a ha => by have := (s1 a ha).2; omega
  have hQ0 := hQ
  obtain ⟨⟨h, hN, hT, -⟩, -⟩ := hQ0
  have g := g_isBelow (X := X) (d := d - 1) (σ := σ) (by omega) (ty := ty) (u := usN L n m 4) (a := a_rg L r + 1) (b := a_rg L q + 1) (nn := x_T L n m + 3) (ka := 5) (f := fun _ => none) (S := fun a => Int32.ofNat (S a)) (l := []) hT.1 hT.2.2.2.2.2.1 (by have := hD.1; have := hD.2.1; have := hD.2.2.1; unfold x_T; omega) (c_rr h hr) (q_rr_128 h rfl hr) (by decide) (by decide) (s1 _ (ns_rr hr)).1 (c_rr h hq) (s1 _ (ns_rr hq)).1 (g_above_n (by omega) (c_rr h hr) (q_rr_128 h rfl hr) (by decide) (by decide)) rfl (fun a ha => by cases ha) (Nat.zero_le _)
  have e : ((decide (Int32.ofNat (S (a_rg L r + 1)) = Int32.ofNat (S (a_rg L q + 1))) || ([] : List Nat).any (fun c => decide (Int32.ofNat (S c) = Int32.ofNat (S (a_rg L q + 1))))) = true) ↔ b = true := by
    rw [List.any_nil, Bool.or_false, decide_eq_true_eq]
    exact ⟨fun h => hb.mpr ((s9 r q hr hq).mp (nat_in (hlt _ (ns_rr hr)) (hlt _ (ns_rr hq)) h)), fun h => congrArg Int32.ofNat ((s9 r q hr hq).mpr (hb.mp h))⟩
  have g2 : CF X (d - 1) 95 [.ref ty, .ref (usN L n m 4), .ref (tnN L (L + 1 + r)), .ref (tnN L (L + 1 + q))] σ (some (.int (if b = true then 1 else 0))) σ := by
    rw [tn_r, tn_r]
    cases b with
    | true => rw [if_pos (e.mpr rfl)] at g; exact g
    | false => rw [if_neg (fun h => Bool.false_ne_true (e.mp h))] at g; exact g
  exact g_below (by omega) (a_QW hD hQ) (u := 4) (by decide) (by omega) (by omega) g2
theorem a_type5 (hd : 3 ≤ d) (hD : Dr lf L n m sh hi mo bd) (hQ : QF lf L n m sh hi mo bd ty σ) {r : Nat} (hr : r < n + m) : ∃ q, q ≤ r ∧ smW n m bd q r ∧ (∀ q', q' < q → ¬ smW n m bd q' r) ∧ CF X d 9 [.ref 1, .int (Int32.ofNat (L + 1 + r)), .int 5] σ (some (.int (Int32.ofNat (L + 1 + q)))) σ := by
  obtain ⟨S, many, le, Lf, s1, s2, s3, s4, s5, s6, s7, s8, s9, s10⟩ := a_sh hD hQ
  obtain ⟨j, -, j2, j3, j4, j5⟩ := s10 (L + 1 + r) (Nat.zero_le _) (by omega)
  have g := g_type5 (X := X) (d := d) (σ := σ) (by omega) (a_QW hD hQ) (i := L + 1 + r) (s := S (a_rg L r + 1)) (le := le) (mny := many) (Lf := Lf) (by omega) (by rw [tn_r]; exact (s1 _ (ns_rr hr)).1) s3 s4 (s1 _ (ns_rr hr)).2 s2
  rw [tn_r] at j3 j4
  rw [j3] at g
  have hj : L + 1 ≤ j := by
    by_cases e : j < L
    · rw [tn_l e] at j4
      exact absurd j4 ((s6 j e).2.2 r hr)
    · by_cases e2 : j = L
      · subst e2
        rw [tn_o] at j4
        exact absurd j4 (s8 r hr)
      · omega
  obtain ⟨q, rfl⟩ : ∃ q, j = L + 1 + q := ⟨j - (L + 1), by omega⟩
  rw [tn_r] at j4
  refine ⟨q, by omega, (s9 q r (by omega) hr).mp j4, fun q' hq' hs => ?_, g⟩
  have := j5 (L + 1 + q') (Nat.zero_le _) (by omega)
  rw [tn_r, tn_r] at this
  exact this ((s9 q' r (by omega) hr).mpr hs)
/-- what stands above a type as unit u sees it -/
def fU (L T hi x : Nat) (a : Nat) : Option Nat := if a = a_oN L then some (a_lv x) else fup L T hi a
theorem fU_lv {T x k : Nat} (hk : k < L) : fU L T hi x (a_lv k) = some (if k = 0 then 24 else a_lv (k - 1)) := by
  unfold fU
  rw [if_neg (by unfold a_lv a_oN; omega), fup_lv hk]
theorem fU_24 {T x : Nat} (hT : 30 ≤ T) (hL : 1 ≤ L) : fU L T hi x 24 = none := by
  unfold fU
  rw [if_neg (by unfold a_oN; omega), fup_24 hT]
theorem fU_o {T x : Nat} : fU L T hi x (a_oN L) = some (a_lv x) := if_pos rfl
theorem fU_chn {T x k : Nat} (hT : 30 ≤ T) (hk : k < L) : Chn (fU L T hi x) (some (a_lv k)) (chL k) := by
  refine (chL_chn (fup_24 hT) k hk).cg (chL_all (p := fun a => fup L T hi a = fU L T hi x a) ?_ k (fun j hj => ?_))
  · rw [fup_24 hT, fU_24 hT (by omega)]
  · rw [fup_lv (by omega), fU_lv (by omega)]
theorem rch_lt (hD : Dr lf L n m sh hi mo bd) (i : Nat) : rchN sh hi mo i < L := by
  obtain ⟨hL, hn, hm, d1, d2, d3, -⟩ := hD
  unfold rchN
  cases Nat.beq i 3
  · cases (Nat.beq i 1 || Nat.beq i 2)
    · show sh < L
      omega
    · show (if sh ≤ mo then mo else sh) < L
      by_cases e : sh ≤ mo
      · rw [if_pos e]; omega
      · rw [if_neg e]; omega
  · exact d2
theorem a_us (hD : Dr lf L n m sh hi mo bd) (hQ : QF lf L n m sh hi mo bd ty σ) : ∀ u, u < 5 → sC σ 1 (usN L n m u) = true ∧ sF σ (usN L n m u) 41 = .int (Int32.ofNat u) := by
  obtain ⟨⟨h, hN, hT, hU, hA, hP, hUF, -⟩, -⟩ := hQ
  exact i5 ⟨c_u0 h, hUF.1⟩ ⟨c_u1 h, hUF.2.1⟩ ⟨c_u2 h, hUF.2.2.1⟩ ⟨c_u3 h, hUF.2.2.2.1⟩ ⟨c_u4 h, hUF.2.2.2.2⟩
theorem a_above (hd : 1 ≤ d) (hD : Dr lf L n m sh hi mo bd) (hQ : QF lf L n m sh hi mo bd ty σ) {u : Nat} (hu : u < 5) : (∀ k, k < L → CF X d 81 [.ref ty, .ref (usN L n m u), .ref (a_lv k)] σ (some (va_rf (fU L (a_T L n m) hi (rchN sh hi mo u) (a_lv k)))) σ) ∧ CF X d 81 [.ref ty, .ref (usN L n m u), .ref 24] σ (some (va_rf (fU L (a_T L n m) hi (rchN sh hi mo u) 24))) σ ∧ CF X d 81 [.ref ty, .ref (usN L n m u), .ref (a_oN L)] σ (some (va_rf (fU L (a_T L n m) hi (rchN sh hi mo u) (a_oN L)))) σ := by
  have hu' := a_us hD hQ u hu
  obtain ⟨⟨h, hN, hT, hU, hA, hP, hUF, hR, hO, hFF, hSH, ⟨v1, V, v2, v3⟩, hCE⟩, -⟩ := hQ
  obtain ⟨hL, -⟩ := hD
  refine ⟨fun k hk => ?_, ?_, ?_⟩
  · rw [fU_lv hk]
    have he := q_lv_134 h rfl hk
    by_cases e : k = 0
    · subst e
      exact g_above_L hd (c_lv h hk) (q_lv_128 h rfl hk) he (c_root h) hR.1
    · rw [nb_ne e] at he
      rw [if_neg e]
      exact g_above_L hd (c_lv h hk) (q_lv_128 h rfl hk) he (c_nl h hk (by omega)) (hR.2.2.2.2.1 k hk (by omega))
  · rw [fU_24 (by unfold a_T; omega) (by omega)]
    exact g_above_n hd (c_root h) (q_root_128 h rfl) (by decide) (by decide)
  · rw [fU_o]
    exact g_above_O hd (c_oN h) (q_oN_128 h rfl) v1 hu'.1 hu'.2 v2 hu (by decide) (v3 u hu)
theorem a_belowO (hd : 6 ≤ d) (hD : Dr lf L n m sh hi mo bd) (hQ : QF lf L n m sh hi mo bd ty σ) {u k : Nat} (hu : u < 5) (hk : k < L) {b : Bool} (hb : b = true ↔ k ≤ rchN sh hi mo u) : CF X d 8 [.ref 1, .int (Int32.ofNat u), .int (Int32.ofNat L), .int (Int32.ofNat k)] σ (some (.int (if b = true then 1 else 0))) σ := by
  obtain ⟨S, many, le, Lf, s1, s2, s3, s4, s5, s6, s7, s8, s9, s10⟩ := a_sh hD hQ
  have hlt : ∀ a ∈ a_ns L n m, S a < 100000 := fun a ha => by have := (s1 a ha).2; omega
  have hr := rch_lt hD u
  obtain ⟨ab1, ab2, ab3⟩ := a_above (X := X) (d := d - 1 - 1) (by omega) hD hQ hu
  have hQ0 := hQ
  obtain ⟨⟨h, hN, hT, -⟩, -⟩ := hQ0
  have hL := hD.1
  have g := g_isBelow (X := X) (d := d - 1) (σ := σ) (by omega) (ty := ty) (u := usN L n m u) (a := a_oN L) (b := a_lv k) (nn := x_T L n m + 3) (ka := 12) (f := fU L (a_T L n m) hi (rchN sh hi mo u)) (S := fun a => Int32.ofNat (S a)) (l := chL (rchN sh hi mo u)) hT.1 hT.2.2.2.2.2.1 (by have := hD.2.1; have := hD.2.2.1; unfold x_T; omega) (c_oN h) (q_oN_128 h rfl) (by decide) (by decide) (s1 _ ns_oN).1 (c_lv h hk) (s1 _ (ns_lv hk)).1 ab3 (by rw [fU_o]; exact fU_chn (by unfold a_T; omega) hr)
    (chL_all (p := fun a => sC σ 4 a = true ∧ sF σ a 142 = .int (Int32.ofNat (S a)) ∧ CF X (d - 1 - 1) 81 [.ref ty, .ref (usN L n m u), .ref a] σ (some (va_rf (fU L (a_T L n m) hi (rchN sh hi mo u) a))) σ) ⟨c_root h, (s1 _ ns_24).1, ab2⟩ _ (fun j hj => ⟨c_lv h (by omega), (s1 _ (ns_lv (by omega))).1, ab1 j (by omega)⟩)) (by rw [chL_len]; unfold x_T; omega)
  have e : ((decide (Int32.ofNat (S (a_oN L)) = Int32.ofNat (S (a_lv k))) || (chL (rchN sh hi mo u)).any (fun c => decide (Int32.ofNat (S c) = Int32.ofNat (S (a_lv k))))) = true) ↔ b = true := by
    rw [hb, decide_eq_false (fun e => (s6 k hk).2.1 (nat_in (hlt _ ns_oN) (hlt _ (ns_lv hk)) e)), Bool.false_or, chL_any]
    constructor
    · rintro (e | ⟨j, hj, e⟩)
      · exact absurd (nat_in (hlt _ ns_24) (hlt _ (ns_lv hk)) (of_decide_eq_true e)) (s6 k hk).1
      · have := s5 j (by omega) k hk (nat_in (hlt _ (ns_lv (by omega))) (hlt _ (ns_lv hk)) (of_decide_eq_true e))
        omega
    · intro hle
      exact Or.inr ⟨k, hle, decide_eq_true rfl⟩
  have g2 : CF X (d - 1) 95 [.ref ty, .ref (usN L n m u), .ref (tnN L L), .ref (tnN L k)] σ (some (.int (if b = true then 1 else 0))) σ := by
    rw [tn_o, tn_l hk]
    cases b with
    | true => rw [if_pos (e.mpr rfl)] at g; exact g
    | false => rw [if_neg (fun h => Bool.false_ne_true (e.mp h))] at g; exact g
  exact g_below (by omega) (a_QW hD hQ) hu (by omega) (by omega) g2
theorem a_belowL (hd : 6 ≤ d) (hD : Dr lf L n m sh hi mo bd) (hQ : QF lf L n m sh hi mo bd ty σ) {u k t : Nat} (hu : u < 5) (hk : k < L) (ht : t < L + (n + m) + 1) {b : Bool}
    (hb : ∀ S : Nat → Nat, (∀ k, k < L → ∀ j, j < L → S (a_lv k) = S (a_lv j) → k = j) → (∀ k, k < L → S 24 ≠ S (a_lv k) ∧ S (a_oN L) ≠ S (a_lv k) ∧ ∀ r, r < n + m → S (a_lv k) ≠ S (a_rg L r + 1)) → S (a_oN L) ≠ S 24 → ((S (tnN L t) = S 24 ∨ ∃ j, j ≤ k ∧ S (a_lv j) = S (tnN L t)) ↔ b = true)) : CF X d 8 [.ref 1, .int (Int32.ofNat u), .int (Int32.ofNat k), .int (Int32.ofNat t)] σ (some (.int (if b = true then 1 else 0))) σ := by
  obtain ⟨S, many, le, Lf, s1, s2, s3, s4, s5, s6, s7, s8, s9, s10⟩ := a_sh hD hQ
  have hlt : ∀ a ∈ a_ns L n m, S a < 100000 := fun a ha => by have := (s1 a ha).2; omega
  obtain ⟨ab1, ab2, ab3⟩ := a_above (X := X) (d := d - 1 - 1) (by omega) hD hQ hu
  have hQ0 := hQ
  obtain ⟨⟨h, hN, hT, hU, hA, hP, hUF, hR, -⟩, -⟩ := hQ0
  have hL := hD.1
  have htn := w_tn h hR t ht
  have hch := fU_chn (L := L) (hi := hi) (T := a_T L n m) (x := rchN sh hi mo u) (by unfold a_T; omega) hk
  have hcl : ∃ l, chL k = a_lv k :: l := by
    cases k with
    | zero => exact ⟨_, rfl⟩
    | succ k => exact ⟨_, rfl⟩
  obtain ⟨l, hl⟩ := hcl
  have hlen := chL_len k
  have hall := chL_all (p := fun a => sC σ 4 a = true ∧ sF σ a 142 = .int (Int32.ofNat (S a)) ∧ CF X (d - 1 - 1) 81 [.ref ty, .ref (usN L n m u), .ref a] σ (some (va_rf (fU L (a_T L n m) hi (rchN sh hi mo u) a))) σ) ⟨c_root h, (s1 _ ns_24).1, ab2⟩ k (fun j hj => ⟨c_lv h (by omega), (s1 _ (ns_lv (by omega))).1, ab1 j (by omega)⟩)
  have hany := chL_any (p := fun c => decide (Int32.ofNat (S c) = Int32.ofNat (S (tnN L t)))) k
  rw [hl] at hch hlen hall hany
  rw [List.length_cons] at hlen
  have g := g_isBelow (X := X) (d := d - 1) (σ := σ) (by omega) (ty := ty) (u := usN L n m u) (a := a_lv k) (b := tnN L t) (nn := x_T L n m + 3) (ka := 11) (f := fU L (a_T L n m) hi (rchN sh hi mo u)) (S := fun a => Int32.ofNat (S a)) (l := l) hT.1 hT.2.2.2.2.2.1 (by have := hD.2.1; have := hD.2.2.1; unfold x_T; omega) (c_lv h hk) (q_lv_128 h rfl hk) (by decide) (by decide) (s1 _ (ns_lv hk)).1 (w_row hL.1 h t ht).2.2 (s1 _ htn.2.1).1 (ab1 k hk) hch.tl (fun a ha => hall a (List.mem_cons_of_mem _ ha)) (by unfold x_T; omega)
  have e : ((decide (Int32.ofNat (S (a_lv k)) = Int32.ofNat (S (tnN L t))) || l.any (fun c => decide (Int32.ofNat (S c) = Int32.ofNat (S (tnN L t))))) = true) ↔ b = true := by
    rw [← hb S s5 s6 s7, ← List.any_cons (f := fun c => decide (Int32.ofNat (S c) = Int32.ofNat (S (tnN L t)))), hany]
    constructor
    · rintro (e | ⟨j, hj, e⟩)
      · exact Or.inl (nat_in (hlt _ ns_24) (hlt _ htn.2.1) (of_decide_eq_true e)).symm
      · exact Or.inr ⟨j, hj, nat_in (hlt _ (ns_lv (by omega))) (hlt _ htn.2.1) (of_decide_eq_true e)⟩
    · rintro (e | ⟨j, hj, e⟩)
      · exact Or.inl (decide_eq_true (by rw [e]))
      · exact Or.inr ⟨j, hj, decide_eq_true (by rw [e])⟩
  have g2 : CF X (d - 1) 95 [.ref ty, .ref (usN L n m u), .ref (tnN L k), .ref (tnN L t)] σ (some (.int (if b = true then 1 else 0))) σ := by
    rw [tn_l hk]
    cases b with
    | true => rw [if_pos (e.mpr rfl)] at g; exact g
    | false => rw [if_neg (fun h => Bool.false_ne_true (e.mp h))] at g; exact g
  exact g_below (by omega) (a_QW hD hQ) hu (by omega) ht g2
theorem a_belowLO (hd : 6 ≤ d) (hD : Dr lf L n m sh hi mo bd) (hQ : QF lf L n m sh hi mo bd ty σ) {u k : Nat} (hu : u < 5) (hk : k < L) : CF X d 8 [.ref 1, .int (Int32.ofNat u), .int (Int32.ofNat k), .int (Int32.ofNat L)] σ (some (.int 0)) σ := by
  refine a_belowL (b := false) hd hD hQ hu hk (t := L) (by omega) (fun S s5 s6 s7 => ?_)
  rw [tn_o]
  constructor
  · rintro (e | ⟨j, hj, e⟩)
    · exact absurd e s7
    · exact absurd e.symm (s6 j (by omega)).2.1
  · intro e; cases e
theorem a_belowLL (hd : 6 ≤ d) (hD : Dr lf L n m sh hi mo bd) (hQ : QF lf L n m sh hi mo bd ty σ) {u k j : Nat} (hu : u < 5) (hk : k < L) (hj : j < L) {b : Bool} (hb : b = true ↔ j ≤ k) : CF X d 8 [.ref 1, .int (Int32.ofNat u), .int (Int32.ofNat k), .int (Int32.ofNat j)] σ (some (.int (if b = true then 1 else 0))) σ := by
  refine a_belowL hd hD hQ hu hk (t := j) (by omega) (fun S s5 s6 s7 => ?_)
  rw [tn_l hj, hb]
  constructor
  · rintro (e | ⟨i, hi', e⟩)
    · exact absurd e.symm (s6 j hj).1
    · have := s5 i (by omega) j hj e
      omega
  · intro hle
    exact Or.inr ⟨j, hle, rfl⟩
theorem a_sees (hd : 6 ≤ d) (hD : Dr lf L n m sh hi mo bd) (hQ : QF lf L n m sh hi mo bd ty σ) {u : Nat} (hu : u < 5) : CF X d 10 [.ref 1, .int (Int32.ofNat u), .int (Int32.ofNat L)] σ (some (.int (Int32.ofNat (rchN sh hi mo u + 3)))) σ := by
  obtain ⟨ab1, ab2, ab3⟩ := a_above (X := X) (d := d - 1 - 1) (by omega) hD hQ hu
  have hr := rch_lt hD u
  have hQ0 := hQ
  obtain ⟨⟨h, hN, hT, -⟩, -⟩ := hQ0
  have hL := hD.1
  have g := g_chainSeen (X := X) (d := d - 1) (σ := σ) (by omega) (ty := ty) (u := usN L n m u) (t := a_oN L) (nn := x_T L n m + 3) (f := fU L (a_T L n m) hi (rchN sh hi mo u)) (l := a_oN L :: chL (rchN sh hi mo u)) hT.1 hT.2.2.2.2.2.1 (by have := hD.2.1; have := hD.2.2.1; unfold x_T; omega) ⟨rfl, by rw [fU_o]; exact fU_chn (by unfold a_T; omega) hr⟩
    (fun a ha => by
      rcases List.mem_cons.mp ha with rfl | ha
      · exact ab3
      · exact chL_all (p := fun a => CF X (d - 1 - 1) 81 [.ref ty, .ref (usN L n m u), .ref a] σ (some (va_rf (fU L (a_T L n m) hi (rchN sh hi mo u) a))) σ) ab2 _ (fun j hj => ab1 j (by omega)) a ha) (by rw [List.length_cons, chL_len]; unfold x_T; omega)
  rw [List.length_cons, chL_len] at g
  exact g_sees (by omega) (a_QW hD hQ) hu (i := L) (by omega) (kn := 12) (by rw [tn_o]; exact q_oN_128 h rfl) (Or.inr (Or.inr rfl)) (by rw [tn_o]; exact g)
theorem a_type4 (hd : 6 ≤ d) (hD : Dr lf L n m sh hi mo bd) (hQ : QF lf L n m sh hi mo bd ty σ) : CF X d 9 [.ref 1, .int (Int32.ofNat L), .int 4] σ (some (.int (Int32.ofNat (hi + 3)))) σ := by
  have hQ0 := hQ
  obtain ⟨⟨h, hN, hT, hU, hA, hP, hUF, hR, hO, hFF, -⟩, -⟩ := hQ0
  obtain ⟨hL, hn, hm, d1, d2, d3, -⟩ := id hD
  have g := g_wholeChain (X := X) (d := d - 1) (σ := σ) (by omega) (ty := ty) (t := a_oN L) (nn := x_T L n m + 3) (kt := 12) (f := fup L (a_T L n m) hi) (l := a_oN L :: chL hi) hT.1 hT.2.2.2.2.2.1 (by unfold x_T; omega) (c_oN h) (q_oN_128 h rfl) (Or.inr (Or.inr rfl)) ⟨rfl, by rw [fup_o (by omega)]; exact chL_chn (fup_24 (by unfold a_T; omega)) hi d2⟩
    (fun a ha => by
      rcases List.mem_cons.mp ha with rfl | ha
      · exact ⟨c_oN h, hFF _ ns_oN⟩
      · exact chL_all (p := fun a => sC σ 4 a = true ∧ sF σ a 140 = va_rf (fup L (a_T L n m) hi a)) ⟨c_root h, hFF _ ns_24⟩ _ (fun j hj => ⟨c_lv h (by omega), hFF _ (ns_lv (by omega))⟩) a ha) (by rw [List.length_cons, chL_len]; unfold x_T; omega)
  rw [List.length_cons, chL_len] at g
  exact g_type4 (by omega) (a_QW hD hQ) (i := L) (by omega) (by rw [tn_o]; exact g)
theorem a_type2 (hd : 3 ≤ d) (hD : Dr lf L n m sh hi mo bd) (hQ : QF lf L n m sh hi mo bd ty σ) : CF X d 9 [.ref 1, .int (Int32.ofNat L), .int 2] σ (some (.int 12)) σ :=
  g_type2 (by omega) (a_QW hD hQ) (i := L) (by omega) (by rw [tn_o]; exact q_oN_128 hQ.1.1 rfl)
end W83
