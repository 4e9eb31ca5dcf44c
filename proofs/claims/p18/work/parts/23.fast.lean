abbrev ev_L0 : Type := Value
abbrev ev_L1 : Type := ev_L0 × ev_L0
abbrev ev_L2 : Type := ev_L1 × ev_L1
abbrev ev_L3 : Type := ev_L2 × ev_L2
abbrev ev_L4 : Type := ev_L3 × ev_L3
abbrev ev_L5 : Type := ev_L4 × ev_L4
abbrev ev_LQ : Type := ev_L5
/-- no local -/
def q_no : Value := .double 0
def q_0 : ev_L0 := q_no
def q_1 : ev_L1 := (q_0, q_0)
def q_2 : ev_L2 := (q_1, q_1)
def q_3 : ev_L3 := (q_2, q_2)
def q_4 : ev_L4 := (q_3, q_3)
def q_5 : ev_L5 := (q_4, q_4)
def q_cl (v : Value) : Value := match v with
  | .long _ => q_no
  | .double _ => q_no
  | v => v
def q_g (t : ev_LQ) (b : Nat) : Value := bif Nat.ble b (nat_lit 31) then ev_sl (nat_lit 1) (ev_sl (nat_lit 2) (ev_sl (nat_lit 4) (ev_sl (nat_lit 8) (ev_sl (nat_lit 16) (t) b) b) b) b) b else q_no
def q_p (t : ev_LQ) (a : Nat) (x : Value) : ev_LQ := ev_pl (nat_lit 16) (fun t : ev_L4 => ev_pl (nat_lit 8) (fun t : ev_L3 => ev_pl (nat_lit 4) (fun t : ev_L2 => ev_pl (nat_lit 2) (fun t : ev_L1 => ev_pl (nat_lit 1) (fun _ : ev_L0 => x) t a) t a) t a) t a) t a
theorem q_g_mt (a : Nat) : q_g q_5 a = q_no := by
  have h : ∀ {α : Type} (m : Nat) (x : α) (b : Nat), ev_sl m (x, x) b = x := fun m x b => by
    unfold ev_sl
    cases Nat.beq (Nat.land b m) (nat_lit 0) <;> rfl
  unfold q_g
  rw [show q_5 = (q_4, q_4) from rfl, h]
  rw [show q_4 = (q_3, q_3) from rfl, h]
  rw [show q_3 = (q_2, q_2) from rfl, h]
  rw [show q_2 = (q_1, q_1) from rfl, h]
  rw [show q_1 = (q_0, q_0) from rfl, h]
  cases Nat.ble a 31 <;> rfl
theorem q_gp {t : ev_LQ} {a : Nat} {x : Value} {b : Nat} (h : a < 32) : q_g (q_p t a x) b = if b = a then x else q_g t b := by
  have l0 : ∀ t : ev_L0, (fun t : ev_L0 => t) ((fun _ : ev_L0 => x) t) = bif true then x else (fun t : ev_L0 => t) t := fun t => rfl
  have l1 : ∀ t : ev_L1, (fun t : ev_L1 => ev_sl (nat_lit 1) (t) b) ((fun t : ev_L1 => ev_pl (nat_lit 1) (fun _ : ev_L0 => x) t a) t) = bif (ev_ag 1 a b && true) then x else (fun t : ev_L1 => ev_sl (nat_lit 1) (t) b) t := fun t => ev_lw (G := fun t : ev_L0 => t) (F := (fun _ : ev_L0 => x)) (a := a) (b := b) l0 1 t
  have l2 : ∀ t : ev_L2, (fun t : ev_L2 => ev_sl (nat_lit 1) (ev_sl (nat_lit 2) (t) b) b) ((fun t : ev_L2 => ev_pl (nat_lit 2) (fun t : ev_L1 => ev_pl (nat_lit 1) (fun _ : ev_L0 => x) t a) t a) t) = bif (ev_ag 2 a b && (ev_ag 1 a b && true)) then x else (fun t : ev_L2 => ev_sl (nat_lit 1) (ev_sl (nat_lit 2) (t) b) b) t := fun t => ev_lw (G := fun t : ev_L1 => ev_sl (nat_lit 1) (t) b) (F := (fun t : ev_L1 => ev_pl (nat_lit 1) (fun _ : ev_L0 => x) t a)) (a := a) (b := b) l1 2 t
  have l3 : ∀ t : ev_L3, (fun t : ev_L3 => ev_sl (nat_lit 1) (ev_sl (nat_lit 2) (ev_sl (nat_lit 4) (t) b) b) b) ((fun t : ev_L3 => ev_pl (nat_lit 4) (fun t : ev_L2 => ev_pl (nat_lit 2) (fun t : ev_L1 => ev_pl (nat_lit 1) (fun _ : ev_L0 => x) t a) t a) t a) t) = bif (ev_ag 4 a b && (ev_ag 2 a b && (ev_ag 1 a b && true))) then x else (fun t : ev_L3 => ev_sl (nat_lit 1) (ev_sl (nat_lit 2) (ev_sl (nat_lit 4) (t) b) b) b) t := fun t => ev_lw (G := fun t : ev_L2 => ev_sl (nat_lit 1) (ev_sl (nat_lit 2) (t) b) b) (F := (fun t : ev_L2 => ev_pl (nat_lit 2) (fun t : ev_L1 => ev_pl (nat_lit 1) (fun _ : ev_L0 => x) t a) t a)) (a := a) (b := b) l2 4 t
  have l4 : ∀ t : ev_L4, (fun t : ev_L4 => ev_sl (nat_lit 1) (ev_sl (nat_lit 2) (ev_sl (nat_lit 4) (ev_sl (nat_lit 8) (t) b) b) b) b) ((fun t : ev_L4 => ev_pl (nat_lit 8) (fun t : ev_L3 => ev_pl (nat_lit 4) (fun t : ev_L2 => ev_pl (nat_lit 2) (fun t : ev_L1 => ev_pl (nat_lit 1) (fun _ : ev_L0 => x) t a) t a) t a) t a) t) = bif (ev_ag 8 a b && (ev_ag 4 a b && (ev_ag 2 a b && (ev_ag 1 a b && true)))) then x else (fun t : ev_L4 => ev_sl (nat_lit 1) (ev_sl (nat_lit 2) (ev_sl (nat_lit 4) (ev_sl (nat_lit 8) (t) b) b) b) b) t := fun t => ev_lw (G := fun t : ev_L3 => ev_sl (nat_lit 1) (ev_sl (nat_lit 2) (ev_sl (nat_lit 4) (t) b) b) b) (F := (fun t : ev_L3 => ev_pl (nat_lit 4) (fun t : ev_L2 => ev_pl (nat_lit 2) (fun t : ev_L1 => ev_pl (nat_lit 1) (fun _ : ev_L0 => x) t a) t a) t a)) (a := a) (b := b) l3 8 t
  have l5 : ∀ t : ev_L5, (fun t : ev_L5 => ev_sl (nat_lit 1) (ev_sl (nat_lit 2) (ev_sl (nat_lit 4) (ev_sl (nat_lit 8) (ev_sl (nat_lit 16) (t) b) b) b) b) b) ((fun t : ev_L5 => ev_pl (nat_lit 16) (fun t : ev_L4 => ev_pl (nat_lit 8) (fun t : ev_L3 => ev_pl (nat_lit 4) (fun t : ev_L2 => ev_pl (nat_lit 2) (fun t : ev_L1 => ev_pl (nat_lit 1) (fun _ : ev_L0 => x) t a) t a) t a) t a) t a) t) = bif (ev_ag 16 a b && (ev_ag 8 a b && (ev_ag 4 a b && (ev_ag 2 a b && (ev_ag 1 a b && true))))) then x else (fun t : ev_L5 => ev_sl (nat_lit 1) (ev_sl (nat_lit 2) (ev_sl (nat_lit 4) (ev_sl (nat_lit 8) (ev_sl (nat_lit 16) (t) b) b) b) b) b) t := fun t => ev_lw (G := fun t : ev_L4 => ev_sl (nat_lit 1) (ev_sl (nat_lit 2) (ev_sl (nat_lit 4) (ev_sl (nat_lit 8) (t) b) b) b) b) (F := (fun t : ev_L4 => ev_pl (nat_lit 8) (fun t : ev_L3 => ev_pl (nat_lit 4) (fun t : ev_L2 => ev_pl (nat_lit 2) (fun t : ev_L1 => ev_pl (nat_lit 1) (fun _ : ev_L0 => x) t a) t a) t a) t a)) (a := a) (b := b) l4 16 t
  have hl := l5 t
  unfold q_g
  by_cases hb : b < 32
  · rw [show Nat.ble b 31 = true from Nat.ble_eq.mpr (by omega)]
    refine Eq.trans hl ?_
    by_cases e : b = a
    · subst e
      simp [ev_ag_self]
    · rw [if_neg e]
      have hc : (ev_ag 16 a b && (ev_ag 8 a b && (ev_ag 4 a b && (ev_ag 2 a b && (ev_ag 1 a b && true))))) = false := by
        cases hq : (ev_ag 16 a b && (ev_ag 8 a b && (ev_ag 4 a b && (ev_ag 2 a b && (ev_ag 1 a b && true))))) with
        | false => rfl
        | true =>
          simp only [Bool.and_eq_true] at hq
          exfalso
          apply e
          apply Nat.eq_of_testBit_eq
          intro i
          obtain ⟨h4, h3, h2, h1, h0, -⟩ := hq
          match i with
          | 0 => exact (ev_ag_bit (k := 0) h0).symm
          | 1 => exact (ev_ag_bit (k := 1) h1).symm
          | 2 => exact (ev_ag_bit (k := 2) h2).symm
          | 3 => exact (ev_ag_bit (k := 3) h3).symm
          | 4 => exact (ev_ag_bit (k := 4) h4).symm
          | i + 5 => rw [Nat.testBit_lt_two_pow (Nat.lt_of_lt_of_le hb (Nat.pow_le_pow_right (n := 2) (by decide) (Nat.le_add_left 5 i))), Nat.testBit_lt_two_pow (Nat.lt_of_lt_of_le h (Nat.pow_le_pow_right (n := 2) (by decide) (Nat.le_add_left 5 i)))]
      rw [hc]
      rfl
  · rw [show Nat.ble b 31 = false by cases hq : Nat.ble b 31 with | false => rfl | true => exact absurd (Nat.le_of_ble_eq_true hq) (by omega)]
    rw [if_neg (by omega)]
    rfl
/-- a store: what stands below goes if it took two -/
def q_s1 (q : ev_LQ) (i : Nat) (v : Value) : ev_LQ := match i with
  | 0 => q_p q 0 v
  | j + 1 => q_p (q_p q j (q_cl (q_g q j))) (j + 1) v
def q_s2 (q : ev_LQ) (i : Nat) (v : Value) : ev_LQ := q_p (q_s1 q i v) (i + 1) q_no
/-- what the locals as a tree say is so of them as a list -/
def q_R (lv : ev_L) (q : ev_LQ) : Prop := ∀ (i : Nat) (v : Value), q_g q i = v → v ≠ q_no → ev_lk lv i = some v
theorem ev_lk_f {P : Nat × Value → Bool} {j : Nat} {w : Value} (hp : P (j, w) = true) : ∀ {lv : ev_L}, ev_lk lv j = some w → ev_lk (lv.filter P) j = some w
  | [], h => by cases h
  | q :: r, h => by
    unfold ev_lk at h
    cases e : Nat.beq q.1 j with
    | true =>
      rw [e] at h
      cases h
      have e2 := Nat.eq_of_beq_eq_true e
      subst e2
      rw [List.filter_cons, hp]
      show ev_lk (q :: _) q.1 = _
      unfold ev_lk
      rw [Nat.beq_refl]
      rfl
    | false =>
      rw [e] at h
      have h2 := ev_lk_f hp (lv := r) h
      rw [List.filter_cons]
      split
      · show ev_lk (q :: _) j = _
        unfold ev_lk
        rw [e]
        exact h2
      · exact h2
theorem ev_lk_c {i : Nat} {v : Value} {lv : ev_L} {j : Nat} : ev_lk ((i, v) :: lv) j = if j = i then some v else ev_lk lv j := by
  show (bif Nat.beq i j then some v else ev_lk lv j) = _
  by_cases e : j = i
  · subst e; rw [Nat.beq_refl]; simp
  · have : Nat.beq i j = false := by
      cases h : Nat.beq i j with
      | true => exact absurd (Nat.eq_of_beq_eq_true h).symm e
      | false => rfl
    rw [this, if_neg e]; rfl
theorem q_cl_no {v : Value} (h : q_cl v ≠ q_no) : q_cl v = v ∧ ¬ v.category = 2 := by
  cases v with
  | long x => exact absurd rfl h
  | double x => exact absurd rfl h
  | _ => exact ⟨rfl, fun h => by cases h⟩
theorem q_R.s1 {lv : ev_L} {q : ev_LQ} (h : q_R lv q) {i : Nat} (hi : i < 32) (v : Value) : q_R (ev_st1 lv i v) (q_s1 q i v) := by
  intro j w hw hn
  unfold ev_st1
  rw [ev_lk_c]
  by_cases e : j = i
  · subst e
    rw [if_pos rfl]
    cases j with
    | zero => rw [show q_s1 q 0 v = q_p q 0 v from rfl, q_gp (by decide), if_pos rfl] at hw; rw [hw]
    | succ j => rw [show q_s1 q (j + 1) v = q_p (q_p q j (q_cl (q_g q j))) (j + 1) v from rfl, q_gp hi, if_pos rfl] at hw; rw [hw]
  · rw [if_neg e]
    cases i with
    | zero =>
      rw [show q_s1 q 0 v = q_p q 0 v from rfl, q_gp (by decide), if_neg e] at hw
      refine ev_lk_f ?_ (h j w hw hn)
      simp [e]
    | succ i =>
      rw [show q_s1 q (i + 1) v = q_p (q_p q i (q_cl (q_g q i))) (i + 1) v from rfl, q_gp hi, if_neg e, q_gp (by omega)] at hw
      by_cases e2 : j = i
      · subst e2
        rw [if_pos rfl] at hw
        rw [← hw] at hn
        obtain ⟨h1, h2⟩ := q_cl_no hn
        rw [h1] at hw
        rw [h1] at hn
        refine ev_lk_f ?_ (h j w hw (by rw [← hw]; exact hn))
        rw [← hw]
        simp [h2]
      · rw [if_neg e2] at hw
        refine ev_lk_f ?_ (h j w hw hn)
        simp [e, e2]
theorem q_R.s2 {lv : ev_L} {q : ev_LQ} (h : q_R lv q) {i : Nat} (hi : i + 1 < 32) (v : Value) : q_R (ev_st2 lv i v) (q_s2 q i v) := by
  intro j w hw hn
  unfold q_s2 at hw
  rw [q_gp hi] at hw
  by_cases e : j = i + 1
  · rw [if_pos e] at hw
    exact absurd hw.symm hn
  rw [if_neg e] at hw
  have h1 := h.s1 (by omega : i < 32) v j w hw hn
  unfold ev_st1 at h1
  unfold ev_st2
  rw [ev_lk_c] at h1 ⊢
  by_cases e2 : j = i
  · rw [if_pos e2] at h1 ⊢
    exact h1
  · rw [if_neg e2] at h1 ⊢
    have h2 := ev_lk_f (P := fun q => !(q.1 == i + 1)) (j := j) (w := w) (by simp [e]) h1
    rw [List.filter_filter] at h2
    rw [← h2]
    congr 2
    funext q
    cases (q.1 == i) <;> cases (q.1 == i + 1) <;> rfl
def q_args : Nat → List Value → ev_LQ → ev_LQ
  | _, [], q => q
  | i, v :: r, q => q_args (bif Nat.beq v.category 2 then Nat.add i 2 else Nat.succ i) r (q_p q i v)
theorem ev_lk_args : ∀ {as : List Value} {i j : Nat}, j < i → ev_lk (lv_args i as) j = none
  | [], i, j, h => rfl
  | v :: r, i, j, h => by
    show ev_lk ((i, v) :: lv_args _ r) j = none
    rw [ev_lk_c, if_neg (by omega)]
    split <;> exact ev_lk_args (by omega)
theorem q_args_g : ∀ {as : List Value} {i : Nat} {q : ev_LQ} {j : Nat} {w : Value}, i + ev_cat as ≤ 32 → q_g (q_args i as q) j = w → w ≠ q_no → (q_g q j = w ∧ ev_lk (lv_args i as) j = none) ∨ ev_lk (lv_args i as) j = some w
  | [], i, q, j, w, h, hw, hn => Or.inl ⟨hw, rfl⟩
  | v :: r, i, q, j, w, h, hw, hn => by
    have hc : v.category = 1 ∨ v.category = 2 := by cases v <;> first | exact Or.inl rfl | exact Or.inr rfl
    have h' : i + (v.category + ev_cat r) ≤ 32 := h
    have hx : (bif Nat.beq v.category 2 then Nat.add i 2 else Nat.succ i) = (if v.category = 2 then i + 2 else i + 1) ∧ i < (if v.category = 2 then i + 2 else i + 1) ∧ (if v.category = 2 then i + 2 else i + 1) + ev_cat r ≤ 32 := by
      rcases hc with hc | hc <;> rw [hc] at h' ⊢ <;> refine ⟨rfl, ?_, ?_⟩ <;> simp <;> omega
    obtain ⟨hx, hx2, hx3⟩ := hx
    rw [show q_args i (v :: r) q = q_args (bif Nat.beq v.category 2 then Nat.add i 2 else Nat.succ i) r (q_p q i v) from rfl, hx] at hw
    show (_ ∧ ev_lk ((i, v) :: lv_args _ r) j = none) ∨ ev_lk ((i, v) :: lv_args _ r) j = some w
    rw [ev_lk_c]
    have ih := q_args_g (as := r) hx3 hw hn
    rw [q_gp (by omega)] at ih
    by_cases e : j = i
    · subst e
      rw [if_pos rfl] at ih ⊢
      have h0 := ev_lk_args (as := r) hx2
      rw [h0] at ih
      rcases ih with ⟨ih, -⟩ | ih
      · exact Or.inr (by rw [ih])
      · cases ih
    · rw [if_neg e] at ih ⊢
      exact ih
theorem q_R_args {as : List Value} (h : ev_cat as ≤ 32) : q_R (lv_args 0 as) (q_args 0 as q_5) := by
  intro j w hw hn
  rcases q_args_g (by omega) hw hn with ⟨h1, -⟩ | h1
  · rw [q_g_mt] at h1
    exact absurd h1.symm hn
  · exact h1
theorem ev_sl_cat : ∀ (as : List Value), (lg_sl as).length = ev_cat as
  | [] => rfl
  | v :: r => by
    have ih := ev_sl_cat r
    unfold lg_sl at ih ⊢
    rw [List.flatMap_cons, List.length_append, ih]
    show _ = v.category + ev_cat r
    cases v <;> rfl
/-- an instruction made ready: on operands, on locals, on the heap, a call, an answer, without a table -/
abbrev ev_K : Type := (List Value → Option (Nat × List Value)) ⊕ (ev_LQ → List Value → Option (Nat × ev_LQ × List Value)) ⊕ (List Value → ev_S → Option (Nat × List Value × ev_S)) ⊕ (Nat × (ev_T → List Value → Option (List Value × List Value))) ⊕ (List Value → Option (Option Value)) ⊕ (List Value → Option (List Value))
abbrev ev_K.c (f : List Value → Option (Nat × List Value)) : ev_K := .inl f
abbrev ev_K.l (f : ev_LQ → List Value → Option (Nat × ev_LQ × List Value)) : ev_K := .inr (.inl f)
abbrev ev_K.h (f : List Value → ev_S → Option (Nat × List Value × ev_S)) : ev_K := .inr (.inr (.inl f))
abbrev ev_K.v (k : Nat) (f : ev_T → List Value → Option (List Value × List Value)) : ev_K := .inr (.inr (.inr (.inl (k, f))))
abbrev ev_K.r (f : List Value → Option (Option Value)) : ev_K := .inr (.inr (.inr (.inr (.inl f))))
abbrev ev_K.m (f : List Value → Option (List Value)) : ev_K := .inr (.inr (.inr (.inr (.inr f))))
abbrev ev_Cd : Type := List (Nat × List (Nat × ev_K))
def ev_sk : ev_Cd → Nat → List (Nat × ev_K)
  | [], _ => []
  | q :: r, pc => bif Nat.beq q.1 pc then q.2 else ev_sk r pc
theorem ev_sk_P {P : Nat × ev_K → Prop} : ∀ {cd : ev_Cd} {pc : Nat}, (∀ q ∈ cd, ∀ x ∈ q.2, P x) → ∀ x ∈ ev_sk cd pc, P x
  | [], pc, h, x, hx => by cases hx
  | q :: r, pc, h, x, hx => by
    unfold ev_sk at hx
    cases e : Nat.beq q.1 pc with
    | true => rw [e] at hx; exact h q (List.mem_cons_self ..) x hx
    | false => rw [e] at hx; exact ev_sk_P (fun q hq => h q (List.mem_cons_of_mem _ hq)) x hx
section FASTD
variable (C : Nat → List Value → Nat → ev_T → Option (Option Value × ev_S)) (code : ev_Cd)
noncomputable def ev_Hb (ih : Nat → List (Nat × ev_K) → ev_LQ → List Value → ev_S → Option (Option Value × ev_S)) (pc : Nat) (is : List (Nat × ev_K)) (lv : ev_LQ) (st : List Value) (σ : ev_S) : Option (Option Value × ev_S) :=
  List.rec (motive := fun _ => Option (Option Value × ev_S)) (ih pc (ev_sk code pc) lv st σ) (fun q r _ =>
    Bool.rec (motive := fun _ => Option (Option Value × ev_S)) (ih pc [] lv st σ)
      (Sum.rec (motive := fun _ => Option (Option Value × ev_S)) (fun f => Option.rec (motive := fun _ => Option (Option Value × ev_S)) none (fun x => ih x.1 r lv x.2 σ) (f st)) (fun w => Sum.rec (motive := fun _ => Option (Option Value × ev_S)) (fun f => Option.rec (motive := fun _ => Option (Option Value × ev_S)) none (fun x => ih x.1 r x.2.1 x.2.2 σ) (f lv st)) (fun w => Sum.rec (motive := fun _ => Option (Option Value × ev_S)) (fun f => Option.rec (motive := fun _ => Option (Option Value × ev_S)) none (fun x => ih x.1 r lv x.2.1 x.2.2) (f st σ)) (fun w => Sum.rec (motive := fun _ => Option (Option Value × ev_S)) (fun f => Option.rec (motive := fun _ => Option (Option Value × ev_S)) none (fun x => Option.rec (motive := fun _ => Option (Option Value × ev_S)) none (fun y => ih (Nat.add pc 3) r lv (y.1.toList ++ x.2) (y.2.1, y.2.2.1, Nat.add σ.2.2.1 y.2.2.2.1, Nat.add σ.2.2.2 y.2.2.2.2)) (C f.1 x.1 σ.1 σ.2.1)) (f.2 σ.2.1 st)) (fun w => Sum.rec (motive := fun _ => Option (Option Value × ev_S)) (fun f => Option.rec (motive := fun _ => Option (Option Value × ev_S)) none (fun x => some (x, σ)) (f st)) (fun f => Option.rec (motive := fun _ => Option (Option Value × ev_S)) none (fun x => ih (Nat.add pc 3) r lv x σ) (f st)) w) w) w) w) q.2)
      (Nat.beq q.1 pc)) is
noncomputable def ev_H (n : Nat) : Nat → List (Nat × ev_K) → ev_LQ → List Value → ev_S → Option (Option Value × ev_S) :=
  Nat.rec (motive := fun _ => Nat → List (Nat × ev_K) → ev_LQ → List Value → ev_S → Option (Option Value × ev_S)) (fun _ _ _ _ _ => none) (fun _ ih => ev_Hb C code ih) n
end FASTD
section FASTO
variable (tl : List FieldType) (oc : Nat → Nat) (df : Nat → List Value)
/-- an instruction made ready says no more than the table -/
def ev_ok (nL : Nat) (ret : Option FieldType) (pc : Nat) (e : ev_I) (K : ev_K) : Prop := match K with
  | .inr (.inl f) => ∀ (q : ev_LQ) (lv : ev_L) (st : List Value) (x : Nat × ev_LQ × List Value), q_R lv q → f q st = some x → ∃ lv1, ev_xl e.1 e.2.1 pc nL lv st = some (x.1, lv1, x.2.2) ∧ q_R lv1 x.2.1
  | .inl f => ∀ (st : List Value) (x : Nat × List Value), f st = some x → ev_xc e.1 e.2.1 pc st = some x
  | .inr (.inr (.inl f)) => ∀ (st : List Value) (σ : ev_S) (x : Nat × List Value × ev_S), f st σ = some x → ev_xh tl oc df e.1 e.2.1 e.2.2.1 e.2.2.2.1 e.2.2.2.2.1 e.2.2.2.2.2 pc st σ = some x
  | .inr (.inr (.inr (.inr (.inr f)))) => ∀ (st x : List Value), f st = some x → ev_xm e.1 e.2.1 e.2.2.2.2.1 st = some x
  | .inr (.inr (.inr (.inr (.inl f)))) => ∀ (st : List Value) (x : Option Value), f st = some x → ev_rt ret e.1 e.2.1 st = some x
  | .inr (.inr (.inr (.inl (k, f)))) => k = e.2.2.1 ∧ ∀ (t : ev_T) (st : List Value) (x : List Value × List Value), f t st = some x → ev_cl e.1 e.2.1 e.2.2.2.1 e.2.2.2.2.1 e.2.2.2.2.2 t st = some x
variable (mt : Nat → ev_M) (tb : Nat → Nat → Option ev_I)
def ev_okk (k : Nat) (x : Nat × ev_K) : Prop := ∃ e, tb k x.1 = some e ∧ ev_ok tl oc df (mt k).2.2.2.1 (mt k).2.2.2.2.1 x.1 e x.2
end FASTO
section FASTS
variable {tl : List FieldType} {oc : Nat → Nat} {df : Nat → List Value} {mt : Nat → ev_M} {tb : Nat → Nat → Option ev_I}
theorem ev_H_ok {C : Nat → List Value → Nat → ev_T → Option (Option Value × ev_S)} {code : ev_Cd} {k : Nat} {Cr : Nat → List Value → Nat → ev_T → Option Value → ev_S → Prop} (hcode : ∀ q ∈ code, ∀ x ∈ q.2, ev_okk tl oc df mt tb k x) (hC : ∀ k as sz t v τ, C k as sz t = some (v, τ) → Cr k as sz t v τ) :
    ∀ (n pc : Nat) (is : List (Nat × ev_K)) (lv : ev_L) (q : ev_LQ) (st : List Value) (σ : ev_S) (r : Option Value) (σ' : ev_S), (∀ x ∈ is, ev_okk tl oc df mt tb k x) → q_R lv q → ev_H C code n pc is q st σ = some (r, σ') → ∃ n', ev_Lp tl oc df mt tb Cr k n' pc lv st σ r σ' := by
  intro n
  induction n with
  | zero => intro pc is lv q st σ r σ' _ _ h; cases h
  | succ n ih =>
    intro pc is lv q st σ r σ' his hR h
    rw [show ev_H C code (n + 1) pc is q st σ = ev_Hb C code (ev_H C code n) pc is q st σ from rfl] at h
    cases is with
    | nil => exact ih pc _ lv q st σ r σ' (ev_sk_P hcode) hR h
    | cons x is =>
      obtain ⟨pcx, K⟩ := x
      cases hb : Nat.beq pcx pc with
      | false =>
        have h : ev_H C code n pc [] q st σ = some (r, σ') := by
          unfold ev_Hb at h
          simp only [hb] at h
          exact h
        exact ih pc [] lv q st σ r σ' (fun x hx => by cases hx) hR h
      | true =>
        have hpc := Nat.eq_of_beq_eq_true hb
        subst hpc
        have hrest := fun x hx => his x (List.mem_cons_of_mem _ hx)
        obtain ⟨e, he, hok⟩ := his (pcx, K) (List.mem_cons_self ..)
        unfold ev_Hb at h
        simp only [hb] at h
        rcases K with f | f | f | ⟨k2, f⟩ | f | f
        · simp only at h
          cases hf : f st with
          | none => rw [hf] at h; cases h
          | some y =>
            rw [hf] at h
            obtain ⟨n', hn⟩ := ih y.1 is lv q y.2 σ r σ' hrest hR h
            refine ⟨n' + 1, ?_⟩
            unfold ev_Lp
            rw [he]
            exact Or.inl ⟨_, _, hok st y hf, hn⟩
        · simp only at h
          cases hf : f q st with
          | none => rw [hf] at h; cases h
          | some y =>
            rw [hf] at h
            obtain ⟨lv1, h1, h2⟩ := hok q lv st y hR hf
            obtain ⟨n', hn⟩ := ih y.1 is lv1 y.2.1 y.2.2 σ r σ' hrest h2 h
            refine ⟨n' + 1, ?_⟩
            unfold ev_Lp
            rw [he]
            exact Or.inr (Or.inl ⟨_, _, _, h1, hn⟩)
        · simp only at h
          cases hf : f st σ with
          | none => rw [hf] at h; cases h
          | some y =>
            rw [hf] at h
            obtain ⟨n', hn⟩ := ih y.1 is lv q y.2.1 y.2.2 r σ' hrest hR h
            refine ⟨n' + 1, ?_⟩
            unfold ev_Lp
            rw [he]
            exact Or.inr (Or.inr (Or.inl ⟨_, _, _, hok st σ y hf, hn⟩))
        · simp only at h
          cases hf : f σ.2.1 st with
          | none => rw [hf] at h; cases h
          | some y =>
            rw [hf] at h
            simp only at h
            cases hc : C k2 y.1 σ.1 σ.2.1 with
            | none => rw [hc] at h; cases h
            | some z =>
              rw [hc] at h
              obtain ⟨n', hn⟩ := ih (pcx + 3) is lv q (z.1.toList ++ y.2) _ r σ' hrest hR h
              obtain ⟨hk, hok⟩ := hok
              have h1 := hok σ.2.1 st y hf
              have h2 := hC _ _ _ _ _ _ hc
              rw [hk] at h2
              refine ⟨n' + 1, ?_⟩
              unfold ev_Lp
              rw [he]
              exact Or.inr (Or.inr (Or.inr (Or.inr (Or.inr ⟨_, _, _, _, h1, h2, hn⟩))))
        · simp only at h
          cases hf : f st with
          | none => rw [hf] at h; cases h
          | some y =>
            rw [hf] at h
            simp only [Option.some.injEq, Prod.mk.injEq] at h
            obtain ⟨h1, h2⟩ := h
            subst h1; subst h2
            refine ⟨1, ?_⟩
            unfold ev_Lp
            rw [he]
            exact Or.inr (Or.inr (Or.inr (Or.inr (Or.inl ⟨hok st y hf, rfl⟩))))
        · simp only at h
          cases hf : f st with
          | none => rw [hf] at h; cases h
          | some y =>
            rw [hf] at h
            obtain ⟨n', hn⟩ := ih (pcx + 3) is lv q y σ r σ' hrest hR h
            refine ⟨n' + 1, ?_⟩
            unfold ev_Lp
            rw [he]
            exact Or.inr (Or.inr (Or.inr (Or.inl ⟨_, hok st y hf, hn⟩)))
end FASTS
section FASTJ
variable (cd : Nat → Nat × ev_Cd)
/-- a method's run, within d calls in one another, N instructions in each -/
noncomputable def ev_J (X : Nat → List Value → Nat → ev_T → Option (Option Value × ev_S)) (N : Nat) (d : Nat) : Nat → List Value → Nat → ev_T → Option (Option Value × ev_S) :=
  Nat.rec (motive := fun _ => Nat → List Value → Nat → ev_T → Option (Option Value × ev_S)) (fun _ _ _ _ => none) (fun _ ih k as sz t =>
    Option.rec (motive := fun _ => Option (Option Value × ev_S)) (Bool.rec (motive := fun _ => Option (Option Value × ev_S)) none (ev_H ih (cd k).2 N 0 [] (q_args 0 as q_5) [] (sz, t, 0, 0)) (Nat.ble (ev_cat as) (cd k).1)) (fun x => some x) (X k as sz t)) d
theorem ev_J_ok {cd : Nat → Nat × ev_Cd} {tl : List FieldType} {oc : Nat → Nat} {df : Nat → List Value} {mt : Nat → ev_M} {tb : Nat → Nat → Option ev_I} {X : Nat → List Value → Nat → ev_T → Option (Option Value × ev_S)} {Xr : Nat → Nat → List Value → Nat → ev_T → Option Value → ev_S → Prop} {N : Nat}
    (hcd : ∀ k, (cd k).1 ≤ 32 ∧ (cd k).1 ≤ (mt k).2.2.2.1 ∧ ∀ q ∈ (cd k).2, ∀ x ∈ q.2, ev_okk tl oc df mt tb k x) (hX : ∀ d k as sz t v τ, X k as sz t = some (v, τ) → Xr d k as sz t v τ) : ∀ (d k : Nat) (as : List Value) (sz : Nat) (t : ev_T) (v : Option Value) (τ : ev_S), ev_J cd X N d k as sz t = some (v, τ) → ev_C tl oc df mt tb Xr d k as sz t v τ := by
  intro d
  induction d with
  | zero => intro k as sz t v τ h; cases h
  | succ d ih =>
    intro k as sz t v τ h
    have h : Option.rec (motive := fun _ => Option (Option Value × ev_S)) (Bool.rec (motive := fun _ => Option (Option Value × ev_S)) none (ev_H (ev_J cd X N d) (cd k).2 N 0 [] (q_args 0 as q_5) [] (sz, t, 0, 0)) (Nat.ble (ev_cat as) (cd k).1)) (fun x => some x) (X k as sz t) = some (v, τ) := h
    cases hx : X k as sz t with
    | some y =>
      rw [hx] at h
      cases h
      exact Or.inl (hX _ _ _ _ _ _ _ hx)
    | none =>
      rw [hx] at h
      simp only at h
      cases hb : Nat.ble (ev_cat as) (cd k).1 with
      | false => rw [hb] at h; cases h
      | true =>
        rw [hb] at h
        obtain ⟨c1, c2, c3⟩ := hcd k
        have hle := Nat.le_of_ble_eq_true hb
        obtain ⟨n', hn⟩ := ev_H_ok c3 ih N 0 [] (lv_args 0 as) (q_args 0 as q_5) [] (sz, t, 0, 0) v τ (fun x hx => by cases hx) (q_R_args (by omega)) h
        refine Or.inr ⟨?_, n', hn⟩
        rw [ev_sl_cat]
        exact Nat.ble_eq.mpr (by omega)
end FASTJ
