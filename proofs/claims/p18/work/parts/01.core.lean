/-! an evaluator of bytecode over a heap of numbered cells, and that what it says is so on the machine -/
/-- one half of a pair by a bit of the number -/
def ev_sl {α : Type} (m : Nat) (t : α × α) (a : Nat) : α := Bool.casesOn (motive := fun _ => α) (Nat.beq (Nat.land a m) (nat_lit 0)) t.2 t.1
def ev_pl {α : Type} (m : Nat) (f : α → α) (t : α × α) (a : Nat) : α × α := Bool.casesOn (motive := fun _ => α × α) (Nat.beq (Nat.land a m) (nat_lit 0)) (t.1, f t.2) (f t.1, t.2)
def ev_ag (m a b : Nat) : Bool := Nat.beq (Nat.land a m) 0 == Nat.beq (Nat.land b m) 0
theorem ev_lw {α β : Type} {G : α → β} {F : α → α} {c : Bool} {y : β} {a b : Nat} (h : ∀ t, G (F t) = bif c then y else G t) (m : Nat) (t : α × α) : G (ev_sl m (ev_pl m F t a) b) = bif ev_ag m a b && c then y else G (ev_sl m t b) := by
  unfold ev_sl ev_pl ev_ag
  show G (Bool.casesOn (motive := fun _ => α) (Nat.beq (Nat.land b m) 0) (Bool.casesOn (motive := fun _ => α × α) (Nat.beq (Nat.land a m) 0) (t.1, F t.2) (F t.1, t.2)).2 (Bool.casesOn (motive := fun _ => α × α) (Nat.beq (Nat.land a m) 0) (t.1, F t.2) (F t.1, t.2)).1) = bif (Nat.beq (Nat.land a m) 0 == Nat.beq (Nat.land b m) 0) && c then y else G (Bool.casesOn (motive := fun _ => α) (Nat.beq (Nat.land b m) 0) t.2 t.1)
  cases Nat.beq (Nat.land a m) 0 <;> cases Nat.beq (Nat.land b m) 0
  · exact h t.2
  · rfl
  · rfl
  · exact h t.1
theorem ev_bit (a k : Nat) : Nat.beq (Nat.land a (2 ^ k)) 0 = !a.testBit k := by
  have h1 : ∀ i, (Nat.land a (2 ^ k)).testBit i = (a.testBit i && decide (k = i)) := fun i => by
    show (a &&& 2 ^ k).testBit i = _
    rw [Nat.testBit_and, Nat.testBit_two_pow]
  cases h : a.testBit k with
  | false =>
    have : Nat.land a (2 ^ k) = 0 := Nat.eq_of_testBit_eq fun i => by
      rw [h1, Nat.zero_testBit]
      by_cases e : k = i
      · subst e; rw [h]; rfl
      · simp [e]
    rw [this]; rfl
  | true =>
    cases hb : Nat.beq (Nat.land a (2 ^ k)) 0 with
    | false => rfl
    | true =>
      have h2 := h1 k
      rw [Nat.eq_of_beq_eq_true hb, h] at h2
      simp at h2
theorem ev_ag_bit {a b k : Nat} (h : ev_ag (2 ^ k) a b = true) : a.testBit k = b.testBit k := by
  unfold ev_ag at h
  rw [ev_bit, ev_bit] at h
  cases ha : a.testBit k <;> cases hb : b.testBit k <;> rw [ha, hb] at h <;> first | rfl | cases h
theorem ev_ag_self (m a : Nat) : ev_ag m a a = true := by
  unfold ev_ag
  cases Nat.beq (Nat.land a m) 0 <;> rfl
abbrev ev_Q0 : Type := Option va_E
abbrev ev_Q1 : Type := ev_Q0 × ev_Q0
abbrev ev_Q2 : Type := ev_Q1 × ev_Q1
abbrev ev_Q3 : Type := ev_Q2 × ev_Q2
abbrev ev_Q4 : Type := ev_Q3 × ev_Q3
abbrev ev_Q5 : Type := ev_Q4 × ev_Q4
abbrev ev_Q6 : Type := ev_Q5 × ev_Q5
abbrev ev_Q7 : Type := ev_Q6 × ev_Q6
abbrev ev_Q8 : Type := ev_Q7 × ev_Q7
abbrev ev_T : Type := ev_Q8
def ev_m0 : ev_Q0 := none
def ev_m1 : ev_Q1 := (ev_m0, ev_m0)
def ev_m2 : ev_Q2 := (ev_m1, ev_m1)
def ev_m3 : ev_Q3 := (ev_m2, ev_m2)
def ev_m4 : ev_Q4 := (ev_m3, ev_m3)
def ev_m5 : ev_Q5 := (ev_m4, ev_m4)
def ev_m6 : ev_Q6 := (ev_m5, ev_m5)
def ev_m7 : ev_Q7 := (ev_m6, ev_m6)
def ev_m8 : ev_Q8 := (ev_m7, ev_m7)
/-- no cell -/
def ev_mt : ev_T := ev_m8
def ev_g (t : ev_T) (b : Nat) : Option va_E := bif Nat.ble b (nat_lit 255) then ev_sl (nat_lit 1) (ev_sl (nat_lit 2) (ev_sl (nat_lit 4) (ev_sl (nat_lit 8) (ev_sl (nat_lit 16) (ev_sl (nat_lit 32) (ev_sl (nat_lit 64) (ev_sl (nat_lit 128) (t) b) b) b) b) b) b) b) b else none
def ev_p (t : ev_T) (a : Nat) (x : va_E) : ev_T := ev_pl (nat_lit 128) (fun t : ev_Q7 => ev_pl (nat_lit 64) (fun t : ev_Q6 => ev_pl (nat_lit 32) (fun t : ev_Q5 => ev_pl (nat_lit 16) (fun t : ev_Q4 => ev_pl (nat_lit 8) (fun t : ev_Q3 => ev_pl (nat_lit 4) (fun t : ev_Q2 => ev_pl (nat_lit 2) (fun t : ev_Q1 => ev_pl (nat_lit 1) (fun _ : ev_Q0 => some x) t a) t a) t a) t a) t a) t a) t a) t a
theorem ev_g_mt (a : Nat) : ev_g ev_mt a = none := by
  have h : ∀ {α : Type} (m : Nat) (x : α) (b : Nat), ev_sl m (x, x) b = x := fun m x b => by
    unfold ev_sl
    cases Nat.beq (Nat.land b m) (nat_lit 0) <;> rfl
  unfold ev_g ev_mt
  rw [show ev_m8 = (ev_m7, ev_m7) from rfl, h]
  rw [show ev_m7 = (ev_m6, ev_m6) from rfl, h]
  rw [show ev_m6 = (ev_m5, ev_m5) from rfl, h]
  rw [show ev_m5 = (ev_m4, ev_m4) from rfl, h]
  rw [show ev_m4 = (ev_m3, ev_m3) from rfl, h]
  rw [show ev_m3 = (ev_m2, ev_m2) from rfl, h]
  rw [show ev_m2 = (ev_m1, ev_m1) from rfl, h]
  rw [show ev_m1 = (ev_m0, ev_m0) from rfl, h]
  cases Nat.ble a 255 <;> rfl
theorem ev_gp {t : ev_T} {a : Nat} {x : va_E} {b : Nat} (h : a < 256) : ev_g (ev_p t a x) b = if b = a then some x else ev_g t b := by
  have l0 : ∀ t : ev_Q0, (fun t : ev_Q0 => t) ((fun _ : ev_Q0 => some x) t) = bif true then some x else (fun t : ev_Q0 => t) t := fun t => rfl
  have l1 : ∀ t : ev_Q1, (fun t : ev_Q1 => ev_sl (nat_lit 1) (t) b) ((fun t : ev_Q1 => ev_pl (nat_lit 1) (fun _ : ev_Q0 => some x) t a) t) = bif (ev_ag 1 a b && true) then some x else (fun t : ev_Q1 => ev_sl (nat_lit 1) (t) b) t := fun t => ev_lw (G := fun t : ev_Q0 => t) (F := (fun _ : ev_Q0 => some x)) (a := a) (b := b) l0 1 t
  have l2 : ∀ t : ev_Q2, (fun t : ev_Q2 => ev_sl (nat_lit 1) (ev_sl (nat_lit 2) (t) b) b) ((fun t : ev_Q2 => ev_pl (nat_lit 2) (fun t : ev_Q1 => ev_pl (nat_lit 1) (fun _ : ev_Q0 => some x) t a) t a) t) = bif (ev_ag 2 a b && (ev_ag 1 a b && true)) then some x else (fun t : ev_Q2 => ev_sl (nat_lit 1) (ev_sl (nat_lit 2) (t) b) b) t := fun t => ev_lw (G := fun t : ev_Q1 => ev_sl (nat_lit 1) (t) b) (F := (fun t : ev_Q1 => ev_pl (nat_lit 1) (fun _ : ev_Q0 => some x) t a)) (a := a) (b := b) l1 2 t
  have l3 : ∀ t : ev_Q3, (fun t : ev_Q3 => ev_sl (nat_lit 1) (ev_sl (nat_lit 2) (ev_sl (nat_lit 4) (t) b) b) b) ((fun t : ev_Q3 => ev_pl (nat_lit 4) (fun t : ev_Q2 => ev_pl (nat_lit 2) (fun t : ev_Q1 => ev_pl (nat_lit 1) (fun _ : ev_Q0 => some x) t a) t a) t a) t) = bif (ev_ag 4 a b && (ev_ag 2 a b && (ev_ag 1 a b && true))) then some x else (fun t : ev_Q3 => ev_sl (nat_lit 1) (ev_sl (nat_lit 2) (ev_sl (nat_lit 4) (t) b) b) b) t := fun t => ev_lw (G := fun t : ev_Q2 => ev_sl (nat_lit 1) (ev_sl (nat_lit 2) (t) b) b) (F := (fun t : ev_Q2 => ev_pl (nat_lit 2) (fun t : ev_Q1 => ev_pl (nat_lit 1) (fun _ : ev_Q0 => some x) t a) t a)) (a := a) (b := b) l2 4 t
  have l4 : ∀ t : ev_Q4, (fun t : ev_Q4 => ev_sl (nat_lit 1) (ev_sl (nat_lit 2) (ev_sl (nat_lit 4) (ev_sl (nat_lit 8) (t) b) b) b) b) ((fun t : ev_Q4 => ev_pl (nat_lit 8) (fun t : ev_Q3 => ev_pl (nat_lit 4) (fun t : ev_Q2 => ev_pl (nat_lit 2) (fun t : ev_Q1 => ev_pl (nat_lit 1) (fun _ : ev_Q0 => some x) t a) t a) t a) t a) t) = bif (ev_ag 8 a b && (ev_ag 4 a b && (ev_ag 2 a b && (ev_ag 1 a b && true)))) then some x else (fun t : ev_Q4 => ev_sl (nat_lit 1) (ev_sl (nat_lit 2) (ev_sl (nat_lit 4) (ev_sl (nat_lit 8) (t) b) b) b) b) t := fun t => ev_lw (G := fun t : ev_Q3 => ev_sl (nat_lit 1) (ev_sl (nat_lit 2) (ev_sl (nat_lit 4) (t) b) b) b) (F := (fun t : ev_Q3 => ev_pl (nat_lit 4) (fun t : ev_Q2 => ev_pl (nat_lit 2) (fun t : ev_Q1 => ev_pl (nat_lit 1) (fun _ : ev_Q0 => some x) t a) t a) t a)) (a := a) (b := b) l3 8 t
  have l5 : ∀ t : ev_Q5, (fun t : ev_Q5 => ev_sl (nat_lit 1) (ev_sl (nat_lit 2) (ev_sl (nat_lit 4) (ev_sl (nat_lit 8) (ev_sl (nat_lit 16) (t) b) b) b) b) b) ((fun t : ev_Q5 => ev_pl (nat_lit 16) (fun t : ev_Q4 => ev_pl (nat_lit 8) (fun t : ev_Q3 => ev_pl (nat_lit 4) (fun t : ev_Q2 => ev_pl (nat_lit 2) (fun t : ev_Q1 => ev_pl (nat_lit 1) (fun _ : ev_Q0 => some x) t a) t a) t a) t a) t a) t) = bif (ev_ag 16 a b && (ev_ag 8 a b && (ev_ag 4 a b && (ev_ag 2 a b && (ev_ag 1 a b && true))))) then some x else (fun t : ev_Q5 => ev_sl (nat_lit 1) (ev_sl (nat_lit 2) (ev_sl (nat_lit 4) (ev_sl (nat_lit 8) (ev_sl (nat_lit 16) (t) b) b) b) b) b) t := fun t => ev_lw (G := fun t : ev_Q4 => ev_sl (nat_lit 1) (ev_sl (nat_lit 2) (ev_sl (nat_lit 4) (ev_sl (nat_lit 8) (t) b) b) b) b) (F := (fun t : ev_Q4 => ev_pl (nat_lit 8) (fun t : ev_Q3 => ev_pl (nat_lit 4) (fun t : ev_Q2 => ev_pl (nat_lit 2) (fun t : ev_Q1 => ev_pl (nat_lit 1) (fun _ : ev_Q0 => some x) t a) t a) t a) t a)) (a := a) (b := b) l4 16 t
  have l6 : ∀ t : ev_Q6, (fun t : ev_Q6 => ev_sl (nat_lit 1) (ev_sl (nat_lit 2) (ev_sl (nat_lit 4) (ev_sl (nat_lit 8) (ev_sl (nat_lit 16) (ev_sl (nat_lit 32) (t) b) b) b) b) b) b) ((fun t : ev_Q6 => ev_pl (nat_lit 32) (fun t : ev_Q5 => ev_pl (nat_lit 16) (fun t : ev_Q4 => ev_pl (nat_lit 8) (fun t : ev_Q3 => ev_pl (nat_lit 4) (fun t : ev_Q2 => ev_pl (nat_lit 2) (fun t : ev_Q1 => ev_pl (nat_lit 1) (fun _ : ev_Q0 => some x) t a) t a) t a) t a) t a) t a) t) = bif (ev_ag 32 a b && (ev_ag 16 a b && (ev_ag 8 a b && (ev_ag 4 a b && (ev_ag 2 a b && (ev_ag 1 a b && true)))))) then some x else (fun t : ev_Q6 => ev_sl (nat_lit 1) (ev_sl (nat_lit 2) (ev_sl (nat_lit 4) (ev_sl (nat_lit 8) (ev_sl (nat_lit 16) (ev_sl (nat_lit 32) (t) b) b) b) b) b) b) t := fun t => ev_lw (G := fun t : ev_Q5 => ev_sl (nat_lit 1) (ev_sl (nat_lit 2) (ev_sl (nat_lit 4) (ev_sl (nat_lit 8) (ev_sl (nat_lit 16) (t) b) b) b) b) b) (F := (fun t : ev_Q5 => ev_pl (nat_lit 16) (fun t : ev_Q4 => ev_pl (nat_lit 8) (fun t : ev_Q3 => ev_pl (nat_lit 4) (fun t : ev_Q2 => ev_pl (nat_lit 2) (fun t : ev_Q1 => ev_pl (nat_lit 1) (fun _ : ev_Q0 => some x) t a) t a) t a) t a) t a)) (a := a) (b := b) l5 32 t
  have l7 : ∀ t : ev_Q7, (fun t : ev_Q7 => ev_sl (nat_lit 1) (ev_sl (nat_lit 2) (ev_sl (nat_lit 4) (ev_sl (nat_lit 8) (ev_sl (nat_lit 16) (ev_sl (nat_lit 32) (ev_sl (nat_lit 64) (t) b) b) b) b) b) b) b) ((fun t : ev_Q7 => ev_pl (nat_lit 64) (fun t : ev_Q6 => ev_pl (nat_lit 32) (fun t : ev_Q5 => ev_pl (nat_lit 16) (fun t : ev_Q4 => ev_pl (nat_lit 8) (fun t : ev_Q3 => ev_pl (nat_lit 4) (fun t : ev_Q2 => ev_pl (nat_lit 2) (fun t : ev_Q1 => ev_pl (nat_lit 1) (fun _ : ev_Q0 => some x) t a) t a) t a) t a) t a) t a) t a) t) = bif (ev_ag 64 a b && (ev_ag 32 a b && (ev_ag 16 a b && (ev_ag 8 a b && (ev_ag 4 a b && (ev_ag 2 a b && (ev_ag 1 a b && true))))))) then some x else (fun t : ev_Q7 => ev_sl (nat_lit 1) (ev_sl (nat_lit 2) (ev_sl (nat_lit 4) (ev_sl (nat_lit 8) (ev_sl (nat_lit 16) (ev_sl (nat_lit 32) (ev_sl (nat_lit 64) (t) b) b) b) b) b) b) b) t := fun t => ev_lw (G := fun t : ev_Q6 => ev_sl (nat_lit 1) (ev_sl (nat_lit 2) (ev_sl (nat_lit 4) (ev_sl (nat_lit 8) (ev_sl (nat_lit 16) (ev_sl (nat_lit 32) (t) b) b) b) b) b) b) (F := (fun t : ev_Q6 => ev_pl (nat_lit 32) (fun t : ev_Q5 => ev_pl (nat_lit 16) (fun t : ev_Q4 => ev_pl (nat_lit 8) (fun t : ev_Q3 => ev_pl (nat_lit 4) (fun t : ev_Q2 => ev_pl (nat_lit 2) (fun t : ev_Q1 => ev_pl (nat_lit 1) (fun _ : ev_Q0 => some x) t a) t a) t a) t a) t a) t a)) (a := a) (b := b) l6 64 t
  have l8 : ∀ t : ev_Q8, (fun t : ev_Q8 => ev_sl (nat_lit 1) (ev_sl (nat_lit 2) (ev_sl (nat_lit 4) (ev_sl (nat_lit 8) (ev_sl (nat_lit 16) (ev_sl (nat_lit 32) (ev_sl (nat_lit 64) (ev_sl (nat_lit 128) (t) b) b) b) b) b) b) b) b) ((fun t : ev_Q8 => ev_pl (nat_lit 128) (fun t : ev_Q7 => ev_pl (nat_lit 64) (fun t : ev_Q6 => ev_pl (nat_lit 32) (fun t : ev_Q5 => ev_pl (nat_lit 16) (fun t : ev_Q4 => ev_pl (nat_lit 8) (fun t : ev_Q3 => ev_pl (nat_lit 4) (fun t : ev_Q2 => ev_pl (nat_lit 2) (fun t : ev_Q1 => ev_pl (nat_lit 1) (fun _ : ev_Q0 => some x) t a) t a) t a) t a) t a) t a) t a) t a) t) = bif (ev_ag 128 a b && (ev_ag 64 a b && (ev_ag 32 a b && (ev_ag 16 a b && (ev_ag 8 a b && (ev_ag 4 a b && (ev_ag 2 a b && (ev_ag 1 a b && true)))))))) then some x else (fun t : ev_Q8 => ev_sl (nat_lit 1) (ev_sl (nat_lit 2) (ev_sl (nat_lit 4) (ev_sl (nat_lit 8) (ev_sl (nat_lit 16) (ev_sl (nat_lit 32) (ev_sl (nat_lit 64) (ev_sl (nat_lit 128) (t) b) b) b) b) b) b) b) b) t := fun t => ev_lw (G := fun t : ev_Q7 => ev_sl (nat_lit 1) (ev_sl (nat_lit 2) (ev_sl (nat_lit 4) (ev_sl (nat_lit 8) (ev_sl (nat_lit 16) (ev_sl (nat_lit 32) (ev_sl (nat_lit 64) (t) b) b) b) b) b) b) b) (F := (fun t : ev_Q7 => ev_pl (nat_lit 64) (fun t : ev_Q6 => ev_pl (nat_lit 32) (fun t : ev_Q5 => ev_pl (nat_lit 16) (fun t : ev_Q4 => ev_pl (nat_lit 8) (fun t : ev_Q3 => ev_pl (nat_lit 4) (fun t : ev_Q2 => ev_pl (nat_lit 2) (fun t : ev_Q1 => ev_pl (nat_lit 1) (fun _ : ev_Q0 => some x) t a) t a) t a) t a) t a) t a) t a)) (a := a) (b := b) l7 128 t
  have hl := l8 t
  unfold ev_g
  by_cases hb : b < 256
  · rw [show Nat.ble b 255 = true from Nat.ble_eq.mpr (by omega)]
    refine Eq.trans hl ?_
    by_cases e : b = a
    · subst e
      simp [ev_ag_self]
    · rw [if_neg e]
      have hc : (ev_ag 128 a b && (ev_ag 64 a b && (ev_ag 32 a b && (ev_ag 16 a b && (ev_ag 8 a b && (ev_ag 4 a b && (ev_ag 2 a b && (ev_ag 1 a b && true)))))))) = false := by
        cases hq : (ev_ag 128 a b && (ev_ag 64 a b && (ev_ag 32 a b && (ev_ag 16 a b && (ev_ag 8 a b && (ev_ag 4 a b && (ev_ag 2 a b && (ev_ag 1 a b && true)))))))) with
        | false => rfl
        | true =>
          simp only [Bool.and_eq_true] at hq
          exfalso
          apply e
          apply Nat.eq_of_testBit_eq
          intro i
          obtain ⟨h7, h6, h5, h4, h3, h2, h1, h0, -⟩ := hq
          match i with
          | 0 => exact (ev_ag_bit (k := 0) h0).symm
          | 1 => exact (ev_ag_bit (k := 1) h1).symm
          | 2 => exact (ev_ag_bit (k := 2) h2).symm
          | 3 => exact (ev_ag_bit (k := 3) h3).symm
          | 4 => exact (ev_ag_bit (k := 4) h4).symm
          | 5 => exact (ev_ag_bit (k := 5) h5).symm
          | 6 => exact (ev_ag_bit (k := 6) h6).symm
          | 7 => exact (ev_ag_bit (k := 7) h7).symm
          | i + 8 => rw [Nat.testBit_lt_two_pow (Nat.lt_of_lt_of_le hb (Nat.pow_le_pow_right (n := 2) (by decide) (Nat.le_add_left 8 i))), Nat.testBit_lt_two_pow (Nat.lt_of_lt_of_le h (Nat.pow_le_pow_right (n := 2) (by decide) (Nat.le_add_left 8 i)))]
      rw [hc]
      rfl
  · rw [show Nat.ble b 255 = false by cases hq : Nat.ble b 255 with | false => rfl | true => exact absurd (Nat.le_of_ble_eq_true hq) (by omega)]
    rw [if_neg (by omega)]
    rfl
/-- next address, heap, cells and slots made so far -/
abbrev ev_S : Type := Nat × ev_T × Nat × Nat
abbrev ev_L : Type := List (Nat × Value)
/-- where the cells begin; what a number that isn't known is (written .float); what a reference that isn't known is (written .retAddr) -/
abbrev ev_B : Type := Nat × (UInt32 → Int32) × (Nat → Option Nat)
def ev_v (B : ev_B) : Value → Value
  | .ref k => .ref (B.1 + k)
  | .float i => .int (B.2.1 i)
  | .retAddr i => va_rf (B.2.2 i)
  | v => v
theorem ev_v_cat (B : ev_B) (v : Value) : (ev_v B v).category = v.category := by
  cases v with
  | retAddr i =>
    show (va_rf (B.2.2 i)).category = 1
    cases B.2.2 i <;> rfl
  | _ => rfl
def ev_lB (B : ev_B) (lv : ev_L) : ev_L := lv.map fun q => (q.1, ev_v B q.2)
def ev_lk : ev_L → Nat → Option Value
  | [], _ => none
  | q :: r, i => bif Nat.beq q.1 i then some q.2 else ev_lk r i
theorem ev_lk_at {B : ev_B} : ∀ {lv : ev_L} {i : Nat} {v : Value}, ev_lk lv i = some v → ∃ k : Nat, (ev_lB B lv)[k]? = some (i, ev_v B v)
  | [], i, v, h => by cases h
  | q :: r, i, v, h => by
    unfold ev_lk at h
    cases e : Nat.beq q.1 i with
    | true =>
      rw [e] at h
      cases h
      have e2 := Nat.eq_of_beq_eq_true e
      refine ⟨0, ?_⟩
      rw [← e2]
      rfl
    | false =>
      rw [e] at h
      obtain ⟨k, hk⟩ := ev_lk_at (B := B) (lv := r) h
      exact ⟨k + 1, hk⟩
/-- a store of one word -/
def ev_st1 (lv : ev_L) (i : Nat) (v : Value) : ev_L := (i, v) :: lv.filter (fun q => !(q.1 == i) && !(q.1 + 1 == i && q.2.category == 2))
/-- a store of two words -/
def ev_st2 (lv : ev_L) (i : Nat) (v : Value) : ev_L := (i, v) :: lv.filter (fun q => !(q.1 == i) && (!(q.1 == i + 1) && !(q.1 + 1 == i && q.2.category == 2)))
theorem ev_st1_B (B : ev_B) (lv : ev_L) (i : Nat) (v : Value) : (i, ev_v B v) :: (ev_lB B lv).filter (fun q => !(q.1 == i) && !(q.1 + 1 == i && q.2.category == 2)) = ev_lB B (ev_st1 lv i v) := by
  unfold ev_st1 ev_lB
  rw [List.filter_map, List.map_cons]
  congr 2
  apply List.filter_congr
  intro q _
  simp only [Function.comp, ev_v_cat]
theorem ev_st1_rN {B : ev_B} {lv : ev_L} {i : Nat} {x : Nat} (h : B.2.2 x = none) : (i, Value.null) :: (ev_lB B lv).filter (fun q => !(q.1 == i) && !(q.1 + 1 == i && q.2.category == 2)) = ev_lB B (ev_st1 lv i (.retAddr x)) := by
  have h1 := ev_st1_B B lv i (.retAddr x)
  rw [show ev_v B (.retAddr x) = va_rf (B.2.2 x) from rfl, h] at h1
  exact h1
theorem ev_st1_rS {B : ev_B} {lv : ev_L} {i : Nat} {x y : Nat} (h : B.2.2 x = some y) : (i, Value.ref y) :: (ev_lB B lv).filter (fun q => !(q.1 == i) && !(q.1 + 1 == i && q.2.category == 2)) = ev_lB B (ev_st1 lv i (.retAddr x)) := by
  have h1 := ev_st1_B B lv i (.retAddr x)
  rw [show ev_v B (.retAddr x) = va_rf (B.2.2 x) from rfl, h] at h1
  exact h1
theorem ev_st2_B (B : ev_B) (lv : ev_L) (i : Nat) (v : Value) : (i, ev_v B v) :: (ev_lB B lv).filter (fun q => !(q.1 == i) && (!(q.1 == i + 1) && !(q.1 + 1 == i && q.2.category == 2))) = ev_lB B (ev_st2 lv i v) := by
  unfold ev_st2 ev_lB
  rw [List.filter_map, List.map_cons]
  congr 2
  apply List.filter_congr
  intro q _
  simp only [Function.comp, ev_v_cat]
def ev_tg (pc : Nat) (off : Int) : Option Nat := match (pc : Int) + off with
  | .ofNat t => some t
  | .negSucc _ => none
theorem ev_tg_ok {pc : Nat} {off : Int} {t : Nat} (h : ev_tg pc off = some t) : (pc : Int) + off = (t : Int) := by
  unfold ev_tg at h
  split at h
  · rename_i x e
    cases h
    exact e
  · cases h
def ev_if {α : Type} (c : Bool) (x : Option α) : Option α := bif c then x else none
theorem ev_if_ok {α : Type} {c : Bool} {x : Option α} {y : α} (h : ev_if c x = some y) : c = true ∧ x = some y := by
  cases c with
  | true => exact ⟨rfl, h⟩
  | false => cases h
def ev_br (c : Bool) (pc off2 : Nat) (off : Int) (st : List Value) : Option (Nat × List Value) := match ev_tg pc off with
  | some t => some (bif c then t else pc + off2, st)
  | none => none
/-- instructions on the operands alone -/
def ev_xc (i : Instr) (len pc : Nat) (st : List Value) : Option (Nat × List Value) := match i with
  | .aconst_null => ev_if (Nat.beq len 1) (some (pc + 1, .null :: st))
  | .iconst n => ev_if (Nat.beq len 1) (some (pc + 1, .int (Int32.ofInt n) :: st))
  | .bipush n => ev_if (Nat.beq len 2) (some (pc + 2, .int (Int8.ofInt n).toInt32 :: st))
  | .sipush n => ev_if (Nat.beq len 3) (some (pc + 3, .int (Int16.ofInt n).toInt32 :: st))
  | .lconst n => ev_if (Nat.beq len 1) (some (pc + 1, .long (Int64.ofNat (n : Nat)) :: st))
  | .iadd => match st with
    | .int y :: .int x :: r => ev_if (Nat.beq len 1) (some (pc + 1, .int (x + y) :: r))
    | _ => none
  | .isub => match st with
    | .int y :: .int x :: r => ev_if (Nat.beq len 1) (some (pc + 1, .int (x - y) :: r))
    | _ => none
  | .imul => match st with
    | .int y :: .int x :: r => ev_if (Nat.beq len 1) (some (pc + 1, .int (x * y) :: r))
    | _ => none
  | .ineg => match st with
    | .int x :: r => ev_if (Nat.beq len 1) (some (pc + 1, .int (-x) :: r))
    | _ => none
  | .iand => match st with
    | .int y :: .int x :: r => ev_if (Nat.beq len 1) (some (pc + 1, .int (x &&& y) :: r))
    | _ => none
  | .ior => match st with
    | .int y :: .int x :: r => ev_if (Nat.beq len 1) (some (pc + 1, .int (x ||| y) :: r))
    | _ => none
  | .ixor => match st with
    | .int y :: .int x :: r => ev_if (Nat.beq len 1) (some (pc + 1, .int (x ^^^ y) :: r))
    | _ => none
  | .ishl => match st with
    | .int y :: .int x :: r => ev_if (Nat.beq len 1) (some (pc + 1, .int (x <<< (y &&& 31)) :: r))
    | _ => none
  | .ishr => match st with
    | .int y :: .int x :: r => ev_if (Nat.beq len 1) (some (pc + 1, .int (x >>> (y &&& 31)) :: r))
    | _ => none
  | .iushr => match st with
    | .int y :: .int x :: r => ev_if (Nat.beq len 1) (some (pc + 1, .int (x.toUInt32 >>> (y.toUInt32 &&& Int32.toUInt32 31)).toInt32 :: r))
    | _ => none
  | .irem => match st with
    | .int y :: .int x :: r => ev_if (Nat.beq len 1 && !decide (y = 0)) (some (pc + 1, .int (x - x / y * y) :: r))
    | _ => none
  | .ladd => match st with
    | .long y :: .long x :: r => ev_if (Nat.beq len 1) (some (pc + 1, .long (x + y) :: r))
    | _ => none
  | .lsub => match st with
    | .long y :: .long x :: r => ev_if (Nat.beq len 1) (some (pc + 1, .long (x - y) :: r))
    | _ => none
  | .lmul => match st with
    | .long y :: .long x :: r => ev_if (Nat.beq len 1) (some (pc + 1, .long (x * y) :: r))
    | _ => none
  | .lcmp => match st with
    | .long y :: .long x :: r => ev_if (Nat.beq len 1) (some (pc + 1, .int (lg_cmp x y) :: r))
    | _ => none
  | .i2l => match st with
    | .int x :: r => ev_if (Nat.beq len 1) (some (pc + 1, .long x.toInt64 :: r))
    | _ => none
  | .l2i => match st with
    | .long x :: r => ev_if (Nat.beq len 1) (some (pc + 1, .int x.toInt32 :: r))
    | _ => none
  | .i2b => match st with
    | .int x :: r => ev_if (Nat.beq len 1) (some (pc + 1, .int x.toInt8.toInt32 :: r))
    | _ => none
  | .i2c => match st with
    | .int x :: r => ev_if (Nat.beq len 1) (some (pc + 1, .int (x.toUInt32 % 65536).toInt32 :: r))
    | _ => none
  | .dup => match st with
    | v :: r => ev_if (Nat.beq len 1 && Nat.beq v.category 1) (some (pc + 1, v :: v :: r))
    | _ => none
  | .dup2 => match st with
    | v :: w :: r => ev_if (Nat.beq len 1 && (Nat.beq v.category 1 && Nat.beq w.category 1)) (some (pc + 1, v :: w :: v :: w :: r))
    | _ => none
  | .pop => match st with
    | v :: r => ev_if (Nat.beq len 1 && Nat.beq v.category 1) (some (pc + 1, r))
    | _ => none
  | .goto off => ev_if (Nat.beq len 3) ((ev_tg pc off).map fun t => (t, st))
  | .ifCond c off => match st with
    | .int x :: r => ev_if (Nat.beq len 3) (ev_br (match c with
      | .eq => decide (x = 0)
      | .ne => !decide (x = 0)
      | .lt => decide (x < 0)
      | .ge => !decide (x < 0)
      | .gt => !decide (x ≤ 0)
      | .le => decide (x ≤ 0)) pc 3 off r)
    | _ => none
  | .if_icmp c off => match st with
    | .int y :: .int x :: r => ev_if (Nat.beq len 3) (ev_br (match c with
      | .eq => decide (x = y)
      | .ne => !decide (x = y)
      | .lt => decide (x < y)
      | .ge => !decide (x < y)
      | .gt => !decide (x ≤ y)
      | .le => decide (x ≤ y)) pc 3 off r)
    | _ => none
  | .if_acmp c off => match st with
    | .ref y :: .ref x :: r => ev_if (Nat.beq len 3) (ev_br (match c with
      | .eq => Nat.beq x y
      | .ne => !Nat.beq x y) pc 3 off r)
    | .null :: .ref _ :: r => ev_if (Nat.beq len 3) (ev_br (match c with
      | .eq => false
      | .ne => true) pc 3 off r)
    | .ref _ :: .null :: r => ev_if (Nat.beq len 3) (ev_br (match c with
      | .eq => false
      | .ne => true) pc 3 off r)
    | .null :: .null :: r => ev_if (Nat.beq len 3) (ev_br (match c with
      | .eq => true
      | .ne => false) pc 3 off r)
    | _ => none
  | .ifnull off => match st with
    | .ref _ :: r => ev_if (Nat.beq len 3) (some (pc + 3, r))
    | .null :: r => ev_if (Nat.beq len 3) ((ev_tg pc off).map fun t => (t, r))
    | _ => none
  | .ifnonnull off => match st with
    | .null :: r => ev_if (Nat.beq len 3) (some (pc + 3, r))
    | .ref _ :: r => ev_if (Nat.beq len 3) ((ev_tg pc off).map fun t => (t, r))
    | _ => none
  | .lookupswitch dflt ps => match st with
    | .int x :: r => ev_if ((ps.toList.zip (ps.toList.drop 1)).all (fun (a, next) => a.1 < next.1)) ((ev_tg pc (Op.lookupswitch.offset ps.toList dflt x.toInt)).map fun t => (t, r))
    | _ => none
  | .tableswitch dflt lo hi offs => match st with
    | .int x :: r => bif decide (x.toInt < lo) || decide (hi < x.toInt) then (ev_tg pc dflt).map (fun t => (t, r)) else match offs[(x.toInt - lo).toNat]? with
      | some off => (ev_tg pc off).map fun t => (t, r)
      | none => none
    | _ => none
  | _ => none
