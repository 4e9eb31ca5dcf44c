/-! what contracts of the reference are made of -/
/-- numbers but those of s, rows but those of r, and all lengths stay -/
def kf (s r : List Nat) (μ μ1 : MS) : Prop := (∀ g, s.contains g = false → μ1.1 g = μ.1 g) ∧ (∀ g, r.contains g = false → μ1.2.1 g = μ.2.1 g) ∧ μ1.2.2 = μ.2.2
section FR
variable {s r s' r' : List Nat} {μ μ1 μ2 : MS}
theorem kf.rf : kf s r μ μ := ⟨fun _ _ => rfl, fun _ _ => rfl, rfl⟩
theorem kf.tr (h : kf s r μ μ1) (g : kf s r μ1 μ2) : kf s r μ μ2 := ⟨fun x hx => (g.1 x hx).trans (h.1 x hx), fun x hx => (g.2.1 x hx).trans (h.2.1 x hx), g.2.2.trans h.2.2⟩
theorem kf_sub {a b : List Nat} (h : a.all (fun x => b.contains x) = true) {g : Nat} (hg : b.contains g = false) : a.contains g = false := by
  cases hc : a.contains g with
  | false => rfl
  | true =>
    have h1 := List.all_eq_true.mp h g (by simpa using hc)
    rw [hg] at h1
    cases h1
theorem kf.up (h : kf s r μ μ1) (hs : s.all (fun x => s'.contains x) = true) (hr : r.all (fun x => r'.contains x) = true) : kf s' r' μ μ1 := ⟨fun x hx => h.1 x (kf_sub hs hx), fun x hx => h.2.1 x (kf_sub hr hx), h.2.2⟩
theorem kf.S (h : kf s r μ μ1) {b : Nat} {x : Int32} (hb : s.contains b = true) : kf s r μ (mS1 μ1 b x) := ⟨fun g hg => by
    have hne : g ≠ b := fun e => by rw [e, hb] at hg; cases hg
    show (bif Nat.beq g b then x else μ1.1 g) = _
    rw [nb_ne hne]
    exact h.1 g hg, h.2.1, h.2.2⟩
theorem kf.A (h : kf s r μ μ1) {b i : Nat} {x : Int32} (hb : r.contains b = true) : kf s r μ (mA1 μ1 b i x) := ⟨h.1, fun g hg => by
    have hne : g ≠ b := fun e => by rw [e, hb] at hg; cases hg
    show (bif Nat.beq g b then upd (μ1.2.1 b) i x else μ1.2.1 g) = _
    rw [nb_ne hne]
    exact h.2.1 g hg, h.2.2⟩
end FR
/-- the lengths of the rows but mem's and todo's -/
def rlL : List Nat := [0, 0, 6000, 0, 6000, 0, 0, 0, 0, 6002, 6002, 6002, 0, 6000, 6000, 6600, 0, 0, 0, 0, 16000, 16000, 16000, 16000, 16000, 16000, 16000, 16000, 16000, 16000, 16000, 16000, 0, 0, 0, 0, 0, 0, 0, 0, 0, 0, 14, 0, 3200, 3200, 3200, 3200, 14, 14, 14, 14, 0, 3200, 3200, 3200, 0, 3200, 3200, 0, 0, 3200, 0, 3200, 3200, 0, 16000, 0, 16000, 0, 64000, 64000, 16000, 16000, 0, 3200, 0, 0, 16000, 16000, 0, 16000, 16000, 0, 16000, 0, 0, 3200, 16000, 0, 0, 0, 0, 0, 64, 3200, 3200, 0, 0, 29400, 0, 0, 0, 0, 0, 2001, 2001, 2001, 2001, 2001, 0, 65, 65, 65, 65, 0, 65, 65, 65, 65, 65, 65, 65, 65, 65, 18000, 500, 0, 0, 0, 0, 0, 10, 0]
def rlen (g : Nat) : Nat := rlL.getD g 0
def rk (g : Nat) : Bool := !Nat.beq (ar g) 0 && (!Nat.beq g 99 && !Nat.beq g 125)
def LRow (L : Nat → Nat) : Prop := ∀ g, rk g = true → L g = rlen g
theorem LRow.g {L : Nat → Nat} (h : LRow L) {g n : Nat} (hg : rk g = true) (hn : rlen g = n) : L g = n := (h g hg).trans hn
theorem LRow.to {μ μ1 : MS} {s r : List Nat} (h : LRow μ.2.2) (hf : kf s r μ μ1) : LRow μ1.2.2 := by rw [hf.2.2]; exact h
theorem MI.of {x : Int32} {m n : Nat} (h : n = m) (h0 : 0 ≤ x.toInt) (h1 : x.toInt < m) : MI x n := ⟨h0, by rw [h]; exact h1⟩
theorem ia {x y : Int32} (h1 : -2147483648 ≤ x.toInt + y.toInt) (h2 : x.toInt + y.toInt < 2147483648) : (x + y).toInt = x.toInt + y.toInt := by
  rw [Int32.toInt_add, Int.bmod_eq_of_le (by omega) (by omega)]
theorem ib {x y : Int32} (h1 : -2147483648 ≤ x.toInt - y.toInt) (h2 : x.toInt - y.toInt < 2147483648) : (x - y).toInt = x.toInt - y.toInt := by
  rw [Int32.toInt_sub, Int.bmod_eq_of_le (by omega) (by omega)]
theorem ia1 {x : Int32} (h : x.toInt < 2147483647) : (x + 1).toInt = x.toInt + 1 := by
  have := x.le_toInt
  rw [ia (by rw [show (1 : Int32).toInt = 1 from rfl]; omega) (by rw [show (1 : Int32).toInt = 1 from rfl]; omega)]; rfl
theorem ia2 {x : Int32} (h : x.toInt < 2147483646) : (x + 2).toInt = x.toInt + 2 := by
  have := x.le_toInt
  rw [ia (by rw [show (2 : Int32).toInt = 2 from rfl]; omega) (by rw [show (2 : Int32).toInt = 2 from rfl]; omega)]; rfl
theorem ic {x : Int32} : x.toNatClampNeg = x.toInt.toNat := rfl
theorem and255 (x : Int32) : 0 ≤ (x &&& 255).toInt ∧ (x &&& 255).toInt ≤ 255 := by
  have h2 : (x.toBitVec &&& 255#32).toNat ≤ 255 := by rw [BitVec.toNat_and]; exact Nat.and_le_right
  have h3 : (x &&& 255).toInt = ((x.toBitVec &&& 255#32).toNat : Int) := by
    show (x.toBitVec &&& 255#32).toInt = _
    rw [BitVec.toInt_eq_toNat_of_lt (by omega)]
  omega
theorem ne_i {x y : Int32} (h : ¬ x = y) : ¬ x.toInt = y.toInt := fun e => h (Int32.toInt_inj.mp e)
theorem eq_i {x y : Int32} (h : x = y) : x.toInt = y.toInt := by rw [h]
theorem i_eq {x y : Int32} (h : x.toInt = y.toInt) : x = y := Int32.toInt_inj.mp h
/-- a truth as a number -/
def bI (b : Bool) : Int32 := bif b then 1 else 0
theorem bI_t {b : Bool} (h : ¬ bI b = 0) : b = true := by cases b with | true => rfl | false => exact absurd rfl h
theorem bI_f {b : Bool} (h : bI b = 0) : b = false := by cases b with | false => rfl | true => cases h
theorem bI_01 (b : Bool) : bI b = 0 ∨ bI b = 1 := by cases b <;> simp [bI]
