/-! the lines of a drawing, their tokens -/
def rtq : List (Nat × List Nat) → List (Nat × List Nat) → Bool
  | [], [] => true
  | a :: l, b :: r => Nat.beq a.1 b.1 && (lnq a.2 b.2 && rtq l r)
  | _, _ => false
theorem rtq_ok : ∀ {l r : List (Nat × List Nat)}, rtq l r = true → l = r
  | [], [], _ => rfl
  | a :: l, b :: r, h => by
    unfold rtq at h
    rw [Bool.and_eq_true, Bool.and_eq_true] at h
    have e : a = b := Prod.ext (Nat.eq_of_beq_eq_true h.1) (lnq_ok h.2.1)
    rw [e, rtq_ok h.2.2]
  | [], _ :: _, h => by cases h
  | _ :: _, [], h => by cases h
def rlq (s : List Nat) (r : List (Nat × List Nat)) : Bool := match rlx 80 s with | some l => rtq l r | none => false
theorem rlq_ok {s : List Nat} {r : List (Nat × List Nat)} (h : rlq s r = true) : rlx 80 s = some r := by
  unfold rlq at h
  cases e : rlx 80 s with
  | some l => rw [e] at h; rw [rtq_ok h]
  | none => rw [e] at h; cases h
def cI0 : List Nat := [73, 78, 84, 69, 82, 70, 65, 67, 69, 32, 116, 59, 10]
def rI0 : List (Nat × List Nat) := [(221, []), (2, [116]), (59, [])]
def cI1 : List Nat := [84, 89, 80, 69, 32, 108, 48, 32, 61, 32, 82, 79, 79, 84, 32, 79, 66, 74, 69, 67, 84, 32, 102, 48, 58, 32, 73, 78, 84, 69, 71, 69, 82, 59, 32, 69, 78, 68, 59, 10]
def rI1 : List (Nat × List Nat) := [(253, []), (2, [108, 48]), (61, []), (246, []), (234, []), (2, [102, 48]), (58, []), (220, []), (59, []), (210, []), (59, [])]
def cLv (k : Nat) : List Nat := [84, 89, 80, 69, 32, 108] ++ ([48 + k] ++ ([32, 61, 32, 108] ++ ([48 + k - 1] ++ ([32, 79, 66, 74, 69, 67, 84, 32, 102] ++ ([48 + k] ++ ([58, 32, 73, 78, 84, 69, 71, 69, 82, 59, 32, 69, 78, 68, 59, 10]))))))
def rLv (k : Nat) : List (Nat × List Nat) := [(253, []), (2, [108, 48 + k]), (61, []), (2, [108, 48 + k - 1]), (234, []), (2, [102, 48 + k]), (58, []), (220, []), (59, []), (210, []), (59, [])]
def cOp (k : Nat) : List Nat := [84, 89, 80, 69, 32, 111, 32, 60, 58, 32, 108] ++ ([48 + k] ++ ([59, 10]))
def rOp (k : Nat) : List (Nat × List Nat) := [(253, []), (2, [111]), (8, []), (2, [108, 48 + k]), (59, [])]
def cRg (x k q b : Nat) : List Nat := [84, 89, 80, 69, 32] ++ ([x] ++ ([48 + k] ++ ([32, 61, 32, 82, 69, 70, 32, 65, 82, 82, 65, 89, 32, 91, 48, 46, 46] ++ ([48 + b] ++ ([93, 32, 79, 70, 32] ++ ([x] ++ ([48 + q] ++ ([59, 10]))))))))
def rRg (x k q b : Nat) : List (Nat × List Nat) := [(253, []), (2, [x, 48 + k]), (61, []), (243, []), (201, []), (91, []), (3, [0]), (4, []), (3, [48 + b - 48]), (93, []), (235, []), (2, [x, 48 + q]), (59, [])]
def cT0 : List Nat := [69, 78, 68, 32, 116, 46, 10]
def rT0 : List (Nat × List Nat) := [(210, []), (2, [116]), (46, [])]
def cT1 (k : Nat) : List Nat := [73, 78, 84, 69, 82, 70, 65, 67, 69, 32, 103, 59, 32, 73, 77, 80, 79, 82, 84, 32, 116, 59, 32, 82, 69, 86, 69, 65, 76, 32, 116, 46, 111, 32, 60, 58, 32, 116, 46, 108] ++ ([48 + k] ++ ([59, 32, 69, 78, 68, 32, 103, 46, 10]))
def rT1 (k : Nat) : List (Nat × List Nat) := [(221, []), (2, [103]), (59, []), (219, []), (2, [116]), (59, []), (245, []), (2, [116]), (46, []), (2, [111]), (8, []), (2, [116]), (46, []), (2, [108, 48 + k]), (59, []), (210, []), (2, [103]), (46, [])]
def cT2 : List Nat := [73, 78, 84, 69, 82, 70, 65, 67, 69, 32, 104, 59, 32, 73, 77, 80, 79, 82, 84, 32, 116, 44, 32, 103, 59, 32, 69, 78, 68, 32, 104, 46, 10]
def rT2 : List (Nat × List Nat) := [(221, []), (2, [104]), (59, []), (219, []), (2, [116]), (44, []), (2, [103]), (59, []), (210, []), (2, [104]), (46, [])]
def cT3 (k : Nat) : List Nat := [77, 79, 68, 85, 76, 69, 32, 116, 59, 32, 82, 69, 86, 69, 65, 76, 32, 111, 32, 61, 32, 108] ++ ([48 + k] ++ ([32, 79, 66, 74, 69, 67, 84, 32, 122, 58, 32, 73, 78, 84, 69, 71, 69, 82, 59, 32, 69, 78, 68, 59, 32, 66, 69, 71, 73, 78, 32, 69, 78, 68, 32, 116, 46, 10]))
def rT3 (k : Nat) : List (Nat × List Nat) := [(228, []), (2, [116]), (59, []), (245, []), (2, [111]), (61, []), (2, [108, 48 + k]), (234, []), (2, [122]), (58, []), (220, []), (59, []), (210, []), (59, []), (202, []), (210, []), (2, [116]), (46, [])]
def cT4 : List Nat := [77, 79, 68, 85, 76, 69, 32, 117, 59, 32, 73, 77, 80, 79, 82, 84, 32, 116, 59, 32, 66, 69, 71, 73, 78, 32, 69, 78, 68, 32, 117, 46, 10]
def rT4 : List (Nat × List Nat) := [(228, []), (2, [117]), (59, []), (219, []), (2, [116]), (59, []), (202, []), (210, []), (2, [117]), (46, [])]
set_option maxRecDepth 100000 in
theorem lI0 : rlq cI0 rI0 = true := by decide +kernel
set_option maxRecDepth 100000 in
theorem lI1 : rlq cI1 rI1 = true := by decide +kernel
set_option maxRecDepth 100000 in
theorem lT0 : rlq cT0 rT0 = true := by decide +kernel
set_option maxRecDepth 100000 in
theorem lT2 : rlq cT2 rT2 = true := by decide +kernel
set_option maxRecDepth 100000 in
theorem lT4 : rlq cT4 rT4 = true := by decide +kernel
set_option maxRecDepth 100000 in
theorem lLv : ((List.range 5).all fun k => Nat.beq k 0 || rlq (cLv k) (rLv k)) = true := by decide +kernel
set_option maxRecDepth 100000 in
theorem lOp : ((List.range 5).all fun k => rlq (cOp k) (rOp k)) = true := by decide +kernel
set_option maxRecDepth 100000 in
theorem lT1 : ((List.range 5).all fun k => rlq (cT1 k) (rT1 k)) = true := by decide +kernel
set_option maxRecDepth 100000 in
theorem lT3 : ((List.range 5).all fun k => rlq (cT3 k) (rT3 k)) = true := by decide +kernel
set_option maxRecDepth 100000 in
theorem lRg : ((List.range 2).all fun x => (List.range 4).all fun k => (List.range 4).all fun q => (List.range 2).all fun b => rlq (cRg (97 + x) k q (b + 1)) (rRg (97 + x) k q (b + 1))) = true := by decide +kernel
