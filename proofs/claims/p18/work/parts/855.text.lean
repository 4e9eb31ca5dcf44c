/-! all of a drawing's text and its tokens -/
/-- line c of the text -/
def txC (L n m sh hi mo : Nat) (bd : Nat → Nat) (c : Nat) : List Nat := bif Nat.beq c 0 then cI0 else bif Nat.ble c L then (bif Nat.beq c 1 then cI1 else cLv (c - 1)) else bif Nat.beq c (L + 1) then cOp sh else bif Nat.ble c (L + 1 + (n + m)) then (bif Nat.ble n (c - (L + 2)) then cRg 98 (c - (L + 2) - n) (Nat.mod (c - (L + 2) - n + 1) m) (bd (c - (L + 2))) else cRg 97 (c - (L + 2)) (Nat.mod (c - (L + 2) + 1) n) (bd (c - (L + 2)))) else bif Nat.beq c (L + 2 + (n + m)) then cT0 else bif Nat.beq c (L + 3 + (n + m)) then cT1 mo else bif Nat.beq c (L + 4 + (n + m)) then cT2 else bif Nat.beq c (L + 5 + (n + m)) then cT3 hi else cT4
def rtC (L n m sh hi mo : Nat) (bd : Nat → Nat) (c : Nat) : List (Nat × List Nat) := bif Nat.beq c 0 then rI0 else bif Nat.ble c L then (bif Nat.beq c 1 then rI1 else rLv (c - 1)) else bif Nat.beq c (L + 1) then rOp sh else bif Nat.ble c (L + 1 + (n + m)) then (bif Nat.ble n (c - (L + 2)) then rRg 98 (c - (L + 2) - n) (Nat.mod (c - (L + 2) - n + 1) m) (bd (c - (L + 2))) else rRg 97 (c - (L + 2)) (Nat.mod (c - (L + 2) + 1) n) (bd (c - (L + 2)))) else bif Nat.beq c (L + 2 + (n + m)) then rT0 else bif Nat.beq c (L + 3 + (n + m)) then rT1 mo else bif Nat.beq c (L + 4 + (n + m)) then rT2 else bif Nat.beq c (L + 5 + (n + m)) then rT3 hi else rT4
/-- the number of the first token of line c -/
def ofC (L R c : Nat) : Nat := bif Nat.beq c 0 then 0 else bif Nat.ble c (L + 1) then 3 + 11 * (c - 1) else bif Nat.ble c (L + 2 + R) then 8 + 11 * L + 13 * (c - (L + 2)) else bif Nat.beq c (L + 3 + R) then 11 + 11 * L + 13 * R else bif Nat.beq c (L + 4 + R) then 29 + 11 * L + 13 * R else bif Nat.beq c (L + 5 + R) then 40 + 11 * L + 13 * R else bif Nat.beq c (L + 6 + R) then 58 + 11 * L + 13 * R else 68 + 11 * L + 13 * R
def lnC (L R c : Nat) : Nat := ofC L R (c + 1) - ofC L R c
/-- the names, in their order; so many ahead of line c -/
def nmF (L n m : Nat) : List (List Nat) := [[116]] ++ ((List.range L).flatMap (fun k => [[108, 48 + k], [102, 48 + k]]) ++ ([[111]] ++ ((List.range n).map (fun k => [97, 48 + k]) ++ ((List.range m).map (fun k => [98, 48 + k]) ++ [[103], [104], [122], [117]]))))
def ctC (L n m c : Nat) : Nat := bif Nat.beq c 0 then 0 else bif Nat.ble c (L + 1) then 2 * c - 1 else bif Nat.ble c (L + 1 + n) then 2 * L + 2 + (bif Nat.beq c (L + 2) then 0 else bif Nat.ble n (c - (L + 1)) then n else c - (L + 1)) else bif Nat.ble c (L + 1 + (n + m)) then 2 * L + 2 + n + (bif Nat.beq c (L + 2 + n) then 0 else bif Nat.ble m (c - (L + 1 + n)) then m else c - (L + 1 + n)) else bif Nat.ble c (L + 3 + (n + m)) then 2 * L + 2 + n + m else 2 * L + 2 + n + m + (c - (L + 3 + (n + m)))
def nmP (L n m c : Nat) : List (List Nat) := (nmF L n m).take (ctC L n m c)
/-- what is drawn, by its code -/
def dcN (n sh hi mo : Nat) (bd : Nat → Nat) (x : Nat) : Nat := bif Nat.ble 1012 x then 0 else bif Nat.beq x 1011 then 2 * mo + 1 else bif Nat.beq x 1010 then 2 * hi + 1 else bif Nat.beq x 1009 then 2 * sh + 1 else bif Nat.ble 1005 x then bd (n + (x - 1005)) else bif Nat.ble 1001 x then bd (x - 1001) else x
def pnq : List (Nat × Nat) → List (Nat × Nat) → Bool
  | [], [] => true
  | a :: l, b :: r => Nat.beq a.1 b.1 && (Nat.beq a.2 b.2 && pnq l r)
  | _, _ => false
theorem pnq_ok : ∀ {l r : List (Nat × Nat)}, pnq l r = true → l = r
  | [], [], _ => rfl
  | a :: l, b :: r, h => by
    unfold pnq at h
    rw [Bool.and_eq_true, Bool.and_eq_true] at h
    have e : a = b := Prod.ext (Nat.eq_of_beq_eq_true h.1) (Nat.eq_of_beq_eq_true h.2.1)
    rw [e, pnq_ok h.2.2]
  | [], _ :: _, h => by cases h
  | _ :: _, [], h => by cases h
def lsq : List (List Nat) → List (List Nat) → Bool
  | [], [] => true
  | a :: l, b :: r => lnq a b && lsq l r
  | _, _ => false
theorem lsq_ok : ∀ {l r : List (List Nat)}, lsq l r = true → l = r
  | [], [], _ => rfl
  | a :: l, b :: r, h => by
    unfold lsq at h
    rw [Bool.and_eq_true] at h
    rw [lnq_ok h.1, lsq_ok h.2]
  | [], _ :: _, h => by cases h
  | _ :: _, [], h => by cases h
/-- a line's tokens are as told: what is drawn in it (code dc) is v -/
noncomputable def ckC (L n m c dc v : Nat) (rt : List (Nat × List Nat)) : Bool := pnq (rsv (nmP L n m c) rt).1 ((List.range (lnC L (n + m) c)).map fun i => (tk_kd L n m (ofC L (n + m) c + i), bif Nat.ble 1000 (tk_vl L n m (ofC L (n + m) c + i)) then v else tk_vl L n m (ofC L (n + m) c + i))) && (lsq (rsv (nmP L n m c) rt).2 (nmP L n m (c + 1)) && (List.range (lnC L (n + m) c)).all fun i => Nat.ble (tk_vl L n m (ofC L (n + m) c + i)) 999 || Nat.beq (tk_vl L n m (ofC L (n + m) c + i)) dc)
set_option maxRecDepth 100000 in
theorem kA : ((List.range 4).all fun L => (List.range 4).all fun n => (List.range 4).all fun m => (List.range (L + 3)).all fun c => ckC (L + 2) (n + 1) (m + 1) c 0 0 (rtC (L + 2) (n + 1) (m + 1) 0 0 0 (fun _ => 1) c)) = true := by decide +kernel
set_option maxRecDepth 100000 in
theorem kB : ((List.range 4).all fun L => (List.range 4).all fun n => (List.range 4).all fun m => (List.range (L + 2)).all fun k => ckC (L + 2) (n + 1) (m + 1) (L + 3) 1009 (2 * k + 1) (rOp k)) = true := by decide +kernel
set_option maxRecDepth 100000 in
theorem kC : ((List.range 4).all fun L => (List.range 4).all fun n => (List.range 4).all fun m => (List.range (n + m + 2)).all fun r => (List.range 2).all fun b => ckC (L + 2) (n + 1) (m + 1) (L + 4 + r) (r_b (n + 1) r) (b + 1) (rtC (L + 2) (n + 1) (m + 1) 0 0 0 (fun _ => b + 1) (L + 4 + r))) = true := by decide +kernel
set_option maxRecDepth 100000 in
theorem kD : ((List.range 4).all fun L => (List.range 4).all fun n => (List.range 4).all fun m => ckC (L + 2) (n + 1) (m + 1) (L + n + m + 6) 0 0 rT0 && (ckC (L + 2) (n + 1) (m + 1) (L + n + m + 8) 0 0 rT2 && ckC (L + 2) (n + 1) (m + 1) (L + n + m + 10) 0 0 rT4)) = true := by decide +kernel
set_option maxRecDepth 100000 in
theorem kE : ((List.range 4).all fun L => (List.range 4).all fun n => (List.range 4).all fun m => (List.range (L + 2)).all fun k => ckC (L + 2) (n + 1) (m + 1) (L + n + m + 7) 1011 (2 * k + 1) (rT1 k) && ckC (L + 2) (n + 1) (m + 1) (L + n + m + 9) 1010 (2 * k + 1) (rT3 k)) = true := by decide +kernel
