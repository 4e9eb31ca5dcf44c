/-! two rows more: an array's length, an array's reference -/
section ROWS3
variable {X : ev_X} {d k pc : Nat} {lv : ev_L} {st rest : List Value} {σ σ' : ev_S} {r : ev_O}
theorem e_alen {q n j a b tg : Nat} {kk : Int} {x : (Nat → Int32) ⊕ (Nat → Int64) ⊕ (Nat → UInt32) ⊕ (Nat → UInt64) ⊕ (Nat → Option Nat)} (hb : ev_tb k pc = some (.arraylength, 1, a, b, tg, kk)) (hg : ev_g σ.2.1 q = some (.inl (j, n, x))) (hj : Nat.ble (j + 1) 7 = true) (next : EE X d k (pc + 1) lv (.int (Int32.ofNat n) :: st) σ r σ') : EE X d k pc lv (.ref q :: st) σ r σ' := by
  refine e_xh hb ?_ next
  show (match ev_g σ.2.1 q with
      | some (.inl (j, n, _)) => ev_if (Nat.beq 1 1 && Nat.ble (j + 1) 7) (some (pc + 1, Value.int (Int32.ofNat n) :: st, σ))
      | _ => none) = _
  rw [hg]
  show ev_if (Nat.beq 1 1 && Nat.ble (j + 1) 7) _ = _
  rw [hj]
  rfl
theorem e_aald {q n j a b tg : Nat} {kk : Int} {f : Nat → Option Nat} {x : Int32} {C : String} (hb : ev_tb k pc = some (.aaload, 1, a, b, tg, kk)) (hg : ev_g σ.2.1 q = some (.inl (j, n, .inr (.inr (.inr (.inr f)))))) (hC : ev_nth ev_tl j = some (.object C)) (hi : ev_ix x n = true) (next : EE X d k (pc + 1) lv (va_rf (f x.toNatClampNeg) :: st) σ r σ') : EE X d k pc lv (.int x :: .ref q :: st) σ r σ' := by
  refine e_xh hb ?_ next
  unfold ev_xh
  simp only [hg, hC, hi]
  rfl
end ROWS3
