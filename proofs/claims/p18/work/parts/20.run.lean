section EVF
variable (tl : List FieldType) (oc : Nat → Nat) (df : Nat → List Value) (mt : Nat → ev_M) (tb : Nat → Nat → Option ev_I)
/-- the same as a function -/
def ev_FL (C : Nat → List Value → Nat → ev_T → Option (Option Value × ev_S)) (k : Nat) : Nat → Nat → ev_L → List Value → ev_S → Option (Option Value × ev_S)
  | 0, _, _, _, _ => none
  | n + 1, pc, lv, st, σ => match tb k pc with
    | none => none
    | some e => match ev_xl e.1 e.2.1 pc (mt k).2.2.2.1 lv st with
      | some (pc1, lv1, st1) => ev_FL C k n pc1 lv1 st1 σ
      | none => match ev_xc e.1 e.2.1 pc st with
        | some (pc1, st1) => ev_FL C k n pc1 lv st1 σ
        | none => match ev_xh tl oc df e.1 e.2.1 e.2.2.1 e.2.2.2.1 e.2.2.2.2.1 e.2.2.2.2.2 pc st σ with
          | some (pc1, st1, σ1) => ev_FL C k n pc1 lv st1 σ1
          | none => match ev_xm e.1 e.2.1 e.2.2.2.2.1 st with
            | some st1 => ev_FL C k n (pc + 3) lv st1 σ
            | none => match ev_rt (mt k).2.2.2.2.1 e.1 e.2.1 st with
              | some r => some (r, σ)
              | none => match ev_cl e.1 e.2.1 e.2.2.2.1 e.2.2.2.2.1 e.2.2.2.2.2 σ.2.1 st with
                | some (as, rest) => match C e.2.2.1 as σ.1 σ.2.1 with
                  | some (v, τ) => ev_FL C k n (pc + 3) lv (v.toList ++ rest) (τ.1, τ.2.1, σ.2.2.1 + τ.2.2.1, σ.2.2.2 + τ.2.2.2)
                  | none => none
                | none => none
def ev_F (X : Nat → List Value → Nat → ev_T → Option (Option Value × ev_S)) (N : Nat) : Nat → Nat → List Value → Nat → ev_T → Option (Option Value × ev_S)
  | 0, _, _, _, _ => none
  | d + 1, k, as, sz, t => match X k as sz t with
    | some x => some x
    | none => bif Nat.ble (lg_sl as).length (mt k).2.2.2.1 then ev_FL tl oc df mt tb (ev_F X N d) k N 0 (lv_args 0 as) [] (sz, t, 0, 0) else none
end EVF
def ev_X0 : Nat → List Value → Nat → ev_T → Option (Option Value × ev_S) := fun _ _ _ _ => none
