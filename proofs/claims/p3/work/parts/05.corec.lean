abbrev ev_I : Type := Instr × Nat × Nat × Nat × Nat × Int
/-- a method: name, class, bytes, locals, result, words -/
abbrev ev_M : Type := MethodName × String × ByteArray × Nat × Option FieldType × List Cond
def ev_tk : Nat → List Value → List Value → Option (List Value × List Value)
  | 0, acc, st => some (acc, st)
  | n + 1, acc, v :: st => ev_tk n (v :: acc) st
  | _ + 1, _, [] => none
theorem ev_tk_ok : ∀ {n : Nat} {acc st as rest : List Value}, ev_tk n acc st = some (as, rest) → ∃ pre : List Value, st = pre ++ rest ∧ as = pre.reverse ++ acc ∧ pre.length = n
  | 0, acc, st, as, rest, h => by
    cases h
    exact ⟨[], rfl, rfl, rfl⟩
  | n + 1, acc, [], as, rest, h => by cases h
  | n + 1, acc, v :: st, as, rest, h => by
    obtain ⟨pre, h1, h2, h3⟩ := ev_tk_ok (n := n) h
    exact ⟨v :: pre, by rw [h1]; rfl, by rw [h2]; simp, by simp [h3]⟩
theorem ev_cat_ok (B : ev_B) : ∀ (st : List Value), ((st.map (ev_v B)).map fun v => v.category).sum = ev_cat st
  | [] => rfl
  | v :: r => by
    rw [List.map_cons, List.map_cons, List.sum_cons, ev_cat_ok B r, ev_v_cat]
    rfl
theorem ev_args_B (B : ev_B) : ∀ (i : Nat) (vs : List Value), lv_args i (vs.map (ev_v B)) = ev_lB B (lv_args i vs)
  | i, [] => rfl
  | i, v :: vs => by
    show (i, ev_v B v) :: lv_args (if (ev_v B v).category = 2 then i + 2 else i + 1) (vs.map (ev_v B)) = (i, ev_v B v) :: ev_lB B (lv_args (if v.category = 2 then i + 2 else i + 1) vs)
    rw [ev_v_cat, ev_args_B]
/-- how a result is handed back: none: not so -/
def ev_rt (ret : Option FieldType) (i : Instr) (len : Nat) (st : List Value) : Option (Option Value) := match i, st, ret with
  | .ireturn, [.int v], some .int => ev_if (Nat.beq len 1) (some (some (.int v)))
  | .ireturn, [.float v], some .int => ev_if (Nat.beq len 1) (some (some (.float v)))
  | .ireturn, [.int v], some .boolean => ev_if (Nat.beq len 1 && (decide (v = 0) || decide (v = 1))) (some (some (.int v)))
  | .lreturn, [.long v], some .long => ev_if (Nat.beq len 1) (some (some (.long v)))
  | .areturn, [.ref a], some (.object _) => ev_if (Nat.beq len 1) (some (some (.ref a)))
  | .areturn, [.null], some (.object _) => ev_if (Nat.beq len 1) (some (some .null))
  | .areturn, [.ref a], some (.array _) => ev_if (Nat.beq len 1) (some (some (.ref a)))
  | .areturn, [.null], some (.array _) => ev_if (Nat.beq len 1) (some (some .null))
  | .areturn, [.retAddr a], some (.object _) => ev_if (Nat.beq len 1) (some (some (.retAddr a)))
  | .areturn, [.retAddr a], some (.array _) => ev_if (Nat.beq len 1) (some (some (.retAddr a)))
  | .return_, [], none => ev_if (Nat.beq len 1) (some none)
  | _, _, _ => none
/-- a call: its parameters, with the object ahead, and what stays on the stack; its object is of class k -/
def ev_cl (i : Instr) (len b tg : Nat) (k : Int) (t : ev_T) (st : List Value) : Option (List Value × List Value) := match i with
  | .invokestatic _ => ev_if (Nat.beq len 3 && Nat.beq (tg % 4) 1) (match ev_tk b [] st with
    | some (as, rest) => ev_if (Nat.ble (ev_cat rest) 8) (some (as, rest))
    | none => none)
  | .invokevirtual _ => ev_if (Nat.beq len 3 && Nat.beq (tg % 4) 0) (match ev_tk b [] st with
    | some (as, .ref q :: rest) => match ev_g t q with
      | some (.inr (ci, _)) => ev_if (Nat.ble (ev_cat rest) 8 && Nat.beq ci k.toNat) (some (.ref q :: as, rest))
      | _ => none
    | _ => none)
  | .invokespecial _ => ev_if (Nat.beq len 3 && Nat.beq (tg % 4) 2) (match ev_tk b [] st with
    | some (as, .ref q :: rest) => ev_if (Nat.ble (ev_cat rest) 8) (some (.ref q :: as, rest))
    | _ => none)
  | _ => none
/-- what needs no table of its own: Object's constructor (tg 3), Math.min of ints (tg 11), of longs (tg 15); of a text: length (tg 19), charAt (tg 23), indexOf (tg 27) -/
def ev_xm (i : Instr) (len tg : Nat) (st : List Value) : Option (List Value) := match i with
  | .invokespecial _ => match st with
    | .ref _ :: r => ev_if (Nat.beq len 3 && (Nat.beq tg 3 && Nat.ble (ev_cat r) 8)) (some r)
    | _ => none
  | .invokestatic _ => match st with
    | .int y :: .int x :: r => bif Nat.beq tg 31 then ev_if (Nat.beq len 3 && Nat.ble (ev_cat r) 8) (some (.int (if x < y then y else x) :: r)) else ev_if (Nat.beq len 3 && (Nat.beq tg 11 && Nat.ble (ev_cat r) 8)) (some (.int (if y < x then y else x) :: r))
    | .long y :: .long x :: r => ev_if (Nat.beq len 3 && (Nat.beq tg 15 && Nat.ble (ev_cat r) 8)) (some (.long (if y < x then y else x) :: r))
    | _ => none
  | .invokevirtual _ => match st with
    | .retAddr z :: r => ev_if (Nat.beq len 3 && (Nat.beq tg 19 && ((Nat.beq z 0 || Nat.beq z 2) && Nat.ble (ev_cat r) 8))) (some (.int 345 :: r))
    | .int x :: .retAddr z :: r => bif Nat.beq z 0 || Nat.beq z 2 then ev_if (Nat.beq len 3 && (Nat.beq tg 23 && (Nat.ble (ev_cat r) 8 && (decide (nI x.toNatClampNeg = x) && Nat.ble (x.toNatClampNeg + 1) 345)))) (some (.int (nI (kwB x.toNatClampNeg)) :: r))
      else ev_if (Nat.beq len 3 && (Nat.beq tg 27 && (Nat.beq z 1 && (Nat.ble (ev_cat r) 8 && (decide (nI x.toNatClampNeg = x) && Nat.ble (x.toNatClampNeg + 1) 128))))) (match sgX x.toNatClampNeg with
        | some j => some (.int (nI j) :: r)
        | none => none)
    | _ => none
  | _ => none
/-- what the table must know of a call -/
def ev_ck (cl : List vw_C) (nl : List (String × Nat × MethodName × String)) (mt : Nat → ev_M) (own : String) (ws : List Cond) (i : Instr) (a b tg : Nat) (k : Int) : Prop := match i with
  | .invokevirtual ix => (tg % 4 = 0 → (mt a).1.cls ≠ "java/lang/invoke/MethodHandle" ∧ (mt a).1.cls ≠ "java/lang/invoke/VarHandle" ∧ (parseMethodDescriptor (mt a).1.desc).map (fun d => d.parameters.length) = some b) ∧ (tg % 4 = 0 → ∃ r : vw_C, cl[k.toNat]? = some r ∧ r.1 = (mt a).1.cls) ∧
      (tg % 4 = 0 → GoodIn ws (wsV own ix (mt a).1.cls (mt a).1 (mt a).2.2.2.2.2)) ∧
      (tg = 19 → GoodIn ws (wsV own ix RJ0 yJ0_length_8abf5 ws_cj_length)) ∧ (tg = 23 → GoodIn ws (wsV own ix RJ0 yJ0_charAt_5068e ws_cj_charAt)) ∧ (tg = 27 → GoodIn ws (wsV own ix RJ0 yJ0_indexOf_0f7a4 ws_cj_ix1))
  | .invokestatic ix => (tg % 4 = 1 → (mt a).1.cls ≠ "java/lang/invoke/MethodHandle" ∧ (mt a).1.cls ≠ "java/lang/invoke/VarHandle" ∧ (parseMethodDescriptor (mt a).1.desc).map (fun d => d.parameters.length) = some b) ∧
      (tg % 4 = 1 → (tg = 1 ∧ (mt a).1.cls = own ∧ GoodIn ws (wsS own ix (mt a).1 (mt a).2.2.2.2.2)) ∨ (tg = 5 ∧ GoodIn ws (va_wsS own ix (mt a).1 (mt a).2.2.2.2.2)) ∨ (tg = 9 ∧ GoodIn ws (mt a).2.2.2.2.2 ∧ Cond.initialized (mt a).1.cls ∈ ws ∧ Cond.static (mt a).1 ∈ ws ∧ ∃ h : String, (own, ix, (mt a).1, h) ∈ nl)) ∧
      (tg = 11 → Cond.methodLink own ix Lib.Math.min.name ∈ ws ∧ Cond.static Lib.Math.min.name ∈ ws ∧ Cond.initialized "java/lang/Math" ∈ ws ∧ Cond.code Lib.Math.min.name Lib.Math.min.code 2 (some .int) ∈ ws) ∧
      (tg % 4 = 1 → ∃ ws', (mt a).2.2.2.2.2 = .code (mt a).1 (mt a).2.2.1 (mt a).2.2.2.1 (mt a).2.2.2.2.1 :: ws') ∧
      (tg = 15 → Cond.methodLink own ix Lib.MathLoose.min_long.x ∈ ws ∧ Cond.static Lib.MathLoose.min_long.x ∈ ws ∧ Cond.initialized "java/lang/Math" ∈ ws ∧ Cond.code Lib.MathLoose.min_long.x Lib.MathLoose.min_long.code 4 (some .long) ∈ ws) ∧
      (tg = 31 → Cond.methodLink own ix Lib.Math.max.name ∈ ws ∧ Cond.static Lib.Math.max.name ∈ ws ∧ Cond.initialized "java/lang/Math" ∈ ws ∧ Cond.code Lib.Math.max.name Lib.Math.max.code 2 (some .int) ∈ ws)
  | .invokespecial ix => (tg % 4 = 2 → (mt a).1.cls ≠ "java/lang/invoke/MethodHandle" ∧ (mt a).1.cls ≠ "java/lang/invoke/VarHandle" ∧ (parseMethodDescriptor (mt a).1.desc).map (fun d => d.parameters.length) = some b) ∧
      (tg % 4 = 2 → (mt a).1.name = "<init>" ∧ (mt a).2.2.2.2.1 = none ∧ GoodIn ws (mt a).2.2.2.2.2 ∧ Cond.initialized (mt a).1.cls ∈ ws ∧ Cond.instanceMethod (mt a).1 ∈ ws ∧ ((tg = 2 ∧ Cond.methodLink own ix (mt a).1 ∈ ws) ∨ (tg = 6 ∧ ∃ h : String, (own, ix, (mt a).1, h) ∈ nl))) ∧
      (tg % 4 = 2 → ∃ ws', (mt a).2.2.2.2.2 = .code (mt a).1 (mt a).2.2.1 (mt a).2.2.2.1 (mt a).2.2.2.2.1 :: ws') ∧
      (tg = 3 → Cond.methodLink own ix Lib.objectInit ∈ ws ∧ Cond.instanceMethod Lib.objectInit ∈ ws ∧ Cond.code Lib.objectInit ⟨#[0xb1]⟩ 1 none ∈ ws)
  | _ => True
/-- returned (what), or thrown (an object of a class, by its number) -/
abbrev ev_O : Type := Option Value ⊕ Nat
/-- a handler: from, to, where it is, its class' place in the pool -/
abbrev ev_H : Type := Nat × Nat × Nat × Nat
section EVD
variable (tl : List FieldType) (oc : Nat → Nat) (df : Nat → List Value) (mt : Nat → ev_M) (tb : Nat → Nat → Option ev_I) (hd : Nat → Option ev_H)
/-- the rest of a method's run, over what its callees do -/
def ev_Lp (C : Nat → List Value → Nat → ev_T → ev_O → ev_S → Prop) (k : Nat) : Nat → Nat → ev_L → List Value → ev_S → ev_O → ev_S → Prop
  | 0, _, _, _, _, _, _ => False
  | n + 1, pc, lv, st, σ, r, σ' => match tb k pc with
    | none => False
    | some e =>
      (∃ pc1 st1, ev_xc e.1 e.2.1 pc st = some (pc1, st1) ∧ ev_Lp C k n pc1 lv st1 σ r σ') ∨
      (∃ pc1 lv1 st1, ev_xl e.1 e.2.1 pc (mt k).2.2.2.1 lv st = some (pc1, lv1, st1) ∧ ev_Lp C k n pc1 lv1 st1 σ r σ') ∨
      (∃ pc1 st1 σ1, ev_xh tl oc df e.1 e.2.1 e.2.2.1 e.2.2.2.1 e.2.2.2.2.1 e.2.2.2.2.2 pc st σ = some (pc1, st1, σ1) ∧ ev_Lp C k n pc1 lv st1 σ1 r σ') ∨
      (∃ st1, ev_xm e.1 e.2.1 e.2.2.2.2.1 st = some st1 ∧ ev_Lp C k n (pc + 3) lv st1 σ r σ') ∨
      (∃ v, ev_rt (mt k).2.2.2.2.1 e.1 e.2.1 st = some v ∧ r = .inl v ∧ σ' = σ) ∨
      (∃ as rest v τ, ev_cl e.1 e.2.1 e.2.2.2.1 e.2.2.2.2.1 e.2.2.2.2.2 σ.2.1 st = some (as, rest) ∧ C e.2.2.1 as σ.1 σ.2.1 (.inl v) τ ∧ ev_Lp C k n (pc + 3) lv (v.toList ++ rest) (τ.1, τ.2.1, σ.2.2.1 + τ.2.2.1, σ.2.2.2 + τ.2.2.2) r σ') ∨
      (∃ as rest ci τ ix, e.1 = .invokevirtual ix ∧ ev_cl e.1 e.2.1 e.2.2.2.1 e.2.2.2.2.1 e.2.2.2.2.2 σ.2.1 st = some (as, rest) ∧ C e.2.2.1 as σ.1 σ.2.1 (.inr ci) τ ∧ hd k = none ∧ r = .inr ci ∧ σ' = (τ.1, τ.2.1, σ.2.2.1 + τ.2.2.1, σ.2.2.2 + τ.2.2.2)) ∨
      (∃ q rest ci fs, e.1 = .athrow ∧ e.2.1 = 1 ∧ st = .ref q :: rest ∧ ev_g σ.2.1 q = some (.inr (ci, fs)) ∧ hd k = none ∧ r = .inr ci ∧ σ' = σ) ∨
      (∃ as rest τ ix x i e2, e.1 = .invokevirtual ix ∧ ev_cl e.1 e.2.1 e.2.2.2.1 e.2.2.2.2.1 e.2.2.2.2.2 σ.2.1 st = some (as, rest) ∧ C e.2.2.1 as σ.1 σ.2.1 (.inr 12) τ ∧ hd k = some x ∧ x.1 ≤ pc ∧ pc < x.2.1 ∧ tb k x.2.2.1 = some e2 ∧ e2.1 = .astore_n i ∧ e2.2.1 = 1 ∧ (i : Nat) < (mt k).2.2.2.1 ∧
        ev_Lp C k n (x.2.2.1 + 1) (lv.filter (fun q => !(q.1 == (i : Nat)) && !(q.1 + 1 == (i : Nat) && q.2.category == 2))) [] (τ.1, τ.2.1, σ.2.2.1 + τ.2.2.1, σ.2.2.2 + τ.2.2.2) r σ')
/-- what a call does, within d calls in one another; X: what is known of some methods otherwise -/
def ev_C (X : Nat → Nat → List Value → Nat → ev_T → ev_O → ev_S → Prop) : Nat → Nat → List Value → Nat → ev_T → ev_O → ev_S → Prop
  | 0, _, _, _, _, _, _ => False
  | d + 1, k, as, sz, t, r, σ' => X (d + 1) k as sz t r σ' ∨ (Nat.ble (lg_sl as).length (mt k).2.2.2.1 = true ∧ ∃ n, ev_Lp tl oc df mt tb hd (ev_C X d) k n 0 (lv_args 0 as) [] (sz, t, 0, 0) r σ')
end EVD
