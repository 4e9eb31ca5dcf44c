def ev_nth {α : Type} : List α → Nat → Option α
  | [], _ => none
  | x :: _, 0 => some x
  | _ :: r, n + 1 => ev_nth r n
theorem ev_nth_eq {α : Type} : ∀ (l : List α) (n : Nat), ev_nth l n = l[n]?
  | [], n => by simp [ev_nth]
  | x :: r, 0 => rfl
  | x :: r, n + 1 => by simpa [ev_nth] using ev_nth_eq r n
def ev_ix (i : Int32) (n : Nat) : Bool := !decide (i < 0) && Nat.ble (i.toNatClampNeg + 1) n
theorem ev_ix_ok {i : Int32} {n : Nat} (h : ev_ix i n = true) : vp_in i n := by
  unfold ev_ix at h
  rw [Bool.and_eq_true] at h
  have h1 : ¬ i < 0 := by simpa using h.1
  have h2 := Nat.le_of_ble_eq_true h.2
  intro q
  rcases q with q | q
  · exact h1 q
  · omega
/-- what a field of a kind takes: 0 int, 1 boolean, 2 a reference, 3 long -/
def ev_fit (tg : Nat) (v : Value) : Bool := match tg, v with
  | 0, .int _ => true
  | 0, .float _ => true
  | 1, .int x => decide (x = 0) || decide (x = 1)
  | 2, .ref _ => true
  | 2, .null => true
  | 2, .retAddr _ => true
  | 3, .long _ => true
  | _, _ => false
def ev_tyt (tg : Nat) (ty : FieldType) : Prop := (tg = 0 ∧ ty = .int) ∨ (tg = 1 ∧ ty = .boolean) ∨ (tg = 2 ∧ ((∃ n, ty = .object n) ∨ ∃ t, ty = .array t)) ∨ (tg = 3 ∧ ty = .long)
theorem ev_fit_rO (B : ev_B) (i : Nat) {n : String} : narrow (.object n) (ev_v B (.retAddr i)) = ev_v B (.retAddr i) ∧ fits (.object n) (ev_v B (.retAddr i)) = true := by
  rw [show ev_v B (.retAddr i) = va_rf (B.2.2 i) from rfl]
  cases B.2.2 i <;> exact ⟨rfl, rfl⟩
theorem ev_fit_rA (B : ev_B) (i : Nat) {t : FieldType} : narrow (.array t) (ev_v B (.retAddr i)) = ev_v B (.retAddr i) ∧ fits (.array t) (ev_v B (.retAddr i)) = true := by
  rw [show ev_v B (.retAddr i) = va_rf (B.2.2 i) from rfl]
  cases B.2.2 i <;> exact ⟨rfl, rfl⟩
theorem ev_fit_ok {tg : Nat} {v : Value} {ty : FieldType} (B : ev_B) (h : ev_fit tg v = true) (ht : ev_tyt tg ty) : narrow ty (ev_v B v) = ev_v B v ∧ fits ty (ev_v B v) = true := by
  rcases ht with ⟨rfl, rfl⟩ | ⟨rfl, rfl⟩ | ⟨rfl, ht⟩ | ⟨rfl, rfl⟩
  · cases v <;> first | exact ⟨rfl, rfl⟩ | cases h
  · cases v with
    | int x =>
      simp only [ev_fit, Bool.or_eq_true, decide_eq_true_eq] at h
      rcases h with rfl | rfl <;> exact ⟨rfl, rfl⟩
    | _ => cases h
  · rcases ht with ⟨n, rfl⟩ | ⟨t, rfl⟩
    · cases v <;> first | exact ⟨rfl, rfl⟩ | exact ev_fit_rO B _ | cases h
    · cases v <;> first | exact ⟨rfl, rfl⟩ | exact ev_fit_rA B _ | cases h
  · cases v <;> first | exact ⟨rfl, rfl⟩ | cases h
def ev_cat : List Value → Nat
  | [] => 0
  | v :: r => v.category + ev_cat r
/-- instructions on the heap; a, b, tg, k: what the table says of the instruction -/
def ev_xh (tl : List FieldType) (oc : Nat → Nat) (df : Nat → List Value) (i : Instr) (len a b tg : Nat) (k : Int) (pc : Nat) (st : List Value) (σ : ev_S) : Option (Nat × List Value × ev_S) := match i with
  | .getfield _ => match st with
    | .ref q :: r => match ev_g σ.2.1 q with
      | some (.inr (ci, fs)) => match ev_nth fs b with
        | some v => ev_if (Nat.beq len 3 && Nat.beq ci a) (some (pc + 3, v :: r, σ))
        | none => none
      | _ => none
    | _ => none
  | .putfield _ => match st with
    | v :: .ref q :: r => match ev_g σ.2.1 q with
      | some (.inr (ci, fs)) => ev_if ((Nat.beq len 3 && Nat.beq ci a) && (ev_fit tg v && (Nat.ble (b + 1) fs.length && Nat.ble (q + 1) 1048576))) (some (pc + 3, r, (σ.1, ev_p σ.2.1 q (.inr (ci, fs.set b v)), σ.2.2)))
      | _ => none
    | _ => none
  | .arraylength => match st with
    | .ref q :: r => match ev_g σ.2.1 q with
      | some (.inl (j, n, _)) => ev_if (Nat.beq len 1 && Nat.ble (j + 1) tl.length) (some (pc + 1, .int (Int32.ofNat n) :: r, σ))
      | _ => none
    | .retAddr z :: r => ev_if (Nat.beq len 1 && Nat.beq z 3) (some (pc + 1, .int 13 :: r, σ))
    | _ => none
  | .iaload => match st with
    | .int x :: .ref q :: r => match ev_g σ.2.1 q with
      | some (.inl (j, n, .inl f)) => ev_if ((Nat.beq len 1 && Nat.beq j 0) && ev_ix x n) (some (pc + 1, .int (f x.toNatClampNeg) :: r, σ))
      | some (.inl (j, n, .inr (.inl f))) => ev_if ((Nat.beq len 1 && Nat.beq j 0) && ev_ix x n) (some (pc + 1, ev_un (f x.toNatClampNeg) :: r, σ))
      | _ => none
    | .int x :: .retAddr z :: r => ev_if ((Nat.beq len 1 && Nat.beq z 3) && ev_ix x 13) (some (pc + 1, .int (kdB x.toNatClampNeg) :: r, σ))
    | _ => none
  | .baload => match st with
    | .int x :: .ref q :: r => match ev_g σ.2.1 q with
      | some (.inl (j, n, .inl f)) => bif Nat.beq j 6 then ev_if (Nat.beq len 1 && ev_ix x n) (some (pc + 1, .int (f x.toNatClampNeg) :: r, σ)) else ev_if ((Nat.beq len 1 && Nat.beq j 1) && ev_ix x n) (some (pc + 1, .int (f x.toNatClampNeg) :: r, σ))
      | _ => none
    | _ => none
  | .aaload => match st with
    | .int x :: .ref q :: r => match ev_g σ.2.1 q with
      | some (.inl (j, n, .inr (.inr (.inr (.inr f))))) => match ev_nth tl j with
        | some (.object _) => ev_if (Nat.beq len 1 && ev_ix x n) (some (pc + 1, va_rf (f x.toNatClampNeg) :: r, σ))
        | _ => none
      | _ => none
    | _ => none
  | .iastore => match st with
    | .int y :: .int x :: .ref q :: r => match ev_g σ.2.1 q with
      | some (.inl (j, n, .inl f)) => ev_if ((Nat.beq len 1 && Nat.beq j 0) && (ev_ix x n && Nat.ble (q + 1) 1048576)) (some (pc + 1, r, (σ.1, ev_p σ.2.1 q (.inl (j, n, .inl (upd f x.toNatClampNeg y))), σ.2.2)))
      | some (.inl (j, n, .inr (.inl f))) => ev_if ((Nat.beq len 1 && Nat.beq j 0) && (ev_ix x n && Nat.ble (q + 1) 1048576)) (some (pc + 1, r, (σ.1, ev_p σ.2.1 q (.inl (j, n, .inr (.inl (fun w => bif Nat.beq w x.toNatClampNeg then ev_tg1 (.int y) else f w)))), σ.2.2)))
      | _ => none
    | .float y :: .int x :: .ref q :: r => match ev_g σ.2.1 q with
      | some (.inl (j, n, .inl f)) => ev_if ((Nat.beq len 1 && Nat.beq j 0) && (ev_ix x n && Nat.ble (q + 1) 1048576)) (some (pc + 1, r, (σ.1, ev_p σ.2.1 q (.inl (j, n, .inr (.inl (fun w => bif Nat.beq w x.toNatClampNeg then ev_tg1 (.float y) else (f w).toInt64)))), σ.2.2)))
      | some (.inl (j, n, .inr (.inl f))) => ev_if ((Nat.beq len 1 && Nat.beq j 0) && (ev_ix x n && Nat.ble (q + 1) 1048576)) (some (pc + 1, r, (σ.1, ev_p σ.2.1 q (.inl (j, n, .inr (.inl (fun w => bif Nat.beq w x.toNatClampNeg then ev_tg1 (.float y) else f w)))), σ.2.2)))
      | _ => none
    | _ => none
  | .bastore => match st with
    | .int y :: .int x :: .ref q :: r => match ev_g σ.2.1 q with
      | some (.inl (j, n, .inl f)) => bif Nat.beq j 6 then ev_if ((Nat.beq len 1 && (decide (y = 0) || decide (y = 1))) && (ev_ix x n && Nat.ble (q + 1) 1048576)) (some (pc + 1, r, (σ.1, ev_p σ.2.1 q (.inl (j, n, .inl (upd f x.toNatClampNeg y))), σ.2.2))) else ev_if ((Nat.beq len 1 && Nat.beq j 1) && (ev_ix x n && Nat.ble (q + 1) 1048576)) (some (pc + 1, r, (σ.1, ev_p σ.2.1 q (.inl (j, n, .inl (upd f x.toNatClampNeg y.toInt8.toInt32))), σ.2.2)))
      | _ => none
    | _ => none
  | .aastore => match st with
    | .ref y :: .int x :: .ref q :: r => match ev_g σ.2.1 q with
      | some (.inl (j, n, .inr (.inr (.inr (.inr f))))) => match ev_g σ.2.1 y with
        | some (.inr (ci, _)) => ev_if (((Nat.beq len 1 && Nat.beq ci (oc j)) && (Nat.ble 2 j && Nat.ble (j + 1) tl.length)) && (ev_ix x n && Nat.ble (q + 1) 1048576)) (some (pc + 1, r, (σ.1, ev_p σ.2.1 q (.inl (j, n, .inr (.inr (.inr (.inr (va_up f x.toNatClampNeg (some y))))))), σ.2.2)))
        | _ => none
      | _ => none
    | _ => none
  | .new _ => ev_if (Nat.beq len 3 && Nat.ble (σ.1 + 1) 1048576) (some (pc + 3, .ref σ.1 :: st, (σ.1 + 1, ev_p σ.2.1 σ.1 (.inr (a, df a)), σ.2.2.1 + 1, σ.2.2.2 + b)))
  | .newarray ty => match st with
    | .int n :: r => match ty with
      | .int => ev_if ((Nat.beq len 2 && !decide (n < 0)) && (Nat.ble (n.toNatClampNeg * 4) 536870912 && Nat.ble (σ.1 + 1) 1048576)) (some (pc + 2, .ref σ.1 :: r, (σ.1 + 1, ev_p σ.2.1 σ.1 (.inl (0, n.toNatClampNeg, .inl (fun _ => 0))), σ.2.2.1 + 1, σ.2.2.2 + n.toNatClampNeg)))
      | .byte => ev_if ((Nat.beq len 2 && !decide (n < 0)) && (Nat.ble (n.toNatClampNeg * 1) 536870912 && Nat.ble (σ.1 + 1) 1048576)) (some (pc + 2, .ref σ.1 :: r, (σ.1 + 1, ev_p σ.2.1 σ.1 (.inl (1, n.toNatClampNeg, .inl (fun _ => 0))), σ.2.2.1 + 1, σ.2.2.2 + n.toNatClampNeg)))
      | .boolean => ev_if ((Nat.beq len 2 && !decide (n < 0)) && (Nat.ble (n.toNatClampNeg * 1) 536870912 && Nat.ble (σ.1 + 1) 1048576)) (some (pc + 2, .ref σ.1 :: r, (σ.1 + 1, ev_p σ.2.1 σ.1 (.inl (6, n.toNatClampNeg, .inl (fun _ => 0))), σ.2.2.1 + 1, σ.2.2.2 + n.toNatClampNeg)))
      | _ => none
    | _ => none
  | .anewarray _ => match st with
    | .int n :: r => ev_if ((Nat.beq len 3 && !decide (n < 0)) && (Nat.ble (n.toNatClampNeg * 4) 536870912 && Nat.ble (σ.1 + 1) 1048576)) (some (pc + 3, .ref σ.1 :: r, (σ.1 + 1, ev_p σ.2.1 σ.1 (.inl (a, n.toNatClampNeg, .inr (.inr (.inr (.inr (fun _ => none)))))), σ.2.2.1 + 1, σ.2.2.2 + n.toNatClampNeg)))
    | _ => none
  | .ldc _ => ev_if (Nat.beq len 2) (some (pc + 2, (bif Nat.beq tg 0 then .int (Int32.ofInt k) else .retAddr a) :: st, σ))
  | .ldc2_w _ => ev_if (Nat.beq len 3) (some (pc + 3, .long (Int64.ofInt k) :: st, σ))
  | .ldc_w _ => ev_if (Nat.beq len 3) (some (pc + 3, (bif Nat.beq tg 0 then .int (Int32.ofInt k) else .retAddr 2) :: st, σ))
  | .getstatic _ => ev_if (Nat.beq len 3 && Nat.beq tg 1) (some (pc + 3, .retAddr 3 :: st, σ))
  | .invokestatic _ => match st with
    | .int n :: .int dp :: .ref q1 :: .int sp :: .ref q0 :: r => match ev_g σ.2.1 q0 with
      | some (.inl (j0, n0, .inl f)) => match ev_g σ.2.1 q1 with
        | some (.inl (j1, n1, .inl g)) => ev_if (((Nat.beq len 3 && Nat.beq tg 34) && (Nat.beq j0 0 && Nat.beq j1 0)) && ((!decide (sp < 0) && (!decide (dp < 0) && !decide (n < 0))) && ((Nat.ble (sp.toNatClampNeg + n.toNatClampNeg) n0 && Nat.ble (dp.toNatClampNeg + n.toNatClampNeg) n1) && (Nat.ble (q1 + 1) 1048576 && Nat.ble (ev_cat r) 8)))) (some (pc + 3, r, (σ.1, ev_p σ.2.1 q1 (.inl (0, n1, .inl (va_cpy f g sp.toNatClampNeg dp.toNatClampNeg n.toNatClampNeg))), σ.2.2)))
        | _ => none
      | _ => none
    | _ => none
  | _ => none
/-- what the table must know of an instruction on the heap -/
def ev_hk (cl : List vw_C) (tl : List FieldType) (ol : List String) (df : Nat → List Value) (own yn : String) (ws : List Cond) (i : Instr) (a b tg : Nat) (k : Int) : Prop := match i with
  | .getfield ix => ∃ (C : String) (T : u_T) (N : Nat), cl[a]? = some (C, T, N) ∧ b < N ∧ (T b).1 = C ∧ Cond.fieldLink own ix C (T b).2.1 (T b).2.2.1 ∈ ws ∧ ∀ w ∈ u_ws C T N, w ∈ ws
  | .putfield ix => ∃ (C : String) (T : u_T) (N : Nat) (ty0 : Nat → FieldType) (ty : FieldType), cl[a]? = some (C, T, N) ∧ b < N ∧ (T b).1 = C ∧ Cond.fieldLink own ix C (T b).2.1 (T b).2.2.1 ∈ ws ∧ (∀ w ∈ u_ws C T N, w ∈ ws) ∧ (∀ k, k < N → parseFieldDescriptor (T k).2.2.1 = some (ty0 k)) ∧ (∀ a, a < N → ∀ b, b < N → a ≠ b → (T a).2.1 ≠ (T b).2.1) ∧ parseFieldDescriptor (T b).2.2.1 = some ty ∧ ev_tyt tg ty ∧ ((T b).2.2.2 = false ∨ ((T b).2.2.2 = true ∧ C = own ∧ yn = "<init>"))
  | .new ix => ∃ (C : String) (T : u_T) (ty : Nat → FieldType), cl[a]? = some (C, T, b) ∧ Cond.classLink own ix C ∈ ws ∧ Cond.instantiable C b ∈ ws ∧ Cond.initialized C ∈ ws ∧ (∀ w ∈ u_ws C T b, w ∈ ws) ∧ (∀ k, k < b → parseFieldDescriptor (T k).2.2.1 = some (ty k)) ∧ ∀ j, j < b → defaultValue (ty j) = vp_V (df a) j
  | .newarray ty => (ty = .int ∧ Cond.arrayClass .int ∈ ws) ∨ (ty = .byte ∧ Cond.arrayClass .byte ∈ ws) ∨ (ty = .boolean ∧ Cond.arrayClass .boolean ∈ ws)
  | .anewarray ix => ∃ C : String, tl[a]? = some (.object C) ∧ C ∈ ol ∧ Cond.classLink own ix C ∈ ws
  | .ldc ix => (tg = 0 → Cond.constant own ix (Int32.ofInt k) ∈ ws) ∧ (¬ tg = 0 → own = "LevelUnits$Scanner" ∧ ((a = 0 ∧ ix = 106) ∨ (a = 1 ∧ ix = 131)))
  | .ldc2_w ix => Cond.constantLong own ix (Int64.ofInt k) ∈ ws
  | .ldc_w ix => (tg = 0 → Cond.constant own ix (Int32.ofInt k) ∈ ws) ∧ (¬ tg = 0 → own = "LevelUnitsModel" ∧ ix = 282)
  | .getstatic ix => own = "LevelUnitsModel" ∧ Cond.fieldLink own ix "LevelUnitsModel" "KINDS" "[I" ∈ ws
  | .invokestatic ix => tg = 34 → Cond.methodLink own ix arraycopyName ∈ ws ∧ Cond.native arraycopyName ∈ ws ∧ Cond.static arraycopyName ∈ ws ∧ Cond.initialized "java/lang/System" ∈ ws
  | _ => True
/-- what holds of the machine all along -/
def ev_N (D : va_G) (cl : List vw_C) (dA : Nat → ClassId) (tl : List FieldType) (ol : List String) (nl : List (String × Nat × MethodName × String)) (U : State) : Prop := va_K D cl (ev_ty dA 0 tl) U ∧ (∀ C ∈ ol, va_AO C U) ∧ (∀ q ∈ nl, va_Nw (.methodLinkNest q.1 q.2.1 q.2.2.1 q.2.2.2) U) ∧ va_Nw (.castable "LevelUnitsModel$Stop" "LevelUnitsModel$Stop") U
section EVX
variable {p : Program} {l : Launch} {e : Env} {R : Room} {s : State} {m : MethodId} {args : Array Value} {below : List Frame} {meth : Method} {c : Code} {H : Heap} {locs : List Loc} {cells slots : Nat} {Q : State → Prop}
variable {cc : ByteArray} {pc : Nat} {ls : Array Slot} {D : va_G} {cl : List vw_C} {dA : Nat → ClassId} {tl : List FieldType} {ol : List String} {nl : List (String × Nat × MethodName × String)} {oc : Nat → Nat} {df : Nat → List Value}
def ev_nf (v : Value) : Bool := match v with
  | .float _ => false
  | .retAddr _ => false
  | _ => true
theorem ev_vdf {N : Nat} {ty : Nat → FieldType} {fs : List Value} (B : ev_B) (hf : ∀ v ∈ fs, ev_nf v = true) (h : ∀ j, j < N → defaultValue (ty j) = vp_V fs j) : ∀ j, j < N → defaultValue (ty j) = vp_V (fs.map (ev_v B)) j := by
  intro j hj
  rw [h j hj]
  have h1 := h j hj
  unfold vp_V
  rw [List.getD_eq_getElem?_getD, List.getD_eq_getElem?_getD, List.getElem?_map]
  cases hq : fs[j]? with
  | none => rfl
  | some v =>
    rw [vp_V, List.getD_eq_getElem?_getD, hq] at h1
    simp only [Option.getD_some] at h1
    simp only [Option.map_some, Option.getD_some]
    have h2 := hf v (List.mem_of_getElem? hq)
    cases hv : ty j <;> rw [hv] at h1 <;> rw [← h1] at h2 ⊢ <;> first | rfl | cases h2
theorem ev_rf (B : ev_B) (r : Option Nat) : ev_v B (va_rf r) = va_rf (r.map fun z => B.1 + z) := by cases r <;> rfl
theorem ev_upm {f : Nat → Option Nat} {B k y : Nat} : (fun j => (va_up f k (some y) j).map (fun z => B + z)) = va_up (fun j => (f j).map (fun z => B + z)) k (some (B + y)) := by
  funext j
  unfold va_up
  by_cases e : j = k
  · rw [if_pos e, if_pos e]; rfl
  · rw [if_neg e, if_neg e]
theorem ev_upi {B : ev_B} {f : Nat → Int64} {k : Nat} {v : Int64} : (fun j => ev_iv B (bif Nat.beq j k then v else f j)) = upd (fun j => ev_iv B (f j)) k (ev_iv B v) := by
  funext j
  unfold upd
  by_cases e : j = k
  · subst e
    rw [Nat.beq_refl]; simp
  · have : Nat.beq j k = false := by
      cases h : Nat.beq j k with
      | true => exact absurd (Nat.eq_of_beq_eq_true h) e
      | false => rfl
    rw [this]; simp [e]
theorem ev_upi2 {B : ev_B} {f : Nat → Int32} {k : Nat} {v : Int64} : (fun j => ev_iv B (bif Nat.beq j k then v else (f j).toInt64)) = upd f k (ev_iv B v) := by
  rw [ev_upi (f := fun j => (f j).toInt64)]
  congr 1
  funext j
  exact ev_iv_int B (f j)
theorem ev_cat_ok0 (B : ev_B) : ∀ (st : List Value), ((st.map (ev_v B)).map fun v => v.category).sum = ev_cat st
  | [] => rfl
  | v :: r => by
    rw [List.map_cons, List.map_cons, List.sum_cons, ev_cat_ok0 B r, ev_v_cat]
    rfl
theorem ev_xh_ok (hx : p.tables.exec = Jvm.exec) (hb : c.code = cc) (hml : c.maxLocals = ls.size) (hRf : 1 ≤ R.frames) (hRl : 26 ≤ R.locals) {own yn : String} {Ts : List Cond} (hts : ∀ w ∈ Ts, w.before args s = true) (hown : s.vm.findClass own = some m.cls) (hmn : meth.name = yn) (hN : ev_N D cl dA tl ol nl s)
    (hdf : ∀ a, ∀ v ∈ df a, ev_nf v = true) (htl0 : tl[0]? = some .int) (htl1 : tl[1]? = some .byte) (htl6 : tl[6]? = some .boolean) (hoc : ∀ j, 2 ≤ j → j < tl.length → cl[oc j]? = none ∨ ∃ r : vw_C, cl[oc j]? = some r ∧ tl[j]? = some (.object r.1))
    {i : Instr} {len a b tg pc' : Nat} {B : ev_B} {k : Int} {st st' : List Value} {σ σ' : ev_S} (hd : decode cc pc = .ok (i, len)) (hk : ev_hk cl tl ol df own yn Ts i a b tg k) (hI : ev_In D cl dA B s.heap H locs σ.2.1 σ.1) (hZ : ev_Z B.1 B.2.2 s) (h : ev_xh tl oc df i len a b tg k pc st σ = some (pc', st', σ')) :
    σ.2.2.1 ≤ σ'.2.2.1 ∧ σ.2.2.2 ≤ σ'.2.2.2 ∧ (σ'.2.2.1 ≤ R.cells → σ'.2.2.2 ≤ R.slots →
      (∀ (H1 : Heap) (locs1 : List Loc), ev_In D cl dA B s.heap H1 locs1 σ'.2.1 σ'.1 → W p l e R s m args below meth c H1 locs1 σ'.2.2.1 σ'.2.2.2 Q (F0 m pc' ls (st'.map (ev_v B)))) → W p l e R s m args below meth c H locs σ.2.2.1 σ.2.2.2 Q (F0 m pc ls (st.map (ev_v B)))) := by
  unfold ev_xh at h
  split at h
  · split at h <;> try cases h
    rename_i q r
    split at h <;> try cases h
    rename_i ci fs hq
    split at h <;> try cases h
    rename_i v hv
    have h1 := (ev_if_ok h).1; replace h := (ev_if_ok h).2; cases h
    rw [Bool.and_eq_true] at h1
    obtain ⟨h1, h2⟩ := h1; cases ev_beq h1; cases ev_beq h2
    obtain ⟨C, T, N, k1, k2, k3, k4, k5⟩ := hk
    rw [ev_nth_eq] at hv
    refine ⟨Nat.le_refl _, Nat.le_refl _, fun _ _ kk => ?_⟩
    exact va_get (D := D) (cl := cl) hx hb hts k5 hown hN.1 (ev_one (hI.1.2 q _ hq).2) 0 rfl k1 b k2 (hts _ k4) (by rw [k3]; exact fun _ h => h) (v := ev_v B v) (by rw [List.getElem?_map, hv]; rfl) hd (kk H locs hI)
  · split at h <;> try cases h
    rename_i v q r
    split at h <;> try cases h
    rename_i ci fs hq
    have h1 := (ev_if_ok h).1; replace h := (ev_if_ok h).2; cases h
    simp only [Bool.and_eq_true] at h1
    obtain ⟨⟨h1, h2⟩, h3, h4, h5⟩ := h1; cases ev_beq h1; cases ev_beq h2
    have h4 := Nat.le_of_ble_eq_true h4
    have h5 := Nat.le_of_ble_eq_true h5
    obtain ⟨C, T, N, ty0, ty, k1, k2, k3, k4, k5, k6, k7, k8, k9, k10⟩ := hk
    obtain ⟨f1, f2⟩ := ev_fit_ok B h3 k9
    refine ⟨Nat.le_refl _, Nat.le_refl _, fun _ _ kk => ?_⟩
    have hl : b < (fs.map (ev_v B)).length := by rw [List.length_map]; exact h4
    rcases k10 with k10 | ⟨k10, k11, k12⟩
    · refine ev_put (D := D) (cl := cl) hx hb hts k5 ty0 k6 k7 hown hN.1 (hI.1.2 q _ hq).2 k1 b k2 (hts _ k4) (by rw [k3]; exact fun _ h => h) k10 k8 f1 f2 hl hd (fun H1 j e1 e2 e3 => ?_)
      exact kk H1 _ (hI.put hq (Nat.lt_of_succ_le h5) e2 e3 (by show va_at D cl (B.1 + q, .inr (a, (fs.set b v).map (ev_v B))) H1; rw [List.map_set]; exact e1))
    · refine ev_putF (D := D) (cl := cl) hx hb hts k5 ty0 k6 k7 hown hN.1 (hI.1.2 q _ hq).2 k1 b k2 (hts _ k4) (by rw [k3]; exact fun _ h => h) k10 (hmn.trans k12) (k3.trans k11) k8 f1 f2 hl hd (fun H1 j e1 e2 e3 => ?_)
      exact kk H1 _ (hI.put hq (Nat.lt_of_succ_le h5) e2 e3 (by show va_at D cl (B.1 + q, .inr (a, (fs.set b v).map (ev_v B))) H1; rw [List.map_set]; exact e1))
  · split at h <;> try cases h
    · rename_i q r
      split at h <;> try cases h
      rename_i j n x hq
      have h1 := (ev_if_ok h).1; replace h := (ev_if_ok h).2; cases h
      rw [Bool.and_eq_true] at h1
      obtain ⟨h1, h2⟩ := h1; cases ev_beq h1
      have h2 := Nat.le_of_ble_eq_true h2
      refine ⟨Nat.le_refl _, Nat.le_refl _, fun _ _ kk => ?_⟩
      have ht := ev_ty_at dA 0 tl j _ (List.getElem?_eq_getElem h2)
      rw [Nat.zero_add] at ht
      have hP := (hI.1.2 q _ hq).2
      rcases x with f | f | f | f | f <;> exact va_alen (D := D) (cl := cl) hx hb hN.1 (ev_one hP) 0 j rfl ht rfl hd (kk H locs hI)
    · have h1 := (ev_if_ok h).1; replace h := (ev_if_ok h).2; cases h
      rw [Bool.and_eq_true] at h1
      obtain ⟨h1, h2⟩ := h1; cases ev_beq h1; cases ev_beq h2
      refine ⟨Nat.le_refl _, Nat.le_refl _, fun _ _ kk => ?_⟩
      obtain ⟨-, -, -, -, -, q, m1, m2, m3⟩ := hZ
      rw [List.map_cons, show ev_v B (.retAddr 3) = va_rf (B.2.2 3) from rfl, m1]
      exact va_tlen (A := fun a => B.1 ≤ a) hx hb m3 hI.2 rfl hd (kk H locs hI)
  · split at h <;> try cases h
    · rename_i x q r
      split at h <;> try cases h
      · rename_i j n f hq
        have h1 := (ev_if_ok h).1; replace h := (ev_if_ok h).2; cases h
        simp only [Bool.and_eq_true] at h1
        obtain ⟨⟨h1, h2⟩, h3⟩ := h1; cases ev_beq h1; cases ev_beq h2
        refine ⟨Nat.le_refl _, Nat.le_refl _, fun _ _ kk => ?_⟩
        exact va_iald (D := D) (cl := cl) hx hb hN.1 (ev_one (hI.1.2 q _ hq).2) 0 0 rfl (ev_ty_at dA 0 tl 0 _ htl0) (ev_ix_ok h3) hd (kk H locs hI)
      · rename_i j n f hq
        have h1 := (ev_if_ok h).1; replace h := (ev_if_ok h).2; cases h
        simp only [Bool.and_eq_true] at h1
        obtain ⟨⟨h1, h2⟩, h3⟩ := h1; cases ev_beq h1; cases ev_beq h2
        refine ⟨Nat.le_refl _, Nat.le_refl _, fun _ _ kk => ?_⟩
        refine va_iald (D := D) (cl := cl) (f := fun j => ev_iv B (f j)) hx hb hN.1 (ev_one (hI.1.2 q _ hq).2) 0 0 rfl (ev_ty_at dA 0 tl 0 _ htl0) (ev_ix_ok h3) hd ?_
        have := kk H locs hI
        rw [List.map_cons, ev_un_B] at this
        exact this
    · have h1 := (ev_if_ok h).1; replace h := (ev_if_ok h).2; cases h
      simp only [Bool.and_eq_true] at h1
      obtain ⟨⟨h1, h2⟩, h3⟩ := h1; cases ev_beq h1; cases ev_beq h2
      refine ⟨Nat.le_refl _, Nat.le_refl _, fun _ _ kk => ?_⟩
      obtain ⟨-, -, -, -, -, q, m1, m2, m3⟩ := hZ
      rw [List.map_cons, List.map_cons, show ev_v B (.retAddr 3) = va_rf (B.2.2 3) from rfl, m1]
      exact va_ti (A := fun a => B.1 ≤ a) hx hb m3 hI.2 (ev_ix_ok h3) rfl hd (kk H locs hI)
  · split at h <;> try cases h
    rename_i x q r
    split at h <;> try cases h
    rename_i j n f hq
    cases hj6 : Nat.beq j 6 with
    | true =>
      rw [hj6] at h
      cases ev_beq hj6
      have h1 := (ev_if_ok h).1; replace h := (ev_if_ok h).2; cases h
      simp only [Bool.and_eq_true] at h1
      obtain ⟨h1, h3⟩ := h1; cases ev_beq h1
      exact ⟨Nat.le_refl _, Nat.le_refl _, fun _ _ kk => va_zald (D := D) (cl := cl) hx hb hN.1 (ev_one (hI.1.2 q _ hq).2) 0 6 rfl (ev_ty_at dA 0 tl 6 _ htl6) (ev_ix_ok h3) hd (kk H locs hI)⟩
    | false =>
    rw [hj6] at h
    have h1 := (ev_if_ok h).1; replace h := (ev_if_ok h).2; cases h
    simp only [Bool.and_eq_true] at h1
    obtain ⟨⟨h1, h2⟩, h3⟩ := h1; cases ev_beq h1; cases ev_beq h2
    refine ⟨Nat.le_refl _, Nat.le_refl _, fun _ _ kk => ?_⟩
    exact va_bald (D := D) (cl := cl) hx hb hN.1 (ev_one (hI.1.2 q _ hq).2) 0 1 rfl (ev_ty_at dA 0 tl 1 _ htl1) (ev_ix_ok h3) hd (kk H locs hI)
  · split at h <;> try cases h
    rename_i x q r
    split at h <;> try cases h
    rename_i j n f hq
    split at h <;> try cases h
    rename_i C hC
    have h1 := (ev_if_ok h).1; replace h := (ev_if_ok h).2; cases h
    rw [Bool.and_eq_true] at h1
    obtain ⟨h1, h3⟩ := h1; cases ev_beq h1
    rw [ev_nth_eq] at hC
    refine ⟨Nat.le_refl _, Nat.le_refl _, fun _ _ kk => ?_⟩
    have ht := ev_ty_at dA 0 tl j _ hC
    rw [Nat.zero_add] at ht
    refine va_aldq (D := D) (cl := cl) hx hb hN.1 (ev_one (hI.1.2 q _ hq).2) 0 j rfl ht (ev_ix_ok h3) hd ?_
    have := kk H locs hI
    rw [List.map_cons, ev_rf] at this
    exact this
  · split at h <;> try cases h
    · rename_i y x q r
      split at h <;> try cases h
      · rename_i j n f hq
        have h1 := (ev_if_ok h).1; replace h := (ev_if_ok h).2; cases h
        simp only [Bool.and_eq_true] at h1
        obtain ⟨⟨h1, h2⟩, h3, h5⟩ := h1; cases ev_beq h1; cases ev_beq h2
        have h5 := Nat.le_of_ble_eq_true h5
        refine ⟨Nat.le_refl _, Nat.le_refl _, fun _ _ kk => ?_⟩
        refine ev_iast (D := D) (cl := cl) (f := f) hx hb hN.1 0 (hI.1.2 q _ hq).2 (ev_ty_at dA 0 tl 0 _ htl0) (ev_ix_ok h3) hd (fun H1 j e1 e2 e3 => ?_)
        refine kk H1 _ (hI.put hq (Nat.lt_of_succ_le h5) e2 e3 ?_)
        exact e1
      · rename_i j n f hq
        have h1 := (ev_if_ok h).1; replace h := (ev_if_ok h).2; cases h
        simp only [Bool.and_eq_true] at h1
        obtain ⟨⟨h1, h2⟩, h3, h5⟩ := h1; cases ev_beq h1; cases ev_beq h2
        have h5 := Nat.le_of_ble_eq_true h5
        refine ⟨Nat.le_refl _, Nat.le_refl _, fun _ _ kk => ?_⟩
        refine ev_iast (D := D) (cl := cl) (f := fun j => ev_iv B (f j)) hx hb hN.1 0 (hI.1.2 q _ hq).2 (ev_ty_at dA 0 tl 0 _ htl0) (ev_ix_ok h3) hd (fun H1 j e1 e2 e3 => ?_)
        refine kk H1 _ (hI.put hq (Nat.lt_of_succ_le h5) e2 e3 ?_)
        show va_at D cl (B.1 + q, .inl (dA 0, n, .inl (fun j => ev_iv B (bif Nat.beq j x.toNatClampNeg then ev_tg1 (.int y) else f j)))) H1; rw [ev_upi, show ev_iv B (ev_tg1 (.int y)) = y from ev_iv_int B y]; exact e1
    · rename_i y x q r
      split at h <;> try cases h
      · rename_i j n f hq
        have h1 := (ev_if_ok h).1; replace h := (ev_if_ok h).2; cases h
        simp only [Bool.and_eq_true] at h1
        obtain ⟨⟨h1, h2⟩, h3, h5⟩ := h1; cases ev_beq h1; cases ev_beq h2
        have h5 := Nat.le_of_ble_eq_true h5
        refine ⟨Nat.le_refl _, Nat.le_refl _, fun _ _ kk => ?_⟩
        refine ev_iast (D := D) (cl := cl) (f := f) hx hb hN.1 0 (hI.1.2 q _ hq).2 (ev_ty_at dA 0 tl 0 _ htl0) (ev_ix_ok h3) hd (fun H1 j e1 e2 e3 => ?_)
        refine kk H1 _ (hI.put hq (Nat.lt_of_succ_le h5) e2 e3 ?_)
        show va_at D cl (B.1 + q, .inl (dA 0, n, .inl (fun j => ev_iv B (bif Nat.beq j x.toNatClampNeg then ev_tg1 (.float y) else (f j).toInt64)))) H1; rw [ev_upi2, ev_iv_leaf]; exact e1
      · rename_i j n f hq
        have h1 := (ev_if_ok h).1; replace h := (ev_if_ok h).2; cases h
        simp only [Bool.and_eq_true] at h1
        obtain ⟨⟨h1, h2⟩, h3, h5⟩ := h1; cases ev_beq h1; cases ev_beq h2
        have h5 := Nat.le_of_ble_eq_true h5
        refine ⟨Nat.le_refl _, Nat.le_refl _, fun _ _ kk => ?_⟩
        refine ev_iast (D := D) (cl := cl) (f := fun j => ev_iv B (f j)) hx hb hN.1 0 (hI.1.2 q _ hq).2 (ev_ty_at dA 0 tl 0 _ htl0) (ev_ix_ok h3) hd (fun H1 j e1 e2 e3 => ?_)
        refine kk H1 _ (hI.put hq (Nat.lt_of_succ_le h5) e2 e3 ?_)
        show va_at D cl (B.1 + q, .inl (dA 0, n, .inl (fun j => ev_iv B (bif Nat.beq j x.toNatClampNeg then ev_tg1 (.float y) else f j)))) H1; rw [ev_upi, ev_iv_leaf]; exact e1
  · split at h <;> try cases h
    rename_i y x q r
    split at h <;> try cases h
    rename_i j n f hq
    cases hj6 : Nat.beq j 6 with
    | true =>
      rw [hj6] at h
      cases ev_beq hj6
      have h1 := (ev_if_ok h).1; replace h := (ev_if_ok h).2; cases h
      simp only [Bool.and_eq_true, Bool.or_eq_true, decide_eq_true_eq] at h1
      obtain ⟨⟨h1, h2⟩, h3, h5⟩ := h1; cases ev_beq h1
      have h5 := Nat.le_of_ble_eq_true h5
      refine ⟨Nat.le_refl _, Nat.le_refl _, fun _ _ kk => ?_⟩
      refine ev_zast (D := D) (cl := cl) (f := f) hx hb hN.1 6 (hI.1.2 q _ hq).2 (ev_ty_at dA 0 tl 6 _ htl6) h2 (ev_ix_ok h3) hd (fun H1 j e1 e2 e3 => ?_)
      refine kk H1 _ (hI.put hq (Nat.lt_of_succ_le h5) e2 e3 ?_)
      exact e1
    | false =>
    rw [hj6] at h
    have h1 := (ev_if_ok h).1; replace h := (ev_if_ok h).2; cases h
    simp only [Bool.and_eq_true] at h1
    obtain ⟨⟨h1, h2⟩, h3, h5⟩ := h1; cases ev_beq h1; cases ev_beq h2
    have h5 := Nat.le_of_ble_eq_true h5
    refine ⟨Nat.le_refl _, Nat.le_refl _, fun _ _ kk => ?_⟩
    refine ev_bast (D := D) (cl := cl) (f := f) hx hb hN.1 1 (hI.1.2 q _ hq).2 (ev_ty_at dA 0 tl 1 _ htl1) (ev_ix_ok h3) hd (fun H1 j e1 e2 e3 => ?_)
    refine kk H1 _ (hI.put hq (Nat.lt_of_succ_le h5) e2 e3 ?_)
    exact e1
  · split at h <;> try cases h
    rename_i y x q r
    split at h <;> try cases h
    rename_i j n f hq
    split at h <;> try cases h
    rename_i ci vs hy
    have h1 := (ev_if_ok h).1; replace h := (ev_if_ok h).2; cases h
    simp only [Bool.and_eq_true] at h1
    obtain ⟨⟨⟨h1, h2⟩, h6, h7⟩, h3, h5⟩ := h1; cases ev_beq h1; cases ev_beq h2
    have h5 := Nat.le_of_ble_eq_true h5
    have h6 := Nat.le_of_ble_eq_true h6
    have h7 := Nat.le_of_ble_eq_true h7
    obtain ⟨r0, g1, g2⟩ : ∃ r : vw_C, cl[oc j]? = some r ∧ tl[j]? = some (.object r.1) := by
      rcases hoc j h6 h7 with g | g
      · obtain ⟨r9, g9, -⟩ := (hI.1.2 y _ hy).2
        rw [g] at g9
        cases g9
      · exact g
    have ht := ev_ty_at dA 0 tl j _ g2
    rw [Nat.zero_add] at ht
    refine ⟨Nat.le_refl _, Nat.le_refl _, fun _ _ kk => ?_⟩
    refine ev_aast (D := D) (cl := cl) hx hb hN.1 j (oc j) (hI.1.2 q _ hq).2 ht (hI.1.2 y _ hy).2 g1 (ev_ix_ok h3) hd (fun H1 j1 e1 e2 e3 => ?_)
    refine kk H1 _ (hI.put hq (Nat.lt_of_succ_le h5) e2 e3 ?_)
    rw [← ev_upm] at e1
    exact e1
  · have h1 := (ev_if_ok h).1; replace h := (ev_if_ok h).2; cases h
    rw [Bool.and_eq_true] at h1
    obtain ⟨h1, h2⟩ := h1; cases ev_beq h1
    have h2 := Nat.le_of_ble_eq_true h2
    obtain ⟨C, T, ty, k1, k2, k3, k4, k5, k6, k7⟩ := hk
    refine ⟨Nat.le_succ _, Nat.le_add_right _ _, fun r1 r2 kk => ?_⟩
    refine ev_newi (D := D) (cl := cl) hx hb hts k5 ty k6 hown (hts _ k2) (hts _ k3) (hts _ k4) hN.1 k1 (ev_vdf B (hdf _) k7) r1 r2 hd (fun H1 e1 e2 e3 => ?_)
    have hz := hI.1.1
    rw [hz] at e1 ⊢
    exact kk H1 locs (hI.new (Nat.lt_of_succ_le h2) e2 e3 e1)
  · split at h <;> try cases h
    rename_i n r
    split at h <;> try cases h
    · have h1 := (ev_if_ok h).1; replace h := (ev_if_ok h).2; cases h
      simp only [Bool.and_eq_true] at h1
      obtain ⟨⟨h1, h2⟩, h3, h4⟩ := h1; cases ev_beq h1
      have h2 : ¬ n < 0 := by simpa using h2
      have h3 := Nat.le_of_ble_eq_true h3
      have h4 := Nat.le_of_ble_eq_true h4
      refine ⟨Nat.le_succ _, Nat.le_add_right _ _, fun r1 r2 kk => ?_⟩
      have hw : Cond.arrayClass .int ∈ Ts := by
        rcases hk with ⟨-, hk⟩ | ⟨hk, -⟩ | ⟨hk, -⟩
        · exact hk
        · cases hk
        · cases hk
      refine ev_newa (D := D) (cl := cl) hx hb (hts _ hw) hN.1 0 (ev_ty_at dA 0 tl 0 _ htl0) h2 h3 r1 r2 hd (fun H1 e1 e2 e3 => ?_)
      have hz := hI.1.1
      rw [hz] at e1 ⊢
      exact kk H1 locs (hI.new (Nat.lt_of_succ_le h4) e2 e3 e1)
    · have h1 := (ev_if_ok h).1; replace h := (ev_if_ok h).2; cases h
      simp only [Bool.and_eq_true] at h1
      obtain ⟨⟨h1, h2⟩, h3, h4⟩ := h1; cases ev_beq h1
      have h2 : ¬ n < 0 := by simpa using h2
      have h3 := Nat.le_of_ble_eq_true h3
      have h4 := Nat.le_of_ble_eq_true h4
      refine ⟨Nat.le_succ _, Nat.le_add_right _ _, fun r1 r2 kk => ?_⟩
      have hw : Cond.arrayClass .byte ∈ Ts := by
        rcases hk with ⟨hk, -⟩ | ⟨-, hk⟩ | ⟨hk, -⟩
        · cases hk
        · exact hk
        · cases hk
      refine ev_newb (D := D) (cl := cl) hx hb (hts _ hw) hN.1 1 (ev_ty_at dA 0 tl 1 _ htl1) h2 h3 r1 r2 hd (fun H1 e1 e2 e3 => ?_)
      have hz := hI.1.1
      rw [hz] at e1 ⊢
      exact kk H1 locs (hI.new (Nat.lt_of_succ_le h4) e2 e3 e1)
    · have h1 := (ev_if_ok h).1; replace h := (ev_if_ok h).2; cases h
      simp only [Bool.and_eq_true] at h1
      obtain ⟨⟨h1, h2⟩, h3, h4⟩ := h1; cases ev_beq h1
      have h2 : ¬ n < 0 := by simpa using h2
      have h3 := Nat.le_of_ble_eq_true h3
      have h4 := Nat.le_of_ble_eq_true h4
      refine ⟨Nat.le_succ _, Nat.le_add_right _ _, fun r1 r2 kk => ?_⟩
      have hw : Cond.arrayClass .boolean ∈ Ts := by
        rcases hk with ⟨hk, -⟩ | ⟨hk, -⟩ | ⟨-, hk⟩
        · cases hk
        · cases hk
        · exact hk
      refine ev_newz (D := D) (cl := cl) hx hb (hts _ hw) hN.1 6 (ev_ty_at dA 0 tl 6 _ htl6) h2 h3 r1 r2 hd (fun H1 e1 e2 e3 => ?_)
      have hz := hI.1.1
      rw [hz] at e1 ⊢
      exact kk H1 locs (hI.new (Nat.lt_of_succ_le h4) e2 e3 e1)
  · split at h <;> try cases h
    rename_i n r
    have h1 := (ev_if_ok h).1; replace h := (ev_if_ok h).2; cases h
    simp only [Bool.and_eq_true] at h1
    obtain ⟨⟨h1, h2⟩, h3, h4⟩ := h1; cases ev_beq h1
    have h2 : ¬ n < 0 := by simpa using h2
    have h3 := Nat.le_of_ble_eq_true h3
    have h4 := Nat.le_of_ble_eq_true h4
    obtain ⟨C, k1, k2, k3⟩ := hk
    have ht := ev_ty_at dA 0 tl a _ k1
    rw [Nat.zero_add] at ht
    refine ⟨Nat.le_succ _, Nat.le_add_right _ _, fun r1 r2 kk => ?_⟩
    refine ev_newq (D := D) (cl := cl) hx hb hown (hts _ k3) (hN.2.1 C k2) hN.1 a ht h2 h3 r1 r2 hd (fun H1 e1 e2 e3 => ?_)
    have hz := hI.1.1
    rw [hz] at e1 ⊢
    exact kk H1 locs (hI.new (Nat.lt_of_succ_le h4) e2 e3 e1)
  · have h1 := (ev_if_ok h).1; replace h := (ev_if_ok h).2; cases h
    cases ev_beq h1
    refine ⟨Nat.le_refl _, Nat.le_refl _, fun _ _ kk => ?_⟩
    by_cases ht : tg = 0
    · subst ht
      exact lv_ldc hx hb hown (hts _ (hk.1 rfl)) hd (kk H locs hI)
    · have hf : Nat.beq tg 0 = false := by
        cases hq : Nat.beq tg 0 with
        | true => exact absurd (Nat.eq_of_beq_eq_true hq) ht
        | false => rfl
      have hw := kk H locs hI
      rw [hf] at hw
      obtain ⟨rfl, k1⟩ := hk.2 ht
      rcases k1 with ⟨rfl, rfl⟩ | ⟨rfl, rfl⟩
      · obtain ⟨⟨q, v, z1, z2, z3⟩, -⟩ := hZ
        refine va_ldcS hx hb hown z2 hd ?_
        rw [List.map_cons, show ev_v B (bif false then Value.int (Int32.ofInt k) else .retAddr 0) = va_rf (B.2.2 0) from rfl, z1] at hw
        exact hw
      · obtain ⟨-, ⟨q, v, z1, z2, z3⟩, -⟩ := hZ
        refine va_ldcS hx hb hown z2 hd ?_
        rw [List.map_cons, show ev_v B (bif false then Value.int (Int32.ofInt k) else .retAddr 1) = va_rf (B.2.2 1) from rfl, z1] at hw
        exact hw
  · have h1 := (ev_if_ok h).1; replace h := (ev_if_ok h).2; cases h
    cases ev_beq h1
    refine ⟨Nat.le_refl _, Nat.le_refl _, fun _ _ kk => ?_⟩
    exact lv_ldc2 hx hb hown (hts _ hk) hd (kk H locs hI)
  · have h1 := (ev_if_ok h).1; replace h := (ev_if_ok h).2; cases h
    cases ev_beq h1
    refine ⟨Nat.le_refl _, Nat.le_refl _, fun _ _ kk => ?_⟩
    by_cases ht : tg = 0
    · subst ht
      exact lv_ldcw hx hb hown (hts _ (hk.1 rfl)) hd (kk H locs hI)
    · have hf : Nat.beq tg 0 = false := by
        cases hq : Nat.beq tg 0 with
        | true => exact absurd (Nat.eq_of_beq_eq_true hq) ht
        | false => rfl
      have hw := kk H locs hI
      rw [hf] at hw
      obtain ⟨rfl, rfl⟩ := hk.2 ht
      obtain ⟨-, -, -, -, ⟨q, v, z1, z2, z3⟩, -⟩ := hZ
      rw [List.map_cons, show ev_v B (bif false then Value.int (Int32.ofInt k) else .retAddr 2) = va_rf (B.2.2 2) from rfl, z1] at hw
      intro T hT X
      obtain ⟨t, a1, b1⟩ := hw T hT X
      exact ⟨t, X.ldcStringW hx hown (text := kwT) (a := q) z2.1 z2.2 (g := F0 m pc ls (st.map (ev_v B))) rfl (by rw [hb]; exact hd) _ a1, b1⟩
  · have h1 := (ev_if_ok h).1; replace h := (ev_if_ok h).2; cases h
    rw [Bool.and_eq_true] at h1
    obtain ⟨h1, h2⟩ := h1; cases ev_beq h1; cases ev_beq h2
    refine ⟨Nat.le_refl _, Nat.le_refl _, fun _ _ kk => ?_⟩
    obtain ⟨hk1, hk2⟩ := hk
    have hw := kk H locs hI
    obtain ⟨-, -, -, -, -, q, m1, m2, m3⟩ := hZ
    rw [List.map_cons, show ev_v B (.retAddr 3) = va_rf (B.2.2 3) from rfl, m1] at hw
    exact va_gets (A := fun a => B.1 ≤ a) hx hb m2 hI.2 hown (hts _ hk2) (fun _ h => h) hd hw
  · split at h <;> try cases h
    rename_i n dp q1 sp q0 r
    split at h <;> try cases h
    rename_i j0 n0 f hq0
    split at h <;> try cases h
    rename_i j1 n1 g hq1
    have h1 := (ev_if_ok h).1; replace h := (ev_if_ok h).2; cases h
    simp only [Bool.and_eq_true] at h1
    obtain ⟨⟨⟨h1, h2⟩, h3, h4⟩, ⟨g1, g2, g3⟩, ⟨g4, g5⟩, g6, g7⟩ := h1
    cases ev_beq h1; cases ev_beq h2; cases ev_beq h3; cases ev_beq h4
    have g1 : ¬ sp < 0 := by simpa using g1
    have g2 : ¬ dp < 0 := by simpa using g2
    have g3 : ¬ n < 0 := by simpa using g3
    have g6 := Nat.le_of_ble_eq_true g6
    have g7 := Nat.le_of_ble_eq_true g7
    obtain ⟨k1, k2, k3, k4⟩ := hk rfl
    refine ⟨Nat.le_refl _, Nat.le_refl _, fun _ _ kk => ?_⟩
    refine ev_copy (D := D) (cl := cl) (f := f) (g := g) hx hb hml hown (hts _ k1) (hts _ k2) (hts _ k3) (hts _ k4) hN.1 0 (hI.1.2 q0 _ hq0).2 (hI.1.2 q1 _ hq1).2 (ev_ty_at dA 0 tl 0 _ htl0) g1 g2 g3 (Nat.le_of_ble_eq_true g4) (Nat.le_of_ble_eq_true g5) hRf (by rw [ev_cat_ok0]; omega) hd (fun H1 e1 e2 e3 L hL => ?_)
    exact kk H1 _ (hI.putL hq1 (Nat.lt_of_succ_le g6) e2 e3 hL e1)
  · cases h
end EVX
