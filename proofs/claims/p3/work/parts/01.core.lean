/-! an evaluator of bytecode over a heap of numbered cells, and that what it says is so on the machine -/
abbrev ev_T : Type := Nat → Option va_E
/-- no cell -/
def ev_mt : ev_T := fun _ => none
def ev_g (t : ev_T) (b : Nat) : Option va_E := t b
def ev_p (t : ev_T) (a : Nat) (x : va_E) : ev_T := fun b => bif Nat.beq b a then some x else t b
theorem ev_g_mt (a : Nat) : ev_g ev_mt a = none := rfl
theorem ev_gp {t : ev_T} {a : Nat} {x : va_E} {b : Nat} (h : a < 1048576) : ev_g (ev_p t a x) b = if b = a then some x else ev_g t b := by
  unfold ev_g ev_p
  by_cases e : b = a
  · subst e
    rw [Nat.beq_refl, if_pos rfl]; rfl
  · have : Nat.beq b a = false := by
      cases hb : Nat.beq b a with
      | true => exact absurd (Nat.eq_of_beq_eq_true hb) e
      | false => rfl
    rw [this, if_neg e]; rfl
/-- next address, heap, cells and slots made so far -/
abbrev ev_S : Type := Nat × ev_T × Nat × Nat
abbrev ev_L : Type := List (Nat × Value)
/-- where the cells begin; what a number that isn't known is (written .float); what a reference that isn't known is (written .retAddr) -/
abbrev ev_B : Type := Nat × (UInt32 → Int32) × (Nat → Option Nat)
def ev_v (B : ev_B) : Value → Value
  | .ref k => .ref (B.1 + k)
  | .float i => .int (B.2.1 i)
  | .retAddr i => va_rf (B.2.2 i)
  | v => v
theorem ev_v_cat (B : ev_B) (v : Value) : (ev_v B v).category = v.category := by
  cases v with
  | retAddr i =>
    show (va_rf (B.2.2 i)).category = 1
    cases B.2.2 i <;> rfl
  | _ => rfl
def ev_lB (B : ev_B) (lv : ev_L) : ev_L := lv.map fun q => (q.1, ev_v B q.2)
def ev_lk : ev_L → Nat → Option Value
  | [], _ => none
  | q :: r, i => bif Nat.beq q.1 i then some q.2 else ev_lk r i
theorem ev_lk_at {B : ev_B} : ∀ {lv : ev_L} {i : Nat} {v : Value}, ev_lk lv i = some v → ∃ k : Nat, (ev_lB B lv)[k]? = some (i, ev_v B v)
  | [], i, v, h => by cases h
  | q :: r, i, v, h => by
    unfold ev_lk at h
    cases e : Nat.beq q.1 i with
    | true =>
      rw [e] at h
      cases h
      have e2 := Nat.eq_of_beq_eq_true e
      refine ⟨0, ?_⟩
      rw [← e2]
      rfl
    | false =>
      rw [e] at h
      obtain ⟨k, hk⟩ := ev_lk_at (B := B) (lv := r) h
      exact ⟨k + 1, hk⟩
/-- a store of one word -/
def ev_st1 (lv : ev_L) (i : Nat) (v : Value) : ev_L := (i, v) :: lv.filter (fun q => !(q.1 == i) && !(q.1 + 1 == i && q.2.category == 2))
/-- a store of two words -/
def ev_st2 (lv : ev_L) (i : Nat) (v : Value) : ev_L := (i, v) :: lv.filter (fun q => !(q.1 == i) && (!(q.1 == i + 1) && !(q.1 + 1 == i && q.2.category == 2)))
theorem ev_st1_B (B : ev_B) (lv : ev_L) (i : Nat) (v : Value) : (i, ev_v B v) :: (ev_lB B lv).filter (fun q => !(q.1 == i) && !(q.1 + 1 == i && q.2.category == 2)) = ev_lB B (ev_st1 lv i v) := by
  unfold ev_st1 ev_lB
  rw [List.filter_map, List.map_cons]
  congr 2
  apply List.filter_congr
  intro q _
  simp only [Function.comp, ev_v_cat]
theorem ev_st1_rN {B : ev_B} {lv : ev_L} {i : Nat} {x : Nat} (h : B.2.2 x = none) : (i, Value.null) :: (ev_lB B lv).filter (fun q => !(q.1 == i) && !(q.1 + 1 == i && q.2.category == 2)) = ev_lB B (ev_st1 lv i (.retAddr x)) := by
  have h1 := ev_st1_B B lv i (.retAddr x)
  rw [show ev_v B (.retAddr x) = va_rf (B.2.2 x) from rfl, h] at h1
  exact h1
theorem ev_st1_rS {B : ev_B} {lv : ev_L} {i : Nat} {x y : Nat} (h : B.2.2 x = some y) : (i, Value.ref y) :: (ev_lB B lv).filter (fun q => !(q.1 == i) && !(q.1 + 1 == i && q.2.category == 2)) = ev_lB B (ev_st1 lv i (.retAddr x)) := by
  have h1 := ev_st1_B B lv i (.retAddr x)
  rw [show ev_v B (.retAddr x) = va_rf (B.2.2 x) from rfl, h] at h1
  exact h1
theorem ev_st2_B (B : ev_B) (lv : ev_L) (i : Nat) (v : Value) : (i, ev_v B v) :: (ev_lB B lv).filter (fun q => !(q.1 == i) && (!(q.1 == i + 1) && !(q.1 + 1 == i && q.2.category == 2))) = ev_lB B (ev_st2 lv i v) := by
  unfold ev_st2 ev_lB
  rw [List.filter_map, List.map_cons]
  congr 2
  apply List.filter_congr
  intro q _
  simp only [Function.comp, ev_v_cat]
def ev_tg (pc : Nat) (off : Int) : Option Nat := match (pc : Int) + off with
  | .ofNat t => some t
  | .negSucc _ => none
theorem ev_tg_ok {pc : Nat} {off : Int} {t : Nat} (h : ev_tg pc off = some t) : (pc : Int) + off = (t : Int) := by
  unfold ev_tg at h
  split at h
  · rename_i x e
    cases h
    exact e
  · cases h
def ev_if {α : Type} (c : Bool) (x : Option α) : Option α := bif c then x else none
theorem ev_if_ok {α : Type} {c : Bool} {x : Option α} {y : α} (h : ev_if c x = some y) : c = true ∧ x = some y := by
  cases c with
  | true => exact ⟨rfl, h⟩
  | false => cases h
def ev_br (c : Bool) (pc off2 : Nat) (off : Int) (st : List Value) : Option (Nat × List Value) := match ev_tg pc off with
  | some t => some (bif c then t else pc + off2, st)
  | none => none
/-- instructions on the operands alone -/
def ev_xc (i : Instr) (len pc : Nat) (st : List Value) : Option (Nat × List Value) := match i with
  | .aconst_null => ev_if (Nat.beq len 1) (some (pc + 1, .null :: st))
  | .iconst n => ev_if (Nat.beq len 1) (some (pc + 1, .int (Int32.ofInt n) :: st))
  | .bipush n => ev_if (Nat.beq len 2) (some (pc + 2, .int (Int8.ofInt n).toInt32 :: st))
  | .sipush n => ev_if (Nat.beq len 3) (some (pc + 3, .int (Int16.ofInt n).toInt32 :: st))
  | .lconst n => ev_if (Nat.beq len 1) (some (pc + 1, .long (Int64.ofNat (n : Nat)) :: st))
  | .iadd => match st with
    | .int y :: .int x :: r => ev_if (Nat.beq len 1) (some (pc + 1, .int (x + y) :: r))
    | _ => none
  | .isub => match st with
    | .int y :: .int x :: r => ev_if (Nat.beq len 1) (some (pc + 1, .int (x - y) :: r))
    | _ => none
  | .imul => match st with
    | .int y :: .int x :: r => ev_if (Nat.beq len 1) (some (pc + 1, .int (x * y) :: r))
    | _ => none
  | .ineg => match st with
    | .int x :: r => ev_if (Nat.beq len 1) (some (pc + 1, .int (-x) :: r))
    | _ => none
  | .iand => match st with
    | .int y :: .int x :: r => ev_if (Nat.beq len 1) (some (pc + 1, .int (x &&& y) :: r))
    | _ => none
  | .ior => match st with
    | .int y :: .int x :: r => ev_if (Nat.beq len 1) (some (pc + 1, .int (x ||| y) :: r))
    | _ => none
  | .ixor => match st with
    | .int y :: .int x :: r => ev_if (Nat.beq len 1) (some (pc + 1, .int (x ^^^ y) :: r))
    | _ => none
  | .ishl => match st with
    | .int y :: .int x :: r => ev_if (Nat.beq len 1) (some (pc + 1, .int (x <<< (y &&& 31)) :: r))
    | _ => none
  | .ishr => match st with
    | .int y :: .int x :: r => ev_if (Nat.beq len 1) (some (pc + 1, .int (x >>> (y &&& 31)) :: r))
    | _ => none
  | .iushr => match st with
    | .int y :: .int x :: r => ev_if (Nat.beq len 1) (some (pc + 1, .int (x.toUInt32 >>> (y.toUInt32 &&& Int32.toUInt32 31)).toInt32 :: r))
    | _ => none
  | .irem => match st with
    | .int y :: .int x :: r => ev_if (Nat.beq len 1 && !decide (y = 0)) (some (pc + 1, .int (x - x / y * y) :: r))
    | _ => none
  | .ladd => match st with
    | .long y :: .long x :: r => ev_if (Nat.beq len 1) (some (pc + 1, .long (x + y) :: r))
    | _ => none
  | .lsub => match st with
    | .long y :: .long x :: r => ev_if (Nat.beq len 1) (some (pc + 1, .long (x - y) :: r))
    | _ => none
  | .lmul => match st with
    | .long y :: .long x :: r => ev_if (Nat.beq len 1) (some (pc + 1, .long (x * y) :: r))
    | _ => none
  | .lcmp => match st with
    | .long y :: .long x :: r => ev_if (Nat.beq len 1) (some (pc + 1, .int (lg_cmp x y) :: r))
    | _ => none
  | .i2l => match st with
    | .int x :: r => ev_if (Nat.beq len 1) (some (pc + 1, .long x.toInt64 :: r))
    | _ => none
  | .l2i => match st with
    | .long x :: r => ev_if (Nat.beq len 1) (some (pc + 1, .int x.toInt32 :: r))
    | _ => none
  | .i2b => match st with
    | .int x :: r => ev_if (Nat.beq len 1) (some (pc + 1, .int x.toInt8.toInt32 :: r))
    | _ => none
  | .i2c => match st with
    | .int x :: r => ev_if (Nat.beq len 1) (some (pc + 1, .int (x.toUInt32 % 65536).toInt32 :: r))
    | _ => none
  | .dup => match st with
    | v :: r => ev_if (Nat.beq len 1 && Nat.beq v.category 1) (some (pc + 1, v :: v :: r))
    | _ => none
  | .dup2 => match st with
    | v :: w :: r => ev_if (Nat.beq len 1 && (Nat.beq v.category 1 && Nat.beq w.category 1)) (some (pc + 1, v :: w :: v :: w :: r))
    | _ => none
  | .pop => match st with
    | v :: r => ev_if (Nat.beq len 1 && Nat.beq v.category 1) (some (pc + 1, r))
    | _ => none
  | .goto off => ev_if (Nat.beq len 3) ((ev_tg pc off).map fun t => (t, st))
  | .ifCond c off => match st with
    | .int x :: r => ev_if (Nat.beq len 3) (ev_br (match c with
      | .eq => decide (x = 0)
      | .ne => !decide (x = 0)
      | .lt => decide (x < 0)
      | .ge => !decide (x < 0)
      | .gt => !decide (x ≤ 0)
      | .le => decide (x ≤ 0)) pc 3 off r)
    | _ => none
  | .if_icmp c off => match st with
    | .int y :: .int x :: r => ev_if (Nat.beq len 3) (ev_br (match c with
      | .eq => decide (x = y)
      | .ne => !decide (x = y)
      | .lt => decide (x < y)
      | .ge => !decide (x < y)
      | .gt => !decide (x ≤ y)
      | .le => decide (x ≤ y)) pc 3 off r)
    | _ => none
  | .if_acmp c off => match st with
    | .ref y :: .ref x :: r => ev_if (Nat.beq len 3) (ev_br (match c with
      | .eq => Nat.beq x y
      | .ne => !Nat.beq x y) pc 3 off r)
    | .null :: .ref _ :: r => ev_if (Nat.beq len 3) (ev_br (match c with
      | .eq => false
      | .ne => true) pc 3 off r)
    | .ref _ :: .null :: r => ev_if (Nat.beq len 3) (ev_br (match c with
      | .eq => false
      | .ne => true) pc 3 off r)
    | .null :: .null :: r => ev_if (Nat.beq len 3) (ev_br (match c with
      | .eq => true
      | .ne => false) pc 3 off r)
    | _ => none
  | .ifnull off => match st with
    | .ref _ :: r => ev_if (Nat.beq len 3) (some (pc + 3, r))
    | .null :: r => ev_if (Nat.beq len 3) ((ev_tg pc off).map fun t => (t, r))
    | _ => none
  | .ifnonnull off => match st with
    | .null :: r => ev_if (Nat.beq len 3) (some (pc + 3, r))
    | .ref _ :: r => ev_if (Nat.beq len 3) ((ev_tg pc off).map fun t => (t, r))
    | _ => none
  | .lookupswitch dflt ps => match st with
    | .int x :: r => ev_if ((ps.toList.zip (ps.toList.drop 1)).all (fun (a, next) => a.1 < next.1)) ((ev_tg pc (Op.lookupswitch.offset ps.toList dflt x.toInt)).map fun t => (t, r))
    | _ => none
  | .tableswitch dflt lo hi offs => match st with
    | .int x :: r => bif decide (x.toInt < lo) || decide (hi < x.toInt) then (ev_tg pc dflt).map (fun t => (t, r)) else match offs[(x.toInt - lo).toNat]? with
      | some off => (ev_tg pc off).map fun t => (t, r)
      | none => none
    | _ => none
  | .ldiv => match st with
    | .long y :: .long x :: r => ev_if (Nat.beq len 1 && !decide (y = 0)) (some (pc + 1, .long (x / y) :: r))
    | _ => none
  | .lrem => match st with
    | .long y :: .long x :: r => ev_if (Nat.beq len 1 && !decide (y = 0)) (some (pc + 1, .long (x - x / y * y) :: r))
    | _ => none
  | .lxor => match st with
    | .long y :: .long x :: r => ev_if (Nat.beq len 1) (some (pc + 1, .long (x ^^^ y) :: r))
    | _ => none
  | .lneg => match st with
    | .long x :: r => ev_if (Nat.beq len 1) (some (pc + 1, .long (-x) :: r))
    | _ => none
  | _ => none
