/-! ===== BEGIN words of one list among another's, by their places ===== -/
theorem goodIn_r {big : List Cond} (ws : List Cond) (ps : List Nat) (hp : ws = ps.filterMap (fun i => big[i]?)) (h : ws.all goodWord = true) : GoodIn big ws := by
  intro w hw
  have h1 := List.all_eq_true.mp h w hw
  rw [hp] at hw
  obtain ⟨i, -, hi⟩ := List.mem_filterMap.mp hw
  have hm : w ∈ big := by first | exact List.mem_of_getElem? hi | exact List.getElem?_mem hi
  exact ⟨hm, good_of_word h1⟩
theorem goodIn_app {big a b : List Cond} (ha : GoodIn big a) (hb : GoodIn big b) : GoodIn big (a ++ b) := fun w h => (List.mem_append.mp h).elim (ha w) (hb w)
theorem goodIn_ca {big a b : List Cond} {c : Cond} (ha : GoodIn big (c :: a)) (hb : GoodIn big b) : GoodIn big (c :: (a ++ b)) := fun w h => (List.mem_cons.mp h).elim (fun e => ha w (List.mem_cons.mpr (Or.inl e))) (fun h => (List.mem_append.mp h).elim (fun h => ha w (List.mem_cons.mpr (Or.inr h))) (hb w))
theorem goodIn_sub {big ws : List Cond} (hm : ∀ w ∈ ws, w ∈ big) (h : ws.all goodWord = true) : GoodIn big ws := fun w hw => ⟨hm w hw, good_of_word (List.all_eq_true.mp h w hw)⟩
/-! ===== END ===== -/

/-- n fields, as a function tells them -/
def fl (n : Nat) (F : Nat → Value) : List Value := (List.range n).map F
def fu (F : Nat → Value) (k : Nat) (v : Value) : Nat → Value := fun j => if j = k then v else F j
theorem fl_len {n : Nat} {F : Nat → Value} : (fl n F).length = n := by simp [fl]
theorem fl_lt {n k : Nat} {F : Nat → Value} (h : k < n) : k < (fl n F).length := by rw [fl_len]; exact h
theorem fl_get {n k : Nat} {F : Nat → Value} {v : Value} (h : k < n) (e : F k = v) : (fl n F)[k]? = some v := by
  rw [← e]; simp [fl, h]
theorem fl_set {n k : Nat} {F : Nat → Value} {v : Value} (h : k < n) : (fl n F).set k v = fl n (fu F k v) := by
  apply List.ext_getElem?
  intro i
  by_cases hi : i < n
  · by_cases hik : k = i
    · subst hik; rw [List.getElem?_set_self (by simpa [fl] using hi)]; simp [fl, fu, hi]
    · rw [List.getElem?_set_ne hik]; simp [fl, fu, hi, Ne.symm hik]
  · rw [List.getElem?_eq_none (by simp [fl]; omega), List.getElem?_eq_none (by simp [fl]; omega)]
theorem fu_eq {F G : Nat → Value} {k : Nat} {v : Value} (e : G = fu F k v) : G k = v := by rw [e]; simp [fu]
theorem fu_ne {F G : Nat → Value} {k j : Nat} {v w : Value} (e : G = fu F k v) (h : j ≠ k) (hj : F j = w) : G j = w := by rw [e]; simp [fu, h, hj]
theorem va_P_pre {D : va_G} {cl : List vw_C} {ws w2 : va_W} {H : Heap} (h : va_P D cl (ws ++ w2) H) : va_P D cl ws H := fun k q hk => h k q (by rw [List.getElem?_append_left (List.getElem?_eq_some_iff.mp hk).1]; exact hk)
theorem va_D_pre {A : Nat → Prop} {ws w2 : va_W} (h : va_D A (ws ++ w2)) : va_D A ws := ⟨fun i j p q hi hj e => h.1 i j p q (by rw [List.getElem?_append_left (List.getElem?_eq_some_iff.mp hi).1]; exact hi) (by rw [List.getElem?_append_left (List.getElem?_eq_some_iff.mp hj).1]; exact hj) e, fun k q hk => h.2 k q (by rw [List.getElem?_append_left (List.getElem?_eq_some_iff.mp hk).1]; exact hk)⟩
theorem zq_val {C n d : String} {A : Nat → Prop} {U : State} {H : Heap} (h : va_Zq C n d A U H) : ∃ v : Value, (v = .null ∨ ∃ t : Nat, v = .ref t) ∧ va_Z C n d v A U H := by
  rcases h with h | ⟨t, h⟩
  · exact ⟨.null, Or.inl rfl, h⟩
  · exact ⟨.ref t, Or.inr ⟨t, rfl⟩, h⟩
def bkS (n : Int32) : Int32 := if n < 0 then -1 else if n ≤ 0 then 0 - n else -1
def cntS (n : Int32) : Int32 := if n = 3 then 0 else if n < 5 then (if n < 0 then -1 else if n ≤ 13 then 0 else -1) else if 13 < n then (if n < 0 then -1 else if n ≤ 13 then 0 else -1) else 0
def cntM (n : Int32) : Int32 := if n < 6 then -1 else if n ≤ 13 then 0 else -1
def RX0 : String := "LevelUnits$Checker"
def TX0 : u_T := fun k => match k with
  | 0 => ("LevelUnits$Checker", "types", "LLevelUnits$Types;", true)
  | 1 => ("LevelUnits$Checker", "unit", "LLevelUnits$Decl;", false)
  | 2 => ("LevelUnits$Checker", "stack", "[LLevelUnits$Node;", true)
  | 3 => ("LevelUnits$Checker", "top", "I", false)
  | 4 => ("LevelUnits$Checker", "line", "I", false)
  | 5 => ("LevelUnits$Checker", "method", "LLevelUnits$Decl;", false)
  | _ => ("LevelUnits$Checker", "found", "I", false)
def tyX0 : Nat → FieldType := fun k => match k with
  | 0 => .object "LevelUnits$Types"
  | 1 => .object "LevelUnits$Decl"
  | 2 => .array (.object "LevelUnits$Node")
  | 3 => .int
  | 4 => .int
  | 5 => .object "LevelUnits$Decl"
  | _ => .int
abbrev wsX00 : List Cond := u_ws RX0 TX0 7
theorem nmX0 : ∀ a, a < 7 → ∀ b, b < 7 → a ≠ b → (TX0 a).2.1 ≠ (TX0 b).2.1 := by decide +kernel
theorem tyX0_ok : ∀ k, k < 7 → parseFieldDescriptor (TX0 k).2.2.1 = some (tyX0 k) := by decide +kernel
def RX1 : String := "LevelUnits$Decl"
def TX1 : u_T := fun k => match k with
  | 0 => ("LevelUnits$Decl", "kind", "I", false)
  | 1 => ("LevelUnits$Decl", "name", "I", true)
  | 2 => ("LevelUnits$Decl", "line", "I", true)
  | 3 => ("LevelUnits$Decl", "nameLine", "I", true)
  | 4 => ("LevelUnits$Decl", "unit", "LLevelUnits$Decl;", false)
  | 5 => ("LevelUnits$Decl", "next", "LLevelUnits$Decl;", false)
  | 6 => ("LevelUnits$Decl", "type", "LLevelUnits$Node;", false)
  | 7 => ("LevelUnits$Decl", "bound", "LLevelUnits$Node;", false)
  | 8 => ("LevelUnits$Decl", "use", "LLevelUnits$Op;", false)
  | 9 => ("LevelUnits$Decl", "number", "I", false)
  | 10 => ("LevelUnits$Decl", "offset", "I", false)
  | 11 => ("LevelUnits$Decl", "first", "LLevelUnits$Decl;", false)
  | 12 => ("LevelUnits$Decl", "body", "LLevelUnits$Stat;", false)
  | 13 => ("LevelUnits$Decl", "endLine", "I", false)
  | 14 => ("LevelUnits$Decl", "other", "LLevelUnits$Decl;", false)
  | 15 => ("LevelUnits$Decl", "reveal", "LLevelUnits$Decl;", false)
  | 16 => ("LevelUnits$Decl", "mask", "I", false)
  | 17 => ("LevelUnits$Decl", "cells", "I", false)
  | _ => ("LevelUnits$Decl", "held", "LLevelUnits$Node;", false)
def tyX1 : Nat → FieldType := fun k => match k with
  | 0 => .int
  | 1 => .int
  | 2 => .int
  | 3 => .int
  | 4 => .object "LevelUnits$Decl"
  | 5 => .object "LevelUnits$Decl"
  | 6 => .object "LevelUnits$Node"
  | 7 => .object "LevelUnits$Node"
  | 8 => .object "LevelUnits$Op"
  | 9 => .int
  | 10 => .int
  | 11 => .object "LevelUnits$Decl"
  | 12 => .object "LevelUnits$Stat"
  | 13 => .int
  | 14 => .object "LevelUnits$Decl"
  | 15 => .object "LevelUnits$Decl"
  | 16 => .int
  | 17 => .int
  | _ => .object "LevelUnits$Node"
abbrev wsX10 : List Cond := u_ws RX1 TX1 19
theorem nmX1 : ∀ a, a < 19 → ∀ b, b < 19 → a ≠ b → (TX1 a).2.1 ≠ (TX1 b).2.1 := by decide +kernel
theorem tyX1_ok : ∀ k, k < 19 → parseFieldDescriptor (TX1 k).2.2.1 = some (tyX1 k) := by decide +kernel
def RX2 : String := "LevelUnits$Machine"
def TX2 : u_T := fun k => match k with
  | 0 => ("LevelUnits$Machine", "types", "LLevelUnits$Types;", false)
  | 1 => ("LevelUnits$Machine", "globals", "[I", true)
  | 2 => ("LevelUnits$Machine", "heap", "[I", true)
  | 3 => ("LevelUnits$Machine", "starts", "[I", true)
  | 4 => ("LevelUnits$Machine", "kinds", "[LLevelUnits$Node;", true)
  | 5 => ("LevelUnits$Machine", "holders", "[I", true)
  | 6 => ("LevelUnits$Machine", "things", "I", false)
  | 7 => ("LevelUnits$Machine", "strands", "[LLevelUnits$Strand;", true)
  | 8 => ("LevelUnits$Machine", "made", "I", false)
  | 9 => ("LevelUnits$Machine", "seed", "I", false)
  | 10 => ("LevelUnits$Machine", "steps", "I", false)
  | 11 => ("LevelUnits$Machine", "numbers", "[I", true)
  | 12 => ("LevelUnits$Machine", "outputs", "I", false)
  | 13 => ("LevelUnits$Machine", "values", "[I", true)
  | 14 => ("LevelUnits$Machine", "top", "I", false)
  | 15 => ("LevelUnits$Machine", "passed", "[I", true)
  | 16 => ("LevelUnits$Machine", "forked", "LLevelUnits$Strand;", false)
  | 17 => ("LevelUnits$Machine", "fault", "I", false)
  | _ => ("LevelUnits$Machine", "faultLine", "I", false)
def tyX2 : Nat → FieldType := fun k => match k with
  | 0 => .object "LevelUnits$Types"
  | 1 => .array .int
  | 2 => .array .int
  | 3 => .array .int
  | 4 => .array (.object "LevelUnits$Node")
  | 5 => .array .int
  | 6 => .int
  | 7 => .array (.object "LevelUnits$Strand")
  | 8 => .int
  | 9 => .int
  | 10 => .int
  | 11 => .array .int
  | 12 => .int
  | 13 => .array .int
  | 14 => .int
  | 15 => .array .int
  | 16 => .object "LevelUnits$Strand"
  | 17 => .int
  | _ => .int
abbrev wsX20 : List Cond := u_ws RX2 TX2 19
theorem nmX2 : ∀ a, a < 19 → ∀ b, b < 19 → a ≠ b → (TX2 a).2.1 ≠ (TX2 b).2.1 := by decide +kernel
theorem tyX2_ok : ∀ k, k < 19 → parseFieldDescriptor (TX2 k).2.2.1 = some (tyX2 k) := by decide +kernel
abbrev cX2_init : ByteArray := prog_4_method_1_code
def yX2_init : MethodName := ⟨RX2, "<init>", "()V"⟩
abbrev cX2_figure : ByteArray := prog_4_method_60_code
def yX2_figure : MethodName := ⟨RX2, "figure", "(I)I"⟩
abbrev cX2_outputAt : ByteArray := prog_4_method_65_code
def yX2_outputAt : MethodName := ⟨RX2, "outputAt", "(I)I"⟩
abbrev cX2_globalAt : ByteArray := prog_4_method_66_code
def yX2_globalAt : MethodName := ⟨RX2, "globalAt", "(I)I"⟩
abbrev cX2_threadTold : ByteArray := prog_4_method_67_code
def yX2_threadTold : MethodName := ⟨RX2, "threadTold", "(II)I"⟩
abbrev cX2_thingTold : ByteArray := prog_4_method_68_code
def yX2_thingTold : MethodName := ⟨RX2, "thingTold", "(II)I"⟩
abbrev cX2_cellOfThing : ByteArray := prog_4_method_70_code
def yX2_cellOfThing : MethodName := ⟨RX2, "cellOfThing", "(II)I"⟩
def RX3 : String := "LevelUnits$Names"
def TX3 : u_T := fun k => match k with
  | 0 => ("LevelUnits$Names", "text", "LLevelUnits$Parser;", true)
  | _ => ("LevelUnits$Names", "found", "I", false)
def tyX3 : Nat → FieldType := fun k => match k with
  | 0 => .object "LevelUnits$Parser"
  | _ => .int
abbrev wsX30 : List Cond := u_ws RX3 TX3 2
theorem nmX3 : ∀ a, a < 2 → ∀ b, b < 2 → a ≠ b → (TX3 a).2.1 ≠ (TX3 b).2.1 := by decide +kernel
theorem tyX3_ok : ∀ k, k < 2 → parseFieldDescriptor (TX3 k).2.2.1 = some (tyX3 k) := by decide +kernel
def RX4 : String := "LevelUnits$Node"
def TX4 : u_T := fun k => match k with
  | 0 => ("LevelUnits$Node", "kind", "I", true)
  | 1 => ("LevelUnits$Node", "index", "I", true)
  | 2 => ("LevelUnits$Node", "line", "I", true)
  | 3 => ("LevelUnits$Node", "unit", "LLevelUnits$Decl;", true)
  | 4 => ("LevelUnits$Node", "lo", "I", false)
  | 5 => ("LevelUnits$Node", "hi", "I", false)
  | 6 => ("LevelUnits$Node", "elem", "LLevelUnits$Node;", false)
  | 7 => ("LevelUnits$Node", "items", "LLevelUnits$Decl;", false)
  | 8 => ("LevelUnits$Node", "raises", "LLevelUnits$Op;", false)
  | 9 => ("LevelUnits$Node", "use", "LLevelUnits$Op;", false)
  | 10 => ("LevelUnits$Node", "own", "LLevelUnits$Decl;", false)
  | 11 => ("LevelUnits$Node", "real", "LLevelUnits$Node;", false)
  | 12 => ("LevelUnits$Node", "up", "LLevelUnits$Node;", false)
  | 13 => ("LevelUnits$Node", "views", "[LLevelUnits$Node;", false)
  | 14 => ("LevelUnits$Node", "shape", "I", false)
  | 15 => ("LevelUnits$Node", "cells", "I", false)
  | 16 => ("LevelUnits$Node", "firsts", "[I", false)
  | 17 => ("LevelUnits$Node", "size", "I", false)
  | 18 => ("LevelUnits$Node", "next", "LLevelUnits$Node;", false)
  | _ => ("LevelUnits$Node", "nextHeld", "LLevelUnits$Node;", false)
def tyX4 : Nat → FieldType := fun k => match k with
  | 0 => .int
  | 1 => .int
  | 2 => .int
  | 3 => .object "LevelUnits$Decl"
  | 4 => .int
  | 5 => .int
  | 6 => .object "LevelUnits$Node"
  | 7 => .object "LevelUnits$Decl"
  | 8 => .object "LevelUnits$Op"
  | 9 => .object "LevelUnits$Op"
  | 10 => .object "LevelUnits$Decl"
  | 11 => .object "LevelUnits$Node"
  | 12 => .object "LevelUnits$Node"
  | 13 => .array (.object "LevelUnits$Node")
  | 14 => .int
  | 15 => .int
  | 16 => .array .int
  | 17 => .int
  | 18 => .object "LevelUnits$Node"
  | _ => .object "LevelUnits$Node"
abbrev wsX40 : List Cond := u_ws RX4 TX4 20
theorem nmX4 : ∀ a, a < 20 → ∀ b, b < 20 → a ≠ b → (TX4 a).2.1 ≠ (TX4 b).2.1 := by decide +kernel
theorem tyX4_ok : ∀ k, k < 20 → parseFieldDescriptor (TX4 k).2.2.1 = some (tyX4 k) := by decide +kernel
def RX5 : String := "LevelUnits$Op"
def TX5 : u_T := fun k => match k with
  | 0 => ("LevelUnits$Op", "kind", "I", false)
  | 1 => ("LevelUnits$Op", "name", "I", true)
  | 2 => ("LevelUnits$Op", "unitName", "I", true)
  | 3 => ("LevelUnits$Op", "line", "I", true)
  | 4 => ("LevelUnits$Op", "type", "LLevelUnits$Node;", false)
  | 5 => ("LevelUnits$Op", "decl", "LLevelUnits$Decl;", false)
  | 6 => ("LevelUnits$Op", "sub", "LLevelUnits$Op;", false)
  | _ => ("LevelUnits$Op", "next", "LLevelUnits$Op;", false)
def tyX5 : Nat → FieldType := fun k => match k with
  | 0 => .int
  | 1 => .int
  | 2 => .int
  | 3 => .int
  | 4 => .object "LevelUnits$Node"
  | 5 => .object "LevelUnits$Decl"
  | 6 => .object "LevelUnits$Op"
  | _ => .object "LevelUnits$Op"
abbrev wsX50 : List Cond := u_ws RX5 TX5 8
theorem nmX5 : ∀ a, a < 8 → ∀ b, b < 8 → a ≠ b → (TX5 a).2.1 ≠ (TX5 b).2.1 := by decide +kernel
theorem tyX5_ok : ∀ k, k < 8 → parseFieldDescriptor (TX5 k).2.2.1 = some (tyX5 k) := by decide +kernel
def RX6 : String := "LevelUnits$Parser"
def TX6 : u_T := fun k => match k with
  | 0 => ("LevelUnits$Parser", "in", "LLevelUnits$Scanner;", true)
  | 1 => ("LevelUnits$Parser", "at", "I", false)
  | 2 => ("LevelUnits$Parser", "kind", "I", false)
  | 3 => ("LevelUnits$Parser", "fault", "I", false)
  | 4 => ("LevelUnits$Parser", "open", "[I", true)
  | 5 => ("LevelUnits$Parser", "waiting", "[I", true)
  | 6 => ("LevelUnits$Parser", "waitingTop", "I", false)
  | 7 => ("LevelUnits$Parser", "unit", "LLevelUnits$Decl;", false)
  | 8 => ("LevelUnits$Parser", "body", "LLevelUnits$Decl;", false)
  | 9 => ("LevelUnits$Parser", "holder", "LLevelUnits$Decl;", false)
  | 10 => ("LevelUnits$Parser", "line", "I", false)
  | 11 => ("LevelUnits$Parser", "tail", "LLevelUnits$Op;", false)
  | 12 => ("LevelUnits$Parser", "lastTold", "LLevelUnits$Decl;", false)
  | 13 => ("LevelUnits$Parser", "lastNode", "LLevelUnits$Node;", false)
  | 14 => ("LevelUnits$Parser", "lastStat", "LLevelUnits$Stat;", false)
  | 15 => ("LevelUnits$Parser", "units", "LLevelUnits$Decl;", false)
  | 16 => ("LevelUnits$Parser", "stats", "LLevelUnits$Stat;", false)
  | 17 => ("LevelUnits$Parser", "root", "LLevelUnits$Node;", true)
  | 18 => ("LevelUnits$Parser", "integer", "LLevelUnits$Node;", true)
  | _ => ("LevelUnits$Parser", "bool", "LLevelUnits$Node;", true)
def tyX6 : Nat → FieldType := fun k => match k with
  | 0 => .object "LevelUnits$Scanner"
  | 1 => .int
  | 2 => .int
  | 3 => .int
  | 4 => .array .int
  | 5 => .array .int
  | 6 => .int
  | 7 => .object "LevelUnits$Decl"
  | 8 => .object "LevelUnits$Decl"
  | 9 => .object "LevelUnits$Decl"
  | 10 => .int
  | 11 => .object "LevelUnits$Op"
  | 12 => .object "LevelUnits$Decl"
  | 13 => .object "LevelUnits$Node"
  | 14 => .object "LevelUnits$Stat"
  | 15 => .object "LevelUnits$Decl"
  | 16 => .object "LevelUnits$Stat"
  | 17 => .object "LevelUnits$Node"
  | 18 => .object "LevelUnits$Node"
  | _ => .object "LevelUnits$Node"
abbrev wsX60 : List Cond := u_ws RX6 TX6 20
theorem nmX6 : ∀ a, a < 20 → ∀ b, b < 20 → a ≠ b → (TX6 a).2.1 ≠ (TX6 b).2.1 := by decide +kernel
theorem tyX6_ok : ∀ k, k < 20 → parseFieldDescriptor (TX6 k).2.2.1 = some (tyX6 k) := by decide +kernel
def RX7 : String := "LevelUnits$Scanner"
def TX7 : u_T := fun k => match k with
  | 0 => ("LevelUnits$Scanner", "kinds", "[I", true)
  | 1 => ("LevelUnits$Scanner", "values", "[I", true)
  | 2 => ("LevelUnits$Scanner", "lines", "[I", true)
  | 3 => ("LevelUnits$Scanner", "tokens", "I", false)
  | 4 => ("LevelUnits$Scanner", "text", "[B", false)
  | 5 => ("LevelUnits$Scanner", "size", "I", false)
  | 6 => ("LevelUnits$Scanner", "at", "I", false)
  | 7 => ("LevelUnits$Scanner", "line", "I", false)
  | 8 => ("LevelUnits$Scanner", "heads", "[I", true)
  | 9 => ("LevelUnits$Scanner", "chains", "[I", true)
  | 10 => ("LevelUnits$Scanner", "starts", "[I", true)
  | 11 => ("LevelUnits$Scanner", "sizes", "[I", true)
  | _ => ("LevelUnits$Scanner", "names", "I", false)
def tyX7 : Nat → FieldType := fun k => match k with
  | 0 => .array .int
  | 1 => .array .int
  | 2 => .array .int
  | 3 => .int
  | 4 => .array .byte
  | 5 => .int
  | 6 => .int
  | 7 => .int
  | 8 => .array .int
  | 9 => .array .int
  | 10 => .array .int
  | 11 => .array .int
  | _ => .int
abbrev wsX70 : List Cond := u_ws RX7 TX7 13
theorem nmX7 : ∀ a, a < 13 → ∀ b, b < 13 → a ≠ b → (TX7 a).2.1 ≠ (TX7 b).2.1 := by decide +kernel
theorem tyX7_ok : ∀ k, k < 13 → parseFieldDescriptor (TX7 k).2.2.1 = some (tyX7 k) := by decide +kernel
abbrev cX7_init : ByteArray := prog_9_method_1_code
def yX7_init : MethodName := ⟨RX7, "<init>", "()V"⟩
def RX8 : String := "LevelUnits$Stat"
def TX8 : u_T := fun k => match k with
  | 0 => ("LevelUnits$Stat", "kind", "I", false)
  | 1 => ("LevelUnits$Stat", "line", "I", true)
  | 2 => ("LevelUnits$Stat", "home", "LLevelUnits$Stat;", true)
  | 3 => ("LevelUnits$Stat", "decl", "LLevelUnits$Decl;", true)
  | 4 => ("LevelUnits$Stat", "next", "LLevelUnits$Stat;", false)
  | 5 => ("LevelUnits$Stat", "nextOfAll", "LLevelUnits$Stat;", false)
  | 6 => ("LevelUnits$Stat", "parts", "LLevelUnits$Stat;", false)
  | 7 => ("LevelUnits$Stat", "place", "LLevelUnits$Op;", false)
  | 8 => ("LevelUnits$Stat", "first", "LLevelUnits$Op;", false)
  | 9 => ("LevelUnits$Stat", "second", "LLevelUnits$Op;", false)
  | 10 => ("LevelUnits$Stat", "parameters", "LLevelUnits$Op;", false)
  | 11 => ("LevelUnits$Stat", "use", "LLevelUnits$Op;", false)
  | 12 => ("LevelUnits$Stat", "name", "LLevelUnits$Decl;", false)
  | 13 => ("LevelUnits$Stat", "type", "LLevelUnits$Node;", false)
  | _ => ("LevelUnits$Stat", "level", "I", false)
def tyX8 : Nat → FieldType := fun k => match k with
  | 0 => .int
  | 1 => .int
  | 2 => .object "LevelUnits$Stat"
  | 3 => .object "LevelUnits$Decl"
  | 4 => .object "LevelUnits$Stat"
  | 5 => .object "LevelUnits$Stat"
  | 6 => .object "LevelUnits$Stat"
  | 7 => .object "LevelUnits$Op"
  | 8 => .object "LevelUnits$Op"
  | 9 => .object "LevelUnits$Op"
  | 10 => .object "LevelUnits$Op"
  | 11 => .object "LevelUnits$Op"
  | 12 => .object "LevelUnits$Decl"
  | 13 => .object "LevelUnits$Node"
  | _ => .int
abbrev wsX80 : List Cond := u_ws RX8 TX8 15
theorem nmX8 : ∀ a, a < 15 → ∀ b, b < 15 → a ≠ b → (TX8 a).2.1 ≠ (TX8 b).2.1 := by decide +kernel
theorem tyX8_ok : ∀ k, k < 15 → parseFieldDescriptor (TX8 k).2.2.1 = some (tyX8 k) := by decide +kernel
def RX9 : String := "LevelUnits$Strand"
def TX9 : u_T := fun k => match k with
  | 0 => ("LevelUnits$Strand", "number", "I", true)
  | 1 => ("LevelUnits$Strand", "state", "I", false)
  | 2 => ("LevelUnits$Strand", "waitsFor", "I", false)
  | 3 => ("LevelUnits$Strand", "mutex", "I", false)
  | 4 => ("LevelUnits$Strand", "since", "I", false)
  | 5 => ("LevelUnits$Strand", "stat", "LLevelUnits$Stat;", false)
  | 6 => ("LevelUnits$Strand", "again", "Z", false)
  | 7 => ("LevelUnits$Strand", "part", "LLevelUnits$Stat;", false)
  | 8 => ("LevelUnits$Strand", "at", "LLevelUnits$Stat;", false)
  | 9 => ("LevelUnits$Strand", "leaving", "I", false)
  | 10 => ("LevelUnits$Strand", "exception", "I", false)
  | 11 => ("LevelUnits$Strand", "amount", "I", false)
  | 12 => ("LevelUnits$Strand", "faultLine", "I", false)
  | 13 => ("LevelUnits$Strand", "calls", "I", false)
  | 14 => ("LevelUnits$Strand", "cells", "I", false)
  | 15 => ("LevelUnits$Strand", "row", "[I", true)
  | 16 => ("LevelUnits$Strand", "slots", "[I", true)
  | 17 => ("LevelUnits$Strand", "callers", "[LLevelUnits$Stat;", true)
  | 18 => ("LevelUnits$Strand", "targets", "[I", true)
  | _ => ("LevelUnits$Strand", "bases", "[I", true)
def tyX9 : Nat → FieldType := fun k => match k with
  | 0 => .int
  | 1 => .int
  | 2 => .int
  | 3 => .int
  | 4 => .int
  | 5 => .object "LevelUnits$Stat"
  | 6 => .boolean
  | 7 => .object "LevelUnits$Stat"
  | 8 => .object "LevelUnits$Stat"
  | 9 => .int
  | 10 => .int
  | 11 => .int
  | 12 => .int
  | 13 => .int
  | 14 => .int
  | 15 => .array .int
  | 16 => .array .int
  | 17 => .array (.object "LevelUnits$Stat")
  | 18 => .array .int
  | _ => .array .int
abbrev wsX90 : List Cond := u_ws RX9 TX9 20
theorem nmX9 : ∀ a, a < 20 → ∀ b, b < 20 → a ≠ b → (TX9 a).2.1 ≠ (TX9 b).2.1 := by decide +kernel
theorem tyX9_ok : ∀ k, k < 20 → parseFieldDescriptor (TX9 k).2.2.1 = some (tyX9 k) := by decide +kernel
def RX10 : String := "LevelUnits$Types"
def TX10 : u_T := fun k => match k with
  | 0 => ("LevelUnits$Types", "tokens", "I", true)
  | 1 => ("LevelUnits$Types", "unitRow", "[LLevelUnits$Decl;", true)
  | 2 => ("LevelUnits$Types", "typeRow", "[LLevelUnits$Decl;", true)
  | 3 => ("LevelUnits$Types", "procedureRow", "[LLevelUnits$Decl;", true)
  | 4 => ("LevelUnits$Types", "least", "[I", false)
  | 5 => ("LevelUnits$Types", "globalCells", "I", false)
  | 6 => ("LevelUnits$Types", "integer", "LLevelUnits$Node;", true)
  | 7 => ("LevelUnits$Types", "bool", "LLevelUnits$Node;", true)
  | 8 => ("LevelUnits$Types", "nil", "LLevelUnits$Node;", true)
  | 9 => ("LevelUnits$Types", "nodes", "LLevelUnits$Node;", true)
  | 10 => ("LevelUnits$Types", "nodeCount", "I", true)
  | 11 => ("LevelUnits$Types", "seen", "[LLevelUnits$Decl;", true)
  | _ => ("LevelUnits$Types", "found", "I", false)
def tyX10 : Nat → FieldType := fun k => match k with
  | 0 => .int
  | 1 => .array (.object "LevelUnits$Decl")
  | 2 => .array (.object "LevelUnits$Decl")
  | 3 => .array (.object "LevelUnits$Decl")
  | 4 => .array .int
  | 5 => .int
  | 6 => .object "LevelUnits$Node"
  | 7 => .object "LevelUnits$Node"
  | 8 => .object "LevelUnits$Node"
  | 9 => .object "LevelUnits$Node"
  | 10 => .int
  | 11 => .array (.object "LevelUnits$Decl")
  | _ => .int
abbrev wsX100 : List Cond := u_ws RX10 TX10 13
theorem nmX10 : ∀ a, a < 13 → ∀ b, b < 13 → a ≠ b → (TX10 a).2.1 ≠ (TX10 b).2.1 := by decide +kernel
theorem tyX10_ok : ∀ k, k < 13 → parseFieldDescriptor (TX10 k).2.2.1 = some (tyX10 k) := by decide +kernel
def RX11 : String := "LevelUnits"
def TX11 : u_T := fun k => match k with
  | 0 => ("LevelUnits", "tape", "[B", true)
  | 1 => ("LevelUnits", "length", "I", false)
  | 2 => ("LevelUnits", "scanner", "LLevelUnits$Scanner;", true)
  | 3 => ("LevelUnits", "machine", "LLevelUnits$Machine;", true)
  | _ => ("LevelUnits", "program", "LLevelUnits$Types;", false)
def tyX11 : Nat → FieldType := fun k => match k with
  | 0 => .array .byte
  | 1 => .int
  | 2 => .object "LevelUnits$Scanner"
  | 3 => .object "LevelUnits$Machine"
  | _ => .object "LevelUnits$Types"
abbrev wsX110 : List Cond := u_ws RX11 TX11 5
theorem nmX11 : ∀ a, a < 5 → ∀ b, b < 5 → a ≠ b → (TX11 a).2.1 ≠ (TX11 b).2.1 := by decide +kernel
theorem tyX11_ok : ∀ k, k < 5 → parseFieldDescriptor (TX11 k).2.2.1 = some (tyX11 k) := by decide +kernel
abbrev cX11_init : ByteArray := prog_1_method_1_code
def yX11_init : MethodName := ⟨RX11, "<init>", "()V"⟩
abbrev cX11_feed : ByteArray := prog_1_method_2_code
def yX11_feed : MethodName := ⟨RX11, "feed", "(IIIII)I"⟩
abbrev cX11_putBytes : ByteArray := prog_1_method_3_code
def yX11_putBytes : MethodName := ⟨RX11, "putBytes", "(I)V"⟩
abbrev cX11_back : ByteArray := prog_1_method_4_code
def yX11_back : MethodName := ⟨RX11, "back", "(I)I"⟩
abbrev cX11_count : ByteArray := prog_1_method_6_code
def yX11_count : MethodName := ⟨RX11, "count", "(I)I"⟩
abbrev cX11_typeNumbered : ByteArray := prog_1_method_7_code
def yX11_typeNumbered : MethodName := ⟨RX11, "typeNumbered", "(I)LLevelUnits$Node;"⟩
abbrev cX11_unitNumbered : ByteArray := prog_1_method_8_code
def yX11_unitNumbered : MethodName := ⟨RX11, "unitNumbered", "(I)LLevelUnits$Decl;"⟩
abbrev cX11_alike : ByteArray := prog_1_method_9_code
def yX11_alike : MethodName := ⟨RX11, "alike", "(II)I"⟩
abbrev cX11_below : ByteArray := prog_1_method_10_code
def yX11_below : MethodName := ⟨RX11, "below", "(III)I"⟩
abbrev cX11_type : ByteArray := prog_1_method_11_code
def yX11_type : MethodName := ⟨RX11, "type", "(II)I"⟩
abbrev cX11_sees : ByteArray := prog_1_method_12_code
def yX11_sees : MethodName := ⟨RX11, "sees", "(II)I"⟩
abbrev cX11_output : ByteArray := prog_1_method_18_code
def yX11_output : MethodName := ⟨RX11, "output", "(I)I"⟩
abbrev cX11_cell : ByteArray := prog_1_method_19_code
def yX11_cell : MethodName := ⟨RX11, "cell", "(I)I"⟩
abbrev cX11_thread : ByteArray := prog_1_method_20_code
def yX11_thread : MethodName := ⟨RX11, "thread", "(II)I"⟩
abbrev cX11_thing : ByteArray := prog_1_method_21_code
def yX11_thing : MethodName := ⟨RX11, "thing", "(II)I"⟩
abbrev cX11_inside : ByteArray := prog_1_method_22_code
def yX11_inside : MethodName := ⟨RX11, "inside", "(II)I"⟩
def RX12 : String := "LevelUnitsModel$Stop"
def TX12 : u_T := fun k => match k with
  | 0 => ("java/lang/Throwable", "cause", "Ljava/lang/Throwable;", false)
  | 1 => ("java/lang/Throwable", "stackTrace", "[Ljava/lang/StackTraceElement;", false)
  | 2 => ("java/lang/Throwable", "suppressedExceptions", "Ljava/util/List;", false)
  | 3 => ("java/lang/Throwable", "detailMessage", "Ljava/lang/String;", false)
  | 4 => ("java/lang/Throwable", "backtrace", "Ljava/lang/Object;", false)
  | _ => ("java/lang/Throwable", "depth", "I", false)
def tyX12 : Nat → FieldType := fun k => match k with
  | 0 => .object "java/lang/Throwable"
  | 1 => .array (.object "java/lang/StackTraceElement")
  | 2 => .object "java/util/List"
  | 3 => .object "java/lang/String"
  | 4 => .object "java/lang/Object"
  | _ => .int
abbrev wsX120 : List Cond := u_ws RX12 TX12 6
theorem nmX12 : ∀ a, a < 6 → ∀ b, b < 6 → a ≠ b → (TX12 a).2.1 ≠ (TX12 b).2.1 := by decide +kernel
theorem tyX12_ok : ∀ k, k < 6 → parseFieldDescriptor (TX12 k).2.2.1 = some (tyX12 k) := by decide +kernel
abbrev cX12_init : ByteArray := prog_15_method_1_code
def yX12_init : MethodName := ⟨RX12, "<init>", "()V"⟩
def RX13 : String := "LevelUnitsModel"
def TX13 : u_T := fun k => match k with
  | 0 => ("LevelUnitsModel", "thrown", "I", false)
  | 1 => ("LevelUnitsModel", "stop", "LLevelUnitsModel$Stop;", true)
  | 2 => ("LevelUnitsModel", "tape", "[B", true)
  | 3 => ("LevelUnitsModel", "taped", "I", false)
  | 4 => ("LevelUnitsModel", "text", "[B", true)
  | 5 => ("LevelUnitsModel", "size", "I", false)
  | 6 => ("LevelUnitsModel", "scan", "I", false)
  | 7 => ("LevelUnitsModel", "row", "I", false)
  | 8 => ("LevelUnitsModel", "tokens", "I", false)
  | 9 => ("LevelUnitsModel", "tSort", "[I", true)
  | 10 => ("LevelUnitsModel", "tValue", "[I", true)
  | 11 => ("LevelUnitsModel", "tLine", "[I", true)
  | 12 => ("LevelUnitsModel", "names", "I", false)
  | 13 => ("LevelUnitsModel", "nameFrom", "[I", true)
  | 14 => ("LevelUnitsModel", "nameSize", "[I", true)
  | 15 => ("LevelUnitsModel", "letters", "[B", true)
  | 16 => ("LevelUnitsModel", "lettered", "I", false)
  | 17 => ("LevelUnitsModel", "fault", "I", false)
  | 18 => ("LevelUnitsModel", "faultLine", "I", false)
  | 19 => ("LevelUnitsModel", "nodes", "I", false)
  | 20 => ("LevelUnitsModel", "nk", "[I", true)
  | 21 => ("LevelUnitsModel", "nl", "[I", true)
  | 22 => ("LevelUnitsModel", "na", "[I", true)
  | 23 => ("LevelUnitsModel", "nb", "[I", true)
  | 24 => ("LevelUnitsModel", "nc", "[I", true)
  | 25 => ("LevelUnitsModel", "nd", "[I", true)
  | 26 => ("LevelUnitsModel", "ne", "[I", true)
  | 27 => ("LevelUnitsModel", "nn", "[I", true)
  | 28 => ("LevelUnitsModel", "ns", "[I", true)
  | 29 => ("LevelUnitsModel", "nu", "[I", true)
  | 30 => ("LevelUnitsModel", "nf", "[I", true)
  | 31 => ("LevelUnitsModel", "nm", "[I", true)
  | 32 => ("LevelUnitsModel", "at", "I", false)
  | 33 => ("LevelUnitsModel", "unit", "I", false)
  | 34 => ("LevelUnitsModel", "told", "I", false)
  | 35 => ("LevelUnitsModel", "head", "I", false)
  | 36 => ("LevelUnitsModel", "last", "I", false)
  | 37 => ("LevelUnitsModel", "brackets", "I", false)
  | 38 => ("LevelUnitsModel", "nots", "I", false)
  | 39 => ("LevelUnitsModel", "typesOpen", "I", false)
  | 40 => ("LevelUnitsModel", "statementsOpen", "I", false)
  | 41 => ("LevelUnitsModel", "units", "I", false)
  | 42 => ("LevelUnitsModel", "unitNode", "[I", true)
  | 43 => ("LevelUnitsModel", "symbols", "I", false)
  | 44 => ("LevelUnitsModel", "yName", "[I", true)
  | 45 => ("LevelUnitsModel", "yKind", "[I", true)
  | 46 => ("LevelUnitsModel", "yNode", "[I", true)
  | 47 => ("LevelUnitsModel", "yWhat", "[I", true)
  | 48 => ("LevelUnitsModel", "yFrom", "[I", true)
  | 49 => ("LevelUnitsModel", "yUntil", "[I", true)
  | 50 => ("LevelUnitsModel", "face", "[I", true)
  | 51 => ("LevelUnitsModel", "isModule", "[Z", true)
  | 52 => ("LevelUnitsModel", "variables", "I", false)
  | 53 => ("LevelUnitsModel", "vKind", "[I", true)
  | 54 => ("LevelUnitsModel", "vType", "[I", true)
  | 55 => ("LevelUnitsModel", "vAt", "[I", true)
  | 56 => ("LevelUnitsModel", "procedures", "I", false)
  | 57 => ("LevelUnitsModel", "pTold", "[I", true)
  | 58 => ("LevelUnitsModel", "pMade", "[I", true)
  | 59 => ("LevelUnitsModel", "exceptions", "I", false)
  | 60 => ("LevelUnitsModel", "typesTold", "I", false)
  | 61 => ("LevelUnitsModel", "typeNode", "[I", true)
  | 62 => ("LevelUnitsModel", "seen", "I", false)
  | 63 => ("LevelUnitsModel", "seenName", "[I", true)
  | 64 => ("LevelUnitsModel", "seenVariable", "[I", true)
  | 65 => ("LevelUnitsModel", "rootType", "I", false)
  | 66 => ("LevelUnitsModel", "joined", "[I", true)
  | 67 => ("LevelUnitsModel", "trail", "I", false)
  | 68 => ("LevelUnitsModel", "trailed", "[I", true)
  | 69 => ("LevelUnitsModel", "pairs", "I", false)
  | 70 => ("LevelUnitsModel", "pairA", "[I", true)
  | 71 => ("LevelUnitsModel", "pairB", "[I", true)
  | 72 => ("LevelUnitsModel", "reveal", "[I", true)
  | 73 => ("LevelUnitsModel", "ownType", "[I", true)
  | 74 => ("LevelUnitsModel", "chained", "I", false)
  | 75 => ("LevelUnitsModel", "chain", "[I", true)
  | 76 => ("LevelUnitsModel", "chainMark", "I", false)
  | 77 => ("LevelUnitsModel", "wayMark", "I", false)
  | 78 => ("LevelUnitsModel", "inChain", "[I", true)
  | 79 => ("LevelUnitsModel", "onWay", "[I", true)
  | 80 => ("LevelUnitsModel", "foundIn", "I", false)
  | 81 => ("LevelUnitsModel", "cellsKnown", "[I", true)
  | 82 => ("LevelUnitsModel", "holdsItself", "[Z", true)
  | 83 => ("LevelUnitsModel", "unitCells", "I", false)
  | 84 => ("LevelUnitsModel", "isMet", "[Z", true)
  | 85 => ("LevelUnitsModel", "integerType", "I", false)
  | 86 => ("LevelUnitsModel", "booleanType", "I", false)
  | 87 => ("LevelUnitsModel", "procedureType", "[I", true)
  | 88 => ("LevelUnitsModel", "et", "[I", true)
  | 89 => ("LevelUnitsModel", "inProcedure", "I", false)
  | 90 => ("LevelUnitsModel", "loops", "I", false)
  | 91 => ("LevelUnitsModel", "method", "I", false)
  | 92 => ("LevelUnitsModel", "methodIn", "I", false)
  | 93 => ("LevelUnitsModel", "tries", "I", false)
  | 94 => ("LevelUnitsModel", "tryNode", "[I", true)
  | 95 => ("LevelUnitsModel", "pCells", "[I", true)
  | 96 => ("LevelUnitsModel", "pAll", "[I", true)
  | 97 => ("LevelUnitsModel", "deepest", "I", false)
  | 98 => ("LevelUnitsModel", "hasProgram", "Z", false)
  | 99 => ("LevelUnitsModel", "mem", "[I", false)
  | 100 => ("LevelUnitsModel", "begun", "Z", false)
  | 101 => ("LevelUnitsModel", "seed", "I", false)
  | 102 => ("LevelUnitsModel", "steps", "I", false)
  | 103 => ("LevelUnitsModel", "things", "I", false)
  | 104 => ("LevelUnitsModel", "heaped", "I", false)
  | 105 => ("LevelUnitsModel", "thingType", "[I", true)
  | 106 => ("LevelUnitsModel", "thingAt", "[I", true)
  | 107 => ("LevelUnitsModel", "thingCells", "[I", true)
  | 108 => ("LevelUnitsModel", "holder", "[I", true)
  | 109 => ("LevelUnitsModel", "isCondition", "[Z", true)
  | 110 => ("LevelUnitsModel", "threads", "I", false)
  | 111 => ("LevelUnitsModel", "wants", "[I", true)
  | 112 => ("LevelUnitsModel", "wantsOf", "[I", true)
  | 113 => ("LevelUnitsModel", "wantsHow", "[I", true)
  | 114 => ("LevelUnitsModel", "ticket", "[I", true)
  | 115 => ("LevelUnitsModel", "tickets", "I", false)
  | 116 => ("LevelUnitsModel", "over", "[I", true)
  | 117 => ("LevelUnitsModel", "overLine", "[I", true)
  | 118 => ("LevelUnitsModel", "overWhat", "[I", true)
  | 119 => ("LevelUnitsModel", "overNumber", "[I", true)
  | 120 => ("LevelUnitsModel", "openCalls", "[I", true)
  | 121 => ("LevelUnitsModel", "openCells", "[I", true)
  | 122 => ("LevelUnitsModel", "base", "[I", true)
  | 123 => ("LevelUnitsModel", "stackTop", "[I", true)
  | 124 => ("LevelUnitsModel", "entries", "[I", true)
  | 125 => ("LevelUnitsModel", "todo", "[I", false)
  | 126 => ("LevelUnitsModel", "out", "[I", true)
  | 127 => ("LevelUnitsModel", "outputs", "I", false)
  | 128 => ("LevelUnitsModel", "t", "I", false)
  | 129 => ("LevelUnitsModel", "runFault", "I", false)
  | 130 => ("LevelUnitsModel", "runLine", "I", false)
  | 131 => ("LevelUnitsModel", "failure", "LLevelUnitsModel$Stop;", true)
  | 132 => ("LevelUnitsModel", "argument", "[I", true)
  | _ => ("LevelUnitsModel", "arguments", "I", false)
def tyX13 : Nat → FieldType := fun k => match k with
  | 0 => .int
  | 1 => .object "LevelUnitsModel$Stop"
  | 2 => .array .byte
  | 3 => .int
  | 4 => .array .byte
  | 5 => .int
  | 6 => .int
  | 7 => .int
  | 8 => .int
  | 9 => .array .int
  | 10 => .array .int
  | 11 => .array .int
  | 12 => .int
  | 13 => .array .int
  | 14 => .array .int
  | 15 => .array .byte
  | 16 => .int
  | 17 => .int
  | 18 => .int
  | 19 => .int
  | 20 => .array .int
  | 21 => .array .int
  | 22 => .array .int
  | 23 => .array .int
  | 24 => .array .int
  | 25 => .array .int
  | 26 => .array .int
  | 27 => .array .int
  | 28 => .array .int
  | 29 => .array .int
  | 30 => .array .int
  | 31 => .array .int
  | 32 => .int
  | 33 => .int
  | 34 => .int
  | 35 => .int
  | 36 => .int
  | 37 => .int
  | 38 => .int
  | 39 => .int
  | 40 => .int
  | 41 => .int
  | 42 => .array .int
  | 43 => .int
  | 44 => .array .int
  | 45 => .array .int
  | 46 => .array .int
  | 47 => .array .int
  | 48 => .array .int
  | 49 => .array .int
  | 50 => .array .int
  | 51 => .array .boolean
  | 52 => .int
  | 53 => .array .int
  | 54 => .array .int
  | 55 => .array .int
  | 56 => .int
  | 57 => .array .int
  | 58 => .array .int
  | 59 => .int
  | 60 => .int
  | 61 => .array .int
  | 62 => .int
  | 63 => .array .int
  | 64 => .array .int
  | 65 => .int
  | 66 => .array .int
  | 67 => .int
  | 68 => .array .int
  | 69 => .int
  | 70 => .array .int
  | 71 => .array .int
  | 72 => .array .int
  | 73 => .array .int
  | 74 => .int
  | 75 => .array .int
  | 76 => .int
  | 77 => .int
  | 78 => .array .int
  | 79 => .array .int
  | 80 => .int
  | 81 => .array .int
  | 82 => .array .boolean
  | 83 => .int
  | 84 => .array .boolean
  | 85 => .int
  | 86 => .int
  | 87 => .array .int
  | 88 => .array .int
  | 89 => .int
  | 90 => .int
  | 91 => .int
  | 92 => .int
  | 93 => .int
  | 94 => .array .int
  | 95 => .array .int
  | 96 => .array .int
  | 97 => .int
  | 98 => .boolean
  | 99 => .array .int
  | 100 => .boolean
  | 101 => .int
  | 102 => .int
  | 103 => .int
  | 104 => .int
  | 105 => .array .int
  | 106 => .array .int
  | 107 => .array .int
  | 108 => .array .int
  | 109 => .array .boolean
  | 110 => .int
  | 111 => .array .int
  | 112 => .array .int
  | 113 => .array .int
  | 114 => .array .int
  | 115 => .int
  | 116 => .array .int
  | 117 => .array .int
  | 118 => .array .int
  | 119 => .array .int
  | 120 => .array .int
  | 121 => .array .int
  | 122 => .array .int
  | 123 => .array .int
  | 124 => .array .int
  | 125 => .array .int
  | 126 => .array .int
  | 127 => .int
  | 128 => .int
  | 129 => .int
  | 130 => .int
  | 131 => .object "LevelUnitsModel$Stop"
  | 132 => .array .int
  | _ => .int
abbrev wsX130 : List Cond := u_ws RX13 TX13 134
theorem nmX13 : ∀ a, a < 134 → ∀ b, b < 134 → a ≠ b → (TX13 a).2.1 ≠ (TX13 b).2.1 := by decide +kernel
theorem tyX13_ok : ∀ k, k < 134 → parseFieldDescriptor (TX13 k).2.2.1 = some (tyX13 k) := by decide +kernel
abbrev cX13_init : ByteArray := prog_14_method_1_code
def yX13_init : MethodName := ⟨RX13, "<init>", "()V"⟩
abbrev cX13_feed : ByteArray := prog_14_method_5_code
def yX13_feed : MethodName := ⟨RX13, "feed", "(IIIII)I"⟩
abbrev cX13_four : ByteArray := prog_14_method_6_code
def yX13_four : MethodName := ⟨RX13, "four", "(I)V"⟩
abbrev cX13_back : ByteArray := prog_14_method_7_code
def yX13_back : MethodName := ⟨RX13, "back", "(I)I"⟩
abbrev cX13_isTold : ByteArray := prog_14_method_171_code
def yX13_isTold : MethodName := ⟨RX13, "isTold", "(I)Z"⟩
abbrev cX13_alike : ByteArray := prog_14_method_173_code
def yX13_alike : MethodName := ⟨RX13, "alike", "(II)I"⟩
abbrev cX13_below : ByteArray := prog_14_method_174_code
def yX13_below : MethodName := ⟨RX13, "below", "(III)I"⟩
abbrev cX13_type_ : ByteArray := prog_14_method_176_code
def yX13_type_ : MethodName := ⟨RX13, "type", "(II)I"⟩
abbrev cX13_sees : ByteArray := prog_14_method_177_code
def yX13_sees : MethodName := ⟨RX13, "sees", "(II)I"⟩
abbrev cX13_count : ByteArray := prog_14_method_231_code
def yX13_count : MethodName := ⟨RX13, "count", "(I)I"⟩
abbrev cX13_output : ByteArray := prog_14_method_233_code
def yX13_output : MethodName := ⟨RX13, "output", "(I)I"⟩
abbrev cX13_cell : ByteArray := prog_14_method_234_code
def yX13_cell : MethodName := ⟨RX13, "cell", "(I)I"⟩
abbrev cX13_thread : ByteArray := prog_14_method_235_code
def yX13_thread : MethodName := ⟨RX13, "thread", "(II)I"⟩
abbrev cX13_thing : ByteArray := prog_14_method_236_code
def yX13_thing : MethodName := ⟨RX13, "thing", "(II)I"⟩
abbrev cX13_inside : ByteArray := prog_14_method_237_code
def yX13_inside : MethodName := ⟨RX13, "inside", "(II)I"⟩
def RJ0 : String := "java/lang/String"
def TJ0 : u_T := fun k => match k with
  | 0 => ("java/lang/String", "value", "[B", true)
  | 1 => ("java/lang/String", "coder", "B", true)
  | 2 => ("java/lang/String", "hash", "I", false)
  | _ => ("java/lang/String", "hashIsZero", "Z", false)
def tyJ0 : Nat → FieldType := fun k => match k with
  | 0 => .array .byte
  | 1 => .byte
  | 2 => .int
  | _ => .boolean
abbrev wsJ00 : List Cond := u_ws RJ0 TJ0 4
theorem nmJ0 : ∀ a, a < 4 → ∀ b, b < 4 → a ≠ b → (TJ0 a).2.1 ≠ (TJ0 b).2.1 := by decide +kernel
theorem tyJ0_ok : ∀ k, k < 4 → parseFieldDescriptor (TJ0 k).2.2.1 = some (tyJ0 k) := by decide +kernel
def RJ4 : String := "java/lang/StringBuilder"
def TJ4 : u_T := fun k => match k with
  | 0 => ("java/lang/AbstractStringBuilder", "value", "[B", false)
  | 1 => ("java/lang/AbstractStringBuilder", "coder", "B", false)
  | 2 => ("java/lang/AbstractStringBuilder", "maybeLatin1", "Z", false)
  | _ => ("java/lang/AbstractStringBuilder", "count", "I", false)
def tyJ4 : Nat → FieldType := fun k => match k with
  | 0 => .array .byte
  | 1 => .byte
  | 2 => .boolean
  | _ => .int
abbrev wsJ40 : List Cond := u_ws RJ4 TJ4 4
theorem nmJ4 : ∀ a, a < 4 → ∀ b, b < 4 → a ≠ b → (TJ4 a).2.1 ≠ (TJ4 b).2.1 := by decide +kernel
theorem tyJ4_ok : ∀ k, k < 4 → parseFieldDescriptor (TJ4 k).2.2.1 = some (tyJ4 k) := by decide +kernel
def RL : String := "LevelUnitsLaw"
theorem dX2_init_0 : decode cX2_init 0 = .ok (.aload_n 0, 1) := by decide +kernel
theorem dX2_init_1 : decode cX2_init 1 = .ok (.invokespecial 3, 3) := by decide +kernel
theorem dX2_init_4 : decode cX2_init 4 = .ok (.aload_n 0, 1) := by decide +kernel
theorem dX2_init_5 : decode cX2_init 5 = .ok (.sipush 5000, 3) := by decide +kernel
theorem dX2_init_8 : decode cX2_init 8 = .ok (.newarray .int, 2) := by decide +kernel
theorem dX2_init_10 : decode cX2_init 10 = .ok (.putfield 9, 3) := by decide +kernel
theorem dX2_init_13 : decode cX2_init 13 = .ok (.aload_n 0, 1) := by decide +kernel
theorem dX2_init_14 : decode cX2_init 14 = .ok (.sipush 20000, 3) := by decide +kernel
theorem dX2_init_17 : decode cX2_init 17 = .ok (.newarray .int, 2) := by decide +kernel
theorem dX2_init_19 : decode cX2_init 19 = .ok (.putfield 15, 3) := by decide +kernel
theorem dX2_init_22 : decode cX2_init 22 = .ok (.aload_n 0, 1) := by decide +kernel
theorem dX2_init_23 : decode cX2_init 23 = .ok (.sipush 2002, 3) := by decide +kernel
theorem dX2_init_26 : decode cX2_init 26 = .ok (.newarray .int, 2) := by decide +kernel
theorem dX2_init_28 : decode cX2_init 28 = .ok (.putfield 18, 3) := by decide +kernel
theorem dX2_init_31 : decode cX2_init 31 = .ok (.aload_n 0, 1) := by decide +kernel
theorem dX2_init_32 : decode cX2_init 32 = .ok (.sipush 2001, 3) := by decide +kernel
theorem dX2_init_35 : decode cX2_init 35 = .ok (.anewarray 21, 3) := by decide +kernel
theorem dX2_init_38 : decode cX2_init 38 = .ok (.putfield 23, 3) := by decide +kernel
theorem dX2_init_41 : decode cX2_init 41 = .ok (.aload_n 0, 1) := by decide +kernel
theorem dX2_init_42 : decode cX2_init 42 = .ok (.sipush 2001, 3) := by decide +kernel
theorem dX2_init_45 : decode cX2_init 45 = .ok (.newarray .int, 2) := by decide +kernel
theorem dX2_init_47 : decode cX2_init 47 = .ok (.putfield 27, 3) := by decide +kernel
theorem dX2_init_50 : decode cX2_init 50 = .ok (.aload_n 0, 1) := by decide +kernel
theorem dX2_init_51 : decode cX2_init 51 = .ok (.bipush 64, 2) := by decide +kernel
theorem dX2_init_53 : decode cX2_init 53 = .ok (.anewarray 30, 3) := by decide +kernel
theorem dX2_init_56 : decode cX2_init 56 = .ok (.putfield 32, 3) := by decide +kernel
theorem dX2_init_59 : decode cX2_init 59 = .ok (.aload_n 0, 1) := by decide +kernel
theorem dX2_init_60 : decode cX2_init 60 = .ok (.sipush 500, 3) := by decide +kernel
theorem dX2_init_63 : decode cX2_init 63 = .ok (.newarray .int, 2) := by decide +kernel
theorem dX2_init_65 : decode cX2_init 65 = .ok (.putfield 36, 3) := by decide +kernel
theorem dX2_init_68 : decode cX2_init 68 = .ok (.aload_n 0, 1) := by decide +kernel
theorem dX2_init_69 : decode cX2_init 69 = .ok (.sipush 200, 3) := by decide +kernel
theorem dX2_init_72 : decode cX2_init 72 = .ok (.newarray .int, 2) := by decide +kernel
theorem dX2_init_74 : decode cX2_init 74 = .ok (.putfield 39, 3) := by decide +kernel
theorem dX2_init_77 : decode cX2_init 77 = .ok (.aload_n 0, 1) := by decide +kernel
theorem dX2_init_78 : decode cX2_init 78 = .ok (.sipush 16000, 3) := by decide +kernel
theorem dX2_init_81 : decode cX2_init 81 = .ok (.newarray .int, 2) := by decide +kernel
theorem dX2_init_83 : decode cX2_init 83 = .ok (.putfield 42, 3) := by decide +kernel
theorem dX2_init_86 : decode cX2_init 86 = .ok (.return_, 1) := by decide +kernel
theorem dX2_figure_0 : decode cX2_figure 0 = .ok (.aload_n 0, 1) := by decide +kernel
theorem dX2_figure_1 : decode cX2_figure 1 = .ok (.getfield 49, 3) := by decide +kernel
theorem dX2_figure_4 : decode cX2_figure 4 = .ok (.ifCond .ne 5, 3) := by decide +kernel
theorem dX2_figure_7 : decode cX2_figure 7 = .ok (.iconst 0, 1) := by decide +kernel
theorem dX2_figure_8 : decode cX2_figure 8 = .ok (.ireturn, 1) := by decide +kernel
theorem dX2_outputAt_0 : decode cX2_outputAt 0 = .ok (.aload_n 0, 1) := by decide +kernel
theorem dX2_outputAt_1 : decode cX2_outputAt 1 = .ok (.getfield 49, 3) := by decide +kernel
theorem dX2_outputAt_4 : decode cX2_outputAt 4 = .ok (.ifCond .le 24, 3) := by decide +kernel
theorem dX2_outputAt_28 : decode cX2_outputAt 28 = .ok (.iconst 0, 1) := by decide +kernel
theorem dX2_outputAt_29 : decode cX2_outputAt 29 = .ok (.ireturn, 1) := by decide +kernel
theorem dX2_globalAt_0 : decode cX2_globalAt 0 = .ok (.aload_n 0, 1) := by decide +kernel
theorem dX2_globalAt_1 : decode cX2_globalAt 1 = .ok (.getfield 49, 3) := by decide +kernel
theorem dX2_globalAt_4 : decode cX2_globalAt 4 = .ok (.ifCond .le 34, 3) := by decide +kernel
theorem dX2_globalAt_38 : decode cX2_globalAt 38 = .ok (.iconst 0, 1) := by decide +kernel
theorem dX2_globalAt_39 : decode cX2_globalAt 39 = .ok (.ireturn, 1) := by decide +kernel
theorem dX2_threadTold_0 : decode cX2_threadTold 0 = .ok (.iload_n 1, 1) := by decide +kernel
theorem dX2_threadTold_1 : decode cX2_threadTold 1 = .ok (.ifCond .lt 11, 3) := by decide +kernel
theorem dX2_threadTold_4 : decode cX2_threadTold 4 = .ok (.iload_n 1, 1) := by decide +kernel
theorem dX2_threadTold_5 : decode cX2_threadTold 5 = .ok (.aload_n 0, 1) := by decide +kernel
theorem dX2_threadTold_6 : decode cX2_threadTold 6 = .ok (.getfield 49, 3) := by decide +kernel
theorem dX2_threadTold_9 : decode cX2_threadTold 9 = .ok (.if_icmp .lt 5, 3) := by decide +kernel
theorem dX2_threadTold_12 : decode cX2_threadTold 12 = .ok (.iconst (-1), 1) := by decide +kernel
theorem dX2_threadTold_13 : decode cX2_threadTold 13 = .ok (.ireturn, 1) := by decide +kernel
theorem dX2_thingTold_0 : decode cX2_thingTold 0 = .ok (.aload_n 0, 1) := by decide +kernel
theorem dX2_thingTold_1 : decode cX2_thingTold 1 = .ok (.getfield 49, 3) := by decide +kernel
theorem dX2_thingTold_4 : decode cX2_thingTold 4 = .ok (.ifCond .eq 16, 3) := by decide +kernel
theorem dX2_thingTold_20 : decode cX2_thingTold 20 = .ok (.iconst (-1), 1) := by decide +kernel
theorem dX2_thingTold_21 : decode cX2_thingTold 21 = .ok (.ireturn, 1) := by decide +kernel
theorem dX2_cellOfThing_0 : decode cX2_cellOfThing 0 = .ok (.aload_n 0, 1) := by decide +kernel
theorem dX2_cellOfThing_1 : decode cX2_cellOfThing 1 = .ok (.getfield 49, 3) := by decide +kernel
theorem dX2_cellOfThing_4 : decode cX2_cellOfThing 4 = .ok (.ifCond .eq 39, 3) := by decide +kernel
theorem dX2_cellOfThing_43 : decode cX2_cellOfThing 43 = .ok (.iconst 0, 1) := by decide +kernel
theorem dX2_cellOfThing_44 : decode cX2_cellOfThing 44 = .ok (.ireturn, 1) := by decide +kernel
theorem dX7_init_0 : decode cX7_init 0 = .ok (.aload_n 0, 1) := by decide +kernel
theorem dX7_init_1 : decode cX7_init 1 = .ok (.invokespecial 3, 3) := by decide +kernel
theorem dX7_init_4 : decode cX7_init 4 = .ok (.aload_n 0, 1) := by decide +kernel
theorem dX7_init_5 : decode cX7_init 5 = .ok (.sipush 6001, 3) := by decide +kernel
theorem dX7_init_8 : decode cX7_init 8 = .ok (.newarray .int, 2) := by decide +kernel
theorem dX7_init_10 : decode cX7_init 10 = .ok (.putfield 9, 3) := by decide +kernel
theorem dX7_init_13 : decode cX7_init 13 = .ok (.aload_n 0, 1) := by decide +kernel
theorem dX7_init_14 : decode cX7_init 14 = .ok (.sipush 6001, 3) := by decide +kernel
theorem dX7_init_17 : decode cX7_init 17 = .ok (.newarray .int, 2) := by decide +kernel
theorem dX7_init_19 : decode cX7_init 19 = .ok (.putfield 15, 3) := by decide +kernel
theorem dX7_init_22 : decode cX7_init 22 = .ok (.aload_n 0, 1) := by decide +kernel
theorem dX7_init_23 : decode cX7_init 23 = .ok (.sipush 6001, 3) := by decide +kernel
theorem dX7_init_26 : decode cX7_init 26 = .ok (.newarray .int, 2) := by decide +kernel
theorem dX7_init_28 : decode cX7_init 28 = .ok (.putfield 18, 3) := by decide +kernel
theorem dX7_init_31 : decode cX7_init 31 = .ok (.aload_n 0, 1) := by decide +kernel
theorem dX7_init_32 : decode cX7_init 32 = .ok (.sipush 256, 3) := by decide +kernel
theorem dX7_init_35 : decode cX7_init 35 = .ok (.newarray .int, 2) := by decide +kernel
theorem dX7_init_37 : decode cX7_init 37 = .ok (.putfield 21, 3) := by decide +kernel
theorem dX7_init_40 : decode cX7_init 40 = .ok (.aload_n 0, 1) := by decide +kernel
theorem dX7_init_41 : decode cX7_init 41 = .ok (.sipush 3001, 3) := by decide +kernel
theorem dX7_init_44 : decode cX7_init 44 = .ok (.newarray .int, 2) := by decide +kernel
theorem dX7_init_46 : decode cX7_init 46 = .ok (.putfield 24, 3) := by decide +kernel
theorem dX7_init_49 : decode cX7_init 49 = .ok (.aload_n 0, 1) := by decide +kernel
theorem dX7_init_50 : decode cX7_init 50 = .ok (.sipush 3001, 3) := by decide +kernel
theorem dX7_init_53 : decode cX7_init 53 = .ok (.newarray .int, 2) := by decide +kernel
theorem dX7_init_55 : decode cX7_init 55 = .ok (.putfield 27, 3) := by decide +kernel
theorem dX7_init_58 : decode cX7_init 58 = .ok (.aload_n 0, 1) := by decide +kernel
theorem dX7_init_59 : decode cX7_init 59 = .ok (.sipush 3001, 3) := by decide +kernel
theorem dX7_init_62 : decode cX7_init 62 = .ok (.newarray .int, 2) := by decide +kernel
theorem dX7_init_64 : decode cX7_init 64 = .ok (.putfield 30, 3) := by decide +kernel
theorem dX7_init_67 : decode cX7_init 67 = .ok (.return_, 1) := by decide +kernel
theorem dX11_init_0 : decode cX11_init 0 = .ok (.aload_n 0, 1) := by decide +kernel
theorem dX11_init_1 : decode cX11_init 1 = .ok (.invokespecial 3, 3) := by decide +kernel
theorem dX11_init_4 : decode cX11_init 4 = .ok (.aload_n 0, 1) := by decide +kernel
theorem dX11_init_5 : decode cX11_init 5 = .ok (.sipush 6000, 3) := by decide +kernel
theorem dX11_init_8 : decode cX11_init 8 = .ok (.newarray .byte, 2) := by decide +kernel
theorem dX11_init_10 : decode cX11_init 10 = .ok (.putfield 9, 3) := by decide +kernel
theorem dX11_init_13 : decode cX11_init 13 = .ok (.aload_n 0, 1) := by decide +kernel
theorem dX11_init_14 : decode cX11_init 14 = .ok (.new 13, 3) := by decide +kernel
theorem dX11_init_17 : decode cX11_init 17 = .ok (.dup, 1) := by decide +kernel
theorem dX11_init_18 : decode cX11_init 18 = .ok (.invokespecial 15, 3) := by decide +kernel
theorem dX11_init_21 : decode cX11_init 21 = .ok (.putfield 16, 3) := by decide +kernel
theorem dX11_init_24 : decode cX11_init 24 = .ok (.aload_n 0, 1) := by decide +kernel
theorem dX11_init_25 : decode cX11_init 25 = .ok (.new 20, 3) := by decide +kernel
theorem dX11_init_28 : decode cX11_init 28 = .ok (.dup, 1) := by decide +kernel
theorem dX11_init_29 : decode cX11_init 29 = .ok (.invokespecial 22, 3) := by decide +kernel
theorem dX11_init_32 : decode cX11_init 32 = .ok (.putfield 23, 3) := by decide +kernel
theorem dX11_init_35 : decode cX11_init 35 = .ok (.return_, 1) := by decide +kernel
theorem dX11_feed_0 : decode cX11_feed 0 = .ok (.aload_n 0, 1) := by decide +kernel
theorem dX11_feed_1 : decode cX11_feed 1 = .ok (.getfield 27, 3) := by decide +kernel
theorem dX11_feed_4 : decode cX11_feed 4 = .ok (.bipush 20, 2) := by decide +kernel
theorem dX11_feed_6 : decode cX11_feed 6 = .ok (.iadd, 1) := by decide +kernel
theorem dX11_feed_7 : decode cX11_feed 7 = .ok (.sipush 6000, 3) := by decide +kernel
theorem dX11_feed_10 : decode cX11_feed 10 = .ok (.if_icmp .le 5, 3) := by decide +kernel
theorem dX11_feed_15 : decode cX11_feed 15 = .ok (.aload_n 0, 1) := by decide +kernel
theorem dX11_feed_16 : decode cX11_feed 16 = .ok (.iload_n 1, 1) := by decide +kernel
theorem dX11_feed_17 : decode cX11_feed 17 = .ok (.invokevirtual 31, 3) := by decide +kernel
theorem dX11_feed_20 : decode cX11_feed 20 = .ok (.aload_n 0, 1) := by decide +kernel
theorem dX11_feed_21 : decode cX11_feed 21 = .ok (.iload_n 2, 1) := by decide +kernel
theorem dX11_feed_22 : decode cX11_feed 22 = .ok (.invokevirtual 31, 3) := by decide +kernel
theorem dX11_feed_25 : decode cX11_feed 25 = .ok (.aload_n 0, 1) := by decide +kernel
theorem dX11_feed_26 : decode cX11_feed 26 = .ok (.iload_n 3, 1) := by decide +kernel
theorem dX11_feed_27 : decode cX11_feed 27 = .ok (.invokevirtual 31, 3) := by decide +kernel
theorem dX11_feed_30 : decode cX11_feed 30 = .ok (.aload_n 0, 1) := by decide +kernel
theorem dX11_feed_31 : decode cX11_feed 31 = .ok (.iload 4, 2) := by decide +kernel
theorem dX11_feed_33 : decode cX11_feed 33 = .ok (.invokevirtual 31, 3) := by decide +kernel
theorem dX11_feed_36 : decode cX11_feed 36 = .ok (.aload_n 0, 1) := by decide +kernel
theorem dX11_feed_37 : decode cX11_feed 37 = .ok (.iload 5, 2) := by decide +kernel
theorem dX11_feed_39 : decode cX11_feed 39 = .ok (.invokevirtual 31, 3) := by decide +kernel
theorem dX11_feed_42 : decode cX11_feed 42 = .ok (.aload_n 0, 1) := by decide +kernel
theorem dX11_feed_43 : decode cX11_feed 43 = .ok (.getfield 27, 3) := by decide +kernel
theorem dX11_feed_46 : decode cX11_feed 46 = .ok (.ireturn, 1) := by decide +kernel
theorem dX11_putBytes_0 : decode cX11_putBytes 0 = .ok (.bipush 24, 2) := by decide +kernel
theorem dX11_putBytes_2 : decode cX11_putBytes 2 = .ok (.istore_n 2, 1) := by decide +kernel
theorem dX11_putBytes_3 : decode cX11_putBytes 3 = .ok (.iload_n 2, 1) := by decide +kernel
theorem dX11_putBytes_4 : decode cX11_putBytes 4 = .ok (.ifCond .lt 42, 3) := by decide +kernel
theorem dX11_putBytes_7 : decode cX11_putBytes 7 = .ok (.aload_n 0, 1) := by decide +kernel
theorem dX11_putBytes_8 : decode cX11_putBytes 8 = .ok (.getfield 27, 3) := by decide +kernel
theorem dX11_putBytes_11 : decode cX11_putBytes 11 = .ok (.sipush 6000, 3) := by decide +kernel
theorem dX11_putBytes_14 : decode cX11_putBytes 14 = .ok (.if_icmp .ge 32, 3) := by decide +kernel
theorem dX11_putBytes_17 : decode cX11_putBytes 17 = .ok (.aload_n 0, 1) := by decide +kernel
theorem dX11_putBytes_18 : decode cX11_putBytes 18 = .ok (.getfield 9, 3) := by decide +kernel
theorem dX11_putBytes_21 : decode cX11_putBytes 21 = .ok (.aload_n 0, 1) := by decide +kernel
theorem dX11_putBytes_22 : decode cX11_putBytes 22 = .ok (.getfield 27, 3) := by decide +kernel
theorem dX11_putBytes_25 : decode cX11_putBytes 25 = .ok (.iload_n 1, 1) := by decide +kernel
theorem dX11_putBytes_26 : decode cX11_putBytes 26 = .ok (.iload_n 2, 1) := by decide +kernel
theorem dX11_putBytes_27 : decode cX11_putBytes 27 = .ok (.iushr, 1) := by decide +kernel
theorem dX11_putBytes_28 : decode cX11_putBytes 28 = .ok (.i2b, 1) := by decide +kernel
theorem dX11_putBytes_29 : decode cX11_putBytes 29 = .ok (.bastore, 1) := by decide +kernel
theorem dX11_putBytes_30 : decode cX11_putBytes 30 = .ok (.aload_n 0, 1) := by decide +kernel
theorem dX11_putBytes_31 : decode cX11_putBytes 31 = .ok (.dup, 1) := by decide +kernel
theorem dX11_putBytes_32 : decode cX11_putBytes 32 = .ok (.getfield 27, 3) := by decide +kernel
theorem dX11_putBytes_35 : decode cX11_putBytes 35 = .ok (.iconst 1, 1) := by decide +kernel
theorem dX11_putBytes_36 : decode cX11_putBytes 36 = .ok (.iadd, 1) := by decide +kernel
theorem dX11_putBytes_37 : decode cX11_putBytes 37 = .ok (.putfield 27, 3) := by decide +kernel
theorem dX11_putBytes_40 : decode cX11_putBytes 40 = .ok (.iinc 2 (-8), 3) := by decide +kernel
theorem dX11_putBytes_43 : decode cX11_putBytes 43 = .ok (.goto (-40), 3) := by decide +kernel
theorem dX11_putBytes_46 : decode cX11_putBytes 46 = .ok (.return_, 1) := by decide +kernel
theorem dX11_back_0 : decode cX11_back 0 = .ok (.iload_n 1, 1) := by decide +kernel
theorem dX11_back_1 : decode cX11_back 1 = .ok (.ifCond .lt 11, 3) := by decide +kernel
theorem dX11_back_4 : decode cX11_back 4 = .ok (.iload_n 1, 1) := by decide +kernel
theorem dX11_back_5 : decode cX11_back 5 = .ok (.aload_n 0, 1) := by decide +kernel
theorem dX11_back_6 : decode cX11_back 6 = .ok (.getfield 27, 3) := by decide +kernel
theorem dX11_back_9 : decode cX11_back 9 = .ok (.if_icmp .le 5, 3) := by decide +kernel
theorem dX11_back_12 : decode cX11_back 12 = .ok (.iconst (-1), 1) := by decide +kernel
theorem dX11_back_13 : decode cX11_back 13 = .ok (.ireturn, 1) := by decide +kernel
theorem dX11_back_14 : decode cX11_back 14 = .ok (.aload_n 0, 1) := by decide +kernel
theorem dX11_back_15 : decode cX11_back 15 = .ok (.dup, 1) := by decide +kernel
theorem dX11_back_16 : decode cX11_back 16 = .ok (.getfield 27, 3) := by decide +kernel
theorem dX11_back_19 : decode cX11_back 19 = .ok (.iload_n 1, 1) := by decide +kernel
theorem dX11_back_20 : decode cX11_back 20 = .ok (.isub, 1) := by decide +kernel
theorem dX11_back_21 : decode cX11_back 21 = .ok (.putfield 27, 3) := by decide +kernel
theorem dX11_back_24 : decode cX11_back 24 = .ok (.aload_n 0, 1) := by decide +kernel
theorem dX11_back_25 : decode cX11_back 25 = .ok (.getfield 27, 3) := by decide +kernel
theorem dX11_back_28 : decode cX11_back 28 = .ok (.ireturn, 1) := by decide +kernel
theorem dX11_count_0 : decode cX11_count 0 = .ok (.iload_n 1, 1) := by decide +kernel
theorem dX11_count_1 : decode cX11_count 1 = .ok (.iconst 3, 1) := by decide +kernel
theorem dX11_count_2 : decode cX11_count 2 = .ok (.if_icmp .ne 8, 3) := by decide +kernel
theorem dX11_count_5 : decode cX11_count 5 = .ok (.aload_n 0, 1) := by decide +kernel
theorem dX11_count_6 : decode cX11_count 6 = .ok (.getfield 27, 3) := by decide +kernel
theorem dX11_count_9 : decode cX11_count 9 = .ok (.ireturn, 1) := by decide +kernel
theorem dX11_count_10 : decode cX11_count 10 = .ok (.iload_n 1, 1) := by decide +kernel
theorem dX11_count_11 : decode cX11_count 11 = .ok (.iconst 5, 1) := by decide +kernel
theorem dX11_count_12 : decode cX11_count 12 = .ok (.if_icmp .lt 18, 3) := by decide +kernel
theorem dX11_count_15 : decode cX11_count 15 = .ok (.iload_n 1, 1) := by decide +kernel
theorem dX11_count_16 : decode cX11_count 16 = .ok (.bipush 13, 2) := by decide +kernel
theorem dX11_count_18 : decode cX11_count 18 = .ok (.if_icmp .gt 12, 3) := by decide +kernel
theorem dX11_count_21 : decode cX11_count 21 = .ok (.aload_n 0, 1) := by decide +kernel
theorem dX11_count_22 : decode cX11_count 22 = .ok (.getfield 23, 3) := by decide +kernel
theorem dX11_count_25 : decode cX11_count 25 = .ok (.iload_n 1, 1) := by decide +kernel
theorem dX11_count_26 : decode cX11_count 26 = .ok (.invokevirtual 92, 3) := by decide +kernel
theorem dX11_count_29 : decode cX11_count 29 = .ok (.ireturn, 1) := by decide +kernel
theorem dX11_count_30 : decode cX11_count 30 = .ok (.iload_n 1, 1) := by decide +kernel
theorem dX11_count_31 : decode cX11_count 31 = .ok (.ifCond .lt 9, 3) := by decide +kernel
theorem dX11_count_34 : decode cX11_count 34 = .ok (.iload_n 1, 1) := by decide +kernel
theorem dX11_count_35 : decode cX11_count 35 = .ok (.bipush 13, 2) := by decide +kernel
theorem dX11_count_37 : decode cX11_count 37 = .ok (.if_icmp .le 5, 3) := by decide +kernel
theorem dX11_count_40 : decode cX11_count 40 = .ok (.iconst (-1), 1) := by decide +kernel
theorem dX11_count_41 : decode cX11_count 41 = .ok (.ireturn, 1) := by decide +kernel
theorem dX11_count_42 : decode cX11_count 42 = .ok (.aload_n 0, 1) := by decide +kernel
theorem dX11_count_43 : decode cX11_count 43 = .ok (.getfield 35, 3) := by decide +kernel
theorem dX11_count_46 : decode cX11_count 46 = .ok (.ifnonnull 5, 3) := by decide +kernel
theorem dX11_count_49 : decode cX11_count 49 = .ok (.iconst 0, 1) := by decide +kernel
theorem dX11_count_50 : decode cX11_count 50 = .ok (.ireturn, 1) := by decide +kernel
theorem dX11_typeNumbered_0 : decode cX11_typeNumbered 0 = .ok (.aload_n 0, 1) := by decide +kernel
theorem dX11_typeNumbered_1 : decode cX11_typeNumbered 1 = .ok (.getfield 35, 3) := by decide +kernel
theorem dX11_typeNumbered_4 : decode cX11_typeNumbered 4 = .ok (.ifnull 19, 3) := by decide +kernel
theorem dX11_typeNumbered_23 : decode cX11_typeNumbered 23 = .ok (.aconst_null, 1) := by decide +kernel
theorem dX11_typeNumbered_24 : decode cX11_typeNumbered 24 = .ok (.areturn, 1) := by decide +kernel
theorem dX11_unitNumbered_0 : decode cX11_unitNumbered 0 = .ok (.aload_n 0, 1) := by decide +kernel
theorem dX11_unitNumbered_1 : decode cX11_unitNumbered 1 = .ok (.getfield 35, 3) := by decide +kernel
theorem dX11_unitNumbered_4 : decode cX11_unitNumbered 4 = .ok (.ifnull 19, 3) := by decide +kernel
theorem dX11_unitNumbered_23 : decode cX11_unitNumbered 23 = .ok (.aconst_null, 1) := by decide +kernel
theorem dX11_unitNumbered_24 : decode cX11_unitNumbered 24 = .ok (.areturn, 1) := by decide +kernel
theorem dX11_alike_0 : decode cX11_alike 0 = .ok (.aload_n 0, 1) := by decide +kernel
theorem dX11_alike_1 : decode cX11_alike 1 = .ok (.iload_n 1, 1) := by decide +kernel
theorem dX11_alike_2 : decode cX11_alike 2 = .ok (.invokevirtual 120, 3) := by decide +kernel
theorem dX11_alike_5 : decode cX11_alike 5 = .ok (.astore_n 3, 1) := by decide +kernel
theorem dX11_alike_6 : decode cX11_alike 6 = .ok (.aload_n 0, 1) := by decide +kernel
theorem dX11_alike_7 : decode cX11_alike 7 = .ok (.iload_n 2, 1) := by decide +kernel
theorem dX11_alike_8 : decode cX11_alike 8 = .ok (.invokevirtual 120, 3) := by decide +kernel
theorem dX11_alike_11 : decode cX11_alike 11 = .ok (.astore 4, 2) := by decide +kernel
theorem dX11_alike_13 : decode cX11_alike 13 = .ok (.aload_n 3, 1) := by decide +kernel
theorem dX11_alike_14 : decode cX11_alike 14 = .ok (.ifnull 8, 3) := by decide +kernel
theorem dX11_alike_22 : decode cX11_alike 22 = .ok (.iconst (-1), 1) := by decide +kernel
theorem dX11_alike_23 : decode cX11_alike 23 = .ok (.ireturn, 1) := by decide +kernel
theorem dX11_below_0 : decode cX11_below 0 = .ok (.aload_n 0, 1) := by decide +kernel
theorem dX11_below_1 : decode cX11_below 1 = .ok (.iload_n 1, 1) := by decide +kernel
theorem dX11_below_2 : decode cX11_below 2 = .ok (.invokevirtual 127, 3) := by decide +kernel
theorem dX11_below_5 : decode cX11_below 5 = .ok (.astore 4, 2) := by decide +kernel
theorem dX11_below_7 : decode cX11_below 7 = .ok (.aload_n 0, 1) := by decide +kernel
theorem dX11_below_8 : decode cX11_below 8 = .ok (.iload_n 2, 1) := by decide +kernel
theorem dX11_below_9 : decode cX11_below 9 = .ok (.invokevirtual 120, 3) := by decide +kernel
theorem dX11_below_12 : decode cX11_below 12 = .ok (.astore 5, 2) := by decide +kernel
theorem dX11_below_14 : decode cX11_below 14 = .ok (.aload_n 0, 1) := by decide +kernel
theorem dX11_below_15 : decode cX11_below 15 = .ok (.iload_n 3, 1) := by decide +kernel
theorem dX11_below_16 : decode cX11_below 16 = .ok (.invokevirtual 120, 3) := by decide +kernel
theorem dX11_below_19 : decode cX11_below 19 = .ok (.astore 6, 2) := by decide +kernel
theorem dX11_below_21 : decode cX11_below 21 = .ok (.aload 4, 2) := by decide +kernel
theorem dX11_below_23 : decode cX11_below 23 = .ok (.ifnull 13, 3) := by decide +kernel
theorem dX11_below_36 : decode cX11_below 36 = .ok (.iconst (-1), 1) := by decide +kernel
theorem dX11_below_37 : decode cX11_below 37 = .ok (.ireturn, 1) := by decide +kernel
theorem dX11_type_0 : decode cX11_type 0 = .ok (.aload_n 0, 1) := by decide +kernel
theorem dX11_type_1 : decode cX11_type 1 = .ok (.iload_n 1, 1) := by decide +kernel
theorem dX11_type_2 : decode cX11_type 2 = .ok (.invokevirtual 120, 3) := by decide +kernel
theorem dX11_type_5 : decode cX11_type 5 = .ok (.astore_n 3, 1) := by decide +kernel
theorem dX11_type_6 : decode cX11_type 6 = .ok (.aload_n 3, 1) := by decide +kernel
theorem dX11_type_7 : decode cX11_type 7 = .ok (.ifnonnull 5, 3) := by decide +kernel
theorem dX11_type_10 : decode cX11_type 10 = .ok (.iconst (-1), 1) := by decide +kernel
theorem dX11_type_11 : decode cX11_type 11 = .ok (.ireturn, 1) := by decide +kernel
theorem dX11_sees_0 : decode cX11_sees 0 = .ok (.aload_n 0, 1) := by decide +kernel
theorem dX11_sees_1 : decode cX11_sees 1 = .ok (.iload_n 1, 1) := by decide +kernel
theorem dX11_sees_2 : decode cX11_sees 2 = .ok (.invokevirtual 127, 3) := by decide +kernel
theorem dX11_sees_5 : decode cX11_sees 5 = .ok (.astore_n 3, 1) := by decide +kernel
theorem dX11_sees_6 : decode cX11_sees 6 = .ok (.aload_n 0, 1) := by decide +kernel
theorem dX11_sees_7 : decode cX11_sees 7 = .ok (.iload_n 2, 1) := by decide +kernel
theorem dX11_sees_8 : decode cX11_sees 8 = .ok (.invokevirtual 120, 3) := by decide +kernel
theorem dX11_sees_11 : decode cX11_sees 11 = .ok (.astore 4, 2) := by decide +kernel
theorem dX11_sees_13 : decode cX11_sees 13 = .ok (.aload_n 3, 1) := by decide +kernel
theorem dX11_sees_14 : decode cX11_sees 14 = .ok (.ifnull 16, 3) := by decide +kernel
theorem dX11_sees_30 : decode cX11_sees 30 = .ok (.iconst (-1), 1) := by decide +kernel
theorem dX11_sees_31 : decode cX11_sees 31 = .ok (.ireturn, 1) := by decide +kernel
theorem dX11_output_0 : decode cX11_output 0 = .ok (.aload_n 0, 1) := by decide +kernel
theorem dX11_output_1 : decode cX11_output 1 = .ok (.getfield 23, 3) := by decide +kernel
theorem dX11_output_4 : decode cX11_output 4 = .ok (.iload_n 1, 1) := by decide +kernel
theorem dX11_output_5 : decode cX11_output 5 = .ok (.invokevirtual 192, 3) := by decide +kernel
theorem dX11_output_8 : decode cX11_output 8 = .ok (.ireturn, 1) := by decide +kernel
theorem dX11_cell_0 : decode cX11_cell 0 = .ok (.aload_n 0, 1) := by decide +kernel
theorem dX11_cell_1 : decode cX11_cell 1 = .ok (.getfield 23, 3) := by decide +kernel
theorem dX11_cell_4 : decode cX11_cell 4 = .ok (.iload_n 1, 1) := by decide +kernel
theorem dX11_cell_5 : decode cX11_cell 5 = .ok (.invokevirtual 195, 3) := by decide +kernel
theorem dX11_cell_8 : decode cX11_cell 8 = .ok (.ireturn, 1) := by decide +kernel
theorem dX11_thread_0 : decode cX11_thread 0 = .ok (.aload_n 0, 1) := by decide +kernel
theorem dX11_thread_1 : decode cX11_thread 1 = .ok (.getfield 23, 3) := by decide +kernel
theorem dX11_thread_4 : decode cX11_thread 4 = .ok (.iload_n 1, 1) := by decide +kernel
theorem dX11_thread_5 : decode cX11_thread 5 = .ok (.iload_n 2, 1) := by decide +kernel
theorem dX11_thread_6 : decode cX11_thread 6 = .ok (.invokevirtual 198, 3) := by decide +kernel
theorem dX11_thread_9 : decode cX11_thread 9 = .ok (.ireturn, 1) := by decide +kernel
theorem dX11_thing_0 : decode cX11_thing 0 = .ok (.aload_n 0, 1) := by decide +kernel
theorem dX11_thing_1 : decode cX11_thing 1 = .ok (.getfield 23, 3) := by decide +kernel
theorem dX11_thing_4 : decode cX11_thing 4 = .ok (.iload_n 1, 1) := by decide +kernel
theorem dX11_thing_5 : decode cX11_thing 5 = .ok (.iload_n 2, 1) := by decide +kernel
theorem dX11_thing_6 : decode cX11_thing 6 = .ok (.invokevirtual 202, 3) := by decide +kernel
theorem dX11_thing_9 : decode cX11_thing 9 = .ok (.ireturn, 1) := by decide +kernel
theorem dX11_inside_0 : decode cX11_inside 0 = .ok (.aload_n 0, 1) := by decide +kernel
theorem dX11_inside_1 : decode cX11_inside 1 = .ok (.getfield 23, 3) := by decide +kernel
theorem dX11_inside_4 : decode cX11_inside 4 = .ok (.iload_n 1, 1) := by decide +kernel
theorem dX11_inside_5 : decode cX11_inside 5 = .ok (.iload_n 2, 1) := by decide +kernel
theorem dX11_inside_6 : decode cX11_inside 6 = .ok (.invokevirtual 205, 3) := by decide +kernel
theorem dX11_inside_9 : decode cX11_inside 9 = .ok (.ireturn, 1) := by decide +kernel
theorem dX12_init_0 : decode cX12_init 0 = .ok (.aload_n 0, 1) := by decide +kernel
theorem dX12_init_1 : decode cX12_init 1 = .ok (.aconst_null, 1) := by decide +kernel
theorem dX12_init_2 : decode cX12_init 2 = .ok (.aconst_null, 1) := by decide +kernel
theorem dX12_init_3 : decode cX12_init 3 = .ok (.iconst 0, 1) := by decide +kernel
theorem dX12_init_4 : decode cX12_init 4 = .ok (.iconst 0, 1) := by decide +kernel
theorem dX12_init_5 : decode cX12_init 5 = .ok (.invokespecial 1, 3) := by decide +kernel
theorem dX12_init_8 : decode cX12_init 8 = .ok (.return_, 1) := by decide +kernel
theorem dX13_init_0 : decode cX13_init 0 = .ok (.aload_n 0, 1) := by decide +kernel
theorem dX13_init_1 : decode cX13_init 1 = .ok (.invokespecial 1, 3) := by decide +kernel
theorem dX13_init_4 : decode cX13_init 4 = .ok (.aload_n 0, 1) := by decide +kernel
theorem dX13_init_5 : decode cX13_init 5 = .ok (.new 7, 3) := by decide +kernel
theorem dX13_init_8 : decode cX13_init 8 = .ok (.dup, 1) := by decide +kernel
theorem dX13_init_9 : decode cX13_init 9 = .ok (.invokespecial 9, 3) := by decide +kernel
theorem dX13_init_12 : decode cX13_init 12 = .ok (.putfield 10, 3) := by decide +kernel
theorem dX13_init_15 : decode cX13_init 15 = .ok (.aload_n 0, 1) := by decide +kernel
theorem dX13_init_16 : decode cX13_init 16 = .ok (.sipush 6000, 3) := by decide +kernel
theorem dX13_init_19 : decode cX13_init 19 = .ok (.newarray .byte, 2) := by decide +kernel
theorem dX13_init_21 : decode cX13_init 21 = .ok (.putfield 16, 3) := by decide +kernel
theorem dX13_init_24 : decode cX13_init 24 = .ok (.aload_n 0, 1) := by decide +kernel
theorem dX13_init_25 : decode cX13_init 25 = .ok (.sipush 6000, 3) := by decide +kernel
theorem dX13_init_28 : decode cX13_init 28 = .ok (.newarray .byte, 2) := by decide +kernel
theorem dX13_init_30 : decode cX13_init 30 = .ok (.putfield 20, 3) := by decide +kernel
theorem dX13_init_33 : decode cX13_init 33 = .ok (.aload_n 0, 1) := by decide +kernel
theorem dX13_init_34 : decode cX13_init 34 = .ok (.sipush 6002, 3) := by decide +kernel
theorem dX13_init_37 : decode cX13_init 37 = .ok (.newarray .int, 2) := by decide +kernel
theorem dX13_init_39 : decode cX13_init 39 = .ok (.putfield 23, 3) := by decide +kernel
theorem dX13_init_42 : decode cX13_init 42 = .ok (.aload_n 0, 1) := by decide +kernel
theorem dX13_init_43 : decode cX13_init 43 = .ok (.sipush 6002, 3) := by decide +kernel
theorem dX13_init_46 : decode cX13_init 46 = .ok (.newarray .int, 2) := by decide +kernel
theorem dX13_init_48 : decode cX13_init 48 = .ok (.putfield 27, 3) := by decide +kernel
theorem dX13_init_51 : decode cX13_init 51 = .ok (.aload_n 0, 1) := by decide +kernel
theorem dX13_init_52 : decode cX13_init 52 = .ok (.sipush 6002, 3) := by decide +kernel
theorem dX13_init_55 : decode cX13_init 55 = .ok (.newarray .int, 2) := by decide +kernel
theorem dX13_init_57 : decode cX13_init 57 = .ok (.putfield 30, 3) := by decide +kernel
theorem dX13_init_60 : decode cX13_init 60 = .ok (.aload_n 0, 1) := by decide +kernel
theorem dX13_init_61 : decode cX13_init 61 = .ok (.sipush 6000, 3) := by decide +kernel
theorem dX13_init_64 : decode cX13_init 64 = .ok (.newarray .int, 2) := by decide +kernel
theorem dX13_init_66 : decode cX13_init 66 = .ok (.putfield 33, 3) := by decide +kernel
theorem dX13_init_69 : decode cX13_init 69 = .ok (.aload_n 0, 1) := by decide +kernel
theorem dX13_init_70 : decode cX13_init 70 = .ok (.sipush 6000, 3) := by decide +kernel
theorem dX13_init_73 : decode cX13_init 73 = .ok (.newarray .int, 2) := by decide +kernel
theorem dX13_init_75 : decode cX13_init 75 = .ok (.putfield 36, 3) := by decide +kernel
theorem dX13_init_78 : decode cX13_init 78 = .ok (.aload_n 0, 1) := by decide +kernel
theorem dX13_init_79 : decode cX13_init 79 = .ok (.sipush 6600, 3) := by decide +kernel
theorem dX13_init_82 : decode cX13_init 82 = .ok (.newarray .byte, 2) := by decide +kernel
theorem dX13_init_84 : decode cX13_init 84 = .ok (.putfield 39, 3) := by decide +kernel
theorem dX13_init_87 : decode cX13_init 87 = .ok (.aload_n 0, 1) := by decide +kernel
theorem dX13_init_88 : decode cX13_init 88 = .ok (.sipush 16000, 3) := by decide +kernel
theorem dX13_init_91 : decode cX13_init 91 = .ok (.newarray .int, 2) := by decide +kernel
theorem dX13_init_93 : decode cX13_init 93 = .ok (.putfield 42, 3) := by decide +kernel
theorem dX13_init_96 : decode cX13_init 96 = .ok (.aload_n 0, 1) := by decide +kernel
theorem dX13_init_97 : decode cX13_init 97 = .ok (.sipush 16000, 3) := by decide +kernel
theorem dX13_init_100 : decode cX13_init 100 = .ok (.newarray .int, 2) := by decide +kernel
theorem dX13_init_102 : decode cX13_init 102 = .ok (.putfield 45, 3) := by decide +kernel
theorem dX13_init_105 : decode cX13_init 105 = .ok (.aload_n 0, 1) := by decide +kernel
theorem dX13_init_106 : decode cX13_init 106 = .ok (.sipush 16000, 3) := by decide +kernel
theorem dX13_init_109 : decode cX13_init 109 = .ok (.newarray .int, 2) := by decide +kernel
theorem dX13_init_111 : decode cX13_init 111 = .ok (.putfield 48, 3) := by decide +kernel
theorem dX13_init_114 : decode cX13_init 114 = .ok (.aload_n 0, 1) := by decide +kernel
theorem dX13_init_115 : decode cX13_init 115 = .ok (.sipush 16000, 3) := by decide +kernel
theorem dX13_init_118 : decode cX13_init 118 = .ok (.newarray .int, 2) := by decide +kernel
theorem dX13_init_120 : decode cX13_init 120 = .ok (.putfield 51, 3) := by decide +kernel
theorem dX13_init_123 : decode cX13_init 123 = .ok (.aload_n 0, 1) := by decide +kernel
theorem dX13_init_124 : decode cX13_init 124 = .ok (.sipush 16000, 3) := by decide +kernel
theorem dX13_init_127 : decode cX13_init 127 = .ok (.newarray .int, 2) := by decide +kernel
theorem dX13_init_129 : decode cX13_init 129 = .ok (.putfield 54, 3) := by decide +kernel
theorem dX13_init_132 : decode cX13_init 132 = .ok (.aload_n 0, 1) := by decide +kernel
theorem dX13_init_133 : decode cX13_init 133 = .ok (.sipush 16000, 3) := by decide +kernel
theorem dX13_init_136 : decode cX13_init 136 = .ok (.newarray .int, 2) := by decide +kernel
theorem dX13_init_138 : decode cX13_init 138 = .ok (.putfield 57, 3) := by decide +kernel
theorem dX13_init_141 : decode cX13_init 141 = .ok (.aload_n 0, 1) := by decide +kernel
theorem dX13_init_142 : decode cX13_init 142 = .ok (.sipush 16000, 3) := by decide +kernel
theorem dX13_init_145 : decode cX13_init 145 = .ok (.newarray .int, 2) := by decide +kernel
theorem dX13_init_147 : decode cX13_init 147 = .ok (.putfield 60, 3) := by decide +kernel
theorem dX13_init_150 : decode cX13_init 150 = .ok (.aload_n 0, 1) := by decide +kernel
theorem dX13_init_151 : decode cX13_init 151 = .ok (.sipush 16000, 3) := by decide +kernel
theorem dX13_init_154 : decode cX13_init 154 = .ok (.newarray .int, 2) := by decide +kernel
theorem dX13_init_156 : decode cX13_init 156 = .ok (.putfield 63, 3) := by decide +kernel
theorem dX13_init_159 : decode cX13_init 159 = .ok (.aload_n 0, 1) := by decide +kernel
theorem dX13_init_160 : decode cX13_init 160 = .ok (.sipush 16000, 3) := by decide +kernel
theorem dX13_init_163 : decode cX13_init 163 = .ok (.newarray .int, 2) := by decide +kernel
theorem dX13_init_165 : decode cX13_init 165 = .ok (.putfield 66, 3) := by decide +kernel
theorem dX13_init_168 : decode cX13_init 168 = .ok (.aload_n 0, 1) := by decide +kernel
theorem dX13_init_169 : decode cX13_init 169 = .ok (.sipush 16000, 3) := by decide +kernel
theorem dX13_init_172 : decode cX13_init 172 = .ok (.newarray .int, 2) := by decide +kernel
theorem dX13_init_174 : decode cX13_init 174 = .ok (.putfield 69, 3) := by decide +kernel
theorem dX13_init_177 : decode cX13_init 177 = .ok (.aload_n 0, 1) := by decide +kernel
theorem dX13_init_178 : decode cX13_init 178 = .ok (.sipush 16000, 3) := by decide +kernel
theorem dX13_init_181 : decode cX13_init 181 = .ok (.newarray .int, 2) := by decide +kernel
theorem dX13_init_183 : decode cX13_init 183 = .ok (.putfield 72, 3) := by decide +kernel
theorem dX13_init_186 : decode cX13_init 186 = .ok (.aload_n 0, 1) := by decide +kernel
theorem dX13_init_187 : decode cX13_init 187 = .ok (.sipush 16000, 3) := by decide +kernel
theorem dX13_init_190 : decode cX13_init 190 = .ok (.newarray .int, 2) := by decide +kernel
theorem dX13_init_192 : decode cX13_init 192 = .ok (.putfield 75, 3) := by decide +kernel
theorem dX13_init_195 : decode cX13_init 195 = .ok (.aload_n 0, 1) := by decide +kernel
theorem dX13_init_196 : decode cX13_init 196 = .ok (.bipush 14, 2) := by decide +kernel
theorem dX13_init_198 : decode cX13_init 198 = .ok (.newarray .int, 2) := by decide +kernel
theorem dX13_init_200 : decode cX13_init 200 = .ok (.putfield 78, 3) := by decide +kernel
theorem dX13_init_203 : decode cX13_init 203 = .ok (.aload_n 0, 1) := by decide +kernel
theorem dX13_init_204 : decode cX13_init 204 = .ok (.sipush 3200, 3) := by decide +kernel
theorem dX13_init_207 : decode cX13_init 207 = .ok (.newarray .int, 2) := by decide +kernel
theorem dX13_init_209 : decode cX13_init 209 = .ok (.putfield 81, 3) := by decide +kernel
theorem dX13_init_212 : decode cX13_init 212 = .ok (.aload_n 0, 1) := by decide +kernel
theorem dX13_init_213 : decode cX13_init 213 = .ok (.sipush 3200, 3) := by decide +kernel
theorem dX13_init_216 : decode cX13_init 216 = .ok (.newarray .int, 2) := by decide +kernel
theorem dX13_init_218 : decode cX13_init 218 = .ok (.putfield 84, 3) := by decide +kernel
theorem dX13_init_221 : decode cX13_init 221 = .ok (.aload_n 0, 1) := by decide +kernel
theorem dX13_init_222 : decode cX13_init 222 = .ok (.sipush 3200, 3) := by decide +kernel
theorem dX13_init_225 : decode cX13_init 225 = .ok (.newarray .int, 2) := by decide +kernel
theorem dX13_init_227 : decode cX13_init 227 = .ok (.putfield 87, 3) := by decide +kernel
theorem dX13_init_230 : decode cX13_init 230 = .ok (.aload_n 0, 1) := by decide +kernel
theorem dX13_init_231 : decode cX13_init 231 = .ok (.sipush 3200, 3) := by decide +kernel
theorem dX13_init_234 : decode cX13_init 234 = .ok (.newarray .int, 2) := by decide +kernel
theorem dX13_init_236 : decode cX13_init 236 = .ok (.putfield 90, 3) := by decide +kernel
theorem dX13_init_239 : decode cX13_init 239 = .ok (.aload_n 0, 1) := by decide +kernel
theorem dX13_init_240 : decode cX13_init 240 = .ok (.bipush 14, 2) := by decide +kernel
theorem dX13_init_242 : decode cX13_init 242 = .ok (.newarray .int, 2) := by decide +kernel
theorem dX13_init_244 : decode cX13_init 244 = .ok (.putfield 93, 3) := by decide +kernel
theorem dX13_init_247 : decode cX13_init 247 = .ok (.aload_n 0, 1) := by decide +kernel
theorem dX13_init_248 : decode cX13_init 248 = .ok (.bipush 14, 2) := by decide +kernel
theorem dX13_init_250 : decode cX13_init 250 = .ok (.newarray .int, 2) := by decide +kernel
theorem dX13_init_252 : decode cX13_init 252 = .ok (.putfield 96, 3) := by decide +kernel
theorem dX13_init_255 : decode cX13_init 255 = .ok (.aload_n 0, 1) := by decide +kernel
theorem dX13_init_256 : decode cX13_init 256 = .ok (.bipush 14, 2) := by decide +kernel
theorem dX13_init_258 : decode cX13_init 258 = .ok (.newarray .int, 2) := by decide +kernel
theorem dX13_init_260 : decode cX13_init 260 = .ok (.putfield 99, 3) := by decide +kernel
theorem dX13_init_263 : decode cX13_init 263 = .ok (.aload_n 0, 1) := by decide +kernel
theorem dX13_init_264 : decode cX13_init 264 = .ok (.bipush 14, 2) := by decide +kernel
theorem dX13_init_266 : decode cX13_init 266 = .ok (.newarray .boolean, 2) := by decide +kernel
theorem dX13_init_268 : decode cX13_init 268 = .ok (.putfield 102, 3) := by decide +kernel
theorem dX13_init_271 : decode cX13_init 271 = .ok (.aload_n 0, 1) := by decide +kernel
theorem dX13_init_272 : decode cX13_init 272 = .ok (.sipush 3200, 3) := by decide +kernel
theorem dX13_init_275 : decode cX13_init 275 = .ok (.newarray .int, 2) := by decide +kernel
theorem dX13_init_277 : decode cX13_init 277 = .ok (.putfield 106, 3) := by decide +kernel
theorem dX13_init_280 : decode cX13_init 280 = .ok (.aload_n 0, 1) := by decide +kernel
theorem dX13_init_281 : decode cX13_init 281 = .ok (.sipush 3200, 3) := by decide +kernel
theorem dX13_init_284 : decode cX13_init 284 = .ok (.newarray .int, 2) := by decide +kernel
theorem dX13_init_286 : decode cX13_init 286 = .ok (.putfield 109, 3) := by decide +kernel
theorem dX13_init_289 : decode cX13_init 289 = .ok (.aload_n 0, 1) := by decide +kernel
theorem dX13_init_290 : decode cX13_init 290 = .ok (.sipush 3200, 3) := by decide +kernel
theorem dX13_init_293 : decode cX13_init 293 = .ok (.newarray .int, 2) := by decide +kernel
theorem dX13_init_295 : decode cX13_init 295 = .ok (.putfield 112, 3) := by decide +kernel
theorem dX13_init_298 : decode cX13_init 298 = .ok (.aload_n 0, 1) := by decide +kernel
theorem dX13_init_299 : decode cX13_init 299 = .ok (.sipush 3200, 3) := by decide +kernel
theorem dX13_init_302 : decode cX13_init 302 = .ok (.newarray .int, 2) := by decide +kernel
theorem dX13_init_304 : decode cX13_init 304 = .ok (.putfield 115, 3) := by decide +kernel
theorem dX13_init_307 : decode cX13_init 307 = .ok (.aload_n 0, 1) := by decide +kernel
theorem dX13_init_308 : decode cX13_init 308 = .ok (.sipush 3200, 3) := by decide +kernel
theorem dX13_init_311 : decode cX13_init 311 = .ok (.newarray .int, 2) := by decide +kernel
theorem dX13_init_313 : decode cX13_init 313 = .ok (.putfield 118, 3) := by decide +kernel
theorem dX13_init_316 : decode cX13_init 316 = .ok (.aload_n 0, 1) := by decide +kernel
theorem dX13_init_317 : decode cX13_init 317 = .ok (.sipush 3200, 3) := by decide +kernel
theorem dX13_init_320 : decode cX13_init 320 = .ok (.newarray .int, 2) := by decide +kernel
theorem dX13_init_322 : decode cX13_init 322 = .ok (.putfield 121, 3) := by decide +kernel
theorem dX13_init_325 : decode cX13_init 325 = .ok (.aload_n 0, 1) := by decide +kernel
theorem dX13_init_326 : decode cX13_init 326 = .ok (.sipush 3200, 3) := by decide +kernel
theorem dX13_init_329 : decode cX13_init 329 = .ok (.newarray .int, 2) := by decide +kernel
theorem dX13_init_331 : decode cX13_init 331 = .ok (.putfield 124, 3) := by decide +kernel
theorem dX13_init_334 : decode cX13_init 334 = .ok (.aload_n 0, 1) := by decide +kernel
theorem dX13_init_335 : decode cX13_init 335 = .ok (.sipush 3200, 3) := by decide +kernel
theorem dX13_init_338 : decode cX13_init 338 = .ok (.newarray .int, 2) := by decide +kernel
theorem dX13_init_340 : decode cX13_init 340 = .ok (.putfield 127, 3) := by decide +kernel
theorem dX13_init_343 : decode cX13_init 343 = .ok (.aload_n 0, 1) := by decide +kernel
theorem dX13_init_344 : decode cX13_init 344 = .ok (.sipush 16000, 3) := by decide +kernel
theorem dX13_init_347 : decode cX13_init 347 = .ok (.newarray .int, 2) := by decide +kernel
theorem dX13_init_349 : decode cX13_init 349 = .ok (.putfield 130, 3) := by decide +kernel
theorem dX13_init_352 : decode cX13_init 352 = .ok (.aload_n 0, 1) := by decide +kernel
theorem dX13_init_353 : decode cX13_init 353 = .ok (.sipush 16000, 3) := by decide +kernel
theorem dX13_init_356 : decode cX13_init 356 = .ok (.newarray .int, 2) := by decide +kernel
theorem dX13_init_358 : decode cX13_init 358 = .ok (.putfield 133, 3) := by decide +kernel
theorem dX13_init_361 : decode cX13_init 361 = .ok (.aload_n 0, 1) := by decide +kernel
theorem dX13_init_362 : decode cX13_init 362 = .ok (.ldc 136, 2) := by decide +kernel
theorem dX13_init_364 : decode cX13_init 364 = .ok (.newarray .int, 2) := by decide +kernel
theorem dX13_init_366 : decode cX13_init 366 = .ok (.putfield 137, 3) := by decide +kernel
theorem dX13_init_369 : decode cX13_init 369 = .ok (.aload_n 0, 1) := by decide +kernel
theorem dX13_init_370 : decode cX13_init 370 = .ok (.ldc 136, 2) := by decide +kernel
theorem dX13_init_372 : decode cX13_init 372 = .ok (.newarray .int, 2) := by decide +kernel
theorem dX13_init_374 : decode cX13_init 374 = .ok (.putfield 140, 3) := by decide +kernel
theorem dX13_init_377 : decode cX13_init 377 = .ok (.aload_n 0, 1) := by decide +kernel
theorem dX13_init_378 : decode cX13_init 378 = .ok (.sipush 16000, 3) := by decide +kernel
theorem dX13_init_381 : decode cX13_init 381 = .ok (.newarray .int, 2) := by decide +kernel
theorem dX13_init_383 : decode cX13_init 383 = .ok (.putfield 143, 3) := by decide +kernel
theorem dX13_init_386 : decode cX13_init 386 = .ok (.aload_n 0, 1) := by decide +kernel
theorem dX13_init_387 : decode cX13_init 387 = .ok (.sipush 16000, 3) := by decide +kernel
theorem dX13_init_390 : decode cX13_init 390 = .ok (.newarray .int, 2) := by decide +kernel
theorem dX13_init_392 : decode cX13_init 392 = .ok (.putfield 146, 3) := by decide +kernel
theorem dX13_init_395 : decode cX13_init 395 = .ok (.aload_n 0, 1) := by decide +kernel
theorem dX13_init_396 : decode cX13_init 396 = .ok (.sipush 3200, 3) := by decide +kernel
theorem dX13_init_399 : decode cX13_init 399 = .ok (.newarray .int, 2) := by decide +kernel
theorem dX13_init_401 : decode cX13_init 401 = .ok (.putfield 149, 3) := by decide +kernel
theorem dX13_init_404 : decode cX13_init 404 = .ok (.aload_n 0, 1) := by decide +kernel
theorem dX13_init_405 : decode cX13_init 405 = .ok (.sipush 16000, 3) := by decide +kernel
theorem dX13_init_408 : decode cX13_init 408 = .ok (.newarray .int, 2) := by decide +kernel
theorem dX13_init_410 : decode cX13_init 410 = .ok (.putfield 152, 3) := by decide +kernel
theorem dX13_init_413 : decode cX13_init 413 = .ok (.aload_n 0, 1) := by decide +kernel
theorem dX13_init_414 : decode cX13_init 414 = .ok (.sipush 16000, 3) := by decide +kernel
theorem dX13_init_417 : decode cX13_init 417 = .ok (.newarray .int, 2) := by decide +kernel
theorem dX13_init_419 : decode cX13_init 419 = .ok (.putfield 155, 3) := by decide +kernel
theorem dX13_init_422 : decode cX13_init 422 = .ok (.aload_n 0, 1) := by decide +kernel
theorem dX13_init_423 : decode cX13_init 423 = .ok (.sipush 16000, 3) := by decide +kernel
theorem dX13_init_426 : decode cX13_init 426 = .ok (.newarray .int, 2) := by decide +kernel
theorem dX13_init_428 : decode cX13_init 428 = .ok (.putfield 158, 3) := by decide +kernel
theorem dX13_init_431 : decode cX13_init 431 = .ok (.aload_n 0, 1) := by decide +kernel
theorem dX13_init_432 : decode cX13_init 432 = .ok (.sipush 16000, 3) := by decide +kernel
theorem dX13_init_435 : decode cX13_init 435 = .ok (.newarray .boolean, 2) := by decide +kernel
theorem dX13_init_437 : decode cX13_init 437 = .ok (.putfield 161, 3) := by decide +kernel
theorem dX13_init_440 : decode cX13_init 440 = .ok (.aload_n 0, 1) := by decide +kernel
theorem dX13_init_441 : decode cX13_init 441 = .ok (.sipush 16000, 3) := by decide +kernel
theorem dX13_init_444 : decode cX13_init 444 = .ok (.newarray .boolean, 2) := by decide +kernel
theorem dX13_init_446 : decode cX13_init 446 = .ok (.putfield 164, 3) := by decide +kernel
theorem dX13_init_449 : decode cX13_init 449 = .ok (.aload_n 0, 1) := by decide +kernel
theorem dX13_init_450 : decode cX13_init 450 = .ok (.sipush 3200, 3) := by decide +kernel
theorem dX13_init_453 : decode cX13_init 453 = .ok (.newarray .int, 2) := by decide +kernel
theorem dX13_init_455 : decode cX13_init 455 = .ok (.putfield 167, 3) := by decide +kernel
theorem dX13_init_458 : decode cX13_init 458 = .ok (.aload_n 0, 1) := by decide +kernel
theorem dX13_init_459 : decode cX13_init 459 = .ok (.sipush 16000, 3) := by decide +kernel
theorem dX13_init_462 : decode cX13_init 462 = .ok (.newarray .int, 2) := by decide +kernel
theorem dX13_init_464 : decode cX13_init 464 = .ok (.putfield 170, 3) := by decide +kernel
theorem dX13_init_467 : decode cX13_init 467 = .ok (.aload_n 0, 1) := by decide +kernel
theorem dX13_init_468 : decode cX13_init 468 = .ok (.bipush 64, 2) := by decide +kernel
theorem dX13_init_470 : decode cX13_init 470 = .ok (.newarray .int, 2) := by decide +kernel
theorem dX13_init_472 : decode cX13_init 472 = .ok (.putfield 173, 3) := by decide +kernel
theorem dX13_init_475 : decode cX13_init 475 = .ok (.aload_n 0, 1) := by decide +kernel
theorem dX13_init_476 : decode cX13_init 476 = .ok (.sipush 3200, 3) := by decide +kernel
theorem dX13_init_479 : decode cX13_init 479 = .ok (.newarray .int, 2) := by decide +kernel
theorem dX13_init_481 : decode cX13_init 481 = .ok (.putfield 176, 3) := by decide +kernel
theorem dX13_init_484 : decode cX13_init 484 = .ok (.aload_n 0, 1) := by decide +kernel
theorem dX13_init_485 : decode cX13_init 485 = .ok (.sipush 3200, 3) := by decide +kernel
theorem dX13_init_488 : decode cX13_init 488 = .ok (.newarray .int, 2) := by decide +kernel
theorem dX13_init_490 : decode cX13_init 490 = .ok (.putfield 179, 3) := by decide +kernel
theorem dX13_init_493 : decode cX13_init 493 = .ok (.aload_n 0, 1) := by decide +kernel
theorem dX13_init_494 : decode cX13_init 494 = .ok (.sipush 29400, 3) := by decide +kernel
theorem dX13_init_497 : decode cX13_init 497 = .ok (.newarray .int, 2) := by decide +kernel
theorem dX13_init_499 : decode cX13_init 499 = .ok (.putfield 182, 3) := by decide +kernel
theorem dX13_init_502 : decode cX13_init 502 = .ok (.aload_n 0, 1) := by decide +kernel
theorem dX13_init_503 : decode cX13_init 503 = .ok (.sipush 2001, 3) := by decide +kernel
theorem dX13_init_506 : decode cX13_init 506 = .ok (.newarray .int, 2) := by decide +kernel
theorem dX13_init_508 : decode cX13_init 508 = .ok (.putfield 185, 3) := by decide +kernel
theorem dX13_init_511 : decode cX13_init 511 = .ok (.aload_n 0, 1) := by decide +kernel
theorem dX13_init_512 : decode cX13_init 512 = .ok (.sipush 2001, 3) := by decide +kernel
theorem dX13_init_515 : decode cX13_init 515 = .ok (.newarray .int, 2) := by decide +kernel
theorem dX13_init_517 : decode cX13_init 517 = .ok (.putfield 188, 3) := by decide +kernel
theorem dX13_init_520 : decode cX13_init 520 = .ok (.aload_n 0, 1) := by decide +kernel
theorem dX13_init_521 : decode cX13_init 521 = .ok (.sipush 2001, 3) := by decide +kernel
theorem dX13_init_524 : decode cX13_init 524 = .ok (.newarray .int, 2) := by decide +kernel
theorem dX13_init_526 : decode cX13_init 526 = .ok (.putfield 191, 3) := by decide +kernel
theorem dX13_init_529 : decode cX13_init 529 = .ok (.aload_n 0, 1) := by decide +kernel
theorem dX13_init_530 : decode cX13_init 530 = .ok (.sipush 2001, 3) := by decide +kernel
theorem dX13_init_533 : decode cX13_init 533 = .ok (.newarray .int, 2) := by decide +kernel
theorem dX13_init_535 : decode cX13_init 535 = .ok (.putfield 194, 3) := by decide +kernel
theorem dX13_init_538 : decode cX13_init 538 = .ok (.aload_n 0, 1) := by decide +kernel
theorem dX13_init_539 : decode cX13_init 539 = .ok (.sipush 2001, 3) := by decide +kernel
theorem dX13_init_542 : decode cX13_init 542 = .ok (.newarray .boolean, 2) := by decide +kernel
theorem dX13_init_544 : decode cX13_init 544 = .ok (.putfield 197, 3) := by decide +kernel
theorem dX13_init_547 : decode cX13_init 547 = .ok (.aload_n 0, 1) := by decide +kernel
theorem dX13_init_548 : decode cX13_init 548 = .ok (.bipush 65, 2) := by decide +kernel
theorem dX13_init_550 : decode cX13_init 550 = .ok (.newarray .int, 2) := by decide +kernel
theorem dX13_init_552 : decode cX13_init 552 = .ok (.putfield 200, 3) := by decide +kernel
theorem dX13_init_555 : decode cX13_init 555 = .ok (.aload_n 0, 1) := by decide +kernel
theorem dX13_init_556 : decode cX13_init 556 = .ok (.bipush 65, 2) := by decide +kernel
theorem dX13_init_558 : decode cX13_init 558 = .ok (.newarray .int, 2) := by decide +kernel
theorem dX13_init_560 : decode cX13_init 560 = .ok (.putfield 203, 3) := by decide +kernel
theorem dX13_init_563 : decode cX13_init 563 = .ok (.aload_n 0, 1) := by decide +kernel
theorem dX13_init_564 : decode cX13_init 564 = .ok (.bipush 65, 2) := by decide +kernel
theorem dX13_init_566 : decode cX13_init 566 = .ok (.newarray .int, 2) := by decide +kernel
theorem dX13_init_568 : decode cX13_init 568 = .ok (.putfield 206, 3) := by decide +kernel
theorem dX13_init_571 : decode cX13_init 571 = .ok (.aload_n 0, 1) := by decide +kernel
theorem dX13_init_572 : decode cX13_init 572 = .ok (.bipush 65, 2) := by decide +kernel
theorem dX13_init_574 : decode cX13_init 574 = .ok (.newarray .int, 2) := by decide +kernel
theorem dX13_init_576 : decode cX13_init 576 = .ok (.putfield 209, 3) := by decide +kernel
theorem dX13_init_579 : decode cX13_init 579 = .ok (.aload_n 0, 1) := by decide +kernel
theorem dX13_init_580 : decode cX13_init 580 = .ok (.bipush 65, 2) := by decide +kernel
theorem dX13_init_582 : decode cX13_init 582 = .ok (.newarray .int, 2) := by decide +kernel
theorem dX13_init_584 : decode cX13_init 584 = .ok (.putfield 212, 3) := by decide +kernel
theorem dX13_init_587 : decode cX13_init 587 = .ok (.aload_n 0, 1) := by decide +kernel
theorem dX13_init_588 : decode cX13_init 588 = .ok (.bipush 65, 2) := by decide +kernel
theorem dX13_init_590 : decode cX13_init 590 = .ok (.newarray .int, 2) := by decide +kernel
theorem dX13_init_592 : decode cX13_init 592 = .ok (.putfield 215, 3) := by decide +kernel
theorem dX13_init_595 : decode cX13_init 595 = .ok (.aload_n 0, 1) := by decide +kernel
theorem dX13_init_596 : decode cX13_init 596 = .ok (.bipush 65, 2) := by decide +kernel
theorem dX13_init_598 : decode cX13_init 598 = .ok (.newarray .int, 2) := by decide +kernel
theorem dX13_init_600 : decode cX13_init 600 = .ok (.putfield 218, 3) := by decide +kernel
theorem dX13_init_603 : decode cX13_init 603 = .ok (.aload_n 0, 1) := by decide +kernel
theorem dX13_init_604 : decode cX13_init 604 = .ok (.bipush 65, 2) := by decide +kernel
theorem dX13_init_606 : decode cX13_init 606 = .ok (.newarray .int, 2) := by decide +kernel
theorem dX13_init_608 : decode cX13_init 608 = .ok (.putfield 221, 3) := by decide +kernel
theorem dX13_init_611 : decode cX13_init 611 = .ok (.aload_n 0, 1) := by decide +kernel
theorem dX13_init_612 : decode cX13_init 612 = .ok (.bipush 65, 2) := by decide +kernel
theorem dX13_init_614 : decode cX13_init 614 = .ok (.newarray .int, 2) := by decide +kernel
theorem dX13_init_616 : decode cX13_init 616 = .ok (.putfield 224, 3) := by decide +kernel
theorem dX13_init_619 : decode cX13_init 619 = .ok (.aload_n 0, 1) := by decide +kernel
theorem dX13_init_620 : decode cX13_init 620 = .ok (.bipush 65, 2) := by decide +kernel
theorem dX13_init_622 : decode cX13_init 622 = .ok (.newarray .int, 2) := by decide +kernel
theorem dX13_init_624 : decode cX13_init 624 = .ok (.putfield 227, 3) := by decide +kernel
theorem dX13_init_627 : decode cX13_init 627 = .ok (.aload_n 0, 1) := by decide +kernel
theorem dX13_init_628 : decode cX13_init 628 = .ok (.bipush 65, 2) := by decide +kernel
theorem dX13_init_630 : decode cX13_init 630 = .ok (.newarray .int, 2) := by decide +kernel
theorem dX13_init_632 : decode cX13_init 632 = .ok (.putfield 230, 3) := by decide +kernel
theorem dX13_init_635 : decode cX13_init 635 = .ok (.aload_n 0, 1) := by decide +kernel
theorem dX13_init_636 : decode cX13_init 636 = .ok (.bipush 65, 2) := by decide +kernel
theorem dX13_init_638 : decode cX13_init 638 = .ok (.newarray .int, 2) := by decide +kernel
theorem dX13_init_640 : decode cX13_init 640 = .ok (.putfield 233, 3) := by decide +kernel
theorem dX13_init_643 : decode cX13_init 643 = .ok (.aload_n 0, 1) := by decide +kernel
theorem dX13_init_644 : decode cX13_init 644 = .ok (.bipush 65, 2) := by decide +kernel
theorem dX13_init_646 : decode cX13_init 646 = .ok (.newarray .int, 2) := by decide +kernel
theorem dX13_init_648 : decode cX13_init 648 = .ok (.putfield 236, 3) := by decide +kernel
theorem dX13_init_651 : decode cX13_init 651 = .ok (.aload_n 0, 1) := by decide +kernel
theorem dX13_init_652 : decode cX13_init 652 = .ok (.sipush 18000, 3) := by decide +kernel
theorem dX13_init_655 : decode cX13_init 655 = .ok (.newarray .int, 2) := by decide +kernel
theorem dX13_init_657 : decode cX13_init 657 = .ok (.putfield 239, 3) := by decide +kernel
theorem dX13_init_660 : decode cX13_init 660 = .ok (.aload_n 0, 1) := by decide +kernel
theorem dX13_init_661 : decode cX13_init 661 = .ok (.sipush 500, 3) := by decide +kernel
theorem dX13_init_664 : decode cX13_init 664 = .ok (.newarray .int, 2) := by decide +kernel
theorem dX13_init_666 : decode cX13_init 666 = .ok (.putfield 242, 3) := by decide +kernel
theorem dX13_init_669 : decode cX13_init 669 = .ok (.aload_n 0, 1) := by decide +kernel
theorem dX13_init_670 : decode cX13_init 670 = .ok (.new 7, 3) := by decide +kernel
theorem dX13_init_673 : decode cX13_init 673 = .ok (.dup, 1) := by decide +kernel
theorem dX13_init_674 : decode cX13_init 674 = .ok (.invokespecial 9, 3) := by decide +kernel
theorem dX13_init_677 : decode cX13_init 677 = .ok (.putfield 245, 3) := by decide +kernel
theorem dX13_init_680 : decode cX13_init 680 = .ok (.aload_n 0, 1) := by decide +kernel
theorem dX13_init_681 : decode cX13_init 681 = .ok (.bipush 10, 2) := by decide +kernel
theorem dX13_init_683 : decode cX13_init 683 = .ok (.newarray .int, 2) := by decide +kernel
theorem dX13_init_685 : decode cX13_init 685 = .ok (.putfield 248, 3) := by decide +kernel
theorem dX13_init_688 : decode cX13_init 688 = .ok (.return_, 1) := by decide +kernel
theorem dX13_feed_0 : decode cX13_feed 0 = .ok (.aload_n 0, 1) := by decide +kernel
theorem dX13_feed_1 : decode cX13_feed 1 = .ok (.iconst 0, 1) := by decide +kernel
theorem dX13_feed_2 : decode cX13_feed 2 = .ok (.putfield 251, 3) := by decide +kernel
theorem dX13_feed_5 : decode cX13_feed 5 = .ok (.aload_n 0, 1) := by decide +kernel
theorem dX13_feed_6 : decode cX13_feed 6 = .ok (.getfield 255, 3) := by decide +kernel
theorem dX13_feed_9 : decode cX13_feed 9 = .ok (.bipush 20, 2) := by decide +kernel
theorem dX13_feed_11 : decode cX13_feed 11 = .ok (.iadd, 1) := by decide +kernel
theorem dX13_feed_12 : decode cX13_feed 12 = .ok (.sipush 6000, 3) := by decide +kernel
theorem dX13_feed_15 : decode cX13_feed 15 = .ok (.if_icmp .le 5, 3) := by decide +kernel
theorem dX13_feed_20 : decode cX13_feed 20 = .ok (.aload_n 0, 1) := by decide +kernel
theorem dX13_feed_21 : decode cX13_feed 21 = .ok (.iload_n 1, 1) := by decide +kernel
theorem dX13_feed_22 : decode cX13_feed 22 = .ok (.invokevirtual 258, 3) := by decide +kernel
theorem dX13_feed_25 : decode cX13_feed 25 = .ok (.aload_n 0, 1) := by decide +kernel
theorem dX13_feed_26 : decode cX13_feed 26 = .ok (.iload_n 2, 1) := by decide +kernel
theorem dX13_feed_27 : decode cX13_feed 27 = .ok (.invokevirtual 258, 3) := by decide +kernel
theorem dX13_feed_30 : decode cX13_feed 30 = .ok (.aload_n 0, 1) := by decide +kernel
theorem dX13_feed_31 : decode cX13_feed 31 = .ok (.iload_n 3, 1) := by decide +kernel
theorem dX13_feed_32 : decode cX13_feed 32 = .ok (.invokevirtual 258, 3) := by decide +kernel
theorem dX13_feed_35 : decode cX13_feed 35 = .ok (.aload_n 0, 1) := by decide +kernel
theorem dX13_feed_36 : decode cX13_feed 36 = .ok (.iload 4, 2) := by decide +kernel
theorem dX13_feed_38 : decode cX13_feed 38 = .ok (.invokevirtual 258, 3) := by decide +kernel
theorem dX13_feed_41 : decode cX13_feed 41 = .ok (.aload_n 0, 1) := by decide +kernel
theorem dX13_feed_42 : decode cX13_feed 42 = .ok (.iload 5, 2) := by decide +kernel
theorem dX13_feed_44 : decode cX13_feed 44 = .ok (.invokevirtual 258, 3) := by decide +kernel
theorem dX13_feed_47 : decode cX13_feed 47 = .ok (.aload_n 0, 1) := by decide +kernel
theorem dX13_feed_48 : decode cX13_feed 48 = .ok (.getfield 255, 3) := by decide +kernel
theorem dX13_feed_51 : decode cX13_feed 51 = .ok (.ireturn, 1) := by decide +kernel
theorem dX13_four_0 : decode cX13_four 0 = .ok (.bipush 24, 2) := by decide +kernel
theorem dX13_four_2 : decode cX13_four 2 = .ok (.istore_n 2, 1) := by decide +kernel
theorem dX13_four_3 : decode cX13_four 3 = .ok (.iload_n 2, 1) := by decide +kernel
theorem dX13_four_4 : decode cX13_four 4 = .ok (.ifCond .lt 32, 3) := by decide +kernel
theorem dX13_four_7 : decode cX13_four 7 = .ok (.aload_n 0, 1) := by decide +kernel
theorem dX13_four_8 : decode cX13_four 8 = .ok (.getfield 16, 3) := by decide +kernel
theorem dX13_four_11 : decode cX13_four 11 = .ok (.aload_n 0, 1) := by decide +kernel
theorem dX13_four_12 : decode cX13_four 12 = .ok (.getfield 255, 3) := by decide +kernel
theorem dX13_four_15 : decode cX13_four 15 = .ok (.iload_n 1, 1) := by decide +kernel
theorem dX13_four_16 : decode cX13_four 16 = .ok (.iload_n 2, 1) := by decide +kernel
theorem dX13_four_17 : decode cX13_four 17 = .ok (.ishr, 1) := by decide +kernel
theorem dX13_four_18 : decode cX13_four 18 = .ok (.i2b, 1) := by decide +kernel
theorem dX13_four_19 : decode cX13_four 19 = .ok (.bastore, 1) := by decide +kernel
theorem dX13_four_20 : decode cX13_four 20 = .ok (.aload_n 0, 1) := by decide +kernel
theorem dX13_four_21 : decode cX13_four 21 = .ok (.dup, 1) := by decide +kernel
theorem dX13_four_22 : decode cX13_four 22 = .ok (.getfield 255, 3) := by decide +kernel
theorem dX13_four_25 : decode cX13_four 25 = .ok (.iconst 1, 1) := by decide +kernel
theorem dX13_four_26 : decode cX13_four 26 = .ok (.iadd, 1) := by decide +kernel
theorem dX13_four_27 : decode cX13_four 27 = .ok (.putfield 255, 3) := by decide +kernel
theorem dX13_four_30 : decode cX13_four 30 = .ok (.iinc 2 (-8), 3) := by decide +kernel
theorem dX13_four_33 : decode cX13_four 33 = .ok (.goto (-30), 3) := by decide +kernel
theorem dX13_four_36 : decode cX13_four 36 = .ok (.return_, 1) := by decide +kernel
theorem dX13_back_0 : decode cX13_back 0 = .ok (.aload_n 0, 1) := by decide +kernel
theorem dX13_back_1 : decode cX13_back 1 = .ok (.iconst 0, 1) := by decide +kernel
theorem dX13_back_2 : decode cX13_back 2 = .ok (.putfield 251, 3) := by decide +kernel
theorem dX13_back_5 : decode cX13_back 5 = .ok (.iload_n 1, 1) := by decide +kernel
theorem dX13_back_6 : decode cX13_back 6 = .ok (.ifCond .lt 11, 3) := by decide +kernel
theorem dX13_back_9 : decode cX13_back 9 = .ok (.iload_n 1, 1) := by decide +kernel
theorem dX13_back_10 : decode cX13_back 10 = .ok (.aload_n 0, 1) := by decide +kernel
theorem dX13_back_11 : decode cX13_back 11 = .ok (.getfield 255, 3) := by decide +kernel
theorem dX13_back_14 : decode cX13_back 14 = .ok (.if_icmp .le 5, 3) := by decide +kernel
theorem dX13_back_17 : decode cX13_back 17 = .ok (.iconst (-1), 1) := by decide +kernel
theorem dX13_back_18 : decode cX13_back 18 = .ok (.ireturn, 1) := by decide +kernel
theorem dX13_back_19 : decode cX13_back 19 = .ok (.aload_n 0, 1) := by decide +kernel
theorem dX13_back_20 : decode cX13_back 20 = .ok (.dup, 1) := by decide +kernel
theorem dX13_back_21 : decode cX13_back 21 = .ok (.getfield 255, 3) := by decide +kernel
theorem dX13_back_24 : decode cX13_back 24 = .ok (.iload_n 1, 1) := by decide +kernel
theorem dX13_back_25 : decode cX13_back 25 = .ok (.isub, 1) := by decide +kernel
theorem dX13_back_26 : decode cX13_back 26 = .ok (.putfield 255, 3) := by decide +kernel
theorem dX13_back_29 : decode cX13_back 29 = .ok (.aload_n 0, 1) := by decide +kernel
theorem dX13_back_30 : decode cX13_back 30 = .ok (.getfield 255, 3) := by decide +kernel
theorem dX13_back_33 : decode cX13_back 33 = .ok (.ireturn, 1) := by decide +kernel
theorem dX13_isTold_0 : decode cX13_isTold 0 = .ok (.aload_n 0, 1) := by decide +kernel
theorem dX13_isTold_1 : decode cX13_isTold 1 = .ok (.getfield 889, 3) := by decide +kernel
theorem dX13_isTold_4 : decode cX13_isTold 4 = .ok (.ifCond .eq 19, 3) := by decide +kernel
theorem dX13_isTold_23 : decode cX13_isTold 23 = .ok (.iconst 0, 1) := by decide +kernel
theorem dX13_isTold_24 : decode cX13_isTold 24 = .ok (.ireturn, 1) := by decide +kernel
theorem dX13_alike_0 : decode cX13_alike 0 = .ok (.aload_n 0, 1) := by decide +kernel
theorem dX13_alike_1 : decode cX13_alike 1 = .ok (.iconst 0, 1) := by decide +kernel
theorem dX13_alike_2 : decode cX13_alike 2 = .ok (.putfield 251, 3) := by decide +kernel
theorem dX13_alike_5 : decode cX13_alike 5 = .ok (.aload_n 0, 1) := by decide +kernel
theorem dX13_alike_6 : decode cX13_alike 6 = .ok (.iload_n 1, 1) := by decide +kernel
theorem dX13_alike_7 : decode cX13_alike 7 = .ok (.invokevirtual 917, 3) := by decide +kernel
theorem dX13_alike_10 : decode cX13_alike 10 = .ok (.ifCond .eq 11, 3) := by decide +kernel
theorem dX13_alike_21 : decode cX13_alike 21 = .ok (.iconst (-1), 1) := by decide +kernel
theorem dX13_alike_22 : decode cX13_alike 22 = .ok (.ireturn, 1) := by decide +kernel
theorem dX13_below_0 : decode cX13_below 0 = .ok (.aload_n 0, 1) := by decide +kernel
theorem dX13_below_1 : decode cX13_below 1 = .ok (.iconst 0, 1) := by decide +kernel
theorem dX13_below_2 : decode cX13_below 2 = .ok (.putfield 251, 3) := by decide +kernel
theorem dX13_below_5 : decode cX13_below 5 = .ok (.aload_n 0, 1) := by decide +kernel
theorem dX13_below_6 : decode cX13_below 6 = .ok (.iload_n 2, 1) := by decide +kernel
theorem dX13_below_7 : decode cX13_below 7 = .ok (.invokevirtual 917, 3) := by decide +kernel
theorem dX13_below_10 : decode cX13_below 10 = .ok (.ifCond .eq 23, 3) := by decide +kernel
theorem dX13_below_33 : decode cX13_below 33 = .ok (.iconst (-1), 1) := by decide +kernel
theorem dX13_below_34 : decode cX13_below 34 = .ok (.ireturn, 1) := by decide +kernel
theorem dX13_type__0 : decode cX13_type_ 0 = .ok (.aload_n 0, 1) := by decide +kernel
theorem dX13_type__1 : decode cX13_type_ 1 = .ok (.iconst 0, 1) := by decide +kernel
theorem dX13_type__2 : decode cX13_type_ 2 = .ok (.putfield 251, 3) := by decide +kernel
theorem dX13_type__5 : decode cX13_type_ 5 = .ok (.aload_n 0, 1) := by decide +kernel
theorem dX13_type__6 : decode cX13_type_ 6 = .ok (.iload_n 1, 1) := by decide +kernel
theorem dX13_type__7 : decode cX13_type_ 7 = .ok (.invokevirtual 917, 3) := by decide +kernel
theorem dX13_type__10 : decode cX13_type_ 10 = .ok (.ifCond .ne 5, 3) := by decide +kernel
theorem dX13_type__13 : decode cX13_type_ 13 = .ok (.iconst (-1), 1) := by decide +kernel
theorem dX13_type__14 : decode cX13_type_ 14 = .ok (.ireturn, 1) := by decide +kernel
theorem dX13_sees_0 : decode cX13_sees 0 = .ok (.aload_n 0, 1) := by decide +kernel
theorem dX13_sees_1 : decode cX13_sees 1 = .ok (.iconst 0, 1) := by decide +kernel
theorem dX13_sees_2 : decode cX13_sees 2 = .ok (.putfield 251, 3) := by decide +kernel
theorem dX13_sees_5 : decode cX13_sees 5 = .ok (.aload_n 0, 1) := by decide +kernel
theorem dX13_sees_6 : decode cX13_sees 6 = .ok (.iload_n 2, 1) := by decide +kernel
theorem dX13_sees_7 : decode cX13_sees 7 = .ok (.invokevirtual 917, 3) := by decide +kernel
theorem dX13_sees_10 : decode cX13_sees 10 = .ok (.ifCond .eq 27, 3) := by decide +kernel
theorem dX13_sees_37 : decode cX13_sees 37 = .ok (.iconst (-1), 1) := by decide +kernel
theorem dX13_sees_38 : decode cX13_sees 38 = .ok (.ireturn, 1) := by decide +kernel
theorem dX13_count_0 : decode cX13_count 0 = .ok (.aload_n 0, 1) := by decide +kernel
theorem dX13_count_1 : decode cX13_count 1 = .ok (.iconst 0, 1) := by decide +kernel
theorem dX13_count_2 : decode cX13_count 2 = .ok (.putfield 251, 3) := by decide +kernel
theorem dX13_count_5 : decode cX13_count 5 = .ok (.iconst 0, 1) := by decide +kernel
theorem dX13_count_6 : decode cX13_count 6 = .ok (.istore_n 2, 1) := by decide +kernel
theorem dX13_count_7 : decode cX13_count 7 = .ok (.iload_n 1, 1) := by decide +kernel
theorem dX13_count_8 : decode cX13_count 8 = .ok (.tableswitch 178 0 5 #[40, 58, 74, 90, 95, 111], 40) := by decide +kernel
theorem dX13_count_48 : decode cX13_count 48 = .ok (.aload_n 0, 1) := by decide +kernel
theorem dX13_count_49 : decode cX13_count 49 = .ok (.getfield 889, 3) := by decide +kernel
theorem dX13_count_52 : decode cX13_count 52 = .ok (.ifCond .eq 12, 3) := by decide +kernel
theorem dX13_count_64 : decode cX13_count 64 = .ok (.iconst 0, 1) := by decide +kernel
theorem dX13_count_65 : decode cX13_count 65 = .ok (.ireturn, 1) := by decide +kernel
theorem dX13_count_66 : decode cX13_count 66 = .ok (.aload_n 0, 1) := by decide +kernel
theorem dX13_count_67 : decode cX13_count 67 = .ok (.getfield 889, 3) := by decide +kernel
theorem dX13_count_70 : decode cX13_count 70 = .ok (.ifCond .eq 10, 3) := by decide +kernel
theorem dX13_count_80 : decode cX13_count 80 = .ok (.iconst 0, 1) := by decide +kernel
theorem dX13_count_81 : decode cX13_count 81 = .ok (.ireturn, 1) := by decide +kernel
theorem dX13_count_82 : decode cX13_count 82 = .ok (.aload_n 0, 1) := by decide +kernel
theorem dX13_count_83 : decode cX13_count 83 = .ok (.getfield 889, 3) := by decide +kernel
theorem dX13_count_86 : decode cX13_count 86 = .ok (.ifCond .eq 10, 3) := by decide +kernel
theorem dX13_count_96 : decode cX13_count 96 = .ok (.iconst 0, 1) := by decide +kernel
theorem dX13_count_97 : decode cX13_count 97 = .ok (.ireturn, 1) := by decide +kernel
theorem dX13_count_98 : decode cX13_count 98 = .ok (.aload_n 0, 1) := by decide +kernel
theorem dX13_count_99 : decode cX13_count 99 = .ok (.getfield 255, 3) := by decide +kernel
theorem dX13_count_102 : decode cX13_count 102 = .ok (.ireturn, 1) := by decide +kernel
theorem dX13_count_103 : decode cX13_count 103 = .ok (.aload_n 0, 1) := by decide +kernel
theorem dX13_count_104 : decode cX13_count 104 = .ok (.getfield 889, 3) := by decide +kernel
theorem dX13_count_107 : decode cX13_count 107 = .ok (.ifCond .eq 10, 3) := by decide +kernel
theorem dX13_count_117 : decode cX13_count 117 = .ok (.iconst 0, 1) := by decide +kernel
theorem dX13_count_118 : decode cX13_count 118 = .ok (.ireturn, 1) := by decide +kernel
theorem dX13_count_119 : decode cX13_count 119 = .ok (.aload_n 0, 1) := by decide +kernel
theorem dX13_count_120 : decode cX13_count 120 = .ok (.getfield 893, 3) := by decide +kernel
theorem dX13_count_123 : decode cX13_count 123 = .ok (.ifCond .ne 5, 3) := by decide +kernel
theorem dX13_count_126 : decode cX13_count 126 = .ok (.iconst 0, 1) := by decide +kernel
theorem dX13_count_127 : decode cX13_count 127 = .ok (.ireturn, 1) := by decide +kernel
theorem dX13_count_186 : decode cX13_count 186 = .ok (.iload_n 1, 1) := by decide +kernel
theorem dX13_count_187 : decode cX13_count 187 = .ok (.bipush 6, 2) := by decide +kernel
theorem dX13_count_189 : decode cX13_count 189 = .ok (.if_icmp .lt 9, 3) := by decide +kernel
theorem dX13_count_192 : decode cX13_count 192 = .ok (.iload_n 1, 1) := by decide +kernel
theorem dX13_count_193 : decode cX13_count 193 = .ok (.bipush 13, 2) := by decide +kernel
theorem dX13_count_195 : decode cX13_count 195 = .ok (.if_icmp .le 5, 3) := by decide +kernel
theorem dX13_count_198 : decode cX13_count 198 = .ok (.iconst (-1), 1) := by decide +kernel
theorem dX13_count_199 : decode cX13_count 199 = .ok (.ireturn, 1) := by decide +kernel
theorem dX13_count_200 : decode cX13_count 200 = .ok (.aload_n 0, 1) := by decide +kernel
theorem dX13_count_201 : decode cX13_count 201 = .ok (.getfield 893, 3) := by decide +kernel
theorem dX13_count_204 : decode cX13_count 204 = .ok (.ifCond .eq 11, 3) := by decide +kernel
theorem dX13_count_215 : decode cX13_count 215 = .ok (.iconst 0, 1) := by decide +kernel
theorem dX13_count_216 : decode cX13_count 216 = .ok (.ireturn, 1) := by decide +kernel
theorem dX13_output_0 : decode cX13_output 0 = .ok (.aload_n 0, 1) := by decide +kernel
theorem dX13_output_1 : decode cX13_output 1 = .ok (.iconst 0, 1) := by decide +kernel
theorem dX13_output_2 : decode cX13_output 2 = .ok (.putfield 251, 3) := by decide +kernel
theorem dX13_output_5 : decode cX13_output 5 = .ok (.aload_n 0, 1) := by decide +kernel
theorem dX13_output_6 : decode cX13_output 6 = .ok (.getfield 893, 3) := by decide +kernel
theorem dX13_output_9 : decode cX13_output 9 = .ok (.ifCond .eq 24, 3) := by decide +kernel
theorem dX13_output_33 : decode cX13_output 33 = .ok (.iconst 0, 1) := by decide +kernel
theorem dX13_output_34 : decode cX13_output 34 = .ok (.ireturn, 1) := by decide +kernel
theorem dX13_cell_0 : decode cX13_cell 0 = .ok (.aload_n 0, 1) := by decide +kernel
theorem dX13_cell_1 : decode cX13_cell 1 = .ok (.iconst 0, 1) := by decide +kernel
theorem dX13_cell_2 : decode cX13_cell 2 = .ok (.putfield 251, 3) := by decide +kernel
theorem dX13_cell_5 : decode cX13_cell 5 = .ok (.aload_n 0, 1) := by decide +kernel
theorem dX13_cell_6 : decode cX13_cell 6 = .ok (.getfield 893, 3) := by decide +kernel
theorem dX13_cell_9 : decode cX13_cell 9 = .ok (.ifCond .eq 24, 3) := by decide +kernel
theorem dX13_cell_33 : decode cX13_cell 33 = .ok (.iconst 0, 1) := by decide +kernel
theorem dX13_cell_34 : decode cX13_cell 34 = .ok (.ireturn, 1) := by decide +kernel
theorem dX13_thread_0 : decode cX13_thread 0 = .ok (.aload_n 0, 1) := by decide +kernel
theorem dX13_thread_1 : decode cX13_thread 1 = .ok (.iconst 0, 1) := by decide +kernel
theorem dX13_thread_2 : decode cX13_thread 2 = .ok (.putfield 251, 3) := by decide +kernel
theorem dX13_thread_5 : decode cX13_thread 5 = .ok (.aload_n 0, 1) := by decide +kernel
theorem dX13_thread_6 : decode cX13_thread 6 = .ok (.getfield 893, 3) := by decide +kernel
theorem dX13_thread_9 : decode cX13_thread 9 = .ok (.ifCond .eq 15, 3) := by decide +kernel
theorem dX13_thread_24 : decode cX13_thread 24 = .ok (.iconst (-1), 1) := by decide +kernel
theorem dX13_thread_25 : decode cX13_thread 25 = .ok (.ireturn, 1) := by decide +kernel
theorem dX13_thing_0 : decode cX13_thing 0 = .ok (.aload_n 0, 1) := by decide +kernel
theorem dX13_thing_1 : decode cX13_thing 1 = .ok (.iconst 0, 1) := by decide +kernel
theorem dX13_thing_2 : decode cX13_thing 2 = .ok (.putfield 251, 3) := by decide +kernel
theorem dX13_thing_5 : decode cX13_thing 5 = .ok (.aload_n 0, 1) := by decide +kernel
theorem dX13_thing_6 : decode cX13_thing 6 = .ok (.getfield 893, 3) := by decide +kernel
theorem dX13_thing_9 : decode cX13_thing 9 = .ok (.ifCond .eq 16, 3) := by decide +kernel
theorem dX13_thing_25 : decode cX13_thing 25 = .ok (.iconst (-1), 1) := by decide +kernel
theorem dX13_thing_26 : decode cX13_thing 26 = .ok (.ireturn, 1) := by decide +kernel
theorem dX13_inside_0 : decode cX13_inside 0 = .ok (.aload_n 0, 1) := by decide +kernel
theorem dX13_inside_1 : decode cX13_inside 1 = .ok (.iconst 0, 1) := by decide +kernel
theorem dX13_inside_2 : decode cX13_inside 2 = .ok (.putfield 251, 3) := by decide +kernel
theorem dX13_inside_5 : decode cX13_inside 5 = .ok (.aload_n 0, 1) := by decide +kernel
theorem dX13_inside_6 : decode cX13_inside 6 = .ok (.getfield 893, 3) := by decide +kernel
theorem dX13_inside_9 : decode cX13_inside 9 = .ok (.ifCond .eq 46, 3) := by decide +kernel
theorem dX13_inside_55 : decode cX13_inside 55 = .ok (.iconst 0, 1) := by decide +kernel
theorem dX13_inside_56 : decode cX13_inside 56 = .ok (.ireturn, 1) := by decide +kernel
abbrev vwCl : List vw_C := [(RJ0, TJ0, 4), (RJ4, TJ4, 4), (RX0, TX0, 7), (RX1, TX1, 19), (RX2, TX2, 19), (RX3, TX3, 2), (RX4, TX4, 20), (RX5, TX5, 8), (RX6, TX6, 20), (RX7, TX7, 13), (RX8, TX8, 15), (RX9, TX9, 20), (RX10, TX10, 13), (RX11, TX11, 5), (RX12, TX12, 6), (RX13, TX13, 134)]
def RRt : String := "java/lang/RuntimeException"
abbrev cRt_init : ByteArray := prog_25_method_5_code
def yRt_init : MethodName := ⟨RRt, "<init>", "(Ljava/lang/String;Ljava/lang/Throwable;ZZ)V"⟩
theorem dRt_init_0 : decode cRt_init 0 = .ok (.aload_n 0, 1) := by decide +kernel
theorem dRt_init_1 : decode cRt_init 1 = .ok (.aload_n 1, 1) := by decide +kernel
theorem dRt_init_2 : decode cRt_init 2 = .ok (.aload_n 2, 1) := by decide +kernel
theorem dRt_init_3 : decode cRt_init 3 = .ok (.iload_n 3, 1) := by decide +kernel
theorem dRt_init_4 : decode cRt_init 4 = .ok (.iload 4, 2) := by decide +kernel
theorem dRt_init_6 : decode cRt_init 6 = .ok (.invokespecial 16, 3) := by decide +kernel
theorem dRt_init_9 : decode cRt_init 9 = .ok (.return_, 1) := by decide +kernel
def REx : String := "java/lang/Exception"
abbrev cEx_init : ByteArray := prog_19_method_5_code
def yEx_init : MethodName := ⟨REx, "<init>", "(Ljava/lang/String;Ljava/lang/Throwable;ZZ)V"⟩
theorem dEx_init_0 : decode cEx_init 0 = .ok (.aload_n 0, 1) := by decide +kernel
theorem dEx_init_1 : decode cEx_init 1 = .ok (.aload_n 1, 1) := by decide +kernel
theorem dEx_init_2 : decode cEx_init 2 = .ok (.aload_n 2, 1) := by decide +kernel
theorem dEx_init_3 : decode cEx_init 3 = .ok (.iload_n 3, 1) := by decide +kernel
theorem dEx_init_4 : decode cEx_init 4 = .ok (.iload 4, 2) := by decide +kernel
theorem dEx_init_6 : decode cEx_init 6 = .ok (.invokespecial 16, 3) := by decide +kernel
theorem dEx_init_9 : decode cEx_init 9 = .ok (.return_, 1) := by decide +kernel
def RTh : String := "java/lang/Throwable"
abbrev cTh_init : ByteArray := prog_31_method_5_code
def yTh_init : MethodName := ⟨RTh, "<init>", "(Ljava/lang/String;Ljava/lang/Throwable;ZZ)V"⟩
theorem dTh_init_0 : decode cTh_init 0 = .ok (.aload_n 0, 1) := by decide +kernel
theorem dTh_init_1 : decode cTh_init 1 = .ok (.invokespecial 1, 3) := by decide +kernel
theorem dTh_init_4 : decode cTh_init 4 = .ok (.aload_n 0, 1) := by decide +kernel
theorem dTh_init_5 : decode cTh_init 5 = .ok (.aload_n 0, 1) := by decide +kernel
theorem dTh_init_6 : decode cTh_init 6 = .ok (.putfield 7, 3) := by decide +kernel
theorem dTh_init_9 : decode cTh_init 9 = .ok (.aload_n 0, 1) := by decide +kernel
theorem dTh_init_10 : decode cTh_init 10 = .ok (.getstatic 13, 3) := by decide +kernel
theorem dTh_init_13 : decode cTh_init 13 = .ok (.putfield 17, 3) := by decide +kernel
theorem dTh_init_16 : decode cTh_init 16 = .ok (.aload_n 0, 1) := by decide +kernel
theorem dTh_init_17 : decode cTh_init 17 = .ok (.getstatic 20, 3) := by decide +kernel
theorem dTh_init_20 : decode cTh_init 20 = .ok (.putfield 24, 3) := by decide +kernel
theorem dTh_init_23 : decode cTh_init 23 = .ok (.iload 4, 2) := by decide +kernel
theorem dTh_init_25 : decode cTh_init 25 = .ok (.ifCond .eq 11, 3) := by decide +kernel
theorem dTh_init_36 : decode cTh_init 36 = .ok (.aload_n 0, 1) := by decide +kernel
theorem dTh_init_37 : decode cTh_init 37 = .ok (.aconst_null, 1) := by decide +kernel
theorem dTh_init_38 : decode cTh_init 38 = .ok (.putfield 17, 3) := by decide +kernel
theorem dTh_init_41 : decode cTh_init 41 = .ok (.aload_n 0, 1) := by decide +kernel
theorem dTh_init_42 : decode cTh_init 42 = .ok (.aload_n 1, 1) := by decide +kernel
theorem dTh_init_43 : decode cTh_init 43 = .ok (.putfield 31, 3) := by decide +kernel
theorem dTh_init_46 : decode cTh_init 46 = .ok (.aload_n 0, 1) := by decide +kernel
theorem dTh_init_47 : decode cTh_init 47 = .ok (.aload_n 2, 1) := by decide +kernel
theorem dTh_init_48 : decode cTh_init 48 = .ok (.putfield 7, 3) := by decide +kernel
theorem dTh_init_51 : decode cTh_init 51 = .ok (.iload_n 3, 1) := by decide +kernel
theorem dTh_init_52 : decode cTh_init 52 = .ok (.ifCond .ne 8, 3) := by decide +kernel
theorem dTh_init_55 : decode cTh_init 55 = .ok (.aload_n 0, 1) := by decide +kernel
theorem dTh_init_56 : decode cTh_init 56 = .ok (.aconst_null, 1) := by decide +kernel
theorem dTh_init_57 : decode cTh_init 57 = .ok (.putfield 24, 3) := by decide +kernel
theorem dTh_init_60 : decode cTh_init 60 = .ok (.return_, 1) := by decide +kernel
