/-! ===== BEGIN words of one list among another's, by their places ===== -/
theorem goodIn_r {big : List Cond} (ws : List Cond) (ps : List Nat) (hp : ws = ps.filterMap (fun i => big[i]?)) (h : ws.all goodWord = true) : GoodIn big ws := by
  intro w hw
  have h1 := List.all_eq_true.mp h w hw
  rw [hp] at hw
  obtain ⟨i, -, hi⟩ := List.mem_filterMap.mp hw
  have hm : w ∈ big := by first | exact List.mem_of_getElem? hi | exact List.getElem?_mem hi
  exact ⟨hm, good_of_word h1⟩
theorem goodIn_app {big a b : List Cond} (ha : GoodIn big a) (hb : GoodIn big b) : GoodIn big (a ++ b) := fun w h => (List.mem_append.mp h).elim (ha w) (hb w)
theorem goodIn_ca {big a b : List Cond} {c : Cond} (ha : GoodIn big (c :: a)) (hb : GoodIn big b) : GoodIn big (c :: (a ++ b)) := fun w h => (List.mem_cons.mp h).elim (fun e => ha w (List.mem_cons.mpr (Or.inl e))) (fun h => (List.mem_append.mp h).elim (fun h => ha w (List.mem_cons.mpr (Or.inr h))) (hb w))
theorem goodIn_sub {big ws : List Cond} (hm : ∀ w ∈ ws, w ∈ big) (h : ws.all goodWord = true) : GoodIn big ws := fun w hw => ⟨hm w hw, good_of_word (List.all_eq_true.mp h w hw)⟩
/-! ===== END ===== -/

/-- n fields, as a function tells them -/
def fl (n : Nat) (F : Nat → Value) : List Value := (List.range n).map F
def fu (F : Nat → Value) (k : Nat) (v : Value) : Nat → Value := fun j => if j = k then v else F j
theorem fl_len {n : Nat} {F : Nat → Value} : (fl n F).length = n := by simp [fl]
theorem fl_lt {n k : Nat} {F : Nat → Value} (h : k < n) : k < (fl n F).length := by rw [fl_len]; exact h
theorem fl_get {n k : Nat} {F : Nat → Value} {v : Value} (h : k < n) (e : F k = v) : (fl n F)[k]? = some v := by
  rw [← e]; simp [fl, h]
theorem fl_set {n k : Nat} {F : Nat → Value} {v : Value} (h : k < n) : (fl n F).set k v = fl n (fu F k v) := by
  apply List.ext_getElem?
  intro i
  by_cases hi : i < n
  · by_cases hik : k = i
    · subst hik; rw [List.getElem?_set_self (by simpa [fl] using hi)]; simp [fl, fu, hi]
    · rw [List.getElem?_set_ne hik]; simp [fl, fu, hi, Ne.symm hik]
  · rw [List.getElem?_eq_none (by simp [fl]; omega), List.getElem?_eq_none (by simp [fl]; omega)]
theorem fu_eq {F G : Nat → Value} {k : Nat} {v : Value} (e : G = fu F k v) : G k = v := by rw [e]; simp [fu]
theorem fu_ne {F G : Nat → Value} {k j : Nat} {v w : Value} (e : G = fu F k v) (h : j ≠ k) (hj : F j = w) : G j = w := by rw [e]; simp [fu, h, hj]
def RX0 : String := "LevelUnits$Checker"
def TX0 : u_T := fun k => match k with
  | 0 => ("LevelUnits$Checker", "types", "LLevelUnits$Types;", true)
  | 1 => ("LevelUnits$Checker", "unit", "LLevelUnits$Decl;", false)
  | 2 => ("LevelUnits$Checker", "stack", "[LLevelUnits$Node;", true)
  | 3 => ("LevelUnits$Checker", "top", "I", false)
  | 4 => ("LevelUnits$Checker", "line", "I", false)
  | 5 => ("LevelUnits$Checker", "method", "LLevelUnits$Decl;", false)
  | _ => ("LevelUnits$Checker", "found", "I", false)
def tyX0 : Nat → FieldType := fun k => match k with
  | 0 => .object "LevelUnits$Types"
  | 1 => .object "LevelUnits$Decl"
  | 2 => .array (.object "LevelUnits$Node")
  | 3 => .int
  | 4 => .int
  | 5 => .object "LevelUnits$Decl"
  | _ => .int
abbrev wsX00 : List Cond := u_ws RX0 TX0 7
theorem nmX0 : ∀ a, a < 7 → ∀ b, b < 7 → a ≠ b → (TX0 a).2.1 ≠ (TX0 b).2.1 := by decide +kernel
theorem tyX0_ok : ∀ k, k < 7 → parseFieldDescriptor (TX0 k).2.2.1 = some (tyX0 k) := by decide +kernel
def RX1 : String := "LevelUnits$Decl"
def TX1 : u_T := fun k => match k with
  | 0 => ("LevelUnits$Decl", "kind", "I", false)
  | 1 => ("LevelUnits$Decl", "name", "I", true)
  | 2 => ("LevelUnits$Decl", "line", "I", true)
  | 3 => ("LevelUnits$Decl", "nameLine", "I", true)
  | 4 => ("LevelUnits$Decl", "unit", "LLevelUnits$Decl;", false)
  | 5 => ("LevelUnits$Decl", "next", "LLevelUnits$Decl;", false)
  | 6 => ("LevelUnits$Decl", "type", "LLevelUnits$Node;", false)
  | 7 => ("LevelUnits$Decl", "bound", "LLevelUnits$Node;", false)
  | 8 => ("LevelUnits$Decl", "use", "LLevelUnits$Op;", false)
  | 9 => ("LevelUnits$Decl", "number", "I", false)
  | 10 => ("LevelUnits$Decl", "offset", "I", false)
  | 11 => ("LevelUnits$Decl", "first", "LLevelUnits$Decl;", false)
  | 12 => ("LevelUnits$Decl", "body", "LLevelUnits$Stat;", false)
  | 13 => ("LevelUnits$Decl", "endLine", "I", false)
  | 14 => ("LevelUnits$Decl", "other", "LLevelUnits$Decl;", false)
  | 15 => ("LevelUnits$Decl", "reveal", "LLevelUnits$Decl;", false)
  | 16 => ("LevelUnits$Decl", "mask", "I", false)
  | 17 => ("LevelUnits$Decl", "cells", "I", false)
  | _ => ("LevelUnits$Decl", "held", "LLevelUnits$Node;", false)
def tyX1 : Nat → FieldType := fun k => match k with
  | 0 => .int
  | 1 => .int
  | 2 => .int
  | 3 => .int
  | 4 => .object "LevelUnits$Decl"
  | 5 => .object "LevelUnits$Decl"
  | 6 => .object "LevelUnits$Node"
  | 7 => .object "LevelUnits$Node"
  | 8 => .object "LevelUnits$Op"
  | 9 => .int
  | 10 => .int
  | 11 => .object "LevelUnits$Decl"
  | 12 => .object "LevelUnits$Stat"
  | 13 => .int
  | 14 => .object "LevelUnits$Decl"
  | 15 => .object "LevelUnits$Decl"
  | 16 => .int
  | 17 => .int
  | _ => .object "LevelUnits$Node"
abbrev wsX10 : List Cond := u_ws RX1 TX1 19
theorem nmX1 : ∀ a, a < 19 → ∀ b, b < 19 → a ≠ b → (TX1 a).2.1 ≠ (TX1 b).2.1 := by decide +kernel
theorem tyX1_ok : ∀ k, k < 19 → parseFieldDescriptor (TX1 k).2.2.1 = some (tyX1 k) := by decide +kernel
def RX2 : String := "LevelUnits$Machine"
def TX2 : u_T := fun k => match k with
  | 0 => ("LevelUnits$Machine", "types", "LLevelUnits$Types;", false)
  | 1 => ("LevelUnits$Machine", "globals", "[I", true)
  | 2 => ("LevelUnits$Machine", "heap", "[I", true)
  | 3 => ("LevelUnits$Machine", "starts", "[I", true)
  | 4 => ("LevelUnits$Machine", "kinds", "[LLevelUnits$Node;", true)
  | 5 => ("LevelUnits$Machine", "holders", "[I", true)
  | 6 => ("LevelUnits$Machine", "things", "I", false)
  | 7 => ("LevelUnits$Machine", "strands", "[LLevelUnits$Strand;", true)
  | 8 => ("LevelUnits$Machine", "made", "I", false)
  | 9 => ("LevelUnits$Machine", "seed", "I", false)
  | 10 => ("LevelUnits$Machine", "steps", "I", false)
  | 11 => ("LevelUnits$Machine", "numbers", "[I", true)
  | 12 => ("LevelUnits$Machine", "outputs", "I", false)
  | 13 => ("LevelUnits$Machine", "values", "[I", true)
  | 14 => ("LevelUnits$Machine", "top", "I", false)
  | 15 => ("LevelUnits$Machine", "passed", "[I", true)
  | 16 => ("LevelUnits$Machine", "forked", "LLevelUnits$Strand;", false)
  | 17 => ("LevelUnits$Machine", "fault", "I", false)
  | _ => ("LevelUnits$Machine", "faultLine", "I", false)
def tyX2 : Nat → FieldType := fun k => match k with
  | 0 => .object "LevelUnits$Types"
  | 1 => .array .int
  | 2 => .array .int
  | 3 => .array .int
  | 4 => .array (.object "LevelUnits$Node")
  | 5 => .array .int
  | 6 => .int
  | 7 => .array (.object "LevelUnits$Strand")
  | 8 => .int
  | 9 => .int
  | 10 => .int
  | 11 => .array .int
  | 12 => .int
  | 13 => .array .int
  | 14 => .int
  | 15 => .array .int
  | 16 => .object "LevelUnits$Strand"
  | 17 => .int
  | _ => .int
abbrev wsX20 : List Cond := u_ws RX2 TX2 19
theorem nmX2 : ∀ a, a < 19 → ∀ b, b < 19 → a ≠ b → (TX2 a).2.1 ≠ (TX2 b).2.1 := by decide +kernel
theorem tyX2_ok : ∀ k, k < 19 → parseFieldDescriptor (TX2 k).2.2.1 = some (tyX2 k) := by decide +kernel
abbrev cX2_init : ByteArray := prog_4_method_1_code
def yX2_init : MethodName := ⟨RX2, "<init>", "()V"⟩
def RX3 : String := "LevelUnits$Names"
def TX3 : u_T := fun k => match k with
  | 0 => ("LevelUnits$Names", "text", "LLevelUnits$Parser;", true)
  | _ => ("LevelUnits$Names", "found", "I", false)
def tyX3 : Nat → FieldType := fun k => match k with
  | 0 => .object "LevelUnits$Parser"
  | _ => .int
abbrev wsX30 : List Cond := u_ws RX3 TX3 2
theorem nmX3 : ∀ a, a < 2 → ∀ b, b < 2 → a ≠ b → (TX3 a).2.1 ≠ (TX3 b).2.1 := by decide +kernel
theorem tyX3_ok : ∀ k, k < 2 → parseFieldDescriptor (TX3 k).2.2.1 = some (tyX3 k) := by decide +kernel
def RX4 : String := "LevelUnits$Node"
def TX4 : u_T := fun k => match k with
  | 0 => ("LevelUnits$Node", "kind", "I", true)
  | 1 => ("LevelUnits$Node", "index", "I", true)
  | 2 => ("LevelUnits$Node", "line", "I", true)
  | 3 => ("LevelUnits$Node", "unit", "LLevelUnits$Decl;", true)
  | 4 => ("LevelUnits$Node", "lo", "I", false)
  | 5 => ("LevelUnits$Node", "hi", "I", false)
  | 6 => ("LevelUnits$Node", "elem", "LLevelUnits$Node;", false)
  | 7 => ("LevelUnits$Node", "items", "LLevelUnits$Decl;", false)
  | 8 => ("LevelUnits$Node", "raises", "LLevelUnits$Op;", false)
  | 9 => ("LevelUnits$Node", "use", "LLevelUnits$Op;", false)
  | 10 => ("LevelUnits$Node", "own", "LLevelUnits$Decl;", false)
  | 11 => ("LevelUnits$Node", "real", "LLevelUnits$Node;", false)
  | 12 => ("LevelUnits$Node", "up", "LLevelUnits$Node;", false)
  | 13 => ("LevelUnits$Node", "views", "[LLevelUnits$Node;", false)
  | 14 => ("LevelUnits$Node", "shape", "I", false)
  | 15 => ("LevelUnits$Node", "cells", "I", false)
  | 16 => ("LevelUnits$Node", "firsts", "[I", false)
  | 17 => ("LevelUnits$Node", "size", "I", false)
  | 18 => ("LevelUnits$Node", "next", "LLevelUnits$Node;", false)
  | _ => ("LevelUnits$Node", "nextHeld", "LLevelUnits$Node;", false)
def tyX4 : Nat → FieldType := fun k => match k with
  | 0 => .int
  | 1 => .int
  | 2 => .int
  | 3 => .object "LevelUnits$Decl"
  | 4 => .int
  | 5 => .int
  | 6 => .object "LevelUnits$Node"
  | 7 => .object "LevelUnits$Decl"
  | 8 => .object "LevelUnits$Op"
  | 9 => .object "LevelUnits$Op"
  | 10 => .object "LevelUnits$Decl"
  | 11 => .object "LevelUnits$Node"
  | 12 => .object "LevelUnits$Node"
  | 13 => .array (.object "LevelUnits$Node")
  | 14 => .int
  | 15 => .int
  | 16 => .array .int
  | 17 => .int
  | 18 => .object "LevelUnits$Node"
  | _ => .object "LevelUnits$Node"
abbrev wsX40 : List Cond := u_ws RX4 TX4 20
theorem nmX4 : ∀ a, a < 20 → ∀ b, b < 20 → a ≠ b → (TX4 a).2.1 ≠ (TX4 b).2.1 := by decide +kernel
theorem tyX4_ok : ∀ k, k < 20 → parseFieldDescriptor (TX4 k).2.2.1 = some (tyX4 k) := by decide +kernel
def RX5 : String := "LevelUnits$Op"
def TX5 : u_T := fun k => match k with
  | 0 => ("LevelUnits$Op", "kind", "I", false)
  | 1 => ("LevelUnits$Op", "name", "I", true)
  | 2 => ("LevelUnits$Op", "unitName", "I", true)
  | 3 => ("LevelUnits$Op", "line", "I", true)
  | 4 => ("LevelUnits$Op", "type", "LLevelUnits$Node;", false)
  | 5 => ("LevelUnits$Op", "decl", "LLevelUnits$Decl;", false)
  | 6 => ("LevelUnits$Op", "sub", "LLevelUnits$Op;", false)
  | _ => ("LevelUnits$Op", "next", "LLevelUnits$Op;", false)
def tyX5 : Nat → FieldType := fun k => match k with
  | 0 => .int
  | 1 => .int
  | 2 => .int
  | 3 => .int
  | 4 => .object "LevelUnits$Node"
  | 5 => .object "LevelUnits$Decl"
  | 6 => .object "LevelUnits$Op"
  | _ => .object "LevelUnits$Op"
abbrev wsX50 : List Cond := u_ws RX5 TX5 8
theorem nmX5 : ∀ a, a < 8 → ∀ b, b < 8 → a ≠ b → (TX5 a).2.1 ≠ (TX5 b).2.1 := by decide +kernel
theorem tyX5_ok : ∀ k, k < 8 → parseFieldDescriptor (TX5 k).2.2.1 = some (tyX5 k) := by decide +kernel
def RX6 : String := "LevelUnits$Parser"
def TX6 : u_T := fun k => match k with
  | 0 => ("LevelUnits$Parser", "in", "LLevelUnits$Scanner;", true)
  | 1 => ("LevelUnits$Parser", "at", "I", false)
  | 2 => ("LevelUnits$Parser", "kind", "I", false)
  | 3 => ("LevelUnits$Parser", "fault", "I", false)
  | 4 => ("LevelUnits$Parser", "open", "[I", true)
  | 5 => ("LevelUnits$Parser", "waiting", "[I", true)
  | 6 => ("LevelUnits$Parser", "waitingTop", "I", false)
  | 7 => ("LevelUnits$Parser", "unit", "LLevelUnits$Decl;", false)
  | 8 => ("LevelUnits$Parser", "body", "LLevelUnits$Decl;", false)
  | 9 => ("LevelUnits$Parser", "holder", "LLevelUnits$Decl;", false)
  | 10 => ("LevelUnits$Parser", "line", "I", false)
  | 11 => ("LevelUnits$Parser", "tail", "LLevelUnits$Op;", false)
  | 12 => ("LevelUnits$Parser", "lastTold", "LLevelUnits$Decl;", false)
  | 13 => ("LevelUnits$Parser", "lastNode", "LLevelUnits$Node;", false)
  | 14 => ("LevelUnits$Parser", "lastStat", "LLevelUnits$Stat;", false)
  | 15 => ("LevelUnits$Parser", "units", "LLevelUnits$Decl;", false)
  | 16 => ("LevelUnits$Parser", "stats", "LLevelUnits$Stat;", false)
  | 17 => ("LevelUnits$Parser", "root", "LLevelUnits$Node;", true)
  | 18 => ("LevelUnits$Parser", "integer", "LLevelUnits$Node;", true)
  | _ => ("LevelUnits$Parser", "bool", "LLevelUnits$Node;", true)
def tyX6 : Nat → FieldType := fun k => match k with
  | 0 => .object "LevelUnits$Scanner"
  | 1 => .int
  | 2 => .int
  | 3 => .int
  | 4 => .array .int
  | 5 => .array .int
  | 6 => .int
  | 7 => .object "LevelUnits$Decl"
  | 8 => .object "LevelUnits$Decl"
  | 9 => .object "LevelUnits$Decl"
  | 10 => .int
  | 11 => .object "LevelUnits$Op"
  | 12 => .object "LevelUnits$Decl"
  | 13 => .object "LevelUnits$Node"
  | 14 => .object "LevelUnits$Stat"
  | 15 => .object "LevelUnits$Decl"
  | 16 => .object "LevelUnits$Stat"
  | 17 => .object "LevelUnits$Node"
  | 18 => .object "LevelUnits$Node"
  | _ => .object "LevelUnits$Node"
abbrev wsX60 : List Cond := u_ws RX6 TX6 20
theorem nmX6 : ∀ a, a < 20 → ∀ b, b < 20 → a ≠ b → (TX6 a).2.1 ≠ (TX6 b).2.1 := by decide +kernel
theorem tyX6_ok : ∀ k, k < 20 → parseFieldDescriptor (TX6 k).2.2.1 = some (tyX6 k) := by decide +kernel
def RX7 : String := "LevelUnits$Scanner"
def TX7 : u_T := fun k => match k with
  | 0 => ("LevelUnits$Scanner", "kinds", "[I", true)
  | 1 => ("LevelUnits$Scanner", "values", "[I", true)
  | 2 => ("LevelUnits$Scanner", "lines", "[I", true)
  | 3 => ("LevelUnits$Scanner", "tokens", "I", false)
  | 4 => ("LevelUnits$Scanner", "text", "[B", false)
  | 5 => ("LevelUnits$Scanner", "size", "I", false)
  | 6 => ("LevelUnits$Scanner", "at", "I", false)
  | 7 => ("LevelUnits$Scanner", "line", "I", false)
  | 8 => ("LevelUnits$Scanner", "heads", "[I", true)
  | 9 => ("LevelUnits$Scanner", "chains", "[I", true)
  | 10 => ("LevelUnits$Scanner", "starts", "[I", true)
  | 11 => ("LevelUnits$Scanner", "sizes", "[I", true)
  | _ => ("LevelUnits$Scanner", "names", "I", false)
def tyX7 : Nat → FieldType := fun k => match k with
  | 0 => .array .int
  | 1 => .array .int
  | 2 => .array .int
  | 3 => .int
  | 4 => .array .byte
  | 5 => .int
  | 6 => .int
  | 7 => .int
  | 8 => .array .int
  | 9 => .array .int
  | 10 => .array .int
  | 11 => .array .int
  | _ => .int
abbrev wsX70 : List Cond := u_ws RX7 TX7 13
theorem nmX7 : ∀ a, a < 13 → ∀ b, b < 13 → a ≠ b → (TX7 a).2.1 ≠ (TX7 b).2.1 := by decide +kernel
theorem tyX7_ok : ∀ k, k < 13 → parseFieldDescriptor (TX7 k).2.2.1 = some (tyX7 k) := by decide +kernel
abbrev cX7_init : ByteArray := prog_9_method_1_code
def yX7_init : MethodName := ⟨RX7, "<init>", "()V"⟩
def RX8 : String := "LevelUnits$Stat"
def TX8 : u_T := fun k => match k with
  | 0 => ("LevelUnits$Stat", "kind", "I", false)
  | 1 => ("LevelUnits$Stat", "line", "I", true)
  | 2 => ("LevelUnits$Stat", "home", "LLevelUnits$Stat;", true)
  | 3 => ("LevelUnits$Stat", "decl", "LLevelUnits$Decl;", true)
  | 4 => ("LevelUnits$Stat", "next", "LLevelUnits$Stat;", false)
  | 5 => ("LevelUnits$Stat", "nextOfAll", "LLevelUnits$Stat;", false)
  | 6 => ("LevelUnits$Stat", "parts", "LLevelUnits$Stat;", false)
  | 7 => ("LevelUnits$Stat", "place", "LLevelUnits$Op;", false)
  | 8 => ("LevelUnits$Stat", "first", "LLevelUnits$Op;", false)
  | 9 => ("LevelUnits$Stat", "second", "LLevelUnits$Op;", false)
  | 10 => ("LevelUnits$Stat", "parameters", "LLevelUnits$Op;", false)
  | 11 => ("LevelUnits$Stat", "use", "LLevelUnits$Op;", false)
  | 12 => ("LevelUnits$Stat", "name", "LLevelUnits$Decl;", false)
  | 13 => ("LevelUnits$Stat", "type", "LLevelUnits$Node;", false)
  | _ => ("LevelUnits$Stat", "level", "I", false)
def tyX8 : Nat → FieldType := fun k => match k with
  | 0 => .int
  | 1 => .int
  | 2 => .object "LevelUnits$Stat"
  | 3 => .object "LevelUnits$Decl"
  | 4 => .object "LevelUnits$Stat"
  | 5 => .object "LevelUnits$Stat"
  | 6 => .object "LevelUnits$Stat"
  | 7 => .object "LevelUnits$Op"
  | 8 => .object "LevelUnits$Op"
  | 9 => .object "LevelUnits$Op"
  | 10 => .object "LevelUnits$Op"
  | 11 => .object "LevelUnits$Op"
  | 12 => .object "LevelUnits$Decl"
  | 13 => .object "LevelUnits$Node"
  | _ => .int
abbrev wsX80 : List Cond := u_ws RX8 TX8 15
theorem nmX8 : ∀ a, a < 15 → ∀ b, b < 15 → a ≠ b → (TX8 a).2.1 ≠ (TX8 b).2.1 := by decide +kernel
theorem tyX8_ok : ∀ k, k < 15 → parseFieldDescriptor (TX8 k).2.2.1 = some (tyX8 k) := by decide +kernel
def RX9 : String := "LevelUnits$Strand"
def TX9 : u_T := fun k => match k with
  | 0 => ("LevelUnits$Strand", "number", "I", true)
  | 1 => ("LevelUnits$Strand", "state", "I", false)
  | 2 => ("LevelUnits$Strand", "waitsFor", "I", false)
  | 3 => ("LevelUnits$Strand", "mutex", "I", false)
  | 4 => ("LevelUnits$Strand", "since", "I", false)
  | 5 => ("LevelUnits$Strand", "stat", "LLevelUnits$Stat;", false)
  | 6 => ("LevelUnits$Strand", "again", "Z", false)
  | 7 => ("LevelUnits$Strand", "part", "LLevelUnits$Stat;", false)
  | 8 => ("LevelUnits$Strand", "at", "LLevelUnits$Stat;", false)
  | 9 => ("LevelUnits$Strand", "leaving", "I", false)
  | 10 => ("LevelUnits$Strand", "exception", "I", false)
  | 11 => ("LevelUnits$Strand", "amount", "I", false)
  | 12 => ("LevelUnits$Strand", "faultLine", "I", false)
  | 13 => ("LevelUnits$Strand", "calls", "I", false)
  | 14 => ("LevelUnits$Strand", "cells", "I", false)
  | 15 => ("LevelUnits$Strand", "row", "[I", true)
  | 16 => ("LevelUnits$Strand", "slots", "[I", true)
  | 17 => ("LevelUnits$Strand", "callers", "[LLevelUnits$Stat;", true)
  | 18 => ("LevelUnits$Strand", "targets", "[I", true)
  | _ => ("LevelUnits$Strand", "bases", "[I", true)
def tyX9 : Nat → FieldType := fun k => match k with
  | 0 => .int
  | 1 => .int
  | 2 => .int
  | 3 => .int
  | 4 => .int
  | 5 => .object "LevelUnits$Stat"
  | 6 => .boolean
  | 7 => .object "LevelUnits$Stat"
  | 8 => .object "LevelUnits$Stat"
  | 9 => .int
  | 10 => .int
  | 11 => .int
  | 12 => .int
  | 13 => .int
  | 14 => .int
  | 15 => .array .int
  | 16 => .array .int
  | 17 => .array (.object "LevelUnits$Stat")
  | 18 => .array .int
  | _ => .array .int
abbrev wsX90 : List Cond := u_ws RX9 TX9 20
theorem nmX9 : ∀ a, a < 20 → ∀ b, b < 20 → a ≠ b → (TX9 a).2.1 ≠ (TX9 b).2.1 := by decide +kernel
theorem tyX9_ok : ∀ k, k < 20 → parseFieldDescriptor (TX9 k).2.2.1 = some (tyX9 k) := by decide +kernel
def RX10 : String := "LevelUnits$Types"
def TX10 : u_T := fun k => match k with
  | 0 => ("LevelUnits$Types", "tokens", "I", true)
  | 1 => ("LevelUnits$Types", "unitRow", "[LLevelUnits$Decl;", true)
  | 2 => ("LevelUnits$Types", "typeRow", "[LLevelUnits$Decl;", true)
  | 3 => ("LevelUnits$Types", "procedureRow", "[LLevelUnits$Decl;", true)
  | 4 => ("LevelUnits$Types", "least", "[I", false)
  | 5 => ("LevelUnits$Types", "globalCells", "I", false)
  | 6 => ("LevelUnits$Types", "integer", "LLevelUnits$Node;", true)
  | 7 => ("LevelUnits$Types", "bool", "LLevelUnits$Node;", true)
  | 8 => ("LevelUnits$Types", "nil", "LLevelUnits$Node;", true)
  | 9 => ("LevelUnits$Types", "nodes", "LLevelUnits$Node;", true)
  | 10 => ("LevelUnits$Types", "nodeCount", "I", true)
  | 11 => ("LevelUnits$Types", "seen", "[LLevelUnits$Decl;", true)
  | _ => ("LevelUnits$Types", "found", "I", false)
def tyX10 : Nat → FieldType := fun k => match k with
  | 0 => .int
  | 1 => .array (.object "LevelUnits$Decl")
  | 2 => .array (.object "LevelUnits$Decl")
  | 3 => .array (.object "LevelUnits$Decl")
  | 4 => .array .int
  | 5 => .int
  | 6 => .object "LevelUnits$Node"
  | 7 => .object "LevelUnits$Node"
  | 8 => .object "LevelUnits$Node"
  | 9 => .object "LevelUnits$Node"
  | 10 => .int
  | 11 => .array (.object "LevelUnits$Decl")
  | _ => .int
abbrev wsX100 : List Cond := u_ws RX10 TX10 13
theorem nmX10 : ∀ a, a < 13 → ∀ b, b < 13 → a ≠ b → (TX10 a).2.1 ≠ (TX10 b).2.1 := by decide +kernel
theorem tyX10_ok : ∀ k, k < 13 → parseFieldDescriptor (TX10 k).2.2.1 = some (tyX10 k) := by decide +kernel
def RX11 : String := "LevelUnits"
def TX11 : u_T := fun k => match k with
  | 0 => ("LevelUnits", "tape", "[B", true)
  | 1 => ("LevelUnits", "length", "I", false)
  | 2 => ("LevelUnits", "scanner", "LLevelUnits$Scanner;", true)
  | 3 => ("LevelUnits", "machine", "LLevelUnits$Machine;", true)
  | _ => ("LevelUnits", "program", "LLevelUnits$Types;", false)
def tyX11 : Nat → FieldType := fun k => match k with
  | 0 => .array .byte
  | 1 => .int
  | 2 => .object "LevelUnits$Scanner"
  | 3 => .object "LevelUnits$Machine"
  | _ => .object "LevelUnits$Types"
abbrev wsX110 : List Cond := u_ws RX11 TX11 5
theorem nmX11 : ∀ a, a < 5 → ∀ b, b < 5 → a ≠ b → (TX11 a).2.1 ≠ (TX11 b).2.1 := by decide +kernel
theorem tyX11_ok : ∀ k, k < 5 → parseFieldDescriptor (TX11 k).2.2.1 = some (tyX11 k) := by decide +kernel
abbrev cX11_init : ByteArray := prog_1_method_1_code
def yX11_init : MethodName := ⟨RX11, "<init>", "()V"⟩
def RX12 : String := "LevelUnitsModel$Stop"
def TX12 : u_T := fun k => match k with
  | 0 => ("java/lang/Throwable", "cause", "Ljava/lang/Throwable;", false)
  | 1 => ("java/lang/Throwable", "stackTrace", "[Ljava/lang/StackTraceElement;", false)
  | 2 => ("java/lang/Throwable", "suppressedExceptions", "Ljava/util/List;", false)
  | 3 => ("java/lang/Throwable", "detailMessage", "Ljava/lang/String;", false)
  | 4 => ("java/lang/Throwable", "backtrace", "Ljava/lang/Object;", false)
  | _ => ("java/lang/Throwable", "depth", "I", false)
def tyX12 : Nat → FieldType := fun k => match k with
  | 0 => .object "java/lang/Throwable"
  | 1 => .array (.object "java/lang/StackTraceElement")
  | 2 => .object "java/util/List"
  | 3 => .object "java/lang/String"
  | 4 => .object "java/lang/Object"
  | _ => .int
abbrev wsX120 : List Cond := u_ws RX12 TX12 6
theorem nmX12 : ∀ a, a < 6 → ∀ b, b < 6 → a ≠ b → (TX12 a).2.1 ≠ (TX12 b).2.1 := by decide +kernel
theorem tyX12_ok : ∀ k, k < 6 → parseFieldDescriptor (TX12 k).2.2.1 = some (tyX12 k) := by decide +kernel
def RX13 : String := "LevelUnitsModel"
def TX13 : u_T := fun k => match k with
  | 0 => ("LevelUnitsModel", "thrown", "I", false)
  | 1 => ("LevelUnitsModel", "stop", "LLevelUnitsModel$Stop;", true)
  | 2 => ("LevelUnitsModel", "tape", "[B", true)
  | 3 => ("LevelUnitsModel", "taped", "I", false)
  | 4 => ("LevelUnitsModel", "text", "[B", true)
  | 5 => ("LevelUnitsModel", "size", "I", false)
  | 6 => ("LevelUnitsModel", "scan", "I", false)
  | 7 => ("LevelUnitsModel", "row", "I", false)
  | 8 => ("LevelUnitsModel", "tokens", "I", false)
  | 9 => ("LevelUnitsModel", "tSort", "[I", true)
  | 10 => ("LevelUnitsModel", "tValue", "[I", true)
  | 11 => ("LevelUnitsModel", "tLine", "[I", true)
  | 12 => ("LevelUnitsModel", "names", "I", false)
  | 13 => ("LevelUnitsModel", "nameFrom", "[I", true)
  | 14 => ("LevelUnitsModel", "nameSize", "[I", true)
  | 15 => ("LevelUnitsModel", "letters", "[B", true)
  | 16 => ("LevelUnitsModel", "lettered", "I", false)
  | 17 => ("LevelUnitsModel", "fault", "I", false)
  | 18 => ("LevelUnitsModel", "faultLine", "I", false)
  | 19 => ("LevelUnitsModel", "nodes", "I", false)
  | 20 => ("LevelUnitsModel", "nk", "[I", true)
  | 21 => ("LevelUnitsModel", "nl", "[I", true)
  | 22 => ("LevelUnitsModel", "na", "[I", true)
  | 23 => ("LevelUnitsModel", "nb", "[I", true)
  | 24 => ("LevelUnitsModel", "nc", "[I", true)
  | 25 => ("LevelUnitsModel", "nd", "[I", true)
  | 26 => ("LevelUnitsModel", "ne", "[I", true)
  | 27 => ("LevelUnitsModel", "nn", "[I", true)
  | 28 => ("LevelUnitsModel", "ns", "[I", true)
  | 29 => ("LevelUnitsModel", "nu", "[I", true)
  | 30 => ("LevelUnitsModel", "nf", "[I", true)
  | 31 => ("LevelUnitsModel", "nm", "[I", true)
  | 32 => ("LevelUnitsModel", "at", "I", false)
  | 33 => ("LevelUnitsModel", "unit", "I", false)
  | 34 => ("LevelUnitsModel", "told", "I", false)
  | 35 => ("LevelUnitsModel", "head", "I", false)
  | 36 => ("LevelUnitsModel", "last", "I", false)
  | 37 => ("LevelUnitsModel", "brackets", "I", false)
  | 38 => ("LevelUnitsModel", "nots", "I", false)
  | 39 => ("LevelUnitsModel", "typesOpen", "I", false)
  | 40 => ("LevelUnitsModel", "statementsOpen", "I", false)
  | 41 => ("LevelUnitsModel", "units", "I", false)
  | 42 => ("LevelUnitsModel", "unitNode", "[I", true)
  | 43 => ("LevelUnitsModel", "symbols", "I", false)
  | 44 => ("LevelUnitsModel", "yName", "[I", true)
  | 45 => ("LevelUnitsModel", "yKind", "[I", true)
  | 46 => ("LevelUnitsModel", "yNode", "[I", true)
  | 47 => ("LevelUnitsModel", "yWhat", "[I", true)
  | 48 => ("LevelUnitsModel", "yFrom", "[I", true)
  | 49 => ("LevelUnitsModel", "yUntil", "[I", true)
  | 50 => ("LevelUnitsModel", "face", "[I", true)
  | 51 => ("LevelUnitsModel", "isModule", "[Z", true)
  | 52 => ("LevelUnitsModel", "variables", "I", false)
  | 53 => ("LevelUnitsModel", "vKind", "[I", true)
  | 54 => ("LevelUnitsModel", "vType", "[I", true)
  | 55 => ("LevelUnitsModel", "vAt", "[I", true)
  | 56 => ("LevelUnitsModel", "procedures", "I", false)
  | 57 => ("LevelUnitsModel", "pTold", "[I", true)
  | 58 => ("LevelUnitsModel", "pMade", "[I", true)
  | 59 => ("LevelUnitsModel", "exceptions", "I", false)
  | 60 => ("LevelUnitsModel", "typesTold", "I", false)
  | 61 => ("LevelUnitsModel", "typeNode", "[I", true)
  | 62 => ("LevelUnitsModel", "seen", "I", false)
  | 63 => ("LevelUnitsModel", "seenName", "[I", true)
  | 64 => ("LevelUnitsModel", "seenVariable", "[I", true)
  | 65 => ("LevelUnitsModel", "rootType", "I", false)
  | 66 => ("LevelUnitsModel", "joined", "[I", true)
  | 67 => ("LevelUnitsModel", "trail", "I", false)
  | 68 => ("LevelUnitsModel", "trailed", "[I", true)
  | 69 => ("LevelUnitsModel", "pairs", "I", false)
  | 70 => ("LevelUnitsModel", "pairA", "[I", true)
  | 71 => ("LevelUnitsModel", "pairB", "[I", true)
  | 72 => ("LevelUnitsModel", "reveal", "[I", true)
  | 73 => ("LevelUnitsModel", "ownType", "[I", true)
  | 74 => ("LevelUnitsModel", "chained", "I", false)
  | 75 => ("LevelUnitsModel", "chain", "[I", true)
  | 76 => ("LevelUnitsModel", "chainMark", "I", false)
  | 77 => ("LevelUnitsModel", "wayMark", "I", false)
  | 78 => ("LevelUnitsModel", "inChain", "[I", true)
  | 79 => ("LevelUnitsModel", "onWay", "[I", true)
  | 80 => ("LevelUnitsModel", "foundIn", "I", false)
  | 81 => ("LevelUnitsModel", "cellsKnown", "[I", true)
  | 82 => ("LevelUnitsModel", "holdsItself", "[Z", true)
  | 83 => ("LevelUnitsModel", "unitCells", "I", false)
  | 84 => ("LevelUnitsModel", "isMet", "[Z", true)
  | 85 => ("LevelUnitsModel", "integerType", "I", false)
  | 86 => ("LevelUnitsModel", "booleanType", "I", false)
  | 87 => ("LevelUnitsModel", "procedureType", "[I", true)
  | 88 => ("LevelUnitsModel", "et", "[I", true)
  | 89 => ("LevelUnitsModel", "inProcedure", "I", false)
  | 90 => ("LevelUnitsModel", "loops", "I", false)
  | 91 => ("LevelUnitsModel", "method", "I", false)
  | 92 => ("LevelUnitsModel", "methodIn", "I", false)
  | 93 => ("LevelUnitsModel", "tries", "I", false)
  | 94 => ("LevelUnitsModel", "tryNode", "[I", true)
  | 95 => ("LevelUnitsModel", "pCells", "[I", true)
  | 96 => ("LevelUnitsModel", "pAll", "[I", true)
  | 97 => ("LevelUnitsModel", "deepest", "I", false)
  | 98 => ("LevelUnitsModel", "hasProgram", "Z", false)
  | 99 => ("LevelUnitsModel", "mem", "[I", false)
  | 100 => ("LevelUnitsModel", "begun", "Z", false)
  | 101 => ("LevelUnitsModel", "seed", "I", false)
  | 102 => ("LevelUnitsModel", "steps", "I", false)
  | 103 => ("LevelUnitsModel", "things", "I", false)
  | 104 => ("LevelUnitsModel", "heaped", "I", false)
  | 105 => ("LevelUnitsModel", "thingType", "[I", true)
  | 106 => ("LevelUnitsModel", "thingAt", "[I", true)
  | 107 => ("LevelUnitsModel", "thingCells", "[I", true)
  | 108 => ("LevelUnitsModel", "holder", "[I", true)
  | 109 => ("LevelUnitsModel", "isCondition", "[Z", true)
  | 110 => ("LevelUnitsModel", "threads", "I", false)
  | 111 => ("LevelUnitsModel", "wants", "[I", true)
  | 112 => ("LevelUnitsModel", "wantsOf", "[I", true)
  | 113 => ("LevelUnitsModel", "wantsHow", "[I", true)
  | 114 => ("LevelUnitsModel", "ticket", "[I", true)
  | 115 => ("LevelUnitsModel", "tickets", "I", false)
  | 116 => ("LevelUnitsModel", "over", "[I", true)
  | 117 => ("LevelUnitsModel", "overLine", "[I", true)
  | 118 => ("LevelUnitsModel", "overWhat", "[I", true)
  | 119 => ("LevelUnitsModel", "overNumber", "[I", true)
  | 120 => ("LevelUnitsModel", "openCalls", "[I", true)
  | 121 => ("LevelUnitsModel", "openCells", "[I", true)
  | 122 => ("LevelUnitsModel", "base", "[I", true)
  | 123 => ("LevelUnitsModel", "stackTop", "[I", true)
  | 124 => ("LevelUnitsModel", "entries", "[I", true)
  | 125 => ("LevelUnitsModel", "todo", "[I", false)
  | 126 => ("LevelUnitsModel", "out", "[I", true)
  | 127 => ("LevelUnitsModel", "outputs", "I", false)
  | 128 => ("LevelUnitsModel", "t", "I", false)
  | 129 => ("LevelUnitsModel", "runFault", "I", false)
  | 130 => ("LevelUnitsModel", "runLine", "I", false)
  | 131 => ("LevelUnitsModel", "failure", "LLevelUnitsModel$Stop;", true)
  | 132 => ("LevelUnitsModel", "argument", "[I", true)
  | _ => ("LevelUnitsModel", "arguments", "I", false)
def tyX13 : Nat → FieldType := fun k => match k with
  | 0 => .int
  | 1 => .object "LevelUnitsModel$Stop"
  | 2 => .array .byte
  | 3 => .int
  | 4 => .array .byte
  | 5 => .int
  | 6 => .int
  | 7 => .int
  | 8 => .int
  | 9 => .array .int
  | 10 => .array .int
  | 11 => .array .int
  | 12 => .int
  | 13 => .array .int
  | 14 => .array .int
  | 15 => .array .byte
  | 16 => .int
  | 17 => .int
  | 18 => .int
  | 19 => .int
  | 20 => .array .int
  | 21 => .array .int
  | 22 => .array .int
  | 23 => .array .int
  | 24 => .array .int
  | 25 => .array .int
  | 26 => .array .int
  | 27 => .array .int
  | 28 => .array .int
  | 29 => .array .int
  | 30 => .array .int
  | 31 => .array .int
  | 32 => .int
  | 33 => .int
  | 34 => .int
  | 35 => .int
  | 36 => .int
  | 37 => .int
  | 38 => .int
  | 39 => .int
  | 40 => .int
  | 41 => .int
  | 42 => .array .int
  | 43 => .int
  | 44 => .array .int
  | 45 => .array .int
  | 46 => .array .int
  | 47 => .array .int
  | 48 => .array .int
  | 49 => .array .int
  | 50 => .array .int
  | 51 => .array .boolean
  | 52 => .int
  | 53 => .array .int
  | 54 => .array .int
  | 55 => .array .int
  | 56 => .int
  | 57 => .array .int
  | 58 => .array .int
  | 59 => .int
  | 60 => .int
  | 61 => .array .int
  | 62 => .int
  | 63 => .array .int
  | 64 => .array .int
  | 65 => .int
  | 66 => .array .int
  | 67 => .int
  | 68 => .array .int
  | 69 => .int
  | 70 => .array .int
  | 71 => .array .int
  | 72 => .array .int
  | 73 => .array .int
  | 74 => .int
  | 75 => .array .int
  | 76 => .int
  | 77 => .int
  | 78 => .array .int
  | 79 => .array .int
  | 80 => .int
  | 81 => .array .int
  | 82 => .array .boolean
  | 83 => .int
  | 84 => .array .boolean
  | 85 => .int
  | 86 => .int
  | 87 => .array .int
  | 88 => .array .int
  | 89 => .int
  | 90 => .int
  | 91 => .int
  | 92 => .int
  | 93 => .int
  | 94 => .array .int
  | 95 => .array .int
  | 96 => .array .int
  | 97 => .int
  | 98 => .boolean
  | 99 => .array .int
  | 100 => .boolean
  | 101 => .int
  | 102 => .int
  | 103 => .int
  | 104 => .int
  | 105 => .array .int
  | 106 => .array .int
  | 107 => .array .int
  | 108 => .array .int
  | 109 => .array .boolean
  | 110 => .int
  | 111 => .array .int
  | 112 => .array .int
  | 113 => .array .int
  | 114 => .array .int
  | 115 => .int
  | 116 => .array .int
  | 117 => .array .int
  | 118 => .array .int
  | 119 => .array .int
  | 120 => .array .int
  | 121 => .array .int
  | 122 => .array .int
  | 123 => .array .int
  | 124 => .array .int
  | 125 => .array .int
  | 126 => .array .int
  | 127 => .int
  | 128 => .int
  | 129 => .int
  | 130 => .int
  | 131 => .object "LevelUnitsModel$Stop"
  | 132 => .array .int
  | _ => .int
abbrev wsX130 : List Cond := u_ws RX13 TX13 134
theorem nmX13 : ∀ a, a < 134 → ∀ b, b < 134 → a ≠ b → (TX13 a).2.1 ≠ (TX13 b).2.1 := by decide +kernel
theorem tyX13_ok : ∀ k, k < 134 → parseFieldDescriptor (TX13 k).2.2.1 = some (tyX13 k) := by decide +kernel
def RJ0 : String := "java/lang/String"
def TJ0 : u_T := fun k => match k with
  | 0 => ("java/lang/String", "value", "[B", true)
  | 1 => ("java/lang/String", "coder", "B", true)
  | 2 => ("java/lang/String", "hash", "I", false)
  | _ => ("java/lang/String", "hashIsZero", "Z", false)
def tyJ0 : Nat → FieldType := fun k => match k with
  | 0 => .array .byte
  | 1 => .byte
  | 2 => .int
  | _ => .boolean
abbrev wsJ00 : List Cond := u_ws RJ0 TJ0 4
theorem nmJ0 : ∀ a, a < 4 → ∀ b, b < 4 → a ≠ b → (TJ0 a).2.1 ≠ (TJ0 b).2.1 := by decide +kernel
theorem tyJ0_ok : ∀ k, k < 4 → parseFieldDescriptor (TJ0 k).2.2.1 = some (tyJ0 k) := by decide +kernel
def RJ4 : String := "java/lang/StringBuilder"
def TJ4 : u_T := fun k => match k with
  | 0 => ("java/lang/AbstractStringBuilder", "value", "[B", false)
  | 1 => ("java/lang/AbstractStringBuilder", "coder", "B", false)
  | 2 => ("java/lang/AbstractStringBuilder", "maybeLatin1", "Z", false)
  | _ => ("java/lang/AbstractStringBuilder", "count", "I", false)
def tyJ4 : Nat → FieldType := fun k => match k with
  | 0 => .array .byte
  | 1 => .byte
  | 2 => .boolean
  | _ => .int
abbrev wsJ40 : List Cond := u_ws RJ4 TJ4 4
theorem nmJ4 : ∀ a, a < 4 → ∀ b, b < 4 → a ≠ b → (TJ4 a).2.1 ≠ (TJ4 b).2.1 := by decide +kernel
theorem tyJ4_ok : ∀ k, k < 4 → parseFieldDescriptor (TJ4 k).2.2.1 = some (tyJ4 k) := by decide +kernel
def RL : String := "LevelUnitsLaw"
theorem dX2_init_0 : decode cX2_init 0 = .ok (.aload_n 0, 1) := by decide +kernel
theorem dX2_init_1 : decode cX2_init 1 = .ok (.invokespecial 3, 3) := by decide +kernel
theorem dX2_init_4 : decode cX2_init 4 = .ok (.aload_n 0, 1) := by decide +kernel
theorem dX2_init_5 : decode cX2_init 5 = .ok (.sipush 5000, 3) := by decide +kernel
theorem dX2_init_8 : decode cX2_init 8 = .ok (.newarray .int, 2) := by decide +kernel
theorem dX2_init_10 : decode cX2_init 10 = .ok (.putfield 9, 3) := by decide +kernel
theorem dX2_init_13 : decode cX2_init 13 = .ok (.aload_n 0, 1) := by decide +kernel
theorem dX2_init_14 : decode cX2_init 14 = .ok (.sipush 20000, 3) := by decide +kernel
theorem dX2_init_17 : decode cX2_init 17 = .ok (.newarray .int, 2) := by decide +kernel
theorem dX2_init_19 : decode cX2_init 19 = .ok (.putfield 15, 3) := by decide +kernel
theorem dX2_init_22 : decode cX2_init 22 = .ok (.aload_n 0, 1) := by decide +kernel
theorem dX2_init_23 : decode cX2_init 23 = .ok (.sipush 2002, 3) := by decide +kernel
theorem dX2_init_26 : decode cX2_init 26 = .ok (.newarray .int, 2) := by decide +kernel
theorem dX2_init_28 : decode cX2_init 28 = .ok (.putfield 18, 3) := by decide +kernel
theorem dX2_init_31 : decode cX2_init 31 = .ok (.aload_n 0, 1) := by decide +kernel
theorem dX2_init_32 : decode cX2_init 32 = .ok (.sipush 2001, 3) := by decide +kernel
theorem dX2_init_35 : decode cX2_init 35 = .ok (.anewarray 21, 3) := by decide +kernel
theorem dX2_init_38 : decode cX2_init 38 = .ok (.putfield 23, 3) := by decide +kernel
theorem dX2_init_41 : decode cX2_init 41 = .ok (.aload_n 0, 1) := by decide +kernel
theorem dX2_init_42 : decode cX2_init 42 = .ok (.sipush 2001, 3) := by decide +kernel
theorem dX2_init_45 : decode cX2_init 45 = .ok (.newarray .int, 2) := by decide +kernel
theorem dX2_init_47 : decode cX2_init 47 = .ok (.putfield 27, 3) := by decide +kernel
theorem dX2_init_50 : decode cX2_init 50 = .ok (.aload_n 0, 1) := by decide +kernel
theorem dX2_init_51 : decode cX2_init 51 = .ok (.bipush 64, 2) := by decide +kernel
theorem dX2_init_53 : decode cX2_init 53 = .ok (.anewarray 30, 3) := by decide +kernel
theorem dX2_init_56 : decode cX2_init 56 = .ok (.putfield 32, 3) := by decide +kernel
theorem dX2_init_59 : decode cX2_init 59 = .ok (.aload_n 0, 1) := by decide +kernel
theorem dX2_init_60 : decode cX2_init 60 = .ok (.sipush 500, 3) := by decide +kernel
theorem dX2_init_63 : decode cX2_init 63 = .ok (.newarray .int, 2) := by decide +kernel
theorem dX2_init_65 : decode cX2_init 65 = .ok (.putfield 36, 3) := by decide +kernel
theorem dX2_init_68 : decode cX2_init 68 = .ok (.aload_n 0, 1) := by decide +kernel
theorem dX2_init_69 : decode cX2_init 69 = .ok (.sipush 200, 3) := by decide +kernel
theorem dX2_init_72 : decode cX2_init 72 = .ok (.newarray .int, 2) := by decide +kernel
theorem dX2_init_74 : decode cX2_init 74 = .ok (.putfield 39, 3) := by decide +kernel
theorem dX2_init_77 : decode cX2_init 77 = .ok (.aload_n 0, 1) := by decide +kernel
theorem dX2_init_78 : decode cX2_init 78 = .ok (.sipush 16000, 3) := by decide +kernel
theorem dX2_init_81 : decode cX2_init 81 = .ok (.newarray .int, 2) := by decide +kernel
theorem dX2_init_83 : decode cX2_init 83 = .ok (.putfield 42, 3) := by decide +kernel
theorem dX2_init_86 : decode cX2_init 86 = .ok (.return_, 1) := by decide +kernel
theorem dX7_init_0 : decode cX7_init 0 = .ok (.aload_n 0, 1) := by decide +kernel
theorem dX7_init_1 : decode cX7_init 1 = .ok (.invokespecial 3, 3) := by decide +kernel
theorem dX7_init_4 : decode cX7_init 4 = .ok (.aload_n 0, 1) := by decide +kernel
theorem dX7_init_5 : decode cX7_init 5 = .ok (.sipush 6001, 3) := by decide +kernel
theorem dX7_init_8 : decode cX7_init 8 = .ok (.newarray .int, 2) := by decide +kernel
theorem dX7_init_10 : decode cX7_init 10 = .ok (.putfield 9, 3) := by decide +kernel
theorem dX7_init_13 : decode cX7_init 13 = .ok (.aload_n 0, 1) := by decide +kernel
theorem dX7_init_14 : decode cX7_init 14 = .ok (.sipush 6001, 3) := by decide +kernel
theorem dX7_init_17 : decode cX7_init 17 = .ok (.newarray .int, 2) := by decide +kernel
theorem dX7_init_19 : decode cX7_init 19 = .ok (.putfield 15, 3) := by decide +kernel
theorem dX7_init_22 : decode cX7_init 22 = .ok (.aload_n 0, 1) := by decide +kernel
theorem dX7_init_23 : decode cX7_init 23 = .ok (.sipush 6001, 3) := by decide +kernel
theorem dX7_init_26 : decode cX7_init 26 = .ok (.newarray .int, 2) := by decide +kernel
theorem dX7_init_28 : decode cX7_init 28 = .ok (.putfield 18, 3) := by decide +kernel
theorem dX7_init_31 : decode cX7_init 31 = .ok (.aload_n 0, 1) := by decide +kernel
theorem dX7_init_32 : decode cX7_init 32 = .ok (.sipush 256, 3) := by decide +kernel
theorem dX7_init_35 : decode cX7_init 35 = .ok (.newarray .int, 2) := by decide +kernel
theorem dX7_init_37 : decode cX7_init 37 = .ok (.putfield 21, 3) := by decide +kernel
theorem dX7_init_40 : decode cX7_init 40 = .ok (.aload_n 0, 1) := by decide +kernel
theorem dX7_init_41 : decode cX7_init 41 = .ok (.sipush 3001, 3) := by decide +kernel
theorem dX7_init_44 : decode cX7_init 44 = .ok (.newarray .int, 2) := by decide +kernel
theorem dX7_init_46 : decode cX7_init 46 = .ok (.putfield 24, 3) := by decide +kernel
theorem dX7_init_49 : decode cX7_init 49 = .ok (.aload_n 0, 1) := by decide +kernel
theorem dX7_init_50 : decode cX7_init 50 = .ok (.sipush 3001, 3) := by decide +kernel
theorem dX7_init_53 : decode cX7_init 53 = .ok (.newarray .int, 2) := by decide +kernel
theorem dX7_init_55 : decode cX7_init 55 = .ok (.putfield 27, 3) := by decide +kernel
theorem dX7_init_58 : decode cX7_init 58 = .ok (.aload_n 0, 1) := by decide +kernel
theorem dX7_init_59 : decode cX7_init 59 = .ok (.sipush 3001, 3) := by decide +kernel
theorem dX7_init_62 : decode cX7_init 62 = .ok (.newarray .int, 2) := by decide +kernel
theorem dX7_init_64 : decode cX7_init 64 = .ok (.putfield 30, 3) := by decide +kernel
theorem dX7_init_67 : decode cX7_init 67 = .ok (.return_, 1) := by decide +kernel
theorem dX11_init_0 : decode cX11_init 0 = .ok (.aload_n 0, 1) := by decide +kernel
theorem dX11_init_1 : decode cX11_init 1 = .ok (.invokespecial 3, 3) := by decide +kernel
theorem dX11_init_4 : decode cX11_init 4 = .ok (.aload_n 0, 1) := by decide +kernel
theorem dX11_init_5 : decode cX11_init 5 = .ok (.sipush 6000, 3) := by decide +kernel
theorem dX11_init_8 : decode cX11_init 8 = .ok (.newarray .byte, 2) := by decide +kernel
theorem dX11_init_10 : decode cX11_init 10 = .ok (.putfield 9, 3) := by decide +kernel
theorem dX11_init_13 : decode cX11_init 13 = .ok (.aload_n 0, 1) := by decide +kernel
theorem dX11_init_14 : decode cX11_init 14 = .ok (.new 13, 3) := by decide +kernel
theorem dX11_init_17 : decode cX11_init 17 = .ok (.dup, 1) := by decide +kernel
theorem dX11_init_18 : decode cX11_init 18 = .ok (.invokespecial 15, 3) := by decide +kernel
theorem dX11_init_21 : decode cX11_init 21 = .ok (.putfield 16, 3) := by decide +kernel
theorem dX11_init_24 : decode cX11_init 24 = .ok (.aload_n 0, 1) := by decide +kernel
theorem dX11_init_25 : decode cX11_init 25 = .ok (.new 20, 3) := by decide +kernel
theorem dX11_init_28 : decode cX11_init 28 = .ok (.dup, 1) := by decide +kernel
theorem dX11_init_29 : decode cX11_init 29 = .ok (.invokespecial 22, 3) := by decide +kernel
theorem dX11_init_32 : decode cX11_init 32 = .ok (.putfield 23, 3) := by decide +kernel
theorem dX11_init_35 : decode cX11_init 35 = .ok (.return_, 1) := by decide +kernel
abbrev vwCl : List vw_C := [(RJ0, TJ0, 4), (RJ4, TJ4, 4), (RX0, TX0, 7), (RX1, TX1, 19), (RX2, TX2, 19), (RX3, TX3, 2), (RX4, TX4, 20), (RX5, TX5, 8), (RX6, TX6, 20), (RX7, TX7, 13), (RX8, TX8, 15), (RX9, TX9, 20), (RX10, TX10, 13), (RX11, TX11, 5), (RX12, TX12, 6), (RX13, TX13, 134)]
