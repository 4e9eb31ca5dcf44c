/-! the two string constants of the scanner: their bytes, and that they stay -/
def kwT : String := "AND ARRAY BEGIN BOOLEAN BROADCAST CONDITION DIV DO ELSE ELSIF END EXCEPT EXCEPTION EXIT FALSE FINALLY FOR FORK IF IMPORT INTEGER INTERFACE ISTYPE JOIN LOCK LOOP METHODS MOD MODULE MUTEX NARROW NEW NIL NOT OBJECT OF OR OVERRIDES PROCEDURE PUT RAISE RAISES RECORD REF RETURN REVEAL ROOT SIGNAL THEN THREAD TO TRUE TRY TYPE TYPECASE VAR WAIT WHILE "
def sgT : String := "(){}[],;:.=#<>+-*^|"
def kwL : List Nat := [65, 78, 68, 32, 65, 82, 82, 65, 89, 32, 66, 69, 71, 73, 78, 32, 66, 79, 79, 76, 69, 65, 78, 32, 66, 82, 79, 65, 68, 67, 65, 83, 84, 32, 67, 79, 78, 68, 73, 84, 73, 79, 78, 32, 68, 73, 86, 32, 68, 79, 32, 69, 76, 83, 69, 32, 69, 76, 83, 73, 70, 32, 69, 78, 68, 32, 69, 88, 67, 69, 80, 84, 32, 69, 88, 67, 69, 80, 84, 73, 79, 78, 32, 69, 88, 73, 84, 32, 70, 65, 76, 83, 69, 32, 70, 73, 78, 65, 76, 76, 89, 32, 70, 79, 82, 32, 70, 79, 82, 75, 32, 73, 70, 32, 73, 77, 80, 79, 82, 84, 32, 73, 78, 84, 69, 71, 69, 82, 32, 73, 78, 84, 69, 82, 70, 65, 67, 69, 32, 73, 83, 84, 89, 80, 69, 32, 74, 79, 73, 78, 32, 76, 79, 67, 75, 32, 76, 79, 79, 80, 32, 77, 69, 84, 72, 79, 68, 83, 32, 77, 79, 68, 32, 77, 79, 68, 85, 76, 69, 32, 77, 85, 84, 69, 88, 32, 78, 65, 82, 82, 79, 87, 32, 78, 69, 87, 32, 78, 73, 76, 32, 78, 79, 84, 32, 79, 66, 74, 69, 67, 84, 32, 79, 70, 32, 79, 82, 32, 79, 86, 69, 82, 82, 73, 68, 69, 83, 32, 80, 82, 79, 67, 69, 68, 85, 82, 69, 32, 80, 85, 84, 32, 82, 65, 73, 83, 69, 32, 82, 65, 73, 83, 69, 83, 32, 82, 69, 67, 79, 82, 68, 32, 82, 69, 70, 32, 82, 69, 84, 85, 82, 78, 32, 82, 69, 86, 69, 65, 76, 32, 82, 79, 79, 84, 32, 83, 73, 71, 78, 65, 76, 32, 84, 72, 69, 78, 32, 84, 72, 82, 69, 65, 68, 32, 84, 79, 32, 84, 82, 85, 69, 32, 84, 82, 89, 32, 84, 89, 80, 69, 32, 84, 89, 80, 69, 67, 65, 83, 69, 32, 86, 65, 82, 32, 87, 65, 73, 84, 32, 87, 72, 73, 76, 69, 32]
def sgL : List Nat := [40, 41, 123, 125, 91, 93, 44, 59, 58, 46, 61, 35, 60, 62, 43, 45, 42, 94, 124]
def kwB (j : Nat) : Nat := kwL.getD j 0
def sgB (j : Nat) : Nat := sgL.getD j 0
/-- where a byte stands among the signs -/
def sgX (c : Nat) : Option Nat := (List.range 19).find? (fun j => Nat.beq (sgB j) c)
theorem kwB_and : ∀ j, j < 345 → nI (kwB j) &&& 255 = nI (kwB j) := by decide +kernel
theorem sgX_c : ∀ c, c < 128 → (match sgX c with | none => true | some j => decide (j < 19) && (decide (nI (sgB j) = nI c) && (List.range j).all (fun i => !decide (nI (sgB i) = nI c)))) = true := by decide +kernel
theorem sgX_ok {c j : Nat} (hc : c < 128) (h : sgX c = some j) : j < 19 ∧ nI (sgB j) = nI c ∧ ∀ i, i < j → ¬ nI (sgB i) = nI c := by
  have h1 := sgX_c c hc
  rw [h] at h1
  simp only [Bool.and_eq_true, decide_eq_true_eq, List.all_eq_true, List.mem_range, Bool.not_eq_true', decide_eq_false_iff_not] at h1
  exact ⟨h1.1, h1.2.1, h1.2.2⟩
/-- the kinds that a type is told by -/
def kdB (j : Nat) : Int32 := ([21, 22, 27, 28, 29, 30, 31, 23, 24, 25, 26, 32, 4] : List Int32).getD j 0
/-- the string constants and what reading them asks -/
def ev_Z (b : Nat) (g : Nat → Option Nat) (U : State) : Prop :=
  (∃ q v : Nat, g 0 = some q ∧ vk_R "LevelUnits$Scanner" 106 kwT q U ∧ ks q v 345 (fun j => nI (kwB j)) (fun a => b ≤ a) U U.heap) ∧
  (∃ q v : Nat, g 1 = some q ∧ vk_R "LevelUnits$Scanner" 131 sgT q U ∧ ks q v 19 (fun j => nI (sgB j)) (fun a => b ≤ a) U U.heap) ∧
  va_Z "java/lang/String" "COMPACT_STRINGS" "Z" (.int 1) (fun a => b ≤ a) U U.heap ∧
  va_Zq "jdk/internal/util/Preconditions" "SIOOBE_FORMATTER" "Ljava/util/function/BiFunction;" (fun a => b ≤ a) U U.heap ∧
  (∃ q v : Nat, g 2 = some q ∧ vk_R "LevelUnitsModel" 282 kwT q U ∧ ks q v 345 (fun j => nI (kwB j)) (fun a => b ≤ a) U U.heap) ∧
  ∃ q : Nat, g 3 = some q ∧ va_Z "LevelUnitsModel" "KINDS" "[I" (.ref q) (fun a => b ≤ a) U U.heap ∧ va_T .int q 13 (fun j => .int (kdB j)) (fun a => b ≤ a) U U.heap
theorem ev_Z.moved {b : Nat} {g : Nat → Option Nat} {s U : State} (hW : s.WarmedH U.vm) (hq : ∀ a : Nat, a < s.heap.size → ¬ b ≤ a → U.heap[a]? = s.heap[a]?) (h : ev_Z b g s) : ev_Z b g U := by
  obtain ⟨⟨q, v, h1, h2, h3⟩, ⟨q', v', k1, k2, k3⟩, h4, h5, ⟨q2, v2, l1, l2, l3⟩, q3, m1, m2, m3⟩ := h
  exact ⟨⟨q, v, h1, vk_R.warm hW h2, ks.moved hW.alike (h3.kept hq)⟩, ⟨q', v', k1, vk_R.warm hW k2, ks.moved hW.alike (k3.kept hq)⟩, va_Z.moved hW.alike (h4.kept hq), va_Zq.moved hW.alike (h5.kept hq), ⟨q2, v2, l1, vk_R.warm hW l2, ks.moved hW.alike (l3.kept hq)⟩, q3, m1, va_Z.moved hW.alike (m2.kept hq), va_T.moved hW.alike (m3.kept hq)⟩
theorem ev_Z.calling {b : Nat} {g : Nat → Option Nat} {U : State} {f : JFrame} {mk : MethodId} {a : Array Value} (h : ev_Z b g U) : ev_Z b g (U.calling f mk a) := by
  obtain ⟨⟨q, v, h1, h2, h3⟩, ⟨q', v', k1, k2, k3⟩, h4, h5, ⟨q2, v2, l1, l2, l3⟩, q3, m1, m2, m3⟩ := h
  exact ⟨⟨q, v, h1, vk_R.same (u := U) rfl h2, ks.moved (u := U) (U := U.calling f mk a) (Vm.Alike.refl U.vm) h3⟩, ⟨q', v', k1, vk_R.same (u := U) rfl k2, ks.moved (u := U) (U := U.calling f mk a) (Vm.Alike.refl U.vm) k3⟩, va_Z.moved (u := U) (U := U.calling f mk a) (Vm.Alike.refl U.vm) h4, va_Zq.moved (u := U) (U := U.calling f mk a) (Vm.Alike.refl U.vm) h5, ⟨q2, v2, l1, vk_R.same (u := U) rfl l2, ks.moved (u := U) (U := U.calling f mk a) (Vm.Alike.refl U.vm) l3⟩, q3, m1, va_Z.moved (u := U) (U := U.calling f mk a) (Vm.Alike.refl U.vm) m2, va_T.moved (u := U) (U := U.calling f mk a) (Vm.Alike.refl U.vm) m3⟩
/-- the words' text, under either of its names -/
theorem ev_Z.kw {b : Nat} {g : Nat → Option Nat} {U : State} {z : Nat} (h : ev_Z b g U) (hz : (Nat.beq z 0 || Nat.beq z 2) = true) : ∃ q v : Nat, g z = some q ∧ ks q v 345 (fun j => nI (kwB j)) (fun a => b ≤ a) U U.heap := by
  obtain ⟨⟨q, v, h1, h2, h3⟩, -, -, -, ⟨q2, v2, l1, l2, l3⟩, -⟩ := h
  rw [Bool.or_eq_true] at hz
  rcases hz with hz | hz
  · rw [Nat.eq_of_beq_eq_true hz]; exact ⟨q, v, h1, h3⟩
  · rw [Nat.eq_of_beq_eq_true hz]; exact ⟨q2, v2, l1, l3⟩
/-- a call of the JDK that leaves the heap as large as it was: the cells stay -/
theorem jd_goes {p : Program} {l : Launch} {e : Env} {R : Room} {s : State} {m : MethodId} {args : Array Value} {below : List Frame} {meth : Method} {c : Code} {H : Heap} {locs : List Loc} {cells slots : Nat} {Q : State → Prop} {D : va_G} {cl : List vw_C} {dA : Nat → ClassId} {pc : Nat} {ls : Array Slot} {st0 rest : List Value} {a : Array Value} {B : ev_B} {t : ev_T} {sz : Nat} {post : Int32 → Unit → Prop} {X : State → Prop}
    (hr : va_Run p l e R s m args below meth c H locs cells slots 0 0 (F0 m pc ls st0) rest (va_Qi post (fun _ t => t.heap.size = H.size ∧ X t) (va_A [] H.size) a) (va_A [] H.size)) (hI : ev_In D cl dA B s.heap H locs t sz)
    (kk : ∀ (r : Int32), post r () → ∀ (H1 : Heap) (locs1 : List Loc), ev_In D cl dA B s.heap H1 locs1 t sz → W p l e R s m args below meth c H1 locs1 cells slots Q (F0 m (pc + 3) ls (.int r :: rest))) : W p l e R s m args below meth c H locs cells slots Q (F0 m pc ls st0) := by
  intro T hT X
  obtain ⟨v, st₀, t1, T', L, h0, X', hL, e1, e2, ⟨⟨r, u, hv, hp, hs, -⟩, hz, hk⟩, st⟩ := hr T hT X
  cases hv
  rw [h0] at hz hk
  have hA : ∀ q : Nat, va_A [] H.size q → B.1 ≤ q := fun q h => by
    rcases h with ⟨k, e, h⟩ | h
    · simp at h
    · have := hI.1.1; omega
  have hkk : ∀ q : Nat, q < H.size → T'.heap[q]? = H[q]? := fun q hq => by
    rw [e1]
    exact hk q hq (fun h => by
      rcases h with ⟨k, e, h⟩ | h
      · simp at h
      · omega)
  obtain ⟨t2, a1, b1⟩ := kk r hp T'.heap (locs ++ L) ⟨⟨by rw [e1, hs]; exact hI.1.1, fun b x hb => ⟨(hI.1.2 b x hb).1, (hI.1.2 b x hb).2.kept (hkk _ (by rw [hI.1.1]; have := (hI.1.2 b x hb).1; show B.1 + b < B.1 + sz; omega))⟩⟩,
    Nat.le_trans hI.2.1 (by rw [e1]; exact hz), fun q h1 h2 => by rw [hkk q (Nat.lt_of_lt_of_le h1 hI.2.1)]; exact hI.2.2.1 q h1 h2, fun q hq => by
      rcases List.mem_append.mp hq with h | h
      · exact hI.2.2.2 q h
      · exact hA _ (hL q h)⟩ T' rfl X'
  exact ⟨t2, st t2 a1, b1⟩
