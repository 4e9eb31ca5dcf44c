/-! what holds at the start of the law -/
def lw_law : Cond := Jvm.Cond.code x code maxLocals ret
set_option maxHeartbeats 4000000 in
theorem law_kn {s : State} {args : Array Value} (htsT : ∀ w ∈ lw_tbl, w.before args s = true) : ∃ (dC : Nat → ClassId) (dI : Nat → Nat → Nat), ∀ (k : Nat) (q : vw_C), vwCl[k]? = some q → u_Kn s q.1 q.2.1 q.2.2 (dC k) (dI k) := by
  obtain ⟨c0, i0, k0⟩ := u_known (C := RX0) (T := TX0) (N := 7) (n := 7) htsT in_lay_32 (htsT (.instantiable RX0 7) (List.mem_of_getElem? (i := 1379) (by decide +kernel)))
  obtain ⟨c1, i1, k1⟩ := u_known (C := RX1) (T := TX1) (N := 19) (n := 19) htsT in_lay_33 (htsT (.instantiable RX1 19) (List.mem_of_getElem? (i := 650) (by decide +kernel)))
  obtain ⟨c2, i2, k2⟩ := u_known (C := RX2) (T := TX2) (N := 19) (n := 19) htsT in_lay_28 (htsT (.instantiable RX2 19) (List.mem_of_getElem? (i := 198) (by decide +kernel)))
  obtain ⟨c3, i3, k3⟩ := u_known (C := RX3) (T := TX3) (N := 2) (n := 2) htsT in_lay_30 (htsT (.instantiable RX3 2) (List.mem_of_getElem? (i := 1078) (by decide +kernel)))
  obtain ⟨c4, i4, k4⟩ := u_known (C := RX4) (T := TX4) (N := 20) (n := 20) htsT in_lay_34 (htsT (.instantiable RX4 20) (List.mem_of_getElem? (i := 462) (by decide +kernel)))
  obtain ⟨c5, i5, k5⟩ := u_known (C := RX5) (T := TX5) (N := 8) (n := 8) htsT in_lay_35 (htsT (.instantiable RX5 8) (List.mem_of_getElem? (i := 813) (by decide +kernel)))
  obtain ⟨c6, i6, k6⟩ := u_known (C := RX6) (T := TX6) (N := 20) (n := 20) htsT in_lay_29 (htsT (.instantiable RX6 20) (List.mem_of_getElem? (i := 456) (by decide +kernel)))
  obtain ⟨c7, i7, k7⟩ := u_known (C := RX7) (T := TX7) (N := 13) (n := 13) htsT in_lay_27 (htsT (.instantiable RX7 13) (List.mem_of_getElem? (i := 146) (by decide +kernel)))
  obtain ⟨c8, i8, k8⟩ := u_known (C := RX8) (T := TX8) (N := 15) (n := 15) htsT in_lay_36 (htsT (.instantiable RX8 15) (List.mem_of_getElem? (i := 895) (by decide +kernel)))
  obtain ⟨c9, i9, k9⟩ := u_known (C := RX10) (T := TX10) (N := 13) (n := 13) htsT in_lay_31 (htsT (.instantiable RX10 13) (List.mem_of_getElem? (i := 1152) (by decide +kernel)))
  obtain ⟨c10, i10, k10⟩ := u_known (C := RX11) (T := TX11) (N := 5) (n := 5) htsT in_lay_26 (htsT (.instantiable RX11 5) (List.mem_of_getElem? (i := 138) (by decide +kernel)))
  refine ⟨fun k => [c0, c1, c2, c3, c4, c5, c6, c7, c8, c9, c10].getD k c0, fun k => [i0, i1, i2, i3, i4, i5, i6, i7, i8, i9, i10].getD k i0, ?_⟩
  intro k q hq
  match k, hq with
  | 0, hq => cases hq; exact k0
  | 1, hq => cases hq; exact k1
  | 2, hq => cases hq; exact k2
  | 3, hq => cases hq; exact k3
  | 4, hq => cases hq; exact k4
  | 5, hq => cases hq; exact k5
  | 6, hq => cases hq; exact k6
  | 7, hq => cases hq; exact k7
  | 8, hq => cases hq; exact k8
  | 9, hq => cases hq; exact k9
  | 10, hq => cases hq; exact k10
  | k + 11, hq => simp [vwCl] at hq
theorem law_ao {s : State} {args : Array Value} {C : String} (h : (Cond.arrayOver (.object C)).before args s = true) : ∃ c, ArrOfT s c (.object C) ∧ va_RA s c (.object C) := by
  obtain ⟨comp, c, k, h1, -, h3, h4, h5⟩ := Cond.arrayOver_spec h
  exact ⟨c, fun n z => ⟨fun k h => (by cases h), k, h3, comp, h4⟩, k, comp, h3, h4, h1, h5⟩
theorem law_ac {s : State} {args : Array Value} {ty : FieldType} (ht : ∀ U c, va_RA U c ty = (U.vm.findClass ("[" ++ ty.toString) = some c)) (h : (Cond.arrayClass ty).before args s = true) : ∃ c, ArrOfT s c ty ∧ va_RA s c ty := by
  obtain ⟨c, k, comp, h1, h2, h3⟩ := Cond.arrayClass_spec h
  exact ⟨c, fun n z => ⟨fun k h => (by cases h), k, h2, comp, h3⟩, by rw [ht]; exact h1⟩
set_option maxHeartbeats 4000000 in
theorem law_N {s : State} {b : Nat} (htsT : ∀ w ∈ lw_tbl, w.before #[Value.ref b] s = true) : ∃ (D : va_G) (dA : Nat → ClassId), ev_N D vwCl dA ev_tl ev_ol ev_nl s := by
  obtain ⟨dC, dI, hk⟩ := law_kn htsT
  obtain ⟨c0, a0⟩ := law_ac (ty := .int) (fun _ _ => rfl) (htsT (.arrayClass .int) (List.mem_of_getElem? (i := 196) (by decide +kernel)))
  obtain ⟨c1, a1⟩ := law_ac (ty := .byte) (fun _ _ => rfl) (htsT (.arrayClass .byte) (List.mem_of_getElem? (i := 195) (by decide +kernel)))
  have o0 := htsT (.arrayOver (.object "LevelUnits$Decl")) (List.mem_of_getElem? (i := 1169) (by decide +kernel))
  obtain ⟨c2, a2⟩ := law_ao o0
  have o1 := htsT (.arrayOver (.object "LevelUnits$Node")) (List.mem_of_getElem? (i := 204) (by decide +kernel))
  obtain ⟨c3, a3⟩ := law_ao o1
  have o2 := htsT (.arrayOver (.object "LevelUnits$Strand")) (List.mem_of_getElem? (i := 206) (by decide +kernel))
  obtain ⟨c4, a4⟩ := law_ao o2
  refine ⟨(dC, dI), fun k => [c0, c1, c2, c3, c4].getD k c0, ⟨hk, fun k q hq => ?_⟩, fun C hC => ?_, fun q hq => ?_⟩
  · match k, hq with
    | 0, hq => cases hq; exact a0
    | 1, hq => cases hq; exact a1
    | 2, hq => cases hq; exact a2
    | 3, hq => cases hq; exact a3
    | 4, hq => cases hq; exact a4
    | k + 5, hq => simp [ev_ty, ev_tl] at hq
  · unfold ev_ol at hC
    simp only [List.mem_cons, List.not_mem_nil, or_false] at hC
    rcases hC with rfl | rfl | rfl
    · exact va_AO.of o0
    · exact va_AO.of o1
    · exact va_AO.of o2
  · unfold ev_nl at hq
    simp only [List.mem_cons, List.not_mem_nil, or_false] at hq
    rcases hq with rfl | rfl | rfl | rfl
    · exact va_Nw.of rfl (htsT (.methodLinkNest "LevelUnits" 15 yX7_init "LevelUnits") (List.mem_of_getElem? (i := 147) (by decide +kernel)))
    · exact va_Nw.of rfl (htsT (.methodLinkNest "LevelUnits" 22 yX2_init "LevelUnits") (List.mem_of_getElem? (i := 199) (by decide +kernel)))
    · exact va_Nw.of rfl (htsT (.methodLinkNest "LevelUnits$Types" 173 yX11_isObject "LevelUnits") (List.mem_of_getElem? (i := 1324) (by decide +kernel)))
    · exact va_Nw.of rfl (htsT (.methodLinkNest "LevelUnits$Types" 322 yX11_hasParts "LevelUnits") (List.mem_of_getElem? (i := 1341) (by decide +kernel)))
theorem map_nI (l : List Nat) (j : Nat) : (l.map nI).getD j 0 = nI (l.getD j 0) := by
  rw [List.getD_eq_getElem?_getD, List.getD_eq_getElem?_getD, List.getElem?_map]
  cases l[j]? <;> rfl
set_option maxRecDepth 100000 in
theorem kw_el : ∀ j : Nat, j < 345 → (Cond.eq (.elem (.field (.string "LevelUnits$Scanner" 106) "java/lang/String" "value" "[B") (.int (Int32.ofNat j))) (.int ((kwL.map nI).getD j 0))) ∈ flatC (Jvm.Cond.and given_1 narrow_1) := by
  have h : ((flatC (Jvm.Cond.and given_1 narrow_1)).drop 49).take 345 = (List.range 345).map (fun j => Cond.eq (.elem (.field (.string "LevelUnits$Scanner" 106) "java/lang/String" "value" "[B") (.int (Int32.ofNat j))) (.int ((kwL.map nI).getD j 0))) := by decide +kernel
  intro j hj
  have h1 : (Cond.eq (.elem (.field (.string "LevelUnits$Scanner" 106) "java/lang/String" "value" "[B") (.int (Int32.ofNat j))) (.int ((kwL.map nI).getD j 0))) ∈ (List.range 345).map (fun j => Cond.eq (.elem (.field (.string "LevelUnits$Scanner" 106) "java/lang/String" "value" "[B") (.int (Int32.ofNat j))) (.int ((kwL.map nI).getD j 0))) := List.mem_map_of_mem (List.mem_range.mpr hj)
  rw [← h] at h1
  exact List.mem_of_mem_drop (List.mem_of_mem_take h1)
set_option maxRecDepth 100000 in
theorem law_kw {s : State} {b : Nat} {A : Nat → Prop} (hgv : (Jvm.Cond.and given_1 narrow_1).before #[Value.ref b] s = true) (hAa : ∀ q : Nat, q < s.heap.size → ¬ A q) : ∃ q v : Nat, (Term.string "LevelUnits$Scanner" 106).eval #[Value.ref b] s none [] s = some (.ref q) ∧ ks q v 345 (fun j => nI (kwB j)) A s s.heap := by
  have hg := flat_of_before _ hgv
  obtain ⟨adK, adV, hS, hE⟩ := vk_Sof (args := #[Value.ref b]) (s := s) (N := 1) (tm := fun _ => .string "LevelUnits$Scanner" 106) (len := [345]) (byt := [kwL.map nI]) (A := A)
    (fun i hi => by rcases (show i = 0 by omega) with rfl; decide)
    (fun i hi => hg (.exactly (.string "LevelUnits$Scanner" 106) "java/lang/String") (List.mem_of_getElem? (i := 45) (by decide +kernel)))
    (fun i hi => hg (.eq (.field (.string "LevelUnits$Scanner" 106) "java/lang/String" "coder" "B") (.int 0)) (List.mem_of_getElem? (i := 46) (by decide +kernel)))
    (fun i hi => hg (.arrayOf (.field (.string "LevelUnits$Scanner" 106) "java/lang/String" "value" "[B") .byte) (List.mem_of_getElem? (i := 47) (by decide +kernel)))
    (fun i hi => by rcases (show i = 0 by omega) with rfl; exact hg (.eq (.length (.field (.string "LevelUnits$Scanner" 106) "java/lang/String" "value" "[B")) (.int 345)) (List.mem_of_getElem? (i := 48) (by decide +kernel)))
    (fun i hi j hj => by rcases (show i = 0 by omega) with rfl; exact hg _ (kw_el j hj))
    (fun i j hi hj hij => absurd (show i = j by omega) hij) hAa
  obtain ⟨h1, h2, h3, h4⟩ := hS.1 0 (by omega)
  have e : (fun j => Value.int (([kwL.map nI].getD 0 []).getD j 0)) = fun j => Value.int (nI (kwB j)) := funext fun j => congrArg Value.int (map_nI kwL j)
  rw [e] at h4
  exact ⟨adK 0, adV 0, hE 0 (by omega), h1, h2, h3, h4⟩
set_option maxRecDepth 100000 in
theorem sg_el : ∀ j : Nat, j < 19 → (Cond.eq (.elem (.field (.string "LevelUnits$Scanner" 131) "java/lang/String" "value" "[B") (.int (Int32.ofNat j))) (.int ((sgL.map nI).getD j 0))) ∈ flatC (Jvm.Cond.and given_1 narrow_1) := by
  have h : ((flatC (Jvm.Cond.and given_1 narrow_1)).drop 398).take 19 = (List.range 19).map (fun j => Cond.eq (.elem (.field (.string "LevelUnits$Scanner" 131) "java/lang/String" "value" "[B") (.int (Int32.ofNat j))) (.int ((sgL.map nI).getD j 0))) := by decide +kernel
  intro j hj
  have h1 : (Cond.eq (.elem (.field (.string "LevelUnits$Scanner" 131) "java/lang/String" "value" "[B") (.int (Int32.ofNat j))) (.int ((sgL.map nI).getD j 0))) ∈ (List.range 19).map (fun j => Cond.eq (.elem (.field (.string "LevelUnits$Scanner" 131) "java/lang/String" "value" "[B") (.int (Int32.ofNat j))) (.int ((sgL.map nI).getD j 0))) := List.mem_map_of_mem (List.mem_range.mpr hj)
  rw [← h] at h1
  exact List.mem_of_mem_drop (List.mem_of_mem_take h1)
set_option maxRecDepth 100000 in
theorem law_sg {s : State} {b : Nat} {A : Nat → Prop} (hgv : (Jvm.Cond.and given_1 narrow_1).before #[Value.ref b] s = true) (hAa : ∀ q : Nat, q < s.heap.size → ¬ A q) : ∃ q v : Nat, (Term.string "LevelUnits$Scanner" 131).eval #[Value.ref b] s none [] s = some (.ref q) ∧ ks q v 19 (fun j => nI (sgB j)) A s s.heap := by
  have hg := flat_of_before _ hgv
  obtain ⟨adK, adV, hS, hE⟩ := vk_Sof (args := #[Value.ref b]) (s := s) (N := 1) (tm := fun _ => .string "LevelUnits$Scanner" 131) (len := [19]) (byt := [sgL.map nI]) (A := A)
    (fun i hi => by rcases (show i = 0 by omega) with rfl; decide)
    (fun i hi => hg (.exactly (.string "LevelUnits$Scanner" 131) "java/lang/String") (List.mem_of_getElem? (i := 394) (by decide +kernel)))
    (fun i hi => hg (.eq (.field (.string "LevelUnits$Scanner" 131) "java/lang/String" "coder" "B") (.int 0)) (List.mem_of_getElem? (i := 395) (by decide +kernel)))
    (fun i hi => hg (.arrayOf (.field (.string "LevelUnits$Scanner" 131) "java/lang/String" "value" "[B") .byte) (List.mem_of_getElem? (i := 396) (by decide +kernel)))
    (fun i hi => by rcases (show i = 0 by omega) with rfl; exact hg (.eq (.length (.field (.string "LevelUnits$Scanner" 131) "java/lang/String" "value" "[B")) (.int 19)) (List.mem_of_getElem? (i := 397) (by decide +kernel)))
    (fun i hi j hj => by rcases (show i = 0 by omega) with rfl; exact hg _ (sg_el j hj))
    (fun i j hi hj hij => absurd (show i = j by omega) hij) hAa
  obtain ⟨h1, h2, h3, h4⟩ := hS.1 0 (by omega)
  have e : (fun j => Value.int (([sgL.map nI].getD 0 []).getD j 0)) = fun j => Value.int (nI (sgB j)) := funext fun j => congrArg Value.int (map_nI sgL j)
  rw [e] at h4
  exact ⟨adK 0, adV 0, hE 0 (by omega), h1, h2, h3, h4⟩
theorem law_Z {s : State} {b : Nat} (htsT : ∀ w ∈ lw_tbl, w.before #[Value.ref b] s = true) (hgv : (Jvm.Cond.and given_1 narrow_1).before #[Value.ref b] s = true) : ∃ B : ev_B, B.1 = s.heap.size ∧ B.2.2 2 = some b ∧ ev_Z B.1 B.2.2 s := by
  have hg := flat_of_before _ hgv
  have hA : ∀ q : Nat, q < s.heap.size → ¬ (fun a => s.heap.size ≤ a) q := fun q h h2 => absurd h (Nat.not_lt.mpr h2)
  obtain ⟨q0, v0, e0, k0⟩ := law_kw (A := fun a => s.heap.size ≤ a) hgv hA
  obtain ⟨q1, v1, e1, k1⟩ := law_sg (A := fun a => s.heap.size ≤ a) hgv hA
  refine ⟨(s.heap.size, fun _ => 0, fun z => bif Nat.beq z 0 then some q0 else bif Nat.beq z 1 then some q1 else some b), rfl, rfl, ⟨q0, v0, rfl, vk_R.of (htsT (.stringRef "LevelUnits$Scanner" 106 kwT) (List.mem_of_getElem? (i := 325) (by decide +kernel))) e0, k0⟩, ⟨q1, v1, rfl, vk_R.of (htsT (.stringRef "LevelUnits$Scanner" 131 sgT) (List.mem_of_getElem? (i := 397) (by decide +kernel))) e1, k1⟩, ?_, ?_⟩
  · exact va_Zof (htsT (.laysStatic "java/lang/String" "COMPACT_STRINGS" "Z") (List.mem_of_getElem? (i := 335) (by decide +kernel))) (htsT (.initialized "java/lang/String") (List.mem_of_getElem? (i := 123) (by decide +kernel))) (va_eqt (hg (.eq (.static "java/lang/String" "COMPACT_STRINGS" "Z") (.int 1)) (List.mem_of_getElem? (i := 4) (by decide +kernel)))) hA
  · exact va_Zqof (htsT (.laysStatic "jdk/internal/util/Preconditions" "SIOOBE_FORMATTER" "Ljava/util/function/BiFunction;") (List.mem_of_getElem? (i := 351) (by decide +kernel))) (htsT (.initialized "jdk/internal/util/Preconditions") (List.mem_of_getElem? (i := 125) (by decide +kernel))) (hg (.isRef (.static "jdk/internal/util/Preconditions" "SIOOBE_FORMATTER" "Ljava/util/function/BiFunction;")) (List.mem_of_getElem? (i := 5) (by decide +kernel))) hA
