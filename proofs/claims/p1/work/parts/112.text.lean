def kwB : List Int32 := [65, 78, 68, 32, 65, 82, 82, 65, 89, 32, 66, 69, 71, 73, 78, 32, 66, 79, 79, 76, 69, 65, 78, 32, 66, 82, 79, 65, 68, 67, 65, 83, 84, 32, 67, 79, 78, 68, 73, 84, 73, 79, 78, 32, 68, 73, 86, 32, 68, 79, 32, 69, 76, 83, 69, 32, 69, 76, 83, 73, 70, 32, 69, 78, 68, 32, 69, 88, 67, 69, 80, 84, 32, 69, 88, 67, 69, 80, 84, 73, 79, 78, 32, 69, 88, 73, 84, 32, 70, 65, 76, 83, 69, 32, 70, 73, 78, 65, 76, 76, 89, 32, 70, 79, 82, 32, 70, 79, 82, 75, 32, 73, 70, 32, 73, 77, 80, 79, 82, 84, 32, 73, 78, 84, 69, 71, 69, 82, 32, 73, 78, 84, 69, 82, 70, 65, 67, 69, 32, 73, 83, 84, 89, 80, 69, 32, 74, 79, 73, 78, 32, 76, 79, 67, 75, 32, 76, 79, 79, 80, 32, 77, 69, 84, 72, 79, 68, 83, 32, 77, 79, 68, 32, 77, 79, 68, 85, 76, 69, 32, 77, 85, 84, 69, 88, 32, 78, 65, 82, 82, 79, 87, 32, 78, 69, 87, 32, 78, 73, 76, 32, 78, 79, 84, 32, 79, 66, 74, 69, 67, 84, 32, 79, 70, 32, 79, 82, 32, 79, 86, 69, 82, 82, 73, 68, 69, 83, 32, 80, 82, 79, 67, 69, 68, 85, 82, 69, 32, 80, 85, 84, 32, 82, 65, 73, 83, 69, 32, 82, 65, 73, 83, 69, 83, 32, 82, 69, 67, 79, 82, 68, 32, 82, 69, 70, 32, 82, 69, 84, 85, 82, 78, 32, 82, 69, 86, 69, 65, 76, 32, 82, 79, 79, 84, 32, 83, 73, 71, 78, 65, 76, 32, 84, 72, 69, 78, 32, 84, 72, 82, 69, 65, 68, 32, 84, 79, 32, 84, 82, 85, 69, 32, 84, 82, 89, 32, 84, 89, 80, 69, 32, 84, 89, 80, 69, 67, 65, 83, 69, 32, 86, 65, 82, 32, 87, 65, 73, 84, 32, 87, 72, 73, 76, 69, 32]
def kwF : Nat → Int32 := fun j => kwB.getD j 0
set_option maxRecDepth 100000 in
theorem kw_el : ∀ j : Nat, j < 345 → (Cond.eq (.elem (.field (.string "LevelUnitsModel" 282) "java/lang/String" "value" "[B") (.int (Int32.ofNat j))) (.int (kwB.getD j 0))) ∈ flatC (Jvm.Cond.and given_1 narrow_1) := by
  have h : ((flatC (Jvm.Cond.and given_1 narrow_1)).drop 875).take 345 = (List.range 345).map (fun j => Cond.eq (.elem (.field (.string "LevelUnitsModel" 282) "java/lang/String" "value" "[B") (.int (Int32.ofNat j))) (.int (kwB.getD j 0))) := by decide +kernel
  intro j hj
  have h1 : (Cond.eq (.elem (.field (.string "LevelUnitsModel" 282) "java/lang/String" "value" "[B") (.int (Int32.ofNat j))) (.int (kwB.getD j 0))) ∈ (List.range 345).map (fun j => Cond.eq (.elem (.field (.string "LevelUnitsModel" 282) "java/lang/String" "value" "[B") (.int (Int32.ofNat j))) (.int (kwB.getD j 0))) := List.mem_map_of_mem (List.mem_range.mpr hj)
  rw [← h] at h1
  exact List.mem_of_mem_drop (List.mem_of_mem_take h1)
theorem law_ks {s : State} {b : Nat} {A : Nat → Prop} (hgv : (Jvm.Cond.and given_1 narrow_1).before #[Value.ref b] s = true) (hAa : ∀ q : Nat, q < s.heap.size → ¬ A q) : ∃ q v : Nat, (Term.string RX13 282).eval #[Value.ref b] s none [] s = some (.ref q) ∧ ks q v 345 kwF A s s.heap := by
  have hg := flat_of_before _ hgv
  obtain ⟨adK, adV, hS, hE⟩ := vk_Sof (args := #[Value.ref b]) (s := s) (N := 1) (tm := fun _ => .string "LevelUnitsModel" 282) (len := [345]) (byt := [kwB]) (A := A)
    (fun i hi => by rcases (show i = 0 by omega) with rfl; decide)
    (fun i hi => hg (.exactly (.string "LevelUnitsModel" 282) "java/lang/String") (List.mem_of_getElem? (i := 871) (by decide +kernel)))
    (fun i hi => hg (.eq (.field (.string "LevelUnitsModel" 282) "java/lang/String" "coder" "B") (.int 0)) (List.mem_of_getElem? (i := 872) (by decide +kernel)))
    (fun i hi => hg (.arrayOf (.field (.string "LevelUnitsModel" 282) "java/lang/String" "value" "[B") .byte) (List.mem_of_getElem? (i := 873) (by decide +kernel)))
    (fun i hi => by rcases (show i = 0 by omega) with rfl; exact hg (.eq (.length (.field (.string "LevelUnitsModel" 282) "java/lang/String" "value" "[B")) (.int 345)) (List.mem_of_getElem? (i := 874) (by decide +kernel)))
    (fun i hi j hj => by rcases (show i = 0 by omega) with rfl; exact hg _ (kw_el j hj))
    (fun i j hi hj hij => absurd (show i = j by omega) hij) hAa
  obtain ⟨h1, h2, h3, h4⟩ := hS.1 0 (by omega)
  exact ⟨adK 0, adV 0, hE 0 (by omega), h1, h2, h3, h4⟩
theorem law_str169 {s : State} {b : Nat} (hgv : (Jvm.Cond.and given_1 narrow_1).before #[Value.ref b] s = true) : ∃ a : Nat, (Term.string RX11 169).eval #[Value.ref b] s none [] s = some (.ref a) := by
  obtain ⟨a, c, cA, kA, q1, -⟩ := Cond.exactly_spec (args := #[Value.ref b]) (first := s) (o := none) (s := s) (idx := []) (t := .string "LevelUnits" 169) (cls := "java/lang/String") (flat_of_before _ hgv (.exactly (.string "LevelUnits" 169) "java/lang/String") (List.mem_of_getElem? (i := 729) (by decide +kernel)))
  exact ⟨a, q1⟩
theorem law_str180 {s : State} {b : Nat} (hgv : (Jvm.Cond.and given_1 narrow_1).before #[Value.ref b] s = true) : ∃ a : Nat, (Term.string RX11 180).eval #[Value.ref b] s none [] s = some (.ref a) := by
  obtain ⟨a, c, cA, kA, q1, -⟩ := Cond.exactly_spec (args := #[Value.ref b]) (first := s) (o := none) (s := s) (idx := []) (t := .string "LevelUnits" 180) (cls := "java/lang/String") (flat_of_before _ hgv (.exactly (.string "LevelUnits" 180) "java/lang/String") (List.mem_of_getElem? (i := 814) (by decide +kernel)))
  exact ⟨a, q1⟩
theorem law_str187 {s : State} {b : Nat} (hgv : (Jvm.Cond.and given_1 narrow_1).before #[Value.ref b] s = true) : ∃ a : Nat, (Term.string RX11 187).eval #[Value.ref b] s none [] s = some (.ref a) := by
  obtain ⟨a, c, cA, kA, q1, -⟩ := Cond.exactly_spec (args := #[Value.ref b]) (first := s) (o := none) (s := s) (idx := []) (t := .string "LevelUnits" 187) (cls := "java/lang/String") (flat_of_before _ hgv (.exactly (.string "LevelUnits" 187) "java/lang/String") (List.mem_of_getElem? (i := 843) (by decide +kernel)))
  exact ⟨a, q1⟩
