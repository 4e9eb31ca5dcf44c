/-! contracts of the reference: what begins a type or a statement -/
def bgT : List Int32 := [200, 20, 3, 29, 5, 49, 46, 104, 1, 42, 43, 38, 34]
def bgS : List Int32 := [200, 13, 18, 57, 25, 16, 44, 40, 52, 24, 56, 47, 4, 23, 39, 54]
theorem bgT_e {x : Int32} (h : x ∈ bgT) : ¬ x = 203 := fun e => by rw [e] at h; revert h; decide
theorem bgS_e {x : Int32} (h : x ∈ bgS) : ¬ x = 203 := fun e => by rw [e] at h; revert h; decide
section PRE
variable {X : ev_X} {W : Nat → Prop} {d : Nat} {P : MP} {μ : MS} {T : MS → Prop}
theorem c_beginsType (hd : 2 ≤ d) (hS : PS μ) : MC X W true d 311 [.ref P.1] P μ (fun r μ1 => μ1 = μ ∧ (¬ r = 0 → srt μ ∈ bgT)) T := by
  refine me_meth (by omega) rfl (v_beginsType_0 ?_)
  iterate 12
    refine MC.mono (c_is (by omega) hS) (fun r ν h => ?_) (fun _ h => h)
    obtain ⟨rfl, rfl⟩ := h
    refine ⟨fun h => ⟨rfl, fun _ => by rw [is_t h]; decide⟩, fun _ => ?_⟩
  refine MC.mono (c_is (by omega) hS) (fun r ν h => ?_) (fun _ h => h)
  obtain ⟨rfl, rfl⟩ := h
  exact ⟨fun _ => ⟨rfl, fun h => absurd rfl h⟩, fun h => ⟨rfl, fun _ => by rw [is_t h]; decide⟩⟩
theorem c_beginsStatement (hd : 2 ≤ d) (hS : PS μ) : MC X W true d 320 [.ref P.1] P μ (fun r μ1 => μ1 = μ ∧ (¬ r = 0 → srt μ ∈ bgS)) T := by
  refine me_meth (by omega) rfl (v_beginsStatement_0 ?_)
  iterate 15
    refine MC.mono (c_is (by omega) hS) (fun r ν h => ?_) (fun _ h => h)
    obtain ⟨rfl, rfl⟩ := h
    refine ⟨fun h => ⟨rfl, fun _ => by rw [is_t h]; decide⟩, fun _ => ?_⟩
  refine MC.mono (c_is (by omega) hS) (fun r ν h => ?_) (fun _ h => h)
  obtain ⟨rfl, rfl⟩ := h
  exact ⟨fun _ => ⟨rfl, fun h => absurd rfl h⟩, fun h => ⟨rfl, fun _ => by rw [is_t h]; decide⟩⟩
end PRE
