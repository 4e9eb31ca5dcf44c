/-! contracts of the reference: statements of any nesting named; a variable made for a name -/
section NMZ
variable {X : ev_X} {W : Nat → Prop} {d h K : Nat} {P : MP} {μ ν : MS} {V V0 : Int32 → Prop} {n N : Int} {w w' : Nat} {C : Nat → Prop} {T : MS → Prop}
/-- all rows of statements, at a depth that bears height and nesting -/
theorem stm_named : ∀ K d, 3 * h + 12 + 3 * K ≤ d → StsN X W P d h K
  | 0, d, hd => by
    obtain ⟨dd, rfl⟩ : ∃ dd, d = dd + 1 := ⟨d - 1, by omega⟩
    exact sts_zero (by omega)
  | K + 1, d, hd => by
    obtain ⟨dd, rfl⟩ : ∃ dd, d = dd + 1 + 1 + 1 := ⟨d - 3, by omega⟩
    exact sts_step (st_step (fun h' hh => (ex_named h h' hh).1 (dd + 1) (by omega)) (fun h' hh => (ex_named h h' hh).2 (dd + 1) (by omega)) (ty_named h (dd + 1) h (Nat.le_refl _) (by omega)) (stm_named K (dd + 1) (by omega)) (within_step (stm_named K dd (by omega)) (by omega)) (by omega))
/-- TYPEs that are named stay so -/
theorem NG.sf (hN : SF C μ ν) : ∀ {h s : Nat} {i : Int32}, s ∈ tsL → NG μ h s i → NG ν h s i
  | 0, _, _, _, h => h
  | h + 1, s, i, hs, ⟨a1, a2, a3, a4⟩ => by
    have e20 := hN.row (g := 20) rfl
    have e27 := hN.row (g := 27) rfl
    have hm : μ.2.1 20 i.toNatClampNeg ∈ skL.getD s [] := by
      have a2 : (skL.getD s []).contains (μ.2.1 20 i.toNatClampNeg) = true := a2
      simpa using a2
    obtain ⟨o1, o2⟩ := ts_ok s hs _ hm
    refine ⟨a1, by rw [e20]; exact a2, a3.sf hN, fun f hf => ?_⟩
    rw [e20, e27, (hN.fld (j := i.toNatClampNeg) hf).resolve_right (fun h => o1 h.1)]
    exact FO.mono2 (o2 f hf) (fun s hs x hx => NG.sf hN hs hx) (a4 f hf)
/-- what is known of a variable that was made for a name and is seen -/
def MkP (y : Nat) (k t : Int32) (ν κ : MS) : Prop := SF (fun j => j = y) ν κ ∧ ((κ.1 52).toInt = (ν.1 52).toInt + 1 ∧ (κ.1 62).toInt = (ν.1 62).toInt + 1) ∧ (κ.2.1 28 y).toInt = (ν.1 52).toInt ∧ VX κ k t (κ.2.1 28 y) ∧ ((∀ i : Nat, (i : Int) < (ν.1 62).toInt → κ.2.1 63 i = ν.2.1 63 i ∧ κ.2.1 64 i = ν.2.1 64 i) ∧ κ.2.1 64 (ν.1 62).toNatClampNeg = κ.2.1 28 y) ∧ (NI ν → NI κ)
theorem c_mkv {R : MS → Prop} {y k t : Int32} (hd : 1 ≤ d) (hE : NE n ν) (h52 : 0 ≤ (ν.1 52).toInt ∧ (ν.1 52).toInt < 3200) (h62 : 0 ≤ (ν.1 62).toInt ∧ (ν.1 62).toInt < 3200) (y0 : 0 ≤ y.toInt) (y1 : y.toInt < 16000) (ek : ν.2.1 20 y.toNatClampNeg = 10 ∨ ν.2.1 20 y.toNatClampNeg = 13) (hR : ∀ κ, MkP y.toNatClampNeg k t ν κ → R κ) : MC X W true d 341 [.ref P.1, .int k, .int t] P ν (fun r1 μ1 => (MI y (μ1.2.2 28) ∧ (MI y (μ1.2.2 22) ∧ (MI y (μ1.2.2 28) ∧ MC X W true d 358 [.ref P.1, .int (μ1.2.1 22 y.toNatClampNeg), .int (upd (μ1.2.1 28) y.toNatClampNeg r1 y.toNatClampNeg)] P (mA1 μ1 28 y.toNatClampNeg r1) (fun _ μ2 => R μ2) (fun _ => False))))) (fun _ => False) := by
  have hcy := @ic y
  refine MC.mono (c_variable hd hE.1 h52.1 h52.2) (fun r κ1 h1 => ?_) (fun _ h => h)
  obtain ⟨a1, a2, a3, ⟨a4, a5⟩, a6⟩ := h1
  have f1 : SF (fun j => j = y.toNatClampNeg) ν κ1 := SF.var a1 h52.1 a3 (by rw [← a2]; exact a6)
  have hE1 : NE n κ1 := hE.sf f1
  have mi1 : ∀ {g : Nat}, rk g = true → rlen g = 16000 → MI y (κ1.2.2 g) := fun hg hr => MI.of (hE1.1.g hg hr) y0 y1
  refine ⟨mi1 rfl rfl, mi1 rfl rfl, mi1 rfl rfl, ?_⟩
  have k1 : κ1.2.1 20 y.toNatClampNeg = 10 ∨ κ1.2.1 20 y.toNatClampNeg = 13 := by rw [a1.2.1 20 rfl]; exact ek
  have f2 : SF (fun j => j = y.toNatClampNeg) κ1 (mA1 κ1 28 y.toNatClampNeg r) := SF.put28 rfl k1
  have e28 : (mA1 κ1 28 y.toNatClampNeg r).2.1 28 y.toNatClampNeg = r := upd_at
  have b28 : ∀ j : Nat, j ≠ y.toNatClampNeg → (mA1 κ1 28 y.toNatClampNeg r).2.1 28 j = κ1.2.1 28 j := fun j hj => upd_off hj
  have b62 : (mA1 κ1 28 y.toNatClampNeg r).1 62 = ν.1 62 := a1.1 62 rfl
  have b52 : (mA1 κ1 28 y.toNatClampNeg r).1 52 = κ1.1 52 := rfl
  have b53 : (mA1 κ1 28 y.toNatClampNeg r).2.1 53 = κ1.2.1 53 := row_off rfl
  have b54 : (mA1 κ1 28 y.toNatClampNeg r).2.1 54 = κ1.2.1 54 := row_off rfl
  have b63 : (mA1 κ1 28 y.toNatClampNeg r).2.1 63 = ν.2.1 63 := (row_off rfl).trans (a1.2.1 63 rfl)
  have b64 : (mA1 κ1 28 y.toNatClampNeg r).2.1 64 = ν.2.1 64 := (row_off rfl).trans (a1.2.1 64 rfl)
  have f12 := f1.tr f2
  rw [show upd (κ1.2.1 28) y.toNatClampNeg r y.toNatClampNeg = r from upd_at]
  generalize mA1 κ1 28 y.toNatClampNeg r = κ2 at *
  have i62 := eq_i b62
  have i52 := eq_i b52
  refine MC.mono (c_seeN hd (hE.sf f12).1 (by omega) (by omega)) (fun _ κ3 h3 => hR κ3 ?_) (fun _ h => h)
  obtain ⟨s1, s2, s3, s4⟩ := h3
  have f3 : SF (fun j => j = y.toNatClampNeg) κ2 κ3 := SF.seen s1
  have f123 := f12.tr f3
  have e28' : κ3.2.1 28 y.toNatClampNeg = r := by rw [s1.2.1 28 rfl]; exact e28
  have i52' := eq_i (s1.1 52 rfl)
  have hc62 := @ic (κ2.1 62)
  have hr52 := eq_i a2
  have hcr := @ic r
  refine ⟨f123, ⟨by omega, by omega⟩, by rw [e28']; omega, ?_, ⟨fun i hi => ?_, ?_⟩, fun hI => ?_⟩
  · rw [e28']
    refine ⟨⟨by omega, by omega⟩, ?_, ?_⟩
    · rw [s1.2.1 53 rfl, b53]; exact a4
    · rw [s1.2.1 54 rfl, b54]; exact a5
  · obtain ⟨z3, z4⟩ := s4 i (by omega)
    rw [z3, z4, b63, b64]
    exact ⟨rfl, rfl⟩
  · rw [← b62, s3, e28']
  · intro i hi
    have k20 : κ3.2.1 20 = ν.2.1 20 := f123.row rfl
    have o28 : ∀ j : Nat, j ≠ y.toNatClampNeg → κ3.2.1 28 j = ν.2.1 28 j := fun j hj => by
      rw [s1.2.1 28 rfl, b28 j hj, a1.2.1 28 rfl]
    replace hi := hi.of k20 (f123.1.1 19 rfl)
    by_cases c : i = y.toNatClampNeg
    · rw [c, e28']
      refine ⟨by omega, fun j hj _ hij => ?_⟩
      by_cases c2 : j = y.toNatClampNeg
      · exact c2.symm
      · replace hj := hj.of k20 (f123.1.1 19 rfl)
        rw [o28 j c2] at hij
        have h9 := (hI j hj).1
        rw [← hij] at h9
        omega
    · rw [o28 i c]
      obtain ⟨w1, w2⟩ := hI i hi
      refine ⟨by omega, fun j hj h0 hij => ?_⟩
      by_cases c2 : j = y.toNatClampNeg
      · rw [c2, e28'] at hij
        rw [hij] at w1
        omega
      · replace hj := hj.of k20 (f123.1.1 19 rfl)
        rw [o28 j c2] at hij
        exact w2 j hj h0 hij
end NMZ
