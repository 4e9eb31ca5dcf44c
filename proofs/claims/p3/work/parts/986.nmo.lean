/-! contracts of the reference: variables made and seen; a NAME within statements -/
section NMU
variable {X : ev_X} {W : Nat → Prop} {d h K : Nat} {P : MP} {μ ν : MS} {V V0 : Int32 → Prop} {n N : Int} {w w' : Nat} {C : Nat → Prop}
theorem c_variable {T : MS → Prop} {k t : Int32} (hd : 1 ≤ d) (hL : LRow μ.2.2) (h0 : 0 ≤ (μ.1 52).toInt) (h1 : (μ.1 52).toInt < 3200) : MC X W true d 341 [.ref P.1, .int k, .int t] P μ (fun r μ1 => kf [52] [53, 54, 55] μ μ1 ∧ r = μ.1 52 ∧ (μ1.1 52).toInt = (μ.1 52).toInt + 1 ∧ (μ1.2.1 53 r.toNatClampNeg = k ∧ μ1.2.1 54 r.toNatClampNeg = t) ∧ ∀ v : Nat, v ≠ r.toNatClampNeg → μ1.2.1 53 v = μ.2.1 53 v ∧ μ1.2.1 54 v = μ.2.1 54 v) T := by
  have mi : ∀ {g : Nat}, rk g = true → rlen g = 3200 → MI (μ.1 52) (μ.2.2 g) := fun hg hr => MI.of (hL.g hg hr) h0 (by omega)
  have e1 : (μ.1 52 + 1).toInt = (μ.1 52).toInt + 1 := ia1 (by omega)
  have e2 : μ.1 52 + 1 - 1 = μ.1 52 := i_eq (by
    rw [ib (by rw [e1, show (1 : Int32).toInt = 1 from rfl]; omega) (by rw [e1, show (1 : Int32).toInt = 1 from rfl]; omega), e1, show (1 : Int32).toInt = 1 from rfl]
    omega)
  refine me_meth (by omega) rfl (v_variable_0 _ _ ⟨mi rfl rfl, mi rfl rfl, mi rfl rfl, ?_⟩)
  rw [e2]
  refine ⟨(((kf.rf.A rfl).A rfl).A rfl).S rfl, rfl, e1, ⟨?_, ?_⟩, fun v hv => ⟨?_, ?_⟩⟩
  · exact upd_at
  · exact upd_at
  · exact upd_off hv
  · exact upd_off hv
theorem c_seeN {T : MS → Prop} {a b : Int32} (hd : 1 ≤ d) (hL : LRow μ.2.2) (h0 : 0 ≤ (μ.1 62).toInt) (h1 : (μ.1 62).toInt < 3200) : MC X W true d 358 [.ref P.1, .int a, .int b] P μ (fun _ μ1 => kf [62] [63, 64] μ μ1 ∧ (μ1.1 62).toInt = (μ.1 62).toInt + 1 ∧ μ1.2.1 64 (μ.1 62).toNatClampNeg = b ∧ ∀ k : Nat, k ≠ (μ.1 62).toNatClampNeg → μ1.2.1 63 k = μ.2.1 63 k ∧ μ1.2.1 64 k = μ.2.1 64 k) T := by
  have mi : ∀ {g : Nat}, rk g = true → rlen g = 3200 → MI (μ.1 62) (μ.2.2 g) := fun hg hr => MI.of (hL.g hg hr) h0 (by omega)
  refine me_meth (by omega) rfl (v_see__0 _ _ ⟨mi rfl rfl, mi rfl rfl, ((kf.rf.A rfl).A rfl).S rfl, ia1 (by omega), ?_, fun k hk => ⟨?_, ?_⟩⟩)
  · exact upd_at
  · exact upd_off hk
  · exact upd_off hk
/-- frames of these steps -/
theorem SF.var (hk : kf [52] [53, 54, 55] μ ν) (h0 : 0 ≤ (μ.1 52).toInt) (h1 : (ν.1 52).toInt = (μ.1 52).toInt + 1) (h2 : ∀ v : Nat, v ≠ (μ.1 52).toNatClampNeg → ν.2.1 53 v = μ.2.1 53 v ∧ ν.2.1 54 v = μ.2.1 54 v) : SF C μ ν := by
  have hc := @ic (μ.1 52)
  refine ⟨hk.up rfl rfl, fun e => by rw [hk.1 17 rfl]; exact e, ⟨by omega, fun v hv => h2 v (by omega)⟩, fun j => Or.inl ⟨?_, ?_, ?_⟩⟩
  · rw [hk.2.1 24 rfl]
  · rw [hk.2.1 26 rfl]
  · rw [hk.2.1 28 rfl]
theorem SF.seen (hk : kf [62] [63, 64] μ ν) : SF C μ ν := by
  refine ⟨hk.up rfl rfl, fun e => by rw [hk.1 17 rfl]; exact e, ⟨by rw [hk.1 52 rfl]; exact Int.le_refl _, fun v hv => ⟨?_, ?_⟩⟩, fun j => Or.inl ⟨?_, ?_, ?_⟩⟩
  · rw [hk.2.1 53 rfl]
  · rw [hk.2.1 54 rfl]
  · rw [hk.2.1 24 rfl]
  · rw [hk.2.1 26 rfl]
  · rw [hk.2.1 28 rfl]
theorem SF.put28 {y : Nat} {r : Int32} (hy : C y) (hk : μ.2.1 20 y = 10 ∨ μ.2.1 20 y = 13) : SF C μ (mA1 μ 28 y r) := by
  have hkf : kf [] [28] μ (mA1 μ 28 y r) := kf.rf.A rfl
  refine ⟨hkf.up rfl rfl, id, ⟨Int.le_refl _, fun v hv => ⟨?_, ?_⟩⟩, fun j => ?_⟩
  · rw [hkf.2.1 53 rfl]
  · rw [hkf.2.1 54 rfl]
  by_cases e : j = y
  · subst e
    refine Or.inr (Or.inr (Or.inr ⟨hy, hk, ?_, ?_⟩))
    · rw [hkf.2.1 24 rfl]
    · rw [hkf.2.1 26 rfl]
  · refine Or.inl ⟨?_, ?_, upd_off e⟩
    · rw [hkf.2.1 24 rfl]
    · rw [hkf.2.1 26 rfl]
theorem within_step (hS : StsN X W P d h K) (hd : 1 ≤ d) : WiN X W P (d + 1) h K := fun μ T n N V0 Γ lo hi l1 l2 w y x k t hC h0 hN hl1 hl2 hG hB => by
  obtain ⟨c1, c2, c3, ⟨c4, c5⟩, c6⟩ := id hC
  have hV := c3
  obtain ⟨y0, y1, y2⟩ := hG.in
  have hcy := @ic y
  have ek := hG.k10
  have hll : l1 ≤ l2 := by
    cases K with
    | zero => exact hB.2
    | succ K =>
      obtain ⟨m, hm⟩ : ∃ m, WL (PK μ h K 1 3) (μ.2.1 27) m l1 l2 w x := hB
      cases m with
      | zero => exact hm.2
      | succ m =>
        rcases hm with hm | ⟨mid, v, hm, -⟩
        · exact hm.2
        · omega
  have yN : bt 0 N y.toNatClampNeg := ⟨by omega, by omega⟩
  have hv62 := c3.1
  refine me_meth (by omega) rfl (v_within_0 _ _ _ _ (MC.mono (c_variable hd c1.1 c4 (by omega)) (fun r κ1 h1 => ?_) (fun _ h => h)))
  obtain ⟨a1, a2, a3, ⟨a4, a5⟩, a6⟩ := h1
  have f1 : SF (fun j => j = y.toNatClampNeg ∨ bt l1 l2 j) μ κ1 := SF.var a1 c4 a3 (by rw [← a2]; exact a6)
  have hC1 : NE n κ1 ∧ SB n κ1 (bt 0 N) := ⟨c1.sf f1, c2.sf f1⟩
  have mi1 : ∀ {g : Nat}, rk g = true → rlen g = 16000 → MI y (κ1.2.2 g) := fun hg hr => MI.of (hC1.1.1.g hg hr) y0 (by have := (c2 _ yN).1; omega)
  refine ⟨mi1 rfl rfl, mi1 rfl rfl, mi1 rfl rfl, ?_⟩
  have k1 : κ1.2.1 20 y.toNatClampNeg = 10 := by rw [a1.2.1 20 rfl]; exact ek
  have f2 : SF (fun j => j = y.toNatClampNeg ∨ bt l1 l2 j) κ1 (mA1 κ1 28 y.toNatClampNeg r) := SF.put28 (Or.inl rfl) (Or.inl k1)
  have e28 : (mA1 κ1 28 y.toNatClampNeg r).2.1 28 y.toNatClampNeg = r := upd_at
  have b28 : ∀ j : Nat, j ≠ y.toNatClampNeg → (mA1 κ1 28 y.toNatClampNeg r).2.1 28 j = κ1.2.1 28 j := fun j hj => upd_off hj
  have b62 : (mA1 κ1 28 y.toNatClampNeg r).1 62 = μ.1 62 := a1.1 62 rfl
  have b52 : (mA1 κ1 28 y.toNatClampNeg r).1 52 = κ1.1 52 := rfl
  have b53 : (mA1 κ1 28 y.toNatClampNeg r).2.1 53 = κ1.2.1 53 := row_off rfl
  have b54 : (mA1 κ1 28 y.toNatClampNeg r).2.1 54 = κ1.2.1 54 := row_off rfl
  have b63 : (mA1 κ1 28 y.toNatClampNeg r).2.1 63 = μ.2.1 63 := (row_off rfl).trans (a1.2.1 63 rfl)
  have b64 : (mA1 κ1 28 y.toNatClampNeg r).2.1 64 = μ.2.1 64 := (row_off rfl).trans (a1.2.1 64 rfl)
  have f12 := f1.tr f2
  rw [show upd (κ1.2.1 28) y.toNatClampNeg r y.toNatClampNeg = r from upd_at]
  generalize mA1 κ1 28 y.toNatClampNeg r = κ2 at *
  have i62 := eq_i b62
  have i52 := eq_i b52
  refine MC.mono (c_seeN hd (c1.sf f12).1 (by omega) (by omega)) (fun _ κ3 h3 => ?_) (fun _ h => h)
  obtain ⟨s1, s2, s3, s4⟩ := h3
  have f3 : SF (fun j => j = y.toNatClampNeg ∨ bt l1 l2 j) κ2 κ3 := SF.seen s1
  have f123 := f12.tr f3
  have e28' : κ3.2.1 28 y.toNatClampNeg = r := by rw [s1.2.1 28 rfl]; exact e28
  have k3 : κ3.2.1 20 y.toNatClampNeg = 10 := by rw [f123.row (g := 20) rfl]; exact ek
  have i52' := eq_i (s1.1 52 rfl)
  have hc62 := @ic (κ2.1 62)
  have hr52 := eq_i a2
  have hcr := @ic r
  have vx3 : VX κ3 k t r := by
    refine ⟨⟨by omega, by omega⟩, ?_, ?_⟩
    · rw [s1.2.1 53 rfl, b53]; exact a4
    · rw [s1.2.1 54 rfl, b54]; exact a5
  have hC3 : CXs n N (VS V0 (r :: Γ)) w κ3 := by
    refine ⟨c1.sf f123, c2.sf f123, ⟨⟨by omega, by omega⟩, fun i hi => ?_⟩, ⟨by omega, by omega⟩, by omega⟩
    by_cases e : i = (κ2.1 62).toNatClampNeg
    · rw [e, s3]
      exact Or.inl List.mem_cons_self
    · rw [(s4 i e).2, b64]
      rcases hV.2 i (by omega) with q | q
      · exact Or.inl (List.mem_cons_of_mem _ q)
      · exact Or.inr q
  refine MC.mono (hS κ3 _ n N V0 (r :: Γ) l1 l2 w x hC3 (by omega) (by omega) (BT.cg (Nat.le_refl _) K _ _ _ _ f123.ag hB)) (fun _ κ4 h4 => ?_) (fun _ h => h)
  obtain ⟨q1, q2⟩ := h4
  have j62 := eq_i q1.2.2.1
  have e62 : κ4.1 62 - 1 = μ.1 62 := i_eq (by
    rw [im2 (by omega) (by omega)]
    omega)
  have k5 : kf [62] [63, 64] κ4 (mS1 κ4 62 (κ4.1 62 - 1)) := kf.rf.S rfl
  have f5 : ∀ C, SF C κ4 (mS1 κ4 62 (κ4.1 62 - 1)) := fun C => SF.seen k5
  have sub1 : ∀ j, bt l1 l2 j → (j = y.toNatClampNeg ∨ bt l1 l2 j) := fun j hj => Or.inr hj
  have r4 : κ4.2.1 28 y.toNatClampNeg = r := (q1.1.r10 k3 (fun hj => by have := hj.1; omega)).trans e28'
  refine ⟨⟨(f123.tr (q1.1.sub sub1)).tr (f5 _), ?_, e62, fun i hi => ?_, fun hI => ?_⟩, fun e => ?_⟩
  · show (κ4.1 52).toInt ≤ _
    have := q1.2.1
    omega
  · show κ4.2.1 63 i = _ ∧ κ4.2.1 64 i = _
    obtain ⟨z1, z2⟩ := q1.2.2.2.1 i (by omega)
    obtain ⟨z3, z4⟩ := s4 i (by omega)
    rw [z1, z2, z3, z4, b63, b64]
    exact ⟨rfl, rfl⟩
  · have hI3 : NI κ3 := by
      intro i hi
      have k20 : κ3.2.1 20 = μ.2.1 20 := f123.row rfl
      have o28 : ∀ j : Nat, j ≠ y.toNatClampNeg → κ3.2.1 28 j = μ.2.1 28 j := fun j hj => by
        rw [s1.2.1 28 rfl, b28 j hj, a1.2.1 28 rfl]
      replace hi := hi.of k20 (f123.1.1 19 rfl)
      by_cases c : i = y.toNatClampNeg
      · rw [c, e28']
        refine ⟨by omega, fun j hj _ hij => ?_⟩
        by_cases c2 : j = y.toNatClampNeg
        · exact c2.symm
        · replace hj := hj.of k20 (f123.1.1 19 rfl)
          rw [o28 j c2] at hij
          have h9 := (hI j hj).1
          rw [← hij] at h9
          omega
      · rw [o28 i c]
        obtain ⟨w1, w2⟩ := hI i hi
        refine ⟨by omega, fun j hj h0 hij => ?_⟩
        by_cases c2 : j = y.toNatClampNeg
        · rw [c2, e28'] at hij
          rw [hij] at w1
          omega
        · replace hj := hj.of k20 (f123.1.1 19 rfl)
          rw [o28 j c2] at hij
          exact w2 j hj h0 hij
    exact q1.2.2.2.2 hI3
  · show VX (mS1 κ4 62 (κ4.1 62 - 1)) k t (κ4.2.1 28 y.toNatClampNeg) ∧ BN (mS1 κ4 62 (κ4.1 62 - 1)) h V0 K (κ4.2.1 28 y.toNatClampNeg :: Γ) l1 l2 x
    rw [r4]
    exact ⟨(vx3.sf q1.1).sf (f5 (fun _ => False)), BN.sf (f5 (fun _ => False)) K _ _ _ _ (fun _ _ h => h) (q2 e)⟩
end NMU
