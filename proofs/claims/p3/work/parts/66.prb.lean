/-! contracts of the reference: names, bounds -/
/-- a node is the answer: its tree, and what it took -/
def PN (s h : Nat) (μ : MS) (r : Int32) (μ1 : MS) : Prop := PR (-1) 0 0 0 0 μ μ1 ∧ (μ1.1 19).toInt + 2 * (μ.1 32).toInt ≤ (μ.1 19).toInt + 2 * (μ1.1 32).toInt ∧ (μ.1 32).toInt < (μ1.1 32).toInt ∧ G μ1 h (bt (μ.1 19).toInt (μ1.1 19).toInt) s r ∧ μ1.2.1 27 r.toNatClampNeg = -1
section PRH
variable {e b n t s : Int} {μ ν : MS}
theorem PR.rf (h : PS μ) : PR e 0 0 0 0 μ μ := ⟨kf.rf, h, Int.le_refl _, Int.le_refl _, RB.rf, (Int.add_zero _).symm, (Int.add_zero _).symm, (Int.add_zero _).symm, (Int.add_zero _).symm, NC.rf⟩
theorem nx_at (hS : PS ν) : ((nxS ν).1 32).toInt = (ν.1 32).toInt + 1 := nx_i hS
theorem PR.nx (h : PR e b n t s μ ν) (hS : PS (nxS ν)) : PR e b n t s μ (nxS ν) := by
  obtain ⟨h1, h2, h3, h4, h5, h6⟩ := h
  have := nx_i h2
  exact ⟨h1.S rfl, hS, by show _ ≤ (ν.1 32 + 1).toInt; omega, h4, h5, h6⟩
theorem PR.op (h : PR e b n t s μ ν) (hS : PS (opS ν)) (hb : (ν.1 37).toInt < 20) {b' : Int} (eb : b' = b + 1) : PR e b' n t s μ (opS ν) := by
  obtain ⟨h1, h2, h3, h4, h5, h6, h7⟩ := h
  have := nx_i h2
  exact ⟨(h1.S rfl).S rfl, hS, by show _ ≤ (ν.1 32 + 1).toInt; omega, h4, h5, by show (ν.1 37 + 1).toInt = _; rw [ia1 (by omega)]; omega, h7⟩
theorem PR.cl (h : PR e b n t s μ ν) (hS : PS (mS1 (nxS ν) 37 (ν.1 37 - 1))) (hb : 1 ≤ (ν.1 37).toInt) {b' : Int} (eb : b' = b - 1) : PR e b' n t s μ (mS1 (nxS ν) 37 (ν.1 37 - 1)) := by
  obtain ⟨h1, h2, h3, h4, h5, h6, h7⟩ := h
  have := nx_i h2
  refine ⟨(h1.S rfl).S rfl, hS, by show _ ≤ (ν.1 32 + 1).toInt; omega, h4, h5, ?_, h7⟩
  show (ν.1 37 - 1).toInt = _
  have := h2.2.2.2.2.2.1.2
  rw [ib (by rw [show (1 : Int32).toInt = 1 from rfl]; omega) (by rw [show (1 : Int32).toInt = 1 from rfl]; omega)]
  show _ - (1 : Int) = _
  omega
theorem PR.mi (h : PR e b n t s μ ν) {g : Nat} {i : Int32} (hg : rk g = true) (hr : rlen g = 16000) (h0 : 0 ≤ i.toInt) (h1 : i.toInt < 16000) : MI i (ν.2.2 g) := MI.of (h.2.1.1.g hg hr) h0 (by omega)
end PRH
section PRB
variable {X : ev_X} {W : Nat → Prop} {d : Nat} {P : MP} {μ : MS} {T : MS → Prop}
theorem c_qname (hd : 6 ≤ d) (hS : PS μ) (hn : (μ.1 19).toInt ≤ 2 * (μ.1 32).toInt + 40) (hT : ∀ μ1, kf SPA RPA μ μ1 → T μ1) : MC X W true d 305 [.ref P.1] P μ (fun r μ1 => PN 7 1 μ r μ1 ∧ (μ1.1 19).toInt + 2 * (μ.1 32).toInt + 1 ≤ (μ.1 19).toInt + 2 * (μ1.1 32).toInt ∧ NS μ1 (μ.1 19).toInt (μ1.1 19).toInt) T := by
  have hat := hS.at
  have h0 := hS.2.2.2.2.1
  have hc := @ic (μ.1 19)
  refine me_meth (by omega) rfl (v_qname_0 (MC.mono (c_node (by omega) hS (by omega)) (fun q μ1 h => ?_) (fun _ h => h)))
  obtain ⟨rfl, p1, n1, a1, s1, nd1⟩ := h
  have a1 := eq_i a1
  refine MC.mono (c_name (by omega) p1.2.1 (fun _ h => hT _ (p1.1.tr h))) (fun v μ2 h => ?_) (fun _ h => h)
  obtain ⟨hs2, rfl, hS2⟩ := h
  have p2 := p1.nx hS2
  have e2 := nx_at p1.2.1
  refine ⟨p2.mi rfl rfl h0 (by omega), ?_⟩
  have p3 := p2.A (g := 22) (i := (μ.1 19).toNatClampNeg) (x := v) rfl rfl (Or.inl (by omega))
  have nd3 := ND.pa (x := v) (show ND (nxS μ1) (μ.1 19).toNatClampNeg 11 (-1) (-1) (-1) (-1) (-1) (-1) from nd1)
  refine MC.mono (c_is (by omega) p3.2.1) (fun r3 μ3 h => ?_) (fun _ h => h)
  obtain ⟨rfl, rfl⟩ := h
  refine ⟨fun _ => ⟨⟨p3, by show (μ1.1 19).toInt + _ ≤ _ + 2 * ((nxS μ1).1 32).toInt; omega, by show _ < ((nxS μ1).1 32).toInt; omega, G.mk h0 (Int.le_refl _) (by show _ < (μ1.1 19).toInt; omega) nd3 (by decide) True.intro True.intro True.intro True.intro True.intro, nd3.2.2.2.2.2.2⟩, by show (μ1.1 19).toInt + _ + 1 ≤ _ + 2 * ((nxS μ1).1 32).toInt; omega, NS.one nd3 (by omega) (by show (μ1.1 19).toInt = _; omega) (by decide)⟩, fun h => ?_⟩
  have hs3 := is_t h
  refine MC.mono (c_next (by omega) p3.2.1 (by rw [hs3]; decide) (fun _ h => hT _ (p3.1.tr h))) (fun _ μ4 h => ?_) (fun _ h => h)
  obtain ⟨rfl, hS4⟩ := h
  have p4 := p3.nx hS4
  have e4 := nx_at p3.2.1
  refine MC.mono (c_name (by omega) p4.2.1 (fun _ h => hT _ (p4.1.tr h))) (fun v5 μ5 h => ?_) (fun _ h => h)
  obtain ⟨hs5, rfl, hS5⟩ := h
  have p5 := p4.nx hS5
  have e5 := nx_at p4.2.1
  have p6 := p5.A (g := 23) (i := (μ.1 19).toNatClampNeg) (x := v5) rfl rfl (Or.inl (by omega))
  have nd6 := ND.pb (x := v5) (show ND (nxS (nxS (mA1 (nxS μ1) 22 (μ.1 19).toNatClampNeg v))) (μ.1 19).toNatClampNeg 11 v (-1) (-1) (-1) (-1) (-1) from nd3)
  have e3 : ((mA1 (nxS μ1) 22 (μ.1 19).toNatClampNeg v).1 32).toInt = ((nxS μ1).1 32).toInt := rfl
  refine ⟨p5.mi rfl rfl h0 (by omega), ⟨p6, ?_, ?_, G.mk h0 (Int.le_refl _) (by show _ < (μ1.1 19).toInt; omega) nd6 (by decide) True.intro True.intro True.intro True.intro True.intro, nd6.2.2.2.2.2.2⟩, ?_, NS.one nd6 (by omega) (by show (μ1.1 19).toInt = _; omega) (by decide)⟩
  · show (μ1.1 19).toInt + _ ≤ _ + 2 * ((nxS (nxS (mA1 (nxS μ1) 22 (μ.1 19).toNatClampNeg v))).1 32).toInt; omega
  · show _ < ((nxS (nxS (mA1 (nxS μ1) 22 (μ.1 19).toNatClampNeg v))).1 32).toInt; omega
  · show (μ1.1 19).toInt + _ + 1 ≤ _ + 2 * ((nxS (nxS (mA1 (nxS μ1) 22 (μ.1 19).toNatClampNeg v))).1 32).toInt; omega
theorem c_bound (hd : 5 ≤ d) (hS : PS μ) (hT : ∀ μ1, kf SPA RPA μ μ1 → T μ1) : MC X W true d 314 [.ref P.1] P μ (fun _ μ1 => PR (-1) 0 0 0 0 μ μ1 ∧ μ1.1 19 = μ.1 19 ∧ (μ.1 32).toInt < (μ1.1 32).toInt) T := by
  have fin : ∀ {ν : MS}, PR (-1) 0 0 0 0 μ ν → ν.1 19 = μ.1 19 → PS (nxS ν) → PR (-1) 0 0 0 0 μ (nxS ν) ∧ (nxS ν).1 19 = μ.1 19 ∧ (μ.1 32).toInt < ((nxS ν).1 32).toInt := fun {ν} p e h => ⟨p.nx h, e, by have := nx_at p.2.1; have := p.2.2.1; omega⟩
  have num : ∀ {ν : MS}, PR (-1) 0 0 0 0 μ ν → ν.1 19 = μ.1 19 → ∀ (r1 : Int32), MC X W true (d - 1) 296 [.ref P.1, .int 201] P ν (fun r2 μ2 => ((¬ r2 = 0 → (MI (μ2.1 32) (μ2.2.2 10) ∧ MC X W true (d - 1) 294 [.ref P.1] P μ2 (fun r3 μ3 => ((r1 = 0 → PR (-1) 0 0 0 0 μ μ3 ∧ μ3.1 19 = μ.1 19 ∧ (μ.1 32).toInt < (μ3.1 32).toInt) ∧ (¬ r1 = 0 → PR (-1) 0 0 0 0 μ μ3 ∧ μ3.1 19 = μ.1 19 ∧ (μ.1 32).toInt < (μ3.1 32).toInt))) T)) ∧ (r2 = 0 → MC X W true (d - 1) 295 [.ref P.1] P μ2 (fun r4 μ4 => (MI (μ4.1 32) (μ4.2.2 10) ∧ MC X W true (d - 1) 294 [.ref P.1] P μ4 (fun r5 μ5 => ((r1 = 0 → PR (-1) 0 0 0 0 μ μ5 ∧ μ5.1 19 = μ.1 19 ∧ (μ.1 32).toInt < (μ5.1 32).toInt) ∧ (¬ r1 = 0 → PR (-1) 0 0 0 0 μ μ5 ∧ μ5.1 19 = μ.1 19 ∧ (μ.1 32).toInt < (μ5.1 32).toInt))) T)) T))) (fun _ => False) := fun {ν} p e r1 => by
    refine MC.mono (c_is (by omega) p.2.1) (fun r2 μ2 h => ?_) (fun _ h => h)
    obtain ⟨rfl, rfl⟩ := h
    refine ⟨fun h => ⟨MI.of (p.2.1.1.g rfl rfl : _ = 6002) p.2.1.at.1 p.2.1.at.2, MC.mono (c_next (by omega) p.2.1 (by rw [is_t h]; decide) (fun _ h => hT _ (p.1.tr h))) (fun _ μ3 h => ?_) (fun _ h => h)⟩, fun _ => MC.mono (c_unfit (by omega) p.2.1 (fun _ h => hT _ (p.1.tr h))) (fun _ _ h => h.elim) (fun _ h => h)⟩
    obtain ⟨rfl, h3⟩ := h
    exact ⟨fun _ => fin p e h3, fun _ => fin p e h3⟩
  refine me_meth (by omega) rfl (v_bound_0 (MC.mono (c_is (by omega) hS) (fun r ν h => ?_) (fun _ h => h)))
  obtain ⟨rfl, rfl⟩ := h
  refine ⟨fun _ => num (PR.rf hS) rfl _, fun h => MC.mono (c_next (by omega) hS (by rw [is_t h]; decide) hT) (fun _ μ6 h => ?_) (fun _ h => h)⟩
  obtain ⟨rfl, h6⟩ := h
  exact num ((PR.rf hS).nx h6) rfl _
theorem c_bounds {t : Int32} (hd : 7 ≤ d) (hS : PS μ) (h0 : 0 ≤ t.toInt) (h1 : t.toInt < (μ.1 19).toInt) (h2 : (μ.1 19).toInt < 16000) (hT : ∀ μ1, kf SPA RPA μ μ1 → T μ1) : MC X W true d 315 [.ref P.1, .int t] P μ (fun _ μ1 => PR t.toInt 0 0 0 0 μ μ1 ∧ μ1.1 19 = μ.1 19 ∧ (μ.1 32).toInt < (μ1.1 32).toInt ∧ ∀ k a b c d e n, ND μ t.toNatClampNeg k a b c d e n → ∃ a' b', ND μ1 t.toNatClampNeg k a' b' c d e n) T := by
  have hc := @ic t
  refine me_meth (by omega) rfl (v_bounds_0 _ (MC.mono (c_open (by omega) hS (by decide) hT) (fun _ μ1 h => ?_) (fun _ h => h)))
  obtain ⟨-, rfl, hb, hS1⟩ := h
  have p1 : PR t.toInt 1 0 0 0 μ (opS μ) := (PR.rf hS).op hS1 hb rfl
  refine MC.mono (c_bound (by omega) hS1 (fun _ h => hT _ (p1.1.tr h))) (fun v2 μ2 h => ?_) (fun _ h => h)
  obtain ⟨q2, n2, a2⟩ := h
  have p2 : PR t.toInt 1 0 0 0 μ μ2 := p1.tr (q2.ex (by decide)) rfl rfl rfl rfl
  have p2a := p2.A (g := 22) (i := t.toNatClampNeg) (x := v2) rfl rfl (Or.inr (by omega))
  refine ⟨p2.mi rfl rfl h0 (by omega), MC.mono (c_expect (by omega) p2a.2.1 (by decide) (fun _ h => hT _ (p2a.1.tr h))) (fun _ μ3 h => ?_) (fun _ h => h)⟩
  obtain ⟨-, rfl, hS3⟩ := h
  have p3 := p2a.nx hS3
  refine MC.mono (c_bound (by omega) hS3 (fun _ h => hT _ (p3.1.tr h))) (fun v4 μ4 h => ?_) (fun _ h => h)
  obtain ⟨q4, n4, a4⟩ := h
  have p4 : PR t.toInt 1 0 0 0 μ μ4 := p3.tr (q4.ex (by decide)) rfl rfl rfl rfl
  have p4a := p4.A (g := 23) (i := t.toNatClampNeg) (x := v4) rfl rfl (Or.inr (by omega))
  have hb4 : 1 ≤ (μ4.1 37).toInt := by have := p4.2.2.2.2.2.1; have := hS.2.2.2.2.2.1.1; omega
  refine ⟨p4.mi rfl rfl h0 (by omega), MC.mono (c_close (by omega) p4a.2.1 (by decide) hb4 (fun _ h => hT _ (p4a.1.tr h))) (fun _ μ5 h => ?_) (fun _ h => h)⟩
  obtain ⟨rfl, hS5⟩ := h
  have p5 := p4a.cl (b' := 0) hS5 hb4 (by decide)
  refine ⟨p5, ?_, ?_, fun k a b c d e n h => ?_⟩
  · show μ4.1 19 = _
    rw [n4]; show μ2.1 19 = _; rw [n2]; rfl
  · have := nx_at p4a.2.1
    have := nx_at hS
    have e1 : ((opS μ).1 32).toInt = ((nxS μ).1 32).toInt := rfl
    have := nx_at p2a.2.1
    show _ < ((nxS (mA1 μ4 23 t.toNatClampNeg v4)).1 32).toInt
    have e3 : ((mA1 μ4 23 t.toNatClampNeg v4).1 32).toInt = (μ4.1 32).toInt := rfl
    have e4 : ((mA1 μ2 22 t.toNatClampNeg v2).1 32).toInt = (μ2.1 32).toInt := rfl
    omega
  · have w1 : ND μ2 t.toNatClampNeg k a b c d e n := ND.rb (μ := opS μ) h q2.2.2.2.2.1 (by show (t.toNatClampNeg : Int) < (μ.1 19).toInt; omega) (by omega)
    have w2 := ND.pa (x := v2) w1
    have e2 : ((nxS (mA1 μ2 22 t.toNatClampNeg v2)).1 19).toInt = (μ.1 19).toInt := by show (μ2.1 19).toInt = _; rw [n2]; rfl
    have w3 : ND μ4 t.toNatClampNeg k v2 b c d e n := ND.rb (μ := nxS (mA1 μ2 22 t.toNatClampNeg v2)) w2 q4.2.2.2.2.1 (by omega) (by omega)
    exact ⟨v2, v4, ND.pb (x := v4) w3⟩
end PRB
