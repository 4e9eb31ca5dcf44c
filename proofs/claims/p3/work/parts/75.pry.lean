/-! contracts of the reference: FIELDS -/
theorem HI.S {s h : Nat} {n0 : Int} {ν : MS} {x1 x2 x : Int32} (hH : HI s h n0 ν x1 x2) : HI s h n0 (mS1 ν 34 x) x1 x2 := by
  obtain ⟨m, na, nb, h1, hP, hG, hn⟩ := hH
  exact ⟨m, na, nb, h1, Px.mono (ν := ν) (ν1 := mS1 ν 34 x) (fun _ _ h => h) (Int.le_refl _) (fun _ _ _ _ _ _ _ _ => rfl) hP, G.S hG, hn⟩
/-- a group behind a list -/
theorem HI.next {s h : Nat} {n0 : Int} {ν ν1 : MS} {x1 x2 r : Int32} (hH : HI s h n0 ν x1 x2) (hr : RB (-1) (ν.1 19).toInt ν ν1) {nb : Int} (hrr : (ν.1 19).toInt ≤ r.toInt) (hn : (ν.1 19).toInt ≤ (ν1.1 19).toInt) : ∃ m, Px (mA1 ν1 27 x2.toNatClampNeg r) s h n0 (ν.1 19).toInt nb (ν1.1 19).toInt (r.toInt - 1) m x1 r := by
  obtain ⟨m, na, nb0, ⟨h1, h2, h3, h4, h5⟩, hP, hG, hl⟩ := hH
  have hc := @ic x2
  have hq : ∀ a j, Qs n0 na nb0 (ν.1 19).toInt a j → Qs n0 (ν.1 19).toInt nb (ν1.1 19).toInt a j := fun a j hj => ⟨⟨hj.1.1, by have := hj.1.2; omega⟩, Or.inl hj.1.2⟩
  have rows : ∀ g, 20 ≤ g → g ≤ 27 → ∀ j : Nat, (j : Int) < (ν.1 19).toInt → j ≠ x2.toNatClampNeg → (mA1 ν1 27 x2.toNatClampNeg r).2.1 g j = ν.2.1 g j := fun g k1 k2 j hj hne => by
    show (bif Nat.beq g 27 then upd (ν1.2.1 27) x2.toNatClampNeg r else ν1.2.1 g) j = _
    by_cases e : g = 27
    · subst e
      rw [nb_self]
      exact (upd_off hne).trans (hr 27 (by omega) (by omega) j hj (by omega))
    · rw [nb_ne e]
      exact hr g k1 (by omega) j hj (by omega)
  refine ⟨m + 1, Px.snoc (hP.mono hq (by omega) (fun g k1 k2 a j ha0 ha hj => rows g k1 k2 j hj.1.2 ?_)) ?_ (by omega) upd_at⟩
  · have hca := @ic a
    have := hj.2
    omega
  · have g1 : G ν1 h (Qs n0 na nb0 (ν.1 19).toInt x2.toNatClampNeg) s x2 := G.mono hG (Nat.le_refl _) (fun _ h => h) (fun g k1 k2 j hj => hr g k1 (by omega) j hj.1.2 (by omega)) (fun j hj _ => hr 27 (by omega) (by omega) j hj.1.2 (by omega))
    exact G.mono g1.link (Nat.le_refl _) (hq _) (fun _ _ _ _ _ => rfl) (fun _ _ _ => rfl)
/-- a group that waits for its TYPE, behind a list: what hangs below the list's first -/
def FJ (K : Int32) (n0 na nb : Int) (f0 t : Int32) (κ : MS) (y1 f : Int32) : Prop := CO κ n0 na y1 ∧ (∃ k, Up κ n0 na k f0.toNatClampNeg y1.toNatClampNeg) ∧ (∃ k, Wn κ na nb k f0 f) ∧ KR κ K na nb ∧ CO κ nb (κ.1 19).toInt t
theorem FJ.put {K : Int32} {n0 na nb : Int} {f0 t : Int32} {κ : MS} {y1 f : Int32} (h : FJ K n0 na nb f0 t κ y1 f) (hf : 0 ≤ f.toInt) (h1 : na ≤ f.toInt) (h2 : f.toInt < nb) : CO (mA1 κ 23 f.toNatClampNeg t) n0 na y1 ∧ (∃ k, Up (mA1 κ 23 f.toNatClampNeg t) n0 na k f0.toNatClampNeg y1.toNatClampNeg) ∧ (∃ k, Wn (mA1 κ 23 f.toNatClampNeg t) na nb k f0 f) ∧ KR (mA1 κ 23 f.toNatClampNeg t) K na nb ∧ CO (mA1 κ 23 f.toNatClampNeg t) nb (κ.1 19).toInt t := by
  obtain ⟨a1, ⟨k2, a2⟩, ⟨k3, a3⟩, a4, a5⟩ := h
  have hc := @ic f
  refine ⟨a1.rb (e := f.toInt) (n := na) (RB.A (Or.inr (by omega))) (Int.le_refl _) (Or.inr h1), ⟨k2, a2.rb (e := f.toInt) (n := na) (RB.A (Or.inr (by omega))) (Int.le_refl _) (Or.inr h1)⟩, ⟨k3, a3.row (row_off rfl)⟩, fun j j1 j2 => ?_, a5.rb (e := f.toInt) (n := (κ.1 19).toInt) (RB.A (Or.inr (by omega))) (Int.le_refl _) (Or.inl h2)⟩
  rw [row_off rfl]
  exact a4 j j1 j2
theorem FJ.next {K : Int32} {n0 na nb : Int} {f0 t : Int32} {κ : MS} {y1 f : Int32} (h : FJ K n0 na nb f0 t κ y1 f) (hf : 0 ≤ f.toInt) (h1 : na ≤ f.toInt) (h2 : f.toInt < nb) : FJ K n0 na nb f0 t (mA1 κ 23 f.toNatClampNeg t) y1 (κ.2.1 27 f.toNatClampNeg) := by
  obtain ⟨a1, a2, ⟨k3, a3⟩, a4, a5⟩ := h.put hf h1 h2
  exact ⟨a1, a2, ⟨k3 + 1, a3.snoc (Int.le_refl _) ⟨hf, h1, h2⟩ (by rw [row_off rfl])⟩, a4, a5⟩
theorem FJ.last {K : Int32} {n0 na nb : Int} {f0 t : Int32} {κ : MS} {y1 f : Int32} (h : FJ K n0 na nb f0 t κ y1 f) (hf : 0 ≤ f.toInt) (h1 : na ≤ f.toInt) (h2 : f.toInt < nb) (h3 : n0 ≤ na) (h4 : nb ≤ (κ.1 19).toInt) (hK : sp K = false) (hw : ¬ (fW K.toNatClampNeg 1).1 = 0) (ht : 0 ≤ t.toInt) (hy : 0 ≤ y1.toInt) : OC (mA1 κ 23 f.toNatClampNeg t) n0 (κ.1 19).toInt y1 f := by
  obtain ⟨a1, ⟨k2, a2⟩, ⟨k3, a3⟩, a4, a5⟩ := h.put hf h1 h2
  have hc := @ic f
  have hct := @ic t
  have u1 : ∃ k, Up (mA1 κ 23 f.toNatClampNeg t) n0 (κ.1 19).toInt k f.toNatClampNeg y1.toNatClampNeg := by
    obtain ⟨k4, a6⟩ := a3.to hf
    exact (a6.wide h3 h4).trans (a2.wide (Int.le_refl _) (by omega))
  obtain ⟨k5, u1⟩ := u1
  have pt : Par (mA1 κ 23 f.toNatClampNeg t) f.toNatClampNeg t.toNatClampNeg := Or.inl ⟨1, by decide, by rw [a4 f.toNatClampNeg (by omega) (by omega)]; exact hw, by show (upd (κ.2.1 23) f.toNatClampNeg t f.toNatClampNeg).toInt = _; rw [upd_at]; omega⟩
  refine Or.inr ⟨hy, hf, fun j j1 j2 j3 => ?_, k5, u1⟩
  by_cases c1 : (j : Int) < na
  · obtain ⟨m, hm⟩ := a1 j j1 c1 j3
    exact ⟨m, hm.wide (Int.le_refl _) (by omega)⟩
  · by_cases c2 : (j : Int) < nb
    · rw [a4 j (by omega) c2, hK] at j3
      cases j3
    · obtain ⟨m, hm⟩ := a5.kid pt (by omega : n0 ≤ nb) (Int.le_refl _) (by omega) (by omega) (by omega) j2 j3
      exact hm.trans u1
section PRY
variable {X : ev_X} {W : Nat → Prop} {d : Nat} {P : MP}
theorem st_fields (hT1 : NodC X W P 312 0 9 0 d) : FldC X W P (d + 1) := fun μ T h9 hS hd hh hn hT => by
  have h0 := hS.2.2.2.2.1
  have b37 := hS.2.2.2.2.2.1
  have b39 := hS.2.2.2.2.2.2.2.1
  have pd : ∀ {ν : MS}, PR (-1) 0 0 0 0 μ ν → psT ν = psT μ ∧ hiT ν = hiT μ := fun {ν} p => by
    obtain ⟨-, -, -, -, -, e1, -, e3, -⟩ := p
    unfold psT hiT
    rw [e1, e3]
    exact ⟨by omega, by omega⟩
  have hpos : 0 ≤ psT μ := by unfold psT; omega
  have hhp : 0 ≤ hiT μ := by unfold hiT; omega
  obtain ⟨h, rfl⟩ : ∃ h, h9 = h + 1 := ⟨h9 - 1, by omega⟩
  have key : ∀ (j : Nat) (x1 x2 x3 : Int32) (ν : MS), ((μ.1 8).toInt - (ν.1 32).toInt).toNat < j → PR (-1) 0 0 0 0 μ ν → (ν.1 19).toInt + 2 * (μ.1 32).toInt ≤ (μ.1 19).toInt + 2 * (ν.1 32).toInt → (x1 = -1 ∨ (0 ≤ x1.toInt ∧ HI 10 (h + 1) (μ.1 19).toInt ν x1 x2)) → OC ν (μ.1 19).toInt (ν.1 19).toInt x1 x2 →
      ME X W true d 317 9 [(0, .ref P.1), (1, .int x1), (2, .int x2), (3, .int x3)] [] P ν (fun r μ1 => PL 10 (h + 1) μ r μ1 ∧ LCO μ1 (μ.1 19).toInt (μ1.1 19).toInt r) T := by
    intro j
    induction j with
    | zero => intro x1 x2 x3 ν hj; omega
    | succ j ih =>
      intro x1 x2 x3 ν hj p b1 hL hC
      have e8 := eq_i (p.1.1 8 rfl)
      have t8 := p.2.1.2.2.1.2
      have hat := p.2.1.at
      have l0 := p.2.2.2.1
      refine v_fields_9 _ _ _ (MC.mono (c_is (by omega) p.2.1) (fun r1 ν1 h1 => ?_) (fun _ h => h))
      obtain ⟨rfl, rfl⟩ := h1
      refine ⟨fun _ => ⟨⟨p, b1, ?_⟩, hC.l⟩, fun hs1 => MC.mono (c_line (by omega) p.2.1.1 hat.1 hat.2) (fun r2 ν2 h2 => ?_) (fun _ h => h)⟩
      · rcases hL with rfl | ⟨-, hL⟩
        · exact LSt.nil
        · exact hL.lst
      subst h2
      have p2 : PR (-1) 0 0 0 0 μ (mS1 ν2 34 r2) := p.s34
      have g2 : ((mS1 ν2 34 r2).1 19).toInt = (ν2.1 19).toInt := rfl
      have a2 : ((mS1 ν2 34 r2).1 32).toInt = (ν2.1 32).toInt := rfl
      refine MC.mono (c_nameRow (by omega) p2.2.1 (by omega) (fun _ h => hT _ (p2.1.tr h))) (fun r3 ν3 h3 => ?_) (fun _ h => h)
      obtain ⟨⟨q3, c3, c3', rfl, m3, hraw⟩, hKR, -⟩ := h3
      have p3 : PR (-1) 0 0 0 0 μ ν3 := p2.tr q3 rfl rfl rfl rfl
      have l3 := q3.2.2.2.1
      refine MC.mono (c_expect (by omega) p3.2.1 (by decide) (fun _ h => hT _ (p3.1.tr h))) (fun _ ν4 h4 => ?_) (fun _ h => h)
      obtain ⟨-, rfl, hS4⟩ := h4
      have p4 := p3.nx hS4
      have e4 := nx_at p3.2.1
      have g4 : ((nxS ν3).1 19).toInt = (ν3.1 19).toInt := rfl
      have d4 := pd p4
      refine MC.mono (hT1 _ _ h p4.2.1 (by omega) (by omega) (by omega) (fun _ h => hT _ (p4.1.tr h))) (fun r5 ν5 h5 => ?_) (fun _ h => h)
      obtain ⟨⟨z1, z2, z3, z4, z5⟩, zc⟩ := h5
      have p5 : PR (-1) 0 0 0 0 μ ν5 := p4.tr z1 rfl rfl rfl rfl
      have l5 := z1.2.2.2.1
      refine MC.mono (c_expect (by omega) p5.2.1 (by decide) (fun _ h => hT _ (p5.1.tr h))) (fun _ ν6 h6 => ?_) (fun _ h => h)
      obtain ⟨-, rfl, hS6⟩ := h6
      have p6 := p5.nx hS6
      have e6 := nx_at p5.2.1
      have g6 : ((nxS ν5).1 19).toInt = (ν5.1 19).toInt := rfl
      have t6 := p6.2.1.2.2.1.2
      have e68 := eq_i (p6.1.1 8 rfl)
      have at6 := p6.2.1.at
      -- the TYPE put into each of the group
      have loop : ∀ (c : Nat) (y1 y2 f : Int32) (κ : MS), JI 33 10 (h + 1) (μ.1 19).toInt (ν2.1 19).toInt (ν3.1 19).toInt κ c y1 f → 0 ≤ y1.toInt → (G κ h (bt (ν3.1 19).toInt (κ.1 19).toInt) 0 r5 ∧ κ.2.1 27 r5.toNatClampNeg = -1) → PR (-1) 0 0 0 0 μ κ → κ.1 32 = (nxS ν5).1 32 → κ.1 19 = ν5.1 19 → FJ 33 (μ.1 19).toInt (ν2.1 19).toInt (ν3.1 19).toInt ((mS1 ν2 34 r2).1 19) r5 κ y1 f →
          ME X W true d 317 75 [(0, .ref P.1), (1, .int y1), (2, .int y2), (3, .int x3), (4, .int ((mS1 ν2 34 r2).1 19)), (5, .int r5), (6, .int f)] [] P κ (fun r μ1 => PL 10 (h + 1) μ r μ1 ∧ LCO μ1 (μ.1 19).toInt (μ1.1 19).toInt r) T := by
        intro c
        induction c with
        | zero =>
          intro y1 y2 f κ hJ
          obtain ⟨⟨w1, -⟩, -, hf⟩ := hJ
          have e : f = -1 := hf
          rw [e] at w1
          exact absurd w1 (by decide)
        | succ c ihc =>
          intro y1 y2 f κ hJ hy1 ht pκ k32 k19 hF
          have f0 := hJ.1.1
          obtain ⟨⟨w1, w2⟩, w3⟩ := hJ.step ht (by decide) (by decide)
          have k32i := eq_i k32
          have k19i := eq_i k19
          have hcf := @ic f
          have pκ1 : PR (-1) 0 0 0 0 μ (mA1 κ 23 f.toNatClampNeg r5) := pκ.A rfl rfl (Or.inl (by omega))
          refine v_fields_75 _ _ _ _ _ _ ⟨fun hneg => by omega, fun _ => ⟨pκ.mi rfl rfl f0 (by omega), pκ.mi rfl rfl f0 (by omega), ?_⟩⟩
          rcases w3 with ⟨w3, w4⟩ | ⟨c', w3, w4⟩
          · rw [w3]
            refine v_fields_75 _ _ _ _ _ _ ⟨fun _ => ?_, fun hneg => absurd hneg (by decide)⟩
            exact ih _ _ _ _ (by show ((μ.1 8).toInt - (κ.1 32).toInt).toNat < j; omega) pκ1.s34 (by show (κ.1 19).toInt + _ ≤ _ + 2 * (κ.1 32).toInt; omega) (Or.inr ⟨hy1, w4.S⟩) ((hF.last f0 w1 w2 (by omega) (by omega) (by decide) (by decide) ht.1.in.1 hy1).rb (e := -1) (n := (κ.1 19).toInt) RB.S (Int.le_refl _) (Or.inl (by omega)))
          · cases w3
            exact ihc _ _ _ _ w4 hy1 ⟨ht.1.put (Or.inl (by omega)), by rw [row_off rfl]; exact ht.2⟩ pκ1 k32 k19 (hF.next f0 w1 w2)
      have raw : ∀ {κ : MS}, (∀ g, 20 ≤ g → g ≤ 27 → ∀ i : Nat, (ν2.1 19).toInt ≤ i → (i : Int) < (ν3.1 19).toInt → κ.2.1 g i = ν3.2.1 g i) → Lst (Ek κ 33 (ν2.1 19).toInt (ν3.1 19).toInt) (κ.2.1 27) m3 ((mS1 ν2 34 r2).1 19) := fun {κ} hr => Lst.mono (fun y hy => by
          obtain ⟨k1, k2, k3, k4, k5⟩ := hy
          have hcy := @ic y
          refine ⟨k1, k2, k3, by rw [hr 20 (by omega) (by omega) _ (by omega) (by omega)]; exact k4, ?_⟩
          rw [hr 27 (by omega) (by omega) _ (by omega) (by omega)]; exact k5) (fun y hy => by
          obtain ⟨k1, k2, k3, -⟩ := hy
          have hcy := @ic y
          exact hr 27 (by omega) (by omega) _ (by omega) (by omega)) hraw
      have r36 : RB (-1) (ν3.1 19).toInt ν3 (nxS ν5) := RB.tr (show RB (-1) _ ν3 (nxS ν3) from RB.S) (RB.tr (show RB (-1) (ν3.1 19).toInt (nxS ν3) ν5 from z1.2.2.2.2.1) (show RB (-1) _ ν5 (nxS ν5) from RB.S))
      have r26 : RB (-1) (ν2.1 19).toInt ν2 (nxS ν5) := RB.tr (show RB (-1) _ ν2 (mS1 ν2 34 r2) from RB.S) (RB.tr (show RB (-1) (ν2.1 19).toInt (mS1 ν2 34 r2) ν3 from q3.2.2.2.2.1) (r36.lo (by omega)))
      have gt : G (nxS ν5) h (bt (ν3.1 19).toInt ((nxS ν5).1 19).toInt) 0 r5 := G.S z4
      refine ⟨fun hx => ?_, fun hx => ?_⟩
      · rcases hL with rfl | ⟨-, hL⟩
        · exact absurd hx (by decide)
        · obtain ⟨m, na, nb, ⟨w1, w2, w3, w4, w5⟩, -⟩ := id hL
          have hc2 := @ic x2
          have l27 : ν2.2.1 27 x2.toNatClampNeg = -1 := by
            obtain ⟨_, _, _, _, _, _, w⟩ := id hL
            exact w
          have C6 : OC (nxS ν5) (μ.1 19).toInt (ν2.1 19).toInt x1 x2 := hC.rb r26 (Int.le_refl _) (Or.inl (by omega))
          have l6 : (nxS ν5).2.1 27 x2.toNatClampNeg = -1 := by rw [r26 27 (by omega) (by omega) _ (by omega) (by omega)]; exact l27
          have hF : FJ 33 (μ.1 19).toInt (ν2.1 19).toInt (ν3.1 19).toInt ((mS1 ν2 34 r2).1 19) r5 (mA1 (nxS ν5) 27 x2.toNatClampNeg ((mS1 ν2 34 r2).1 19)) x1 ((mS1 ν2 34 r2).1 19) := by
            refine ⟨?_, ?_, ⟨0, rfl⟩, ?_, ?_⟩
            · intro j j1 j2 j3
              rw [kind_link] at j3
              obtain ⟨m, hm⟩ := C6.co j j1 j2 j3
              exact ⟨m, hm.link l6⟩
            · rcases C6 with ⟨w, -⟩ | ⟨-, -, -, m, hm⟩
              · rw [w] at hx; exact absurd hx (by decide)
              · exact (Up.one (Par.fn upd_at (by omega)) (by omega) (by omega)).trans (hm.link l6)
            · intro j j1 j2
              rw [kind_link]
              exact (hKR.rb r36 (Int.le_refl _) (Or.inl (by omega))) j j1 j2
            · exact (zc.rb (e := -1) (show RB (-1) (ν5.1 19).toInt ν5 (nxS ν5) from RB.S) (Int.le_refl _) (Or.inl (by omega))).rb (e := x2.toInt) (n := (ν5.1 19).toInt) (RB.A (Or.inr (by omega))) (Int.le_refl _) (Or.inl (by show _ < (ν3.1 19).toInt; omega))
          refine ⟨p6.mi rfl rfl w5 (by omega), loop m3 _ _ _ _ ⟨⟨by omega, by omega, by omega, by show _ ≤ (ν5.1 19).toInt; omega⟩, hL.next (nb := (ν3.1 19).toInt) r26 (by omega) (by omega), raw (fun g k1 k2 i k3 k4 => ?_)⟩ hx ⟨gt.put (Or.inl (by omega)), by obtain ⟨i1, i2, i3⟩ := z4.in; have hcr := @ic r5; show upd (ν5.2.1 27) x2.toNatClampNeg _ r5.toNatClampNeg = -1; rw [upd_off (by omega)]; exact z5⟩ (p6.A rfl rfl (Or.inl (by omega))) rfl rfl hF⟩
          show (bif Nat.beq g 27 then upd ((nxS ν5).2.1 27) x2.toNatClampNeg ((mS1 ν2 34 r2).1 19) else (nxS ν5).2.1 g) i = _
          by_cases e : g = 27
          · subst e
            rw [nb_self]
            exact (upd_off (by omega)).trans (r36 27 (by omega) (by omega) i k4 (by omega))
          · rw [nb_ne e]
            exact r36 g k1 (by omega) i k4 (by omega)
      · exact loop m3 _ _ _ _ ⟨⟨by omega, by omega, by omega, by show _ ≤ (ν5.1 19).toInt; omega⟩, ⟨0, rfl⟩, raw (fun g k1 k2 i k3 k4 => r36 g k1 (by omega) i k4 (by omega))⟩ (by omega) ⟨gt, z5⟩ p6 rfl rfl ⟨by
          rcases hC with ⟨-, w⟩ | ⟨w, -⟩
          · exact NS.co (w.rb r26 (Int.le_refl _) (Or.inl (by omega)))
          · omega, ⟨0, rfl⟩, ⟨0, rfl⟩, hKR.rb r36 (Int.le_refl _) (Or.inl (by omega)), zc.rb (e := -1) (show RB (-1) (ν5.1 19).toInt ν5 (nxS ν5) from RB.S) (Int.le_refl _) (Or.inl (by show _ < (ν3.1 19).toInt; omega))⟩
  refine me_meth (by omega) rfl (v_fields_0 (key _ _ _ _ _ (Nat.lt_succ_self _) (PR.rf hS) (by omega) (Or.inl rfl) (Or.inl ⟨rfl, NS.nil (Int.le_refl _)⟩)))
end PRY
