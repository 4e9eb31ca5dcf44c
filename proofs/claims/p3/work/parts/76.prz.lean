/-! contracts of the reference: FORMALs under way -/
theorem HI.rows {s h : Nat} {n0 : Int} {ν ν1 : MS} {x1 x2 : Int32} (hH : HI s h n0 ν x1 x2) (hr : ν1.2.1 = ν.2.1) (hn : ν1.1 19 = ν.1 19) : HI s h n0 ν1 x1 x2 := by
  obtain ⟨m, na, nb, h1, hP, hG, hl⟩ := hH
  unfold HI
  rw [hn, hr]
  exact ⟨m, na, nb, h1, Px.mono (ν := ν) (fun _ _ h => h) (Int.le_refl _) (fun g _ _ _ j _ _ _ => by rw [hr]) hP, G.mono hG (Nat.le_refl _) (fun _ h => h) (fun g _ _ j _ => by rw [hr]) (fun j _ _ => by rw [hr]), hl⟩
/-- FORMALs so far; a group of them under way from x7 to x4 -/
def MJ (h : Nat) (n0 : Int) (ν : MS) (x3 x4 x7 : Int32) : Prop := (x7 = -1 ∧ (x3 = -1 ∨ (0 ≤ x3.toInt ∧ HI 9 h n0 ν x3 x4))) ∨
  (0 ≤ x7.toInt ∧ 0 ≤ x3.toInt ∧ ∃ (na : Int) (m q : Nat), (n0 ≤ na ∧ na ≤ x7.toInt ∧ 0 ≤ na) ∧ Px ν 9 h n0 na (ν.1 19).toInt (ν.1 19).toInt (x7.toInt - 1) m x3 x7 ∧ Cq ν 13 na x4.toInt q x7 x4 ∧ (na ≤ x4.toInt ∧ x4.toInt < (ν.1 19).toInt) ∧ (x7.toInt ≤ x4.toInt) ∧ ν.2.1 20 x4.toNatClampNeg = 13 ∧ ν.2.1 27 x4.toNatClampNeg = -1)
theorem MJ.rows {h : Nat} {n0 : Int} {ν ν1 : MS} {x3 x4 x7 : Int32} (hM : MJ h n0 ν x3 x4 x7) (hr : ν1.2.1 = ν.2.1) (hn : ν1.1 19 = ν.1 19) : MJ h n0 ν1 x3 x4 x7 := by
  rcases hM with ⟨h1, h2 | ⟨h2, h3⟩⟩ | ⟨h1, h2, na, m, q, h3, h4, h5, h6, h7, h8, h9⟩
  · exact Or.inl ⟨h1, Or.inl h2⟩
  · exact Or.inl ⟨h1, Or.inr ⟨h2, h3.rows hr hn⟩⟩
  · refine Or.inr ⟨h1, h2, na, m, q, h3, ?_, ?_, by rw [hn]; exact h6, h7, by rw [hr]; exact h8, by rw [hr]; exact h9⟩
    · rw [hn]; exact Px.mono (ν := ν) (fun _ _ h => h) (Int.le_refl _) (fun g _ _ _ j _ _ _ => by rw [hr]) h4
    · exact Cq.rb (μ := ν) (e := -1) (n := x4.toInt) (fun g _ _ i _ _ => by rw [hr]) (Int.le_refl _) (Or.inl (by omega)) h5
/-- one more: made, then linked behind the last -/
theorem MJ.add {h : Nat} {n0 : Int} {ν ν1 : MS} {x3 x4 x7 f : Int32} (hM : MJ h n0 ν x3 x4 x7) (hx : 0 ≤ x3.toInt) (h0 : 0 ≤ n0) (hr : RB (-1) (ν.1 19).toInt ν ν1) (hf : f = ν.1 19) (hf0 : 0 ≤ f.toInt) (hn : (ν1.1 19).toInt = (ν.1 19).toInt + 1) (hk : ν1.2.1 20 f.toNatClampNeg = 13) (hl : ν1.2.1 27 f.toNatClampNeg = -1) (hn0 : n0 ≤ (ν.1 19).toInt) :
    (0 ≤ x4.toInt ∧ n0 ≤ x4.toInt ∧ x4.toInt < (ν.1 19).toInt) ∧ ∀ y, (y = x7 ∧ 0 ≤ x7.toInt) ∨ (y = f ∧ x7 = -1) → MJ h n0 (mA1 ν1 27 x4.toNatClampNeg f) x3 f y := by
  have hcf := @ic f
  have hfi : f.toInt = (ν.1 19).toInt := by rw [hf]
  rcases hM with ⟨h1, h2 | ⟨h2, h3⟩⟩ | ⟨h1, h2, na, m, q, ⟨h3, h3', h3''⟩, h4, h5, ⟨h6, h6'⟩, h7, h8, h9⟩
  · rw [h2] at hx
    exact absurd hx (by decide)
  · have hb := h3
    obtain ⟨m, na, nb, ⟨w1, w2, w3, w4, w5⟩, -⟩ := hb
    refine ⟨⟨w5, by omega, by omega⟩, fun y hy => ?_⟩
    rcases hy with ⟨rfl, hy⟩ | ⟨rfl, -⟩
    · rw [h1] at hy; exact absurd hy (by decide)
    · have hc4 := @ic x4
      obtain ⟨m2, hP⟩ := h3.next (nb := (ν1.1 19).toInt) (r := y) hr (by omega) (by omega)
      refine Or.inr ⟨hf0, hx, (ν.1 19).toInt, m2, 0, ⟨by omega, by omega, by omega⟩, hP, rfl, ⟨by omega, by show _ < (ν1.1 19).toInt; omega⟩, Int.le_refl _, hk, ?_⟩
      show upd (ν1.2.1 27) x4.toNatClampNeg y y.toNatClampNeg = -1
      rw [upd_off (by omega)]; exact hl
  · have hc4 := @ic x4
    have hc7 := @ic x7
    refine ⟨⟨by omega, by omega, h6'⟩, fun y hy => ?_⟩
    rcases hy with ⟨rfl, hy⟩ | ⟨rfl, hy⟩
    · have rows : ∀ g, 20 ≤ g → g ≤ 27 → ∀ j : Nat, (j : Int) < (ν.1 19).toInt → j ≠ x4.toNatClampNeg → (mA1 ν1 27 x4.toNatClampNeg f).2.1 g j = ν.2.1 g j := fun g k1 k2 j hj hne => by
        show (bif Nat.beq g 27 then upd (ν1.2.1 27) x4.toNatClampNeg f else ν1.2.1 g) j = _
        by_cases e : g = 27
        · subst e
          rw [nb_self]
          exact (upd_off hne).trans (hr 27 (by omega) (by omega) j hj (by omega))
        · rw [nb_ne e]
          exact hr g k1 (by omega) j hj (by omega)
      refine Or.inr ⟨h1, h2, na, m, q + 1, ⟨h3, h3', h3''⟩, ?_, ?_, ⟨by omega, by show _ < (ν1.1 19).toInt; omega⟩, by omega, hk, ?_⟩
      · show Px (mA1 ν1 27 x4.toNatClampNeg f) 9 h n0 na (ν1.1 19).toInt (ν1.1 19).toInt (y.toInt - 1) m x3 y
        exact h4.mono (fun a j hj => ⟨⟨hj.1.1, by have := hj.1.2; omega⟩, by have := hj.1.2; have := hj.2; omega⟩) (Int.le_refl _) (fun g k1 k2 a j ha0 ha hj => rows g k1 k2 j hj.1.2 (by have hca := @ic a; have := hj.1.2; have := hj.2; omega))
      · have c1 : Cq (mA1 ν1 27 x4.toNatClampNeg f) 13 na x4.toInt q y x4 := Cq.rb (μ := ν) (e := -1) (n := x4.toInt) (fun g k1 k2 i k3 k4 => by
            by_cases e : g ≤ 27
            · exact rows g k1 e i (by omega) (by omega)
            · show (bif Nat.beq g 27 then upd (ν1.2.1 27) x4.toNatClampNeg f else ν1.2.1 g) i = _
              rw [nb_ne (by omega)]
              exact hr g k1 k2 i (by omega) k4) (Int.le_refl _) (Or.inl (by omega)) h5
        refine Cq.snoc (by omega) c1 ⟨by omega, h6, by omega, ?_, Or.inr ?_⟩ upd_at
        · show ν1.2.1 20 x4.toNatClampNeg = 13
          rw [hr 20 (by omega) (by omega) _ (by omega) (by omega)]; exact h8
        · show _ < (upd (ν1.2.1 27) x4.toNatClampNeg f x4.toNatClampNeg).toInt
          rw [upd_at]; omega
      · show upd (ν1.2.1 27) x4.toNatClampNeg f f.toNatClampNeg = -1
        rw [upd_off (by omega)]; exact hl
    · rw [hy] at h1
      exact absurd h1 (by decide)
