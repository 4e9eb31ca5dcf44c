/-! contracts of the reference: a program parsed, and some nodes more -/
section NNU
variable {X : ev_X} {W : Nat → Prop} {d : Nat} {P : MP} {μ μ1 ν κ ζ : MS} {T : MS → Prop}
theorem PT.two (h : PT μ) : PT2 μ := by
  obtain ⟨hS, hu, -, h19, hG, h29, hC, c, V, V0, hU, hc, hV⟩ := h
  exact ⟨_, hS.1, hu, hS.at, ⟨hS.2.2.2.2.1, Int.le_refl _, by have := hS.at.2; omega⟩, hG, fun j hj => ⟨(h29 j hj).1, (h29 j hj).2.1⟩, fun j hj => (h29 j hj).2.2, hC, c, V, V0, hU, hc, hV⟩
theorem PT2.cg (h : PT2 μ) (hL : μ1.2.2 = μ.2.2) (e41 : μ1.1 41 = μ.1 41) (e32 : μ1.1 32 = μ.1 32) (h19 : (μ.1 19).toInt ≤ (μ1.1 19).toInt ∧ (μ1.1 19).toInt ≤ 12100) (hr : RB (-1) (μ.1 19).toInt μ μ1) (e42 : μ1.2.1 42 = μ.2.1 42) (hn : ∀ j : Nat, (μ.1 19).toInt ≤ j → (j : Int) < (μ1.1 19).toInt → μ1.2.1 28 j = -1 ∧ sp (μ1.2.1 20 j) = false) : PT2 μ1 := by
  obtain ⟨N, h1, h2, h3, ⟨n0, n1, n2⟩, hG, h29, h28, hC, c, V, V0, hU, hc, hV⟩ := h
  have r : ∀ g, 20 ≤ g → g ≤ 31 → ∀ j : Nat, (j : Int) < (μ.1 19).toInt → μ1.2.1 g j = μ.2.1 g j := fun g g1 g2 j hj => hr g g1 g2 j hj (by omega)
  refine ⟨N, by rw [hL]; exact h1, by rw [e41]; exact h2, by rw [e32]; exact h3, ⟨n0, by omega, h19.2⟩, fun i hi => ?_, fun j hj => ?_, fun j hj => ?_, fun j hj hs => ?_, c, V, V0, fun i hi => ?_, by rw [e41]; exact hc, by rw [e41, e32]; exact hV⟩
  · rw [e41] at hi
    rw [e42]
    exact G.mono (hG i hi) (Nat.le_refl _) (fun _ h => h) (fun g g1 g2 j hj => r g g1 (by omega) j (by omega)) (fun j hj _ => r 27 (by omega) (by omega) j (by omega))
  · rw [r 29 (by omega) (by omega) j (by omega), e41]
    exact h29 j hj
  · by_cases c : (j : Int) < (μ.1 19).toInt
    · rw [r 28 (by omega) (by omega) j c]; exact h28 j c
    · exact (hn j (by omega) hj).1
  · by_cases c : (j : Int) < (μ.1 19).toInt
    · rw [r 20 (by omega) (by omega) j c] at hs
      obtain ⟨i, hi, m, hm⟩ := hC j c hs
      exact ⟨i, by rw [e41]; exact hi, m, by rw [e42]; exact Up.rb hr n1 (Or.inl (by omega)) hm⟩
    · rw [(hn j (by omega) hj).2] at hs; exact absurd hs (by decide)
  · rw [e41] at hi
    obtain ⟨a1, a2, a3⟩ := hU i hi
    refine ⟨a1, a2, ?_⟩
    rw [e42]
    exact PK.ag (Nat.le_refl _) (Nat.le_refl _) (RB.ag hr (by omega) (Or.inl (by omega))) a3
/-- one node more, of a kind that nobody looks for -/
theorem c_more {k : Int32} (hd : 2 ≤ d) (hS : PS μ) (h : PT2 μ) (hn : (μ.1 19).toInt < 12100) (hk : sp k = false) : MC X W true d 292 [.ref P.1, .int k, .int (-1), .int (-1)] P μ (fun r μ1 => r = μ.1 19 ∧ PS μ1 ∧ PT2 μ1 ∧ (μ1.1 19).toInt = (μ.1 19).toInt + 1 ∧ ND μ1 (μ.1 19).toNatClampNeg k (-1) (-1) (-1) (-1) (-1) (-1) ∧ RB (-1) (μ.1 19).toInt μ μ1 ∧ kf SPA RPA μ μ1) T := by
  refine MC.mono (c_node hd hS (by omega)) (fun r μ1 hm => ?_) (fun _ h => h)
  obtain ⟨hr, hR, e19, e32, -, hN⟩ := hm
  have hR2 := hR
  obtain ⟨k1, k2, -, -, k5, -, -, -, -, k9⟩ := hR2
  have h0 := hS.2.2.2.2.1
  have hc := @ic (μ.1 19)
  refine ⟨hr, k2, h.cg k1.2.2 (k1.1 41 rfl) e32 ⟨by omega, by omega⟩ k5 (k1.2.1 42 rfl) (fun j j1 j2 => ?_), e19, hN, k5, k1⟩
  rcases k9 j j2 with ⟨a, -⟩ | ⟨-, -, b⟩
  · omega
  · refine ⟨b, ?_⟩
    rw [show j = (μ.1 19).toNatClampNeg by omega, hN.1]
    exact hk
end NNU
