/-! contracts of the reference: the parameters of a CALL, their parts' typing given -/
section NNBJ
variable {X : ev_X} {W : Nat → Prop} {d : Nat} {P : MP} {μ ν ν0 ν1 κ κ1 ζ : MS} {T : MS → Prop} {x y z s t q r e u v k l b p : Int32} {ρ ω η M M' : Nat → Int32} {w c : Nat} {D D1 D2 : Nat → Prop} {Q Q' : Int32 → MS → Int32 → Prop}
theorem c_parameters (hZ : TZ μ ζ) (hR : RvO μ ζ ρ) (hd : 14 ≤ d) (hu : 0 ≤ u.toInt ∧ u.toInt < (μ.1 41).toInt) {x1 : Int32} (hx1 : InN ζ x1) (bi : InN ζ b) {n : Nat} (hL : AcL X W P d μ ζ ρ ω η Q Q' n D (ζ.2.1 23 b.toNatClampNeg)) (hDb : ¬ D b.toNatClampNeg) (hP : P2 ζ ρ ω η ν) (hs : 0 ≤ (ν.2.1 25 b.toNatClampNeg).toInt → Nd ζ 8 (ν.2.1 25 b.toNatClampNeg)) :
    MC X W true (d + 1) 425 [.ref P.1, .int x1, .int b, .int u] P ν (fun _ κ1 => TyS ζ ρ ω η D ν κ1 ∧ (κ1.1 17 = 0 → 0 ≤ (ν.2.1 25 b.toNatClampNeg).toInt → ∃ k, PaS μ ζ ρ Q Q' κ1 k (ζ.2.1 22 (ν.2.1 25 b.toNatClampNeg).toNatClampNeg) (ζ.2.1 23 b.toNatClampNeg))) T := by
  have hB := hZ.1
  have hF := hP.1.1
  have bm : ∀ {g : Nat}, rk g = true → rlen g = 16000 → MI b (ν.2.2 g) := fun hg hr => in_mi hB hF bi hg hr
  refine me_meth (by omega) rfl (v_parameters_0 _ _ _ ⟨bm rfl rfl, fun h0 => ?_, fun h0 => ?_⟩)
  · obtain ⟨m, hl⟩ := sg_fo (hs h0)
    refine ⟨bm rfl rfl, (hs h0).mi hB hF rfl rfl, v_parameters_26 _ _ _ _ ⟨bm rfl rfl, ?_⟩⟩
    rw [hF.row (g := 22) rfl, hF.row (g := 23) rfl]
    exact pm_34 hZ hR hd hu hx1 bi n m D _ _ ν hL hl hP rfl hDb
  · refine v_parameters_26 _ _ _ _ ⟨bm rfl rfl, ?_⟩
    rw [hF.row (g := 23) rfl]
    exact ME.mono (pm_34 hZ hR hd hu hx1 bi n 0 D _ _ ν hL rfl hP rfl hDb) (fun _ κ1 g => ⟨g.1, fun _ h => absurd h (by omega)⟩) (fun _ h => h)
end NNBJ
