/-! contracts of the reference: a PLACE that is put into -/
/-- such a PLACE, or a FAULT -/
def TgE (μ ζ : MS) (ρ ω η : Nat → Int32) (Q : Int32 → MS → Int32 → Prop) (p : Int32) (D : Nat → Prop) (ν : MS) (r : Int32) (κ : MS) : Prop := TyS ζ ρ ω η (fun j => D j ∨ j = p.toNatClampNeg) ν κ ∧ ((r = -1 ∧ ¬ κ.1 17 = 0) ∨ (PlE μ ζ ρ ω η Q p D (ζ.2.1 26 p.toNatClampNeg) (bsV ζ p) (mS1 ν 91 (-1)) r κ ∧ ((ζ.2.1 26 p.toNatClampNeg).toInt < 0 → ¬ ζ.2.1 24 p.toNatClampNeg = 1 ∧ (ζ.2.1 24 p.toNatClampNeg = 0 → ¬ ζ.2.1 53 (ζ.2.1 28 p.toNatClampNeg).toNatClampNeg = 4))))
section NNBH
variable {X : ev_X} {W : Nat → Prop} {d : Nat} {P : MP} {μ ν ν0 ν1 κ κ1 ζ : MS} {T : MS → Prop} {x y z s t t' q r e u v k l b p x2 : Int32} {ρ ω η M M' : Nat → Int32} {w c : Nat} {D D1 D2 : Nat → Prop} {Q : Int32 → MS → Int32 → Prop}
theorem c_target (hZ : TZ μ ζ) (hY : TY μ ζ) (hC : HoC μ ζ η) (hR : RvO μ ζ ρ) (hg : ag ζ η ∧ bg ζ) (hall : NoRs ζ ρ) (hd : 1255 ≤ d) {n : Nat} (hb : PlB μ ζ p) (hL : SxL X W P d μ ζ ρ ω η Q p n D (ζ.2.1 26 p.toNatClampNeg)) (hP : P2 ζ ρ ω η ν) :
    MC X W true (d + 3) 418 [.ref P.1, .int p] P ν (fun r κ1 => TgE μ ζ ρ ω η Q p D ν r κ1) T := by
  have hB := hZ.1
  have hF := hP.1.1
  have hLr := hF.1.2.2
  obtain ⟨⟨hp, kp⟩, ⟨v0, v1⟩, -⟩ := id hb
  have kS : sfx (ζ.2.1 20 p.toNatClampNeg) = false := by rw [kp]; rfl
  have e24 : ν.2.1 24 p.toNatClampNeg = ζ.2.1 24 p.toNatClampNeg := hF.k24 (Or.inl rfl) kS
  have e26 : ν.2.1 26 p.toNatClampNeg = ζ.2.1 26 p.toNatClampNeg := hF.k24 (Or.inr (Or.inr rfl)) kS
  have e28 : ν.2.1 28 p.toNatClampNeg = ζ.2.1 28 p.toNatClampNeg := hF.k28 kp (by decide)
  have m : ∀ {g : Nat}, rk g = true → rlen g = 16000 → MI p (ν.2.2 g) := fun hg hr => in_mi hB hF hp hg hr
  have mv : MI (ζ.2.1 28 p.toNatClampNeg) (ν.2.2 53) := MI.of (hLr.g rfl rfl : _ = 3200) v0 (by omega)
  have tp : ∀ {R : Int32 → MS → Prop}, (∀ r κ1, TyS ζ ρ ω η (fun j => D j ∨ j = p.toNatClampNeg) ν κ1 → PlE μ ζ ρ ω η Q p D (ζ.2.1 26 p.toNatClampNeg) (bsV ζ p) (mS1 ν 91 (-1)) r κ1 → R r κ1) → MC X W true (d + 2) 419 [.ref P.1, .int p, .int 0] P ν R (fun _ => False) := fun h => MC.mono (c_typePlace hZ hY hC hR hg hall hd hb hL hP) (fun r κ1 g => h r κ1 g.1 g.2) (fun _ h => h)
  have bad : MC X W true (d + 2) 419 [.ref P.1, .int p, .int 0] P ν (fun _ μ6 => (MI p (μ6.2.2 30) ∧ MC X W true (d + 2) 290 [.ref P.1, .int 14, .int (μ6.2.1 30 p.toNatClampNeg)] P μ6 (fun _ μ7 => TgE μ ζ ρ ω η Q p D ν (-1) μ7) (fun _ => False))) (fun _ => False) := tp (fun r κ1 g1 _ => ⟨in_mi hB g1.1.1.1 hp rfl rfl, MC.mono (c_ruF (by omega) (by decide)) (fun _ κ2 g => ⟨g1.tr (q3_flt g1.1 g.1 g.2).ts, Or.inl ⟨rfl, g.2⟩⟩) (fun _ h => h)⟩)
  have ok : ((ζ.2.1 26 p.toNatClampNeg).toInt < 0 → ¬ ζ.2.1 24 p.toNatClampNeg = 1 ∧ (ζ.2.1 24 p.toNatClampNeg = 0 → ¬ ζ.2.1 53 (ζ.2.1 28 p.toNatClampNeg).toNatClampNeg = 4)) → MC X W true (d + 2) 419 [.ref P.1, .int p, .int 0] P ν (fun r κ1 => TgE μ ζ ρ ω η Q p D ν r κ1) (fun _ => False) := fun h => tp (fun r κ1 g1 g2 => ⟨g1, Or.inr ⟨g2, h⟩⟩)
  refine me_meth (by omega) rfl (v_target_0 _ ?_)
  rw [e24, e26, e28, hF.row (g := 53) rfl]
  refine ⟨m rfl rfl, fun n1 => ⟨m rfl rfl, fun n0 => ok (fun _ => ⟨n1, fun h => absurd h n0⟩), fun _ => ⟨m rfl rfl, mv, fun n4 => ok (fun _ => ⟨n1, fun _ => n4⟩), fun _ => ⟨m rfl rfl, fun h0 => ok (fun h => absurd h (by omega)), fun _ => bad⟩⟩⟩, fun k1 => ⟨m rfl rfl, fun _ => bad, fun h0 => ⟨m rfl rfl, fun _ => ok (fun h => absurd h (by omega)), fun k0 => ?_⟩⟩⟩
  exfalso
  rw [k1] at k0
  exact absurd k0 (by decide)
end NNBH
