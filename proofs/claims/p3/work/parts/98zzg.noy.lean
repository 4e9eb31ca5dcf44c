/-! contracts of the reference: a PLACE as a whole, its parts' typing given -/
/-- the TYPE that a PLACE begins with -/
def bsV (ζ : MS) (p : Int32) : Int32 := if ζ.2.1 24 p.toNatClampNeg = 1 then ζ.2.1 87 (ζ.2.1 28 p.toNatClampNeg).toNatClampNeg else if ζ.2.1 53 (ζ.2.1 28 p.toNatClampNeg).toNatClampNeg = 4 ∨ (ζ.2.1 54 (ζ.2.1 28 p.toNatClampNeg).toNatClampNeg).toInt < 0 then ζ.1 85 else rlV ζ (ζ.2.1 54 (ζ.2.1 28 p.toNatClampNeg).toNatClampNeg)
/-- a PLACE's name means a variable or a PROCEDURE -/
def PlB (μ ζ : MS) (p : Int32) : Prop := (InN ζ p ∧ ζ.2.1 20 p.toNatClampNeg = 70) ∧ (0 ≤ (ζ.2.1 28 p.toNatClampNeg).toInt ∧ (ζ.2.1 28 p.toNatClampNeg).toInt < 3200) ∧ (ζ.2.1 24 p.toNatClampNeg = 1 → RT μ ζ (ζ.2.1 87 (ζ.2.1 28 p.toNatClampNeg).toNatClampNeg)) ∧ (¬ ζ.2.1 24 p.toNatClampNeg = 1 → 0 ≤ (ζ.2.1 54 (ζ.2.1 28 p.toNatClampNeg).toNatClampNeg).toInt → Nd ζ 0 (ζ.2.1 54 (ζ.2.1 28 p.toNatClampNeg).toNatClampNeg)) ∧ RT μ ζ (ζ.1 85)
section NNBG
variable {X : ev_X} {W : Nat → Prop} {d : Nat} {P : MP} {μ ν ν0 ν1 κ κ1 ζ : MS} {T : MS → Prop} {x y z s t t' q r e u v k l b p x2 : Int32} {ρ ω η M M' : Nat → Int32} {w c : Nat} {D D1 D2 : Nat → Prop} {Q : Int32 → MS → Int32 → Prop}
theorem p2_91 (h : P2 ζ ρ ω η ν) : P2 ζ ρ ω η (mS1 ν 91 x) := by
  have k : kf [91] [] ν (mS1 ν 91 x) := kf.rf.S rfl
  obtain ⟨⟨a1, a2⟩, a3, a4⟩ := h
  exact ⟨⟨a1.kf k rfl rfl, JK.eq (ν := ν) rfl (fun _ _ => rfl) rfl a2⟩, a3, a4⟩
theorem ts_91 (h : P2 ζ ρ ω η ν) : TyS ζ ρ ω η D ν (mS1 ν 91 (-1)) := ⟨p2_91 h, ⟨fun g => g, kf.rf.S rfl, KP.rf⟩, fun _ _ _ _ => rfl, fun _ => Or.inl rfl⟩
theorem PlB.rt (hB : TB μ ζ) (h : PlB μ ζ p) : RT μ ζ (bsV ζ p) := by
  obtain ⟨-, -, h1, h2, h3⟩ := h
  unfold bsV
  by_cases c : ζ.2.1 24 p.toNatClampNeg = 1
  · rw [if_pos c]; exact h1 c
  · rw [if_neg c]
    by_cases c2 : ζ.2.1 53 (ζ.2.1 28 p.toNatClampNeg).toNatClampNeg = 4 ∨ (ζ.2.1 54 (ζ.2.1 28 p.toNatClampNeg).toNatClampNeg).toInt < 0
    · rw [if_pos c2]; exact h3
    · rw [if_neg c2]; exact rl_rt hB (h2 c (Int.not_lt.mp (fun h => c2 (Or.inr h))))
theorem c_typePlace (hZ : TZ μ ζ) (hY : TY μ ζ) (hC : HoC μ ζ η) (hR : RvO μ ζ ρ) (hg : ag ζ η ∧ bg ζ) (hall : NoRs ζ ρ) (hd : 1255 ≤ d) {n : Nat} (hb : PlB μ ζ p) (hL : SxL X W P d μ ζ ρ ω η Q p n D (ζ.2.1 26 p.toNatClampNeg)) (hP : P2 ζ ρ ω η ν) :
    MC X W true (d + 2) 419 [.ref P.1, .int p, .int x2] P ν (fun r κ1 => TyS ζ ρ ω η (fun j => D j ∨ j = p.toNatClampNeg) ν κ1 ∧ PlE μ ζ ρ ω η Q p D (ζ.2.1 26 p.toNatClampNeg) (bsV ζ p) (mS1 ν 91 (-1)) r κ1) T := by
  have hB := hZ.1
  have hF := hP.1.1
  have hLr := hF.1.2.2
  have rt := hb.rt hB
  obtain ⟨⟨hp, kp⟩, ⟨v0, v1⟩, h1, h2, h3⟩ := hb
  have kS : sfx (ζ.2.1 20 p.toNatClampNeg) = false := by rw [kp]; rfl
  have e24 : ∀ {κ : MS}, TF ζ κ → κ.2.1 24 p.toNatClampNeg = ζ.2.1 24 p.toNatClampNeg := fun h => h.k24 (Or.inl rfl) kS
  have e26 : ∀ {κ : MS}, TF ζ κ → κ.2.1 26 p.toNatClampNeg = ζ.2.1 26 p.toNatClampNeg := fun h => h.k24 (Or.inr (Or.inr rfl)) kS
  have e28 : ν.2.1 28 p.toNatClampNeg = ζ.2.1 28 p.toNatClampNeg := hF.k28 kp (by decide)
  have s85 : ν.1 85 = ζ.1 85 := hF.1.1 85 rfl
  have hP1 : P2 ζ ρ ω η (mS1 ν 91 (-1)) := p2_91 hP
  have hF1 := hP1.1.1
  have go : ∀ (t : Int32), t = bsV ζ p → ME X W true (d + 1) 419 100 [(0, .ref P.1), (1, .int p), (2, .int x2), (3, .int t), (4, .int (ζ.2.1 29 p.toNatClampNeg))] [] P (mS1 ν 91 (-1)) (fun r κ1 => TyS ζ ρ ω η (fun j => D j ∨ j = p.toNatClampNeg) ν κ1 ∧ PlE μ ζ ρ ω η Q p D (ζ.2.1 26 p.toNatClampNeg) (bsV ζ p) (mS1 ν 91 (-1)) r κ1) T := fun t et => by
    subst et
    refine v_typePlace_100 _ _ _ _ ⟨in_mi hB hF1 hp rfl rfl, ?_⟩
    rw [e26 hF1]
    exact ME.mono (pl_108 hZ hY hC hR hg hall hd (hY.2.2.1 p hp) hp kp n D _ _ _ hL (Or.inr rt) hP1) (fun r κ1 g => ⟨(ts_91 hP).tr g.1, g⟩) (fun _ h => h)
  refine me_meth (by omega) rfl (v_typePlace_0 _ _ ?_)
  rw [e24 hF, e28, s85, hF.row (g := 53) rfl, hF.row (g := 54) rfl, hF.row (g := 87) rfl, hF.row (g := 29) rfl]
  have m28 : MI p (ν.2.2 28) := in_mi hB hF hp rfl rfl
  have mv : ∀ {g : Nat}, rk g = true → rlen g = 3200 → MI (ζ.2.1 28 p.toNatClampNeg) (ν.2.2 g) := fun hg hr => MI.of (hLr.g hg hr) v0 (by omega)
  refine ⟨in_mi hB hF hp rfl rfl, in_mi hB hF hp rfl rfl, fun n1 => ⟨m28, mv rfl rfl, fun n4 => ⟨m28, mv rfl rfl, fun h0 => ⟨m28, mv rfl rfl, ?_⟩, fun h0 => go _ ?_⟩, fun k4 => go _ ?_⟩, fun k1 => ⟨m28, mv rfl rfl, go _ ?_⟩⟩
  · refine MC.mono (c_real hB hF1 (by omega) (h2 n1 h0)) (fun r1 κ hκ => ?_) (fun _ h => h)
    obtain ⟨e1, e2, -⟩ := hκ
    have e1 := e1.symm
    subst e1
    refine go _ ?_
    rw [e2]
    unfold bsV
    rw [if_neg n1, if_neg (fun h => h.elim n4 (fun h => by omega))]
  · unfold bsV
    rw [if_neg n1, if_pos (Or.inr h0)]
  · unfold bsV
    rw [if_neg n1, if_pos (Or.inl k4)]
  · unfold bsV
    rw [if_pos k1]
end NNBG
