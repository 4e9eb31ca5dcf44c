/-! contracts of the reference: chains of OPERANDs, RELATIONs, their parts' typing given -/
/-- what RELATION answers -/
def RlP (ζ : MS) (ρ ω η : Nat → Int32) (D : Nat → Prop) (Q Q' : MS → Int32 → Prop) (ν : MS) (r : Int32) (κ : MS) : Prop := TyS ζ ρ ω η D ν κ ∧ ((∃ r, Q κ r) ∧ ∃ r, Q' κ r) ∧ ((r = -1 ∧ ¬ κ.1 17 = 0) ∨ r = ζ.1 86)
/-- both parts typed -/
def RlJ (ζ : MS) (ρ ω η : Nat → Int32) (D : Nat → Prop) (Q Q' : MS → Int32 → Prop) (ν : MS) (x y : Int32) (κ : MS) : Prop := TyS ζ ρ ω η D ν κ ∧ Q κ x ∧ Q' κ y
section NNBB
variable {X : ev_X} {W : Nat → Prop} {d : Nat} {P : MP} {μ ν ν0 ν1 κ ζ : MS} {T : MS → Prop} {x y z s t q r e u v k l b x4 x5 x6 : Int32} {ρ ω η M M' : Nat → Int32} {w c : Nat} {D D1 D2 : Nat → Prop} {Q Q' : MS → Int32 → Prop}
theorem c_chained (hB : TB μ ζ) (hd : 4 ≤ d) {D : Int32 → Nat → Prop} {Q : Int32 → MS → Int32 → Prop} {D0 : Nat → Prop} {m : Nat} (he : InN ζ e) (hr : RcE X W P d ζ ρ ω η (ζ.2.1 22 e.toNatClampNeg) (D (ζ.2.1 22 e.toNatClampNeg)) (Q (ζ.2.1 22 e.toNatClampNeg))) (hQ : QeT μ ζ ρ ω η (Q (ζ.2.1 22 e.toNatClampNeg))) (h0 : InN ζ (ζ.2.1 23 e.toNatClampNeg)) (hO : OpS X W P d μ ζ ρ ω η D Q m (fun a => a = ζ.2.1 22 e.toNatClampNeg) (ζ.2.1 23 e.toNatClampNeg)) (hD0 : ∀ j, D (ζ.2.1 22 e.toNatClampNeg) j → D0 j) (hD : ∀ i z, Onl (ζ.2.1 27) i (ζ.2.1 23 e.toNatClampNeg) z → 0 ≤ z.toInt → ∀ j, D (ζ.2.1 23 z.toNatClampNeg) j → D0 j) (hP : P2 ζ ρ ω η ν) :
    MC X W true (d + 1) 428 [.ref P.1, .int e] P ν (fun r κ1 => TyS ζ ρ ω η D0 ν κ1 ∧ ((∃ r, Q (ζ.2.1 22 e.toNatClampNeg) κ1 r) ∧ ∀ i z, Onl (ζ.2.1 27) i (ζ.2.1 23 e.toNatClampNeg) z → 0 ≤ z.toInt → ∃ r, Q (ζ.2.1 23 z.toNatClampNeg) κ1 r) ∧ ((r = -1 ∧ ¬ κ1.1 17 = 0) ∨ r = ζ.1 85 ∨ r = ζ.1 86)) T := by
  have hr' : RcE X W P (d + 1 - 1) ζ ρ ω η (ζ.2.1 22 e.toNatClampNeg) (D (ζ.2.1 22 e.toNatClampNeg)) (Q (ζ.2.1 22 e.toNatClampNeg)) := hr
  have hO' : OpS X W P (d + 1 - 1) μ ζ ρ ω η D Q m (fun a => a = ζ.2.1 22 e.toNatClampNeg) (ζ.2.1 23 e.toNatClampNeg) := hO
  have hF := hP.1.1
  have em : ∀ {κ : MS} {g : Nat}, TF ζ κ → rk g = true → rlen g = 16000 → MI e (κ.2.2 g) := fun hF hg hr => in_mi hB hF he hg hr
  have lp : ∀ (x2 r1 x4 : Int32) (κ : MS), TyS ζ ρ ω η D0 ν κ → Q (ζ.2.1 22 e.toNatClampNeg) κ r1 → MI e (κ.2.2 23) ∧ ME X W true (d + 1 - 1) 428 76 [(0, .ref P.1), (1, .int e), (2, .int x2), (3, .int r1), (4, .int x4), (5, .int (κ.2.1 23 e.toNatClampNeg))] [] P κ (fun r κ1 => TyS ζ ρ ω η D0 ν κ1 ∧ ((∃ r, Q (ζ.2.1 22 e.toNatClampNeg) κ1 r) ∧ ∀ i z, Onl (ζ.2.1 27) i (ζ.2.1 23 e.toNatClampNeg) z → 0 ≤ z.toInt → ∃ r, Q (ζ.2.1 23 z.toNatClampNeg) κ1 r) ∧ ((r = -1 ∧ ¬ κ1.1 17 = 0) ∨ r = ζ.1 85 ∨ r = ζ.1 86)) T := fun x2 r1 x4 κ hT hq => by
    refine ⟨em hT.1.1.1 rfl rfl, ?_⟩
    rw [hT.1.1.1.row (g := 23) rfl]
    refine ME.mono (ch_76 hB (by omega) he m _ r1 x4 _ κ hO' hD (fun a ha => ?_) hT) (fun r κ1 g => ⟨g.1, ⟨g.2.1.1 _ rfl, g.2.1.2⟩, g.2.2⟩) (fun _ h => h)
    have ha : a = ζ.2.1 22 e.toNatClampNeg := ha
    rw [ha]
    exact ⟨hQ, r1, hq⟩
  refine me_meth (by omega) rfl (v_chained_0 _ ?_)
  rw [hF.row (g := 23) rfl, hF.row (g := 22) rfl]
  refine ⟨em hF rfl rfl, in_mi hB hF h0 rfl rfl, fun _ => ⟨em hF rfl rfl, MC.mono (hr' ν _ hP) (fun r1 κ hκ => ?_) (fun _ h => h)⟩, fun _ => ⟨em hF rfl rfl, in_mi hB hF h0 rfl rfl, fun _ => ⟨em hF rfl rfl, MC.mono (hr' ν _ hP) (fun r1 κ hκ => ?_) (fun _ h => h)⟩, fun _ => ⟨em hF rfl rfl, MC.mono (hr' ν _ hP) (fun r1 κ hκ => ?_) (fun _ h => h)⟩⟩⟩
  · obtain ⟨hT, hq⟩ := hκ
    refine MC.mono (c_isKind hB hT.1.1.1 (by omega) (hQ.1 _ _ hq)) (fun r2 κ1 h1 => ?_) (fun _ h => h)
    have e1 := h1.1.symm
    subst e1
    exact lp _ _ _ _ (hT.up hD0) hq
  · obtain ⟨hT, hq⟩ := hκ
    refine MC.mono (c_isInteger hB hT.1.1.1 (by omega) (hQ.1 _ _ hq)) (fun r2 κ1 h1 => ?_) (fun _ h => h)
    have e1 := h1.1.symm
    subst e1
    exact lp _ _ _ _ (hT.up hD0) hq
  · obtain ⟨hT, hq⟩ := hκ
    refine MC.mono (c_isKind hB hT.1.1.1 (by omega) (hQ.1 _ _ hq)) (fun r2 κ1 h1 => ?_) (fun _ h => h)
    have e1 := h1.1.symm
    subst e1
    exact lp _ _ _ _ (hT.up hD0) hq
theorem rl_223 (hB : TB μ ζ) (hd : 2 ≤ d) (he : InN ζ e) (hQ : QeT μ ζ ρ ω η Q) (hQ' : QeT μ ζ ρ ω η Q') (hJ : RlJ ζ ρ ω η D Q Q' ν x y κ) : ME X W true d 429 223 [(0, .ref P.1), (1, .int e), (2, .int x), (3, .int y), (4, .int x4), (5, .int x5)] [] P κ (RlP ζ ρ ω η D Q Q' ν) T := by
  obtain ⟨hT, h1, h2⟩ := hJ
  refine v_relationType_223 _ _ _ _ _ ⟨fun _ => MC.mono (c_wrong hB hT.1.1.1 hd (by decide) he) (fun r κ1 g => ?_) (fun _ h => h), fun _ => ⟨hT, ⟨⟨x, h1⟩, y, h2⟩, Or.inr (hT.1.1.1.1.1 86 rfl)⟩⟩
  have hq3 := q3_flt hT.1 g.2.1 g.2.2
  exact ⟨hT.tr hq3.ts, ⟨⟨x, hQ.2 _ _ _ hq3 h1⟩, y, hQ'.2 _ _ _ hq3 h2⟩, Or.inl ⟨g.1, g.2.2⟩⟩
theorem rl_164 (hZ : TZ μ ζ) (hY : TY μ ζ) (hR : RvO μ ζ ρ) (hd : 13 ≤ d) (he : InN ζ e) (hQ : QeT μ ζ ρ ω η Q) (hQ' : QeT μ ζ ρ ω η Q') (hJ : RlJ ζ ρ ω η D Q Q' ν x y κ) (h6 : ¬ x6 = 0 → (x = -2 ∨ 0 ≤ x.toInt) ∧ (y = -2 ∨ 0 ≤ y.toInt)) : ME X W true d 429 164 [(0, .ref P.1), (1, .int e), (2, .int x), (3, .int y), (4, .int x4), (5, .int x5), (6, .int x6)] [] P κ (RlP ζ ρ ω η D Q Q' ν) T := by
  have hB := hZ.1
  have f16 : ∀ (x5 x6 : Int32) (κ : MS), RlJ ζ ρ ω η D Q Q' ν x y κ → ME X W true d 429 216 [(0, .ref P.1), (1, .int e), (2, .int x), (3, .int y), (4, .int x4), (5, .int x5), (6, .int x6)] [] P κ (RlP ζ ρ ω η D Q Q' ν) T := fun _ _ κ h => v_relationType_216 _ _ _ _ _ _ (rl_223 hB (by omega) he hQ hQ' h)
  have f20 : ∀ (x5 x6 : Int32) (κ : MS), RlJ ζ ρ ω η D Q Q' ν x y κ → ME X W true d 429 220 [(0, .ref P.1), (1, .int e), (2, .int x), (3, .int y), (4, .int x4), (5, .int x5), (6, .int x6)] [] P κ (RlP ζ ρ ω η D Q Q' ν) T := fun _ _ κ h => v_relationType_220 _ _ _ _ _ _ (rl_223 hB (by omega) he hQ hQ' h)
  have hu := hY.2.2.1 e he
  refine v_relationType_164 _ _ _ _ _ _ ⟨fun _ => f16 _ _ _ hJ, fun _ => ⟨fun _ => f20 _ _ _ hJ, fun n6 => ⟨fun _ => f16 _ _ _ hJ, fun nx => ⟨fun _ => f16 _ _ _ hJ, fun ny => ?_⟩⟩⟩⟩
  obtain ⟨hx, hy⟩ := h6 n6
  obtain ⟨hT, h1, h2⟩ := hJ
  have hF := hT.1.1.1
  have xr : RT μ ζ x := (hQ.1 _ _ h1).rt (hx.resolve_left nx)
  have yr : RT μ ζ y := (hQ'.1 _ _ h2).rt (hy.resolve_left ny)
  refine ⟨in_mi hB hF he rfl rfl, ?_⟩
  rw [hF.row (g := 29) rfl]
  refine MC.mono (q2_below hZ (Q2.rf hT.1) hR hd hu xr yr) (fun r1 κ1 g1 => ?_) (fun _ h => h)
  have hJ1 : RlJ ζ ρ ω η D Q Q' ν x y κ1 := ⟨hT.tr g1.1.q3.ts, hQ.2 _ _ _ g1.1.q3 h1, hQ'.2 _ _ _ g1.1.q3 h2⟩
  have hF1 := g1.1.1.1.1
  refine ⟨fun _ => f16 _ _ _ hJ1, fun _ => ⟨in_mi hB hF1 he rfl rfl, ?_⟩⟩
  rw [hF1.row (g := 29) rfl]
  refine MC.mono (q2_below hZ (Q2.rf g1.1.1) hR hd hu yr xr) (fun r2 κ2 g2 => ?_) (fun _ h => h)
  have hJ2 : RlJ ζ ρ ω η D Q Q' ν x y κ2 := ⟨hJ1.1.tr g2.1.q3.ts, hQ.2 _ _ _ g2.1.q3 hJ1.2.1, hQ'.2 _ _ _ g2.1.q3 hJ1.2.2⟩
  exact ⟨fun _ => f20 _ _ _ hJ2, fun _ => f16 _ _ _ hJ2⟩
theorem rl_121 (hZ : TZ μ ζ) (hY : TY μ ζ) (hR : RvO μ ζ ρ) (hd : 13 ≤ d) (he : InN ζ e) (hQ : QeT μ ζ ρ ω η Q) (hQ' : QeT μ ζ ρ ω η Q') (hJ : RlJ ζ ρ ω η D Q Q' ν x y κ) : ME X W true d 429 121 [(0, .ref P.1), (1, .int e), (2, .int x), (3, .int y), (4, .int x4), (5, .int x5)] [] P κ (RlP ζ ρ ω η D Q Q' ν) T := by
  have hB := hZ.1
  have hF := hJ.1.1.1.1
  have no : ME X W true d 429 161 [(0, .ref P.1), (1, .int e), (2, .int x), (3, .int y), (4, .int x4), (5, .int x5)] [] P κ (RlP ζ ρ ω η D Q Q' ν) T := v_relationType_161 _ _ _ _ _ (rl_164 hZ hY hR hd he hQ hQ' hJ (fun h => absurd rfl h))
  have yes : (x = -2 ∨ 0 ≤ x.toInt) ∧ (y = -2 ∨ 0 ≤ y.toInt) → ME X W true d 429 157 [(0, .ref P.1), (1, .int e), (2, .int x), (3, .int y), (4, .int x4), (5, .int x5)] [] P κ (RlP ζ ρ ω η D Q Q' ν) T := fun h => v_relationType_157 _ _ _ _ _ (rl_164 hZ hY hR hd he hQ hQ' hJ (fun _ => h))
  have f39 : (x = -2 ∨ 0 ≤ x.toInt) → ME X W true d 429 139 [(0, .ref P.1), (1, .int e), (2, .int x), (3, .int y), (4, .int x4), (5, .int x5)] [] P κ (RlP ζ ρ ω η D Q Q' ν) T := fun hx => by
    refine v_relationType_139 _ _ _ _ _ ⟨fun h => yes ⟨hx, Or.inl h⟩, fun _ => ⟨fun _ => no, fun h0 => MC.mono (c_isReference hF (by omega) (((hQ'.1 _ _ hJ.2.2).rt h0).mi hB hF rfl rfl)) (fun r1 κ1 h1 => ?_) (fun _ h => h)⟩⟩
    have e1 := h1.1.symm
    subst e1
    exact ⟨fun _ => no, fun _ => yes ⟨hx, Or.inr h0⟩⟩
  refine v_relationType_121 _ _ _ _ _ ⟨fun h => f39 (Or.inl h), fun _ => ⟨fun _ => no, fun h0 => MC.mono (c_isReference hF (by omega) (((hQ.1 _ _ hJ.2.1).rt h0).mi hB hF rfl rfl)) (fun r1 κ1 h1 => ?_) (fun _ h => h)⟩⟩
  have e1 := h1.1.symm
  subst e1
  exact ⟨fun _ => no, fun _ => f39 (Or.inr h0)⟩
theorem rl_51 (hZ : TZ μ ζ) (hY : TY μ ζ) (hR : RvO μ ζ ρ) (hd : 13 ≤ d) (he : InN ζ e) (hQ : QeT μ ζ ρ ω η Q) (hQ' : QeT μ ζ ρ ω η Q') (hJ : RlJ ζ ρ ω η D Q Q' ν x y κ) : ME X W true d 429 51 [(0, .ref P.1), (1, .int e), (2, .int x), (3, .int y), (4, .int x4)] [] P κ (RlP ζ ρ ω η D Q Q' ν) T := by
  have hB := hZ.1
  have hF := hJ.1.1.1.1
  have vx := hQ.1 _ _ hJ.2.1
  have vy := hQ'.1 _ _ hJ.2.2
  have g14 : ∀ (x5 : Int32), ME X W true d 429 114 [(0, .ref P.1), (1, .int e), (2, .int x), (3, .int y), (4, .int x4), (5, .int x5)] [] P κ (RlP ζ ρ ω η D Q Q' ν) T := fun _ => v_relationType_114 _ _ _ _ _ (rl_121 hZ hY hR hd he hQ hQ' hJ)
  have g18 : ∀ (x5 : Int32), ME X W true d 429 118 [(0, .ref P.1), (1, .int e), (2, .int x), (3, .int y), (4, .int x4), (5, .int x5)] [] P κ (RlP ζ ρ ω η D Q Q' ν) T := fun _ => v_relationType_118 _ _ _ _ _ (rl_121 hZ hY hR hd he hQ hQ' hJ)
  have g74 : ∀ (x5 : Int32), ME X W true d 429 74 [(0, .ref P.1), (1, .int e), (2, .int x), (3, .int y), (4, .int x4), (5, .int x5)] [] P κ (RlP ζ ρ ω η D Q Q' ν) T := fun x5 => by
    refine v_relationType_74 _ _ _ _ _ ⟨fun _ => rl_223 hB (by omega) he hQ hQ' hJ, fun _ => ⟨fun _ => rl_223 hB (by omega) he hQ hQ' hJ, fun _ => ⟨fun _ => g14 _, fun _ => ⟨fun _ => g14 _, fun _ => MC.mono (c_isKind hB hF (by omega) vx) (fun r1 κ1 h1 => ?_) (fun _ h => h)⟩⟩⟩⟩
    have e1 := h1.1.symm
    subst e1
    refine ⟨fun _ => g18 _, fun _ => MC.mono (c_isKind hB hF (by omega) vy) (fun r2 κ1 h1 => ?_) (fun _ h => h)⟩
    have e1 := h1.1.symm
    subst e1
    exact ⟨fun _ => g18 _, fun _ => g14 _⟩
  refine v_relationType_51 _ _ _ _ (MC.mono (c_isInteger hB hF (by omega) vx) (fun r1 κ1 h1 => ?_) (fun _ h => h))
  have e1 := h1.1.symm
  subst e1
  refine ⟨fun _ => v_relationType_71 _ _ _ _ (g74 _), fun _ => MC.mono (c_isInteger hB hF (by omega) vy) (fun r2 κ1 h1 => ?_) (fun _ h => h)⟩
  have e1 := h1.1.symm
  subst e1
  exact ⟨fun _ => v_relationType_71 _ _ _ _ (g74 _), fun _ => g74 _⟩
theorem c_relationType (hZ : TZ μ ζ) (hY : TY μ ζ) (hR : RvO μ ζ ρ) (hd : 13 ≤ d) (he : InN ζ e) (h1 : RcE X W P d ζ ρ ω η (ζ.2.1 22 e.toNatClampNeg) D1 Q) (h2 : RcE X W P d ζ ρ ω η (ζ.2.1 23 e.toNatClampNeg) D2 Q') (hQ : QeT μ ζ ρ ω η Q) (hQ' : QeT μ ζ ρ ω η Q') (hs : QeS ζ ρ ω η D2 Q) (hD1 : ∀ j, D1 j → D j) (hD2 : ∀ j, D2 j → D j) (hP : P2 ζ ρ ω η ν) : MC X W true (d + 1) 429 [.ref P.1, .int e] P ν (RlP ζ ρ ω η D Q Q' ν) T := by
  have h1' : RcE X W P (d + 1 - 1) ζ ρ ω η (ζ.2.1 22 e.toNatClampNeg) D1 Q := h1
  have h2' : RcE X W P (d + 1 - 1) ζ ρ ω η (ζ.2.1 23 e.toNatClampNeg) D2 Q' := h2
  have hB := hZ.1
  have hF := hP.1.1
  refine me_meth (by omega) rfl (v_relationType_0 _ ⟨in_mi hB hF he rfl rfl, ?_⟩)
  rw [hF.row (g := 22) rfl]
  refine MC.mono (h1' ν _ hP) (fun r1 κ hκ => ?_) (fun _ h => h)
  obtain ⟨hT, hq⟩ := hκ
  have hF1 := hT.1.1.1
  refine ⟨in_mi hB hF1 he rfl rfl, ?_⟩
  rw [hF1.row (g := 23) rfl]
  refine MC.mono (h2' κ _ hT.1) (fun r2 κ2 hκ => ?_) (fun _ h => h)
  obtain ⟨hT2, hq2⟩ := hκ
  have hF2 := hT2.1.1.1
  have hJ : RlJ ζ ρ ω η D Q Q' ν r1 r2 κ2 := ⟨(hT.up hD1).tr (hT2.up hD2), hs _ _ _ hT2 hq, hq2⟩
  have go : ∀ (x4 : Int32), ME X W true (d + 1 - 1) 429 51 [(0, .ref P.1), (1, .int e), (2, .int r1), (3, .int r2), (4, .int x4)] [] P κ2 (RlP ζ ρ ω η D Q Q' ν) T := fun _ => rl_51 hZ hY hR (by omega) he hQ hQ' hJ
  exact ⟨in_mi hB hF2 he rfl rfl, fun _ => v_relationType_44 _ _ _ (go _), fun _ => ⟨in_mi hB hF2 he rfl rfl, fun _ => go _, fun _ => v_relationType_44 _ _ _ (go _)⟩⟩
end NNBB
