/-! contracts of the reference: EXPRESSIONs that are no PLACEs, their parts' typing given -/
/-- what a part must be -/
def PaP (Q : MS → Int32 → Prop) (K : Int32 → Prop) (κ : MS) : Prop := ∃ r, Q κ r ∧ (κ.1 17 = 0 → K r)
section NNBC
variable {X : ev_X} {W : Nat → Prop} {d : Nat} {P : MP} {μ ν ν0 ν1 κ ζ : MS} {T : MS → Prop} {x y z s t q r e u v k l b : Int32} {ρ ω η M M' : Nat → Int32} {w c : Nat} {D D1 D2 : Nat → Prop} {Q Q' : MS → Int32 → Prop}
theorem te_75 (hB : TB μ ζ) (hF : TF ζ ν) (hd : 1 ≤ d) (he : InN ζ e) (hk : ζ.2.1 20 e.toNatClampNeg = 75) : MC X W true d 427 [.ref P.1, .int e] P ν (fun r κ1 => κ1 = ν ∧ r = ζ.1 85) T := by
  refine me_meth (by omega) rfl (v_typeInE_0 _ ⟨in_mi hB hF he rfl rfl, ?_⟩)
  rw [hF.row (g := 20) rfl, hk]
  exact ⟨fun _ => ⟨rfl, hF.1.1 85 rfl⟩, fun h => absurd h (by decide), fun h => absurd h (by decide), fun h => absurd h (by decide), fun h => absurd h (by decide), fun h => absurd h (by decide), fun h => absurd h (by decide), fun h => absurd h (by decide), fun h => absurd h (by decide), fun h => absurd rfl (h 75 (by decide))⟩
theorem te_76 (hB : TB μ ζ) (hF : TF ζ ν) (hd : 1 ≤ d) (he : InN ζ e) (hk : ζ.2.1 20 e.toNatClampNeg = 76) : MC X W true d 427 [.ref P.1, .int e] P ν (fun r κ1 => κ1 = ν ∧ r = ζ.1 86) T := by
  refine me_meth (by omega) rfl (v_typeInE_0 _ ⟨in_mi hB hF he rfl rfl, ?_⟩)
  rw [hF.row (g := 20) rfl, hk]
  exact ⟨fun h => absurd h (by decide), fun _ => ⟨rfl, hF.1.1 86 rfl⟩, fun h => absurd h (by decide), fun h => absurd h (by decide), fun h => absurd h (by decide), fun h => absurd h (by decide), fun h => absurd h (by decide), fun h => absurd h (by decide), fun h => absurd h (by decide), fun h => absurd rfl (h 76 (by decide))⟩
theorem te_77 (hB : TB μ ζ) (hF : TF ζ ν) (hd : 1 ≤ d) (he : InN ζ e) (hk : ζ.2.1 20 e.toNatClampNeg = 77) : MC X W true d 427 [.ref P.1, .int e] P ν (fun r κ1 => κ1 = ν ∧ r = ζ.1 86) T := by
  refine me_meth (by omega) rfl (v_typeInE_0 _ ⟨in_mi hB hF he rfl rfl, ?_⟩)
  rw [hF.row (g := 20) rfl, hk]
  exact ⟨fun h => absurd h (by decide), fun _ => ⟨rfl, hF.1.1 86 rfl⟩, fun h => absurd h (by decide), fun h => absurd h (by decide), fun h => absurd h (by decide), fun h => absurd h (by decide), fun h => absurd h (by decide), fun h => absurd h (by decide), fun h => absurd h (by decide), fun h => absurd rfl (h 77 (by decide))⟩
theorem te_78 (hB : TB μ ζ) (hF : TF ζ ν) (hd : 1 ≤ d) (he : InN ζ e) (hk : ζ.2.1 20 e.toNatClampNeg = 78) : MC X W true d 427 [.ref P.1, .int e] P ν (fun r κ1 => κ1 = ν ∧ r = -2) T := by
  refine me_meth (by omega) rfl (v_typeInE_0 _ ⟨in_mi hB hF he rfl rfl, ?_⟩)
  rw [hF.row (g := 20) rfl, hk]
  exact ⟨fun h => absurd h (by decide), fun h => absurd h (by decide), fun _ => ⟨rfl, rfl⟩, fun h => absurd h (by decide), fun h => absurd h (by decide), fun h => absurd h (by decide), fun h => absurd h (by decide), fun h => absurd h (by decide), fun h => absurd h (by decide), fun h => absurd rfl (h 78 (by decide))⟩
theorem te_85 (hB : TB μ ζ) (hd : 4 ≤ d) (he : InN ζ e) (hk : ζ.2.1 20 e.toNatClampNeg = 85) (hr : RcE X W P d ζ ρ ω η (ζ.2.1 22 e.toNatClampNeg) D Q) (hQ : QeT μ ζ ρ ω η Q) (hP : P2 ζ ρ ω η ν) : MC X W true (d + 1) 427 [.ref P.1, .int e] P ν (fun r κ1 => TyS ζ ρ ω η D ν κ1 ∧ PaP Q (fun r => VK ζ r 22) κ1 ∧ ((r = -1 ∧ ¬ κ1.1 17 = 0) ∨ r = ζ.1 86)) T := by
  have hr' : RcE X W P (d + 1 - 1) ζ ρ ω η (ζ.2.1 22 e.toNatClampNeg) D Q := hr
  have hF := hP.1.1
  refine me_meth (by omega) rfl (v_typeInE_0 _ ⟨in_mi hB hF he rfl rfl, ?_⟩)
  rw [hF.row (g := 20) rfl, hk]
  refine ⟨fun h => absurd h (by decide), fun h => absurd h (by decide), fun h => absurd h (by decide), fun h => absurd h (by decide), fun h => absurd h (by decide), fun h => absurd h (by decide), fun h => absurd h (by decide), fun _ => ⟨in_mi hB hF he rfl rfl, ?_⟩, fun h => absurd h (by decide), fun h => absurd rfl (h 85 (by decide))⟩
  rw [hF.row (g := 22) rfl]
  refine MC.mono (hr' ν _ hP) (fun r1 κ hκ => ?_) (fun _ h => h)
  obtain ⟨hT, hq⟩ := hκ
  have hF1 := hT.1.1.1
  refine MC.mono (c_isKind hB hF1 (by omega) (hQ.1 _ _ hq)) (fun r2 κ1 h1 => ?_) (fun _ h => h)
  obtain ⟨e1, -, h2⟩ := h1
  have e1 := e1.symm
  subst e1
  refine ⟨fun _ => MC.mono (c_wrong hB hF1 (by omega) (by decide) he) (fun r κ1 g => ?_) (fun _ h => h), fun h => ⟨hT, ⟨r1, hq, fun _ => h2.1 h⟩, Or.inr (hF1.1.1 86 rfl)⟩⟩
  have hq3 := q3_flt hT.1 g.2.1 g.2.2
  exact ⟨hT.tr hq3.ts, ⟨r1, hQ.2 _ _ _ hq3 hq, fun h => absurd h g.2.2⟩, Or.inl ⟨g.1, g.2.2⟩⟩
theorem te_86 (hB : TB μ ζ) (hd : 4 ≤ d) (he : InN ζ e) (hk : ζ.2.1 20 e.toNatClampNeg = 86) (hr : RcE X W P d ζ ρ ω η (ζ.2.1 22 e.toNatClampNeg) D Q) (hQ : QeT μ ζ ρ ω η Q) (hP : P2 ζ ρ ω η ν) : MC X W true (d + 1) 427 [.ref P.1, .int e] P ν (fun r κ1 => TyS ζ ρ ω η D ν κ1 ∧ PaP Q (VI ζ) κ1 ∧ ((r = -1 ∧ ¬ κ1.1 17 = 0) ∨ r = ζ.1 85)) T := by
  have hr' : RcE X W P (d + 1 - 1) ζ ρ ω η (ζ.2.1 22 e.toNatClampNeg) D Q := hr
  have hF := hP.1.1
  refine me_meth (by omega) rfl (v_typeInE_0 _ ⟨in_mi hB hF he rfl rfl, ?_⟩)
  rw [hF.row (g := 20) rfl, hk]
  refine ⟨fun h => absurd h (by decide), fun h => absurd h (by decide), fun h => absurd h (by decide), fun h => absurd h (by decide), fun h => absurd h (by decide), fun h => absurd h (by decide), fun h => absurd h (by decide), fun h => absurd h (by decide), fun _ => ⟨in_mi hB hF he rfl rfl, ?_⟩, fun h => absurd rfl (h 86 (by decide))⟩
  rw [hF.row (g := 22) rfl]
  refine MC.mono (hr' ν _ hP) (fun r1 κ hκ => ?_) (fun _ h => h)
  obtain ⟨hT, hq⟩ := hκ
  have hF1 := hT.1.1.1
  refine MC.mono (c_isInteger hB hF1 (by omega) (hQ.1 _ _ hq)) (fun r2 κ1 h1 => ?_) (fun _ h => h)
  obtain ⟨e1, -, h2⟩ := h1
  have e1 := e1.symm
  subst e1
  refine ⟨fun _ => MC.mono (c_wrong hB hF1 (by omega) (by decide) he) (fun r κ1 g => ?_) (fun _ h => h), fun h => ⟨hT, ⟨r1, hq, fun _ => h2.1 h⟩, Or.inr (hF1.1.1 85 rfl)⟩⟩
  have hq3 := q3_flt hT.1 g.2.1 g.2.2
  exact ⟨hT.tr hq3.ts, ⟨r1, hQ.2 _ _ _ hq3 hq, fun h => absurd h g.2.2⟩, Or.inl ⟨g.1, g.2.2⟩⟩
theorem te_80 (hZ : TZ μ ζ) (hY : TY μ ζ) (hR : RvO μ ζ ρ) (hd : 14 ≤ d) (he : InN ζ e) (hk : ζ.2.1 20 e.toNatClampNeg = 80) (hr : RcE X W P d ζ ρ ω η (ζ.2.1 22 e.toNatClampNeg) D Q) (hQ : QeT μ ζ ρ ω η Q) (hn : Nd ζ 0 (ζ.2.1 23 e.toNatClampNeg)) (hP : P2 ζ ρ ω η ν) : MC X W true (d + 1) 427 [.ref P.1, .int e] P ν (fun r κ1 => TyS ζ ρ ω η D ν κ1 ∧ PaP Q (fun r => r = -1 ∨ r = -2 ∨ Ob ζ r) κ1 ∧ ((r = -1 ∧ ¬ κ1.1 17 = 0) ∨ (Ob ζ (rlV ζ (ζ.2.1 23 e.toNatClampNeg)) ∧ r = ζ.1 86))) T := by
  have hr' : RcE X W P (d + 1 - 1) ζ ρ ω η (ζ.2.1 22 e.toNatClampNeg) D Q := hr
  have hB := hZ.1
  have hF := hP.1.1
  refine me_meth (by omega) rfl (v_typeInE_0 _ ⟨in_mi hB hF he rfl rfl, ?_⟩)
  rw [hF.row (g := 20) rfl, hk]
  refine ⟨fun h => absurd h (by decide), fun h => absurd h (by decide), fun h => absurd h (by decide), fun h => absurd h (by decide), fun _ => ⟨in_mi hB hF he rfl rfl, ?_⟩, fun h => absurd h (by decide), fun h => absurd h (by decide), fun h => absurd h (by decide), fun h => absurd h (by decide), fun h => absurd rfl (h 80 (by decide))⟩
  rw [hF.row (g := 22) rfl]
  refine MC.mono (hr' ν _ hP) (fun r4 κ hκ => ?_) (fun _ h => h)
  obtain ⟨hT, hq⟩ := hκ
  have hF1 := hT.1.1.1
  refine ⟨in_mi hB hF1 he rfl rfl, ?_⟩
  rw [hF1.row (g := 23) rfl]
  refine MC.mono (c_real hB hF1 (by omega) hn) (fun r5 κ5 h5 => ?_) (fun _ h => h)
  obtain ⟨e1, e5, rt5⟩ := h5
  have e1 := e1.symm
  subst e1
  subst e5
  refine ⟨in_mi hB hF1 he rfl rfl, ?_⟩
  rw [hF1.row (g := 29) rfl]
  refine MC.mono (c_objects hZ hT.1 hR (by omega) (hY.2.2.1 e he) (hQ.1 _ _ hq) rt5 he) (fun r6 κ6 h6 => ?_) (fun _ h => h)
  obtain ⟨o1, -, o3, o4⟩ := h6
  have hT6 := hT.tr o1.q3.ts
  have hF6 := hT6.1.1.1
  have hq6 := hQ.2 _ _ _ o1.q3 hq
  refine ⟨fun hn => ⟨in_mi hB hF6 he rfl rfl, fun h => ?_, fun _ => ⟨hT6, ⟨r4, hq6, fun _ => (o4 hn).2⟩, Or.inr ⟨(o4 hn).1, hF6.1.1 86 rfl⟩⟩⟩, fun h0 => ⟨hT6, ⟨r4, hq6, fun h => absurd h (o3 h0)⟩, Or.inl ⟨rfl, o3 h0⟩⟩⟩
  rw [hF6.row (g := 20) rfl] at h; exact absurd hk h
theorem te_81 (hZ : TZ μ ζ) (hY : TY μ ζ) (hR : RvO μ ζ ρ) (hd : 14 ≤ d) (he : InN ζ e) (hk : ζ.2.1 20 e.toNatClampNeg = 81) (hr : RcE X W P d ζ ρ ω η (ζ.2.1 22 e.toNatClampNeg) D Q) (hQ : QeT μ ζ ρ ω η Q) (hn : Nd ζ 0 (ζ.2.1 23 e.toNatClampNeg)) (hP : P2 ζ ρ ω η ν) : MC X W true (d + 1) 427 [.ref P.1, .int e] P ν (fun r κ1 => TyS ζ ρ ω η D ν κ1 ∧ PaP Q (fun r => r = -1 ∨ r = -2 ∨ Ob ζ r) κ1 ∧ ((r = -1 ∧ ¬ κ1.1 17 = 0) ∨ (Ob ζ (rlV ζ (ζ.2.1 23 e.toNatClampNeg)) ∧ r = rlV ζ (ζ.2.1 23 e.toNatClampNeg)))) T := by
  have hr' : RcE X W P (d + 1 - 1) ζ ρ ω η (ζ.2.1 22 e.toNatClampNeg) D Q := hr
  have hB := hZ.1
  have hF := hP.1.1
  refine me_meth (by omega) rfl (v_typeInE_0 _ ⟨in_mi hB hF he rfl rfl, ?_⟩)
  rw [hF.row (g := 20) rfl, hk]
  refine ⟨fun h => absurd h (by decide), fun h => absurd h (by decide), fun h => absurd h (by decide), fun h => absurd h (by decide), fun _ => ⟨in_mi hB hF he rfl rfl, ?_⟩, fun h => absurd h (by decide), fun h => absurd h (by decide), fun h => absurd h (by decide), fun h => absurd h (by decide), fun h => absurd rfl (h 81 (by decide))⟩
  rw [hF.row (g := 22) rfl]
  refine MC.mono (hr' ν _ hP) (fun r4 κ hκ => ?_) (fun _ h => h)
  obtain ⟨hT, hq⟩ := hκ
  have hF1 := hT.1.1.1
  refine ⟨in_mi hB hF1 he rfl rfl, ?_⟩
  rw [hF1.row (g := 23) rfl]
  refine MC.mono (c_real hB hF1 (by omega) hn) (fun r5 κ5 h5 => ?_) (fun _ h => h)
  obtain ⟨e1, e5, rt5⟩ := h5
  have e1 := e1.symm
  subst e1
  subst e5
  refine ⟨in_mi hB hF1 he rfl rfl, ?_⟩
  rw [hF1.row (g := 29) rfl]
  refine MC.mono (c_objects hZ hT.1 hR (by omega) (hY.2.2.1 e he) (hQ.1 _ _ hq) rt5 he) (fun r6 κ6 h6 => ?_) (fun _ h => h)
  obtain ⟨o1, -, o3, o4⟩ := h6
  have hT6 := hT.tr o1.q3.ts
  have hF6 := hT6.1.1.1
  have hq6 := hQ.2 _ _ _ o1.q3 hq
  refine ⟨fun hn => ⟨in_mi hB hF6 he rfl rfl, fun _ => ⟨hT6, ⟨r4, hq6, fun _ => (o4 hn).2⟩, Or.inr ⟨(o4 hn).1, rfl⟩⟩, fun h => ?_⟩, fun h0 => ⟨hT6, ⟨r4, hq6, fun h => absurd h (o3 h0)⟩, Or.inl ⟨rfl, o3 h0⟩⟩⟩
  rw [hF6.row (g := 20) rfl, hk] at h; exact absurd h (by decide)
theorem te_82 (hB : TB μ ζ) (hd : 4 ≤ d) {D : Int32 → Nat → Prop} {Q : Int32 → MS → Int32 → Prop} {D0 : Nat → Prop} {m : Nat} (he : InN ζ e) (hk : ζ.2.1 20 e.toNatClampNeg = 82) (hr : RcE X W P d ζ ρ ω η (ζ.2.1 22 e.toNatClampNeg) (D (ζ.2.1 22 e.toNatClampNeg)) (Q (ζ.2.1 22 e.toNatClampNeg))) (hQ : QeT μ ζ ρ ω η (Q (ζ.2.1 22 e.toNatClampNeg))) (h0 : InN ζ (ζ.2.1 23 e.toNatClampNeg)) (hO : OpS X W P d μ ζ ρ ω η D Q m (fun a => a = ζ.2.1 22 e.toNatClampNeg) (ζ.2.1 23 e.toNatClampNeg)) (hD0 : ∀ j, D (ζ.2.1 22 e.toNatClampNeg) j → D0 j) (hD : ∀ i z, Onl (ζ.2.1 27) i (ζ.2.1 23 e.toNatClampNeg) z → 0 ≤ z.toInt → ∀ j, D (ζ.2.1 23 z.toNatClampNeg) j → D0 j) (hP : P2 ζ ρ ω η ν) :
    MC X W true (d + 2) 427 [.ref P.1, .int e] P ν (fun r κ1 => TyS ζ ρ ω η D0 ν κ1 ∧ ((∃ r, Q (ζ.2.1 22 e.toNatClampNeg) κ1 r) ∧ ∀ i z, Onl (ζ.2.1 27) i (ζ.2.1 23 e.toNatClampNeg) z → 0 ≤ z.toInt → ∃ r, Q (ζ.2.1 23 z.toNatClampNeg) κ1 r) ∧ ((r = -1 ∧ ¬ κ1.1 17 = 0) ∨ r = ζ.1 85 ∨ r = ζ.1 86)) T := by
  have hF := hP.1.1
  refine me_meth (by omega) rfl (v_typeInE_0 _ ⟨in_mi hB hF he rfl rfl, ?_⟩)
  rw [hF.row (g := 20) rfl, hk]
  exact ⟨fun h => absurd h (by decide), fun h => absurd h (by decide), fun h => absurd h (by decide), fun h => absurd h (by decide), fun h => absurd h (by decide), fun _ => MC.mono (c_chained hB hd he hr hQ h0 hO hD0 hD hP) (fun _ _ g => g) (fun _ h => h), fun h => absurd h (by decide), fun h => absurd h (by decide), fun h => absurd h (by decide), fun h => absurd rfl (h 82 (by decide))⟩
theorem te_84 (hZ : TZ μ ζ) (hY : TY μ ζ) (hR : RvO μ ζ ρ) (hd : 13 ≤ d) (he : InN ζ e) (hk : ζ.2.1 20 e.toNatClampNeg = 84) (h1 : RcE X W P d ζ ρ ω η (ζ.2.1 22 e.toNatClampNeg) D1 Q) (h2 : RcE X W P d ζ ρ ω η (ζ.2.1 23 e.toNatClampNeg) D2 Q') (hQ : QeT μ ζ ρ ω η Q) (hQ' : QeT μ ζ ρ ω η Q') (hs : QeS ζ ρ ω η D2 Q) (hD1 : ∀ j, D1 j → D j) (hD2 : ∀ j, D2 j → D j) (hP : P2 ζ ρ ω η ν) : MC X W true (d + 2) 427 [.ref P.1, .int e] P ν (RlP ζ ρ ω η D Q Q' ν) T := by
  have hB := hZ.1
  have hF := hP.1.1
  refine me_meth (by omega) rfl (v_typeInE_0 _ ⟨in_mi hB hF he rfl rfl, ?_⟩)
  rw [hF.row (g := 20) rfl, hk]
  exact ⟨fun h => absurd h (by decide), fun h => absurd h (by decide), fun h => absurd h (by decide), fun h => absurd h (by decide), fun h => absurd h (by decide), fun h => absurd h (by decide), fun _ => MC.mono (c_relationType hZ hY hR hd he h1 h2 hQ hQ' hs hD1 hD2 hP) (fun _ _ g => g) (fun _ h => h), fun h => absurd h (by decide), fun h => absurd h (by decide), fun h => absurd rfl (h 84 (by decide))⟩
end NNBC
