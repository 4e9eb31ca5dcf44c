/-! contracts of the reference: NEW; the TYPE kept; what hangs behind a PLACE -/
/-- TYPEs that NEW makes -/
def NwK (ζ : MS) (x : Int32) : Prop := ζ.2.1 20 x.toNatClampNeg = 30 ∨ ζ.2.1 20 x.toNatClampNeg = 23 ∨ ζ.2.1 20 x.toNatClampNeg = 24 ∨ Ob ζ x
/-- one suffix of a PLACE: from a TYPE to the next -/
def SfR (μ ζ : MS) (ρ : Nat → Int32) (ν κ : MS) (y t l t' : Int32) : Prop := (t = -1 ∧ t' = -1) ∨ (¬ t = -1 ∧
  ((ζ.2.1 20 y.toNatClampNeg = 73 ∧ κ.1 91 = ν.1 91 ∧ ((t' = -1 ∧ ¬ κ.1 17 = 0) ∨ (ζ.2.1 20 t.toNatClampNeg = 30 ∧ t' = rlV ζ (ζ.2.1 22 t.toNatClampNeg)))) ∨
   (ζ.2.1 20 y.toNatClampNeg = 72 ∧ κ.1 91 = ν.1 91 ∧ ((t' = -1 ∧ ¬ κ.1 17 = 0) ∨ (ζ.2.1 20 t.toNatClampNeg = 28 ∧ κ.2.1 28 y.toNatClampNeg = t ∧ (κ.2.1 25 y.toNatClampNeg = cvV ζ (κ.2.1 81) (ζ.2.1 24 t.toNatClampNeg) ∧ 0 ≤ (κ.2.1 25 y.toNatClampNeg).toInt) ∧ t' = rlV ζ (ζ.2.1 24 t.toNatClampNeg)))) ∨
   (ζ.2.1 20 y.toNatClampNeg = 71 ∧ DtR μ ζ ρ y t l ν t' κ)))
section NNBD
variable {X : ev_X} {W : Nat → Prop} {d : Nat} {P : MP} {μ ν ν0 ν1 κ ζ : MS} {T : MS → Prop} {x y z s t q r e u v k l b : Int32} {ρ ω η M M' : Nat → Int32} {w c : Nat} {D D1 D2 : Nat → Prop} {Q Q' : MS → Int32 → Prop}
theorem te_79 (hZ : TZ μ ζ) (hY : TY μ ζ) (hR : RvO μ ζ ρ) (hop : ∀ w e, DcO μ w e → DcC ζ ρ e) (hd : 7 ≤ d) (he : InN ζ e) (hk : ζ.2.1 20 e.toNatClampNeg = 79) (hn : Nd ζ 0 (ζ.2.1 22 e.toNatClampNeg)) (hP : P2 ζ ρ ω η ν) : MC X W true d 427 [.ref P.1, .int e] P ν (fun r κ1 => TyS ζ ρ ω η D ν κ1 ∧ ((r = -1 ∧ ¬ κ1.1 17 = 0) ∨ (NwK ζ (rlV ζ (ζ.2.1 22 e.toNatClampNeg)) ∧ r = rlV ζ (ζ.2.1 22 e.toNatClampNeg)))) T := by
  have hB := hZ.1
  have hF := hP.1.1
  have h16 := hB.n16
  refine me_meth (by omega) rfl (v_typeInE_0 _ ⟨in_mi hB hF he rfl rfl, ?_⟩)
  rw [hF.row (g := 20) rfl, hk]
  refine ⟨fun h => absurd h (by decide), fun h => absurd h (by decide), fun h => absurd h (by decide), fun _ => ⟨in_mi hB hF he rfl rfl, ?_⟩, fun h => absurd h (by decide), fun h => absurd h (by decide), fun h => absurd h (by decide), fun h => absurd h (by decide), fun h => absurd h (by decide), fun h => absurd rfl (h 79 (by decide))⟩
  rw [hF.row (g := 22) rfl]
  refine MC.mono (c_real hB hF (by omega) hn) (fun r1 κ h1 => ?_) (fun _ h => h)
  obtain ⟨e1, e2, rt⟩ := h1
  have e1 := e1.symm
  subst e1
  subst e2
  have m20 := rt.mi (g := 20) hB hF rfl rfl
  have yes : NwK ζ (rlV ζ (ζ.2.1 22 e.toNatClampNeg)) → ME X W true (d - 1) 427 162 [(0, .ref P.1), (1, .int e), (2, .int (rlV ζ (ζ.2.1 22 e.toNatClampNeg)))] [] P ν (fun r κ1 => TyS ζ ρ ω η D ν κ1 ∧ ((r = -1 ∧ ¬ κ1.1 17 = 0) ∨ (NwK ζ (rlV ζ (ζ.2.1 22 e.toNatClampNeg)) ∧ r = rlV ζ (ζ.2.1 22 e.toNatClampNeg)))) T := fun h => v_typeInE_162 _ _ (v_typeInE_168 _ _ _ ⟨fun h => absurd h (by decide), fun _ => ⟨TyS.rf hP, Or.inr ⟨h, rfl⟩⟩⟩)
  have nope : ME X W true (d - 1) 427 166 [(0, .ref P.1), (1, .int e), (2, .int (rlV ζ (ζ.2.1 22 e.toNatClampNeg)))] [] P ν (fun r κ1 => TyS ζ ρ ω η D ν κ1 ∧ ((r = -1 ∧ ¬ κ1.1 17 = 0) ∨ (NwK ζ (rlV ζ (ζ.2.1 22 e.toNatClampNeg)) ∧ r = rlV ζ (ζ.2.1 22 e.toNatClampNeg)))) T := v_typeInE_166 _ _ (v_typeInE_168 _ _ _ ⟨fun _ => MC.mono (c_wrong hB hF (by omega) (by decide) he) (fun _ _ g => ⟨(q3_flt hP g.2.1 g.2.2).ts, Or.inl ⟨g.1, g.2.2⟩⟩) (fun _ h => h), fun h => absurd rfl h⟩)
  rw [hF.row (g := 20) rfl]
  refine ⟨m20, fun h => yes (Or.inl h), fun _ => ⟨m20, fun h => yes (Or.inr (Or.inl h)), fun _ => ⟨m20, fun h => yes (Or.inr (Or.inr (Or.inl h))), fun _ => MC.mono (c_isObject hF (by omega) m20) (fun r2 κ h2 => ?_) (fun _ h => h)⟩⟩⟩
  obtain ⟨e1, e2⟩ := h2
  have e1 := e1.symm
  subst e1
  refine ⟨fun _ => nope, fun h0 => ⟨m20, ?_⟩⟩
  have ob : Ob ζ (rlV ζ (ζ.2.1 22 e.toNatClampNeg)) := obV_n (by rw [← e2]; exact h0)
  rw [hF.row (g := 20) rfl]
  refine ⟨fun _ => yes (Or.inr (Or.inr (Or.inr ob))), fun h4 => ⟨in_mi hB hF he rfl rfl, rt.mi hB hF rfl rfl, ?_⟩⟩
  rw [hF.row (g := 29) rfl, hP.2.1.1]
  have hu := hY.2.2.1 e he
  have h0 : 0 ≤ (ρ (rlV ζ (ζ.2.1 22 e.toNatClampNeg)).toNatClampNeg).toInt := by
    rcases rt with h | h
    · have kk := h.1.kind
      rw [h4] at kk
      exact absurd kk (by decide)
    · obtain ⟨⟨w, hw⟩, -⟩ := h
      exact (hop w _ hw).1 h4
  obtain ⟨⟨⟨i0, i1⟩, -⟩, -⟩ := hR.lv hB rt h0
  refine MC.mono (c_sees hB hF (by omega) hu.1 hu.2 i0 i1) (fun r3 κ h3 => ?_) (fun _ h => h)
  have e1 := h3.1.symm
  subst e1
  exact ⟨fun _ => nope, fun _ => yes (Or.inr (Or.inr (Or.inr ob)))⟩
theorem p2_88 (h : P2 ζ ρ ω η ν) : P2 ζ ρ ω η (mA1 ν 88 b.toNatClampNeg v) := by
  have k : kf [] [88] ν (mA1 ν 88 b.toNatClampNeg v) := kf.rf.A rfl
  obtain ⟨⟨a1, a2⟩, a3, a4⟩ := h
  exact ⟨⟨a1.kf k rfl rfl, JK.eq (ν := ν) rfl (fun _ _ => rfl) rfl a2⟩, a3, a4⟩
theorem ts_88 (h : P2 ζ ρ ω η ν) (hb : D b.toNatClampNeg) : TyS ζ ρ ω η D ν (mA1 ν 88 b.toNatClampNeg v) := ⟨p2_88 h, ⟨fun g => g, kf.rf.A rfl, KP.rf⟩, fun j hj g hg => by
  have ne : ¬ j = b.toNatClampNeg := fun e => hj (by rw [e]; exact hb)
  rcases hg with rfl | rfl | rfl | rfl | rfl
  · rfl
  · rfl
  · rfl
  · rfl
  · exact upd_off ne, fun g => g⟩
/-- an EXPRESSION's TYPE is kept at it -/
theorem c_typeE (hB : TB μ ζ) (he : InN ζ e) {K : Int32 → MS → Prop} (h : ∀ T, MC X W true d 427 [.ref P.1, .int e] P ν (fun r κ1 => TyS ζ ρ ω η D ν κ1 ∧ K r κ1) T) : MC X W true (d + 1) 426 [.ref P.1, .int e] P ν (fun r κ1 => TyS ζ ρ ω η (fun j => D j ∨ j = e.toNatClampNeg) ν κ1 ∧ κ1.2.1 88 e.toNatClampNeg = r ∧ ∃ κ0, TyS ζ ρ ω η D ν κ0 ∧ K r κ0 ∧ κ1 = mA1 κ0 88 e.toNatClampNeg r) T := by
  have h' : ∀ T, MC X W true (d + 1 - 1) 427 [.ref P.1, .int e] P ν (fun r κ1 => TyS ζ ρ ω η D ν κ1 ∧ K r κ1) T := h
  refine me_meth (by omega) rfl (v_typeE_0 _ (MC.mono (h' _) (fun r κ hκ => ?_) (fun _ h => h)))
  exact ⟨in_mi hB hκ.1.1.1.1 he rfl rfl, (hκ.1.up (fun _ h => Or.inl h)).tr (ts_88 hκ.1.1 (Or.inr rfl)), upd_at, κ, hκ.1, hκ.2, rfl⟩
theorem p2_28 (h : P2 ζ ρ ω η ν) (hb : ζ.2.1 20 b.toNatClampNeg = 72) : P2 ζ ρ ω η (mA1 ν 28 b.toNatClampNeg v) := by
  have k : kf [] [28] ν (mA1 ν 28 b.toNatClampNeg v) := kf.rf.A rfl
  obtain ⟨⟨hF, hK⟩, a3, a4⟩ := h
  have hF' : TF ζ (mA1 ν 28 b.toNatClampNeg v) := ⟨hF.1.tr k rfl rfl, hF.2.1, fun j => by
    show upd (ν.2.1 28) b.toNatClampNeg v j = _ ∨ _
    by_cases c : j = b.toNatClampNeg
    · rw [c]; exact Or.inr (Or.inr (Or.inr (Or.inr hb)))
    · rw [upd_off c]; exact hF.2.2.1 j, fun g hg j => by
    rw [show (mA1 ν 28 b.toNatClampNeg v).2.1 g = ν.2.1 g from row_off (by rcases hg with e | e | e <;> (rw [e]; rfl))]
    exact hF.2.2.2 g hg j⟩
  exact ⟨⟨hF', JK.eq (ν := ν) rfl (fun _ _ => rfl) rfl hK⟩, a3, a4⟩
theorem ts_28 (h : P2 ζ ρ ω η ν) (hk : ζ.2.1 20 b.toNatClampNeg = 72) (hb : D b.toNatClampNeg) : TyS ζ ρ ω η D ν (mA1 ν 28 b.toNatClampNeg v) := ⟨p2_28 h hk, ⟨fun g => g, kf.rf.A rfl, KP.rf⟩, fun j hj g hg => by
  have ne : ¬ j = b.toNatClampNeg := fun e => hj (by rw [e]; exact hb)
  rcases hg with rfl | rfl | rfl | rfl | rfl
  · rfl
  · rfl
  · rfl
  · exact upd_off ne
  · rfl, fun g => g⟩
theorem ref_ty (hx : RT μ ζ x) (ek : ζ.2.1 20 x.toNatClampNeg = 30) : Nd ζ 0 (ζ.2.1 22 x.toNatClampNeg) := by
  rcases hx with h | h
  · have := h.1.fld (f := 0) (by omega)
    rw [ek] at this
    exact this.1
  · rcases h.2.1 with h | h <;> (rw [h] at ek; exact absurd ek (by decide))
theorem arr_ty (hx : RT μ ζ x) (ek : ζ.2.1 20 x.toNatClampNeg = 28) : Nd ζ 0 (ζ.2.1 24 x.toNatClampNeg) := by
  rcases hx with h | h
  · have := h.1.fld (f := 2) (by omega)
    rw [ek] at this
    exact this.1
  · rcases h.2.1 with h | h <;> (rw [h] at ek; exact absurd ek (by decide))
theorem arr_24 (hF : TF ζ ν) (ek : ζ.2.1 20 x.toNatClampNeg = 28) : ν.2.1 24 x.toNatClampNeg = ζ.2.1 24 x.toNatClampNeg := hF.k24 (Or.inl rfl) (by rw [ek]; rfl)
end NNBD
