/-! contracts of the reference: one suffix of a PLACE -/
section NNBE
variable {X : ev_X} {W : Nat → Prop} {d : Nat} {P : MP} {μ ν ν0 ν1 κ ζ : MS} {T : MS → Prop} {x y z s t q r e u v k l b p x2 : Int32} {ρ ω η M M' : Nat → Int32} {w c : Nat} {D D1 D2 : Nat → Prop} {R : Int32 → MS → Prop}
theorem t1_ts (h : T1 ζ ρ ω η b ν ν1) : TyS ζ ρ ω η (fun j => j = b.toNatClampNeg) ν ν1 := h.ts rfl
/-- a FAULT at a suffix -/
theorem sx_bad (hB : TB μ ζ) (hd : 2 ≤ d) (hp : InN ζ p) (hT : TyS ζ ρ ω η D ν κ) {R : Int32 → MS → Prop} (next : ∀ κ', TyS ζ ρ ω η D ν κ' → κ'.1 91 = κ.1 91 → ¬ κ'.1 17 = 0 → R (-1) κ') : MC X W true d 409 [.ref P.1, .int 12, .int p] P κ R T :=
  MC.mono (c_wrong hB hT.1.1.1 hd (by decide) hp) (fun r κ1 g => by
    rw [g.1]
    exact next κ1 (hT.tr (q3_flt hT.1 g.2.1 g.2.2).ts) (g.2.1.1 91 rfl) g.2.2) (fun _ h => h)
theorem sx_138 (hZ : TZ μ ζ) (hY : TY μ ζ) (hC : HoC μ ζ η) (hR : RvO μ ζ ρ) (hg : ag ζ η ∧ bg ζ) (hall : NoRs ζ ρ) (hP : P2 ζ ρ ω η ν) (hd : 1255 ≤ d) (hu : 0 ≤ u.toInt ∧ u.toInt < (μ.1 41).toInt) (hp : InN ζ p) (hy : InN ζ y) (hk : ζ.2.1 20 y.toNatClampNeg = 71 ∨ ζ.2.1 20 y.toNatClampNeg = 72 ∨ ζ.2.1 20 y.toNatClampNeg = 73) (ht : t = -1 ∨ RT μ ζ t)
    (next : ∀ t' κ, TyS ζ ρ ω η (fun j => j = y.toNatClampNeg) ν κ → SfR μ ζ ρ ν κ y t (if x2 = 0 ∨ 0 ≤ (ζ.2.1 27 y.toNatClampNeg).toInt then 0 else 1) t' → (t' = -1 ∨ RT μ ζ t') → ME X W true d 419 310 [(0, .ref P.1), (1, .int p), (2, .int x2), (3, .int t'), (4, .int u), (5, .int y)] [] P κ R T) :
    ME X W true d 419 138 [(0, .ref P.1), (1, .int p), (2, .int x2), (3, .int t), (4, .int u), (5, .int y)] [] P ν R T := by
  have hB := hZ.1
  have hF := hP.1.1
  have rl : ∀ {x : Int32}, Nd ζ 0 x → RT μ ζ (rlV ζ x) := fun h => rl_rt hB h
  have n1 : ∀ {a : Int32}, RT μ ζ a → ¬ a = -1 := fun h e => by
    have := h.in.1
    rw [e] at this
    exact absurd this (by decide)
  refine v_typePlace_138 _ _ _ _ _ ⟨fun nt => ⟨in_mi hB hF hy rfl rfl, fun n73 => ⟨in_mi hB hF hy rfl rfl, fun n72 => ?_, fun e72 => ?_⟩, fun e73 => ?_⟩, fun et => next t ν (TyS.rf hP) (Or.inl ⟨et, et⟩) ht⟩
  · rw [hF.row (g := 20) rfl] at n73 n72
    have tr : RT μ ζ t := ht.resolve_left nt
    have k71 : ζ.2.1 20 y.toNatClampNeg = 71 := hk.resolve_right (fun h => h.elim n72 n73)
    have hs : sfx (ζ.2.1 20 y.toNatClampNeg) = true := by rw [k71]; rfl
    have go : ∀ (l : Int32), l = (if x2 = 0 ∨ 0 ≤ (ζ.2.1 27 y.toNatClampNeg).toInt then 0 else 1) → MC X W true d 420 [.ref P.1, .int p, .int y, .int t, .int u, .int l] P ν (fun r1 μ1 => ME X W true d 419 310 [(0, .ref P.1), (1, .int p), (2, .int x2), (3, .int r1), (4, .int u), (5, .int y)] [] P μ1 R T) (fun _ => False) := fun l el => by
      refine MC.mono (c_typeDot hZ hY hC hR hg hall hP hd hu hp hy hs tr) (fun r κ h1 => ?_) (fun _ h => h)
      obtain ⟨h1, h2⟩ := h1
      refine next r κ (t1_ts h1) (Or.inr ⟨nt, Or.inr (Or.inr ⟨k71, by rw [← el]; exact h2⟩)⟩) ?_
      rcases h2 with ⟨⟨e, -⟩, -⟩ | ⟨-, ⟨e, -⟩ | ⟨-, f, fn, -, -, e⟩ | ⟨-, o, f, -, ⟨-, fn, -⟩, -, e⟩⟩
      · exact Or.inl e
      · exact Or.inl e
      · rw [e]; exact Or.inr (rl (fl_ty fn))
      · rw [e]; exact Or.inr (rl (fl_ty fn))
    refine ⟨fun h0 => go 0 (by rw [if_pos (Or.inl h0)]), fun h0 => ⟨in_mi hB hF hy rfl rfl, ?_⟩⟩
    rw [hF.row (g := 27) rfl]
    exact ⟨fun h => go 0 (by rw [if_pos (Or.inr h)]), fun h => go 1 (by rw [if_neg (fun a => a.elim h0 (fun a => by omega))])⟩
  · rw [hF.row (g := 20) rfl] at e72
    have tr : RT μ ζ t := ht.resolve_left nt
    have hs : sfx (ζ.2.1 20 y.toNatClampNeg) = true := by rw [e72]; rfl
    refine ⟨in_mi hB hF hy rfl rfl, tr.mi hB hF rfl rfl, ?_⟩
    rw [hF.row (g := 20) rfl]
    have hT1 : TyS ζ ρ ω η (fun j => j = y.toNatClampNeg) ν (mA1 ν 28 y.toNatClampNeg t) := ts_28 hP e72 rfl
    refine ⟨fun n28 => ⟨in_mi hB hF hy rfl rfl, tr.mi hB hF rfl rfl, fun _ => ?_, fun h => absurd h n28⟩, fun e28 => ⟨tr.mi hB hF rfl rfl, ?_⟩⟩
    · have hT2 : TyS ζ ρ ω η (fun j => j = y.toNatClampNeg) ν (mA1 (mA1 ν 28 y.toNatClampNeg t) 25 y.toNatClampNeg 0) := hT1.tr (t1_ts (t1_25 hT1.1 hs))
      exact sx_bad hB (by omega) hp hT2 (fun κ h1 h2 h3 => v_typePlace_277 _ _ _ _ _ (next _ _ h1 (Or.inr ⟨nt, Or.inr (Or.inl ⟨e72, h2, Or.inl ⟨rfl, h3⟩⟩)⟩) (Or.inl rfl)))
    · rw [arr_24 hF e28]
      have an := arr_ty tr e28
      refine MC.mono (q3_393 hB hY hC hg hT1.1 (by omega) an) (fun r6 κ6 h6 => ?_) (fun _ h => h)
      obtain ⟨hQ, er, r0, -⟩ := h6
      have hF6 := hQ.1.1.1
      refine ⟨in_mi hB hF6 hy rfl rfl, tr.mi hB hF6 rfl rfl, ?_⟩
      rw [hF6.row (g := 20) rfl]
      refine ⟨fun h => absurd e28 h, fun _ => ⟨tr.mi hB hF6 rfl rfl, ?_⟩⟩
      rw [arr_24 hF6 e28]
      have hT2 : TyS ζ ρ ω η (fun j => j = y.toNatClampNeg) ν (mA1 κ6 25 y.toNatClampNeg r6) := (hT1.tr hQ.q3.ts).tr (t1_ts (t1_25 hQ.1 hs))
      refine MC.mono (c_real hB hT2.1.1.1 (by omega) an) (fun r8 κ8 h8 => ?_) (fun _ h => h)
      obtain ⟨e1, e2, -⟩ := h8
      have e1 := e1.symm
      subst e1
      refine v_typePlace_277 _ _ _ _ _ (next _ _ hT2 (Or.inr ⟨nt, Or.inr (Or.inl ⟨e72, ?_, Or.inr ⟨e28, ?_, ?_, e2⟩⟩)⟩) (Or.inr (by rw [e2]; exact rl an)))
      · show κ6.1 91 = _
        rw [hQ.2.1.1 91 rfl]; rfl
      · show κ6.2.1 28 _ = _
        rw [hQ.2.1.2.1 28 rfl]; exact upd_at
      · show upd (κ6.2.1 25) y.toNatClampNeg r6 y.toNatClampNeg = cvV ζ (κ6.2.1 81) _ ∧ 0 ≤ (upd (κ6.2.1 25) y.toNatClampNeg r6 y.toNatClampNeg).toInt
        rw [upd_at]; exact ⟨er, r0⟩
  · rw [hF.row (g := 20) rfl] at e73
    have tr : RT μ ζ t := ht.resolve_left nt
    refine ⟨tr.mi hB hF rfl rfl, ?_⟩
    rw [hF.row (g := 20) rfl]
    refine ⟨fun n30 => sx_bad hB (by omega) hp (TyS.rf hP) (fun κ h1 h2 h3 => v_typePlace_190 _ _ _ _ _ (next _ _ h1 (Or.inr ⟨nt, Or.inl ⟨e73, h2, Or.inl ⟨rfl, h3⟩⟩⟩) (Or.inl rfl))), fun e30 => ⟨tr.mi hB hF rfl rfl, ?_⟩⟩
    rw [hF.row (g := 22) rfl]
    have rn := ref_ty tr e30
    refine MC.mono (c_real hB hF (by omega) rn) (fun r8 κ8 h8 => ?_) (fun _ h => h)
    obtain ⟨e1, e2, -⟩ := h8
    have e1 := e1.symm
    subst e1
    exact v_typePlace_190 _ _ _ _ _ (next _ _ (TyS.rf hP) (Or.inr ⟨nt, Or.inl ⟨e73, rfl, Or.inr ⟨e30, e2⟩⟩⟩) (Or.inr (by rw [e2]; exact rl rn)))
end NNBE
