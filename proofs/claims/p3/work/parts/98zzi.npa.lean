/-! contracts of the reference: actuals beside FORMALs -/
/-- typing a PLACE that is put into: what it touches, what is known of it then -/
def RcT (X : ev_X) (W : Nat → Prop) (P : MP) (d : Nat) (ζ : MS) (ρ ω η : Nat → Int32) (e : Int32) (D : Nat → Prop) (Q : MS → Int32 → Prop) : Prop := ∀ (κ : MS) (T : MS → Prop), P2 ζ ρ ω η κ → MC X W true d 418 [.ref P.1, .int e] P κ (fun r κ1 => TyS ζ ρ ω η D κ κ1 ∧ Q κ1 r) T
/-- a row of actuals, apart -/
def AcL (X : ev_X) (W : Nat → Prop) (P : MP) (d : Nat) (μ ζ : MS) (ρ ω η : Nat → Int32) (Q Q' : Int32 → MS → Int32 → Prop) : Nat → (Nat → Prop) → Int32 → Prop
  | 0, _, y => y = -1
  | n + 1, D, y => y = -1 ∨ ((InN ζ y ∧ sfx (ζ.2.1 20 y.toNatClampNeg) = false) ∧ ∃ D1 D2 : Nat → Prop, ((∀ j, D1 j → D j) ∧ (∀ j, D2 j → D j)) ∧ (RcE X W P d ζ ρ ω η y D1 (Q y) ∧ (ζ.2.1 20 y.toNatClampNeg = 70 ∧ ζ.2.1 25 y.toNatClampNeg = 0 → RcT X W P d ζ ρ ω η y D1 (Q' y))) ∧ (QeT μ ζ ρ ω η (Q y) ∧ QeT μ ζ ρ ω η (Q' y)) ∧ (QeS ζ ρ ω η D2 (Q y) ∧ QeS ζ ρ ω η D2 (Q' y)) ∧ AcL X W P d μ ζ ρ ω η Q Q' n D2 (ζ.2.1 27 y.toNatClampNeg))
/-- an actual fits its FORMAL -/
def PaK (μ ζ : MS) (ρ : Nat → Int32) (Q Q' : Int32 → MS → Int32 → Prop) (κ : MS) (f y : Int32) : Prop := (ζ.2.1 24 f.toNatClampNeg = 1 ∧ (ζ.2.1 20 y.toNatClampNeg = 70 ∧ ζ.2.1 25 y.toNatClampNeg = 0) ∧ ∃ r, Q' y κ r ∧ (r = -1 ∨ Alk ζ r (rlV ζ (ζ.2.1 23 f.toNatClampNeg)))) ∨ (¬ ζ.2.1 24 f.toNatClampNeg = 1 ∧ ∃ r, Q y κ r ∧ AsR μ ζ ρ r (rlV ζ (ζ.2.1 23 f.toNatClampNeg)))
def PaS (μ ζ : MS) (ρ : Nat → Int32) (Q Q' : Int32 → MS → Int32 → Prop) (κ : MS) : Nat → Int32 → Int32 → Prop
  | 0, f, y => f = -1 ∧ y = -1
  | n + 1, f, y => (0 ≤ f.toInt ∧ 0 ≤ y.toInt) ∧ PaK μ ζ ρ Q Q' κ f y ∧ PaS μ ζ ρ Q Q' κ n (ζ.2.1 27 f.toNatClampNeg) (ζ.2.1 27 y.toNatClampNeg)
section NNBI
variable {X : ev_X} {W : Nat → Prop} {d : Nat} {P : MP} {μ ν ν0 ν1 κ κ1 ζ : MS} {T : MS → Prop} {x y z s t q r e u v k l b p : Int32} {ρ ω η M M' : Nat → Int32} {w c : Nat} {D D1 D2 : Nat → Prop} {Q Q' : Int32 → MS → Int32 → Prop}
theorem pm_34 (hZ : TZ μ ζ) (hR : RvO μ ζ ρ) (hd : 14 ≤ d) (hu : 0 ≤ u.toInt ∧ u.toInt < (μ.1 41).toInt) {x1 : Int32} (hx1 : InN ζ x1) (bi : InN ζ b) : ∀ (n m : Nat) (D : Nat → Prop) (f y : Int32) (κ : MS), AcL X W P d μ ζ ρ ω η Q Q' n D y → Lst (Nd ζ 9) (ζ.2.1 27) m f → P2 ζ ρ ω η κ → κ.2.1 25 b.toNatClampNeg = s → ¬ D b.toNatClampNeg →
    ME X W true d 425 34 [(0, .ref P.1), (1, .int x1), (2, .int b), (3, .int u), (4, .int f), (5, .int y)] [] P κ (fun _ κ1 => TyS ζ ρ ω η D κ κ1 ∧ (κ1.1 17 = 0 → 0 ≤ s.toInt → ∃ k, PaS μ ζ ρ Q Q' κ1 k f y)) T := by
  have hB := hZ.1
  have fneg : ∀ {m : Nat} {f : Int32}, Lst (Nd ζ 9) (ζ.2.1 27) m f → f.toInt < 0 → f = -1 := fun {m} {f} h h0 => by
    cases m with
    | zero => exact h
    | succ m =>
      rcases h with h | ⟨h, -⟩
      · exact h
      · have := h.in.1; omega
  have fpos : ∀ {m : Nat} {f : Int32}, Lst (Nd ζ 9) (ζ.2.1 27) m f → 0 ≤ f.toInt → Nd ζ 9 f ∧ ∃ m, Lst (Nd ζ 9) (ζ.2.1 27) m (ζ.2.1 27 f.toNatClampNeg) := fun {m} {f} h h0 => by
    cases m with
    | zero => have h : f = -1 := h; rw [h] at h0; exact absurd h0 (by decide)
    | succ m =>
      rcases h with h | ⟨h, h2⟩
      · rw [h] at h0; exact absurd h0 (by decide)
      · exact ⟨h, m, h2⟩
  have nil : ∀ (m : Nat) (D : Nat → Prop) (f y : Int32) (κ : MS), y = -1 → Lst (Nd ζ 9) (ζ.2.1 27) m f → P2 ζ ρ ω η κ →
    ME X W true d 425 34 [(0, .ref P.1), (1, .int x1), (2, .int b), (3, .int u), (4, .int f), (5, .int y)] [] P κ (fun _ κ1 => TyS ζ ρ ω η D κ κ1 ∧ (κ1.1 17 = 0 → 0 ≤ s.toInt → ∃ k, PaS μ ζ ρ Q Q' κ1 k f y)) T := fun m D f y κ ey hl hP => by
    subst ey
    refine v_parameters_34 _ _ _ _ _ ⟨fun _ => ⟨fun f0 => v_parameters_259 _ _ _ _ _ ⟨TyS.rf hP, fun _ _ => ⟨0, fneg hl f0, rfl⟩⟩, fun _ => ⟨in_mi hB hP.1.1 hx1 rfl rfl, MC.mono (c_ruF (by omega) (by decide)) (fun _ κ1 g => v_parameters_259 _ _ _ _ _ ⟨(q3_flt hP g.1 g.2).ts, fun h => absurd h g.2⟩) (fun _ h => h)⟩⟩, fun h => absurd h (by decide)⟩
  intro n
  induction n with
  | zero => intro m D f y κ hL hl hP _ _; exact nil m D f y κ hL hl hP
  | succ n ih =>
    intro m D f y κ hL hl hP hs hDb
    rcases hL with hL | ⟨⟨yi, ks⟩, D1, D2, ⟨s1, s2⟩, ⟨hE, hTg⟩, ⟨q1, q1'⟩, ⟨q2, q2'⟩, hL⟩
    · exact nil m D f y κ hL hl hP
    have hF := hP.1.1
    have y0 := yi.1
    have kb : ∀ {κ κ1 : MS} {D' : Nat → Prop}, (∀ j, D' j → D j) → TyS ζ ρ ω η D' κ κ1 → κ1.2.1 25 b.toNatClampNeg = κ.2.1 25 b.toNatClampNeg := fun hs h => h.2.2.1 _ (fun a => hDb (hs _ a)) 25 (Or.inr (Or.inl rfl))
    have go : ∀ (f' : Int32) (m' : Nat) (κ0 : MS) (x6 x7 x8 : Int32), Lst (Nd ζ 9) (ζ.2.1 27) m' f' → TyS ζ ρ ω η D κ κ0 → κ0.2.1 25 b.toNatClampNeg = s → (∀ κ1, TyS ζ ρ ω η D2 κ0 κ1 → κ1.1 17 = 0 → 0 ≤ s.toInt → (∃ k, PaS μ ζ ρ Q Q' κ1 k f' (ζ.2.1 27 y.toNatClampNeg)) → ∃ k, PaS μ ζ ρ Q Q' κ1 k f y) →
      ME X W true d 425 230 [(0, .ref P.1), (1, .int x1), (2, .int b), (3, .int u), (4, .int f'), (5, .int y), (6, .int x6), (7, .int x7), (8, .int x8)] [] P κ0 (fun _ κ1 => TyS ζ ρ ω η D κ κ1 ∧ (κ1.1 17 = 0 → 0 ≤ s.toInt → ∃ k, PaS μ ζ ρ Q Q' κ1 k f y)) T := fun f' m' κ0 x6 x7 x8 hl' hT0 hs0 hc => by
      refine v_parameters_230 _ _ _ _ _ _ _ _ ⟨in_mi hB hT0.1.1.1 yi rfl rfl, ?_⟩
      rw [hT0.1.1.1.row (g := 27) rfl]
      refine ME.mono (ih m' D2 f' _ κ0 hL hl' hT0.1 hs0 (fun a => hDb (s2 _ a))) (fun _ κ1 g => ⟨hT0.tr (g.1.up s2), fun hz h0 => hc κ1 g.1 hz h0 (g.2 hz h0)⟩) (fun _ h => h)
    have hx : ∀ (κ0 : MS) (x6 x7 r : Int32), TyS ζ ρ ω η D κ κ0 → κ0.2.1 25 b.toNatClampNeg = s → VT μ ζ r → (0 ≤ f.toInt → (x6 = 0 ∧ ¬ ζ.2.1 24 f.toNatClampNeg = 1 ∧ Q y κ0 r) ∨ (¬ x6 = 0 ∧ ζ.2.1 24 f.toNatClampNeg = 1 ∧ (x7 = 0 ∨ ((ζ.2.1 20 y.toNatClampNeg = 70 ∧ ζ.2.1 25 y.toNatClampNeg = 0) ∧ Q' y κ0 r)))) →
      ME X W true d 425 118 [(0, .ref P.1), (1, .int x1), (2, .int b), (3, .int u), (4, .int f), (5, .int y), (6, .int x6), (7, .int x7), (8, .int r)] [] P κ0 (fun _ κ1 => TyS ζ ρ ω η D κ κ1 ∧ (κ1.1 17 = 0 → 0 ≤ s.toInt → ∃ k, PaS μ ζ ρ Q Q' κ1 k f y)) T := fun κ0 x6 x7 r hT0 hs0 vr hq => by
      have hF0 := hT0.1.1.1
      refine v_parameters_118 _ _ _ _ _ _ _ _ ⟨fun f0 => ?_, fun f0 => ⟨in_mi hB hF0 bi rfl rfl, fun h => ?_, fun h => ⟨in_mi hB hF0 hx1 rfl rfl, ?_⟩⟩⟩
      · obtain ⟨fn, m', hl'⟩ := fpos hl f0
        have ft := fo_ty fn
        have rt := rl_rt hB ft
        have n21 : ∀ (κ2 : MS) (x9 : Int32), TyS ζ ρ ω η D κ κ2 → (κ2.1 17 = 0 → ∀ κ1, TyS ζ ρ ω η D2 κ2 κ1 → PaK μ ζ ρ Q Q' κ1 f y) → ME X W true d 425 221 [(0, .ref P.1), (1, .int x1), (2, .int b), (3, .int u), (4, .int f), (5, .int y), (6, .int x6), (7, .int x7), (8, .int r), (9, .int x9)] [] P κ2 (fun _ κ1 => TyS ζ ρ ω η D κ κ1 ∧ (κ1.1 17 = 0 → 0 ≤ s.toInt → ∃ k, PaS μ ζ ρ Q Q' κ1 k f y)) T := fun κ2 x9 hT2 hk => by
          refine v_parameters_221 _ _ _ _ _ _ _ _ _ ⟨fn.mi hB hT2.1.1.1 rfl rfl, ?_⟩
          rw [hT2.1.1.1.row (g := 27) rfl]
          refine go _ m' κ2 x6 x7 r hl' hT2 ((kb (fun _ h => h) hT2).trans hs) (fun κ1 hT1 hz _ hS => ?_)
          obtain ⟨k, hk2⟩ := hS
          exact ⟨k + 1, ⟨f0, y0⟩, hk (Classical.byContradiction (fun c => hT1.2.1.1 c hz)) κ1 hT1, hk2⟩
        have n09 : ∀ (κ2 : MS) (x9 : Int32), TyS ζ ρ ω η D κ κ2 → ME X W true d 425 209 [(0, .ref P.1), (1, .int x1), (2, .int b), (3, .int u), (4, .int f), (5, .int y), (6, .int x6), (7, .int x7), (8, .int r), (9, .int x9)] [] P κ2 (fun _ κ1 => TyS ζ ρ ω η D κ κ1 ∧ (κ1.1 17 = 0 → 0 ≤ s.toInt → ∃ k, PaS μ ζ ρ Q Q' κ1 k f y)) T := fun κ2 x9 hT2 => v_parameters_209 _ _ _ _ _ _ _ _ _ ⟨in_mi hB hT2.1.1.1 hx1 rfl rfl, MC.mono (c_ruF (by omega) (by decide)) (fun _ κ3 g => n21 κ3 x9 (hT2.tr (q3_flt hT2.1 g.1 g.2).ts) (fun h => absurd h g.2)) (fun _ h => h)⟩
        refine ⟨fn.mi hB hF0 rfl rfl, ?_⟩
        rw [hF0.row (g := 23) rfl]
        refine MC.mono (c_real hB hF0 (by omega) ft) (fun r1 κ9 h1 => ?_) (fun _ h => h)
        obtain ⟨e1, e2, -⟩ := h1
        have e1 := e1.symm
        subst e1
        subst e2
        refine ⟨fun h6 => ?_, fun h6 => ⟨fun _ => n09 _ _ hT0, fun h7 => ⟨fun e1 => ?_, fun ne1 => ⟨fun _ => n09 _ _ hT0, fun ne2 => ?_⟩⟩⟩⟩
        · obtain ⟨-, a1, a2⟩ := (hq f0).resolve_right (fun h => h.1 h6)
          refine MC.mono (c_assignable hZ hT0.1 hR hd hu vr (Or.inr rt)) (fun r2 κ2 h2 => ?_) (fun _ h => h)
          obtain ⟨b1, -, b3⟩ := h2
          have hT2 := hT0.tr b1.q3.ts
          exact ⟨fun h => n21 κ2 _ hT2 (fun _ κ1 hT1 => Or.inr ⟨a1, r, q2 _ _ _ hT1 (q1.2 _ _ _ b1.q3 a2), b3 h⟩), fun _ => n09 κ2 _ hT2⟩
        · obtain ⟨-, a1, a2⟩ := (hq f0).resolve_left (fun h => h6 h.1)
          obtain ⟨a3, a4⟩ := a2.resolve_left h7
          exact n21 κ0 _ hT0 (fun _ κ1 hT1 => Or.inl ⟨a1, a3, r, q2' _ _ _ hT1 a4, Or.inl e1⟩)
        · obtain ⟨-, a1, a2⟩ := (hq f0).resolve_left (fun h => h6 h.1)
          obtain ⟨a3, a4⟩ := a2.resolve_left h7
          have rr : RT μ ζ r := by
            rcases vr with h | h | h
            · exact absurd h ne1
            · exact absurd h ne2
            · exact h
          refine MC.mono (c_alike hZ hF0 hT0.1.1.2 (by omega) rr.tq rt.tq) (fun r3 κ3 h3 => ?_) (fun _ h => h)
          obtain ⟨-, c1, c2, c3, c4⟩ := h3
          have hQ3 : Q3 ζ ρ ω η κ0 κ3 := (show Q2 ζ ρ ω η κ0 κ3 from ⟨hT0.1.al c1 c2 c3 rfl rfl rfl rfl, fm_kf c3 rfl, c3.up rfl rfl⟩).q3
          have hT3 := hT0.tr hQ3.ts
          exact ⟨fun h => n21 κ3 _ hT3 (fun _ κ1 hT1 => Or.inl ⟨a1, a3, r, q2' _ _ _ hT1 (q1'.2 _ _ _ hQ3 a4), Or.inr (c4 h)⟩), fun _ => n09 κ3 _ hT3⟩
      · rw [hs0] at h
        exact go f m κ0 x6 x7 r hl hT0 hs0 (fun _ _ _ hs1 _ => absurd hs1 (by omega))
      · refine MC.mono (c_ruF (by omega) (by decide)) (fun _ κ3 g => ?_) (fun _ h => h)
        have hT3 := hT0.tr (q3_flt hT0.1 g.1 g.2).ts
        exact go f m κ3 x6 x7 r hl hT3 ((kb (fun _ h => h) hT3).trans hs) (fun κ1 hT1 hz _ _ => absurd hz (fun h => hT1.2.1.1 g.2 h))
    have tE : ∀ (x6 x7 : Int32), (0 ≤ f.toInt → (x6 = 0 ∧ ¬ ζ.2.1 24 f.toNatClampNeg = 1) ∨ (¬ x6 = 0 ∧ ζ.2.1 24 f.toNatClampNeg = 1 ∧ x7 = 0)) → ME X W true d 425 110 [(0, .ref P.1), (1, .int x1), (2, .int b), (3, .int u), (4, .int f), (5, .int y), (6, .int x6), (7, .int x7)] [] P κ (fun _ κ1 => TyS ζ ρ ω η D κ κ1 ∧ (κ1.1 17 = 0 → 0 ≤ s.toInt → ∃ k, PaS μ ζ ρ Q Q' κ1 k f y)) T := fun x6 x7 h6 => v_parameters_110 _ _ _ _ _ _ _ (MC.mono (hE κ _ hP) (fun r κ0 g => hx κ0 x6 x7 r (g.1.up s1) ((kb s1 g.1).trans hs) (q1.1 _ _ g.2) (fun f0 => (h6 f0).imp (fun h => ⟨h.1, h.2, g.2⟩) (fun h => ⟨h.1, h.2.1, Or.inl h.2.2⟩))) (fun _ h => h))
    have s62 : ∀ (x6 : Int32), (0 ≤ f.toInt → (x6 = 0 ∧ ¬ ζ.2.1 24 f.toNatClampNeg = 1) ∨ (¬ x6 = 0 ∧ ζ.2.1 24 f.toNatClampNeg = 1)) → (f.toInt < 0 → x6 = 0) → ME X W true d 425 62 [(0, .ref P.1), (1, .int x1), (2, .int b), (3, .int u), (4, .int f), (5, .int y), (6, .int x6)] [] P κ (fun _ κ1 => TyS ζ ρ ω η D κ κ1 ∧ (κ1.1 17 = 0 → 0 ≤ s.toInt → ∃ k, PaS μ ζ ρ Q Q' κ1 k f y)) T := fun x6 h6 hn6 => by
      have p0 : ME X W true d 425 88 [(0, .ref P.1), (1, .int x1), (2, .int b), (3, .int u), (4, .int f), (5, .int y), (6, .int x6)] [] P κ (fun _ κ1 => TyS ζ ρ ω η D κ κ1 ∧ (κ1.1 17 = 0 → 0 ≤ s.toInt → ∃ k, PaS μ ζ ρ Q Q' κ1 k f y)) T := v_parameters_88 _ _ _ _ _ _ (v_parameters_91 _ _ _ _ _ _ _ ⟨fun _ => tE x6 0 (fun f0 => (h6 f0).imp id (fun h => ⟨h.1, h.2, rfl⟩)), fun _ => ⟨fun _ => tE x6 0 (fun f0 => (h6 f0).imp id (fun h => ⟨h.1, h.2, rfl⟩)), fun h => absurd rfl h⟩⟩)
      refine v_parameters_62 _ _ _ _ _ _ ⟨in_mi hB hF yi rfl rfl, fun _ => p0, fun k70 => ⟨in_mi hB hF yi rfl rfl, fun _ => p0, fun k25 => ?_⟩⟩
      rw [hF.row (g := 20) rfl] at k70
      rw [hF.k24 (Or.inr (Or.inl rfl)) ks] at k25
      refine v_parameters_91 _ _ _ _ _ _ _ ⟨fun e6 => tE x6 1 (fun f0 => Or.inl ((h6 f0).resolve_right (fun h => h.1 e6))), fun n6 => ⟨fun h => absurd h (by decide), fun _ => MC.mono (hTg ⟨k70, k25⟩ κ _ hP) (fun r κ0 g => ?_) (fun _ h => h)⟩⟩
      exact hx κ0 x6 1 r (g.1.up s1) ((kb s1 g.1).trans hs) (q1'.1 _ _ g.2) (fun f0 => Or.inr ⟨n6, ((h6 f0).resolve_left (fun h => n6 h.1)).2, Or.inr ⟨⟨k70, k25⟩, g.2⟩⟩)
    refine v_parameters_34 _ _ _ _ _ ⟨fun h => absurd h (by omega), fun _ => ⟨fun f0 => v_parameters_59 _ _ _ _ _ (s62 0 (fun h => absurd h (by omega)) (fun _ => rfl)), fun f0 => ?_⟩⟩
    obtain ⟨fn, -⟩ := fpos hl f0
    refine ⟨fn.mi hB hF rfl rfl, ?_⟩
    rw [hF.k24 (Or.inl rfl) (sfx_of (nk13 fn) rfl)]
    exact ⟨fun h => v_parameters_59 _ _ _ _ _ (s62 0 (fun _ => Or.inl ⟨rfl, h⟩) (fun _ => rfl)), fun h => s62 1 (fun _ => Or.inr ⟨by decide, h⟩) (fun h => absurd h (by omega))⟩
end NNBI
