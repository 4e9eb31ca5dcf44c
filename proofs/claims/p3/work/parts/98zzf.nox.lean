/-! contracts of the reference: what hangs behind a PLACE, gone through -/
/-- one suffix, as it stands when no FAULT is left -/
def SfF (μ ζ : MS) (ρ : Nat → Int32) (κ : MS) (y t t' : Int32) : Prop := (ζ.2.1 20 y.toNatClampNeg = 73 ∧ ζ.2.1 20 t.toNatClampNeg = 30 ∧ t' = rlV ζ (ζ.2.1 22 t.toNatClampNeg)) ∨ (ζ.2.1 20 y.toNatClampNeg = 72 ∧ ζ.2.1 20 t.toNatClampNeg = 28 ∧ κ.2.1 28 y.toNatClampNeg = t ∧ (κ.2.1 25 y.toNatClampNeg = cvV ζ (κ.2.1 81) (ζ.2.1 24 t.toNatClampNeg) ∧ 0 ≤ (κ.2.1 25 y.toNatClampNeg).toInt) ∧ t' = rlV ζ (ζ.2.1 24 t.toNatClampNeg)) ∨ (ζ.2.1 20 y.toNatClampNeg = 71 ∧ (DtF ζ y t t' κ ∨ DtO μ ζ ρ y t t' κ))
/-- all suffixes, from a TYPE to the last one; a METHOD at the end -/
def PlS (μ ζ : MS) (ρ : Nat → Int32) (κ : MS) : Nat → Int32 → Int32 → Int32 → Prop
  | 0, y, t, te => y = -1 ∧ te = t
  | n + 1, y, t, te => 0 ≤ y.toInt ∧ ((ζ.2.1 27 y.toNatClampNeg = -1 ∧ te = -1 ∧ DtM μ ζ ρ y t κ) ∨ ∃ t', SfF μ ζ ρ κ y t t' ∧ PlS μ ζ ρ κ n (ζ.2.1 27 y.toNatClampNeg) t' te)
/-- a row of suffixes, their parts apart -/
def SxL (X : ev_X) (W : Nat → Prop) (P : MP) (d : Nat) (μ ζ : MS) (ρ ω η : Nat → Int32) (Q : Int32 → MS → Int32 → Prop) (p : Int32) : Nat → (Nat → Prop) → Int32 → Prop
  | 0, _, y => y = -1
  | n + 1, D, y => y = -1 ∨ ((InN ζ y ∧ (ζ.2.1 20 y.toNatClampNeg = 71 ∨ ζ.2.1 20 y.toNatClampNeg = 72 ∨ ζ.2.1 20 y.toNatClampNeg = 73)) ∧ ∃ D1 D2 : Nat → Prop, ((∀ j, D1 j → D j) ∧ (∀ j, D2 j → D j) ∧ D y.toNatClampNeg ∧ ¬ D2 y.toNatClampNeg) ∧
    (ζ.2.1 20 y.toNatClampNeg = 72 → InN ζ (ζ.2.1 22 y.toNatClampNeg) ∧ RcE X W P d ζ ρ ω η (ζ.2.1 22 y.toNatClampNeg) D1 (Q (ζ.2.1 22 y.toNatClampNeg)) ∧ QeT μ ζ ρ ω η (Q (ζ.2.1 22 y.toNatClampNeg)) ∧ QeS ζ ρ ω η (fun j => j = y.toNatClampNeg) (Q (ζ.2.1 22 y.toNatClampNeg)) ∧ QeS ζ ρ ω η (fun j => D2 j ∨ j = p.toNatClampNeg) (Q (ζ.2.1 22 y.toNatClampNeg))) ∧
    SxL X W P d μ ζ ρ ω η Q p n D2 (ζ.2.1 27 y.toNatClampNeg))
section NNBF
variable {X : ev_X} {W : Nat → Prop} {d : Nat} {P : MP} {μ ν ν0 ν1 κ κ1 ζ : MS} {T : MS → Prop} {x y z s t t' q r e u v k l b p x2 : Int32} {ρ ω η M M' : Nat → Int32} {w c : Nat} {D D1 D2 : Nat → Prop} {Q : Int32 → MS → Int32 → Prop}
theorem DtF.keep (h : DtF ζ b t r κ) (h24 : κ1.2.1 24 b.toNatClampNeg = κ.2.1 24 b.toNatClampNeg) (h25 : κ1.2.1 25 b.toNatClampNeg = κ.2.1 25 b.toNatClampNeg) (hp : KP (κ.2.1 81) (κ1.2.1 81)) : DtF ζ b t r κ1 := by
  obtain ⟨⟨a, b1⟩, f, fn, ho, ⟨m, hm⟩, e⟩ := h
  exact ⟨⟨a, by rw [h24]; exact b1⟩, f, fn, ho, ⟨m, by rw [h25]; exact hm.keep hp⟩, e⟩
theorem DtO.keep (h : DtO μ ζ ρ b t r κ) (h24 : κ1.2.1 24 b.toNatClampNeg = κ.2.1 24 b.toNatClampNeg) (h25 : κ1.2.1 25 b.toNatClampNeg = κ.2.1 25 b.toNatClampNeg) (hp : KP (κ.2.1 81) (κ1.2.1 81)) : DtO μ ζ ρ b t r κ1 := by
  obtain ⟨⟨a, b1⟩, o, f, ho, hf, ⟨m, n, g, h, h1, h2, h3⟩, e⟩ := h
  exact ⟨⟨a, by rw [h24]; exact b1⟩, o, f, ho, hf, ⟨m, n, g, h, h1.keep hp, h2.keep hp, by rw [h25]; exact h3⟩, e⟩
theorem SfF.keep (h : SfF μ ζ ρ κ y t t') (h24 : κ1.2.1 24 y.toNatClampNeg = κ.2.1 24 y.toNatClampNeg) (h25 : κ1.2.1 25 y.toNatClampNeg = κ.2.1 25 y.toNatClampNeg) (h28 : κ1.2.1 28 y.toNatClampNeg = κ.2.1 28 y.toNatClampNeg) (hp : KP (κ.2.1 81) (κ1.2.1 81)) : SfF μ ζ ρ κ1 y t t' := by
  rcases h with h | ⟨a1, a2, a3, ⟨a4, a5⟩, a6⟩ | ⟨a1, a2⟩
  · exact Or.inl h
  · refine Or.inr (Or.inl ⟨a1, a2, h28.trans a3, ⟨?_, by rw [h25]; exact a5⟩, a6⟩)
    rw [h25, a4, cv_keep hp (by rw [← a4]; intro a; rw [a] at a5; exact absurd a5 (by decide))]
  · exact Or.inr (Or.inr ⟨a1, a2.imp (fun h => h.keep h24 h25 hp) (fun h => h.keep h24 h25 hp)⟩)
theorem SfF.rt (hB : TB μ ζ) (tr : RT μ ζ t) (h : SfF μ ζ ρ κ y t t') : RT μ ζ t' := by
  rcases h with ⟨-, a2, a3⟩ | ⟨-, a2, -, -, a3⟩ | ⟨-, ⟨-, f, fn, -, -, e⟩ | ⟨-, o, f, -, ⟨-, fn, -⟩, -, e⟩⟩
  · rw [a3]; exact rl_rt hB (ref_ty tr a2)
  · rw [a3]; exact rl_rt hB (arr_ty tr a2)
  · rw [e]; exact rl_rt hB (fl_ty fn)
  · rw [e]; exact rl_rt hB (fl_ty fn)
/-- what a row of suffixes gives -/
def PlE (μ ζ : MS) (ρ ω η : Nat → Int32) (Q : Int32 → MS → Int32 → Prop) (p : Int32) (D : Nat → Prop) (y t : Int32) (ν : MS) (r : Int32) (κ : MS) : Prop := TyS ζ ρ ω η (fun j => D j ∨ j = p.toNatClampNeg) ν κ ∧ (y = -1 → κ = mA1 ν 88 p.toNatClampNeg t ∧ r = t) ∧ (κ.1 17 = 0 → ¬ t = -1 → ∃ n, PlS μ ζ ρ κ n y t r) ∧ (κ.1 17 = 0 → ∀ i z, Onl (ζ.2.1 27) i y z → 0 ≤ z.toInt → ζ.2.1 20 z.toNatClampNeg = 72 → ∃ r', Q (ζ.2.1 22 z.toNatClampNeg) κ r' ∧ VI ζ r')
theorem pl_108 (hZ : TZ μ ζ) (hY : TY μ ζ) (hC : HoC μ ζ η) (hR : RvO μ ζ ρ) (hg : ag ζ η ∧ bg ζ) (hall : NoRs ζ ρ) (hd : 1255 ≤ d) (hu : 0 ≤ u.toInt ∧ u.toInt < (μ.1 41).toInt) (hp : InN ζ p) (kp : ζ.2.1 20 p.toNatClampNeg = 70) : ∀ (n : Nat) (D : Nat → Prop) (y t : Int32) (κ : MS), SxL X W P d μ ζ ρ ω η Q p n D y → (t = -1 ∨ RT μ ζ t) → P2 ζ ρ ω η κ →
    ME X W true (d + 1) 419 108 [(0, .ref P.1), (1, .int p), (2, .int x2), (3, .int t), (4, .int u), (5, .int y)] [] P κ (PlE μ ζ ρ ω η Q p D y t κ) T := by
  have hB := hZ.1
  have nil : ∀ (D : Nat → Prop) (y t : Int32) (κ : MS), y = -1 → P2 ζ ρ ω η κ →
    ME X W true (d + 1) 419 108 [(0, .ref P.1), (1, .int p), (2, .int x2), (3, .int t), (4, .int u), (5, .int y)] [] P κ (PlE μ ζ ρ ω η Q p D y t κ) T := fun D y t κ ey hP => by
    subst ey
    refine v_typePlace_108 _ _ _ _ _ ⟨fun _ => ⟨in_mi hB hP.1.1 hp rfl rfl, ts_88 hP (Or.inr rfl), fun _ => ⟨rfl, rfl⟩, fun _ _ => ⟨0, rfl, rfl⟩, fun _ i z ho z0 _ => ?_⟩, fun h => absurd h (by decide)⟩
    exfalso
    cases i with
    | zero => have ho : (-1 : Int32) = z := ho; rw [← ho] at z0; exact absurd z0 (by decide)
    | succ i => exact absurd ho.1 (by decide)
  intro n
  induction n with
  | zero => intro D y t κ hL _ hP; exact nil D y t κ hL hP
  | succ n ih =>
    intro D y t κ hL ht hP
    rcases hL with hL | ⟨⟨yi, ky⟩, D1, D2, ⟨s1, s2, s3, s4⟩, h72, hL⟩
    · exact nil D y t κ hL hP
    have hF := hP.1.1
    have y0 := yi.1
    have ny : ¬ (D2 y.toNatClampNeg ∨ y.toNatClampNeg = p.toNatClampNeg) := fun h => by
      rcases h with h | h
      · exact s4 h
      · rw [h, kp] at ky
        exact absurd ky (by decide)
    have n27 : (ζ.2.1 27 y.toNatClampNeg).toInt < 0 → ζ.2.1 27 y.toNatClampNeg = -1 := fun h => by
      cases n with
      | zero => exact hL
      | succ n =>
        rcases hL with hL | ⟨⟨a, -⟩, -⟩
        · exact hL
        · have := a.1; omega
    have go : ∀ κ0, TyS ζ ρ ω η (fun j => D j ∨ j = p.toNatClampNeg) κ κ0 → (ζ.2.1 20 y.toNatClampNeg = 72 → ∃ r', Q (ζ.2.1 22 y.toNatClampNeg) κ0 r' ∧ (κ0.1 17 = 0 → VI ζ r')) →
      ME X W true (d + 1) 419 138 [(0, .ref P.1), (1, .int p), (2, .int x2), (3, .int t), (4, .int u), (5, .int y)] [] P κ0 (PlE μ ζ ρ ω η Q p D y t κ) T := fun κ0 hT0 hw => by
      refine sx_138 hZ hY hC hR hg hall hT0.1 (by omega) hu hp yi ky ht (fun t' κ' hT' hS ht' => v_typePlace_310 _ _ _ _ _ ⟨in_mi hB hT'.1.1.1 yi rfl rfl, ?_⟩)
      rw [hT'.1.1.1.row (g := 27) rfl]
      refine ME.mono (ih D2 _ t' κ' hL ht' hT'.1) (fun r κ1 g => ?_) (fun _ h => h)
      obtain ⟨g1, g2, g3, g4⟩ := g
      have z1 : κ1.1 17 = 0 → κ'.1 17 = 0 := fun h => Classical.byContradiction (fun c => g1.2.1.1 c h)
      have z0 : κ1.1 17 = 0 → κ0.1 17 = 0 := fun h => Classical.byContradiction (fun c => hT'.2.1.1 c (z1 h))
      refine ⟨(hT0.tr (hT'.up (fun j hj => Or.inl (by rw [hj]; exact s3)))).tr (g1.up (fun j hj => hj.imp (s2 j) id)), fun e => by (rw [e] at y0; exact absurd y0 (by decide)), fun hz nt => ?_, fun hz i z ho z0' k72 => ?_⟩
      · have tr := ht.resolve_left nt
        have fin : SfF μ ζ ρ κ' y t t' → ∃ n, PlS μ ζ ρ κ1 n y t r := fun hs => by
          have rt := hs.rt hB tr
          have nt' : ¬ t' = -1 := fun e => by
            have := rt.in.1
            rw [e] at this
            exact absurd this (by decide)
          obtain ⟨n, hn⟩ := g3 hz nt'
          exact ⟨n + 1, y0, Or.inr ⟨t', hs.keep (g1.2.2.1 _ ny 24 (Or.inl rfl)) (g1.2.2.1 _ ny 25 (Or.inr (Or.inl rfl))) (g1.2.2.1 _ ny 28 (Or.inr (Or.inr (Or.inr (Or.inl rfl))))) g1.2.1.2.2, hn⟩⟩
        rcases hS with ⟨h, -⟩ | ⟨-, ⟨a1, -, a2⟩ | ⟨a1, -, a2⟩ | ⟨a1, a2⟩⟩
        · exact absurd h nt
        · rcases a2 with ⟨-, f⟩ | ⟨b1, b2⟩
          · exact absurd (z1 hz) f
          · exact fin (Or.inl ⟨a1, b1, b2⟩)
        · rcases a2 with ⟨-, f⟩ | ⟨b1, b2, b3, b4⟩
          · exact absurd (z1 hz) f
          · exact fin (Or.inr (Or.inl ⟨a1, b1, b2, b3, b4⟩))
        · rcases a2 with ⟨⟨e1, e2⟩, hM⟩ | ⟨-, ⟨-, f⟩ | hF | hO⟩
          · have h27 : ζ.2.1 27 y.toNatClampNeg = -1 := n27 (by
              by_cases c : x2 = 0 ∨ 0 ≤ (ζ.2.1 27 y.toNatClampNeg).toInt
              · rw [if_pos c] at e2; exact absurd rfl e2
              · exact Int.not_le.mp (fun h => c (Or.inr h)))
            obtain ⟨q1, q2⟩ := g2 h27
            refine ⟨1, y0, Or.inl ⟨h27, q2.trans e1, ?_⟩⟩
            rw [q1]
            exact hM
          · exact absurd (z1 hz) f
          · exact fin (Or.inr (Or.inr ⟨a1, Or.inl hF⟩))
          · exact fin (Or.inr (Or.inr ⟨a1, Or.inr hO⟩))
      · cases i with
        | zero =>
          have ho : y = z := ho
          rw [← ho] at k72 ⊢
          obtain ⟨r', q1, q2⟩ := hw k72
          obtain ⟨-, -, -, e1, e2⟩ := h72 k72
          exact ⟨r', e2 _ _ _ g1 (e1 _ _ _ hT' q1), q2 (z0 hz)⟩
        | succ i => exact g4 hz i z ho.2 z0' k72
    refine v_typePlace_108 _ _ _ _ _ ⟨fun h => absurd h (by omega), fun _ => ⟨in_mi hB hF yi rfl rfl, fun h => go κ (TyS.rf hP) (fun a => ?_), fun h => ⟨in_mi hB hF yi rfl rfl, ?_⟩⟩⟩
    · rw [hF.row (g := 20) rfl] at h; exact absurd a h
    · rw [hF.row (g := 20) rfl] at h
      obtain ⟨ei, hr, hQ, -, -⟩ := h72 h
      rw [hF.row (g := 22) rfl]
      refine MC.mono (c_wanted hB (by omega) ei hr hQ hP) (fun _ κ0 g => go κ0 (g.1.up (fun j hj => Or.inl (s1 j hj))) (fun _ => ?_)) (fun _ h => h)
      obtain ⟨r', q1, q2⟩ := g.2
      exact ⟨r', q1, fun hz => by
        rcases q2 hz with ⟨-, h⟩ | ⟨h, -⟩
        · exact h
        · exact absurd rfl h⟩
end NNBF
