/-! contracts of the reference: METHODs and OVERRIDES of a LEVEL -/
abbrev M2r : List Nat := [28, 66, 68, 70, 71, 75, 78, 79]
/-- an OVERRIDE as it is told -/
def OvC (μ ζ : MS) (ρ ω : Nat → Int32) (ν : MS) (l o : Int32) : Prop := (RT μ ζ (ν.2.1 28 o.toNatClampNeg) ∧ Ob ζ (ν.2.1 28 o.toNatClampNeg) ∧ Sb ζ ρ (rlV ζ (supV ζ l)) (ν.2.1 28 o.toNatClampNeg)) ∧ 0 ≤ (lvV ζ ρ (ν.2.1 28 o.toNatClampNeg)).toInt ∧ ∃ m k, Nd ζ 11 m ∧ FstN ζ (ζ.2.1 22 o.toNatClampNeg) k (ζ.2.1 24 (lvV ζ ρ (ν.2.1 28 o.toNatClampNeg)).toNatClampNeg) m ∧ FtR μ ζ ρ (ω l.toNatClampNeg) (ζ.2.1 24 o.toNatClampNeg) (ζ.2.1 23 m.toNatClampNeg)
/-- METHODs of a row, told with their PROCEDUREs -/
def MdC (μ ζ : MS) (ρ ω : Nat → Int32) (l x : Int32) : Prop := ∀ j m, Onl (ζ.2.1 27) j x m → 0 ≤ m.toInt → 0 ≤ (ζ.2.1 24 m.toNatClampNeg).toInt → FtR μ ζ ρ (ω l.toNatClampNeg) (ζ.2.1 24 m.toNatClampNeg) (ζ.2.1 23 m.toNatClampNeg)
/-- what OVERRIDES may change: their own symbols -/
def M2 (ζ : MS) (ρ ω η : Nat → Int32) (x : Int32) (ν0 ν1 : MS) : Prop := P2 ζ ρ ω η ν1 ∧ FM ν0 ν1 ∧ kf Q2s M2r ν0 ν1 ∧ ∀ j, ν1.2.1 28 j = ν0.2.1 28 j ∨ ∃ i o, Onl (ζ.2.1 27) i x o ∧ 0 ≤ o.toInt ∧ o.toNatClampNeg = j
section NNAT
variable {X : ev_X} {W : Nat → Prop} {d : Nat} {P : MP} {μ ν ν0 ν1 κ ζ : MS} {T : MS → Prop} {x y z s t q r e u l o : Int32} {ρ ω η M M' : Nat → Int32} {w c : Nat}
theorem Q2.m2 (h : Q2 ζ ρ ω η ν0 ν1) : M2 ζ ρ ω η x ν0 ν1 := ⟨h.1, h.2.1, h.2.2.up rfl rfl, fun j => Or.inl (by rw [h.2.2.2.1 28 rfl])⟩
theorem M2.tr (h : M2 ζ ρ ω η x ν0 ν) (g : M2 ζ ρ ω η x ν ν1) : M2 ζ ρ ω η x ν0 ν1 := ⟨g.1, fun a => g.2.1 (h.2.1 a), h.2.2.1.tr g.2.2.1, fun j => by
  rcases g.2.2.2 j with e | e
  · rw [e]; exact h.2.2.2 j
  · exact Or.inr e⟩
theorem M2.on (h0 : 0 ≤ x.toInt) (h : M2 ζ ρ ω η (ζ.2.1 27 x.toNatClampNeg) ν0 ν1) : M2 ζ ρ ω η x ν0 ν1 := ⟨h.1, h.2.1, h.2.2.1, fun j => (h.2.2.2 j).imp id (fun ⟨i, o, a, b, c⟩ => ⟨i + 1, o, ⟨h0, a⟩, b, c⟩)⟩
/-- an OVERRIDE's symbol put -/
theorem m2_put (h : P2 ζ ρ ω η ν) (h0 : 0 ≤ o.toInt) (ko : ζ.2.1 20 o.toNatClampNeg = 35) {v : Int32} : M2 ζ ρ ω η o ν (mA1 ν 28 o.toNatClampNeg v) := by
  have k : kf [] [28] ν (mA1 ν 28 o.toNatClampNeg v) := kf.rf.A rfl
  obtain ⟨⟨hF, hK⟩, a3, a4⟩ := h
  have hF' : TF ζ (mA1 ν 28 o.toNatClampNeg v) := ⟨hF.1.tr k rfl rfl, hF.2.1, fun j => by
    show upd (ν.2.1 28) o.toNatClampNeg v j = _ ∨ _
    by_cases c : j = o.toNatClampNeg
    · rw [c]; exact Or.inr (Or.inr (Or.inr (Or.inl ko)))
    · rw [upd_off c]; exact hF.2.2.1 j, fun g hg j => by
    rw [show (mA1 ν 28 o.toNatClampNeg v).2.1 g = ν.2.1 g from row_off (by rcases hg with e | e | e <;> (rw [e]; rfl))]
    exact hF.2.2.2 g hg j⟩
  refine ⟨⟨⟨hF', JK.eq (ν := ν) rfl (fun _ _ => rfl) rfl hK⟩, a3, a4⟩, fun g => g, k.up rfl rfl, fun j => ?_⟩
  show upd (ν.2.1 28) o.toNatClampNeg v j = _ ∨ _
  by_cases c : j = o.toNatClampNeg
  · exact Or.inr ⟨0, o, rfl, h0, c.symm⟩
  · exact Or.inl (upd_off c)
theorem mb_11 (hx : Nd ζ 11 x) (h0 : 0 ≤ (ζ.2.1 24 x.toNatClampNeg).toInt) : Nd ζ 7 (ζ.2.1 24 x.toNatClampNeg) ∧ QK ζ (ζ.2.1 24 x.toNatClampNeg) 9 9 :=
  (Mb.qn (Or.inl hx)).resolve_left (fun e => by rw [e] at h0; exact absurd h0 (by decide))
theorem k_34 (hx : Nd ζ 11 x) : ζ.2.1 20 x.toNatClampNeg = 34 := by
  have hk : ([34] : List Int32).contains (ζ.2.1 20 x.toNatClampNeg) = true := hx.kind
  simpa using hk
theorem k_35 (hx : Nd ζ 12 x) : ζ.2.1 20 x.toNatClampNeg = 35 := by
  have hk : ([35] : List Int32).contains (ζ.2.1 20 x.toNatClampNeg) = true := hx.kind
  simpa using hk
theorem k_33 (hx : Nd ζ 10 x) : ζ.2.1 20 x.toNatClampNeg = 33 := by
  have hk : ([33] : List Int32).contains (ζ.2.1 20 x.toNatClampNeg) = true := hx.kind
  simpa using hk
theorem mr_14 (hZ : TZ μ ζ) (hR : RvO μ ζ ρ) (hd : 14 ≤ d) (hu : 0 ≤ u.toInt ∧ u.toInt < (μ.1 41).toInt) (ho : RT μ ζ (ω l.toNatClampNeg)) (ln : InN ζ l) {Rr : MS → Prop}
    (next : ∀ κ, Q2 ζ ρ ω η ν κ → ∀ x3 : Int32, x3.toInt < 0 → ME X W true d 403 14 [(0, .ref P.1), (1, .int l), (2, .int u), (3, .int x3)] [] P κ (fun _ ν1 => FM κ ν1 ∧ Rr ν1) T) : ∀ (n : Nat) (x3 : Int32) (κ : MS), Lst (Nd ζ 11) (ζ.2.1 27) n x3 → Q2 ζ ρ ω η ν κ → ME X W true d 403 14 [(0, .ref P.1), (1, .int l), (2, .int u), (3, .int x3)] [] P κ (fun _ ν1 => (ν1.1 17 = 0 → MdC μ ζ ρ ω l x3) ∧ FM κ ν1 ∧ Rr ν1) T := by
  have hB := hZ.1
  have h16 := hB.n16
  have fin : ∀ (x3 : Int32) (κ : MS), x3 = -1 → Q2 ζ ρ ω η ν κ → ME X W true d 403 14 [(0, .ref P.1), (1, .int l), (2, .int u), (3, .int x3)] [] P κ (fun _ ν1 => (ν1.1 17 = 0 → MdC μ ζ ρ ω l x3) ∧ FM κ ν1 ∧ Rr ν1) T := fun x3 κ e hQ => by
    subst e
    refine ME.mono (next κ hQ (-1) (by decide)) (fun _ ν1 h => ⟨fun _ j m hj h0 => ?_, h⟩) (fun _ h => h)
    cases j with
    | zero => have hj : (-1 : Int32) = m := hj; rw [← hj] at h0; exact absurd h0 (by decide)
    | succ j => exact absurd hj.1 (by decide)
  intro n
  induction n with
  | zero => intro x3 κ hL hQ; exact fin x3 κ hL hQ
  | succ n ih =>
    intro x3 κ hL hQ
    rcases hL with hL | ⟨hx, hL⟩
    · exact fin x3 κ hL hQ
    have hF := hQ.1.1.1
    have r24 : κ.2.1 24 x3.toNatClampNeg = ζ.2.1 24 x3.toNatClampNeg := hF.k24 (Or.inl rfl) (sfx_of (nk34 hx) rfl)
    have lm : ∀ {κ : MS} {g : Nat}, TF ζ κ → rk g = true → rlen g = 16000 → MI l (κ.2.2 g) := fun hF hg hr => MI.of ((hF.1.2.2).g hg hr) ln.1 (by have := ln.2; omega)
    have on : ∀ κ', Q2 ζ ρ ω η ν κ' → (κ'.1 17 = 0 → 0 ≤ (ζ.2.1 24 x3.toNatClampNeg).toInt → FtR μ ζ ρ (ω l.toNatClampNeg) (ζ.2.1 24 x3.toNatClampNeg) (ζ.2.1 23 x3.toNatClampNeg)) → FM κ κ' → MI x3 (κ'.2.2 27) ∧ ME X W true d 403 14 [(0, .ref P.1), (1, .int l), (2, .int u), (3, .int (κ'.2.1 27 x3.toNatClampNeg))] [] P κ' (fun _ ν1 => (ν1.1 17 = 0 → MdC μ ζ ρ ω l x3) ∧ FM κ ν1 ∧ Rr ν1) T := fun κ' hQ' hc hm => by
      refine ⟨hx.mi hB hQ'.1.1.1 rfl rfl, ?_⟩
      rw [hQ'.1.1.1.row (g := 27) rfl]
      refine ME.mono (ih _ κ' hL hQ') (fun _ ν1 h => ⟨fun h17 j m hj h0 h24 => ?_, fun g => h.2.1 (hm g), h.2.2⟩) (fun _ h => h)
      cases j with
      | zero =>
        have hj : x3 = m := hj
        subst hj
        exact hc (Classical.byContradiction (fun g => h.2.1 g h17)) h24
      | succ j => exact h.1 h17 j m hj.2 h0 h24
    refine v_memberRound_14 _ _ _ ⟨fun h => by have := hx.in.1; omega, fun _ => ⟨hx.mi hB hF rfl rfl, fun hlt => ?_, fun hge => ⟨lm hF rfl rfl, hx.mi hB hF rfl rfl, hx.mi hB hF rfl rfl, ?_⟩⟩⟩
    · rw [r24] at hlt
      exact on κ hQ (fun _ h => by omega) (fun g => g)
    · rw [r24] at hge ⊢
      obtain ⟨qn, qk⟩ := mb_11 hx hge
      rw [hQ.1.2.1.2.1, hF.row (g := 23) rfl]
      refine MC.mono (c_fits hZ hQ.1 hR hd hu ho qn qk (me_sg hx)) (fun r3 κ3 h3 => ?_) (fun _ h => h)
      obtain ⟨hQ3, -, hf⟩ := h3
      have hQ3' := hQ.tr hQ3
      refine ⟨fun hr => on κ3 hQ3' (fun _ _ => hf hr) hQ3.2.1, fun hr => ⟨hx.mi hB hQ3.1.1.1 rfl rfl, MC.mono (q2_rule (Q2.rf hQ3.1) (by omega) (by decide)) (fun _ κ4 h4 => on κ4 (hQ3'.tr h4.1) (fun h => absurd h h4.2) (fun _ => h4.2)) (fun _ h => h)⟩⟩
theorem mr_93 (hZ : TZ μ ζ) (hR : RvO μ ζ ρ) (hd : 14 ≤ d) (hu : 0 ≤ u.toInt ∧ u.toInt < (μ.1 41).toInt) (ho : RT μ ζ (ω l.toNatClampNeg)) (ln : InN ζ l) {fr : Int32} (ef : fr = rlV ζ (supV ζ l)) (hfr : RT μ ζ fr) : ∀ (n : Nat) (x4 : Int32) (κ : MS), Lst (Nd ζ 12) (ζ.2.1 27) n x4 → P2 ζ ρ ω η κ → ME X W true d 403 93 [(0, .ref P.1), (1, .int l), (2, .int u), (3, .int fr), (4, .int x4)] [] P κ (fun _ ν1 => M2 ζ ρ ω η x4 κ ν1 ∧ (ν1.1 17 = 0 → ∀ j o, Onl (ζ.2.1 27) j x4 o → 0 ≤ o.toInt → OvC μ ζ ρ ω ν1 l o)) T := by
  have hB := hZ.1
  have h16 := hB.n16
  have fin : ∀ (x4 : Int32) (κ : MS), x4 = -1 → P2 ζ ρ ω η κ → ME X W true d 403 93 [(0, .ref P.1), (1, .int l), (2, .int u), (3, .int fr), (4, .int x4)] [] P κ (fun _ ν1 => M2 ζ ρ ω η x4 κ ν1 ∧ (ν1.1 17 = 0 → ∀ j o, Onl (ζ.2.1 27) j x4 o → 0 ≤ o.toInt → OvC μ ζ ρ ω ν1 l o)) T := fun x4 κ e hP => by
    subst e
    refine v_memberRound_93 _ _ _ _ ⟨fun _ => ⟨(Q2.rf hP).m2, fun _ j m hj h0 => ?_⟩, fun h => absurd h (by decide)⟩
    cases j with
    | zero => have hj : (-1 : Int32) = m := hj; rw [← hj] at h0; exact absurd h0 (by decide)
    | succ j => exact absurd hj.1 (by decide)
  intro n
  induction n with
  | zero => intro x4 κ hL hP; exact fin x4 κ hL hP
  | succ n ih =>
    intro x4 κ hL hP
    rcases hL with hL | ⟨hx, hL⟩
    · exact fin x4 κ hL hP
    have x0 := hx.in.1
    have k35 := k_35 hx
    have hF := hP.1.1
    have lm : ∀ {κ : MS} {g : Nat}, TF ζ κ → rk g = true → rlen g = 16000 → MI l (κ.2.2 g) := fun hF hg hr => MI.of ((hF.1.2.2).g hg hr) ln.1 (by have := ln.2; omega)
    have xm : ∀ {κ : MS} {g : Nat}, TF ζ κ → rk g = true → rlen g = 16000 → MI x4 (κ.2.2 g) := fun hF h1 h2 => hx.mi hB hF h1 h2
    have on : ∀ κ', M2 ζ ρ ω η x4 κ κ' → (κ'.1 17 = 0 → OvC μ ζ ρ ω κ' l x4) → MI x4 (κ'.2.2 27) ∧ ME X W true d 403 93 [(0, .ref P.1), (1, .int l), (2, .int u), (3, .int fr), (4, .int (κ'.2.1 27 x4.toNatClampNeg))] [] P κ' (fun _ ν1 => M2 ζ ρ ω η x4 κ ν1 ∧ (ν1.1 17 = 0 → ∀ j o, Onl (ζ.2.1 27) j x4 o → 0 ≤ o.toInt → OvC μ ζ ρ ω ν1 l o)) T := fun κ' hM hc => by
      have hF' := hM.1.1.1
      refine ⟨xm hF' rfl rfl, ?_⟩
      rw [hF'.row (g := 27) rfl]
      refine ME.mono (ih _ κ' hL hM.1) (fun _ ν1 h => ⟨hM.tr (h.1.on x0), fun h17 j o hj h0 => ?_⟩) (fun _ h => h)
      cases j with
      | zero =>
        have hj : x4 = o := hj
        subst hj
        rcases h.1.2.2.2 x4.toNatClampNeg with e | ⟨i, o', a1, a2, a3⟩
        · have g := hc (Classical.byContradiction (fun g => h.1.2.1 g h17))
          unfold OvC at g ⊢
          rw [e]; exact g
        · have hn := Lst.onl a2 hL a1
          have : o' = x4 := in_eq hn.in hx.in a3
          subst this
          exact h.2 h17 i o' a1 a2
      | succ j => exact h.2 h17 j o hj.2 h0
    have flt : ∀ (κ1 : MS) (v y : Int32), M2 ζ ρ ω η x4 κ κ1 → MC X W true d 290 [.ref P.1, .int 11, .int y] P (mA1 κ1 28 x4.toNatClampNeg v) (fun r2 μ2 => (MI x4 (μ2.2.2 27) ∧ ME X W true d 403 93 [(0, .ref P.1), (1, .int l), (2, .int u), (3, .int fr), (4, .int (μ2.2.1 27 x4.toNatClampNeg))] [] P μ2 (fun _ ν1 => M2 ζ ρ ω η x4 κ ν1 ∧ (ν1.1 17 = 0 → ∀ j o, Onl (ζ.2.1 27) j x4 o → 0 ≤ o.toInt → OvC μ ζ ρ ω ν1 l o)) T)) (fun _ => False) := fun κ1 v y h1 => by
      have h2 := m2_put (v := v) h1.1 x0 k35
      exact MC.mono (q2_rule (Q2.rf h2.1) (by omega) (by decide)) (fun _ κ4 h4 => on κ4 (h1.tr (h2.tr h4.1.m2)) (fun h => absurd h h4.2)) (fun _ h => h)
    refine v_memberRound_93 _ _ _ _ ⟨fun h => by omega, fun _ => MC.mono (c_isObject hF (by omega) (hfr.mi hB hF rfl rfl)) (fun r1 κ1 h1 => ?_) (fun _ h => h)⟩
    have e1 := h1.1.symm
    subst e1
    refine ⟨fun _ => ⟨xm hF rfl rfl, xm hF rfl rfl, flt κ _ _ (Q2.rf hP).m2⟩, fun _ => ⟨xm hF rfl rfl, ?_⟩⟩
    rw [hF.row (g := 22) rfl]
    refine MC.mono (c_memberOf hZ hF hP.1.2 hP.2.1.1 hR (by omega) hu hfr) (fun r3 κ3 h3 => ?_) (fun _ h => h)
    obtain ⟨⟨a1, a2, a3⟩, a4⟩ := h3
    have hQ : Q2 ζ ρ ω η κ κ3 := ⟨hP.al a1 a2 a3 rfl rfl rfl rfl, fm_kf a3 rfl, a3.up rfl rfl⟩
    refine ⟨xm a1 rfl rfl, fun _ => ⟨xm a1 rfl rfl, flt κ3 _ _ hQ.m2⟩, fun h0 => ?_⟩
    obtain ⟨⟨b1, b2, b3⟩, b4, b5⟩ := a4.resolve_left (fun e => by rw [e] at h0; exact absurd h0 (by decide))
    have rm : ∀ {g : Nat}, rk g = true → rlen g = 16000 → MI r3 (κ3.2.2 g) := fun hg hr => b5.elim (fun h => h.1.mi hB a1 hg hr) (fun h => h.1.mi hB a1 hg hr)
    refine ⟨rm rfl rfl, fun _ => ⟨xm a1 rfl rfl, flt κ3 _ _ hQ.m2⟩, fun k34 => ⟨lm a1 rfl rfl, xm a1 rfl rfl, rm rfl rfl, ?_⟩⟩
    rw [a1.row (g := 20) rfl] at k34
    obtain ⟨mn, k, mk⟩ := b5.resolve_left (fun h => by have := k_33 h.1; rw [k34] at this; exact absurd this (by decide))
    have hM := m2_put (v := κ3.1 80) hQ.1 x0 k35
    have hf := Mb.qn (Or.inr hx)
    obtain ⟨qn, qk⟩ := hf.resolve_left (fun e => by
      have hf := hx.fld (f := 2) (by omega)
      rw [k35] at hf
      have := hf.1.in.1
      rw [show ζ.2.1 (22 + 2) x4.toNatClampNeg = -1 from e] at this
      exact absurd this (by decide))
    rw [hQ.1.2.1.2.1, a1.k24 (Or.inl rfl) (sfx_of k35 rfl), a1.row (g := 23) rfl]
    refine MC.mono (c_fits hZ hM.1 hR hd hu ho qn qk (me_sg mn)) (fun r6 κ6 h6 => ?_) (fun _ h => h)
    obtain ⟨hQ6, -, hft⟩ := h6
    have hM6 : M2 ζ ρ ω η x4 κ κ6 := (hQ.m2).tr (hM.tr hQ6.m2)
    have e28 : κ6.2.1 28 x4.toNatClampNeg = κ3.1 80 := by
      rw [hQ6.2.2.2.1 28 rfl]
      show upd (κ3.2.1 28) x4.toNatClampNeg (κ3.1 80) x4.toNatClampNeg = _
      exact upd_at
    refine ⟨fun hr => on κ6 hM6 (fun _ => ?_), fun _ => ⟨xm hQ6.1.1.1 rfl rfl, MC.mono (q2_rule (Q2.rf hQ6.1) (by omega) (by decide)) (fun _ κ4 h4 => on κ4 (hM6.tr h4.1.m2) (fun h => absurd h h4.2)) (fun _ h => h)⟩⟩
    unfold OvC
    rw [e28, ← ef]
    exact ⟨⟨b1, b2, b3⟩, b4, r3, k, mn, mk, hft hr⟩
/-- METHODs and OVERRIDES of a LEVEL -/
theorem c_memberRound (hZ : TZ μ ζ) (hY : TY μ ζ) (hP : P2 ζ ρ ω η ν) (hR : RvO μ ζ ρ) (hd : 15 ≤ d) (ho : RT μ ζ (ω l.toNatClampNeg)) (ln : Nd ζ 0 l) (kl : ζ.2.1 20 l.toNatClampNeg = 32) : MC X W true d 403 [.ref P.1, .int l] P ν (fun _ ν1 => M2 ζ ρ ω η (ζ.2.1 25 l.toNatClampNeg) ν ν1 ∧ (ν1.1 17 = 0 → MdC μ ζ ρ ω l (ζ.2.1 24 l.toNatClampNeg) ∧ ∀ o, Ovr ζ l o → OvC μ ζ ρ ω ν1 l o)) T := by
  have hB := hZ.1
  have hF := hP.1.1
  have hu := hY.2.2.1 l ln.in
  obtain ⟨-, ⟨m1, hm1⟩, m2, hm2⟩ := lv_row hZ ⟨ln, kl⟩
  refine me_meth (by omega) rfl (v_memberRound_0 _ ⟨ln.mi hB hF rfl rfl, ln.mi hB hF rfl rfl, ?_⟩)
  rw [hF.row (g := 29) rfl, hF.k24 (Or.inl rfl) (sfx_of kl rfl)]
  refine ME.mono (mr_14 (ν := ν) (Rr := fun ν1 => M2 ζ ρ ω η (ζ.2.1 25 l.toNatClampNeg) ν ν1 ∧ (ν1.1 17 = 0 → ∀ o, Ovr ζ l o → OvC μ ζ ρ ω ν1 l o)) hZ hR (by omega) hu ho ln.in (fun κ hQ x3 h3 => ?_) m1 _ ν hm1 (Q2.rf hP)) (fun _ ν1 h => ⟨h.2.2.1, fun h17 => ⟨h.1 h17, h.2.2.2 h17⟩⟩) (fun _ h => h)
  have hFκ := hQ.1.1.1
  refine v_memberRound_14 _ _ _ ⟨fun _ => MC.mono (c_super hFκ (by omega) (ln.mi hB hFκ rfl rfl)) (fun r1 κ1 h1 => ?_) (fun _ h => h), fun h => by omega⟩
  obtain ⟨e1, es⟩ := h1
  have e1 := e1.symm
  subst e1
  rw [es]
  refine MC.mono (c_real hB hFκ (by omega) (sup_nd hZ ln kl)) (fun fr κ2 h2 => ?_) (fun _ h => h)
  obtain ⟨e2, ef, tf⟩ := h2
  have e2 := e2.symm
  subst e2
  refine ⟨ln.mi hB hFκ rfl rfl, ?_⟩
  rw [hFκ.k24 (Or.inr (Or.inl rfl)) (sfx_of kl rfl)]
  refine ME.mono (mr_93 hZ hR (by omega) hu ho ln.in ef tf m2 _ κ hm2 hQ.1) (fun _ ν1 h => ⟨h.1.2.1, hQ.m2.tr h.1, fun h17 o ho => ?_⟩) (fun _ h => h)
  obtain ⟨j, h1, h2⟩ := ho
  exact h.2 h17 j o h1 h2
end NNAT
