/-! contracts of the reference: EXPRESSIONs of which the parts' typing is given -/
abbrev TSs : List Nat := [17, 18, 67, 69, 74, 76, 77, 80, 91, 92]
abbrev TSr : List Nat := [24, 25, 26, 28, 66, 68, 70, 71, 75, 78, 79, 81, 88]
/-- nodes of a set typed, nothing else kept but a FAULT and CELLS -/
def TyS (ζ : MS) (ρ ω η : Nat → Int32) (D : Nat → Prop) (ν0 ν1 : MS) : Prop := P2 ζ ρ ω η ν1 ∧ (FM ν0 ν1 ∧ kf TSs TSr ν0 ν1 ∧ KP (ν0.2.1 81) (ν1.2.1 81)) ∧ (∀ j, ¬ D j → ∀ g, g = 24 ∨ g = 25 ∨ g = 26 ∨ g = 28 ∨ g = 88 → ν1.2.1 g j = ν0.2.1 g j) ∧ (S91 ζ ν0 → S91 ζ ν1)
/-- typing a part: what it touches, what is known of it then -/
def RcE (X : ev_X) (W : Nat → Prop) (P : MP) (d : Nat) (ζ : MS) (ρ ω η : Nat → Int32) (e : Int32) (D : Nat → Prop) (Q : MS → Int32 → Prop) : Prop := ∀ (κ : MS) (T : MS → Prop), P2 ζ ρ ω η κ → MC X W true d 426 [.ref P.1, .int e] P κ (fun r κ1 => TyS ζ ρ ω η D κ κ1 ∧ Q κ1 r) T
/-- what is known of a part tells a TYPE and stays when others are looked up -/
def QeT (μ ζ : MS) (ρ ω η : Nat → Int32) (Q : MS → Int32 → Prop) : Prop := (∀ κ r, Q κ r → VT μ ζ r) ∧ ∀ κ κ' r, Q3 ζ ρ ω η κ κ' → Q κ r → Q κ' r
/-- it stays when another set is typed -/
def QeS (ζ : MS) (ρ ω η : Nat → Int32) (D : Nat → Prop) (Q : MS → Int32 → Prop) : Prop := ∀ κ κ' r, TyS ζ ρ ω η D κ κ' → Q κ r → Q κ' r
/-- a row of OPERANDs whose parts are apart -/
def OpS (X : ev_X) (W : Nat → Prop) (P : MP) (d : Nat) (μ ζ : MS) (ρ ω η : Nat → Int32) (D : Int32 → Nat → Prop) (Q : Int32 → MS → Int32 → Prop) : Nat → (Int32 → Prop) → Int32 → Prop
  | 0, _, y => y = -1
  | m + 1, A, y => y = -1 ∨ (InN ζ y ∧ (RcE X W P d ζ ρ ω η (ζ.2.1 23 y.toNatClampNeg) (D (ζ.2.1 23 y.toNatClampNeg)) (Q (ζ.2.1 23 y.toNatClampNeg)) ∧ QeT μ ζ ρ ω η (Q (ζ.2.1 23 y.toNatClampNeg))) ∧ (∀ a, A a → QeS ζ ρ ω η (D (ζ.2.1 23 y.toNatClampNeg)) (Q a)) ∧ OpS X W P d μ ζ ρ ω η D Q m (fun a => A a ∨ a = ζ.2.1 23 y.toNatClampNeg) (ζ.2.1 27 y.toNatClampNeg))
section NNBA
variable {X : ev_X} {W : Nat → Prop} {d : Nat} {P : MP} {μ ν ν0 ν1 κ ζ : MS} {T : MS → Prop} {x y z s t q r e u v k l b : Int32} {ρ ω η M M' : Nat → Int32} {w c : Nat} {D D' : Nat → Prop} {Q Q' : MS → Int32 → Prop}
theorem TyS.rf (h : P2 ζ ρ ω η ν) : TyS ζ ρ ω η D ν ν := ⟨h, ⟨fun g => g, kf.rf, KP.rf⟩, fun _ _ _ _ => rfl, fun g => g⟩
theorem TyS.tr (h : TyS ζ ρ ω η D ν0 ν) (g : TyS ζ ρ ω η D ν ν1) : TyS ζ ρ ω η D ν0 ν1 := ⟨g.1, ⟨fun a => g.2.1.1 (h.2.1.1 a), h.2.1.2.1.tr g.2.1.2.1, h.2.1.2.2.tr g.2.1.2.2⟩, fun j hj i hi => (g.2.2.1 j hj i hi).trans (h.2.2.1 j hj i hi), fun a => g.2.2.2 (h.2.2.2 a)⟩
theorem TyS.up (h : TyS ζ ρ ω η D ν0 ν) (hs : ∀ j, D j → D' j) : TyS ζ ρ ω η D' ν0 ν := ⟨h.1, h.2.1, fun j hj => h.2.2.1 j (fun a => hj (hs j a)), h.2.2.2⟩
theorem Q3.ts (h : Q3 ζ ρ ω η ν0 ν1) : TyS ζ ρ ω η D ν0 ν1 := ⟨h.1, ⟨h.2.1, h.2.2.1.up rfl rfl, h.2.2.2⟩, fun j _ g hg => by
  rcases hg with e | e | e | e | e <;> (rw [e]; rw [h.2.2.1.2.1 _ rfl]), fun a => by unfold S91; rw [h.2.2.1.1 91 rfl]; exact a⟩
theorem T1.ts (h : T1 ζ ρ ω η b ν0 ν1) (hb : D b.toNatClampNeg) : TyS ζ ρ ω η D ν0 ν1 := ⟨h.1, ⟨h.2.1.1, h.2.1.2.1.up rfl rfl, h.2.1.2.2⟩, fun j hj g hg => by
  have ne : ¬ j = b.toNatClampNeg := fun e => hj (by rw [e]; exact hb)
  rcases hg with e | e | e | e | e
  · rw [e]; exact (h.2.2.1 j ne).1
  · rw [e]; exact (h.2.2.1 j ne).2
  · rw [e, h.2.1.2.1.2.1 26 rfl]
  · rw [e, h.2.1.2.1.2.1 28 rfl]
  · rw [e, h.2.1.2.1.2.1 88 rfl], h.2.2.2⟩
theorem q3_flt (h : P2 ζ ρ ω η ν) (k : kf [17, 18] [] ν ν1) (hf : ¬ ν1.1 17 = 0) : Q3 ζ ρ ω η ν ν1 := (q2_flt h k hf).q3
theorem c_wanted (hB : TB μ ζ) (hd : 4 ≤ d) (he : InN ζ e) (hr : RcE X W P d ζ ρ ω η e D Q) (hQ : QeT μ ζ ρ ω η Q) (hP : P2 ζ ρ ω η ν) : MC X W true (d + 1) 411 [.ref P.1, .int e, .int k] P ν (fun _ κ1 => TyS ζ ρ ω η D ν κ1 ∧ ∃ r, Q κ1 r ∧ (κ1.1 17 = 0 → (k = 21 ∧ VI ζ r) ∨ (¬ k = 21 ∧ (VK ζ r k ∨ (r = -2 ∧ ¬ k = 22))))) T := by
  have hr' : RcE X W P (d + 1 - 1) ζ ρ ω η e D Q := hr
  refine me_meth (by omega) rfl (v_wanted_0 _ _ (MC.mono (hr' ν _ hP) (fun r1 κ hκ => ?_) (fun _ h => h)))
  obtain ⟨hT, hq⟩ := hκ
  have hF := hT.1.1.1
  have vt := hQ.1 _ _ hq
  have bad : MI e (κ.2.2 30) ∧ MC X W true (d + 1 - 1) 290 [.ref P.1, .int 12, .int (κ.2.1 30 e.toNatClampNeg)] P κ (fun _ κ1 => TyS ζ ρ ω η D ν κ1 ∧ ∃ r, Q κ1 r ∧ (κ1.1 17 = 0 → (k = 21 ∧ VI ζ r) ∨ (¬ k = 21 ∧ (VK ζ r k ∨ (r = -2 ∧ ¬ k = 22))))) (fun _ => False) := ⟨in_mi hB hF he rfl rfl, MC.mono (c_ruF (by omega) (by decide)) (fun _ κ1 g => ⟨hT.tr (q3_flt hT.1 g.1 g.2).ts, r1, hQ.2 _ _ _ (q3_flt hT.1 g.1 g.2) hq, fun h => absurd h g.2⟩) (fun _ h => h)⟩
  refine ⟨fun n21 => MC.mono (c_isKind hB hF (by omega) vt) (fun r2 κ1 h1 => ?_) (fun _ h => h), fun e21 => MC.mono (c_isInteger hB hF (by omega) vt) (fun r5 κ1 h1 => ?_) (fun _ h => h)⟩
  · obtain ⟨e1, -, h2⟩ := h1
    have e1 := e1.symm
    subst e1
    refine ⟨fun h => ⟨hT, r1, hq, fun _ => Or.inr ⟨n21, Or.inl (h2.1 h)⟩⟩, fun h => ⟨fun _ => bad, fun em => ⟨fun _ => bad, fun n22 => ⟨hT, r1, hq, fun _ => Or.inr ⟨n21, Or.inr ⟨em, n22⟩⟩⟩⟩⟩⟩
  · obtain ⟨e1, -, h2⟩ := h1
    have e1 := e1.symm
    subst e1
    exact ⟨fun h => ⟨hT, r1, hq, fun _ => Or.inl ⟨e21, h2.1 h⟩⟩, fun _ => bad⟩
/-- OPERANDs gone through -/
theorem ch_76 (hB : TB μ ζ) (hd : 4 ≤ d) {D : Int32 → Nat → Prop} {Q : Int32 → MS → Int32 → Prop} {D0 : Nat → Prop} {x1 x2 : Int32} (hx1 : InN ζ x1) : ∀ (m : Nat) (A : Int32 → Prop) (x3 x4 y : Int32) (κ : MS), OpS X W P d μ ζ ρ ω η D Q m A y → (∀ i z, Onl (ζ.2.1 27) i y z → 0 ≤ z.toInt → ∀ j, D (ζ.2.1 23 z.toNatClampNeg) j → D0 j) → (∀ a, A a → QeT μ ζ ρ ω η (Q a) ∧ ∃ r, Q a κ r) → TyS ζ ρ ω η D0 ν κ →
    ME X W true d 428 76 [(0, .ref P.1), (1, .int x1), (2, .int x2), (3, .int x3), (4, .int x4), (5, .int y)] [] P κ (fun r κ1 => TyS ζ ρ ω η D0 ν κ1 ∧ ((∀ a, A a → ∃ r, Q a κ1 r) ∧ ∀ i z, Onl (ζ.2.1 27) i y z → 0 ≤ z.toInt → ∃ r, Q (ζ.2.1 23 z.toNatClampNeg) κ1 r) ∧ ((r = -1 ∧ ¬ κ1.1 17 = 0) ∨ r = ζ.1 85 ∨ r = ζ.1 86)) T := by
  have s85 : ∀ {κ : MS}, TF ζ κ → κ.1 85 = ζ.1 85 ∧ κ.1 86 = ζ.1 86 := fun h => ⟨h.1.1 85 rfl, h.1.1 86 rfl⟩
  have nil : ∀ (A : Int32 → Prop) (x3 x4 y : Int32) (κ : MS), y = -1 → (∀ a, A a → QeT μ ζ ρ ω η (Q a) ∧ ∃ r, Q a κ r) → TyS ζ ρ ω η D0 ν κ →
    ME X W true d 428 76 [(0, .ref P.1), (1, .int x1), (2, .int x2), (3, .int x3), (4, .int x4), (5, .int y)] [] P κ (fun r κ1 => TyS ζ ρ ω η D0 ν κ1 ∧ ((∀ a, A a → ∃ r, Q a κ1 r) ∧ ∀ i z, Onl (ζ.2.1 27) i y z → 0 ≤ z.toInt → ∃ r, Q (ζ.2.1 23 z.toNatClampNeg) κ1 r) ∧ ((r = -1 ∧ ¬ κ1.1 17 = 0) ∨ r = ζ.1 85 ∨ r = ζ.1 86)) T := fun A x3 x4 y κ ey hA hT => by
    subst ey
    have hF := hT.1.1.1
    have no : ∀ {κ1 : MS} (i : Nat) (z : Int32), Onl (ζ.2.1 27) i (-1) z → 0 ≤ z.toInt → ∃ r, Q (ζ.2.1 23 z.toNatClampNeg) κ1 r := fun i z ho z0 => by
      cases i with
      | zero => have ho : (-1 : Int32) = z := ho; rw [← ho] at z0; exact absurd z0 (by decide)
      | succ i => exact absurd ho.1 (by decide)
    refine v_chained_76 _ _ _ _ _ ⟨fun _ => ⟨fun _ => ⟨fun _ => ⟨hT, ⟨fun a ha => (hA a ha).2, no⟩, Or.inr (Or.inl (s85 hF).1)⟩, fun _ => ⟨hT, ⟨fun a ha => (hA a ha).2, no⟩, Or.inr (Or.inr (s85 hF).2)⟩⟩, fun _ => ?_⟩, fun h => absurd h (by decide)⟩
    refine MC.mono (c_wrong hB hF (by omega) (by decide) hx1) (fun r κ1 g => ?_) (fun _ h => h)
    have hq3 := q3_flt hT.1 g.2.1 g.2.2
    exact ⟨hT.tr hq3.ts, ⟨fun a ha => by
      obtain ⟨h1, r, h2⟩ := hA a ha
      exact ⟨r, h1.2 _ _ _ hq3 h2⟩, no⟩, Or.inl ⟨g.1, g.2.2⟩⟩
  intro m
  induction m with
  | zero => intro A x3 x4 y κ hO _ hA hT; exact nil A x3 x4 y κ hO hA hT
  | succ m ih =>
    intro A x3 x4 y κ hO hD hA hT
    rcases hO with hO | ⟨yi, ⟨hr, hQ⟩, hst, hO⟩
    · exact nil A x3 x4 y κ hO hA hT
    have hF := hT.1.1.1
    have y0 := yi.1
    refine v_chained_76 _ _ _ _ _ ⟨fun h => absurd h (by omega), fun _ => ⟨in_mi hB hF yi rfl rfl, ?_⟩⟩
    rw [hF.row (g := 23) rfl]
    refine MC.mono (hr κ _ hT.1) (fun r2 κ2 h2 => ?_) (fun _ h => h)
    obtain ⟨hT2, hq2⟩ := h2
    have hF2 := hT2.1.1.1
    have hT' : TyS ζ ρ ω η D0 ν κ2 := hT.tr (hT2.up (hD 0 y rfl y0))
    have hA' : ∀ a, (A a ∨ a = ζ.2.1 23 y.toNatClampNeg) → QeT μ ζ ρ ω η (Q a) ∧ ∃ r, Q a κ2 r := fun a ha => by
      rcases ha with ha | ha
      · obtain ⟨h1, r, h3⟩ := hA a ha
        exact ⟨h1, r, hst a ha _ _ _ hT2 h3⟩
      · rw [ha]; exact ⟨hQ, r2, hq2⟩
    have go : ∀ (x3 x4 : Int32), MI y (κ2.2.2 27) ∧ ME X W true d 428 76 [(0, .ref P.1), (1, .int x1), (2, .int x2), (3, .int x3), (4, .int x4), (5, .int (κ2.2.1 27 y.toNatClampNeg))] [] P κ2 (fun r κ1 => TyS ζ ρ ω η D0 ν κ1 ∧ ((∀ a, A a → ∃ r, Q a κ1 r) ∧ ∀ i z, Onl (ζ.2.1 27) i y z → 0 ≤ z.toInt → ∃ r, Q (ζ.2.1 23 z.toNatClampNeg) κ1 r) ∧ ((r = -1 ∧ ¬ κ1.1 17 = 0) ∨ r = ζ.1 85 ∨ r = ζ.1 86)) T := fun x3 x4 => by
      refine ⟨in_mi hB hF2 yi rfl rfl, ?_⟩
      rw [hF2.row (g := 27) rfl]
      refine ME.mono (ih _ x3 x4 _ κ2 hO (fun i z ho z0 => hD (i + 1) z ⟨y0, ho⟩ z0) hA' hT') (fun r κ1 g => ?_) (fun _ h => h)
      refine ⟨g.1, ⟨fun a ha => g.2.1.1 a (Or.inl ha), fun i z ho z0 => ?_⟩, g.2.2⟩
      cases i with
      | zero =>
        have ho : y = z := ho
        rw [← ho]
        exact g.2.1.1 _ (Or.inr rfl)
      | succ i => exact g.2.1.2 i z ho.2 z0
    have vt := hQ.1 _ _ hq2
    refine ⟨fun _ => go r2 0, fun _ => ⟨fun _ => MC.mono (c_isInteger hB hF2 (by omega) vt) (fun r3 κ3 h3 => ?_) (fun _ h => h), fun _ => MC.mono (c_isKind hB hF2 (by omega) vt) (fun r4 κ3 h3 => ?_) (fun _ h => h)⟩⟩
    · have e1 := h3.1.symm
      subst e1
      exact ⟨fun _ => go r2 0, fun _ => go r2 1⟩
    · have e1 := h3.1.symm
      subst e1
      exact ⟨fun _ => go r2 0, fun _ => go r2 1⟩
end NNBA
