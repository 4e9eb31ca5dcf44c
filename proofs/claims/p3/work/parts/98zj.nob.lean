/-! contracts of the reference: below; the FIELDs and METHODs of an OBJECT type as a unit sees it -/
/-- a TYPE below another one -/
def BlR (μ ζ : MS) (ρ : Nat → Int32) (a b : Int32) : Prop := Alk ζ a b ∨ (ζ.2.1 20 a.toNatClampNeg = 27 ∧ (ζ.2.1 20 b.toNatClampNeg = 21 ∨ ζ.2.1 20 b.toNatClampNeg = 27)) ∨ ((ζ.2.1 20 a.toNatClampNeg = 31 ∧ ζ.2.1 20 b.toNatClampNeg = 31) ∧ SgR ζ (Alk ζ) (ζ.2.1 22 a.toNatClampNeg) (ζ.2.1 22 b.toNatClampNeg) (ζ.2.1 22 (ζ.2.1 22 a.toNatClampNeg).toNatClampNeg) (ζ.2.1 22 (ζ.2.1 22 b.toNatClampNeg).toNatClampNeg)) ∨ ((Ob ζ a ∧ Ob ζ b) ∧ ∃ y, Sb ζ ρ a y ∧ RT μ ζ y ∧ Ob ζ y ∧ Alk ζ y b)
abbrev BFs : List Nat := [67, 69, 74, 76, 77]
abbrev BFr : List Nat := [66, 68, 70, 71, 75, 78, 79]
/-- on the way up: so many met, all marked -/
def WyM (ζ ν : MS) (c : Nat) : Prop := ∃ s : Nat → Int32, (∀ i, i < c → InN ζ (s i) ∧ ν.2.1 79 (s i).toNatClampNeg = ν.1 77) ∧ ∀ i j, i < j → j < c → ¬ (s i).toNatClampNeg = (s j).toNatClampNeg
/-- what isBelow answers -/
def IbR (μ ζ : MS) (ρ : Nat → Int32) (a b : Int32) (ν0 : MS) (r : Int32) (ν1 : MS) : Prop := (TF ζ ν1 ∧ JK ζ ν1 ∧ kf BFs BFr ν0 ν1) ∧ (r = 0 ∨ r = 1) ∧ (¬ r = 0 → BlR μ ζ ρ a b)
/-- the first of a row with a name -/
def FstN (ζ : MS) (nm : Int32) : Nat → Int32 → Int32 → Prop
  | 0, x, r => (x = r ∧ 0 ≤ r.toInt) ∧ ζ.2.1 22 r.toNatClampNeg = nm
  | k + 1, x, r => (0 ≤ x.toInt ∧ ¬ ζ.2.1 22 x.toNatClampNeg = nm) ∧ FstN ζ nm k (ζ.2.1 27 x.toNatClampNeg) r
/-- what memberOf answers -/
def MbR (μ ζ : MS) (ρ : Nat → Int32) (t nm : Int32) (ν0 : MS) (r : Int32) (ν1 : MS) : Prop := (TF ζ ν1 ∧ JK ζ ν1 ∧ kf [67, 69, 74, 76, 77, 80] BFr ν0 ν1) ∧ (r = -1 ∨ ((RT μ ζ (ν1.1 80) ∧ Ob ζ (ν1.1 80) ∧ Sb ζ ρ t (ν1.1 80)) ∧ 0 ≤ (lvV ζ ρ (ν1.1 80)).toInt ∧ ((Nd ζ 10 r ∧ ∃ k, FstN ζ nm k (ζ.2.1 23 (lvV ζ ρ (ν1.1 80)).toNatClampNeg) r) ∨ (Nd ζ 11 r ∧ ∃ k, FstN ζ nm k (ζ.2.1 24 (lvV ζ ρ (ν1.1 80)).toNatClampNeg) r))))
section NNAJ
variable {X : ev_X} {W : Nat → Prop} {d : Nat} {P : MP} {μ ν ν0 ν1 κ ζ : MS} {T : MS → Prop} {x y p q a b s t r e u : Int32} {ρ : Nat → Int32} {w c : Nat}
theorem WyM.le (h : WyM ζ ν c) : c ≤ (ζ.1 19).toInt.toNat := by
  by_cases cc : c ≤ (ζ.1 19).toInt.toNat
  · exact cc
  obtain ⟨s, h1, h2⟩ := h
  obtain ⟨i, j, i1, i2, i3⟩ := two_alike (ζ.1 19).toInt.toNat (fun i => (s i).toNatClampNeg) (fun i hi => by
    have := (h1 i (by omega)).1.1
    have := (h1 i (by omega)).1.2
    have := @ic (s i)
    show (s i).toNatClampNeg < _
    omega)
  exact absurd i3 (h2 i j i1 (by omega))
theorem WyM.add (h : WyM ζ ν c) (hx : InN ζ x) (hn : ¬ ν.2.1 79 x.toNatClampNeg = ν.1 77) : WyM ζ (mA1 ν 79 x.toNatClampNeg (ν.1 77)) (c + 1) := by
  obtain ⟨s, h1, h2⟩ := h
  have off : ∀ i, i < c → ¬ (s i).toNatClampNeg = x.toNatClampNeg := fun i hi e => hn (by rw [← e]; exact (h1 i hi).2)
  refine ⟨fun i => if i = c then x else s i, fun i hi => ?_, fun i j hij hj => ?_⟩
  · show InN ζ (if i = c then x else s i) ∧ upd (ν.2.1 79) x.toNatClampNeg (ν.1 77) (if i = c then x else s i).toNatClampNeg = ν.1 77
    by_cases e : i = c
    · rw [if_pos e]; exact ⟨hx, upd_at⟩
    · rw [if_neg e, upd_off (off i (by omega))]; exact h1 i (by omega)
  · show ¬ (if i = c then x else s i).toNatClampNeg = (if j = c then x else s j).toNatClampNeg
    rw [if_neg (by omega : ¬ i = c)]
    by_cases e : j = c
    · rw [if_pos e]; exact off i (by omega)
    · rw [if_neg e]; exact h2 i j hij (by omega)
theorem WyM.kf (h : WyM ζ ν c) {s r : List Nat} (k : kf s r ν ν1) (hs : s.contains 77 = false) (hr : r.contains 79 = false) : WyM ζ ν1 c := by
  unfold WyM
  rw [k.1 77 hs, k.2.1 79 hr]
  exact h
theorem RT.inn (h : RT μ ζ x) : InN ζ x := h.in
theorem ib_233 (hZ : TZ μ ζ) (h72 : ν0.2.1 72 = ρ) (hR : RvO μ ζ ρ) (hd : 12 ≤ d) (hu : 0 ≤ u.toInt ∧ u.toInt < (μ.1 41).toInt) {x2 x3 : Int32} (ta : RT μ ζ a) (oa : Ob ζ a) (tb : RT μ ζ b) (ob : Ob ζ b) : ∀ (n c : Nat) (x6 : Int32) (ν : MS), (ζ.1 19).toInt.toNat - c ≤ n → WyM ζ ν c → TF ζ ν → JK ζ ν → kf BFs BFr ν0 ν → (x6 = -1 ∨ (RT μ ζ x6 ∧ Sb ζ ρ a x6)) → ME X W true d 390 233 [(0, .ref P.1), (1, .int u), (2, .int x2), (3, .int x3), (4, .int a), (5, .int b), (6, .int x6)] [] P ν (IbR μ ζ ρ a b ν0) T := by
  have hB := hZ.1
  have one : ∀ (n c : Nat) (x6 : Int32) (ν : MS), WyM ζ ν c → TF ζ ν → JK ζ ν → kf BFs BFr ν0 ν → (x6 = -1 ∨ (RT μ ζ x6 ∧ Sb ζ ρ a x6)) → (∀ (x6 : Int32) (ν : MS), WyM ζ ν (c + 1) → TF ζ ν → JK ζ ν → kf BFs BFr ν0 ν → (x6 = -1 ∨ (RT μ ζ x6 ∧ Sb ζ ρ a x6)) → ME X W true d 390 233 [(0, .ref P.1), (1, .int u), (2, .int x2), (3, .int x3), (4, .int a), (5, .int b), (6, .int x6)] [] P ν (IbR μ ζ ρ a b ν0) T) → ME X W true d 390 233 [(0, .ref P.1), (1, .int u), (2, .int x2), (3, .int x3), (4, .int a), (5, .int b), (6, .int x6)] [] P ν (IbR μ ζ ρ a b ν0) T := fun n c x6 ν hW hF hK hk h6 next => by
    have no : ∀ κ, TF ζ κ → JK ζ κ → kf BFs BFr ν0 κ → IbR μ ζ ρ a b ν0 0 κ := fun κ a1 a2 a3 => ⟨⟨a1, a2, a3⟩, Or.inl rfl, fun h => absurd rfl h⟩
    refine v_isBelow_233 _ _ _ _ _ _ ⟨fun _ => no ν hF hK hk, fun h0 => ?_⟩
    obtain ⟨t6, s6⟩ := h6.resolve_left (fun e => by rw [e] at h0; exact absurd h0 (by decide))
    refine MC.mono (c_isObject hF (by omega) (t6.mi hB hF rfl rfl)) (fun r κ hκ => ?_) (fun _ h => h)
    obtain ⟨e1, e2⟩ := hκ
    have e1 := e1.symm
    subst e1
    refine ⟨fun _ => no ν hF hK hk, fun hr => ⟨t6.mi hB hF rfl rfl, fun _ => no ν hF hK hk, fun hm => ?_⟩⟩
    have o6 : Ob ζ x6 := obV_n (by rw [← e2]; exact hr)
    have go : ∀ κ, WyM ζ κ c → TF ζ κ → JK ζ κ → kf BFs BFr ν0 κ → ¬ κ.2.1 79 x6.toNatClampNeg = κ.1 77 → MI x6 (κ.2.2 79) ∧ MC X W true d 388 [.ref P.1, .int u, .int x6] P (mA1 κ 79 x6.toNatClampNeg (κ.1 77)) (fun r2 μ2 => ME X W true d 390 233 [(0, .ref P.1), (1, .int u), (2, .int x2), (3, .int x3), (4, .int a), (5, .int b), (6, .int r2)] [] P μ2 (IbR μ ζ ρ a b ν0) T) (fun _ => False) := fun κ w1 w2 w3 w4 w5 => by
      have k0 : kf [] [79] κ (mA1 κ 79 x6.toNatClampNeg (κ.1 77)) := kf.rf.A rfl
      have hF' := w2.kf k0 rfl rfl
      refine ⟨t6.mi hB w2 rfl rfl, MC.mono (c_above hZ hF' (JK.eq (ν := κ) rfl (fun _ _ => rfl) rfl w3) (by show κ.2.1 72 = ρ; rw [w4.2.1 72 rfl]; exact h72) hR (by omega) hu t6) (fun r2 κ2 hκ2 => ?_) (fun _ h => h)⟩
      obtain ⟨⟨a1, a2, a3⟩, a4⟩ := hκ2
      exact next r2 κ2 ((w1.add t6.inn w5).kf a3 rfl rfl) a1 a2 ((w4.tr (k0.up rfl rfl)).tr (a3.up rfl rfl)) (a4.imp id (fun h => ⟨h.1, s6.trans h.2⟩))
    refine ⟨fun _ => go ν hW hF hK hk hm, fun _ => MC.mono (c_alike hZ hF hK (by omega) t6.tq tb.tq) (fun r3 κ hκ => ?_) (fun _ h => h)⟩
    obtain ⟨-, g2, g3, g4, g5⟩ := hκ
    have hk' : kf BFs BFr ν0 κ := hk.tr (g4.up rfl rfl)
    refine ⟨fun _ => go κ (hW.kf g4 rfl rfl) g2 g3 hk' (by rw [g4.2.1 79 rfl, g4.1 77 rfl]; exact hm), fun hr3 => ⟨⟨g2, g3, hk'⟩, Or.inr rfl, fun _ => Or.inr (Or.inr (Or.inr ⟨⟨oa, ob⟩, x6, s6, t6, o6, g5 hr3⟩))⟩⟩
  intro n
  induction n with
  | zero =>
    intro c x6 ν hn hW hF hK hk h6
    exact one 0 c x6 ν hW hF hK hk h6 (fun y κ hW' _ _ _ _ => by have := hW'.le; have := hW.le; omega)
  | succ n ih =>
    intro c x6 ν hn hW hF hK hk h6
    exact one 0 c x6 ν hW hF hK hk h6 (fun y κ hW' w2 w3 w4 w5 => ih (c + 1) y κ (by omega) hW' w2 w3 w4 w5)
theorem sg_31 (hx : RT μ ζ x) (ek : ζ.2.1 20 x.toNatClampNeg = 31) : Nd ζ 8 (ζ.2.1 22 x.toNatClampNeg) := by
  have hn : Nd ζ 0 x := by
    rcases hx with h | h
    · exact h.1
    · rcases h.2.1 with h | h <;> (rw [h] at ek; exact absurd ek (by decide))
  have hf := hn.fld (f := 0) (by omega)
  rw [ek] at hf
  exact hf.1
theorem c_isBelow (hZ : TZ μ ζ) (hF : TF ζ ν) (hK : JK ζ ν) (h72 : ν.2.1 72 = ρ) (hR : RvO μ ζ ρ) (hd : 13 ≤ d) (hu : 0 ≤ u.toInt ∧ u.toInt < (μ.1 41).toInt) (hx : TQ μ ζ x) (hy : TQ μ ζ y) : MC X W true d 390 [.ref P.1, .int u, .int x, .int y] P ν (IbR μ ζ ρ (rlV ζ x) (rlV ζ y) ν) T := by
  have hB := hZ.1
  refine me_meth (by omega) rfl (v_isBelow_0 _ _ _ (MC.mono (c_realQ hB hF (by omega) hx) (fun a κ hκ => ?_) (fun _ h => h)))
  obtain ⟨e1, ea, ta⟩ := hκ
  have e1 := e1.symm
  subst e1
  refine MC.mono (c_realQ hB hF (by omega) hy) (fun b κ hκ => ?_) (fun _ h => h)
  obtain ⟨e1, eb, tb⟩ := hκ
  have e1 := e1.symm
  subst e1
  rw [← ea, ← eb]
  refine MC.mono (c_alike hZ hF hK (by omega) ta.tq tb.tq) (fun r3 κ hκ => ?_) (fun _ h => h)
  obtain ⟨-, g2, g3, g4, g5⟩ := hκ
  have hk : kf BFs BFr ν κ := g4.up rfl rfl
  have r20 : κ.2.1 20 = ζ.2.1 20 := g2.row rfl
  have r22 : κ.2.1 22 = ζ.2.1 22 := g2.row rfl
  have h72κ : κ.2.1 72 = ρ := by rw [g4.2.1 72 rfl]; exact h72
  have no : ∀ κ, TF ζ κ → JK ζ κ → kf BFs BFr ν κ → IbR μ ζ ρ a b ν 0 κ := fun κ a1 a2 a3 => ⟨⟨a1, a2, a3⟩, Or.inl rfl, fun h => absurd rfl h⟩
  have no1 := no κ g2 g3 hk
  have am : ∀ {g : Nat} {κ : MS}, TF ζ κ → rk g = true → rlen g = 16000 → MI a (κ.2.2 g) := fun hF h1 h2 => ta.mi hB hF h1 h2
  have bm : ∀ {g : Nat} {κ : MS}, TF ζ κ → rk g = true → rlen g = 16000 → MI b (κ.2.2 g) := fun hF h1 h2 => tb.mi hB hF h1 h2
  refine ⟨fun _ => ⟨am g2 rfl rfl, fun k27 => ⟨am g2 rfl rfl, fun k31 => ?_, fun k31 => ⟨bm g2 rfl rfl, fun _ => no1, fun b31 => ⟨am g2 rfl rfl, bm g2 rfl rfl, ?_⟩⟩⟩, fun k27 => ⟨bm g2 rfl rfl, fun b21 => ?_, fun _ => ⟨bm g2 rfl rfl, fun _ => no1, fun b27 => ⟨bm g2 rfl rfl, am g2 rfl rfl, fun _ => no1, fun _ => ⟨am g2 rfl rfl, bm g2 rfl rfl, fun _ => no1, fun _ => ?_⟩⟩⟩⟩⟩, fun hr => ⟨⟨g2, g3, hk⟩, Or.inr rfl, fun _ => Or.inl (g5 hr)⟩⟩
  · refine MC.mono (c_isObject g2 (by omega) (am g2 rfl rfl)) (fun r κ2 hκ => ?_) (fun _ h => h)
    obtain ⟨e1, e2⟩ := hκ
    have e1 := e1.symm
    subst e1
    refine ⟨fun _ => no1, fun hr => MC.mono (c_isObject g2 (by omega) (bm g2 rfl rfl)) (fun r' κ2 hκ => ?_) (fun _ h => h)⟩
    obtain ⟨e1, e2'⟩ := hκ
    have e1 := e1.symm
    subst e1
    refine ⟨fun hr' => ?_, fun _ => no1⟩
    have k0 : kf [77] [] κ (mS1 κ 77 (κ.1 77 + 1)) := kf.rf.S rfl
    have ib := ib_233 (X := X) (W := W) (T := T) (P := P) (ν0 := ν) (x2 := x) (x3 := y) (d := d - 1) hZ h72 hR (by omega) hu ta (obV_n (by rw [← e2]; exact hr)) tb (obV_n (by rw [← e2']; exact hr')) (ζ.1 19).toInt.toNat 0 a (mS1 κ 77 (κ.1 77 + 1)) (by omega) ⟨fun _ => 0, fun i hi => by omega, fun i j _ hj => by omega⟩ (g2.kf k0 rfl rfl) (JK.eq (ν := κ) rfl (fun _ _ => rfl) rfl g3) (hk.tr (k0.up rfl rfl)) (Or.inr ⟨ta, Sb.rf⟩)
    exact ib
  · rw [r20] at k31 b31
    have sa := sg_31 ta k31
    have sb := sg_31 tb b31
    obtain ⟨na, la⟩ := sg_fo sa
    obtain ⟨nb, lb⟩ := sg_fo sb
    rw [r22]
    refine MC.mono (c_setWithin hB g2 (by omega) sa sb) (fun r6 κ6 hκ => ?_) (fun _ h => h)
    have e1 := hκ.1.symm
    subst e1
    refine ⟨fun _ => no1, fun _ => ⟨am g2 rfl rfl, bm g2 rfl rfl, am g2 rfl rfl, ?_, bm g2 rfl rfl, ?_, ?_⟩⟩
    · rw [r22]; exact sa.mi hB g2 rfl rfl
    · rw [r22]; exact sb.mi hB g2 rfl rfl
    rw [r22]
    obtain ⟨pw, fw, hfw, -⟩ := hZ.2.1
    obtain ⟨f1, f2⟩ := hfw _ sb
    have f2 := f2 nb
    refine MC.mono (c_alikeFrom hZ g2 g3 (by omega) sa sb la lb (by omega)) (fun r7 κ7 hκ => ?_) (fun _ h => h)
    obtain ⟨-, j2, j3, j4, j5⟩ := hκ
    have hk7 : kf BFs BFr ν κ7 := hk.tr (j4.up rfl rfl)
    exact ⟨fun _ => no κ7 j2 j3 hk7, fun hr => ⟨⟨j2, j3, hk7⟩, Or.inr rfl, fun _ => Or.inr (Or.inr (Or.inl ⟨⟨k31, b31⟩, j5 hr⟩))⟩⟩
  · rw [r20] at k27 b21
    exact ⟨⟨g2, g3, hk⟩, Or.inr rfl, fun _ => Or.inr (Or.inl ⟨k27, Or.inl b21⟩)⟩
  · rw [r20] at k27 b27
    exact ⟨⟨g2, g3, hk⟩, Or.inr rfl, fun _ => Or.inr (Or.inl ⟨k27, Or.inr b27⟩)⟩
end NNAJ
