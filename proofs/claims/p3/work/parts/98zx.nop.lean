/-! contracts of the reference: TYPEs of values; what may stand where; offsets of FIELDs -/
abbrev Q3s : List Nat := [17, 18, 67, 69, 74, 76, 77, 80]
abbrev Q3r : List Nat := [66, 68, 70, 71, 75, 78, 79, 81]
/-- looked up or counted, nothing kept but a FAULT and CELLS -/
def Q3 (ζ : MS) (ρ ω η : Nat → Int32) (ν0 ν1 : MS) : Prop := P2 ζ ρ ω η ν1 ∧ FM ν0 ν1 ∧ kf Q3s Q3r ν0 ν1 ∧ KP (ν0.2.1 81) (ν1.2.1 81)
/-- CELLS counted, no more -/
def C4 (ζ : MS) (ρ ω η : Nat → Int32) (ν0 ν1 : MS) : Prop := P2 ζ ρ ω η ν1 ∧ kf [] [81] ν0 ν1 ∧ KP (ν0.2.1 81) (ν1.2.1 81)
/-- the TYPE of a value: none behind a FAULT, NIL's, or one -/
def VT (μ ζ : MS) (t : Int32) : Prop := t = -1 ∨ t = -2 ∨ RT μ ζ t
/-- whole numbers -/
def VI (ζ : MS) (t : Int32) : Prop := t = -1 ∨ (0 ≤ t.toInt ∧ (ζ.2.1 20 t.toNatClampNeg = 21 ∨ ζ.2.1 20 t.toNatClampNeg = 27))
/-- of a kind -/
def VK (ζ : MS) (t k : Int32) : Prop := t = -1 ∨ (0 ≤ t.toInt ∧ ζ.2.1 20 t.toNatClampNeg = k)
/-- TYPEs that NIL is of -/
def RfK (ζ : MS) (x : Int32) : Prop := obV ζ x = 1 ∨ ζ.2.1 20 x.toNatClampNeg = 30 ∨ ζ.2.1 20 x.toNatClampNeg = 31 ∨ ζ.2.1 20 x.toNatClampNeg = 23 ∨ ζ.2.1 20 x.toNatClampNeg = 24 ∨ ζ.2.1 20 x.toNatClampNeg = 25
/-- a value of the one TYPE may be put where the other one is wanted -/
def AsR (μ ζ : MS) (ρ : Nat → Int32) (x y : Int32) : Prop := x = -1 ∨ y = -1 ∨ (x = -2 ∧ RfK ζ y) ∨ (VI ζ x ∧ VI ζ y) ∨ BlR μ ζ ρ x y ∨ ((Ob ζ x ∧ Ob ζ y) ∧ BlR μ ζ ρ y x)
/-- the SIGNATURE of a PROCEDURE by its number -/
def sgP (ζ : MS) (p : Int32) : Int32 := ζ.2.1 23 (if (ζ.2.1 58 p.toNatClampNeg).toInt < 0 then ζ.2.1 57 p.toNatClampNeg else ζ.2.1 58 p.toNatClampNeg).toNatClampNeg
/-- CELLS ahead of a FIELD, from a sum on -/
def OfS (ζ : MS) (M : Nat → Int32) : Nat → Int32 → Int32 → Int32 → Int32 → Prop
  | 0, x, e, s, v => x = e ∧ v = s
  | n + 1, x, e, s, v => (¬ x = e ∧ 0 ≤ x.toInt ∧ 0 ≤ (cvV ζ M (ζ.2.1 23 x.toNatClampNeg)).toInt) ∧ OfS ζ M n (ζ.2.1 27 x.toNatClampNeg) e (s + cvV ζ M (ζ.2.1 23 x.toNatClampNeg)) v
/-- CELLS of all FIELDs of a row, from a sum on -/
def FcS (ζ : MS) (M : Nat → Int32) : Nat → Int32 → Int32 → Int32 → Prop
  | 0, x, s, v => x = -1 ∧ v = s
  | n + 1, x, s, v => (0 ≤ x.toInt ∧ 0 ≤ (cvV ζ M (ζ.2.1 23 x.toNatClampNeg)).toInt) ∧ FcS ζ M n (ζ.2.1 27 x.toNatClampNeg) (s + cvV ζ M (ζ.2.1 23 x.toNatClampNeg)) v
/-- the first FIELD of an object's LEVEL -/
def flV (ζ : MS) (ρ : Nat → Int32) (x : Int32) : Int32 := if 0 ≤ (lvV ζ ρ x).toInt then ζ.2.1 23 (lvV ζ ρ x).toNatClampNeg else -1
section NNAX
variable {X : ev_X} {W : Nat → Prop} {d : Nat} {P : MP} {μ ν ν0 ν1 κ ζ : MS} {T : MS → Prop} {x y z s t q r e u v k : Int32} {ρ ω η M M' : Nat → Int32} {w c : Nat}
theorem Q2.q3 (h : Q2 ζ ρ ω η ν0 ν1) : Q3 ζ ρ ω η ν0 ν1 := ⟨h.1, h.2.1, h.2.2.up rfl rfl, by rw [h.2.2.2.1 81 rfl]; exact KP.rf⟩
theorem Q3.rf (h : P2 ζ ρ ω η ν) : Q3 ζ ρ ω η ν ν := ⟨h, fun g => g, kf.rf, KP.rf⟩
theorem Q3.tr (h : Q3 ζ ρ ω η ν0 ν) (g : Q3 ζ ρ ω η ν ν1) : Q3 ζ ρ ω η ν0 ν1 := ⟨g.1, fun a => g.2.1 (h.2.1 a), h.2.2.1.tr g.2.2.1, h.2.2.2.tr g.2.2.2⟩
theorem C4.rf (h : P2 ζ ρ ω η ν) : C4 ζ ρ ω η ν ν := ⟨h, kf.rf, KP.rf⟩
theorem C4.tr (h : C4 ζ ρ ω η ν0 ν) (g : C4 ζ ρ ω η ν ν1) : C4 ζ ρ ω η ν0 ν1 := ⟨g.1, h.2.1.tr g.2.1, h.2.2.tr g.2.2⟩
theorem C4.q3 (h : C4 ζ ρ ω η ν0 ν1) : Q3 ζ ρ ω η ν0 ν1 := ⟨h.1, fm_kf h.2.1 rfl, h.2.1.up rfl rfl, h.2.2⟩
theorem c4_cells (h : P2 ζ ρ ω η ν) (g : CsR ζ η x ν r ν1) : C4 ζ ρ ω η ν ν1 := ⟨h.cells g, g.1.1, g.1.2.2⟩
theorem in_mi {g : Nat} (hB : TB μ ζ) (hF : TF ζ ν) (hx : InN ζ x) (hg : rk g = true) (hr : rlen g = 16000) : MI x (ν.2.2 g) := MI.of ((hF.1.2.2).g hg hr) hx.1 (by have := hx.2; have := hB.n16; omega)
theorem VT.rt (h : VT μ ζ x) (h0 : 0 ≤ x.toInt) : RT μ ζ x := by
  rcases h with h | h | h
  · rw [h] at h0; exact absurd h0 (by decide)
  · rw [h] at h0; exact absurd h0 (by decide)
  · exact h
theorem VT.of (h : RT μ ζ x) : VT μ ζ x := Or.inr (Or.inr h)
theorem OfS.keep (h : KP M M') : ∀ {n : Nat} {x e s v : Int32}, OfS ζ M n x e s v → OfS ζ M' n x e s v
  | 0, _, _, _, _, g => g
  | n + 1, x, e, s, v, g => by
    obtain ⟨⟨g1, g2, g3⟩, g4⟩ := g
    have ec : cvV ζ M' (ζ.2.1 23 x.toNatClampNeg) = cvV ζ M (ζ.2.1 23 x.toNatClampNeg) := cv_keep h (fun a => by rw [a] at g3; exact absurd g3 (by decide))
    refine ⟨⟨g1, g2, by rw [ec]; exact g3⟩, ?_⟩
    rw [ec]
    exact OfS.keep h g4
theorem FcS.keep (h : KP M M') : ∀ {n : Nat} {x s v : Int32}, FcS ζ M n x s v → FcS ζ M' n x s v
  | 0, _, _, _, g => g
  | n + 1, x, s, v, g => by
    obtain ⟨⟨g2, g3⟩, g4⟩ := g
    have ec : cvV ζ M' (ζ.2.1 23 x.toNatClampNeg) = cvV ζ M (ζ.2.1 23 x.toNatClampNeg) := cv_keep h (fun a => by rw [a] at g3; exact absurd g3 (by decide))
    refine ⟨⟨g2, by rw [ec]; exact g3⟩, ?_⟩
    rw [ec]
    exact FcS.keep h g4
theorem c_isInteger (hB : TB μ ζ) (hF : TF ζ ν) (hd : 1 ≤ d) (hx : VT μ ζ x) : MC X W true d 407 [.ref P.1, .int x] P ν (fun r ν1 => ν1 = ν ∧ (r = 0 ∨ r = 1) ∧ (¬ r = 0 ↔ VI ζ x)) T := by
  refine me_meth (by omega) rfl (v_isInteger_0 _ ⟨fun e => ⟨rfl, Or.inr rfl, fun _ => Or.inl e, fun _ => by decide⟩, fun e1 => ⟨fun e => ⟨rfl, Or.inl rfl, fun h => absurd rfl h, fun h => ?_⟩, fun e => ⟨(hx.rt e).mi hB hF rfl rfl, ?_⟩⟩⟩)
  · rcases h with h | ⟨h, -⟩
    · exact absurd h e1
    · exact absurd h (by omega)
  · rw [hF.row (g := 20) rfl]
    refine ⟨fun k => ⟨rfl, Or.inr rfl, fun _ => Or.inr ⟨e, Or.inl k⟩, fun _ => by decide⟩, fun k => ⟨(hx.rt e).mi hB hF rfl rfl, fun k2 => ⟨rfl, Or.inl rfl, fun h => absurd rfl h, fun h => ?_⟩, fun k2 => ⟨rfl, Or.inr rfl, fun _ => Or.inr ⟨e, Or.inr k2⟩, fun _ => by decide⟩⟩⟩
    rcases h with h | ⟨-, h | h⟩
    · exact absurd h e1
    · exact absurd h k
    · exact absurd h k2
theorem c_isKind (hB : TB μ ζ) (hF : TF ζ ν) (hd : 1 ≤ d) (hx : VT μ ζ x) : MC X W true d 408 [.ref P.1, .int x, .int k] P ν (fun r ν1 => ν1 = ν ∧ (r = 0 ∨ r = 1) ∧ (¬ r = 0 ↔ VK ζ x k)) T := by
  refine me_meth (by omega) rfl (v_isKind_0 _ _ ⟨fun e => ⟨rfl, Or.inr rfl, fun _ => Or.inl e, fun _ => by decide⟩, fun e1 => ⟨fun e => ⟨rfl, Or.inl rfl, fun h => absurd rfl h, fun h => ?_⟩, fun e => ⟨(hx.rt e).mi hB hF rfl rfl, ?_⟩⟩⟩)
  · rcases h with h | ⟨h, -⟩
    · exact absurd h e1
    · exact absurd h (by omega)
  · rw [hF.row (g := 20) rfl]
    refine ⟨fun k2 => ⟨rfl, Or.inl rfl, fun h => absurd rfl h, fun h => ?_⟩, fun k2 => ⟨rfl, Or.inr rfl, fun _ => Or.inr ⟨e, k2⟩, fun _ => by decide⟩⟩
    rcases h with h | ⟨-, h⟩
    · exact absurd h e1
    · exact absurd h k2
theorem c_wrong (hB : TB μ ζ) (hF : TF ζ ν) (hd : 2 ≤ d) (hk : ¬ k = 0) (hx : InN ζ x) : MC X W true d 409 [.ref P.1, .int k, .int x] P ν (fun r ν1 => r = -1 ∧ kf [17, 18] [] ν ν1 ∧ ¬ ν1.1 17 = 0) T :=
  me_meth (by omega) rfl (v_wrong_0 _ _ ⟨in_mi hB hF hx rfl rfl, MC.mono (c_ruF (by omega) hk) (fun _ _ g => ⟨rfl, g⟩) (fun _ h => h)⟩)
theorem c_signatureOf (hZ : TZ μ ζ) (hF : TF ζ ν) (hd : 1 ≤ d) (hp : 1 ≤ x.toInt ∧ x.toInt ≤ (ζ.1 56).toInt) : MC X W true d 404 [.ref P.1, .int x] P ν (fun r ν1 => ν1 = ν ∧ r = sgP ζ x ∧ Nd ζ 8 r) T := by
  have hB := hZ.1
  have hL := hF.1.2.2
  have h16 := hB.n16
  have h43 : (ζ.1 43).toInt ≤ 3100 := hZ.2.2.2.2.2
  have hB2 := hB
  obtain ⟨-, hR, hz⟩ := hB2
  have h56 : (ζ.1 56).toInt ≤ (ζ.1 43).toInt := hR.2.2.2.1.2.1.2
  obtain ⟨-, -, hPr, -⟩ := hR.2.2.2.2.2 hz
  have r20 : ζ.2.1 20 = μ.2.1 20 := hR.1.2.1 20 rfl
  have hc := @ic x
  obtain ⟨⟨⟨w, h57⟩, k57⟩, h58⟩ := hPr x.toNatClampNeg (by omega) (by omega)
  have d57 := hB.dc h57
  have s57 : Nd ζ 8 (ζ.2.1 23 (ζ.2.1 57 x.toNatClampNeg).toNatClampNeg) := d57.2.2.2.2 (by rw [r20]; exact k57)
  have m58 : MI x (ν.2.2 58) := MI.of (hL.g rfl rfl : _ = 3200) (by omega) (by omega)
  have m57 : MI x (ν.2.2 57) := MI.of (hL.g rfl rfl : _ = 3200) (by omega) (by omega)
  refine me_meth (by omega) rfl (v_signatureOf_0 _ ?_)
  rw [hF.row (g := 57) rfl, hF.row (g := 58) rfl, hF.row (g := 23) rfl]
  refine ⟨m58, fun h => ⟨m57, MI.of (hL.g rfl rfl : _ = 16000) d57.1.1 (by have := d57.1.2; omega), rfl, ?_, s57⟩, fun h => ?_⟩
  · unfold sgP
    rw [if_pos h]
  · rcases h58 with e | ⟨⟨w2, hw2, -⟩, k58, -⟩
    · rw [e] at h; exact absurd h (by decide)
    have d58 := hB.dc hw2
    have s58 : Nd ζ 8 (ζ.2.1 23 (ζ.2.1 58 x.toNatClampNeg).toNatClampNeg) := d58.2.2.2.2 (by rw [r20]; exact k58)
    refine ⟨m58, MI.of (hL.g rfl rfl : _ = 16000) d58.1.1 (by have := d58.1.2; omega), rfl, ?_, s58⟩
    unfold sgP
    rw [if_neg (by omega)]
theorem q2_below (hZ : TZ μ ζ) (h : Q2 ζ ρ ω η ν0 ν) (hR : RvO μ ζ ρ) (hd : 13 ≤ d) (hu : 0 ≤ u.toInt ∧ u.toInt < (μ.1 41).toInt) (hx : RT μ ζ x) (hy : RT μ ζ y) : MC X W true d 390 [.ref P.1, .int u, .int x, .int y] P ν (fun r ν1 => Q2 ζ ρ ω η ν0 ν1 ∧ (r = 0 ∨ r = 1) ∧ (¬ r = 0 → BlR μ ζ ρ x y)) T :=
  MC.mono (c_isBelow hZ h.1.1.1 h.1.1.2 h.1.2.1.1 hR hd hu hx.tq hy.tq) (fun r κ hκ => by
    obtain ⟨⟨a1, a2, a3⟩, a4, a5⟩ := hκ
    rw [rl_id hx.n20, rl_id hy.n20] at a5
    exact ⟨h.tr ⟨h.1.al a1 a2 a3 rfl rfl rfl rfl, fm_kf a3 rfl, a3.up rfl rfl⟩, a4, a5⟩) (fun _ h => h)
theorem c_objects (hZ : TZ μ ζ) (hP : P2 ζ ρ ω η ν) (hR : RvO μ ζ ρ) (hd : 14 ≤ d) (hu : 0 ≤ u.toInt ∧ u.toInt < (μ.1 41).toInt) (hx : VT μ ζ x) (hy : RT μ ζ y) (he : InN ζ e) : MC X W true d 416 [.ref P.1, .int u, .int x, .int y, .int e] P ν (fun r ν1 => Q2 ζ ρ ω η ν ν1 ∧ (r = 0 ∨ r = 1) ∧ (r = 0 → ¬ ν1.1 17 = 0) ∧ (¬ r = 0 → Ob ζ y ∧ (x = -1 ∨ x = -2 ∨ Ob ζ x))) T := by
  have hB := hZ.1
  have bad : ∀ (d' : Nat), 1 ≤ d' → ∀ κ, Q2 ζ ρ ω η ν κ → MI e (κ.2.2 30) ∧ MC X W true d' 290 [.ref P.1, .int 12, .int (κ.2.1 30 e.toNatClampNeg)] P κ (fun _ ν1 => Q2 ζ ρ ω η ν ν1 ∧ ((0 : Int32) = 0 ∨ (0 : Int32) = 1) ∧ ((0 : Int32) = 0 → ¬ ν1.1 17 = 0) ∧ (¬ (0 : Int32) = 0 → Ob ζ y ∧ (x = -1 ∨ x = -2 ∨ Ob ζ x))) (fun _ => False) := fun d' hd' κ h => ⟨in_mi hB h.1.1.1 he rfl rfl, MC.mono (q2_rule h hd' (by decide)) (fun _ _ g => ⟨g.1, Or.inl rfl, fun _ => g.2, fun h => absurd rfl h⟩) (fun _ h => h)⟩
  refine me_meth (by omega) rfl (v_objects_0 _ _ _ _ (MC.mono (c_isObject hP.1.1 (by omega) (hy.mi hB hP.1.1 rfl rfl)) (fun r1 κ hκ => ?_) (fun _ h => h)))
  obtain ⟨e1, e2⟩ := hκ
  have e1 := e1.symm
  subst e1
  refine ⟨fun _ => bad _ (by omega) _ (Q2.rf hP), fun h => ?_⟩
  have oy : Ob ζ y := obV_n (by rw [← e2]; exact h)
  refine ⟨fun e => ⟨Q2.rf hP, Or.inr rfl, fun h => absurd h (by decide), fun _ => ⟨oy, Or.inl e⟩⟩, fun n1 => ⟨fun e => ⟨Q2.rf hP, Or.inr rfl, fun h => absurd h (by decide), fun _ => ⟨oy, Or.inr (Or.inl e)⟩⟩, fun n2 => ?_⟩⟩
  have xr : RT μ ζ x := by
    rcases hx with h | h | h
    · exact absurd h n1
    · exact absurd h n2
    · exact h
  refine MC.mono (c_isObject hP.1.1 (by omega) (xr.mi hB hP.1.1 rfl rfl)) (fun r3 κ hκ => ?_) (fun _ h => h)
  obtain ⟨e1, e3⟩ := hκ
  have e1 := e1.symm
  subst e1
  refine ⟨fun _ => bad _ (by omega) _ (Q2.rf hP), fun h => ?_⟩
  have ox : Ob ζ x := obV_n (by rw [← e3]; exact h)
  refine MC.mono (q2_below hZ (Q2.rf hP) hR (by omega) hu xr hy) (fun r5 κ hκ => ?_) (fun _ h => h)
  obtain ⟨hQ, -, -⟩ := hκ
  refine ⟨fun _ => ⟨hQ, Or.inr rfl, fun h => absurd h (by decide), fun _ => ⟨oy, Or.inr (Or.inr ox)⟩⟩, fun _ => ?_⟩
  refine MC.mono (q2_below hZ hQ hR (by omega) hu hy xr) (fun r6 κ2 hκ2 => ?_) (fun _ h => h)
  obtain ⟨hQ2, -, -⟩ := hκ2
  exact ⟨fun _ => bad _ (by omega) _ hQ2, fun _ => ⟨hQ2, Or.inr rfl, fun h => absurd h (by decide), fun _ => ⟨oy, Or.inr (Or.inr ox)⟩⟩⟩
theorem as_tail (hZ : TZ μ ζ) (hP : P2 ζ ρ ω η ν) (hR : RvO μ ζ ρ) (hd : 13 ≤ d) (hu : 0 ≤ u.toInt ∧ u.toInt < (μ.1 41).toInt) (hx : RT μ ζ x) (hy : RT μ ζ y) {R : Int32 → MS → Prop} (no : ∀ κ, Q2 ζ ρ ω η ν κ → R 0 κ) (yes : ∀ κ, Q2 ζ ρ ω η ν κ → (BlR μ ζ ρ x y ∨ ((Ob ζ x ∧ Ob ζ y) ∧ BlR μ ζ ρ y x)) → R 1 κ) :
    MC X W true d 390 [.ref P.1, .int u, .int x, .int y] P ν (fun r1 μ1 => ((¬ r1 = 0 → R 1 μ1) ∧ (r1 = 0 → MC X W true d 367 [.ref P.1, .int x] P μ1 (fun r2 μ2 => ((r2 = 0 → R 0 μ2) ∧ (¬ r2 = 0 → MC X W true d 367 [.ref P.1, .int y] P μ2 (fun r3 μ3 => ((r3 = 0 → R 0 μ3) ∧ (¬ r3 = 0 → MC X W true d 390 [.ref P.1, .int u, .int y, .int x] P μ3 (fun r4 μ4 => ((r4 = 0 → R 0 μ4) ∧ (¬ r4 = 0 → R 1 μ4))) (fun _ => False)))) (fun _ => False)))) (fun _ => False)))) (fun _ => False) := by
  have hB := hZ.1
  refine MC.mono (q2_below hZ (Q2.rf hP) hR hd hu hx hy) (fun r1 κ hκ => ?_) (fun _ h => h)
  obtain ⟨hQ, -, h1⟩ := hκ
  have hF := hQ.1.1.1
  refine ⟨fun h => yes _ hQ (Or.inl (h1 h)), fun _ => MC.mono (c_isObject hF (by omega) (hx.mi hB hF rfl rfl)) (fun r2 κ2 hκ2 => ?_) (fun _ h => h)⟩
  obtain ⟨e1, e2⟩ := hκ2
  have e1 := e1.symm
  subst e1
  refine ⟨fun _ => no _ hQ, fun h2 => MC.mono (c_isObject hF (by omega) (hy.mi hB hF rfl rfl)) (fun r3 κ3 hκ3 => ?_) (fun _ h => h)⟩
  obtain ⟨e1, e3⟩ := hκ3
  have e1 := e1.symm
  subst e1
  refine ⟨fun _ => no _ hQ, fun h3 => MC.mono (q2_below hZ hQ hR hd hu hy hx) (fun r4 κ4 hκ4 => ?_) (fun _ h => h)⟩
  exact ⟨fun _ => no _ hκ4.1, fun h4 => yes _ hκ4.1 (Or.inr ⟨⟨obV_n (by rw [← e2]; exact h2), obV_n (by rw [← e3]; exact h3)⟩, hκ4.2.2 h4⟩)⟩
theorem c_assignable (hZ : TZ μ ζ) (hP : P2 ζ ρ ω η ν) (hR : RvO μ ζ ρ) (hd : 14 ≤ d) (hu : 0 ≤ u.toInt ∧ u.toInt < (μ.1 41).toInt) (hx : VT μ ζ x) (hy : y = -1 ∨ RT μ ζ y) : MC X W true d 417 [.ref P.1, .int u, .int x, .int y] P ν (fun r ν1 => Q2 ζ ρ ω η ν ν1 ∧ (r = 0 ∨ r = 1) ∧ (¬ r = 0 → AsR μ ζ ρ x y)) T := by
  have hB := hZ.1
  have hF := hP.1.1
  refine me_meth (by omega) rfl (v_assignable_0 _ _ _ ⟨fun e => ⟨Q2.rf hP, Or.inr rfl, fun _ => Or.inl e⟩, fun n1 => ⟨fun ny => ?_, fun ey => ⟨Q2.rf hP, Or.inr rfl, fun _ => Or.inr (Or.inl ey)⟩⟩⟩)
  have yr : RT μ ζ y := hy.resolve_left ny
  have tail : ∀ (d' : Nat), 13 ≤ d' → RT μ ζ x → _ := fun d' hd' xr => as_tail (X := X) (W := W) (P := P) (d := d') hZ hP hR hd' hu xr yr (R := fun r ν1 => Q2 ζ ρ ω η ν ν1 ∧ (r = 0 ∨ r = 1) ∧ (¬ r = 0 → AsR μ ζ ρ x y)) (fun _ h => ⟨h, Or.inl rfl, fun h => absurd rfl h⟩) (fun _ h g => ⟨h, Or.inr rfl, fun _ => Or.inr (Or.inr (Or.inr (Or.inr g)))⟩)
  refine ⟨fun n2 => ?_, fun e2 => ?_⟩
  · have xr : RT μ ζ x := by
      rcases hx with h | h | h
      · exact absurd h n1
      · exact absurd h n2
      · exact h
    refine MC.mono (c_isInteger hB hF (by omega) hx) (fun r1 κ hκ => ?_) (fun _ h => h)
    obtain ⟨e1, -, h1⟩ := hκ
    have e1 := e1.symm
    subst e1
    refine ⟨fun _ => tail _ (by omega) xr, fun hr1 => MC.mono (c_isInteger hB hF (by omega) (VT.of yr)) (fun r6 κ hκ => ?_) (fun _ h => h)⟩
    obtain ⟨e1, -, h6⟩ := hκ
    have e1 := e1.symm
    subst e1
    exact ⟨fun _ => tail _ (by omega) xr, fun hr6 => ⟨Q2.rf hP, Or.inr rfl, fun _ => Or.inr (Or.inr (Or.inr (Or.inl ⟨h1.1 hr1, h6.1 hr6⟩)))⟩⟩
  · refine MC.mono (c_isReference hF (by omega) (yr.mi hB hF rfl rfl)) (fun r11 κ hκ => ?_) (fun _ h => h)
    obtain ⟨e1, h2, h3⟩ := hκ
    have e1 := e1.symm
    subst e1
    exact ⟨h2, Q2.rf hP, h2, fun h => Or.inr (Or.inr (Or.inl ⟨e2, h3.1 h⟩))⟩
/-- CELLS of a TYPE, from such a state -/
theorem q3_393 (hB : TB μ ζ) (hY : TY μ ζ) (hC : HoC μ ζ η) (hg : ag ζ η ∧ bg ζ) (hP : P2 ζ ρ ω η ν) (hd : 1252 ≤ d) (hn : Nd ζ 0 x) : MC X W true d 393 [.ref P.1, .int x] P ν (fun r ν1 => C4 ζ ρ ω η ν ν1 ∧ r = cvV ζ (ν1.2.1 81) x ∧ 0 ≤ r.toInt ∧ r.toInt ≤ 100000) T :=
  MC.mono (c_cellsOf hB hY hC hP.1.1 hP.2.2 hP.2.1.2.2 hn hd) (fun r κ hκ => ⟨c4_cells hP hκ, (hκ.2.2 hg.1).1, (hκ.2.2 hg.1).2 hg.2, hκ.2.1.2⟩) (fun _ h => h)
theorem of_5 (hB : TB μ ζ) (hY : TY μ ζ) (hC : HoC μ ζ η) (hg : ag ζ η ∧ bg ζ) (hd : 1252 ≤ d) {x1 : Int32} : ∀ (n : Nat) (x s : Int32) (κ : MS), Onl (ζ.2.1 27) n x e → (∃ m, Lst (Nd ζ 10) (ζ.2.1 27) m x) → P2 ζ ρ ω η κ → ME X W true d 421 5 [(0, .ref P.1), (1, .int x1), (2, .int e), (3, .int s), (4, .int x)] [] P κ (fun r ν1 => C4 ζ ρ ω η κ ν1 ∧ ∃ m, OfS ζ (ν1.2.1 81) m x e s r) T := by
  intro n
  induction n with
  | zero =>
    intro x s κ ho _ hP
    have ho : x = e := ho
    exact v_offsetIn_5 _ _ _ _ ⟨fun _ => ⟨C4.rf hP, 0, ho, rfl⟩, fun h => absurd ho h⟩
  | succ n ih =>
    intro x s κ ho hl hP
    obtain ⟨h0, ho⟩ := ho
    obtain ⟨xn, hl⟩ : Nd ζ 10 x ∧ ∃ m, Lst (Nd ζ 10) (ζ.2.1 27) m (ζ.2.1 27 x.toNatClampNeg) := by
      obtain ⟨m, hl⟩ := hl
      cases m with
      | zero => have hl : x = -1 := hl; rw [hl] at h0; exact absurd h0 (by decide)
      | succ m =>
        rcases hl with hl | ⟨a, b⟩
        · rw [hl] at h0; exact absurd h0 (by decide)
        · exact ⟨a, m, b⟩
    have hF := hP.1.1
    refine v_offsetIn_5 _ _ _ _ ⟨fun h => ⟨C4.rf hP, 0, h, rfl⟩, fun hne => ⟨xn.mi hB hF rfl rfl, ?_⟩⟩
    rw [hF.row (g := 23) rfl]
    refine MC.mono (q3_393 hB hY hC hg hP hd (fl_ty xn)) (fun r κ1 h1 => ?_) (fun _ h => h)
    obtain ⟨hQ, er, r0, -⟩ := h1
    refine ⟨xn.mi hB hQ.1.1.1 rfl rfl, ?_⟩
    rw [hQ.1.1.1.row (g := 27) rfl]
    refine ME.mono (ih _ (s + r) κ1 ho hl hQ.1) (fun r2 κ2 h2 => ?_) (fun _ h => h)
    obtain ⟨hQ2, m, hm⟩ := h2
    have ec : cvV ζ (κ2.2.1 81) (ζ.2.1 23 x.toNatClampNeg) = r := by
      rw [cv_keep hQ2.2.2 (by rw [← er]; intro a; rw [a] at r0; exact absurd r0 (by decide))]
      exact er.symm
    refine ⟨hQ.tr hQ2, m + 1, ⟨hne, h0, by rw [ec]; exact r0⟩, ?_⟩
    rw [ec]
    exact hm
theorem c_offsetIn (hB : TB μ ζ) (hY : TY μ ζ) (hC : HoC μ ζ η) (hg : ag ζ η ∧ bg ζ) (hP : P2 ζ ρ ω η ν) (hd : 1253 ≤ d) {n m : Nat} (ho : Onl (ζ.2.1 27) n x e) (hl : Lst (Nd ζ 10) (ζ.2.1 27) m x) : MC X W true d 421 [.ref P.1, .int x, .int e] P ν (fun r ν1 => C4 ζ ρ ω η ν ν1 ∧ ∃ m, OfS ζ (ν1.2.1 81) m x e 0 r) T :=
  me_meth (by omega) rfl (v_offsetIn_0 _ _ (of_5 hB hY hC hg (by omega) n x 0 ν ho ⟨m, hl⟩ hP))
theorem fc_24 (hB : TB μ ζ) (hY : TY μ ζ) (hC : HoC μ ζ η) (hg : ag ζ η ∧ bg ζ) (hd : 1252 ≤ d) {x1 x2 : Int32} : ∀ (m : Nat) (x s : Int32) (κ : MS), Lst (Nd ζ 10) (ζ.2.1 27) m x → P2 ζ ρ ω η κ → ME X W true d 422 24 [(0, .ref P.1), (1, .int x1), (2, .int x2), (3, .int s), (4, .int x)] [] P κ (fun r ν1 => C4 ζ ρ ω η κ ν1 ∧ ∃ m, FcS ζ (ν1.2.1 81) m x s r) T := by
  have nil : ∀ (x s : Int32) (κ : MS), x = -1 → P2 ζ ρ ω η κ → ME X W true d 422 24 [(0, .ref P.1), (1, .int x1), (2, .int x2), (3, .int s), (4, .int x)] [] P κ (fun r ν1 => C4 ζ ρ ω η κ ν1 ∧ ∃ m, FcS ζ (ν1.2.1 81) m x s r) T := fun x s κ ex hP => by
    subst ex
    exact v_fieldCells_24 _ _ _ _ ⟨fun _ => ⟨C4.rf hP, 0, rfl, rfl⟩, fun h => absurd h (by decide)⟩
  intro m
  induction m with
  | zero => intro x s κ hl hP; exact nil x s κ hl hP
  | succ m ih =>
    intro x s κ hl hP
    rcases hl with hl | ⟨xn, hl⟩
    · exact nil x s κ hl hP
    have h0 := xn.in.1
    have hF := hP.1.1
    refine v_fieldCells_24 _ _ _ _ ⟨fun h => absurd h (by omega), fun _ => ⟨xn.mi hB hF rfl rfl, ?_⟩⟩
    rw [hF.row (g := 23) rfl]
    refine MC.mono (q3_393 hB hY hC hg hP hd (fl_ty xn)) (fun r κ1 h1 => ?_) (fun _ h => h)
    obtain ⟨hQ, er, r0, -⟩ := h1
    refine ⟨xn.mi hB hQ.1.1.1 rfl rfl, ?_⟩
    rw [hQ.1.1.1.row (g := 27) rfl]
    refine ME.mono (ih _ (s + r) κ1 hl hQ.1) (fun r2 κ2 h2 => ?_) (fun _ h => h)
    obtain ⟨hQ2, m, hm⟩ := h2
    have ec : cvV ζ (κ2.2.1 81) (ζ.2.1 23 x.toNatClampNeg) = r := by
      rw [cv_keep hQ2.2.2 (by rw [← er]; intro a; rw [a] at r0; exact absurd r0 (by decide))]
      exact er.symm
    refine ⟨hQ.tr hQ2, m + 1, ⟨h0, by rw [ec]; exact r0⟩, ?_⟩
    rw [ec]
    exact hm
theorem c_fieldCells (hZ : TZ μ ζ) (hY : TY μ ζ) (hC : HoC μ ζ η) (hR : RvO μ ζ ρ) (hg : ag ζ η ∧ bg ζ) (hP : P2 ζ ρ ω η ν) (hd : 1253 ≤ d) (hx : RT μ ζ x) : MC X W true d 422 [.ref P.1, .int x] P ν (fun r ν1 => C4 ζ ρ ω η ν ν1 ∧ ∃ m, FcS ζ (ν1.2.1 81) m (flV ζ ρ x) 0 r) T := by
  have hB := hZ.1
  refine me_meth (by omega) rfl (v_fieldCells_0 _ (MC.mono (c_levelOf hZ hP.1.1 hP.2.1.1 hR (by omega) hx) (fun r1 κ hκ => ?_) (fun _ h => h)))
  obtain ⟨e1, er⟩ := hκ
  have e1 := e1.symm
  subst e1
  subst er
  unfold flV
  refine ⟨fun h0 => ?_, fun h0 => ?_⟩
  · rw [if_pos h0]
    rcases lv_nd hZ hR hx with e | hl
    · rw [e] at h0; exact absurd h0 (by decide)
    obtain ⟨⟨m, hf⟩, -⟩ := lv_row hZ hl
    refine ⟨hl.1.mi hB hP.1.1 rfl rfl, ?_⟩
    rw [hP.1.1.row (g := 23) rfl]
    exact fc_24 hB hY hC hg (by omega) m _ 0 ν hf hP
  · rw [if_neg (by omega)]
    exact fc_24 hB hY hC hg (by omega) 0 _ 0 ν rfl hP
end NNAX
