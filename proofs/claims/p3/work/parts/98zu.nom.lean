/-! contracts of the reference: declarations looked at for their TYPEs -/
abbrev D2s : List Nat := [17, 18, 67, 69, 74, 76, 77, 80, 83]
abbrev D2r : List Nat := [55, 66, 68, 70, 71, 75, 78, 79, 81]
def D2 (ζ : MS) (ρ ω η : Nat → Int32) (ν0 ν1 : MS) : Prop := P2 ζ ρ ω η ν1 ∧ FM ν0 ν1 ∧ kf D2s D2r ν0 ν1 ∧ KP (ν0.2.1 81) (ν1.2.1 81)
/-- a variable's CELLS -/
def vcl (ζ κ : MS) (v : Int32) : Int := (cvV ζ (κ.2.1 81) (ζ.2.1 54 v.toNatClampNeg)).toInt
/-- units' variables laid out, none over another -/
def UvC (ζ κ : MS) (V : Int32 → Prop) : Prop := (∀ v, V v → (0 ≤ v.toInt ∧ v.toInt < (ζ.1 52).toInt) ∧ 0 ≤ (κ.2.1 55 v.toNatClampNeg).toInt ∧ ¬ cvV ζ (κ.2.1 81) (ζ.2.1 54 v.toNatClampNeg) = -2 ∧ 0 ≤ vcl ζ κ v ∧ (κ.2.1 55 v.toNatClampNeg).toInt + vcl ζ κ v ≤ (κ.1 83).toInt) ∧ ∀ v v', V v → V v' → ¬ v = v' → (κ.2.1 55 v.toNatClampNeg).toInt + vcl ζ κ v ≤ (κ.2.1 55 v'.toNatClampNeg).toInt ∨ (κ.2.1 55 v'.toNatClampNeg).toInt + vcl ζ κ v' ≤ (κ.2.1 55 v.toNatClampNeg).toInt
/-- how many CELLS the units have -/
def U83 (κ : MS) : Prop := (0 ≤ (κ.1 83).toInt ∧ (κ.1 83).toInt ≤ 5001) ∧ (κ.1 17 = 0 → (κ.1 83).toInt ≤ 5000)
/-- what is asked of a declaration -/
def DcC (ζ : MS) (ρ : Nat → Int32) (e : Int32) : Prop := (ζ.2.1 20 e.toNatClampNeg = 4 → 0 ≤ (ρ e.toNatClampNeg).toInt) ∧ (ζ.2.1 20 e.toNatClampNeg = 9 → ((ζ.2.1 26 e.toNatClampNeg).toInt < 0 → 0 ≤ (ζ.2.1 58 (ζ.2.1 28 e.toNatClampNeg).toNatClampNeg).toInt) ∧ (0 ≤ (ζ.2.1 26 e.toNatClampNeg).toInt → ζ.2.1 57 (ζ.2.1 28 e.toNatClampNeg).toNatClampNeg = e ∨ SgR ζ (Alk ζ) (ζ.2.1 23 (ζ.2.1 57 (ζ.2.1 28 e.toNatClampNeg).toNatClampNeg).toNatClampNeg) (ζ.2.1 23 e.toNatClampNeg) (ζ.2.1 22 (ζ.2.1 23 (ζ.2.1 57 (ζ.2.1 28 e.toNatClampNeg).toNatClampNeg).toNatClampNeg).toNatClampNeg) (ζ.2.1 22 (ζ.2.1 23 e.toNatClampNeg).toNatClampNeg)))
/-- the variables of a row of names -/
def RwV (ζ : MS) (x : Int32) (v : Int32) : Prop := ∃ i y, Onl (ζ.2.1 27) i x y ∧ 0 ≤ y.toInt ∧ v = ζ.2.1 28 y.toNatClampNeg
theorem WL.ls {E : Int → Int → Nat → Int32 → Prop} {nx : Nat → Int32} {hi : Int} : ∀ {m : Nat} {lo : Int} {w : Nat} {x : Int32}, WL E nx m lo hi w x → Lst (fun y => ∃ lo hi v, E lo hi v y) nx m x
  | 0, _, _, _, h => h.1
  | m + 1, lo, w, x, h => by
    rcases h with h | ⟨mid, v, -, k4, k5⟩
    · exact Or.inl h.1
    · exact Or.inr ⟨⟨lo, mid, v, k4⟩, WL.ls k5⟩
section NNAU
variable {X : ev_X} {W : Nat → Prop} {d : Nat} {P : MP} {μ ν ν0 ν1 κ ζ : MS} {T : MS → Prop} {x y z s t q r e u l o : Int32} {ρ ω η M M' : Nat → Int32} {w c : Nat} {V V' : Int32 → Prop}
theorem TB.de (hB : TB μ ζ) (hd : DcO μ w e) : ∃ lo hi, DeP ζ lo hi e := by
  obtain ⟨hw, m, ho, d0⟩ := hd
  obtain ⟨hP, hR, hz⟩ := hB
  have r20 : ζ.2.1 20 = μ.2.1 20 := hR.1.2.1 20 rfl
  have r27 : ζ.2.1 27 = μ.2.1 27 := hR.1.2.1 27 rfl
  obtain ⟨⟨c, hc⟩, -⟩ := hR.2.2.2.2.2 hz
  obtain ⟨-, -, f2, c2, c3, c4, mm, -, f3, -⟩ := hc w hw
  have f2' : μ.2.1 20 (μ.2.1 42 w).toNatClampNeg = 1 := by rw [← r20]; exact f2
  have r24 : ζ.2.1 24 (μ.2.1 42 w).toNatClampNeg = μ.2.1 24 (μ.2.1 42 w).toNatClampNeg := (hR.2.2.1 2 _ (by omega)).resolve_right (fun h => by rw [f2'] at h; exact absurd h.1 (by decide))
  rw [r27, r24] at f3
  obtain ⟨lo', hi', v', -, -, hD⟩ := WL.onl d0 f3 ho
  exact ⟨lo', hi', hD⟩
theorem Q2.d2 (h : Q2 ζ ρ ω η ν0 ν1) : D2 ζ ρ ω η ν0 ν1 := ⟨h.1, h.2.1, h.2.2.up rfl rfl, by rw [h.2.2.2.1 81 rfl]; exact KP.rf⟩
theorem D2.tr (h : D2 ζ ρ ω η ν0 ν) (g : D2 ζ ρ ω η ν ν1) : D2 ζ ρ ω η ν0 ν1 := ⟨g.1, fun a => g.2.1 (h.2.1 a), h.2.2.1.tr g.2.2.1, h.2.2.2.tr g.2.2.2⟩
theorem UvC.sub (h : ∀ v, V' v → V v) (g : UvC ζ κ V) : UvC ζ κ V' := ⟨fun v hv => g.1 v (h v hv), fun v v' a b => g.2 v v' (h v a) (h v' b)⟩
/-- over CELLS known and variables that stay -/
theorem UvC.keep (g : UvC ζ κ V) (h55 : ν1.2.1 55 = κ.2.1 55) (h83 : ν1.1 83 = κ.1 83) (hp : KP (κ.2.1 81) (ν1.2.1 81)) : UvC ζ ν1 V := by
  have e : ∀ v, V v → vcl ζ ν1 v = vcl ζ κ v := fun v hv => by
    unfold vcl
    rw [cv_keep hp (g.1 v hv).2.2.1]
  refine ⟨fun v hv => ?_, fun v v' hv hv' hne => ?_⟩
  · obtain ⟨a, b, c, dd, ee⟩ := g.1 v hv
    rw [h55, h83, e v hv, cv_keep hp c]
    exact ⟨a, b, c, dd, ee⟩
  · rw [h55, e v hv, e v' hv']
    exact g.2 v v' hv hv' hne
theorem td_51 (hZ : TZ μ ζ) (hY : TY μ ζ) (hC : HoC μ ζ η) (hA : ν.1 17 = 0 → ag ζ η ∧ bg ζ) (hd : 1253 ≤ d) (he : DcO μ w e) (ek : ζ.2.1 20 e.toNatClampNeg = 7) : ∀ (m : Nat) (x : Int32) (κ : MS) (V : Int32 → Prop), Lst (fun y => ∃ lo hi, NmV ζ (ζ.2.1 23 e.toNatClampNeg) lo hi y) (ζ.2.1 27) m x → (∀ y, (∃ i, Onl (ζ.2.1 27) i x y) → 0 ≤ y.toInt → y.toInt < (ζ.1 19).toInt) → D2 ζ ρ ω η ν κ → U83 κ → (κ.1 17 = 0 → UvC ζ κ V) → ME X W true d 400 51 [(0, .ref P.1), (1, .int e), (2, .int x)] [] P κ (fun _ ν1 => D2 ζ ρ ω η κ ν1 ∧ U83 ν1 ∧ (ν1.1 17 = 0 → UvC ζ ν1 (fun v => V v ∨ RwV ζ x v))) T := by
  have hB := hZ.1
  have h16 := hB.n16
  have dcn := hB.dc he
  have hn : Nd ζ 0 (ζ.2.1 23 e.toNatClampNeg) := dcn.2.2.1 (fun h => by rw [ek] at h; exact absurd h (by decide)) (fun h => by rw [ek] at h; exact absurd h (by decide))
  have em : ∀ {κ : MS} {g : Nat}, TF ζ κ → rk g = true → rlen g = 16000 → MI e (κ.2.2 g) := fun hF hg hr => MI.of ((hF.1.2.2).g hg hr) dcn.1.1 (by have := dcn.1.2; omega)
  have h52 := hB.2.1.2.2.2.1.1
  have fin : ∀ (x : Int32) (κ : MS) (V : Int32 → Prop), x = -1 → D2 ζ ρ ω η ν κ → U83 κ → (κ.1 17 = 0 → UvC ζ κ V) → ME X W true d 400 51 [(0, .ref P.1), (1, .int e), (2, .int x)] [] P κ (fun _ ν1 => D2 ζ ρ ω η κ ν1 ∧ U83 ν1 ∧ (ν1.1 17 = 0 → UvC ζ ν1 (fun v => V v ∨ RwV ζ x v))) T := fun x κ V hx hD hU hV => by
    subst hx
    refine v_typeDeclaration_51 _ _ ⟨fun _ => v_typeDeclaration_321 _ ⟨(Q2.rf hD.1).d2, hU, fun h17 => (hV h17).sub (fun v hv => ?_)⟩, fun h => absurd h (by decide)⟩
    rcases hv with hv | ⟨i, y, h1, h2, -⟩
    · exact hv
    · cases i with
      | zero => have h1 : (-1 : Int32) = y := h1; rw [← h1] at h2; exact absurd h2 (by decide)
      | succ i => exact absurd h1.1 (by decide)
  intro m
  induction m with
  | zero => intro x κ V hL _ hD hU hV; exact fin x κ V hL hD hU hV
  | succ m ih =>
    intro x κ V hL hin hD hU hV
    rcases hL with hL | ⟨⟨lo, hi, hx⟩, hL⟩
    · exact fin x κ V hL hD hU hV
    obtain ⟨⟨x0, -, -⟩, k10, ⟨⟨v0, v1⟩, -, v54⟩, -⟩ := hx
    have x1 := hin x ⟨0, rfl⟩ x0
    obtain ⟨v, ev⟩ : ∃ v, v = ζ.2.1 28 x.toNatClampNeg := ⟨_, rfl⟩
    rw [← ev] at v0 v1 v54
    have cv := @ic v
    have hF := hD.1.1.1
    have xm : ∀ {κ : MS} {g : Nat}, TF ζ κ → rk g = true → rlen g = 16000 → MI x (κ.2.2 g) := fun hF hg hr => MI.of ((hF.1.2.2).g hg hr) x0 (by omega)
    have e28 : κ.2.1 28 x.toNatClampNeg = v := by
      rw [ev]
      exact hF.k28 k10 (by decide)
    refine v_typeDeclaration_51 _ _ ⟨fun h => by omega, fun _ => ⟨xm hF rfl rfl, ?_, em hF rfl rfl, ?_⟩⟩
    · rw [e28]; exact MI.of ((hF.1.2.2).g rfl rfl : _ = 3200) v0 (by omega)
    rw [e28, hF.row (g := 23) rfl]
    obtain ⟨ν', eν⟩ : ∃ ν' : MS, ν' = mA1 κ 55 v.toNatClampNeg (κ.1 83) := ⟨_, rfl⟩
    rw [← eν]
    have k0 : kf [] [55] κ ν' := by rw [eν]; exact kf.rf.A rfl
    have e55 : ν'.2.1 55 = upd (κ.2.1 55) v.toNatClampNeg (κ.1 83) := by rw [eν]; rfl
    have hP' : P2 ζ ρ ω η ν' := hD.1.al (hF.kf k0 rfl rfl) (hD.1.1.2.eq (k0.2.1 66 rfl) (fun i _ => by rw [k0.2.1 68 rfl]) (k0.1 67 rfl)) k0 rfl rfl rfl rfl
    refine MC.mono (c_cellsOf hB hY hC hP'.1.1 hP'.2.2 hP'.2.1.2.2 hn (by omega)) (fun r κ1 h1 => ?_) (fun _ h => h)
    have hP1 := hP'.cells h1
    obtain ⟨⟨k1, -, k3⟩, ⟨r0, r1⟩, hg⟩ := h1
    obtain ⟨s, es⟩ : ∃ s, s = κ.1 83 + (if (r : Int32) < 0 then 0 else r) := ⟨_, rfl⟩
    rw [← es]
    have u0 := hU.1
    have is : s.toInt = (κ.1 83).toInt + max r.toInt 0 := by
      have em2 : (if (r : Int32) < 0 then 0 else r).toInt = max r.toInt 0 := by
        by_cases c : (r : Int32) < 0
        · rw [if_pos c]
          rw [Int32.lt_iff_toInt_lt] at c
          have c : r.toInt < 0 := c
          show (0 : Int) = _
          omega
        · rw [if_neg c]
          rw [Int32.lt_iff_toInt_lt] at c
          have c : ¬ r.toInt < 0 := c
          omega
      rw [es, ia (by rw [em2]; omega) (by rw [em2]; omega), em2]
    have k01 : kf [] [55, 81] κ κ1 := (k0.up rfl rfl).tr (k1.up rfl rfl)
    have kp : KP (κ.2.1 81) (κ1.2.1 81) := by rw [← k0.2.1 81 rfl]; exact k3
    have f17 : κ1.1 17 = κ.1 17 := k01.1 17 rfl
    have dS : ∀ z : Int32, P2 ζ ρ ω η (mS1 κ1 83 z) := fun z => hP1.al (hP1.1.1.kf (kf.rf.S (s := [83]) (r := []) rfl) rfl rfl) (JK.eq (ν := κ1) rfl (fun _ _ => rfl) rfl hP1.1.2) (kf.rf.S (s := [83]) (r := []) rfl) rfl rfl rfl rfl
    have d2S : ∀ z : Int32, D2 ζ ρ ω η κ (mS1 κ1 83 z) := fun z => ⟨dS z, fun g => by show ¬ κ1.1 17 = 0; rw [f17]; exact g, (k01.up rfl rfl).S rfl, kp⟩
    have hin' : ∀ y, (∃ i, Onl (ζ.2.1 27) i (ζ.2.1 27 x.toNatClampNeg) y) → 0 ≤ y.toInt → y.toInt < (ζ.1 19).toInt := fun y ⟨i, hi⟩ h0 => hin y ⟨i + 1, x0, hi⟩ h0
    have on : ∀ κ2, D2 ζ ρ ω η κ κ2 → U83 κ2 → (κ2.1 17 = 0 → UvC ζ κ2 (fun u => V u ∨ u = v)) → ME X W true d 400 122 [(0, .ref P.1), (1, .int e), (2, .int x)] [] P κ2 (fun _ ν1 => D2 ζ ρ ω η κ ν1 ∧ U83 ν1 ∧ (ν1.1 17 = 0 → UvC ζ ν1 (fun v => V v ∨ RwV ζ x v))) T := fun κ2 h2 hU2 hV2 => by
      refine v_typeDeclaration_122 _ _ ⟨xm h2.1.1.1 rfl rfl, ?_⟩
      rw [h2.1.1.1.row (g := 27) rfl]
      refine ME.mono (ih _ κ2 (fun u => V u ∨ u = v) hL hin' (hD.tr h2) hU2 hV2) (fun _ ν1 h => ⟨h2.tr h.1, h.2.1, fun h17 => (h.2.2 h17).sub (fun u hu => ?_)⟩) (fun _ h => h)
      rcases hu with hu | ⟨i, y, a, b, c⟩
      · exact Or.inl (Or.inl hu)
      · cases i with
        | zero =>
          have a : x = y := a
          subst a
          exact Or.inl (Or.inr (by rw [c, ev]))
        | succ i => exact Or.inr ⟨i, y, a.2, b, c⟩
    refine ⟨fun hle => on _ (d2S s) ⟨⟨by show 0 ≤ s.toInt; omega, by show s.toInt ≤ 5001; omega⟩, fun _ => hle⟩ (fun h17 => ?_), fun hgt => ⟨em hP1.1.1 rfl rfl, MC.mono (q2_rule (Q2.rf (dS s)) (by omega) (by decide)) (fun _ κ4 h4 => ?_) (fun _ h => h)⟩⟩
    · have h17 : κ1.1 17 = 0 := h17
      rw [f17] at h17
      obtain ⟨a1, a2⟩ := hA (Classical.byContradiction (fun g => hD.2.1 g h17))
      obtain ⟨er, rp⟩ := hg a1
      have rp := rp a2
      have u5 := hU.2 h17
      have hV := hV h17
      have cl0 : cvV ζ (κ1.2.1 81) (ζ.2.1 54 v.toNatClampNeg) = r := by rw [v54]; exact er.symm
      have old : ∀ u, V u → ¬ u = v → κ1.2.1 55 u.toNatClampNeg = κ.2.1 55 u.toNatClampNeg ∧ vcl ζ (mS1 κ1 83 s) u = vcl ζ κ u := fun u hu hne => by
        have hb := (hV.1 u hu).1
        refine ⟨?_, ?_⟩
        · rw [k1.2.1 55 rfl, e55]
          exact upd_off (fun h => hne (i_eq (by have := @ic u; omega)))
        · show (cvV ζ (κ1.2.1 81) _).toInt = _
          rw [cv_keep kp (hV.1 u hu).2.2.1]; rfl
      have new : κ1.2.1 55 v.toNatClampNeg = κ.1 83 := by rw [k1.2.1 55 rfl, e55]; exact upd_at
      have vn : vcl ζ (mS1 κ1 83 s) v = r.toInt := by
        show (cvV ζ (κ1.2.1 81) _).toInt = _
        rw [cl0]
      refine ⟨fun u hu => ?_, fun u u' hu hu' hne => ?_⟩
      · by_cases c : u = v
        · subst c
          refine ⟨⟨v0, v1⟩, ?_, ?_, ?_, ?_⟩
          · show 0 ≤ (κ1.2.1 55 u.toNatClampNeg).toInt; rw [new]; exact u0.1
          · show ¬ cvV ζ (κ1.2.1 81) _ = -2
            rw [cl0]; intro h; rw [h] at rp; exact absurd rp (by decide)
          · rw [vn]; exact rp
          · rw [vn]
            show (κ1.2.1 55 u.toNatClampNeg).toInt + _ ≤ s.toInt
            rw [new]; omega
        · have hu := hu.resolve_right c
          obtain ⟨o1, o2⟩ := old u hu c
          obtain ⟨b1, b2, b3, b4, b5⟩ := hV.1 u hu
          refine ⟨b1, ?_, ?_, ?_, ?_⟩
          · show 0 ≤ (κ1.2.1 55 u.toNatClampNeg).toInt; rw [o1]; exact b2
          · show ¬ cvV ζ (κ1.2.1 81) _ = -2
            rw [cv_keep kp b3]; exact b3
          · rw [o2]; exact b4
          · rw [o2]
            show (κ1.2.1 55 u.toNatClampNeg).toInt + _ ≤ s.toInt
            rw [o1]; omega
      · show (κ1.2.1 55 u.toNatClampNeg).toInt + _ ≤ (κ1.2.1 55 u'.toNatClampNeg).toInt ∨ (κ1.2.1 55 u'.toNatClampNeg).toInt + _ ≤ (κ1.2.1 55 u.toNatClampNeg).toInt
        by_cases c : u = v
        · have c' : ¬ u' = v := fun h => hne (by rw [c, h])
          have hu' := hu'.resolve_right c'
          obtain ⟨o1, o2⟩ := old u' hu' c'
          have := (hV.1 u' hu').2.2.2.2
          rw [c, new, o1, o2]
          exact Or.inr this
        · have hu := hu.resolve_right c
          obtain ⟨o1, o2⟩ := old u hu c
          by_cases c' : u' = v
          · have := (hV.1 u hu).2.2.2.2
            rw [c', new, o1, o2]
            exact Or.inl this
          · have hu' := hu'.resolve_right c'
            obtain ⟨o1', o2'⟩ := old u' hu' c'
            rw [o1, o2, o1', o2']
            exact hV.2 u u' hu hu' hne
    · obtain ⟨q4, n17⟩ := h4
      have kS : kf [83] [] κ4 (mS1 κ4 83 5001) := kf.rf.S rfl
      have hP5 : P2 ζ ρ ω η (mS1 κ4 83 5001) := q4.1.al (q4.1.1.1.kf kS rfl rfl) (JK.eq (ν := κ4) rfl (fun _ _ => rfl) rfl q4.1.1.2) kS rfl rfl rfl rfl
      have d4 : D2 ζ ρ ω η κ (mS1 κ4 83 5001) := (d2S s).tr (q4.d2.tr ⟨hP5, fun g => g, kS.up rfl rfl, KP.rf⟩)
      exact on _ d4 ⟨⟨(by show (0 : Int) ≤ (5001 : Int32).toInt; decide), (by show (5001 : Int32).toInt ≤ 5001; decide)⟩, fun h => absurd h n17⟩ (fun h => absurd h n17)
end NNAU
