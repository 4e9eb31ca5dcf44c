/-! contracts of the reference: the whole round of types -/
/-- a SIGNATURE's RESULT, a LEVEL's SUPER and members -/
def NdC (μ ζ : MS) (ρ ω : Nat → Int32) (ν : MS) (t : Int32) : Prop := (ζ.2.1 20 t.toNatClampNeg = 12 → 0 ≤ (ζ.2.1 23 t.toNatClampNeg).toInt → ¬ ζ.2.1 20 (rlV ζ (ζ.2.1 23 t.toNatClampNeg)).toNatClampNeg = 28 ∧ ¬ ζ.2.1 20 (rlV ζ (ζ.2.1 23 t.toNatClampNeg)).toNatClampNeg = 29) ∧ (ζ.2.1 20 t.toNatClampNeg = 32 → Ob ζ (rlV ζ (supV ζ t)) ∧ MdC μ ζ ρ ω t (ζ.2.1 24 t.toNatClampNeg) ∧ ∀ o, Ovr ζ t o → OvC μ ζ ρ ω ν t o)
/-- what the round of types leaves -/
def TyO (μ ζ ν : MS) : Prop := ∃ ρ ω η : Nat → Int32, (P2 ζ ρ ω η ν ∧ RvO μ ζ ρ ∧ HoC μ ζ η ∧ U83 ν ∧ ∀ l : Int32, InN ζ l → ζ.2.1 20 l.toNatClampNeg = 32 → RT μ ζ (ω l.toNatClampNeg) ∧ Ob ζ (ω l.toNatClampNeg)) ∧ (ν.1 17 = 0 → (ag ζ η ∧ bg ζ) ∧ (∀ l : Int32, InN ζ l → ζ.2.1 20 l.toNatClampNeg = 32 → lvV ζ ρ (ω l.toNatClampNeg) = l) ∧ (∀ x : Int32, InN ζ x → ζ.2.1 20 x.toNatClampNeg = 3 ∨ ζ.2.1 20 x.toNatClampNeg = 6 → NoR ζ ρ x) ∧ (∀ t : Int32, InN ζ t → BdT ζ η (ν.2.1 81) t) ∧ UvC ζ ν (fun v => ∃ w e, DcO μ w e ∧ DvV ζ e v) ∧ (∀ w e, DcO μ w e → DcC ζ ρ e) ∧ ∀ t : Int32, InN ζ t → NdC μ ζ ρ ω ν t)
/-- rows made anew so far -/
def IniR (ζ κ : MS) (k : Int) : Prop := TF ζ κ ∧ kf [] [66, 72, 73, 81, 82] ζ κ ∧ (∀ j : Nat, (j : Int) < k → κ.2.1 66 j = -1 ∧ κ.2.1 72 j = -1 ∧ κ.2.1 81 j = -2 ∧ κ.2.1 82 j = 0) ∧ ∀ x : Int32, InN ζ x → x.toInt < k → κ.2.1 73 x.toNatClampNeg = x
/-- REVEALs so far, since a state -/
def S1 (μ ζ κ0 κ : MS) : Prop := RW μ ζ κ ∧ FM κ0 κ ∧ kf [17, 18] [72, 73] κ0 κ
/-- declarations so far, since a state -/
def S3 (ζ : MS) (ρ ω η : Nat → Int32) (κ0 κ : MS) (E : Int32 → Prop) : Prop := D2 ζ ρ ω η κ0 κ ∧ U83 κ ∧ (κ.1 17 = 0 → UvC ζ κ (fun v => ∃ e, E e ∧ DvV ζ e v) ∧ ∀ e, E e → DcC ζ ρ e)
/-- nodes so far, since a state -/
def S4 (μ ζ : MS) (ρ ω η : Nat → Int32) (κ0 κ : MS) (k : Int) : Prop := P2 ζ ρ ω η κ ∧ (FM κ0 κ ∧ kf Q2s M2r κ0 κ) ∧ (κ.1 17 = 0 → ∀ t : Int32, InN ζ t → t.toInt < k → NdC μ ζ ρ ω κ t)
section NNAW
variable {X : ev_X} {W : Nat → Prop} {d : Nat} {P : MP} {μ ν ν0 ν1 κ κ0 ζ : MS} {T : MS → Prop} {R : Int32 → MS → Prop} {x y z s t q r e u l o : Int32} {ρ ω η M M' : Nat → Int32} {w c : Nat} {E : Int32 → Prop}
theorem unit24 (hB : TB μ ζ) (hw : (w : Int) < (μ.1 41).toInt) : ζ.2.1 24 (μ.2.1 42 w).toNatClampNeg = μ.2.1 24 (μ.2.1 42 w).toNatClampNeg := by
  obtain ⟨hP, hR, hz⟩ := hB
  have r20 : ζ.2.1 20 = μ.2.1 20 := hR.1.2.1 20 rfl
  obtain ⟨⟨c, hc⟩, -⟩ := hR.2.2.2.2.2 hz
  obtain ⟨-, -, f2, -⟩ := hc w hw
  have f2' : μ.2.1 20 (μ.2.1 42 w).toNatClampNeg = 1 := by rw [← r20]; exact f2
  exact (hR.2.2.1 2 _ (by omega)).resolve_right (fun h => by rw [f2'] at h; exact absurd h.1 (by decide))
theorem ty_2 (hB : TB μ ζ) (next : ∀ κ, IniR ζ κ (ζ.1 19).toInt → ME X W true d 394 64 [(0, .ref P.1), (1, .int 0)] [] P (mS1 (mS1 κ 67 0) 34 0) R T) : ∀ (n : Nat) (x : Int32) (κ : MS), 0 ≤ x.toInt → (ζ.1 19).toInt - x.toInt ≤ n → x.toInt ≤ (ζ.1 19).toInt → IniR ζ κ x.toInt → ME X W true d 394 2 [(0, .ref P.1), (1, .int x)] [] P κ R T := by
  have h16 := hB.n16
  intro n
  induction n with
  | zero =>
    intro x κ h0 hn hle h
    have e19 := eq_i (h.1.1.1 19 rfl)
    exact v_typeRound_2 _ ⟨fun _ => next κ (by rw [show (ζ.1 19).toInt = x.toInt by omega]; exact h), fun h => by omega⟩
  | succ n ih =>
    intro x κ h0 hn hle h
    have e19 := eq_i (h.1.1.1 19 rfl)
    refine v_typeRound_2 _ ⟨fun _ => next κ (by rw [show (ζ.1 19).toInt = x.toInt by omega]; exact h), fun hlt => ?_⟩
    have hL := h.1.1.2.2
    have e1 : (x + 1).toInt = x.toInt + 1 := ia1 (by omega)
    have cx := @ic x
    have m : ∀ {g : Nat}, rk g = true → rlen g = 16000 → MI x (κ.2.2 g) := fun hg hr => MI.of (hL.g hg hr) h0 (by omega)
    refine ⟨m rfl rfl, m rfl rfl, m rfl rfl, m rfl rfl, m rfl rfl, ?_⟩
    obtain ⟨hF, hk, hj, h73⟩ := h
    have kk : kf [] [66, 72, 73, 81, 82] κ (mA1 (mA1 (mA1 (mA1 (mA1 κ 66 x.toNatClampNeg (-1)) 72 x.toNatClampNeg (-1)) 73 x.toNatClampNeg x) 81 x.toNatClampNeg (-2)) 82 x.toNatClampNeg 0) := ((((kf.rf.A rfl).A rfl).A rfl).A rfl).A rfl
    refine ih (x + 1) _ (by omega) (by omega) (by omega) ⟨hF.kf kk rfl rfl, hk.tr kk, fun j hlt => ?_, fun y hy hlt => ?_⟩
    · show upd (κ.2.1 66) x.toNatClampNeg (-1) j = -1 ∧ upd (κ.2.1 72) x.toNatClampNeg (-1) j = -1 ∧ upd (κ.2.1 81) x.toNatClampNeg (-2) j = -2 ∧ upd (κ.2.1 82) x.toNatClampNeg 0 j = 0
      by_cases c : j = x.toNatClampNeg
      · rw [c, upd_at, upd_at, upd_at, upd_at]
        exact ⟨rfl, rfl, rfl, rfl⟩
      · rw [upd_off c, upd_off c, upd_off c, upd_off c]
        exact hj j (by omega)
    · show upd (κ.2.1 73) x.toNatClampNeg x y.toNatClampNeg = y
      by_cases c : y.toNatClampNeg = x.toNatClampNeg
      · rw [c, upd_at]
        exact in_eq ⟨h0, by omega⟩ hy c.symm
      · rw [upd_off c]
        exact h73 y hy (by have := @ic y; have := hy.1; omega)
theorem S1.step (h : S1 μ ζ κ0 κ) (g : RvR μ ζ κ ν1) : S1 μ ζ κ0 ν1 := ⟨g.1, fun a => g.2.1 (h.2.1 a), h.2.2.tr g.2.2⟩
theorem ty_84 (hB : TB μ ζ) (hd : 6 ≤ d) {x1 : Int32} (next : ∀ κ, S1 μ ζ κ0 κ → ME X W true d 394 64 [(0, .ref P.1), (1, .int (x1 + 1))] [] P κ R T) : ∀ (m : Nat) (x : Int32) (κ : MS), Lst (DcO μ w) (ζ.2.1 27) m x → S1 μ ζ κ0 κ → ME X W true d 394 84 [(0, .ref P.1), (1, .int x1), (2, .int x)] [] P κ R T := by
  have h16 := hB.n16
  have fin : ∀ (x : Int32) (κ : MS), x = -1 → S1 μ ζ κ0 κ → ME X W true d 394 84 [(0, .ref P.1), (1, .int x1), (2, .int x)] [] P κ R T := fun x κ e h => by
    subst e
    exact v_typeRound_84 _ _ ⟨fun _ => next κ h, fun h => absurd h (by decide)⟩
  intro m
  induction m with
  | zero => intro x κ hL h; exact fin x κ hL h
  | succ m ih =>
    intro x κ hL h
    rcases hL with hL | ⟨hx, hL⟩
    · exact fin x κ hL h
    have dcn := hB.dc hx
    refine v_typeRound_84 _ _ ⟨fun h => by have := dcn.1.1; omega, fun _ => MC.mono (c_revealed hB h.1 hd hx) (fun _ κ1 h1 => ?_) (fun _ h => h)⟩
    have h2 := h.step h1
    have hF := h2.1.1
    refine ⟨MI.of ((hF.1.2.2).g rfl rfl : _ = 16000) dcn.1.1 (by have := dcn.1.2; omega), ?_⟩
    rw [hF.row (g := 27) rfl]
    exact ih _ κ1 hL h2
theorem ty_64 (hB : TB μ ζ) (hd : 6 ≤ d) (next : ∀ κ, S1 μ ζ κ0 κ → MC X W true d 396 [.ref P.1] P κ (fun r1 μ1 => MC X W true d 399 [.ref P.1] P μ1 (fun r2 μ2 => ME X W true d 394 124 [(0, .ref P.1), (1, .int 0)] [] P (mS1 μ2 83 0) R T) (fun _ => False)) (fun _ => False)) : ∀ (n : Nat) (x : Int32) (κ : MS), 0 ≤ x.toInt → (μ.1 41).toInt - x.toInt ≤ n → S1 μ ζ κ0 κ → ME X W true d 394 64 [(0, .ref P.1), (1, .int x)] [] P κ R T := by
  have h16 := hB.n16
  intro n
  induction n with
  | zero =>
    intro x κ h0 hn h
    have e41 := eq_i ((h.1.1.1.1 41 rfl).trans (hB.2.1.1.1 41 rfl))
    exact v_typeRound_64 _ ⟨fun _ => next κ h, fun h => by omega⟩
  | succ n ih =>
    intro x κ h0 hn h
    have hF := h.1.1
    have e41 := eq_i ((hF.1.1 41 rfl).trans (hB.2.1.1.1 41 rfl))
    have h13 := hB.2.1.2.1.1.2.1.2.1
    have r42 : κ.2.1 42 = μ.2.1 42 := (hF.row rfl).trans (hB.2.1.1.2.1 42 rfl)
    refine v_typeRound_64 _ ⟨fun _ => next κ h, fun hlt => ?_⟩
    have cx := @ic x
    have hw : ((x.toNatClampNeg : Nat) : Int) < (μ.1 41).toInt := by omega
    obtain ⟨⟨b1, b2⟩, -⟩ := hB.im hw
    have e1 : (x + 1).toInt = x.toInt + 1 := ia1 (by omega)
    refine ⟨MI.of ((hF.1.2.2).g rfl rfl : _ = 14) h0 (by omega), ?_, ?_⟩
    · rw [r42]; exact MI.of ((hF.1.2.2).g rfl rfl : _ = 16000) b1 (by omega)
    rw [r42, hF.k24 (Or.inl rfl) (sfx_of (hB.u1 hw) rfl)]
    obtain ⟨m, hm⟩ := hB.dl hw
    exact ty_84 hB hd (fun κ1 h1 => ih (x + 1) κ1 (by omega) (by omega) h1) m _ κ hm h
theorem ty_144 (hZ : TZ μ ζ) (hY : TY μ ζ) (hC : HoC μ ζ η) (hA : κ0.1 17 = 0 → ag ζ η ∧ bg ζ) (hR : RvO μ ζ ρ) (hd : 1254 ≤ d) {x1 : Int32} (next : ∀ κ E, S3 ζ ρ ω η κ0 κ E → (∀ w' : Nat, ∀ e, (w' : Int) ≤ w → DcO μ w' e → E e) → ME X W true d 394 124 [(0, .ref P.1), (1, .int (x1 + 1))] [] P κ R T) : ∀ (m : Nat) (x : Int32) (κ : MS) (E : Int32 → Prop), Lst (DcO μ w) (ζ.2.1 27) m x → S3 ζ ρ ω η κ0 κ E → (∀ w' : Nat, ∀ e, (w' : Int) < w → DcO μ w' e → E e) → (∀ e, DcO μ w e → E e ∨ ∃ i, Onl (ζ.2.1 27) i x e) → ME X W true d 394 144 [(0, .ref P.1), (1, .int x1), (2, .int x)] [] P κ R T := by
  have hB := hZ.1
  have h16 := hB.n16
  have fin : ∀ (x : Int32) (κ : MS) (E : Int32 → Prop), x = -1 → S3 ζ ρ ω η κ0 κ E → (∀ w' : Nat, ∀ e, (w' : Int) < w → DcO μ w' e → E e) → (∀ e, DcO μ w e → E e ∨ ∃ i, Onl (ζ.2.1 27) i x e) → ME X W true d 394 144 [(0, .ref P.1), (1, .int x1), (2, .int x)] [] P κ R T := fun x κ E e h hE hr => by
    subst e
    refine v_typeRound_144 _ _ ⟨fun _ => next κ E h (fun w' e hw' he => ?_), fun h => absurd h (by decide)⟩
    by_cases c : (w' : Int) < w
    · exact hE w' e c he
    · have : w' = w := by omega
      subst this
      rcases hr e he with g | ⟨i, g⟩
      · exact g
      · have e0 : 0 ≤ e.toInt := (hB.dc he).1.1
        cases i with
        | zero => have g : (-1 : Int32) = e := g; rw [← g] at e0; exact absurd e0 (by decide)
        | succ i => exact absurd g.1 (by decide)
  intro m
  induction m with
  | zero => intro x κ E hL h hE hr; exact fin x κ E hL h hE hr
  | succ m ih =>
    intro x κ E hL h hE hr
    rcases hL with hL | ⟨hx, hL⟩
    · exact fin x κ E hL h hE hr
    have dcn := hB.dc hx
    refine v_typeRound_144 _ _ ⟨fun h => by have := dcn.1.1; omega, fun _ => MC.mono (c_typeDecl hZ hY hC hA hR hd hx h.1 h.2.1 (fun h17 => (h.2.2 h17).1)) (fun _ κ1 h1 => ?_) (fun _ h => h)⟩
    obtain ⟨a1, a2, a3⟩ := h1
    have hF := a1.1.1.1
    refine ⟨MI.of ((hF.1.2.2).g rfl rfl : _ = 16000) dcn.1.1 (by have := dcn.1.2; omega), ?_⟩
    rw [hF.row (g := 27) rfl]
    refine ih _ κ1 (fun e => E e ∨ e = x) hL ⟨h.1.tr a1, a2, fun h17 => ⟨(a3 h17).1.sub (fun v hv => ?_), fun e he => ?_⟩⟩ (fun w' e hw' he => Or.inl (hE w' e hw' he)) (fun e he => ?_)
    · obtain ⟨e, he, hv⟩ := hv
      rcases he with he | he
      · exact Or.inl ⟨e, he, hv⟩
      · subst he; exact Or.inr hv
    · rcases he with he | he
      · exact (h.2.2 (Classical.byContradiction (fun g => a1.2.1 g h17))).2 e he
      · subst he; exact (a3 h17).2
    · rcases hr e he with g | ⟨i, g⟩
      · exact Or.inl (Or.inl g)
      · cases i with
        | zero => have g : x = e := g; exact Or.inl (Or.inr g.symm)
        | succ i => exact Or.inr ⟨i, g.2⟩
theorem ty_124 (hZ : TZ μ ζ) (hY : TY μ ζ) (hC : HoC μ ζ η) (hA : κ0.1 17 = 0 → ag ζ η ∧ bg ζ) (hR : RvO μ ζ ρ) (hd : 1254 ≤ d) (next : ∀ κ E, S3 ζ ρ ω η κ0 κ E → (∀ w e, DcO μ w e → E e) → ME X W true d 394 171 [(0, .ref P.1), (1, .int 0)] [] P κ R T) : ∀ (n : Nat) (x : Int32) (κ : MS) (E : Int32 → Prop), 0 ≤ x.toInt → (μ.1 41).toInt - x.toInt ≤ n → S3 ζ ρ ω η κ0 κ E → (∀ w' : Nat, ∀ e, (w' : Int) < x.toInt → DcO μ w' e → E e) → ME X W true d 394 124 [(0, .ref P.1), (1, .int x)] [] P κ R T := by
  have hB := hZ.1
  have h16 := hB.n16
  intro n
  induction n with
  | zero =>
    intro x κ E h0 hn h hE
    have e41 := eq_i ((h.1.1.1.1.1.1 41 rfl).trans (hB.2.1.1.1 41 rfl))
    exact v_typeRound_124 _ ⟨fun _ => next κ E h (fun w e he => hE w e (by have := he.1; omega) he), fun h => by omega⟩
  | succ n ih =>
    intro x κ E h0 hn h hE
    have hF := h.1.1.1.1
    have e41 := eq_i ((hF.1.1 41 rfl).trans (hB.2.1.1.1 41 rfl))
    have h13 := hB.2.1.2.1.1.2.1.2.1
    have r42 : κ.2.1 42 = μ.2.1 42 := (hF.row rfl).trans (hB.2.1.1.2.1 42 rfl)
    refine v_typeRound_124 _ ⟨fun hge => next κ E h (fun w e he => hE w e (by have := he.1; omega) he), fun hlt => ?_⟩
    have cx := @ic x
    have hw : ((x.toNatClampNeg : Nat) : Int) < (μ.1 41).toInt := by omega
    obtain ⟨⟨b1, b2⟩, -⟩ := hB.im hw
    have e1 : (x + 1).toInt = x.toInt + 1 := ia1 (by omega)
    have r27 : ζ.2.1 27 = μ.2.1 27 := hB.2.1.1.2.1 27 rfl
    refine ⟨MI.of ((hF.1.2.2).g rfl rfl : _ = 14) h0 (by omega), ?_, ?_⟩
    · rw [r42]; exact MI.of ((hF.1.2.2).g rfl rfl : _ = 16000) b1 (by omega)
    rw [r42, hF.k24 (Or.inl rfl) (sfx_of (hB.u1 hw) rfl)]
    obtain ⟨m, hm⟩ := hB.dl hw
    refine ty_144 (w := x.toNatClampNeg) hZ hY hC hA hR hd (fun κ1 E1 h1 hE1 => ih (x + 1) κ1 E1 (by omega) (by omega) h1 (fun w' e hw' he => hE1 w' e (by omega) he)) m _ κ E hm h (fun w' e hw' he => hE w' e (by omega) he) (fun e he => Or.inr ?_)
    obtain ⟨-, i, hi, -⟩ := he
    rw [r27]
    refine ⟨i, ?_⟩
    rw [unit24 hB hw]
    exact hi
theorem NdC.keep (hY : TY μ ζ) (hZ : TZ μ ζ) (ti : InN ζ t) (li : InN ζ l) (kl : ζ.2.1 20 l.toNatClampNeg = 32) (hne : ¬ t = l) (h28 : ∀ j, ν1.2.1 28 j = ν.2.1 28 j ∨ ∃ i o, Onl (ζ.2.1 27) i (ζ.2.1 25 l.toNatClampNeg) o ∧ 0 ≤ o.toInt ∧ o.toNatClampNeg = j) (h : NdC μ ζ ρ ω ν t) : NdC μ ζ ρ ω ν1 t := by
  refine ⟨h.1, fun k => ⟨(h.2 k).1, (h.2 k).2.1, fun o ho => ?_⟩⟩
  have g := (h.2 k).2.2 o ho
  rcases h28 o.toNatClampNeg with e | ⟨i, o', a1, a2, a3⟩
  · unfold OvC at g ⊢
    rw [e]; exact g
  · have tn := (hY.1 t ti).1 (Or.inr (Or.inr k))
    have ln := (hY.1 l li).1 (Or.inr (Or.inr kl))
    obtain ⟨-, -, m1, hm1⟩ := lv_row hZ ⟨tn, k⟩
    obtain ⟨-, -, m2, hm2⟩ := lv_row hZ ⟨ln, kl⟩
    obtain ⟨j, hj, h0⟩ := ho
    have n1 := Lst.onl h0 hm1 hj
    have n2 := Lst.onl a2 hm2 a1
    have : o' = o := in_eq n2.in n1.in a3
    subst this
    exact absurd (hY.2.2.2.1 t l o' ti li k kl ⟨j, hj, h0⟩ ⟨i, a1, a2⟩) hne
theorem ty_171 (hZ : TZ μ ζ) (hY : TY μ ζ) (hR : RvO μ ζ ρ) (hO : ∀ l : Int32, InN ζ l → ζ.2.1 20 l.toNatClampNeg = 32 → RT μ ζ (ω l.toNatClampNeg)) (hd : 15 ≤ d) : ∀ (n : Nat) (x : Int32) (κ : MS), 0 ≤ x.toInt → (ζ.1 19).toInt - x.toInt ≤ n → S4 μ ζ ρ ω η κ0 κ x.toInt → ME X W true d 394 171 [(0, .ref P.1), (1, .int x)] [] P κ (fun _ ν1 => S4 μ ζ ρ ω η κ0 ν1 (ζ.1 19).toInt) T := by
  have hB := hZ.1
  have h16 := hB.n16
  have fin : ∀ (x : Int32) (κ : MS), (ζ.1 19).toInt ≤ x.toInt → S4 μ ζ ρ ω η κ0 κ x.toInt → S4 μ ζ ρ ω η κ0 κ (ζ.1 19).toInt := fun x κ hx h => ⟨h.1, h.2.1, fun h17 t ht hlt => h.2.2 h17 t ht (by omega)⟩
  intro n
  induction n with
  | zero =>
    intro x κ h0 hn h
    have e19 := eq_i (h.1.1.1.1.1 19 rfl)
    exact v_typeRound_171 _ ⟨fun _ => fin x κ (by omega) h, fun h => by omega⟩
  | succ n ih =>
    intro x κ h0 hn h
    have hF := h.1.1.1
    have e19 := eq_i (hF.1.1 19 rfl)
    have r20 : κ.2.1 20 = ζ.2.1 20 := hF.row rfl
    have r23 : κ.2.1 23 = ζ.2.1 23 := hF.row rfl
    refine v_typeRound_171 _ ⟨fun hge => fin x κ (by omega) h, fun hlt => ?_⟩
    have xi : InN ζ x := ⟨h0, by omega⟩
    have e1 : (x + 1).toInt = x.toInt + 1 := ia1 (by omega)
    have xm : ∀ {κ : MS} {g : Nat}, TF ζ κ → rk g = true → rlen g = 16000 → MI x (κ.2.2 g) := fun hF hg hr => MI.of ((hF.1.2.2).g hg hr) h0 (by omega)
    -- a state of this step: what was known of the nodes before, but for OVERRIDES of this one
    have cont : ∀ κ2, P2 ζ ρ ω η κ2 → FM κ κ2 → kf Q2s M2r κ κ2 → ((ζ.2.1 20 x.toNatClampNeg = 32 ∧ ∀ j, κ2.2.1 28 j = κ.2.1 28 j ∨ ∃ i o, Onl (ζ.2.1 27) i (ζ.2.1 25 x.toNatClampNeg) o ∧ 0 ≤ o.toInt ∧ o.toNatClampNeg = j) ∨ κ2.2.1 28 = κ.2.1 28) → (κ2.1 17 = 0 → NdC μ ζ ρ ω κ2 x) → ME X W true d 394 298 [(0, .ref P.1), (1, .int x)] [] P κ2 (fun _ ν1 => S4 μ ζ ρ ω η κ0 ν1 (ζ.1 19).toInt) T := fun κ2 a1 a2 a3 a4 a5 => by
      refine v_typeRound_298 _ (ih (x + 1) κ2 (by omega) (by omega) ⟨a1, ⟨fun g => a2 (h.2.1.1 g), h.2.1.2.tr a3⟩, fun h17 t ht hlt2 => ?_⟩)
      by_cases c : t = x
      · subst c; exact a5 h17
      · have ht2 := h.2.2 (Classical.byContradiction (fun g => a2 g h17)) t ht (by
          have : ¬ t.toInt = x.toInt := fun e => c (i_eq e)
          omega)
        rcases a4 with ⟨k32, g⟩ | g
        · exact ht2.keep hY hZ ht xi k32 c g
        · refine ⟨ht2.1, fun k => ⟨(ht2.2 k).1, (ht2.2 k).2.1, fun o ho => ?_⟩⟩
          have q := (ht2.2 k).2.2 o ho
          unfold OvC at q ⊢
          rw [g]; exact q
    have second : ∀ κ2, Q2 ζ ρ ω η κ κ2 → (κ2.1 17 = 0 → ζ.2.1 20 x.toNatClampNeg = 12 → 0 ≤ (ζ.2.1 23 x.toNatClampNeg).toInt → ¬ ζ.2.1 20 (rlV ζ (ζ.2.1 23 x.toNatClampNeg)).toNatClampNeg = 28 ∧ ¬ ζ.2.1 20 (rlV ζ (ζ.2.1 23 x.toNatClampNeg)).toNatClampNeg = 29) → ME X W true d 394 251 [(0, .ref P.1), (1, .int x)] [] P κ2 (fun _ ν1 => S4 μ ζ ρ ω η κ0 ν1 (ζ.1 19).toInt) T := fun κ2 q2 hc => by
      have hF2 := q2.1.1.1
      have s20 : κ2.2.1 20 = ζ.2.1 20 := hF2.row rfl
      have k28 : κ2.2.1 28 = κ.2.1 28 := q2.2.2.2.1 28 rfl
      refine v_typeRound_251 _ ⟨xm hF2 rfl rfl, fun k32 => ?_, fun k32 => ?_⟩
      · rw [s20] at k32
        have n12 : ¬ ζ.2.1 20 x.toNatClampNeg = 12 := fun h => by rw [k32] at h; exact absurd h (by decide)
        have xn := (hY.1 x xi).1 (Or.inr (Or.inr k32))
        have sn := sup_nd hZ xn k32
        refine MC.mono (c_super hF2 (by omega) (xm hF2 rfl rfl)) (fun r1 κ3 h3 => ?_) (fun _ h => h)
        obtain ⟨e3, es⟩ := h3
        have e3 := e3.symm
        subst e3
        rw [es]
        refine MC.mono (c_real hB hF2 (by omega) sn) (fun r2 κ3 h3 => ?_) (fun _ h => h)
        obtain ⟨e3, er, t3⟩ := h3
        have e3 := e3.symm
        subst e3
        refine MC.mono (c_isObject hF2 (by omega) (t3.mi hB hF2 rfl rfl)) (fun r3 κ3 h3 => ?_) (fun _ h => h)
        obtain ⟨e3, eo⟩ := h3
        have e3 := e3.symm
        subst e3
        have third : ∀ κ4, Q2 ζ ρ ω η κ κ4 → (κ4.1 17 = 0 → Ob ζ (rlV ζ (supV ζ x))) → ME X W true d 394 293 [(0, .ref P.1), (1, .int x)] [] P κ4 (fun _ ν1 => S4 μ ζ ρ ω η κ0 ν1 (ζ.1 19).toInt) T := fun κ4 q4 ho => by
          refine v_typeRound_293 _ (MC.mono (c_memberRound hZ hY q4.1 hR hd (hO x xi k32) xn k32) (fun _ κ5 h5 => ?_) (fun _ h => h))
          obtain ⟨⟨b1, b2, b3, b4⟩, b5⟩ := h5
          refine cont κ5 b1 (fun g => b2 (q4.2.1 g)) ((q4.2.2.up rfl rfl).tr b3) (Or.inl ⟨k32, fun j => ?_⟩) (fun h17 => ⟨fun h => absurd h n12, fun _ => ⟨ho (Classical.byContradiction (fun g => b2 g h17)), (b5 h17).1, (b5 h17).2⟩⟩)
          rw [← q4.2.2.2.1 28 rfl]; exact b4 j
        refine ⟨fun hr => third κ2 q2 (fun _ => by rw [← er]; exact obV_n (by rw [← eo]; exact hr)), fun hr => ⟨xm hF2 rfl rfl, MC.mono (q2_rule (Q2.rf q2.1) (by omega) (by decide)) (fun _ κ4 h4 => third κ4 (q2.tr h4.1) (fun h => absurd h h4.2)) (fun _ h => h)⟩⟩
      · rw [s20] at k32
        exact cont κ2 q2.1 q2.2.1 (q2.2.2.up rfl rfl) (Or.inr k28) (fun h17 => ⟨hc h17, fun h => absurd h k32⟩)
    have bad : ∀ κ2, Q2 ζ ρ ω η κ κ2 → ME X W true d 394 239 [(0, .ref P.1), (1, .int x)] [] P κ2 (fun _ ν1 => S4 μ ζ ρ ω η κ0 ν1 (ζ.1 19).toInt) T := fun κ2 q2 => v_typeRound_239 _ ⟨xm q2.1.1.1 rfl rfl, MC.mono (q2_rule (Q2.rf q2.1) (by omega) (by decide)) (fun _ κ4 h4 => second κ4 (q2.tr h4.1) (fun h => absurd h h4.2)) (fun _ h => h)⟩
    refine ⟨xm hF rfl rfl, fun k12 => second κ (Q2.rf h.1) (fun _ k => absurd (by rw [r20]; exact k) k12), fun k12 => ⟨xm hF rfl rfl, fun hlt2 => second κ (Q2.rf h.1) (fun _ _ hge => by rw [r23] at hlt2; omega), fun hge => ⟨xm hF rfl rfl, ?_⟩⟩⟩
    rw [r20] at k12
    rw [r23] at hge ⊢
    have hn2 := (sg_re ((hY.1 x xi).2.1 k12)).resolve_left (fun e => by rw [e] at hge; exact absurd hge (by decide))
    refine MC.mono (c_real hB hF (by omega) hn2) (fun r1 κ3 h3 => ?_) (fun _ h => h)
    obtain ⟨e3, er, t3⟩ := h3
    have e3 := e3.symm
    subst e3
    refine ⟨t3.mi hB hF rfl rfl, fun _ => bad κ (Q2.rf h.1), fun n28 => ⟨xm hF rfl rfl, ?_⟩⟩
    rw [r20, er] at n28
    rw [r23]
    refine MC.mono (c_real hB hF (by omega) hn2) (fun r2 κ3 h3 => ?_) (fun _ h => h)
    obtain ⟨e3, er2, t4⟩ := h3
    have e3 := e3.symm
    subst e3
    refine ⟨t4.mi hB hF rfl rfl, fun n29 => second κ (Q2.rf h.1) (fun _ _ _ => ⟨n28, ?_⟩), fun _ => bad κ (Q2.rf h.1)⟩
    rw [r20, er2] at n29
    exact n29
/-- the whole round of types -/
theorem c_typeRound (hZ : TZ μ ζ) (hY : TY μ ζ) (hd : 1256 ≤ d) : MC X W true d 394 [.ref P.1] P ζ (fun _ ν1 => TyO μ ζ ν1) T := by
  have hB := hZ.1
  have h16 := hB.n16
  have n0 := hB.n0
  have tf0 : TF ζ ζ := ⟨⟨fun _ _ => rfl, fun _ _ => rfl, hB.lr⟩, fun h => h, fun _ => Or.inl rfl, fun _ _ _ => Or.inl rfl⟩
  refine me_meth (by omega) rfl (v_typeRound_0 (ty_2 hB (fun κ hI => ?_) (ζ.1 19).toInt.toNat 0 ζ (by decide) (by show _ - (0 : Int) ≤ _; omega) (by show (0 : Int) ≤ _; omega) ⟨tf0, kf.rf, fun j hj => by have hj : (j : Int) < 0 := hj; omega, fun x hx hlt => by have hlt : x.toInt < 0 := hlt; have := hx.1; omega⟩))
  obtain ⟨hF, -, hj, h73⟩ := hI
  obtain ⟨κ1, e1⟩ : ∃ κ1, κ1 = mS1 (mS1 κ 67 0) 34 0 := ⟨_, rfl⟩
  rw [← e1]
  have k1 : kf [67, 34] [] κ κ1 := by rw [e1]; exact (kf.rf.S rfl).S rfl
  have hF1 : TF ζ κ1 := hF.kf k1 rfl rfl
  have rw1 : ∀ g, κ1.2.1 g = κ.2.1 g := fun g => k1.2.1 g rfl
  have e67 : κ1.1 67 = 0 := by rw [e1]; rfl
  have i67 : (κ1.1 67).toInt = 0 := by rw [e67]; rfl
  have hK1 : JK ζ κ1 := ⟨⟨by omega, fun j hj' => Or.inl (by rw [rw1]; exact (hj j hj').1), fun k hk => by omega⟩, fun k hk => by omega⟩
  have hW1 : RW μ ζ κ1 := by
    refine ⟨hF1, fun j hj' => Or.inl (by rw [rw1]; exact (hj j hj').2.1), fun l hl kl => ?_, fun _ l hl kl => ?_⟩
    · rw [rw1, h73 l hl hl.2]
      exact ⟨Or.inl ⟨(hY.1 l hl).1 (Or.inr (Or.inr kl)), fun h => by rw [kl] at h; exact absurd h (by decide)⟩, Or.inr (Or.inl kl)⟩
    · rw [rw1, rw1, h73 l hl hl.2]; exact lv_32 kl
  refine ty_64 (κ0 := κ1) hB (by omega) (fun κ2 h2 => ?_) (μ.1 41).toInt.toNat 0 κ1 (by decide) (by show _ - (0 : Int) ≤ _; omega) ⟨hW1, fun h => h, kf.rf⟩
  obtain ⟨⟨hF2, hR2, hO2⟩, m2, k2⟩ := h2
  have e82 : ∀ j : Nat, (j : Int) < (ζ.1 19).toInt → κ2.2.1 82 j = 0 := fun j hj' => by rw [k2.2.1 82 rfl, rw1]; exact (hj j hj').2.2.2
  refine MC.mono (c_rings hZ hY hF2 rfl hR2 e82 (by omega)) (fun _ κ3 h3 => ?_) (fun _ h => h)
  obtain ⟨⟨a1, a2, a3⟩, a4, a5⟩ := h3
  obtain ⟨ρ, eρ⟩ : ∃ ρ, ρ = κ2.2.1 72 := ⟨_, rfl⟩
  obtain ⟨ω, eω⟩ : ∃ ω, ω = κ2.2.1 73 := ⟨_, rfl⟩
  obtain ⟨η, eη⟩ : ∃ η, η = κ3.2.1 82 := ⟨_, rfl⟩
  have hC : HoC μ ζ η := fun e hk h3 h0 => by
    obtain ⟨-, -, -, -, k, hk1, hk2⟩ := hk
    have := a4 k hk1
    rw [hk2] at this
    exact this h3 (by rw [← eη]; exact h0)
  have hP3 : P2 ζ ρ ω η κ3 := by
    refine ⟨⟨a1, ?_⟩, ⟨by rw [a3.2.1 72 rfl, eρ], by rw [a3.2.1 73 rfl, eω], eη.symm⟩, fun t hn _ => Or.inl ?_⟩
    · exact hK1.eq (by rw [a3.2.1 66 rfl, k2.2.1 66 rfl]) (fun i _ => by rw [a3.2.1 68 rfl, k2.2.1 68 rfl]) (by rw [a3.1 67 rfl, k2.1 67 rfl])
    · rw [a3.2.1 81 rfl, k2.2.1 81 rfl, rw1]
      have := hn.in
      have := @ic t
      exact (hj _ (by omega)).2.2.1
  have hR : RvO μ ζ ρ := by rw [eρ]; exact hR2
  refine MC.mono (c_bounds_ hB hY hC hP3 (by omega)) (fun _ κ4 h4 => ?_) (fun _ h => h)
  obtain ⟨hP4, ⟨m4, k4, p4⟩, b4⟩ := h4
  have hA : κ4.1 17 = 0 → ag ζ η ∧ bg ζ := fun h17 => by
    have h3 : κ3.1 17 = 0 := Classical.byContradiction (fun g => m4 g h17)
    refine ⟨fun j hj' => by rw [eη]; exact (a5 h3).1 j hj', fun t hn kt => ((b4 h17 t hn.in hn.in.2).2.1 kt).1⟩
  obtain ⟨κ5, e5⟩ : ∃ κ5, κ5 = mS1 κ4 83 0 := ⟨_, rfl⟩
  rw [← e5]
  have k5 : kf [83] [] κ4 κ5 := by rw [e5]; exact kf.rf.S rfl
  have hP5 : P2 ζ ρ ω η κ5 := hP4.al (hP4.1.1.kf k5 rfl rfl) (hP4.1.2.eq (k5.2.1 66 rfl) (fun i _ => by rw [k5.2.1 68 rfl]) (k5.1 67 rfl)) k5 rfl rfl rfl rfl
  have e83 : κ5.1 83 = 0 := by rw [e5]; rfl
  have f5 : κ5.1 17 = κ4.1 17 := k5.1 17 rfl
  have hU5 : U83 κ5 := by
    unfold U83
    rw [e83]
    exact ⟨⟨by decide, by decide⟩, fun _ => by decide⟩
  refine ty_124 (κ0 := κ5) hZ hY hC (fun h => hA (by rw [← f5]; exact h)) hR (by omega) (fun κ6 E h6 hE => ?_) (μ.1 41).toInt.toNat 0 κ5 (fun _ => False) (by decide) (by show _ - (0 : Int) ≤ _; omega) ⟨⟨hP5, fun g => g, kf.rf, KP.rf⟩, hU5, fun _ => ⟨⟨fun v ⟨e, he, _⟩ => he.elim, fun v v' ⟨e, he, _⟩ => he.elim⟩, fun e he => he.elim⟩⟩ (fun w' e hw' _ => by have hw' : (w' : Int) < 0 := hw'; omega)
  obtain ⟨⟨hP6, m6, k6, p6⟩, hU6, c6⟩ := h6
  have hO : ∀ l : Int32, InN ζ l → ζ.2.1 20 l.toNatClampNeg = 32 → RT μ ζ (ω l.toNatClampNeg) ∧ Ob ζ (ω l.toNatClampNeg) := fun l hl kl => by rw [eω]; exact hO2.1 l hl kl
  refine ME.mono (ty_171 (κ0 := κ6) hZ hY hR (fun l hl kl => (hO l hl kl).1) (by omega) (ζ.1 19).toInt.toNat 0 κ6 (by decide) (by show _ - (0 : Int) ≤ _; omega) ⟨hP6, ⟨fun g => g, kf.rf⟩, fun _ t ht hlt => by have hlt : t.toInt < 0 := hlt; have := ht.1; omega⟩) (fun _ ν1 h7 => ?_) (fun _ h => h)
  obtain ⟨hP7, ⟨m7, k7⟩, c7⟩ := h7
  have u83 : ν1.1 83 = κ6.1 83 := k7.1 83 rfl
  have b6 : ν1.1 17 = 0 → κ6.1 17 = 0 := fun h => Classical.byContradiction (fun g => m7 g h)
  have b5 : κ6.1 17 = 0 → κ4.1 17 = 0 := fun h => by rw [← f5]; exact Classical.byContradiction (fun g => m6 g h)
  have b3 : κ4.1 17 = 0 → κ3.1 17 = 0 := fun h => Classical.byContradiction (fun g => m4 g h)
  have b2 : κ3.1 17 = 0 → κ2.1 17 = 0 := fun h => Classical.byContradiction (fun g => a2 g h)
  refine ⟨ρ, ω, η, ⟨hP7, hR, hC, ?_, hO⟩, fun h17 => ?_⟩
  · unfold U83
    rw [u83]
    exact ⟨hU6.1, fun h => hU6.2 (b6 h)⟩
  have h4 := b5 (b6 h17)
  have e81 : ν1.2.1 81 = κ6.2.1 81 := k7.2.1 81 rfl
  refine ⟨hA h4, fun l hl kl => ?_, fun x hx kx => ?_, fun t ht => ?_, ?_, fun w e he => (c6 (b6 h17)).2 e (hE w e he), fun t ht => c7 h17 t ht ht.2⟩
  · rw [eρ, eω]; exact hO2.2 (b2 (b3 h4)) l hl kl
  · rw [eρ]; exact (a5 (b3 h4)).2 x hx kx
  · rw [e81]
    exact ((b4 h4 t ht ht.2).keep (by rw [← k5.2.1 81 rfl]; exact KP.rf)).keep p6
  · refine ((c6 (b6 h17)).1.keep (k7.2.1 55 rfl) u83 (by rw [e81]; exact KP.rf)).sub (fun v hv => ?_)
    obtain ⟨w, e, he, hv⟩ := hv
    exact ⟨e, hE w e he, hv⟩
end NNAW
