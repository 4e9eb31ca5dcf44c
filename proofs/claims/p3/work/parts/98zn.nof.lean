/-! contracts of the reference: rings of declarations -/
/-- a declaration is told to hold itself, or there is no way back to it -/
def RgO (ζ ν : MS) (e : Int32) : Prop := ζ.2.1 20 e.toNatClampNeg = 3 → ν.2.1 82 e.toNatClampNeg = 0 → NoC ζ e
/-- the declarations looked at so far -/
def RgI (ζ ν0 ν : MS) (k : Int) : Prop := (TF ζ ν ∧ FM ν0 ν ∧ kf [17, 18] [82, 84] ν0 ν) ∧ (ν.1 17 = 0 → ∀ j : Nat, (j : Int) < (ζ.1 19).toInt → ν.2.1 82 j = 0) ∧ ∀ i : Nat, (i : Int) < k → RgO ζ ν (ζ.2.1 61 i)
def pA (ζ : MS) : Nat → Bool := fun j => ζ.2.1 20 j == 28 || ζ.2.1 20 j == 29
/-- an OVERRIDE of a LEVEL -/
def Ovr (ζ : MS) (l o : Int32) : Prop := ∃ j, Onl (ζ.2.1 27) j (ζ.2.1 25 l.toNatClampNeg) o ∧ 0 ≤ o.toInt
/-- what else the round of types relies on -/
def TY (μ ζ : MS) : Prop := HN μ ζ ∧ cz (pA ζ) (fun _ => 0) (ζ.1 19).toInt.toNat ≤ 1250 ∧ (∀ x : Int32, InN ζ x → 0 ≤ (ζ.2.1 29 x.toNatClampNeg).toInt ∧ (ζ.2.1 29 x.toNatClampNeg).toInt < (μ.1 41).toInt) ∧ (∀ l l' o : Int32, InN ζ l → InN ζ l' → ζ.2.1 20 l.toNatClampNeg = 32 → ζ.2.1 20 l'.toNatClampNeg = 32 → Ovr ζ l o → Ovr ζ l' o → l = l') ∧ ∀ e : Int32, (∃ w, DcO μ w e) → ζ.2.1 20 e.toNatClampNeg = 3 ∨ ζ.2.1 20 e.toNatClampNeg = 4 → ∃ k : Nat, (k : Int) < (ζ.1 60).toInt ∧ ζ.2.1 61 k = e
/-- where a declaration goes to -/
def gtT (ζ : MS) (x : Int32) : Int32 := if ζ.2.1 20 (ζ.2.1 23 x.toNatClampNeg).toNatClampNeg = 32 then supV ζ (ζ.2.1 23 x.toNatClampNeg) else ζ.2.1 23 x.toNatClampNeg
def gtV (ζ : MS) (ρ : Nat → Int32) (x : Int32) : Int32 := if ζ.2.1 20 x.toNatClampNeg = 4 then ρ x.toNatClampNeg else if ζ.2.1 20 (gtT ζ x).toNatClampNeg = 20 then dcl ζ (gtT ζ x) else -1
def gtF (ζ : MS) (ρ : Nat → Int32) (x : Int32) : Nat → Int32
  | 0 => x
  | j + 1 => if (gtF ζ ρ x j).toInt < 0 then -1 else gtV ζ ρ (gtF ζ ρ x j)
/-- a declaration that goes somewhere -/
def Gt (μ ζ : MS) (x : Int32) : Prop := (∃ w, DcO μ w x) ∧ (ζ.2.1 20 x.toNatClampNeg = 3 ∨ ζ.2.1 20 x.toNatClampNeg = 4 ∨ ζ.2.1 20 x.toNatClampNeg = 6)
/-- no ring from here -/
def NoR (ζ : MS) (ρ : Nat → Int32) (x : Int32) : Prop := ∀ j : Nat, (j : Int) ≤ (ζ.1 19).toInt → ¬ gtF ζ ρ x (j + 1) = x
/-- the ways looked at so far -/
def RcI (ζ : MS) (ρ : Nat → Int32) (ν0 ν : MS) (k : Int) : Prop := (TF ζ ν ∧ FM ν0 ν ∧ kf [17, 18] [] ν0 ν) ∧ (ν.1 17 = 0 → ∀ x : Int32, InN ζ x → x.toInt < k → ζ.2.1 20 x.toNatClampNeg = 3 ∨ ζ.2.1 20 x.toNatClampNeg = 6 → NoR ζ ρ x)
section NNAN
variable {X : ev_X} {W : Nat → Prop} {d : Nat} {P : MP} {μ ν ν0 ν1 κ ζ : MS} {T : MS → Prop} {x y a b s t r e u : Int32} {ρ : Nat → Int32} {w c : Nat} {p q : Nat → Bool} {f g M M' : Nat → Int32}
theorem cz_sub (h : ∀ j, p j = true → q j = true) : ∀ {n : Nat}, cz p f n ≤ cz q f n
  | 0 => Nat.le_refl _
  | n + 1 => by
    have ih := cz_sub h (n := n)
    show (if _ then 1 else 0) + _ ≤ (if _ then 1 else 0) + _
    by_cases c1 : p n = true ∧ f n = 0
    · rw [if_pos c1, if_pos ⟨h n c1.1, c1.2⟩]; omega
    · rw [if_neg c1]; omega
theorem cz_R (hY : TY μ ζ) : cz (pR ζ) f (ζ.1 19).toInt.toNat ≤ 1250 :=
  Nat.le_trans (cz_mono (f := fun _ => 0) (g := f) (fun j hj => absurd rfl hj)) (Nat.le_trans (cz_sub (q := pA ζ) (fun j hj => by
    unfold pR at hj
    unfold pA
    rw [hj]
    exact Bool.or_true _)) hY.2.1)
theorem noc_at (hB : TB μ ζ) (hall : ∀ j : Nat, (j : Int) < (ζ.1 19).toInt → ¬ M j = 0 → Cm ζ M e j) : ∀ (n : Nat) (x y : Int32), Nd ζ 0 x → (∃ k, Ed ζ M e k x) → Rs ζ n x y → ζ.2.1 20 y.toNatClampNeg = 20 → ¬ dcl ζ y = e := by
  intro n
  induction n with
  | zero =>
    intro x y hn h hr ky
    have hr : x = y := hr
    subst hr
    obtain ⟨n, hn⟩ := h
    cases n with
    | zero => exact (hn.2.1 ky).1
    | succ n => have := hn.1; rw [ky] at this; exact absurd this (by decide)
  | succ n ih =>
    intro x y hn h hr ky
    obtain ⟨z, hz, hr⟩ := hr
    obtain ⟨k, hk⟩ := h
    have ci := @ic x
    have hi := hn.in
    rcases hz with ⟨k20, k3, ez⟩ | ⟨k28, ez⟩ | ⟨k29, m, f, ho, h0, ez⟩
    · have hD := hB.dcl hn k20
      refine ih z y (by rw [ez]; exact hD.2.2.2.1) ?_ hr ky
      cases k with
      | zero =>
        have cd := @ic (dcl ζ x)
        have := (hall _ (by have := hD.2.2.1; omega) ((hk.2.1 k20).2 k3)).1 k3
        rw [ez]; exact this
      | succ k => have := hk.1; rw [k20] at this; exact absurd this (by decide)
    · refine ih z y (by rw [ez]; exact nd_28 hn k28) ?_ hr ky
      cases k with
      | zero => exact absurd k28 hk.1
      | succ k => exact ⟨k, by rw [ez]; exact hk.2⟩
    · obtain ⟨m2, hm⟩ := nd_29 hn k29
      refine ih z y (by rw [ez]; exact fl_ty (Lst.onl h0 hm ho)) ?_ hr ky
      cases k with
      | zero => rw [ez]; exact (hall _ (by omega) (hk.2.2 k29)).2 k29 m f ho h0
      | succ k => have := hk.1; rw [k29] at this; exact absurd this (by decide)
theorem ty_dk (hB : TB μ ζ) {k : Nat} (h : TyF μ ζ k) : (∃ w, DcO μ w (ζ.2.1 61 k)) ∧ (ζ.2.1 20 (ζ.2.1 61 k).toNatClampNeg = 3 ∨ ζ.2.1 20 (ζ.2.1 61 k).toNatClampNeg = 4) := by
  have r20 : ζ.2.1 20 = μ.2.1 20 := hB.2.1.1.2.1 20 rfl
  rw [r20]
  exact h
theorem rg_32 (hB : TB μ ζ) {x1 : Int32} {R : Int32 → MS → Prop} (ei : InN ζ e) (next : ∀ κ, TF ζ κ → kf [] [84] ν κ → (∀ j : Nat, (j : Int) < (ζ.1 19).toInt → κ.2.1 84 j = 0) → (MI e (κ.2.2 23) ∧ MC X W true d 397 [.ref P.1, .int (κ.2.1 23 e.toNatClampNeg), .int e] P κ (fun r1 μ1 => (MI e (μ1.2.2 82) ∧ (((r1) = 0 ∨ (r1) = 1) ∧ (MI e (μ1.2.2 82) ∧ (((upd (μ1.2.1 82) e.toNatClampNeg r1 e.toNatClampNeg) = 0 → ME X W true d 396 2 [(0, .ref P.1), (1, .int (x1 + 1))] [] P (mA1 μ1 82 e.toNatClampNeg r1) R T) ∧ (¬ (upd (μ1.2.1 82) e.toNatClampNeg r1 e.toNatClampNeg) = 0 → (MI e (μ1.2.2 30) ∧ MC X W true d 290 [.ref P.1, .int 8, .int (μ1.2.1 30 e.toNatClampNeg)] P (mA1 μ1 82 e.toNatClampNeg r1) (fun r2 μ2 => ME X W true d 396 2 [(0, .ref P.1), (1, .int (x1 + 1))] [] P μ2 R T) (fun _ => False)))))))) (fun _ => False))) : ∀ (n : Nat) (x3 : Int32) (κ : MS), 0 ≤ x3.toInt → (ζ.1 19).toInt - x3.toInt ≤ n → TF ζ κ → kf [] [84] ν κ → (∀ j : Nat, (j : Int) < x3.toInt → κ.2.1 84 j = 0) → ME X W true d 396 32 [(0, .ref P.1), (1, .int x1), (2, .int e), (3, .int x3)] [] P κ R T := by
  have h16 := hB.n16
  intro n
  induction n with
  | zero =>
    intro x3 κ h0 hn hF hk hz
    have e19 := eq_i (hF.1.1 19 rfl)
    exact v_rings_32 _ _ _ ⟨fun _ => next κ hF hk (fun j hj => hz j (by omega)), fun h => by omega⟩
  | succ n ih =>
    intro x3 κ h0 hn hF hk hz
    have e19 := eq_i (hF.1.1 19 rfl)
    refine v_rings_32 _ _ _ ⟨fun h => next κ hF hk (fun j hj => hz j (by omega)), fun h => ?_⟩
    have e3 : (x3 + 1).toInt = x3.toInt + 1 := ia1 (by omega)
    have c3 := @ic x3
    refine ⟨MI.of ((hF.1.2.2).g rfl rfl : _ = 16000) h0 (by omega), ih (x3 + 1) _ (by omega) (by omega) (hF.kf (kf.rf.A (s := []) (r := [84]) rfl) rfl rfl) (hk.tr (kf.rf.A rfl)) (fun j hj => ?_)⟩
    show upd (κ.2.1 84) x3.toNatClampNeg 0 j = 0
    by_cases c : j = x3.toNatClampNeg
    · rw [c, upd_at]
    · rw [upd_off c]; exact hz j (by omega)
theorem rg_2 (hB : TB μ ζ) (hY : TY μ ζ) {R : Int32 → MS → Prop} (hd : 1254 ≤ d) (next : ∀ κ, RgI ζ ν κ (ζ.1 60).toInt → ME X W true d 396 99 [(0, .ref P.1), (1, .int 0)] [] P κ R T) : ∀ (n : Nat) (x1 : Int32) (κ : MS), 0 ≤ x1.toInt → (ζ.1 60).toInt - x1.toInt ≤ n → x1.toInt ≤ (ζ.1 60).toInt → RgI ζ ν κ x1.toInt → ME X W true d 396 2 [(0, .ref P.1), (1, .int x1)] [] P κ R T := by
  have h16 := hB.n16
  have hb := hB.2.1.2.2.2.1
  have hU := hB.2.1.2.1.1.2.1.1
  have go : ∀ (x1 : Int32) (κ : MS), x1.toInt = (ζ.1 60).toInt → RgI ζ ν κ x1.toInt → ME X W true d 396 99 [(0, .ref P.1), (1, .int 0)] [] P κ R T := fun x1 κ e h => next κ (by rw [e] at h; exact h)
  intro n
  induction n with
  | zero =>
    intro x1 κ h0 hn hle hI
    have e60 := eq_i (hI.1.1.1.1 60 rfl)
    exact v_rings_2 _ ⟨fun _ => go x1 κ (by omega) hI, fun h => by omega⟩
  | succ n ih =>
    intro x1 κ h0 hn hle hI
    have hI0 := hI
    obtain ⟨⟨hF, hM, hk⟩, hz, hO⟩ := hI
    have e60 := eq_i (hF.1.1 60 rfl)
    refine v_rings_2 _ ⟨fun h => go x1 κ (by omega) hI0, fun h => ?_⟩
    have c1 := @ic x1
    have e1 : (x1 + 1).toInt = x1.toInt + 1 := ia1 (by omega)
    have hT := hB.2.1.2.2.2.2.2 hB.2.2
    obtain ⟨-, -, -, hTy⟩ := hT
    have hty := hTy x1.toNatClampNeg (by omega)
    have r61 : κ.2.1 61 = ζ.2.1 61 := hF.row rfl
    have r20 : κ.2.1 20 = ζ.2.1 20 := hF.row rfl
    rw [r61, r20]
    obtain ⟨e, ee⟩ : ∃ e, e = ζ.2.1 61 x1.toNatClampNeg := ⟨_, rfl⟩
    have hdk : (∃ w, DcO μ w e) ∧ (ζ.2.1 20 e.toNatClampNeg = 3 ∨ ζ.2.1 20 e.toNatClampNeg = 4) := by
      rw [ee]
      exact ty_dk hB hty
    obtain ⟨⟨w, hw⟩, hk3⟩ := hdk
    have dcn := hB.dc hw
    have ei : InN ζ e := dcn.1
    have hn : Nd ζ 0 (ζ.2.1 23 e.toNatClampNeg) := dcn.2.2.1 (fun h => by rcases hk3 with g | g <;> (rw [g] at h; exact absurd h (by decide))) (fun h => by rcases hk3 with g | g <;> (rw [g] at h; exact absurd h (by decide)))
    rw [← ee]
    have em : ∀ {κ : MS} {g : Nat}, TF ζ κ → rk g = true → rlen g = 16000 → MI e (κ.2.2 g) := fun hF hg hr => MI.of ((hF.1.2.2).g hg hr) ei.1 (by have := ei.2; omega)
    have more : ∀ κ', TF ζ κ' → RgI ζ ν κ' x1.toInt → RgO ζ κ' e → RgI ζ ν κ' (x1 + 1).toInt := fun κ' _ h1 h2 => ⟨h1.1, h1.2.1, fun i hi => by
      by_cases c : (i : Int) < x1.toInt
      · exact h1.2.2 i c
      · rw [show i = x1.toNatClampNeg by omega, ← ee]; exact h2⟩
    refine ⟨MI.of ((hF.1.2.2).g rfl rfl : _ = 3200) h0 (by omega), em hF rfl rfl, fun k3 => ?_, fun k3 => ih (x1 + 1) κ (by omega) (by omega) (by omega) (more κ hF hI0 (fun h => absurd h k3))⟩
    refine rg_32 (ν := κ) hB ei (fun κ2 hF2 hk2 hz2 => ⟨em hF2 rfl rfl, ?_⟩) (ζ.1 19).toInt.toNat 0 κ (by decide) (by show _ - (0 : Int) ≤ _; omega) hF kf.rf (fun j hj => by have hj : (j : Int) < 0 := hj; omega)
    rw [hF2.row (g := 23) rfl]
    refine MC.mono (c_holds (K := 1250) hB hF2 (cz_R hY) (by omega) hn) (fun r κ3 h3 => ?_) (fun _ h => h)
    obtain ⟨j1, j2, j3, j4⟩ := h3
    have hF3 : TF ζ κ3 := hF2.kf j1 rfl rfl
    have k13 : kf [] [84] κ κ3 := hk2.tr j1
    have r82 : κ3.2.1 82 = κ.2.1 82 := k13.2.1 82 rfl
    have noc : r = 0 → NoC ζ e := fun hr => by
      obtain ⟨a1, a2⟩ := j4 hr
      intro n y hrs
      exact noc_at hB (fun j hj hm => (a2 j hm).resolve_left (fun h => h (hz2 j hj))) n _ y hn a1 hrs
    have kk : ∀ v : Int32, kf [] [82, 84] κ (mA1 κ3 82 e.toNatClampNeg v) := fun v => (k13.up rfl rfl).A rfl
    have rgo : ∀ κ4 : MS, κ4.2.1 82 = upd (κ.2.1 82) e.toNatClampNeg r → (∀ i : Nat, (i : Int) < x1.toInt → RgO ζ κ4 (ζ.2.1 61 i)) ∧ RgO ζ κ4 e := fun κ4 h4 => by
      have me : RgO ζ κ4 e := fun _ h0 => noc (by rw [h4, upd_at] at h0; exact h0)
      refine ⟨fun i hi => ?_, me⟩
      by_cases c : (ζ.2.1 61 i).toNatClampNeg = e.toNatClampNeg
      · obtain ⟨⟨w', hw'⟩, -⟩ := ty_dk hB (hTy i (by omega))
        have : ζ.2.1 61 i = e := in_eq (hB.dc hw').1 ei c
        rw [this]; exact me
      · intro h3 h0
        rw [h4, upd_off c] at h0
        exact hO i hi h3 h0
    refine ⟨em hF3 rfl rfl, j3, em hF3 rfl rfl, fun hr => ?_, fun hr => ⟨em hF3 rfl rfl, MC.mono (c_ruF (by omega) (by decide)) (fun _ κ4 h4 => ?_) (fun _ h => h)⟩⟩
    · rw [upd_at] at hr
      have hF4 : TF ζ (mA1 κ3 82 e.toNatClampNeg r) := hF.kf (kk r) rfl rfl
      have e4 : (mA1 κ3 82 e.toNatClampNeg r).2.1 82 = upd (κ.2.1 82) e.toNatClampNeg r := by
        show upd (κ3.2.1 82) e.toNatClampNeg r = _
        rw [r82]
      have hf17 : (mA1 κ3 82 e.toNatClampNeg r).1 17 = κ.1 17 := (kk r).1 17 rfl
      refine ih (x1 + 1) _ (by omega) (by omega) (by omega) (more _ hF4 ⟨⟨hF4, fun h => ?_, hk.tr ((kk r).up rfl rfl)⟩, fun h j hj => ?_, (rgo _ e4).1⟩ (rgo _ e4).2)
      · rw [hf17]; exact hM h
      · rw [hf17] at h
        rw [e4]
        by_cases c : j = e.toNatClampNeg
        · rw [c, upd_at]; exact hr
        · rw [upd_off c]; exact hz h j hj
    · obtain ⟨g1, g2⟩ := h4
      have hF4 : TF ζ κ4 := tf_fl (hF.kf (kk r) rfl rfl) g1 (fun _ => g2) rfl rfl
      have e4 : κ4.2.1 82 = upd (κ.2.1 82) e.toNatClampNeg r := by
        rw [g1.2.1 82 rfl]
        show upd (κ3.2.1 82) e.toNatClampNeg r = _
        rw [r82]
      exact ih (x1 + 1) _ (by omega) (by omega) (by omega) (more _ hF4 ⟨⟨hF4, fun _ => g2, hk.tr (((kk r).up (s' := [17, 18]) (r' := [82, 84]) rfl rfl).tr (g1.up rfl rfl))⟩, fun h => absurd h g2, (rgo _ e4).1⟩ (rgo _ e4).2)
theorem gt_ty (hB : TB μ ζ) (hx : Gt μ ζ x) : Nd ζ 0 (ζ.2.1 23 x.toNatClampNeg) := by
  obtain ⟨⟨w, hw⟩, hk⟩ := hx
  exact (hB.dc hw).2.2.1 (fun h => by rcases hk with g | g | g <;> (rw [g] at h; exact absurd h (by decide))) (fun h => by rcases hk with g | g | g <;> (rw [g] at h; exact absurd h (by decide)))
theorem gt_in (hB : TB μ ζ) (hx : Gt μ ζ x) : InN ζ x := by
  obtain ⟨⟨w, hw⟩, -⟩ := hx
  exact (hB.dc hw).1
theorem dk_gt (hx : Dk μ ζ x) : Gt μ ζ x := ⟨hx.1, hx.2.1.imp id Or.inl⟩
theorem c_goesTo (hZ : TZ μ ζ) (hF : TF ζ ν) (h72 : ν.2.1 72 = ρ) (hR : RvO μ ζ ρ) (hd : 2 ≤ d) (hx : Gt μ ζ x) : MC X W true d 398 [.ref P.1, .int x] P ν (fun r ν1 => ν1 = ν ∧ r = gtV ζ ρ x ∧ (r = -1 ∨ Gt μ ζ r)) T := by
  have hB := hZ.1
  have h16 := hB.n16
  have xi := gt_in hB hx
  have cx := @ic x
  have hn := gt_ty hB hx
  have r20 : ν.2.1 20 = ζ.2.1 20 := hF.row rfl
  have r23 : ν.2.1 23 = ζ.2.1 23 := hF.row rfl
  have xm : ∀ {g : Nat}, rk g = true → rlen g = 16000 → MI x (ν.2.2 g) := fun hg hr => MI.of ((hF.1.2.2).g hg hr) xi.1 (by have := xi.2; omega)
  have hm : ∀ {g : Nat}, rk g = true → rlen g = 16000 → MI (ζ.2.1 23 x.toNatClampNeg) (ν.2.2 g) := fun hg hr => hn.mi hB hF hg hr
  unfold gtV
  refine me_meth (by omega) rfl (v_goesTo_0 _ ⟨xm rfl rfl, fun k4 => ⟨xm rfl rfl, by rw [r23]; exact hm rfl rfl, fun k32 => ⟨by rw [r23]; exact hm rfl rfl, fun k20 => ?_, fun k20 => ?_⟩, fun k32 => ?_⟩, fun k4 => ⟨xm rfl rfl, ?_⟩⟩)
  · rw [r20] at k4
    rw [r20, r23] at k32 k20
    have e : gtT ζ x = ζ.2.1 23 x.toNatClampNeg := by unfold gtT; rw [if_neg k32]
    exact ⟨rfl, by rw [if_neg k4, e, if_neg k20], Or.inl rfl⟩
  · rw [r20] at k4
    rw [r20, r23] at k32 k20
    have e : gtT ζ x = ζ.2.1 23 x.toNatClampNeg := by unfold gtT; rw [if_neg k32]
    rw [r23]
    refine MC.mono (c_dcl hB hF (by omega) hn k20) (fun r κ hκ => ⟨hκ.1, by rw [if_neg k4, e, if_pos k20]; exact hκ.2, Or.inr ?_⟩) (fun _ h => h)
    rw [hκ.2]; exact dk_gt (hB.dcl hn k20)
  · rw [r20] at k4
    rw [r20, r23] at k32
    have e : gtT ζ x = supV ζ (ζ.2.1 23 x.toNatClampNeg) := by unfold gtT; rw [if_pos k32]
    have hs := sup_nd hZ hn k32
    rw [r23]
    refine MC.mono (c_super hF (by omega) (hm rfl rfl)) (fun r2 κ hκ => ?_) (fun _ h => h)
    obtain ⟨e1, e2⟩ := hκ
    have e1 := e1.symm
    subst e1
    rw [e2]
    refine ⟨hs.mi hB hF rfl rfl, fun k20 => ?_, fun k20 => ?_⟩
    · rw [r20] at k20
      exact ⟨rfl, by rw [if_neg k4, e, if_neg k20], Or.inl rfl⟩
    · rw [r20] at k20
      refine MC.mono (c_dcl hB hF (by omega) hs k20) (fun r κ hκ => ⟨hκ.1, by rw [if_neg k4, e, if_pos k20]; exact hκ.2, Or.inr ?_⟩) (fun _ h => h)
      rw [hκ.2]; exact dk_gt (hB.dcl hs k20)
  · rw [r20] at k4
    rw [h72, if_pos k4]
    refine ⟨rfl, rfl, ?_⟩
    rcases hR x.toNatClampNeg (by have := xi.1; have := xi.2; omega) with h | ⟨h1, h2⟩
    · exact Or.inl h
    · exact Or.inr ⟨h2, Or.inr (Or.inr h1)⟩
theorem gtF_n {j : Nat} (h : (gtF ζ ρ x j).toInt < 0) : gtF ζ ρ x (j + 1) = -1 := by
  show (if (gtF ζ ρ x j).toInt < 0 then -1 else gtV ζ ρ (gtF ζ ρ x j)) = -1
  exact if_pos h
theorem gtF_p {j : Nat} (h : ¬ (gtF ζ ρ x j).toInt < 0) : gtF ζ ρ x (j + 1) = gtV ζ ρ (gtF ζ ρ x j) := by
  show (if (gtF ζ ρ x j).toInt < 0 then -1 else gtV ζ ρ (gtF ζ ρ x j)) = _
  exact if_neg h
theorem rc_139 (hZ : TZ μ ζ) (h72 : ν0.2.1 72 = ρ) (hR : RvO μ ζ ρ) {R : Int32 → MS → Prop} (hd : 3 ≤ d) (xi : InN ζ x) {k : Int}
    (next : ∀ κ, (TF ζ κ ∧ FM ν0 κ ∧ kf [17, 18] [] ν0 κ) → (κ.1 17 = 0 → ν.1 17 = 0 ∧ NoR ζ ρ x) → ME X W true d 396 99 [(0, .ref P.1), (1, .int (x + 1))] [] P κ R T) (h0 : TF ζ ν ∧ FM ν0 ν ∧ kf [17, 18] [] ν0 ν) : ∀ (n j : Nat) (x2 x3 : Int32), (ζ.1 19).toInt - j ≤ n → x3.toInt = j → (j : Int) ≤ (ζ.1 19).toInt → x2 = gtF ζ ρ x (j + 1) → (x2 = -1 ∨ Gt μ ζ x2) → (∀ i, i < j → ¬ gtF ζ ρ x (i + 1) = x) → ME X W true d 396 139 [(0, .ref P.1), (1, .int x), (2, .int x2), (3, .int x3)] [] P ν R T := by
  have hB := hZ.1
  have h16 := hB.n16
  obtain ⟨hF, hM, hk⟩ := h0
  have e19 := eq_i (hF.1.1 19 rfl)
  have xm : MI x (ν.2.2 30) := MI.of ((hF.1.2.2).g rfl rfl : _ = 16000) xi.1 (by have := xi.2; omega)
  have hit : MC X W true d 290 [.ref P.1, .int 8, .int (ν.2.1 30 x.toNatClampNeg)] P ν (fun r1 μ1 => ME X W true d 396 99 [(0, .ref P.1), (1, .int (x + 1))] [] P μ1 R T) (fun _ => False) := MC.mono (c_ruF (by omega) (by decide)) (fun _ κ h4 => next κ ⟨tf_fl hF h4.1 (fun _ => h4.2) rfl rfl, fun _ => h4.2, hk.tr (h4.1.up rfl rfl)⟩ (fun h => absurd h h4.2)) (fun _ h => h)
  have dead : ∀ j, (gtF ζ ρ x (j + 1)).toInt < 0 → ∀ m, (gtF ζ ρ x (j + m + 1)).toInt < 0 := fun j hj m => by
    induction m with
    | zero => exact hj
    | succ m ih =>
      rw [show j + (m + 1) + 1 = (j + m + 1) + 1 by omega, gtF_n ih]; decide
  intro n
  induction n with
  | zero =>
    intro j x2 x3 hn h3 hj e2 h2 hno
    refine v_rings_139 _ _ _ ⟨fun hlt => ⟨fun hne => next ν ⟨hF, hM, hk⟩ (fun h17 => ⟨h17, fun i hi => ?_⟩), fun he => ⟨xm, hit⟩⟩, fun hge => ⟨fun he => ⟨fun h => absurd he h, fun _ => ⟨xm, hit⟩⟩, fun hne => ⟨fun _ => ⟨fun _ => next ν ⟨hF, hM, hk⟩ (fun h17 => ⟨h17, fun i hi => ?_⟩), fun h => absurd h hne⟩, fun h => by omega⟩⟩⟩
    · by_cases c : i < j
      · exact hno i c
      · intro h
        have := dead j (by rw [← e2]; exact hlt) (i - j)
        rw [show j + (i - j) + 1 = i + 1 by omega, h] at this; have := xi.1; omega
    · by_cases c : i < j
      · exact hno i c
      · rw [show i = j by omega, ← e2]; exact hne
  | succ n ih =>
    intro j x2 x3 hn h3 hj e2 h2 hno
    refine v_rings_139 _ _ _ ⟨fun hlt => ⟨fun hne => next ν ⟨hF, hM, hk⟩ (fun h17 => ⟨h17, fun i hi => ?_⟩), fun he => ⟨xm, hit⟩⟩, fun hge => ⟨fun he => ⟨fun h => absurd he h, fun _ => ⟨xm, hit⟩⟩, fun hne => ⟨fun hle => ⟨fun _ => next ν ⟨hF, hM, hk⟩ (fun h17 => ⟨h17, fun i hi => ?_⟩), fun h => absurd h hne⟩, fun h => ?_⟩⟩⟩
    · by_cases c : i < j
      · exact hno i c
      · intro h
        have := dead j (by rw [← e2]; exact hlt) (i - j)
        rw [show j + (i - j) + 1 = i + 1 by omega, h] at this; have := xi.1; omega
    · by_cases c : i < j
      · exact hno i c
      · rw [show i = j by omega, ← e2]; exact hne
    · have hg := h2.resolve_left (fun e => by rw [e] at hge; exact absurd hge (by decide))
      refine MC.mono (c_goesTo hZ hF (by rw [hk.2.1 72 rfl]; exact h72) hR (by omega) hg) (fun r κ hκ => ?_) (fun _ h => h)
      obtain ⟨e1, er, hr⟩ := hκ
      have e1 := e1.symm
      subst e1
      have e3 : (x3 + 1).toInt = x3.toInt + 1 := ia1 (by omega)
      refine ih (j + 1) r (x3 + 1) (by omega) (by omega) (by omega) ?_ hr (fun i hi => ?_)
      · rw [gtF_p (by rw [← e2]; omega), ← e2]
        exact er
      · by_cases c : i < j
        · exact hno i c
        · rw [show i = j by omega, ← e2]; exact hne
theorem rc_99 (hZ : TZ μ ζ) (hY : TY μ ζ) (h72 : ν0.2.1 72 = ρ) (hR : RvO μ ζ ρ) (hd : 3 ≤ d) : ∀ (n : Nat) (x1 : Int32) (ν : MS), 0 ≤ x1.toInt → (ζ.1 19).toInt - x1.toInt ≤ n → RcI ζ ρ ν0 ν x1.toInt → ME X W true d 396 99 [(0, .ref P.1), (1, .int x1)] [] P ν (fun _ ν1 => RcI ζ ρ ν0 ν1 (ζ.1 19).toInt) T := by
  have hB := hZ.1
  have h16 := hB.n16
  have go : ∀ (x1 : Int32) (κ : MS), (ζ.1 19).toInt ≤ x1.toInt → RcI ζ ρ ν0 κ x1.toInt → RcI ζ ρ ν0 κ (ζ.1 19).toInt := fun x1 κ e h => ⟨h.1, fun h17 x hx hlt => h.2 h17 x hx (by omega)⟩
  intro n
  induction n with
  | zero =>
    intro x1 ν h0 hn hI
    have e19 := eq_i (hI.1.1.1.1 19 rfl)
    exact v_rings_99 _ ⟨fun h => go x1 ν (by omega) hI, fun h => by omega⟩
  | succ n ih =>
    intro x1 ν h0 hn hI
    have hF := hI.1.1
    have e19 := eq_i (hF.1.1 19 rfl)
    have r20 : ν.2.1 20 = ζ.2.1 20 := hF.row rfl
    refine v_rings_99 _ ⟨fun h => go x1 ν (by omega) hI, fun h => ?_⟩
    have xi : InN ζ x1 := ⟨h0, by omega⟩
    have e1 : (x1 + 1).toInt = x1.toInt + 1 := ia1 (by omega)
    have xm : MI x1 (ν.2.2 20) := MI.of ((hF.1.2.2).g rfl rfl : _ = 16000) h0 (by omega)
    have look : ζ.2.1 20 x1.toNatClampNeg = 3 ∨ ζ.2.1 20 x1.toNatClampNeg = 6 → MC X W true d 398 [.ref P.1, .int x1] P ν (fun r1 μ1 => ME X W true d 396 139 [(0, .ref P.1), (1, .int x1), (2, .int r1), (3, .int 0)] [] P μ1 (fun _ ν1 => RcI ζ ρ ν0 ν1 (ζ.1 19).toInt) T) (fun _ => False) := fun hk => by
      have hg : Gt μ ζ x1 := ⟨(hY.1 x1 xi).2.2 hk, hk.imp id Or.inr⟩
      refine MC.mono (c_goesTo hZ hF (by rw [hI.1.2.2.2.1 72 rfl]; exact h72) hR (by omega) hg) (fun r κ hκ => ?_) (fun _ h => h)
      obtain ⟨e2, er, hr⟩ := hκ
      have e2 := e2.symm
      subst e2
      refine rc_139 (k := 0) hZ h72 hR hd xi (fun κ a1 a2 => ih (x1 + 1) κ (by omega) (by omega) ⟨a1, fun h17 x hx hlt hk => ?_⟩) hI.1 (ζ.1 19).toInt.toNat 0 r 0 (by omega) rfl (by omega) ?_ hr (fun i hi => by omega)
      · obtain ⟨b1, b2⟩ := a2 h17
        by_cases c : x.toInt < x1.toInt
        · exact hI.2 b1 x hx c hk
        · have : x = x1 := i_eq (by omega)
          rw [this]; exact b2
      · rw [gtF_p (by show ¬ x1.toInt < 0; omega)]
        exact er
    refine ⟨xm, fun k3 => look (Or.inl (by rw [← r20]; exact k3)), fun k3 => ⟨xm, fun k6 => look (Or.inr (by rw [← r20]; exact k6)), fun k6 => ih (x1 + 1) ν (by omega) (by omega) ⟨hI.1, fun h17 x hx hlt hk => ?_⟩⟩⟩
    by_cases c : x.toInt < x1.toInt
    · exact hI.2 h17 x hx c hk
    · have : x = x1 := i_eq (by omega)
      rw [this] at hk
      rw [r20] at k3 k6
      rcases hk with h | h
      · exact absurd h k3
      · exact absurd h k6
/-- rings of declarations, looked for -/
theorem c_rings (hZ : TZ μ ζ) (hY : TY μ ζ) (hF : TF ζ ν) (h72 : ν.2.1 72 = ρ) (hR : RvO μ ζ ρ) (h82 : ∀ j : Nat, (j : Int) < (ζ.1 19).toInt → ν.2.1 82 j = 0) (hd : 1255 ≤ d) : MC X W true d 396 [.ref P.1] P ν (fun _ ν1 => (TF ζ ν1 ∧ FM ν ν1 ∧ kf [17, 18] [82, 84] ν ν1) ∧ (∀ i : Nat, (i : Int) < (ζ.1 60).toInt → RgO ζ ν1 (ζ.2.1 61 i)) ∧ (ν1.1 17 = 0 → (∀ j : Nat, (j : Int) < (ζ.1 19).toInt → ν1.2.1 82 j = 0) ∧ ∀ x : Int32, InN ζ x → ζ.2.1 20 x.toNatClampNeg = 3 ∨ ζ.2.1 20 x.toNatClampNeg = 6 → NoR ζ ρ x)) T := by
  have hB := hZ.1
  have h60 := hB.2.1.2.2.2.1.2.2.1
  refine me_meth (by omega) rfl (v_rings_0 (rg_2 (ν := ν) hB hY (by omega) (fun κ hI => ?_) (ζ.1 60).toInt.toNat 0 ν (by decide) (by show _ - (0 : Int) ≤ _; omega) h60 ⟨⟨hF, fun h => h, kf.rf⟩, fun _ => h82, fun i hi => by have hi : (i : Int) < 0 := hi; omega⟩))
  obtain ⟨⟨a1, a2, a3⟩, a4, a5⟩ := hI
  refine ME.mono (rc_99 (ν0 := κ) hZ hY (by rw [a3.2.1 72 rfl]; exact h72) hR (by omega) (ζ.1 19).toInt.toNat 0 κ (by decide) (by show _ - (0 : Int) ≤ _; omega) ⟨⟨a1, fun h => h, kf.rf⟩, fun _ x hx hlt => by have hlt : x.toInt < 0 := hlt; have := hx.1; omega⟩) (fun r ν1 hh => ?_) (fun _ h => h)
  obtain ⟨⟨b1, b2, b3⟩, b4⟩ := hh
  have b17 : ν1.1 17 = 0 → κ.1 17 = 0 := fun h => Classical.byContradiction (fun h2 => b2 h2 h)
  have e82 : ν1.2.1 82 = κ.2.1 82 := b3.2.1 82 rfl
  refine ⟨⟨b1, fun h => b2 (a2 h), a3.tr (b3.up rfl rfl)⟩, fun i hi => ?_, fun h17 => ⟨fun j hj => ?_, fun x hx hk => b4 h17 x hx hx.2 hk⟩⟩
  · intro h3 h0
    rw [e82] at h0
    exact a5 i hi h3 h0
  · rw [e82]; exact a4 (b17 h17) j hj
end NNAN
