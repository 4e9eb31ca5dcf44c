/-! contracts of the reference: whether a TYPE holds a declaration -/
/-- how many nodes of a sort are not marked -/
def cz (p : Nat → Bool) (f : Nat → Int32) : Nat → Nat
  | 0 => 0
  | n + 1 => (if p n = true ∧ f n = 0 then 1 else 0) + cz p f n
/-- one step into a TYPE -/
def St (ζ : MS) (x y : Int32) : Prop := (ζ.2.1 20 x.toNatClampNeg = 20 ∧ ζ.2.1 20 (dcl ζ x).toNatClampNeg = 3 ∧ y = ζ.2.1 23 (dcl ζ x).toNatClampNeg) ∨ (ζ.2.1 20 x.toNatClampNeg = 28 ∧ y = ζ.2.1 24 x.toNatClampNeg) ∨ (ζ.2.1 20 x.toNatClampNeg = 29 ∧ ∃ m f, Onl (ζ.2.1 27) m (ζ.2.1 22 x.toNatClampNeg) f ∧ 0 ≤ f.toInt ∧ y = ζ.2.1 23 f.toNatClampNeg)
def Rs (ζ : MS) : Nat → Int32 → Int32 → Prop
  | 0, x, y => x = y
  | n + 1, x, y => ∃ z, St ζ x z ∧ Rs ζ n z y
/-- a TYPE looked into, but for what is marked -/
def Ed (ζ : MS) (M : Nat → Int32) (e : Int32) : Nat → Int32 → Prop
  | 0, x => ¬ ζ.2.1 20 x.toNatClampNeg = 28 ∧ (ζ.2.1 20 x.toNatClampNeg = 20 → ¬ dcl ζ x = e ∧ (ζ.2.1 20 (dcl ζ x).toNatClampNeg = 3 → ¬ M (dcl ζ x).toNatClampNeg = 0)) ∧ (ζ.2.1 20 x.toNatClampNeg = 29 → ¬ M x.toNatClampNeg = 0)
  | n + 1, x => ζ.2.1 20 x.toNatClampNeg = 28 ∧ Ed ζ M e n (ζ.2.1 24 x.toNatClampNeg)
/-- a marked node looked into -/
def Cm (ζ : MS) (M : Nat → Int32) (e : Int32) (j : Nat) : Prop := (ζ.2.1 20 j = 3 → ∃ n, Ed ζ M e n (ζ.2.1 23 j)) ∧ (ζ.2.1 20 j = 29 → ∀ m f, Onl (ζ.2.1 27) m (ζ.2.1 22 j) f → 0 ≤ f.toInt → ∃ n, Ed ζ M e n (ζ.2.1 23 f.toNatClampNeg))
/-- no way from a declaration's TYPE back to it -/
def NoC (ζ : MS) (e : Int32) : Prop := ∀ n y, Rs ζ n (ζ.2.1 23 e.toNatClampNeg) y → ζ.2.1 20 y.toNatClampNeg = 20 → ¬ dcl ζ y = e
/-- what holds answers -/
def HdR (ζ : MS) (e t : Int32) (ν0 : MS) (r : Int32) (ν1 : MS) : Prop := kf [] [84] ν0 ν1 ∧ (∀ j, ¬ ν0.2.1 84 j = 0 → ¬ ν1.2.1 84 j = 0) ∧ (r = 0 ∨ r = 1) ∧ (r = 0 → (∃ n, Ed ζ (ν1.2.1 84) e n t) ∧ ∀ j, ¬ ν1.2.1 84 j = 0 → ¬ ν0.2.1 84 j = 0 ∨ Cm ζ (ν1.2.1 84) e j)
def HdF (ζ : MS) (e x : Int32) (ν0 : MS) (r : Int32) (ν1 : MS) : Prop := kf [] [84] ν0 ν1 ∧ (∀ j, ¬ ν0.2.1 84 j = 0 → ¬ ν1.2.1 84 j = 0) ∧ (r = 0 ∨ r = 1) ∧ (r = 0 → (∀ m f, Onl (ζ.2.1 27) m x f → 0 ≤ f.toInt → ∃ n, Ed ζ (ν1.2.1 84) e n (ζ.2.1 23 f.toNatClampNeg)) ∧ ∀ j, ¬ ν1.2.1 84 j = 0 → ¬ ν0.2.1 84 j = 0 ∨ Cm ζ (ν1.2.1 84) e j)
def pR (ζ : MS) : Nat → Bool := fun j => ζ.2.1 20 j == 29
def pU (ζ : MS) : Nat → Bool := fun j => ζ.2.1 20 j == 3 || ζ.2.1 20 j == 29
section NNAM
variable {X : ev_X} {W : Nat → Prop} {d : Nat} {P : MP} {μ ν ν0 ν1 κ ζ : MS} {T : MS → Prop} {x y q a b s t r e u : Int32} {ρ : Nat → Int32} {w c : Nat} {p : Nat → Bool} {f g M M' : Nat → Int32}
theorem cz_mono (h : ∀ j, ¬ f j = 0 → ¬ g j = 0) : ∀ {n : Nat}, cz p g n ≤ cz p f n
  | 0 => Nat.le_refl _
  | n + 1 => by
    have ih := cz_mono h (n := n)
    show (if _ then 1 else 0) + _ ≤ (if _ then 1 else 0) + _
    by_cases c1 : p n = true ∧ g n = 0
    · rw [if_pos c1, if_pos ⟨c1.1, Classical.byContradiction (fun h2 => h n h2 c1.2)⟩]
      omega
    · rw [if_neg c1]; omega
theorem cz_mark {j : Nat} {v : Int32} (hv : ¬ v = 0) (hp : p j = true) (hf : f j = 0) : ∀ {n : Nat}, j < n → cz p (upd f j v) n + 1 ≤ cz p f n
  | 0, h => absurd h (Nat.not_lt_zero _)
  | n + 1, h => by
    show (if _ then 1 else 0) + _ + 1 ≤ (if _ then 1 else 0) + _
    by_cases e : j = n
    · subst e
      rw [if_neg (fun h => by rw [upd_at] at h; exact hv h.2), if_pos ⟨hp, hf⟩]
      have := cz_mono (p := p) (f := f) (g := upd f j v) (fun i hi => by
        by_cases c : i = j
        · subst c; exact absurd hf hi
        · rw [upd_off c]; exact hi) (n := j)
      omega
    · have ih := cz_mark hv hp hf (n := n) (by omega)
      rw [upd_off (show n ≠ j from fun h => e h.symm)]
      by_cases c1 : p n = true ∧ f n = 0
      · rw [if_pos c1]; omega
      · rw [if_neg c1]; omega
theorem Ed.mono (h : ∀ j, ¬ M j = 0 → ¬ M' j = 0) : ∀ {n : Nat} {x : Int32}, Ed ζ M e n x → Ed ζ M' e n x
  | 0, _, ⟨a, b, c⟩ => ⟨a, fun k => ⟨(b k).1, fun k3 => h _ ((b k).2 k3)⟩, fun k => h _ (c k)⟩
  | _ + 1, _, ⟨a, b⟩ => ⟨a, Ed.mono h b⟩
theorem Cm.mono (h : ∀ j, ¬ M j = 0 → ¬ M' j = 0) {j : Nat} (hc : Cm ζ M e j) : Cm ζ M' e j :=
  ⟨fun k => (hc.1 k).imp (fun _ h2 => h2.mono h), fun k m f ho h0 => (hc.2 k m f ho h0).imp (fun _ h2 => h2.mono h)⟩
/-- all that is marked looked into: nothing of it comes to the declaration -/
theorem noc_of (hall : ∀ j, ¬ M j = 0 → Cm ζ M e j) (h : ∃ n, Ed ζ M e n x) : ∀ (n : Nat) (y : Int32), Rs ζ n x y → ζ.2.1 20 y.toNatClampNeg = 20 → ¬ dcl ζ y = e := by
  intro n
  induction n generalizing x with
  | zero =>
    intro y hr ky
    have hr : x = y := hr
    subst hr
    obtain ⟨n, hn⟩ := h
    cases n with
    | zero => exact (hn.2.1 ky).1
    | succ n => have := hn.1; rw [ky] at this; exact absurd this (by decide)
  | succ n ih =>
    intro y hr ky
    obtain ⟨z, hz, hr⟩ := hr
    refine ih ?_ y hr ky
    obtain ⟨k, hk⟩ := h
    rcases hz with ⟨k20, k3, ez⟩ | ⟨k28, ez⟩ | ⟨k29, m, f, ho, h0, ez⟩
    · cases k with
      | zero =>
        have := (hall _ ((hk.2.1 k20).2 k3)).1 k3
        rw [ez]; exact this
      | succ k => have := hk.1; rw [k20] at this; exact absurd this (by decide)
    · cases k with
      | zero => exact absurd k28 hk.1
      | succ k => exact ⟨k, by rw [ez]; exact hk.2⟩
    · cases k with
      | zero => rw [ez]; exact (hall _ (hk.2.2 k29)).2 k29 m f ho h0
      | succ k => have := hk.1; rw [k29] at this; exact absurd this (by decide)
theorem ed_leaf (h20 : ¬ ζ.2.1 20 x.toNatClampNeg = 20) (h28 : ¬ ζ.2.1 20 x.toNatClampNeg = 28) (h29 : ¬ ζ.2.1 20 x.toNatClampNeg = 29) : Ed ζ M e 0 x := ⟨h28, fun h => absurd h h20, fun h => absurd h h29⟩
/-- FIELDs of a RECORD looked into -/
theorem hd_139 (hB : TB μ ζ) {x1 x3 : Int32} {K : Nat} (ih : ∀ (t : Int32) (ν : MS), TF ζ ν → Nd ζ 0 t → cz (pR ζ) (ν.2.1 84) (ζ.1 19).toInt.toNat ≤ K → MC X W true d 397 [.ref P.1, .int t, .int e] P ν (fun r ν1 => HdR ζ e t ν r ν1) (fun _ => False)) : ∀ (m : Nat) (x4 : Int32) (ν : MS), TF ζ ν → cz (pR ζ) (ν.2.1 84) (ζ.1 19).toInt.toNat ≤ K → Lst (Nd ζ 10) (ζ.2.1 27) m x4 → ME X W true d 397 139 [(0, .ref P.1), (1, .int x1), (2, .int e), (3, .int x3), (4, .int x4)] [] P ν (fun r ν1 => HdF ζ e x4 ν r ν1) T := by
  have fin : ∀ (x4 : Int32) (ν : MS), x4 = -1 → ME X W true d 397 139 [(0, .ref P.1), (1, .int x1), (2, .int e), (3, .int x3), (4, .int x4)] [] P ν (fun r ν1 => HdF ζ e x4 ν r ν1) T := fun x4 ν h => by
    subst h
    refine v_holds_139 _ _ _ _ ⟨fun _ => ⟨kf.rf, fun _ h => h, Or.inl rfl, fun _ => ⟨fun m f ho h0 => ?_, fun j hj => Or.inl hj⟩⟩, fun h => absurd h (by decide)⟩
    cases m with
    | zero =>
      have ho : (-1 : Int32) = f := ho
      rw [← ho] at h0; exact absurd h0 (by decide)
    | succ m => exact absurd ho.1 (by decide)
  intro m
  induction m with
  | zero => intro x4 ν _ _ hL; exact fin x4 ν hL
  | succ m ihm =>
    intro x4 ν hF hK hL
    rcases hL with hL | ⟨hx, hL⟩
    · exact fin x4 ν hL
    refine v_holds_139 _ _ _ _ ⟨fun h => by have := hx.in.1; omega, fun _ => ⟨hx.mi hB hF rfl rfl, ?_⟩⟩
    rw [hF.row (g := 23) rfl]
    refine MC.mono (ih _ ν hF (fl_ty hx) hK) (fun r κ hκ => ?_) (fun _ h => h)
    obtain ⟨k1, k2, k3, k4⟩ := hκ
    have hFκ : TF ζ κ := hF.kf k1 rfl rfl
    refine ⟨fun hr => ⟨hx.mi hB hFκ rfl rfl, ?_⟩, fun hr => ⟨k1, k2, Or.inr rfl, fun h => absurd h (by decide)⟩⟩
    rw [hFκ.row (g := 27) rfl]
    refine ME.mono (ihm _ κ hFκ (Nat.le_trans (cz_mono k2) hK) hL) (fun r2 ν1 hh => ?_) (fun _ h => h)
    obtain ⟨j1, j2, j3, j4⟩ := hh
    refine ⟨k1.tr j1, fun j hj => j2 j (k2 j hj), j3, fun hr2 => ?_⟩
    obtain ⟨a1, a2⟩ := k4 hr
    obtain ⟨b1, b2⟩ := j4 hr2
    refine ⟨fun m f ho h0 => ?_, fun j hj => ?_⟩
    · cases m with
      | zero =>
        have ho : x4 = f := ho
        subst ho
        exact a1.imp (fun _ h => h.mono j2)
      | succ m => exact b1 m f ho.2 h0
    · rcases b2 j hj with h | h
      · rcases a2 j h with h | h
        · exact Or.inl h
        · exact Or.inr (h.mono j2)
      · exact Or.inr h
theorem ng_28 {h : Nat} (hN : NG ζ (h + 1) 0 x) (ek : ζ.2.1 20 x.toNatClampNeg = 28) : NG ζ h 0 (ζ.2.1 24 x.toNatClampNeg) := by
  have := hN.2.2.2 2 (by omega)
  rw [ek] at this
  exact this.1
theorem nd_28 (hN : Nd ζ 0 x) (ek : ζ.2.1 20 x.toNatClampNeg = 28) : Nd ζ 0 (ζ.2.1 24 x.toNatClampNeg) := by
  have := hN.fld (f := 2) (by omega)
  rw [ek] at this
  exact this.1
theorem nd_29 (hN : Nd ζ 0 x) (ek : ζ.2.1 20 x.toNatClampNeg = 29) : ∃ m, Lst (Nd ζ 10) (ζ.2.1 27) m (ζ.2.1 22 x.toNatClampNeg) := by
  have := hN.fld (f := 0) (by omega)
  rw [ek] at this
  exact this
theorem hd_s (hB : TB μ ζ) {x1 : Int32} {h : Nat} (hd : 2 ≤ d) (hF : TF ζ ν) (hn : Nd ζ 0 t) (hg : NG ζ (h + 1) 0 t)
    (hA : ∀ t', Nd ζ 0 t' → NG ζ h 0 t' → ME X W true d 397 2 [(0, .ref P.1), (1, .int x1), (2, .int e), (3, .int t')] [] P ν (fun r ν1 => HdR ζ e t' ν r ν1) T)
    (hN : ∀ j : Nat, (j : Int) < (ζ.1 19).toInt → pU ζ j = true → ν.2.1 84 j = 0 → ∀ t', Nd ζ 0 t' → ME X W true d 397 2 [(0, .ref P.1), (1, .int x1), (2, .int e), (3, .int t')] [] P (mA1 ν 84 j 1) (fun r ν1 => HdR ζ e t' (mA1 ν 84 j 1) r ν1) T)
    (hR : ∀ j : Nat, (j : Int) < (ζ.1 19).toInt → ζ.2.1 20 j = 29 → ν.2.1 84 j = 0 → ∀ (t' : Int32) (κ : MS), TF ζ κ → Nd ζ 0 t' → cz (pR ζ) (κ.2.1 84) (ζ.1 19).toInt.toNat + 1 ≤ cz (pR ζ) (ν.2.1 84) (ζ.1 19).toInt.toNat → MC X W true d 397 [.ref P.1, .int t', .int e] P κ (fun r ν1 => HdR ζ e t' κ r ν1) (fun _ => False)) : ME X W true d 397 2 [(0, .ref P.1), (1, .int x1), (2, .int e), (3, .int t)] [] P ν (fun r ν1 => HdR ζ e t ν r ν1) T := by
  have h16 := hB.n16
  have r20 : ν.2.1 20 = ζ.2.1 20 := hF.row rfl
  have tm : ∀ {κ : MS} {g : Nat}, TF ζ κ → rk g = true → rlen g = 16000 → MI t (κ.2.2 g) := fun hF h1 h2 => hn.mi hB hF h1 h2
  have kM : ∀ j : Nat, kf [] [84] ν (mA1 ν 84 j 1) := fun j => kf.rf.A rfl
  have yes : HdR ζ e t ν 1 ν := ⟨kf.rf, fun _ h => h, Or.inr rfl, fun h => absurd h (by decide)⟩
  have ti := hn.in
  have ci := @ic t
  have name : ζ.2.1 20 t.toNatClampNeg = 20 → MC X W true d 364 [.ref P.1, .int t] P ν (fun r1 μ1 => ((¬ r1 = e → (MI r1 (μ1.2.2 20) ∧ (((μ1.2.1 20 r1.toNatClampNeg) = 4 → HdR ζ e t ν 0 μ1) ∧ (¬ (μ1.2.1 20 r1.toNatClampNeg) = 4 → (MI r1 (μ1.2.2 84) ∧ (((μ1.2.1 84 r1.toNatClampNeg) = 0 → (MI r1 (μ1.2.2 84) ∧ (MI r1 (μ1.2.2 23) ∧ ME X W true d 397 2 [(0, .ref P.1), (1, .int x1), (2, .int e), (3, .int (μ1.2.1 23 r1.toNatClampNeg))] [] P (mA1 μ1 84 r1.toNatClampNeg 1) (fun r ν1 => HdR ζ e t ν r ν1) T))) ∧ (¬ (μ1.2.1 84 r1.toNatClampNeg) = 0 → HdR ζ e t ν 0 μ1))))))) ∧ (r1 = e → HdR ζ e t ν 1 μ1))) (fun _ => False) := fun ek => by
    refine MC.mono (c_dcl hB hF (by omega) hn ek) (fun r1 κ hκ => ?_) (fun _ h => h)
    obtain ⟨e1, e2⟩ := hκ
    have e1 := e1.symm
    subst e1
    have hk := hB.dcl hn ek
    rw [← e2] at hk
    have hm : ∀ {g : Nat}, rk g = true → rlen g = 16000 → MI r1 (ν.2.2 g) := fun h1 h2 => hk.mi hB hF h1 h2
    have hi := hk.2.2.1
    have ci2 := @ic r1
    have no : ∀ (n3 : ζ.2.1 20 r1.toNatClampNeg = 3 → ¬ ν.2.1 84 r1.toNatClampNeg = 0), ¬ r1 = e → HdR ζ e t ν 0 ν := fun n3 ne => by
      refine ⟨kf.rf, fun _ h => h, Or.inl rfl, fun _ => ⟨⟨0, fun h => ?_, fun _ => ⟨by rw [← e2]; exact ne, by rw [← e2]; exact n3⟩, fun h => ?_⟩, fun j hj => Or.inl hj⟩⟩
      · rw [ek] at h; exact absurd h (by decide)
      · rw [ek] at h; exact absurd h (by decide)
    refine ⟨fun ne => ⟨hm rfl rfl, fun h4 => ?_, fun h4 => ⟨hm rfl rfl, fun h0 => ⟨hm rfl rfl, hm rfl rfl, ?_⟩, fun h0 => no (fun _ => h0) ne⟩⟩, fun _ => yes⟩
    · rw [r20] at h4
      exact no (fun h => by rw [h4] at h; exact absurd h (by decide)) ne
    · rw [r20] at h4
      have h3 := hk.2.1.resolve_right h4
      rw [hF.row (g := 23) rfl]
      refine ME.mono (hN r1.toNatClampNeg (by omega) (by unfold pU; rw [h3]; rfl) h0 _ hk.2.2.2.1) (fun r ν1 hh => ?_) (fun _ h => h)
      obtain ⟨k1, k2, k3, k4⟩ := hh
      have mk : ∀ j, ¬ ν.2.1 84 j = 0 → ¬ ν1.2.1 84 j = 0 := fun j hj => k2 j (by
        show ¬ upd (ν.2.1 84) r1.toNatClampNeg 1 j = 0
        by_cases c : j = r1.toNatClampNeg
        · rw [c, upd_at]; decide
        · rw [upd_off c]; exact hj)
      have me : ¬ ν1.2.1 84 r1.toNatClampNeg = 0 := k2 _ (by
        show ¬ upd (ν.2.1 84) r1.toNatClampNeg 1 r1.toNatClampNeg = 0
        rw [upd_at]; decide)
      refine ⟨(kM _).tr k1, mk, k3, fun hr => ?_⟩
      obtain ⟨a1, a2⟩ := k4 hr
      refine ⟨⟨0, fun h => ?_, fun _ => ⟨by rw [← e2]; exact ne, fun _ => by rw [← e2]; exact me⟩, fun h => ?_⟩, fun j hj => ?_⟩
      · rw [ek] at h; exact absurd h (by decide)
      · rw [ek] at h; exact absurd h (by decide)
      · rcases a2 j hj with h | h
        · have h : ¬ upd (ν.2.1 84) r1.toNatClampNeg 1 j = 0 := h
          by_cases c : j = r1.toNatClampNeg
          · subst c
            exact Or.inr ⟨fun _ => a1, fun h29 => by rw [h3] at h29; exact absurd h29 (by decide)⟩
          · rw [upd_off c] at h; exact Or.inl h
        · exact Or.inr h
  refine v_holds_2 _ _ _ ⟨tm hF rfl rfl, fun k20 => ⟨tm hF rfl rfl, fun k28 => ?_, fun k28 => ?_⟩, fun k20 => ⟨tm hF rfl rfl, fun k28 => ⟨tm hF rfl rfl, fun k29 => ?_, fun k29 => ⟨tm hF rfl rfl, fun h0 => ⟨tm hF rfl rfl, tm hF rfl rfl, ?_⟩, fun h0 => ?_⟩⟩, fun k28 => ⟨tm hF rfl rfl, fun h => absurd k28 h, fun _ => ⟨tm hF rfl rfl, ?_⟩⟩⟩⟩
  · exact name (by rw [← r20]; exact k20)
  · rw [k20] at k28; exact absurd k28 (by decide)
  · rw [r20] at k20 k28 k29
    exact ⟨kf.rf, fun _ h => h, Or.inl rfl, fun _ => ⟨⟨0, ed_leaf k20 k28 k29⟩, fun j hj => Or.inl hj⟩⟩
  · rw [r20] at k20 k28 k29
    have hF' : TF ζ (mA1 ν 84 t.toNatClampNeg 1) := hF.kf (kM _) rfl rfl
    rw [hF.row (g := 22) rfl]
    obtain ⟨m, hm⟩ := nd_29 hn k29
    have tlt : ((t.toNatClampNeg : Nat) : Int) < (ζ.1 19).toInt := by omega
    have cm : cz (pR ζ) ((mA1 ν 84 t.toNatClampNeg 1).2.1 84) (ζ.1 19).toInt.toNat + 1 ≤ cz (pR ζ) (ν.2.1 84) (ζ.1 19).toInt.toNat := cz_mark (by decide) (by unfold pR; rw [k29]; rfl) h0 (by omega)
    refine ME.mono (hd_139 (K := cz (pR ζ) ((mA1 ν 84 t.toNatClampNeg 1).2.1 84) (ζ.1 19).toInt.toNat) hB (fun t' κ h1 h2 h3 => hR t.toNatClampNeg tlt k29 h0 t' κ h1 h2 (by omega)) m _ _ hF' (Nat.le_refl _) hm) (fun r ν1 hh => ?_) (fun _ h => h)
    obtain ⟨k1, k2, k3, k4⟩ := hh
    have mk : ∀ j, ¬ ν.2.1 84 j = 0 → ¬ ν1.2.1 84 j = 0 := fun j hj => k2 j (by
      show ¬ upd (ν.2.1 84) t.toNatClampNeg 1 j = 0
      by_cases c : j = t.toNatClampNeg
      · rw [c, upd_at]; decide
      · rw [upd_off c]; exact hj)
    have me : ¬ ν1.2.1 84 t.toNatClampNeg = 0 := k2 _ (by
      show ¬ upd (ν.2.1 84) t.toNatClampNeg 1 t.toNatClampNeg = 0
      rw [upd_at]; decide)
    refine ⟨(kM _).tr k1, mk, k3, fun hr => ?_⟩
    obtain ⟨a1, a2⟩ := k4 hr
    refine ⟨⟨0, k28, fun h => absurd h k20, fun _ => me⟩, fun j hj => ?_⟩
    rcases a2 j hj with h | h
    · have h : ¬ upd (ν.2.1 84) t.toNatClampNeg 1 j = 0 := h
      by_cases c : j = t.toNatClampNeg
      · subst c
        exact Or.inr ⟨fun h3 => by rw [k29] at h3; exact absurd h3 (by decide), fun _ => a1⟩
      · rw [upd_off c] at h; exact Or.inl h
    · exact Or.inr h
  · rw [r20] at k20 k28 k29
    exact ⟨kf.rf, fun _ h => h, Or.inl rfl, fun _ => ⟨⟨0, k28, fun h => absurd h k20, fun _ => h0⟩, fun j hj => Or.inl hj⟩⟩
  · rw [r20] at k20 k28
    rw [hF.k24 (Or.inl rfl) (sfx_of k28 rfl)]
    refine ME.mono (hA _ (nd_28 hn k28) (ng_28 hg k28)) (fun r ν1 hh => ?_) (fun _ h => h)
    obtain ⟨k1, k2, k3, k4⟩ := hh
    exact ⟨k1, k2, k3, fun hr => ⟨(k4 hr).1.elim (fun n hn => ⟨n + 1, k28, hn⟩), (k4 hr).2⟩⟩
theorem hd_2 (hB : TB μ ζ) : ∀ (K d : Nat), K + 2 ≤ d → ∀ (U h : Nat) (t x1 : Int32) (T : MS → Prop) (ν : MS), TF ζ ν → cz (pR ζ) (ν.2.1 84) (ζ.1 19).toInt.toNat ≤ K → cz (pU ζ) (ν.2.1 84) (ζ.1 19).toInt.toNat ≤ U → Nd ζ 0 t → NG ζ h 0 t → ME X W true d 397 2 [(0, .ref P.1), (1, .int x1), (2, .int e), (3, .int t)] [] P ν (fun r ν1 => HdR ζ e t ν r ν1) T := by
  intro K
  induction K with
  | zero =>
    intro d hd U
    induction U with
    | zero =>
      intro h
      induction h with
      | zero => intro t x1 T ν hF hK hU hn hg; exact hg.elim
      | succ h ihh =>
        intro t x1 T ν hF hK hU hn hg
        refine hd_s hB (by omega) hF hn hg (fun t' a b => ihh t' x1 T ν hF hK hU a b) (fun j j1 j2 j3 t' a => ?_) (fun j j1 j2 j3 t' κ a b c => ?_)
        · have := cz_mark (v := 1) (by decide) j2 j3 (n := (ζ.1 19).toInt.toNat) (by omega); omega
        · omega
    | succ U ihU =>
      intro h
      induction h with
      | zero => intro t x1 T ν hF hK hU hn hg; exact hg.elim
      | succ h ihh =>
        intro t x1 T ν hF hK hU hn hg
        refine hd_s hB (by omega) hF hn hg (fun t' a b => ihh t' x1 T ν hF hK hU a b) (fun j j1 j2 j3 t' a => ?_) (fun j j1 j2 j3 t' κ a b c => ?_)
        · have h1 := cz_mark (v := 1) (by decide) j2 j3 (n := (ζ.1 19).toInt.toNat) (by omega)
          have h2 := cz_mono (p := pR ζ) (f := ν.2.1 84) (g := upd (ν.2.1 84) j 1) (fun i hi => by
            by_cases c : i = j
            · rw [c, upd_at]; decide
            · rw [upd_off c]; exact hi) (n := (ζ.1 19).toInt.toNat)
          have a9 := a
          obtain ⟨h', _, g1, g2⟩ := a9
          exact ihU h' t' x1 T (mA1 ν 84 j 1) (hF.kf (kf.rf.A (s := []) (r := [84]) rfl) rfl rfl) (Nat.le_trans h2 hK) (by show cz (pU ζ) (upd (ν.2.1 84) j 1) _ ≤ U; omega) a g1
        · omega
  | succ K ihK =>
    intro d hd U
    induction U with
    | zero =>
      intro h
      induction h with
      | zero => intro t x1 T ν hF hK hU hn hg; exact hg.elim
      | succ h ihh =>
        intro t x1 T ν hF hK hU hn hg
        refine hd_s hB (by omega) hF hn hg (fun t' a b => ihh t' x1 T ν hF hK hU a b) (fun j j1 j2 j3 t' a => ?_) (fun j j1 j2 j3 t' κ a b c => ?_)
        · have := cz_mark (v := 1) (by decide) j2 j3 (n := (ζ.1 19).toInt.toNat) (by omega); omega
        · have b9 := b
          obtain ⟨h', _, g1, g2⟩ := b9
          exact me_meth (by omega) rfl (v_holds_0 _ _ (ihK (d - 1) (by omega) _ h' t' t' (fun _ => False) κ a (by omega) (Nat.le_refl _) b g1))
    | succ U ihU =>
      intro h
      induction h with
      | zero => intro t x1 T ν hF hK hU hn hg; exact hg.elim
      | succ h ihh =>
        intro t x1 T ν hF hK hU hn hg
        refine hd_s hB (by omega) hF hn hg (fun t' a b => ihh t' x1 T ν hF hK hU a b) (fun j j1 j2 j3 t' a => ?_) (fun j j1 j2 j3 t' κ a b c => ?_)
        · have h1 := cz_mark (v := 1) (by decide) j2 j3 (n := (ζ.1 19).toInt.toNat) (by omega)
          have h2 := cz_mono (p := pR ζ) (f := ν.2.1 84) (g := upd (ν.2.1 84) j 1) (fun i hi => by
            by_cases c : i = j
            · rw [c, upd_at]; decide
            · rw [upd_off c]; exact hi) (n := (ζ.1 19).toInt.toNat)
          have a9 := a
          obtain ⟨h', _, g1, g2⟩ := a9
          exact ihU h' t' x1 T (mA1 ν 84 j 1) (hF.kf (kf.rf.A (s := []) (r := [84]) rfl) rfl rfl) (Nat.le_trans h2 hK) (by show cz (pU ζ) (upd (ν.2.1 84) j 1) _ ≤ U; omega) a g1
        · have b9 := b
          obtain ⟨h', _, g1, g2⟩ := b9
          exact me_meth (by omega) rfl (v_holds_0 _ _ (ihK (d - 1) (by omega) _ h' t' t' (fun _ => False) κ a (by omega) (Nat.le_refl _) b g1))
theorem c_holds (hB : TB μ ζ) {K : Nat} (hF : TF ζ ν) (hK : cz (pR ζ) (ν.2.1 84) (ζ.1 19).toInt.toNat ≤ K) (hd : K + 3 ≤ d) (hn : Nd ζ 0 t) : MC X W true d 397 [.ref P.1, .int t, .int e] P ν (fun r ν1 => HdR ζ e t ν r ν1) T := by
  have hn2 := hn
  obtain ⟨h', _, g1, g2⟩ := hn2
  exact me_meth (by omega) rfl (v_holds_0 _ _ (hd_2 hB K (d - 1) (by omega) _ h' t t T ν hF hK (Nat.le_refl _) hn g1))
end NNAM
