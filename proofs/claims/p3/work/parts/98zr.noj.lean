/-! contracts of the reference: bounds -/
/-- the second half of the round of types: what stays -/
def P2 (ζ : MS) (ρ ω η : Nat → Int32) (ν : MS) : Prop := (TF ζ ν ∧ JK ζ ν) ∧ (ν.2.1 72 = ρ ∧ ν.2.1 73 = ω ∧ ν.2.1 82 = η) ∧ KI ζ η (ν.2.1 81)
/-- what bounds asks of a TYPE -/
def BdT (ζ : MS) (η M : Nat → Int32) (t : Int32) : Prop := (ζ.2.1 20 t.toNatClampNeg = 27 → 1 ≤ arN ζ t) ∧ (ζ.2.1 20 t.toNatClampNeg = 28 → 1 ≤ arN ζ t ∧ arN ζ t ≤ 1000) ∧ (ζ.2.1 20 t.toNatClampNeg = 28 ∨ ζ.2.1 20 t.toNatClampNeg = 29 → ag ζ η → ¬ M t.toNatClampNeg = -2 ∧ (M t.toNatClampNeg).toInt ≤ 2000)
def BdI (ζ : MS) (ρ ω η : Nat → Int32) (ν0 ν : MS) (k : Int) : Prop := P2 ζ ρ ω η ν ∧ (FM ν0 ν ∧ kf [17, 18] [81] ν0 ν ∧ KP (ν0.2.1 81) (ν.2.1 81)) ∧ (ν.1 17 = 0 → ∀ t : Int32, InN ζ t → t.toInt < k → BdT ζ η (ν.2.1 81) t)
section NNAR
variable {X : ev_X} {W : Nat → Prop} {d : Nat} {P : MP} {μ ν ν0 ν1 κ ζ : MS} {T : MS → Prop} {x y z s t r e u : Int32} {ρ ω η M M' : Nat → Int32} {w c : Nat}
theorem P2.rule (h : P2 ζ ρ ω η ν) (k : kf [17, 18] [] ν ν1) (hf : ¬ ν1.1 17 = 0) : P2 ζ ρ ω η ν1 := by
  obtain ⟨⟨a1, a2⟩, a3, a4⟩ := h
  unfold P2
  rw [k.2.1 72 rfl, k.2.1 73 rfl, k.2.1 82 rfl, k.2.1 81 rfl]
  exact ⟨⟨tf_fl a1 k (fun _ => hf) rfl rfl, a2.eq (k.2.1 66 rfl) (fun i _ => by rw [k.2.1 68 rfl]) (k.1 67 rfl)⟩, a3, a4⟩
theorem P2.cells (h : P2 ζ ρ ω η ν) (g : CsR ζ η x ν r ν1) : P2 ζ ρ ω η ν1 := by
  obtain ⟨⟨a1, a2⟩, a3, a4⟩ := h
  obtain ⟨⟨k, b2, b3⟩, -⟩ := g
  unfold P2
  rw [k.2.1 72 rfl, k.2.1 73 rfl, k.2.1 82 rfl]
  exact ⟨⟨a1.kf k rfl rfl, a2.eq (k.2.1 66 rfl) (fun i _ => by rw [k.2.1 68 rfl]) (k.1 67 rfl)⟩, a3, b2⟩
theorem BdT.keep (h : KP M M') (g : BdT ζ η M t) : BdT ζ η M' t := ⟨g.1, g.2.1, fun k a => by
  obtain ⟨b1, b2⟩ := g.2.2 k a
  rw [h _ b1]
  exact ⟨b1, b2⟩⟩
theorem BdI.flt {k : Int} (h : BdI ζ ρ ω η ν0 ν k) (g : kf [17, 18] [] ν ν1) (hf : ¬ ν1.1 17 = 0) {k' : Int} : BdI ζ ρ ω η ν0 ν1 k' := by
  refine ⟨h.1.rule g hf, ⟨fun _ => hf, h.2.1.2.1.tr (g.up rfl rfl), ?_⟩, fun e => absurd e hf⟩
  rw [g.2.1 81 rfl]; exact h.2.1.2.2
/-- one node looked at, all but its CELLS known -/
theorem bd_128 {x2 : Int32} {R : Int32 → MS → Prop} (next : ∀ κ, BdI ζ ρ ω η ν0 κ (x + 1).toInt → ME X W true d 399 2 [(0, .ref P.1), (1, .int (x + 1))] [] P κ R T) (e1 : (x + 1).toInt = x.toInt + 1) (h : BdI ζ ρ ω η ν0 κ x.toInt) (hx : κ.1 17 = 0 → BdT ζ η (κ.2.1 81) x) : ME X W true d 399 128 [(0, .ref P.1), (1, .int x), (2, .int x2)] [] P κ R T :=
  v_bounds__128 _ _ (next κ ⟨h.1, h.2.1, fun h17 t ht hlt => by
    by_cases c : t.toInt < x.toInt
    · exact h.2.2 h17 t ht c
    · have : t = x := i_eq (by omega)
      rw [this]; exact hx h17⟩)
theorem bd_90 (hB : TB μ ζ) (hY : TY μ ζ) (hC : HoC μ ζ η) (hd : 1252 ≤ d) {x2 : Int32} {R : Int32 → MS → Prop} (next : ∀ κ, BdI ζ ρ ω η ν0 κ (x + 1).toInt → ME X W true d 399 2 [(0, .ref P.1), (1, .int (x + 1))] [] P κ R T) (e1 : (x + 1).toInt = x.toInt + 1) (xi : InN ζ x) (hx2 : ¬ x2 = 0 ↔ ζ.2.1 20 x.toNatClampNeg = 28) (h : BdI ζ ρ ω η ν0 κ x.toInt) (hx : κ.1 17 = 0 → (ζ.2.1 20 x.toNatClampNeg = 27 → 1 ≤ arN ζ x) ∧ (ζ.2.1 20 x.toNatClampNeg = 28 → 1 ≤ arN ζ x ∧ arN ζ x ≤ 1000)) : ME X W true d 399 90 [(0, .ref P.1), (1, .int x), (2, .int x2)] [] P κ R T := by
  have hF := h.1.1.1
  have h16 := hB.n16
  have r20 : κ.2.1 20 = ζ.2.1 20 := hF.row rfl
  have xm : ∀ {κ : MS} {g : Nat}, TF ζ κ → rk g = true → rlen g = 16000 → MI x (κ.2.2 g) := fun hF hg hr => MI.of ((hF.1.2.2).g hg hr) xi.1 (by have := xi.2; omega)
  have big : ζ.2.1 20 x.toNatClampNeg = 28 ∨ ζ.2.1 20 x.toNatClampNeg = 29 → ME X W true d 399 105 [(0, .ref P.1), (1, .int x), (2, .int x2)] [] P κ R T := fun kt => by
    have hn : Nd ζ 0 x := (hY.1 x xi).1 (kt.imp id Or.inl)
    refine v_bounds__105 _ _ (MC.mono (c_cellsOf hB hY hC hF h.1.2.2 h.1.2.1.2.2 hn hd) (fun r κ1 h1 => ?_) (fun _ h => h))
    have hP1 := h.1.cells h1
    obtain ⟨⟨k1, k2, k3⟩, hr, hg⟩ := h1
    have hI1 : BdI ζ ρ ω η ν0 κ1 x.toInt := ⟨hP1, ⟨fun g => by rw [k1.1 17 rfl]; exact h.2.1.1 g, h.2.1.2.1.tr (k1.up rfl rfl), h.2.1.2.2.tr k3⟩, fun h17 t ht hlt => (h.2.2 (by rw [← k1.1 17 rfl]; exact h17) t ht hlt).keep k3⟩
    refine ⟨fun hle => bd_128 next e1 hI1 (fun h17 => ?_), fun hgt => ⟨xm hP1.1.1 rfl rfl, MC.mono (c_ruF (by omega) (by decide)) (fun _ κ2 h2 => bd_128 next e1 (hI1.flt h2.1 h2.2) (fun h => absurd h h2.2)) (fun _ h => h)⟩⟩
    obtain ⟨b1, b2⟩ := hx (by rw [← k1.1 17 rfl]; exact h17)
    refine ⟨b1, b2, fun _ g => ?_⟩
    have e := (hg g).1
    have er : rlV ζ x = x := rl_id (fun h => by rcases kt with k | k <;> (rw [k] at h; exact absurd h (by decide)))
    unfold cvV at e
    rw [er, if_pos kt] at e
    rw [← e]
    exact ⟨fun h => by have := hr.1; rw [h] at this; exact absurd this (by decide), hle⟩
  refine v_bounds__90 _ _ ⟨fun hne => big (Or.inl (hx2.mp hne)), fun h0 => ⟨xm hF rfl rfl, fun k29 => bd_128 next e1 h (fun h17 => ?_), fun k29 => big (Or.inr (by rw [← r20]; exact k29))⟩⟩
  obtain ⟨b1, b2⟩ := hx h17
  rw [r20] at k29
  have k28 : ¬ ζ.2.1 20 x.toNatClampNeg = 28 := fun h => hx2.mpr h h0
  exact ⟨b1, b2, fun k => (k.elim k28 k29).elim⟩
theorem bd_2 (hB : TB μ ζ) (hY : TY μ ζ) (hC : HoC μ ζ η) (hd : 1252 ≤ d) : ∀ (n : Nat) (x : Int32) (κ : MS), 0 ≤ x.toInt → (ζ.1 19).toInt - x.toInt ≤ n → BdI ζ ρ ω η ν0 κ x.toInt → ME X W true d 399 2 [(0, .ref P.1), (1, .int x)] [] P κ (fun _ ν1 => BdI ζ ρ ω η ν0 ν1 (ζ.1 19).toInt) T := by
  have h16 := hB.n16
  intro n
  induction n with
  | zero =>
    intro x κ h0 hn h
    have e19 := eq_i (h.1.1.1.1.1 19 rfl)
    exact v_bounds__2 _ ⟨fun _ => ⟨h.1, h.2.1, fun h17 t ht hlt => h.2.2 h17 t ht (by omega)⟩, fun h => by omega⟩
  | succ n ih =>
    intro x κ h0 hn h
    have hF := h.1.1.1
    have e19 := eq_i (hF.1.1 19 rfl)
    have r20 : κ.2.1 20 = ζ.2.1 20 := hF.row rfl
    have r22 : κ.2.1 22 = ζ.2.1 22 := hF.row rfl
    have r23 : κ.2.1 23 = ζ.2.1 23 := hF.row rfl
    refine v_bounds__2 _ ⟨fun _ => ⟨h.1, h.2.1, fun h17 t ht hlt => h.2.2 h17 t ht (by have := ht.2; omega)⟩, fun hlt => ?_⟩
    have e1 : (x + 1).toInt = x.toInt + 1 := ia1 (by omega)
    have xi : InN ζ x := ⟨h0, by omega⟩
    have xm : ∀ {κ : MS} {g : Nat}, TF ζ κ → rk g = true → rlen g = 16000 → MI x (κ.2.2 g) := fun hF hg hr => MI.of ((hF.1.2.2).g hg hr) xi.1 (by omega)
    have next : ∀ κ, BdI ζ ρ ω η ν0 κ (x + 1).toInt → ME X W true d 399 2 [(0, .ref P.1), (1, .int (x + 1))] [] P κ (fun _ ν1 => BdI ζ ρ ω η ν0 ν1 (ζ.1 19).toInt) T := fun κ hκ => ih (x + 1) κ (by omega) (by omega) hκ
    have one : (1 : Int64).toInt = 1 := rfl
    have tho : (1000 : Int64).toInt = 1000 := rfl
    have main : ∀ x2 : Int32, (¬ x2 = 0 ↔ ζ.2.1 20 x.toNatClampNeg = 28) → ME X W true d 399 27 [(0, .ref P.1), (1, .int x), (2, .int x2)] [] P κ (fun _ ν1 => BdI ζ ρ ω η ν0 ν1 (ζ.1 19).toInt) T := fun x2 hx2 => by
      have go : ζ.2.1 20 x.toNatClampNeg = 27 ∨ ζ.2.1 20 x.toNatClampNeg = 28 → ME X W true d 399 42 [(0, .ref P.1), (1, .int x), (2, .int x2)] [] P κ (fun _ ν1 => BdI ζ ρ ω η ν0 ν1 (ζ.1 19).toInt) T := fun hk => by
        have en : ((ζ.2.1 23 x.toNatClampNeg).toInt64 - (ζ.2.1 22 x.toNatClampNeg).toInt64 + 1).toInt = arN ζ x := l_n _ _
        have bad : ∀ x3 : Int64, ME X W true d 399 78 [(0, .ref P.1), (1, .int x), (2, .int x2), (3, .long x3)] [] P κ (fun _ ν1 => BdI ζ ρ ω η ν0 ν1 (ζ.1 19).toInt) T := fun x3 => v_bounds__78 _ _ _ ⟨xm hF rfl rfl, MC.mono (c_ruF (by omega) (by decide)) (fun _ κ2 h2 => bd_90 hB hY hC hd next e1 xi hx2 (h.flt h2.1 h2.2) (fun h => absurd h h2.2)) (fun _ h => h)⟩
        refine v_bounds__42 _ _ ⟨xm hF rfl rfl, xm hF rfl rfl, fun _ => bad _, fun hge => ?_⟩
        rw [r22, r23] at hge ⊢
        have g1 : 1 ≤ arN ζ x := by
          have : ¬ ((ζ.2.1 23 x.toNatClampNeg).toInt64 - (ζ.2.1 22 x.toNatClampNeg).toInt64 + 1).toInt < (1 : Int64).toInt := fun h => by have := lc_lt.mpr h; omega
          rw [en, one] at this; omega
        refine ⟨fun h0 => bd_90 hB hY hC hd next e1 xi hx2 h (fun _ => ⟨fun _ => g1, fun k28 => absurd h0 (hx2.mpr k28)⟩), fun h0 => ⟨fun hle => bd_90 hB hY hC hd next e1 xi hx2 h (fun _ => ⟨fun _ => g1, fun _ => ⟨g1, ?_⟩⟩), fun _ => bad _⟩⟩
        have : ¬ (1000 : Int64).toInt < ((ζ.2.1 23 x.toNatClampNeg).toInt64 - (ζ.2.1 22 x.toNatClampNeg).toInt64 + 1).toInt := fun h => by have := lc_gt.mpr h; omega
        rw [en, tho] at this; omega
      refine v_bounds__27 _ _ ⟨fun hne => go (Or.inr (hx2.mp hne)), fun h0 => ⟨xm hF rfl rfl, fun k27 => ?_, fun k27 => go (Or.inl (by rw [← r20]; exact k27))⟩⟩
      rw [r20] at k27
      exact bd_90 hB hY hC hd next e1 xi hx2 h (fun _ => ⟨fun h => absurd h k27, fun h => absurd h0 (hx2.mpr h)⟩)
    refine ⟨xm hF rfl rfl, fun k28 => main 0 ⟨fun h => absurd rfl h, fun h => absurd (by rw [r20]; exact h) k28⟩, fun k28 => main 1 ⟨fun _ => by rw [← r20]; exact k28, fun _ => by decide⟩⟩
theorem c_bounds_ (hB : TB μ ζ) (hY : TY μ ζ) (hC : HoC μ ζ η) (hP : P2 ζ ρ ω η ν) (hd : 1253 ≤ d) : MC X W true d 399 [.ref P.1] P ν (fun _ ν1 => BdI ζ ρ ω η ν ν1 (ζ.1 19).toInt) T :=
  me_meth (by omega) rfl (v_bounds__0 (bd_2 hB hY hC (by omega) (ζ.1 19).toInt.toNat 0 ν (by decide) (by show _ - (0 : Int) ≤ _; omega) ⟨hP, ⟨fun h => h, kf.rf, KP.rf⟩, fun _ t ht hlt => by have hlt : t.toInt < 0 := hlt; have := ht.1; omega⟩))
end NNAR
