/-! contracts of the reference: cellsOf -/
section NNAQ
variable {X : ev_X} {W : Nat → Prop} {d : Nat} {P : MP} {μ ν ν0 ν1 κ ζ : MS} {T : MS → Prop} {x y z s t r e u : Int32} {η f f' M M' : Nat → Int32} {w c : Nat}
/-- a state while an ARRAY's or RECORD's parts are counted -/
def CeI (ζ : MS) (η f' : Nat → Int32) (ν κ : MS) : Prop := kf [] [81] ν κ ∧ KI ζ η (κ.2.1 81) ∧ KP (ν.2.1 81) (κ.2.1 81) ∧ ∀ j, ¬ f' j = 0 → κ.2.1 81 j = ν.2.1 81 j
theorem CeI.step (h : CeI ζ η f' ν κ) (g : ClR ζ η f' y κ r ν1) : CeI ζ η f' ν ν1 := by
  obtain ⟨a1, a2, a3, a4⟩ := h
  obtain ⟨⟨b1, b2, b3, b4⟩, -⟩ := g
  exact ⟨a1.tr b1, b2, a3.tr b3, fun j hj => (b4 j hj).trans (a4 j hj)⟩
theorem sk_step (hS : SKf ζ η f t) (tn : Nd ζ 0 t) (hg : GSt ζ η t y) : SKf ζ η (upd f t.toNatClampNeg 1) y := fun s hs hf => by
  by_cases c : s.toNatClampNeg = t.toNatClampNeg
  · have : s = t := in_eq hs.in tn.in c
    subst this
    exact ⟨0, y, hg, rfl⟩
  · rw [upd_off c] at hf
    obtain ⟨n, hn⟩ := hS s hs hf
    exact ⟨n + 1, gr_cat (m := 1) hn ⟨y, hg, rfl⟩⟩
theorem ce_end {v : Int32} (hI : CeI ζ η (upd f t.toNatClampNeg 1) ν κ) (tn : Nd ζ 0 t) (ft : f t.toNatClampNeg = 0) (m0 : ν.2.1 81 t.toNatClampNeg = -2) (hv : -1 ≤ v.toInt ∧ v.toInt ≤ 100000) (he : ag ζ η → EqC ζ (upd (κ.2.1 81) t.toNatClampNeg v) t ∧ (bg ζ → 0 ≤ v.toInt)) : ClT ζ η f t ν (upd (κ.2.1 81) t.toNatClampNeg v t.toNatClampNeg) (mA1 κ 81 t.toNatClampNeg v) := by
  obtain ⟨a1, a2, a3, a4⟩ := hI
  have mt : κ.2.1 81 t.toNatClampNeg = -2 := by rw [a4 _ (by rw [upd_at]; decide)]; exact m0
  refine ⟨⟨a1.A rfl, a2.put tn mt hv he, fun j hj => ?_, fun j hj => ?_⟩, by rw [upd_at]; exact hv, fun g => ⟨rfl, by rw [upd_at]; exact (he g).2⟩⟩
  · show upd (κ.2.1 81) t.toNatClampNeg v j = _
    rw [upd_off (fun e => hj (by rw [e]; exact m0))]
    exact a3 j hj
  · show upd (κ.2.1 81) t.toNatClampNeg v j = _
    have c : ¬ j = t.toNatClampNeg := fun e => hj (by rw [e]; exact ft)
    rw [upd_off c]
    exact a4 j (by rw [upd_off c]; exact hj)
/-- a RECORD's FIELDs counted -/
theorem ce_196 (hB : TB μ ζ) {x1 : Int32} (hF0 : TF ζ ν) (h82 : ν.2.1 82 = η) (tn : Nd ζ 0 t) (kt : ζ.2.1 20 t.toNatClampNeg = 29) (ft : f t.toNatClampNeg = 0) (m0 : ν.2.1 81 t.toNatClampNeg = -2) (hS : SKf ζ η f t)
    (rec : ∀ (y : Int32) (κ : MS), TF ζ κ → KI ζ η (κ.2.1 81) → κ.2.1 82 = η → Nd ζ 0 y → SKf ζ η (upd f t.toNatClampNeg 1) y → MC X W true d 393 [.ref P.1, .int y] P κ (fun r ν1 => ClR ζ η (upd f t.toNatClampNeg 1) y κ r ν1) (fun _ => False)) : ∀ (m : Nat) (x6 x5 : Int32) (x3 : Int64) (κ : MS), Lst (Nd ζ 10) (ζ.2.1 27) m x6 → (∃ j, Onl (ζ.2.1 27) j (ζ.2.1 22 t.toNatClampNeg) x6) → CeI ζ η (upd f t.toNatClampNeg 1) ν κ →
    ((¬ x5 = 0 ∧ (0 ≤ x3.toInt ∧ x3.toInt ≤ 100000) ∧ (ag ζ η → ∀ M' v, KP (κ.2.1 81) M' → (∃ m, FlS ζ M' m x6 x3.toInt v) → ∃ m, FlS ζ M' m (ζ.2.1 22 t.toNatClampNeg) 0 v)) ∨ (x5 = 0 ∧ (ag ζ η → bg ζ → False) ∧ (ag ζ η → ∀ M', KP (κ.2.1 81) M' → ∃ m, FlS ζ M' m (ζ.2.1 22 t.toNatClampNeg) 0 (-1)))) →
    ME X W true d 393 196 [(0, .ref P.1), (1, .int x1), (2, .int t), (3, .long x3), (5, .int x5), (6, .int x6)] [] P κ (fun r ν1 => ClT ζ η f t ν r ν1) T := by
  have h16 := hB.n16
  have tF : ∀ {κ : MS}, CeI ζ η (upd f t.toNatClampNeg 1) ν κ → TF ζ κ := fun h => hF0.kf h.1 rfl rfl
  have fin : ∀ (x6 x5 : Int32) (x3 : Int64) (κ : MS), x6 = -1 → CeI ζ η (upd f t.toNatClampNeg 1) ν κ →
    ((¬ x5 = 0 ∧ (0 ≤ x3.toInt ∧ x3.toInt ≤ 100000) ∧ (ag ζ η → ∀ M' v, KP (κ.2.1 81) M' → (∃ m, FlS ζ M' m x6 x3.toInt v) → ∃ m, FlS ζ M' m (ζ.2.1 22 t.toNatClampNeg) 0 v)) ∨ (x5 = 0 ∧ (ag ζ η → bg ζ → False) ∧ (ag ζ η → ∀ M', KP (κ.2.1 81) M' → ∃ m, FlS ζ M' m (ζ.2.1 22 t.toNatClampNeg) 0 (-1)))) →
    ME X W true d 393 196 [(0, .ref P.1), (1, .int x1), (2, .int t), (3, .long x3), (5, .int x5), (6, .int x6)] [] P κ (fun r ν1 => ClT ζ η f t ν r ν1) T := fun x6 x5 x3 κ e hI hm => by
    subst e
    have t81 : MI t (κ.2.2 81) := tn.mi hB (tF hI) rfl rfl
    have mt : κ.2.1 81 t.toNatClampNeg = -2 := by rw [hI.2.2.2 _ (by rw [upd_at]; decide)]; exact m0
    have no28 : ¬ ζ.2.1 20 t.toNatClampNeg = 28 := fun h => by rw [kt] at h; exact absurd h (by decide)
    refine v_cellsOf_196 _ _ _ _ _ ⟨fun _ => ⟨fun h0 => ⟨t81, t81, ?_⟩, fun h0 => ⟨t81, t81, ?_⟩⟩, fun h => absurd h (by decide)⟩
    · rcases hm with ⟨a, -⟩ | ⟨-, b, c⟩
      · exact absurd h0 a
      · refine ce_end hI tn ft m0 ⟨by decide, by decide⟩ (fun g => ⟨⟨fun h => absurd h no28, fun _ => ?_⟩, fun g2 => (b g g2).elim⟩)
        rw [upd_at]
        exact c g _ (KP.put mt)
    · rcases hm with ⟨-, ⟨a1, a2⟩, b⟩ | ⟨a, -⟩
      · have e32 : x3.toInt32.toInt = x3.toInt := l32 (by omega) (by omega)
        refine ce_end hI tn ft m0 ⟨by omega, by omega⟩ (fun g => ⟨⟨fun h => absurd h no28, fun _ => ?_⟩, fun _ => by omega⟩)
        rw [upd_at]
        exact b g _ _ (KP.put mt) ⟨0, rfl, e32⟩
      · exact absurd a h0
  intro m
  induction m with
  | zero => intro x6 x5 x3 κ hL _ hI hm; exact fin x6 x5 x3 κ hL hI hm
  | succ m ih =>
    intro x6 x5 x3 κ hL ho hI hm
    rcases hL with hL | ⟨hx, hL⟩
    · exact fin x6 x5 x3 κ hL hI hm
    have hF := tF hI
    obtain ⟨j, ho⟩ := ho
    have gs : GSt ζ η t (ζ.2.1 23 x6.toNatClampNeg) := Or.inr (Or.inr ⟨kt, j, x6, ho, hx.in.1, rfl⟩)
    refine v_cellsOf_196 _ _ _ _ _ ⟨fun h => by have := hx.in.1; omega, fun _ => ⟨hx.mi hB hF rfl rfl, ?_⟩⟩
    rw [hF.row (g := 23) rfl]
    refine MC.mono (rec _ κ hF hI.2.1 (by rw [hI.1.2.1 82 rfl]; exact h82) (fl_ty hx) (sk_step hS tn gs)) (fun r κ1 h1 => ?_) (fun _ h => h)
    have hI1 := hI.step h1
    have hF1 := tF hI1
    obtain ⟨⟨-, -, k3, -⟩, ⟨r0, r1⟩, hr⟩ := h1
    have m27 : MI x6 (κ1.2.2 27) := hx.mi hB hF1 rfl rfl
    have ho1 : ∃ j, Onl (ζ.2.1 27) j (ζ.2.1 22 t.toNatClampNeg) (ζ.2.1 27 x6.toNatClampNeg) := ⟨j + 1, ho.snoc hx.in.1⟩
    have cv : ag ζ η → ∀ M', KP (κ1.2.1 81) M' → cvV ζ M' (ζ.2.1 23 x6.toNatClampNeg) = r := fun g M' hp => by
      have e := (hr g).1
      rw [cv_keep hp (by rw [← e]; intro h; rw [h] at r0; exact absurd r0 (by decide))]
      exact e.symm
    have n2 : ¬ r = -2 := fun h => by rw [h] at r0; exact absurd r0 (by decide)
    have bad : ∀ x3' : Int64, ((ag ζ η → bg ζ → False) ∧ (ag ζ η → ∀ M', KP (κ1.2.1 81) M' → ∃ m, FlS ζ M' m (ζ.2.1 22 t.toNatClampNeg) 0 (-1))) → ME X W true d 393 228 [(0, .ref P.1), (1, .int x1), (2, .int t), (3, .long x3'), (5, .int x5), (6, .int x6), (7, .int r)] [] P κ1 (fun r ν1 => ClT ζ η f t ν r ν1) T := fun x3' hb => by
      refine v_cellsOf_228 _ _ _ _ _ _ (v_cellsOf_231 _ _ _ _ _ _ ⟨m27, ?_⟩)
      rw [hF1.row (g := 27) rfl]
      exact ih _ 0 _ κ1 hL ho1 hI1 (Or.inr ⟨rfl, hb⟩)
    refine ⟨fun h0 => bad x3 ?_, fun h0 => ⟨fun hneg => bad x3 ?_, fun hpos => v_cellsOf_231 _ _ _ _ _ _ ⟨m27, ?_⟩⟩⟩
    · rcases hm with ⟨a, -⟩ | ⟨-, b, c⟩
      · exact absurd h0 a
      · exact ⟨b, fun g M' hp => c g M' (k3.tr hp)⟩
    · rcases hm with ⟨-, -, b⟩ | ⟨a, -⟩
      · refine ⟨fun g g2 => by have := (hr g).2 g2; omega, fun g M' hp => b g M' (-1) (k3.tr hp) ⟨1, Or.inr ⟨hx.in.1, ?_, Or.inr ⟨?_, rfl⟩⟩⟩⟩
        · rw [cv g M' hp]; exact n2
        · rw [cv g M' hp]; exact hneg
      · exact absurd a h0
    · rcases hm with ⟨-, ⟨a1, a2⟩, b⟩ | ⟨a, -⟩
      · have e1 : (x3 + r.toInt64).toInt = x3.toInt + r.toInt := by rw [la (by rw [i64]; omega) (by rw [i64]; omega), i64]
        have e2 := l_min (x3 + r.toInt64)
        rw [e1] at e2
        rw [hF1.row (g := 27) rfl]
        refine ih _ 1 _ κ1 hL ho1 hI1 (Or.inl ⟨by decide, by rw [e2]; omega, fun g M' v hp hv => ?_⟩)
        obtain ⟨m', hm'⟩ := hv
        rw [e2] at hm'
        refine b g M' v (k3.tr hp) ⟨m' + 1, Or.inr ⟨hx.in.1, ?_, Or.inl ⟨?_, ?_⟩⟩⟩
        · rw [cv g M' hp]; exact n2
        · rw [cv g M' hp]; exact hpos
        · rw [cv g M' hp]; exact hm'
      · exact absurd a h0
/-- an ARRAY or a RECORD counted -/
theorem ce_76 (hB : TB μ ζ) {x1 : Int32} (hd : 1 ≤ d) (hF : TF ζ ν) (hK : KI ζ η (ν.2.1 81)) (h82 : ν.2.1 82 = η) (tn : Nd ζ 0 t) (kt : ζ.2.1 20 t.toNatClampNeg = 28 ∨ ζ.2.1 20 t.toNatClampNeg = 29) (ft : f t.toNatClampNeg = 0) (hS : SKf ζ η f t)
    (rec : ∀ (y : Int32) (κ : MS), TF ζ κ → KI ζ η (κ.2.1 81) → κ.2.1 82 = η → Nd ζ 0 y → SKf ζ η (upd f t.toNatClampNeg 1) y → MC X W true d 393 [.ref P.1, .int y] P κ (fun r ν1 => ClR ζ η (upd f t.toNatClampNeg 1) y κ r ν1) (fun _ => False)) : ME X W true d 393 76 [(0, .ref P.1), (1, .int x1), (2, .int t)] [] P ν (fun r ν1 => ClT ζ η f t ν r ν1) T := by
  have h16 := hB.n16
  have tm : ∀ {κ : MS} {g : Nat}, TF ζ κ → rk g = true → rlen g = 16000 → MI t (κ.2.2 g) := fun hF h1 h2 => tn.mi hB hF h1 h2
  have r20 : ν.2.1 20 = ζ.2.1 20 := hF.row rfl
  have r22 : ν.2.1 22 = ζ.2.1 22 := hF.row rfl
  have r23 : ν.2.1 23 = ζ.2.1 23 := hF.row rfl
  have hI : CeI ζ η (upd f t.toNatClampNeg 1) ν ν := ⟨kf.rf, hK, KP.rf, fun _ _ => rfl⟩
  refine v_cellsOf_76 _ _ ⟨tm hF rfl rfl, fun m0 => ⟨tm hF rfl rfl, fun k28 => ?_, fun k28 => ⟨tm hF rfl rfl, tm hF rfl rfl, tm hF rfl rfl, ?_⟩⟩, fun m0 => ⟨tm hF rfl rfl, ?_⟩⟩
  · rw [r20] at k28
    have k29 := kt.resolve_left k28
    refine v_cellsOf_173 _ _ _ _ ⟨tm hF rfl rfl, fun h => absurd (by rw [r20]; exact k29) h, fun _ => ⟨tm hF rfl rfl, ?_⟩⟩
    rw [r22]
    obtain ⟨m, hm⟩ := nd_29 tn k29
    exact ce_196 hB hF h82 tn k29 ft m0 hS rec m _ 1 0 ν hm ⟨0, rfl⟩ hI (Or.inl ⟨by decide, ⟨by decide, by decide⟩, fun g M' v hp hv => hv⟩)
  · rw [r20] at k28
    have no29 : ¬ ζ.2.1 20 t.toNatClampNeg = 29 := fun h => by rw [k28] at h; exact absurd h (by decide)
    have gs : GSt ζ η t (ζ.2.1 24 t.toNatClampNeg) := Or.inr (Or.inl ⟨k28, rfl⟩)
    rw [hF.k24 (Or.inl rfl) (sfx_of k28 rfl), r22, r23]
    refine MC.mono (rec _ ν hF hK h82 (nd_28 tn k28) (sk_step hS tn gs)) (fun r κ h1 => ?_) (fun _ h => h)
    have hI1 := hI.step h1
    have hF1 : TF ζ κ := hF.kf hI1.1 rfl rfl
    obtain ⟨⟨-, -, k3, -⟩, ⟨r0, r1⟩, hr⟩ := h1
    have n2 : ¬ r = -2 := fun h => by rw [h] at r0; exact absurd r0 (by decide)
    have mt : κ.2.1 81 t.toNatClampNeg = -2 := by rw [hI1.2.2.2 _ (by rw [upd_at]; decide)]; exact m0
    have t81 : MI t (κ.2.2 81) := tm hF1 rfl rfl
    obtain ⟨n, en⟩ : ∃ n : Int64, n = (ζ.2.1 23 t.toNatClampNeg).toInt64 - (ζ.2.1 22 t.toNatClampNeg).toInt64 + 1 := ⟨_, rfl⟩
    have in' : n.toInt = arN ζ t := by rw [en]; exact l_n _ _
    have cv : ag ζ η → ∀ v : Int32, cvV ζ (upd (κ.2.1 81) t.toNatClampNeg v) (ζ.2.1 24 t.toNatClampNeg) = r := fun g v => by
      have e := (hr g).1
      rw [cv_keep (KP.put mt) (by rw [← e]; exact n2)]
      exact e.symm
    rw [← en]
    have tail : ∀ (x3 : Int64) (x5 : Int32), (x5 = 0 → ¬ (1 ≤ arN ζ t ∧ 0 ≤ r.toInt)) → (¬ x5 = 0 → (1 ≤ arN ζ t ∧ 0 ≤ r.toInt) ∧ x3 = n * r.toInt64) → ME X W true d 393 173 [(0, .ref P.1), (1, .int x1), (2, .int t), (3, .long (if (100000 : Int64) < x3 then 100000 else x3)), (5, .int x5)] [] P κ (fun r ν1 => ClT ζ η f t ν r ν1) T := fun x3 x5 h5 h5' => by
      refine v_cellsOf_173 _ _ _ _ ⟨tm hF1 rfl rfl, fun _ => ?_, fun h => absurd (by rw [← hF1.row (g := 20) rfl]; exact h) no29⟩
      refine v_cellsOf_196 _ _ _ _ _ ⟨fun _ => ⟨fun h0 => ⟨t81, t81, ?_⟩, fun h0 => ⟨t81, t81, ?_⟩⟩, fun h => absurd h (by decide)⟩
      · refine ce_end hI1 tn ft m0 ⟨by decide, by decide⟩ (fun g => ⟨⟨fun _ => ?_, fun h => absurd h no29⟩, fun g2 => ?_⟩)
        · rw [cv g, upd_at]
          exact ⟨n2, fun h => absurd h (h5 h0), fun _ => rfl⟩
        · exact absurd ⟨g2 t tn k28, (hr g).2 g2⟩ (h5 h0)
      · obtain ⟨⟨b1, b2⟩, b3⟩ := h5' h0
        have lo := (ζ.2.1 22 t.toNatClampNeg).le_toInt
        have hi := (ζ.2.1 23 t.toNatClampNeg).toInt_lt
        have ub : arN ζ t ≤ 4294967296 := by unfold arN; omega
        have p1 : arN ζ t * r.toInt ≤ 4294967296 * 100000 := Int.mul_le_mul ub r1 b2 (by decide)
        have p0 : 0 ≤ arN ζ t * r.toInt := Int.mul_nonneg (by omega) b2
        have e1 : x3.toInt = arN ζ t * r.toInt := by
          rw [b3, lm (by rw [in', i64]; omega) (by rw [in', i64]; omega), in', i64]
        have e2 := l_min x3
        rw [e1] at e2
        have e3 : (if (100000 : Int64) < x3 then 100000 else x3).toInt32.toInt = min (arN ζ t * r.toInt) 100000 := by
          rw [l32 (by rw [e2]; omega) (by rw [e2]; omega), e2]
        refine ce_end hI1 tn ft m0 ⟨by rw [e3]; omega, by rw [e3]; omega⟩ (fun g => ⟨⟨fun _ => ?_, fun h => absurd h no29⟩, fun g2 => by rw [e3]; omega⟩)
        rw [cv g, upd_at]
        exact ⟨n2, fun _ => e3, fun h => absurd ⟨b1, b2⟩ h⟩
    have one : (1 : Int64).toInt = 1 := rfl
    have bad : ¬ (1 ≤ arN ζ t ∧ 0 ≤ r.toInt) → ME X W true d 393 157 [(0, .ref P.1), (1, .int x1), (2, .int t), (3, .long 0), (5, .int 1), (6, .long n), (8, .int r)] [] P κ (fun r ν1 => ClT ζ η f t ν r ν1) T := fun h => v_cellsOf_157 _ _ _ _ _ _ (v_cellsOf_160 _ _ _ _ _ _ (tail _ 0 (fun _ => h) (fun h => absurd rfl h)))
    refine ⟨fun hlt => bad (fun h => ?_), fun hge => ⟨fun hneg => bad (fun h => by omega), fun hpos => v_cellsOf_160 _ _ _ _ _ _ (tail _ 1 (fun h => absurd h (by decide)) (fun _ => ⟨⟨?_, hpos⟩, rfl⟩))⟩⟩
    · have := lc_lt.mp hlt
      rw [in', one] at this; omega
    · have : ¬ n.toInt < (1 : Int64).toInt := fun h => by have := lc_lt.mpr h; omega
      rw [in', one] at this; omega
  · rcases hK t tn kt with h | ⟨h1, h2⟩
    · exact absurd h m0
    · exact ⟨⟨kf.rf, hK, KP.rf, fun _ _ => rfl⟩, h1, fun g => ⟨rfl, (h2 g).2⟩⟩
/-- NAMEs passed, then what they stand for -/
theorem ce_2 (hB : TB μ ζ) (hC : HoC μ ζ η) (hd : 1 ≤ d) (hF : TF ζ ν) (hK : KI ζ η (ν.2.1 81)) (h82 : ν.2.1 82 = η) (hS : SKf ζ η f x) (xn : Nd ζ 0 x)
    (rec : ∀ t : Int32, Nd ζ 0 t → ζ.2.1 20 t.toNatClampNeg = 28 ∨ ζ.2.1 20 t.toNatClampNeg = 29 → f t.toNatClampNeg = 0 → ∀ (y : Int32) (κ : MS), TF ζ κ → KI ζ η (κ.2.1 81) → κ.2.1 82 = η → Nd ζ 0 y → SKf ζ η (upd f t.toNatClampNeg 1) y → MC X W true d 393 [.ref P.1, .int y] P κ (fun r ν1 => ClR ζ η (upd f t.toNatClampNeg 1) y κ r ν1) (fun _ => False)) : ∀ (n i : Nat), (ζ.1 60).toInt.toNat - i ≤ n → AlG ζ η x i → Nd ζ 0 (sqT ζ x i) → ME X W true d 393 2 [(0, .ref P.1), (1, .int x), (2, .int (sqT ζ x i))] [] P ν (fun r ν1 => ClR ζ η f x ν r ν1) T := by
  have h16 := hB.n16
  have one : (1 : Int32).toInt = 1 := rfl
  have leaf : (ag ζ η → cvV ζ (ν.2.1 81) x = 1) → ClR ζ η f x ν 1 ν := fun h => ⟨⟨kf.rf, hK, KP.rf, fun _ _ => rfl⟩, ⟨by decide, by decide⟩, fun g => ⟨(h g).symm, fun _ => by decide⟩⟩
  have step : ∀ i, AlG ζ η x i → Nd ζ 0 (sqT ζ x i) → (AlG ζ η x (i + 1) → Nd ζ 0 (sqT ζ x (i + 1)) → ME X W true d 393 2 [(0, .ref P.1), (1, .int x), (2, .int (sqT ζ x (i + 1)))] [] P ν (fun r ν1 => ClR ζ η f x ν r ν1) T) → ME X W true d 393 2 [(0, .ref P.1), (1, .int x), (2, .int (sqT ζ x i))] [] P ν (fun r ν1 => ClR ζ η f x ν r ν1) T := fun i hA hn next => by
    have hle := al_lt hB hC hA
    have r20 : ν.2.1 20 = ζ.2.1 20 := hF.row rfl
    have tm : ∀ {g : Nat}, rk g = true → rlen g = 16000 → MI (sqT ζ x i) (ν.2.2 g) := fun h1 h2 => hn.mi hB hF h1 h2
    have big : ζ.2.1 20 (sqT ζ x i).toNatClampNeg = 28 ∨ ζ.2.1 20 (sqT ζ x i).toNatClampNeg = 29 → ME X W true d 393 76 [(0, .ref P.1), (1, .int x), (2, .int (sqT ζ x i))] [] P ν (fun r ν1 => ClR ζ η f x ν r ν1) T := fun kt => by
      have hS' : SKf ζ η f (sqT ζ x i) := fun s hs hf => by
        obtain ⟨n, hn⟩ := hS s hs hf
        exact ⟨n + i, by rw [show n + i + 1 = (n + 1) + i by omega]; exact gr_cat hn (al_gr hA)⟩
      have ft : f (sqT ζ x i).toNatClampNeg = 0 := Classical.byContradiction (fun h => by
        obtain ⟨n, hr⟩ := hS' _ hn h
        exact no_cy hB hC hn hr)
      refine ME.mono (ce_76 hB hd hF hK h82 hn kt ft hS' (rec _ hn kt ft)) (fun r ν1 h => ?_) (fun _ h => h)
      obtain ⟨a, b, c⟩ := h
      refine ⟨a, b, fun g => ⟨?_, (c g).2⟩⟩
      have e : rlV ζ x = sqT ζ x i := rl_end (fun j hj => (hA j hj).1) (by omega) (fun h => by rcases kt with k | k <;> (rw [k] at h; exact absurd h (by decide)))
      unfold cvV
      rw [e, if_pos kt]
      exact (c g).1
    refine v_cellsOf_2 _ _ ⟨tm rfl rfl, fun k20 => ⟨tm rfl rfl, fun k28 => big (Or.inl (by rw [← r20]; exact k28)), fun k28 => ⟨tm rfl rfl, fun k29 => big (Or.inr (by rw [← r20]; exact k29)), fun k29 => leaf (fun _ => ?_)⟩⟩, fun k20 => ?_⟩
    · rw [r20] at k20 k28 k29
      have e : rlV ζ x = sqT ζ x i := rl_end (fun j hj => (hA j hj).1) (by omega) k20
      unfold cvV
      rw [e, if_neg (fun h => h.elim k28 k29)]
    · rw [r20] at k20
      refine MC.mono (c_dcl hB hF hd hn k20) (fun r κ hκ => ?_) (fun _ h => h)
      obtain ⟨e1, e2⟩ := hκ
      have e1 := e1.symm
      subst e1
      have hk := hB.dcl hn k20
      rw [← e2] at hk
      refine ⟨hk.mi hB hF rfl rfl, fun k4 => ⟨hk.mi hB hF rfl rfl, fun hz => ⟨hk.mi hB hF rfl rfl, ?_⟩, fun hz => ?_⟩, fun k4 => leaf (fun _ => ?_)⟩
      · rw [r20] at k4
        rw [h82] at hz
        rw [hF.row (g := 23) rfl, e2]
        rw [e2] at hk k4 hz
        refine next (fun j hj => ?_) hk.2.2.2.1
        by_cases c : j < i
        · exact hA j c
        · rw [show j = i by omega]
          exact ⟨⟨hn, k20, hk.2.1.resolve_right k4⟩, hz⟩
      · rw [h82] at hz
        refine ⟨⟨kf.rf, hK, KP.rf, fun _ _ => rfl⟩, ⟨by decide, by decide⟩, fun g => absurd (g _ ?_) hz⟩
        have := hk.2.2.1
        have := @ic r
        omega
      · rw [r20, e2] at k4
        have e : rlV ζ x = dcl ζ (sqT ζ x i) := rl_op (fun j hj => (hA j hj).1) (by omega) k20 k4
        unfold cvV
        rw [e, if_neg (fun h => by rw [k4] at h; rcases h with h | h <;> exact absurd h (by decide))]
  intro n
  induction n with
  | zero =>
    intro i hi hA hn
    exact step i hA hn (fun hA' _ => by have := al_lt hB hC hA'; omega)
  | succ n ih =>
    intro i hi hA hn
    exact step i hA hn (fun hA' hn' => ih (i + 1) (by omega) hA' hn')
theorem ce_main (hB : TB μ ζ) (hC : HoC μ ζ η) : ∀ (K d : Nat), K + 2 ≤ d → ∀ (x : Int32) (f : Nat → Int32) (ν : MS) (T : MS → Prop), TF ζ ν → KI ζ η (ν.2.1 81) → ν.2.1 82 = η → Nd ζ 0 x → cz (pA ζ) f (ζ.1 19).toInt.toNat ≤ K → SKf ζ η f x → MC X W true d 393 [.ref P.1, .int x] P ν (fun r ν1 => ClR ζ η f x ν r ν1) T := by
  have mark : ∀ (t : Int32) (f : Nat → Int32), Nd ζ 0 t → ζ.2.1 20 t.toNatClampNeg = 28 ∨ ζ.2.1 20 t.toNatClampNeg = 29 → f t.toNatClampNeg = 0 → cz (pA ζ) (upd f t.toNatClampNeg 1) (ζ.1 19).toInt.toNat + 1 ≤ cz (pA ζ) f (ζ.1 19).toInt.toNat := fun t f hn kt hf => by
    have hi := hn.in
    have ci := @ic t
    refine cz_mark (by decide) ?_ hf (by omega)
    unfold pA
    rcases kt with k | k <;> (rw [k]; rfl)
  intro K
  induction K with
  | zero =>
    intro d hd x f ν T hF hK h82 hn hz hS
    exact me_meth (by omega) rfl (v_cellsOf_0 _ (ce_2 hB hC (by omega) hF hK h82 hS hn (fun t tn kt ft => by have := mark t f tn kt ft; omega) _ 0 (Nat.le_refl _) (fun j hj => by omega) hn))
  | succ K ih =>
    intro d hd x f ν T hF hK h82 hn hz hS
    exact me_meth (by omega) rfl (v_cellsOf_0 _ (ce_2 hB hC (by omega) hF hK h82 hS hn (fun t tn kt ft y κ h1 h2 h3 h4 h5 => ih (d - 1) (by omega) y _ κ _ h1 h2 h3 h4 (by have := mark t f tn kt ft; omega) h5) _ 0 (Nat.le_refl _) (fun j hj => by omega) hn))
/-- what cellsOf answers, nothing being counted -/
def CsR (ζ : MS) (η : Nat → Int32) (x : Int32) (ν0 : MS) (r : Int32) (ν1 : MS) : Prop := (kf [] [81] ν0 ν1 ∧ KI ζ η (ν1.2.1 81) ∧ KP (ν0.2.1 81) (ν1.2.1 81)) ∧ (-1 ≤ r.toInt ∧ r.toInt ≤ 100000) ∧ (ag ζ η → r = cvV ζ (ν1.2.1 81) x ∧ (bg ζ → 0 ≤ r.toInt))
theorem c_cellsOf (hB : TB μ ζ) (hY : TY μ ζ) (hC : HoC μ ζ η) (hF : TF ζ ν) (hK : KI ζ η (ν.2.1 81)) (h82 : ν.2.1 82 = η) (hn : Nd ζ 0 x) (hd : 1252 ≤ d) : MC X W true d 393 [.ref P.1, .int x] P ν (fun r ν1 => CsR ζ η x ν r ν1) T :=
  MC.mono (ce_main hB hC 1250 d hd x (fun _ => 0) ν T hF hK h82 hn hY.2.1 (fun s _ h => absurd rfl h)) (fun _ _ h => ⟨⟨h.1.1, h.1.2.1, h.1.2.2.1⟩, h.2⟩) (fun _ h => h)
end NNAQ
