/-! contracts of the reference: typeDeclaration -/
/-- variables that a declaration makes -/
def DvV (ζ : MS) (e : Int32) (v : Int32) : Prop := ζ.2.1 20 e.toNatClampNeg = 7 ∧ RwV ζ (ζ.2.1 22 e.toNatClampNeg) v
section NNAV
variable {X : ev_X} {W : Nat → Prop} {d : Nat} {P : MP} {μ ν ν0 ν1 κ ζ : MS} {T : MS → Prop} {x y z s t q r e u l o : Int32} {ρ ω η M M' : Nat → Int32} {w c : Nat} {V V' : Int32 → Prop}
theorem TB.nm (hB : TB μ ζ) (hd : DcO μ w e) (ek : ζ.2.1 20 e.toNatClampNeg = 7) : ∃ m, Lst (fun y => 0 ≤ y.toInt ∧ y.toInt < (ζ.1 19).toInt) (ζ.2.1 27) m (ζ.2.1 22 e.toNatClampNeg) := by
  obtain ⟨hw, m, ho, d0⟩ := hd
  have hg := hB.g hw
  obtain ⟨hP, hR, hz⟩ := hB
  have r20 : ζ.2.1 20 = μ.2.1 20 := hR.1.2.1 20 rfl
  have r27 : ζ.2.1 27 = μ.2.1 27 := hR.1.2.1 27 rfl
  obtain ⟨⟨c, hc⟩, -⟩ := hR.2.2.2.2.2 hz
  obtain ⟨-, -, f2, -⟩ := hc w hw
  have f2' : μ.2.1 20 (μ.2.1 42 w).toNatClampNeg = 1 := by rw [← r20]; exact f2
  have r24 : ζ.2.1 24 (μ.2.1 42 w).toNatClampNeg = μ.2.1 24 (μ.2.1 42 w).toNatClampNeg := (hR.2.2.1 2 _ (by omega)).resolve_right (fun h => by rw [f2'] at h; exact absurd h.1 (by decide))
  obtain ⟨g1, g2, g3, g4⟩ := hg
  have gl := g4 2 (by omega)
  rw [f2] at gl
  obtain ⟨m2, gl⟩ : ∃ m2, Lst (G ζ 399 (fun j => (j : Int) < (ζ.1 19).toInt ∧ j ≠ (μ.2.1 42 w).toNatClampNeg) 4) (ζ.2.1 27) m2 (ζ.2.1 24 (μ.2.1 42 w).toNatClampNeg) := gl
  rw [r27, r24] at gl
  have hG := Lst.onl d0 gl ho
  obtain ⟨y1, y2, y3, y4⟩ := hG
  have y5 := y4 0 (by omega)
  rw [ek] at y5
  obtain ⟨-, m3, y6⟩ : ¬ ζ.2.1 (22 + 0) e.toNatClampNeg = -1 ∧ ∃ m, Lst (G ζ 398 (fun j => ((j : Int) < (ζ.1 19).toInt ∧ j ≠ (μ.2.1 42 w).toNatClampNeg) ∧ j ≠ e.toNatClampNeg) 6) (ζ.2.1 27) m (ζ.2.1 (22 + 0) e.toNatClampNeg) := y5
  exact ⟨m3, y6.mono (fun y hy => ⟨hy.in.1, by have := hy.in.2.1.1; have := @ic y; have := hy.in.1; omega⟩) (fun _ _ => rfl)⟩
/-- what typeDeclaration answers -/
def TdR (ζ : MS) (ρ ω η : Nat → Int32) (e : Int32) (V : Int32 → Prop) (κ ν1 : MS) : Prop := D2 ζ ρ ω η κ ν1 ∧ U83 ν1 ∧ (ν1.1 17 = 0 → UvC ζ ν1 (fun v => V v ∨ DvV ζ e v) ∧ DcC ζ ρ e)
theorem td_q (hU : U83 κ) (hV : κ.1 17 = 0 → UvC ζ κ V) (h : Q2 ζ ρ ω η κ ν1) (h7 : ¬ ζ.2.1 20 e.toNatClampNeg = 7) (hD : ν1.1 17 = 0 → DcC ζ ρ e) : TdR ζ ρ ω η e V κ ν1 := by
  have e83 : ν1.1 83 = κ.1 83 := h.2.2.1 83 rfl
  have b : ν1.1 17 = 0 → κ.1 17 = 0 := fun h17 => Classical.byContradiction (fun g => h.2.1 g h17)
  refine ⟨h.d2, ?_, fun h17 => ⟨((hV (b h17)).keep (h.2.2.2.1 55 rfl) e83 (by rw [h.2.2.2.1 81 rfl]; exact KP.rf)).sub (fun v hv => hv.resolve_right (fun g => h7 g.1)), hD h17⟩⟩
  unfold U83
  rw [e83]
  exact ⟨hU.1, fun h17 => hU.2 (b h17)⟩
theorem dcc_no (h4 : ¬ ζ.2.1 20 e.toNatClampNeg = 4) (h9 : ¬ ζ.2.1 20 e.toNatClampNeg = 9) : DcC ζ ρ e := ⟨fun h => absurd h h4, fun h => absurd h h9⟩
theorem c_typeDecl (hZ : TZ μ ζ) (hY : TY μ ζ) (hC : HoC μ ζ η) (hA : ν.1 17 = 0 → ag ζ η ∧ bg ζ) (hR : RvO μ ζ ρ) (hd : 1254 ≤ d) (he : DcO μ w e) (hD : D2 ζ ρ ω η ν κ) (hU : U83 κ) (hV : κ.1 17 = 0 → UvC ζ κ V) : MC X W true d 400 [.ref P.1, .int e] P κ (fun _ ν1 => TdR ζ ρ ω η e V κ ν1) T := by
  have hB := hZ.1
  have h16 := hB.n16
  have hP := hD.1
  have hF := hP.1.1
  have dcn := hB.dc he
  have em : ∀ {κ : MS} {g : Nat}, TF ζ κ → rk g = true → rlen g = 16000 → MI e (κ.2.2 g) := fun hF hg hr => MI.of ((hF.1.2.2).g hg hr) dcn.1.1 (by have := dcn.1.2; omega)
  have r20 : κ.2.1 20 = ζ.2.1 20 := hF.row rfl
  have r22 : κ.2.1 22 = ζ.2.1 22 := hF.row rfl
  have r57 : κ.2.1 57 = ζ.2.1 57 := hF.row rfl
  have r58 : κ.2.1 58 = ζ.2.1 58 := hF.row rfl
  refine me_meth (by omega) rfl (v_typeDeclaration_0 _ ⟨em hF rfl rfl, fun k => ?_, fun k => ?_, fun k => ?_, fun k => ?_, fun k => ?_⟩)
  · rw [r20] at k
    have n7 : ¬ ζ.2.1 20 e.toNatClampNeg = 7 := fun h => by rw [k] at h; exact absurd h (by decide)
    have n9 : ¬ ζ.2.1 20 e.toNatClampNeg = 9 := fun h => by rw [k] at h; exact absurd h (by decide)
    have hk : Dk μ ζ e := by
      obtain ⟨j, hj⟩ := hY.2.2.2.2 e ⟨w, he⟩ (Or.inr k)
      exact ⟨⟨w, he⟩, Or.inr k, dcn.1, dcn.2.2.1 (fun h => by rw [k] at h; exact absurd h (by decide)) n9, j, hj⟩
    have tail : ∀ κ2, Q2 ζ ρ ω η κ κ2 → (κ2.1 17 = 0 → 0 ≤ (ρ e.toNatClampNeg).toInt) → ME X W true (d - 1) 400 156 [(0, .ref P.1), (1, .int e)] [] P κ2 (fun _ ν1 => TdR ζ ρ ω η e V κ ν1) T := fun κ2 h2 hr => by
      refine v_typeDeclaration_156 _ (MC.mono (c_tells hZ h2.1 hR (by omega) he (Or.inl k) (Or.inr hk)) (fun _ κ3 h3 => v_typeDeclaration_321 _ (td_q hU hV (h2.tr h3) n7 (fun h17 => ⟨fun _ => hr (Classical.byContradiction (fun g => h3.2.1 g h17)), fun h => absurd h n9⟩))) (fun _ h => h))
    refine ⟨em hF rfl rfl, fun h0 => tail κ (Q2.rf hP) (fun _ => by rw [hP.2.1.1] at h0; exact h0), fun h0 => ⟨em hF rfl rfl, MC.mono (q2_rule (Q2.rf hP) (by omega) (by decide)) (fun _ κ2 h2 => tail κ2 h2.1 (fun h => absurd h h2.2)) (fun _ h => h)⟩⟩
  · rw [r20] at k
    have n7 : ¬ ζ.2.1 20 e.toNatClampNeg = 7 := fun h => by rw [k] at h; exact absurd h (by decide)
    have dcc : DcC ζ ρ e := dcc_no (fun h => by rw [k] at h; exact absurd h (by decide)) (fun h => by rw [k] at h; exact absurd h (by decide))
    have fin : ∀ κ2, Q2 ζ ρ ω η κ κ2 → ME X W true (d - 1) 400 321 [(0, .ref P.1), (1, .int e)] [] P κ2 (fun _ ν1 => TdR ζ ρ ω η e V κ ν1) T := fun κ2 h2 => v_typeDeclaration_321 _ (td_q hU hV h2 n7 (fun _ => dcc))
    refine MC.mono (c_opaqueOf hB hF (by omega) he (Or.inl k)) (fun r2 κ2 h2 => ?_) (fun _ h => h)
    obtain ⟨e2, -, ho⟩ := h2
    have e2 := e2.symm
    subst e2
    refine ⟨fun _ => ⟨em hF rfl rfl, ?_⟩, fun h0 => MC.mono (c_tells hZ hP hR (by omega) he (Or.inr k) (ho.resolve_left (fun h => by rw [h] at h0; exact absurd h0 (by decide))).1) (fun _ κ3 h3 => fin κ3 h3) (fun _ h => h)⟩
    rw [hF.row (g := 23) rfl]
    refine MC.mono (c_real hB hF (by omega) (dcn.2.2.1 (fun h => by rw [k] at h; exact absurd h (by decide)) (fun h => by rw [k] at h; exact absurd h (by decide)))) (fun r3 κ3 h3 => ?_) (fun _ h => h)
    obtain ⟨e3, -, t3⟩ := h3
    have e3 := e3.symm
    subst e3
    refine MC.mono (c_isObject hF (by omega) (t3.mi hB hF rfl rfl)) (fun r4 κ4 h4 => ?_) (fun _ h => h)
    have e4 := h4.1.symm
    subst e4
    exact ⟨fun _ => fin κ (Q2.rf hP), fun _ => ⟨em hF rfl rfl, MC.mono (q2_rule (Q2.rf hP) (by omega) (by decide)) (fun _ κ2 h2 => fin κ2 h2.1) (fun _ h => h)⟩⟩
  · rw [r20] at k
    have n4 : ¬ ζ.2.1 20 e.toNatClampNeg = 4 := fun h => by rw [k] at h; exact absurd h (by decide)
    have n9 : ¬ ζ.2.1 20 e.toNatClampNeg = 9 := fun h => by rw [k] at h; exact absurd h (by decide)
    refine ⟨em hF rfl rfl, ?_⟩
    rw [r22]
    obtain ⟨lo, hi, -, -, dv⟩ := hB.de he
    obtain ⟨c0, c1, m, -, hw⟩ := dv k
    obtain ⟨m2, hm2⟩ := hB.nm he k
    refine ME.mono (td_51 hZ hY hC hA (by omega) he k m _ κ V (hw.ls.mono (fun y ⟨lo, hi, _, h⟩ => ⟨lo, hi, h⟩) (fun _ _ => rfl)) (fun y ⟨i, hi⟩ h0 => (Lst.onl h0 hm2 hi).2) hD hU hV) (fun _ ν1 h => ⟨h.1, h.2.1, fun h17 => ⟨(h.2.2 h17).sub (fun v hv => hv.imp id (fun g => g.2)), dcc_no n4 n9⟩⟩) (fun _ h => h)
  · rw [r20] at k
    have n4 : ¬ ζ.2.1 20 e.toNatClampNeg = 4 := fun h => by rw [k] at h; exact absurd h (by decide)
    have n7 : ¬ ζ.2.1 20 e.toNatClampNeg = 7 := fun h => by rw [k] at h; exact absurd h (by decide)
    obtain ⟨lo, hi, -, dp, -⟩ := hB.de he
    obtain ⟨p1, p2⟩ := dp k
    obtain ⟨p, ep⟩ : ∃ p, p = ζ.2.1 28 e.toNatClampNeg := ⟨_, rfl⟩
    rw [← ep] at p1 p2
    have e28 : κ.2.1 28 e.toNatClampNeg = p := by
      rw [ep]
      exact hF.k28 k (by decide)
    have hb := hB.2.1.2.2.2.1.2.1
    have h43 := hB.2.1.2.1.1.2.1.1
    obtain ⟨-, -, hPr, -⟩ := hB.2.1.2.2.2.2.2 hB.2.2
    have cp := @ic p
    have hpr := hPr p.toNatClampNeg (by omega) (by omega)
    obtain ⟨⟨⟨w', hw'⟩, k9⟩, -⟩ := hpr
    have r20μ : ζ.2.1 20 = μ.2.1 20 := hB.2.1.1.2.1 20 rfl
    rw [← r20μ] at k9
    have dcp := hB.dc hw'
    have sp := dcp.2.2.2.2 k9
    have se := dcn.2.2.2.2 k
    have pm : ∀ {κ : MS} {g : Nat}, TF ζ κ → rk g = true → rlen g = 3200 → MI p (κ.2.2 g) := fun hF hg hr => MI.of ((hF.1.2.2).g hg hr) (by omega) (by have := hZ.2.2.2.2.2; omega)
    have fin : ∀ κ2, Q2 ζ ρ ω η κ κ2 → (κ2.1 17 = 0 → DcC ζ ρ e) → ME X W true (d - 1) 400 321 [(0, .ref P.1), (1, .int e)] [] P κ2 (fun _ ν1 => TdR ζ ρ ω η e V κ ν1) T := fun κ2 h2 hc => v_typeDeclaration_321 _ (td_q hU hV h2 n7 hc)
    have tail : ∀ κ2, Q2 ζ ρ ω η κ κ2 → (κ2.1 17 = 0 → (ζ.2.1 26 e.toNatClampNeg).toInt < 0 → 0 ≤ (ζ.2.1 58 p.toNatClampNeg).toInt) → ME X W true (d - 1) 400 253 [(0, .ref P.1), (1, .int e), (2, .int p)] [] P κ2 (fun _ ν1 => TdR ζ ρ ω η e V κ ν1) T := fun κ2 h2 hc => by
      have hF2 := h2.1.1.1
      refine v_typeDeclaration_253 _ _ ⟨em hF2 rfl rfl, fun hlt => v_typeDeclaration_276 _ _ (v_typeDeclaration_278 _ _ _ ⟨fun _ => fin κ2 h2 (fun h17 => ⟨fun h => absurd h n4, fun _ => ⟨fun h => by rw [← ep]; exact hc h17 h, fun h => ?_⟩⟩), fun h => absurd rfl h⟩), fun hge => ⟨pm hF2 rfl rfl, fun heq => v_typeDeclaration_276 _ _ (v_typeDeclaration_278 _ _ _ ⟨fun _ => fin κ2 h2 (fun h17 => ⟨fun h => absurd h n4, fun _ => ⟨fun h => by rw [← ep]; exact hc h17 h, fun _ => Or.inl ?_⟩⟩), fun h => absurd rfl h⟩), fun hne => v_typeDeclaration_278 _ _ _ ⟨fun h => absurd h (by decide), fun _ => ⟨pm hF2 rfl rfl, ?_, em hF2 rfl rfl, ?_⟩⟩⟩⟩
      · rw [hF2.k24 (Or.inr (Or.inr rfl)) (sfx_of k rfl)] at hlt; omega
      · rw [hF2.row (g := 57) rfl] at heq
        rw [← ep]; exact heq
      · rw [hF2.row (g := 57) rfl]; exact MI.of ((hF2.1.2.2).g rfl rfl : _ = 16000) dcp.1.1 (by have := dcp.1.2; omega)
      · rw [hF2.row (g := 57) rfl, hF2.row (g := 23) rfl]
        refine MC.mono (c_alikeSig hZ h2.1 (by omega) sp se) (fun r1 κ3 h3 => ?_) (fun _ h => h)
        obtain ⟨q3, -, hs⟩ := h3
        refine ⟨fun hr => fin κ3 (h2.tr q3) (fun h17 => ⟨fun h => absurd h n4, fun _ => ⟨fun h => ?_, fun _ => Or.inr ?_⟩⟩), fun hr => ⟨em q3.1.1.1 rfl rfl, MC.mono (q2_rule (Q2.rf q3.1) (by omega) (by decide)) (fun _ κ4 h4 => fin κ4 (h2.tr (q3.tr h4.1)) (fun h => absurd h h4.2)) (fun _ h => h)⟩⟩
        · rw [← ep]; exact hc (Classical.byContradiction (fun g => q3.2.1 g h17)) h
        · rw [← ep]; exact hs hr
    refine ⟨em hF rfl rfl, em hF rfl rfl, fun hge => ?_, fun hlt => ⟨?_, fun h0 => ?_, fun h0 => ⟨em hF rfl rfl, ?_⟩⟩⟩
    · rw [e28]
      rw [hF.k24 (Or.inr (Or.inr rfl)) (sfx_of k rfl)] at hge
      exact tail κ (Q2.rf hP) (fun _ h => by omega)
    · rw [e28]; exact pm hF rfl rfl
    · rw [e28] at h0 ⊢
      rw [r58] at h0
      exact tail κ (Q2.rf hP) (fun _ _ => h0)
    · rw [e28]
      exact MC.mono (q2_rule (Q2.rf hP) (by omega) (by decide)) (fun _ κ2 h2 => tail κ2 h2.1 (fun h => absurd h h2.2)) (fun _ h => h)
  · rw [r20] at k
    exact v_typeDeclaration_321 _ (td_q hU hV (Q2.rf hP) (k 7 (by decide)) (fun _ => dcc_no (k 4 (by decide)) (k 9 (by decide))))
end NNAV
