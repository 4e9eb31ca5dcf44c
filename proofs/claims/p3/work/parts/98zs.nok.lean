/-! contracts of the reference: what REVEALs tell; SIGNATUREs alike; PROCEDUREs that fit METHODs -/
abbrev Q2s : List Nat := [17, 18, 67, 69, 74, 76, 77, 80]
abbrev Q2r : List Nat := [66, 68, 70, 71, 75, 78, 79]
/-- looked up, nothing of it kept but a FAULT -/
def Q2 (ζ : MS) (ρ ω η : Nat → Int32) (ν0 ν1 : MS) : Prop := P2 ζ ρ ω η ν1 ∧ FM ν0 ν1 ∧ kf Q2s Q2r ν0 ν1
/-- the SIGNATURE that a QNAME of a PROCEDURE means -/
def sgV (ζ : MS) (q : Int32) : Int32 := ζ.2.1 23 (ζ.2.1 46 (ζ.2.1 28 q.toNatClampNeg).toNatClampNeg).toNatClampNeg
/-- a PROCEDURE fits a METHOD -/
def FtR (μ ζ : MS) (ρ : Nat → Int32) (own q m : Int32) : Prop := (0 ≤ (ζ.2.1 22 (sgV ζ q).toNatClampNeg).toInt ∧ ¬ ζ.2.1 24 (ζ.2.1 22 (sgV ζ q).toNatClampNeg).toNatClampNeg = 1) ∧ BlR μ ζ ρ (rlV ζ own) (rlV ζ (ζ.2.1 23 (ζ.2.1 22 (sgV ζ q).toNatClampNeg).toNatClampNeg)) ∧ SgR ζ (Alk ζ) (sgV ζ q) m (ζ.2.1 27 (ζ.2.1 22 (sgV ζ q).toNatClampNeg).toNatClampNeg) (ζ.2.1 22 m.toNatClampNeg)
section NNAS
variable {X : ev_X} {W : Nat → Prop} {d : Nat} {P : MP} {μ ν ν0 ν1 κ ζ : MS} {T : MS → Prop} {x y z s t q r e u : Int32} {ρ ω η M M' : Nat → Int32} {w c : Nat}
theorem P2.al {s r : List Nat} (h : P2 ζ ρ ω η ν) (hF : TF ζ ν1) (hK : JK ζ ν1) (k : kf s r ν ν1) (h72 : r.contains 72 = false) (h73 : r.contains 73 = false) (h82 : r.contains 82 = false) (h81 : r.contains 81 = false) : P2 ζ ρ ω η ν1 := by
  obtain ⟨-, a3, a4⟩ := h
  unfold P2
  rw [k.2.1 72 h72, k.2.1 73 h73, k.2.1 82 h82, k.2.1 81 h81]
  exact ⟨⟨hF, hK⟩, a3, a4⟩
theorem fm_kf {s r : List Nat} (k : kf s r ν ν1) (h : s.contains 17 = false) : FM ν ν1 := fun g => by rw [k.1 17 h]; exact g
theorem Q2.rf (h : P2 ζ ρ ω η ν) : Q2 ζ ρ ω η ν ν := ⟨h, fun g => g, kf.rf⟩
theorem Q2.tr (h : Q2 ζ ρ ω η ν0 ν) (g : Q2 ζ ρ ω η ν ν1) : Q2 ζ ρ ω η ν0 ν1 := ⟨g.1, fun a => g.2.1 (h.2.1 a), h.2.2.tr g.2.2⟩
theorem q2_flt (h : P2 ζ ρ ω η ν) (k : kf [17, 18] [] ν ν1) (hf : ¬ ν1.1 17 = 0) : Q2 ζ ρ ω η ν ν1 := ⟨h.rule k hf, fun _ => hf, k.up rfl rfl⟩
/-- a rule broken, from such a state -/
theorem q2_rule {k l : Int32} (h : Q2 ζ ρ ω η ν0 ν) (hd : 1 ≤ d) (hk : ¬ k = 0) : MC X W true d 290 [.ref P.1, .int k, .int l] P ν (fun _ ν1 => Q2 ζ ρ ω η ν0 ν1 ∧ ¬ ν1.1 17 = 0) T :=
  MC.mono (c_ruF hd hk) (fun _ _ g => ⟨h.tr (q2_flt h.1 g.1 g.2), g.2⟩) (fun _ h => h)
theorem c_tells (hZ : TZ μ ζ) (hP : P2 ζ ρ ω η ν) (hR : RvO μ ζ ρ) (hd : 10 ≤ d) (he : DcO μ w e) (ek : ζ.2.1 20 e.toNatClampNeg = 4 ∨ ζ.2.1 20 e.toNatClampNeg = 5) (ht : RT μ ζ t) : MC X W true d 402 [.ref P.1, .int e, .int t] P ν (fun _ ν1 => Q2 ζ ρ ω η ν ν1) T := by
  have hB := hZ.1
  have hF := hP.1.1
  have dcn := hB.dc he
  have hn : Nd ζ 0 (ζ.2.1 23 e.toNatClampNeg) := dcn.2.2.1 (fun h => by rcases ek with g | g <;> (rw [g] at h; exact absurd h (by decide))) (fun h => by rcases ek with g | g <;> (rw [g] at h; exact absurd h (by decide)))
  have em : ∀ {κ : MS} {g : Nat}, TF ζ κ → rk g = true → rlen g = 16000 → MI e (κ.2.2 g) := fun hF hg hr => MI.of ((hF.1.2.2).g hg hr) dcn.1.1 (by have := dcn.1.2; have := hB.n16; omega)
  refine me_meth (by omega) rfl (v_tells_0 _ _ ⟨em hF rfl rfl, ?_⟩)
  rw [hF.row (g := 23) rfl]
  refine MC.mono (c_real hB hF (by omega) hn) (fun r1 κ hκ => ?_) (fun _ h => h)
  obtain ⟨e1, -, t1⟩ := hκ
  have e1 := e1.symm
  subst e1
  refine MC.mono (c_isObject hF (by omega) (t1.mi hB hF rfl rfl)) (fun r2 κ hκ => ?_) (fun _ h => h)
  have e1 := hκ.1.symm
  subst e1
  refine ⟨fun _ => ⟨em hF rfl rfl, MC.mono (q2_rule (Q2.rf hP) (by omega) (by decide)) (fun _ _ h => h.1) (fun _ h => h)⟩, fun _ => MC.mono (c_placeIn hZ hF hP.1.2 hP.2.1.1 hR (by omega) ht t1.tq) (fun r4 κ hκ => ?_) (fun _ h => h)⟩
  obtain ⟨⟨a1, a2, a3⟩, -⟩ := hκ
  have hQ : Q2 ζ ρ ω η ν κ := ⟨hP.al a1 a2 a3 rfl rfl rfl rfl, fm_kf a3 rfl, a3.up rfl rfl⟩
  exact ⟨fun _ => hQ, fun _ => ⟨em a1 rfl rfl, MC.mono (q2_rule hQ (by omega) (by decide)) (fun _ _ h => h.1) (fun _ h => h)⟩⟩
theorem c_alikeSig (hZ : TZ μ ζ) (hP : P2 ζ ρ ω η ν) (hd : 9 ≤ d) (hs : Nd ζ 8 s) (ht : Nd ζ 8 t) : MC X W true d 401 [.ref P.1, .int s, .int t] P ν (fun r ν1 => Q2 ζ ρ ω η ν ν1 ∧ (r = 0 ∨ r = 1) ∧ (¬ r = 0 → SgR ζ (Alk ζ) s t (ζ.2.1 22 s.toNatClampNeg) (ζ.2.1 22 t.toNatClampNeg))) T := by
  have hB := hZ.1
  have hF := hP.1.1
  refine me_meth (by omega) rfl (v_alikeSignatures_0 _ _ (MC.mono (c_sameSets hB hF (by omega) hs ht) (fun r1 κ hκ => ?_) (fun _ h => h)))
  have e1 := hκ.1.symm
  subst e1
  refine ⟨fun _ => ⟨Q2.rf hP, Or.inl rfl, fun h => absurd rfl h⟩, fun _ => ⟨hs.mi hB hF rfl rfl, ht.mi hB hF rfl rfl, ?_⟩⟩
  rw [hF.row (g := 22) rfl]
  obtain ⟨n, hx⟩ := sg_fo hs
  obtain ⟨m, hy⟩ := sg_fo ht
  obtain ⟨pw, fw, hfw, -⟩ := hZ.2.1
  obtain ⟨f1, f2⟩ := hfw _ ht
  have f2 := f2 m
  refine MC.mono (c_alikeFrom hZ hF hP.1.2 (by omega) hs ht hx hy (by omega)) (fun r2 κ hκ => ?_) (fun _ h => h)
  obtain ⟨-, a1, a2, a3, a4⟩ := hκ
  have hQ : Q2 ζ ρ ω η ν κ := ⟨hP.al a1 a2 a3 rfl rfl rfl rfl, fm_kf a3 rfl, a3.up rfl rfl⟩
  exact ⟨fun _ => ⟨hQ, Or.inl rfl, fun h => absurd rfl h⟩, fun hr => ⟨hQ, Or.inr rfl, fun _ => a4 hr⟩⟩
/-- the symbol that a QNAME of a PROCEDURE means -/
theorem qk_9 (hB : TB μ ζ) (hq : QK ζ q 9 9) : (∃ w, DcO μ w (ζ.2.1 46 (ζ.2.1 28 q.toNatClampNeg).toNatClampNeg)) ∧ ζ.2.1 20 (ζ.2.1 46 (ζ.2.1 28 q.toNatClampNeg).toNatClampNeg).toNatClampNeg = 9 ∧ 1 ≤ (ζ.2.1 47 (ζ.2.1 28 q.toNatClampNeg).toNatClampNeg).toInt ∧ (ζ.2.1 47 (ζ.2.1 28 q.toNatClampNeg).toNatClampNeg).toInt ≤ (ζ.1 56).toInt := by
  obtain ⟨-, q2, q3, q4, -⟩ := hq
  have hc := @ic (ζ.2.1 28 q.toNatClampNeg)
  have hB2 := hB
  obtain ⟨-, hR, hz⟩ := hB2
  obtain ⟨-, hSy, -⟩ := hR.2.2.2.2.2 hz
  have r20 : ζ.2.1 20 = μ.2.1 20 := hR.1.2.1 20 rfl
  have k9 : ζ.2.1 45 (ζ.2.1 28 q.toNatClampNeg).toNatClampNeg = 9 := q4.elim id id
  rcases hSy (ζ.2.1 28 q.toNatClampNeg).toNatClampNeg (by omega) with e | e | ⟨e, -⟩ | ⟨e, -⟩ | ⟨-, h1, h2, h3⟩
  · rw [k9] at e; exact absurd e (by decide)
  · rw [k9] at e; exact absurd e (by decide)
  · rw [k9] at e; rcases e with e | e <;> exact absurd e (by decide)
  · rw [k9] at e; exact absurd e (by decide)
  · exact ⟨h1, by rw [r20]; exact h2, h3⟩
theorem c_fits (hZ : TZ μ ζ) (hP : P2 ζ ρ ω η ν) (hR : RvO μ ζ ρ) (hd : 14 ≤ d) (hu : 0 ≤ u.toInt ∧ u.toInt < (μ.1 41).toInt) (ho : RT μ ζ x) (qn : Nd ζ 7 q) (hq : QK ζ q 9 9) (hm : Nd ζ 8 s) : MC X W true d 405 [.ref P.1, .int u, .int x, .int q, .int s] P ν (fun r ν1 => Q2 ζ ρ ω η ν ν1 ∧ (r = 0 ∨ r = 1) ∧ (¬ r = 0 → FtR μ ζ ρ x q s)) T := by
  have hB := hZ.1
  have hF := hP.1.1
  have hL := hF.1.2.2
  have h16 := hB.n16
  have hU := hB.2.1.2.1.1.2.1.1
  obtain ⟨⟨w, hw⟩, k9, -, -⟩ := qk_9 hB hq
  have dcn := hB.dc hw
  have sn : Nd ζ 8 (sgV ζ q) := dcn.2.2.2.2 k9
  obtain ⟨-, q2, q3, -, q5⟩ := hq
  have e28 : ν.2.1 28 q.toNatClampNeg = ζ.2.1 28 q.toNatClampNeg := by
    exact hF.k28 q5 (by decide)
  have r22 : ν.2.1 22 = ζ.2.1 22 := hF.row rfl
  have r23 : ν.2.1 23 = ζ.2.1 23 := hF.row rfl
  have r46 : ν.2.1 46 = ζ.2.1 46 := hF.row rfl
  have es : ν.2.1 23 (ν.2.1 46 (ν.2.1 28 q.toNatClampNeg).toNatClampNeg).toNatClampNeg = sgV ζ q := by rw [e28, r46, r23]; rfl
  have no : Q2 ζ ρ ω η ν ν ∧ ((0 : Int32) = 0 ∨ (0 : Int32) = 1) ∧ (¬ (0 : Int32) = 0 → FtR μ ζ ρ x q s) := ⟨Q2.rf hP, Or.inl rfl, fun h => absurd rfl h⟩
  refine me_meth (by omega) rfl (v_fits_0 _ _ _ _ ⟨qn.mi hB hF rfl rfl, ?_, ?_, ?_, ?_⟩)
  · rw [e28]; exact MI.of (hL.g rfl rfl : _ = 3200) q2 (by omega)
  · rw [e28, r46]; exact MI.of (hL.g rfl rfl : _ = 16000) dcn.1.1 (by have := dcn.1.2; omega)
  · rw [es]; exact sn.mi hB hF rfl rfl
  rw [es, r22]
  obtain ⟨n, hx⟩ := sg_fo sn
  refine ⟨fun _ => no, fun h0 => ?_⟩
  obtain ⟨n', hx1, hx2⟩ : ∃ n', Nd ζ 9 (ζ.2.1 22 (sgV ζ q).toNatClampNeg) ∧ Lst (Nd ζ 9) (ζ.2.1 27) n' (ζ.2.1 27 (ζ.2.1 22 (sgV ζ q).toNatClampNeg).toNatClampNeg) := by
    cases n with
    | zero => have hx : ζ.2.1 22 (sgV ζ q).toNatClampNeg = -1 := hx; rw [hx] at h0; exact absurd h0 (by decide)
    | succ n =>
      rcases hx with hx | ⟨a, b⟩
      · rw [hx] at h0; exact absurd h0 (by decide)
      · exact ⟨n, a, b⟩
  refine ⟨hx1.mi hB hF rfl rfl, fun _ => no, fun h1 => ⟨hx1.mi hB hF rfl rfl, ?_⟩⟩
  rw [hF.k24 (Or.inl rfl) (sfx_of (nk13 hx1) rfl)] at h1
  rw [r23]
  refine MC.mono (c_isBelow hZ hF hP.1.2 hP.2.1.1 hR (by omega) hu ho.tq (Or.inl (fo_ty hx1))) (fun r1 κ hκ => ?_) (fun _ h => h)
  obtain ⟨⟨a1, a2, a3⟩, -, a5⟩ := hκ
  have hQ : Q2 ζ ρ ω η ν κ := ⟨hP.al a1 a2 a3 rfl rfl rfl rfl, fm_kf a3 rfl, a3.up rfl rfl⟩
  have no1 : Q2 ζ ρ ω η ν κ ∧ ((0 : Int32) = 0 ∨ (0 : Int32) = 1) ∧ (¬ (0 : Int32) = 0 → FtR μ ζ ρ x q s) := ⟨hQ, Or.inl rfl, fun h => absurd rfl h⟩
  refine ⟨fun hr1 => ?_, fun _ => no1⟩
  refine MC.mono (c_setWithin hB a1 (by omega) sn hm) (fun r2 κ2 hκ2 => ?_) (fun _ h => h)
  have e2 := hκ2.1.symm
  subst e2
  refine ⟨fun _ => no1, fun _ => ⟨hx1.mi hB a1 rfl rfl, hm.mi hB a1 rfl rfl, ?_⟩⟩
  rw [a1.row (g := 22) rfl, a1.row (g := 27) rfl]
  obtain ⟨m, hy⟩ := sg_fo hm
  obtain ⟨pw, fw, hfw, -⟩ := hZ.2.1
  obtain ⟨f1, f2⟩ := hfw _ hm
  have f2 := f2 m
  refine MC.mono (c_alikeFrom hZ a1 a2 (by omega) sn hm hx2 hy (by omega)) (fun r3 κ3 hκ3 => ?_) (fun _ h => h)
  obtain ⟨-, b1, b2, b3, b4⟩ := hκ3
  have hQ3 : Q2 ζ ρ ω η ν κ3 := hQ.tr ⟨hQ.1.al b1 b2 b3 rfl rfl rfl rfl, fm_kf b3 rfl, b3.up rfl rfl⟩
  exact ⟨fun _ => ⟨hQ3, Or.inl rfl, fun h => absurd rfl h⟩, fun hr => ⟨hQ3, Or.inr rfl, fun _ => ⟨⟨h0, h1⟩, a5 hr1, b4 hr⟩⟩⟩
end NNAS
