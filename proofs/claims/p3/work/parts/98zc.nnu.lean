/-! contracts of the reference: the parts of two TYPEs in pairs -/
/-- so many parts at most -/
def FwO (ζ : MS) (fw : Nat → Nat) : Prop := ∀ s, Nd ζ 8 s → fw s.toNatClampNeg ≤ 3000 ∧ ∀ m, ctF (fun _ => 1) (ζ.2.1 27) m (ζ.2.1 22 s.toNatClampNeg) + 1 ≤ fw s.toNatClampNeg
section NNAC
variable {X : ev_X} {W : Nat → Prop} {d : Nat} {P : MP} {μ ν ν1 κ ζ : MS} {T : MS → Prop} {x y p q a b s t : Int32} {pw fw : Nat → Nat} {R : Int32 → Int32 → Prop}
theorem PtR.leaf (ek : ζ.2.1 20 a.toNatClampNeg = ζ.2.1 20 b.toNatClampNeg) (n3 : ¬ ζ.2.1 20 a.toNatClampNeg = 3 ∧ ¬ ζ.2.1 20 a.toNatClampNeg = 4) (hn : ∀ v ∈ [(27 : Int32), (28 : Int32), (29 : Int32), (30 : Int32), (31 : Int32), (32 : Int32)], ¬ ζ.2.1 20 a.toNatClampNeg = v) : PtR ζ R a b :=
  ⟨ek, n3, fun e => absurd e (hn _ (by decide)), fun e => absurd e (hn _ (by decide)), fun e => absurd e (hn _ (by decide)), fun e => absurd e (hn _ (by decide)), fun e => absurd e (hn _ (by decide)), fun e => absurd e (hn _ (by decide))⟩
theorem c_partsPair (hB : TB μ ζ) (hfw : FwO ζ fw) (hpw : ∀ b, Nd ζ 0 b → PwO ζ pw fw b) (ho : Nd ζ 0 (ζ.1 65)) (hF : TF ζ ν) (hd : 6 ≤ d) (ha : Nd ζ 0 a) (hb : Nd ζ 0 b) (ek : ζ.2.1 20 a.toNatClampNeg = ζ.2.1 20 b.toNatClampNeg) (h0 : 0 ≤ (ν.1 69).toInt) (hbd : (ν.1 69).toInt + pw b.toNatClampNeg ≤ 63999) : MC X W true d 373 [.ref P.1, .int a, .int b] P ν (fun r ν1 => (PrX ζ ν ν1 ∧ (ν1.1 69).toInt ≤ (ν.1 69).toInt + pw b.toNatClampNeg) ∧ (r = 0 ∨ r = 1) ∧ (¬ r = 0 → PtR ζ (PdN ν1) a b)) T := by
  obtain ⟨w1, w2, w3, w4⟩ := hpw b hb
  have n3 : ¬ ζ.2.1 20 a.toNatClampNeg = 3 ∧ ¬ ζ.2.1 20 a.toNatClampNeg = 4 := by
    have hk : ([20, 21, 22, 23, 24, 25, 26, 27, 28, 29, 30, 31, 32] : List Int32).contains (ζ.2.1 20 a.toNatClampNeg) = true := ha.kind
    exact ⟨fun e => by rw [e] at hk; exact absurd hk (by decide), fun e => by rw [e] at hk; exact absurd hk (by decide)⟩
  have r20 : ν.2.1 20 = ζ.2.1 20 := hF.row rfl
  have r22 : ν.2.1 22 = ζ.2.1 22 := hF.row rfl
  have r23 : ν.2.1 23 = ζ.2.1 23 := hF.row rfl
  have no : ∀ κ, PrX ζ ν κ → (κ.1 69).toInt ≤ (ν.1 69).toInt + pw b.toNatClampNeg → (PrX ζ ν κ ∧ (κ.1 69).toInt ≤ (ν.1 69).toInt + pw b.toNatClampNeg) ∧ ((0 : Int32) = 0 ∨ (0 : Int32) = 1) ∧ (¬ (0 : Int32) = 0 → PtR ζ (PdN κ) a b) := fun κ h1 h2 => ⟨⟨h1, h2⟩, Or.inl rfl, fun h => absurd rfl h⟩
  have am : ∀ {g : Nat} {κ : MS}, TF ζ κ → rk g = true → rlen g = 16000 → MI a (κ.2.2 g) := fun hF h1 h2 => ha.mi hB hF h1 h2
  have bm : ∀ {g : Nat} {κ : MS}, TF ζ κ → rk g = true → rlen g = 16000 → MI b (κ.2.2 g) := fun hF h1 h2 => hb.mi hB hF h1 h2
  have pair : ∀ {κ : MS} {x y : Int32}, PrX ζ ν κ → (κ.1 69).toInt + 1 ≤ (ν.1 69).toInt + pw b.toNatClampNeg → Nd ζ 0 x → Nd ζ 0 y → ∀ {dd : Nat}, 1 ≤ dd → ∀ {T : MS → Prop}, MC X W true dd 370 [.ref P.1, .int x, .int y] P κ (fun _ ν1 => PrX ζ ν ν1 ∧ (ν1.1 69).toInt = (κ.1 69).toInt + 1 ∧ PdN ν1 x y ∧ PrX ζ κ ν1) T := fun {κ x y} hk h1 hx hy {dd} hd {T} => by
    have h69 := hk.2.1
    refine MC.mono (c_pair ((hk.tf hF).1.2.2) hd (by omega) (by rw [show rlen 70 = 64000 from rfl]; omega)) (fun r κ1 hκ => ?_) (fun _ h => h)
    obtain ⟨pp, pd⟩ := PrX.pair (ζ := ζ) (ν := κ) (by omega) (by omega) hx hy
    have e69 := pr_at (ν := κ) (x := x) (y := y) (by omega) (by omega)
    rw [← hκ] at pp pd e69
    exact ⟨hk.tr pp, e69, pd, pp⟩
  refine me_meth (by omega) rfl (v_partsPair_0 _ _ ⟨am hF rfl rfl, ⟨fun k => ?_, fun k => ?_, fun k => ?_, fun k => ?_, fun k => ?_, fun k => ?_, fun k => ?_⟩⟩)
  · rw [r20] at k
    refine ⟨am hF rfl rfl, bm hF rfl rfl, fun _ => v_partsPair_78 _ _ (no _ PrX.rf (by omega)), fun e1 => ⟨am hF rfl rfl, bm hF rfl rfl, fun _ => v_partsPair_78 _ _ (no _ PrX.rf (by omega)), fun e2 => ⟨⟨PrX.rf, by omega⟩, Or.inr rfl, fun _ => ?_⟩⟩⟩
    rw [r22] at e1
    rw [r23] at e2
    refine ⟨ek, n3, fun _ => ⟨e1, e2⟩, ?_, ?_, ?_, ?_, ?_⟩ <;> (rw [k]; intro e; exact absurd e (by decide))
  · rw [r20] at k
    have fa := ha.fld (f := 2) (by omega)
    have fb := hb.fld (f := 2) (by omega)
    rw [← ek] at fb
    rw [k] at fa fb
    have w := w1 (Or.inl (ek.symm.trans k))
    refine ⟨am hF rfl rfl, bm hF rfl rfl, ?_⟩
    rw [hF.k24 (Or.inl rfl) (sfx_of k rfl), hF.k24 (Or.inl rfl) (sfx_of (ek.symm.trans k) rfl)]
    refine MC.mono (pair PrX.rf (by omega) fa.1 fb.1 (by omega)) (fun r κ hκ => ?_) (fun _ h => h)
    obtain ⟨pk, p69, pd, -⟩ := hκ
    have hF1 := pk.tf hF
    refine ⟨am hF1 rfl rfl, bm hF1 rfl rfl, fun _ => v_partsPair_130 _ _ (no _ pk (by omega)), fun e1 => ⟨am hF1 rfl rfl, bm hF1 rfl rfl, fun _ => v_partsPair_130 _ _ (no _ pk (by omega)), fun e2 => ⟨⟨pk, by omega⟩, Or.inr rfl, fun _ => ?_⟩⟩⟩
    rw [hF1.row (g := 22) rfl] at e1
    rw [hF1.row (g := 23) rfl] at e2
    refine ⟨ek, n3, ?_, fun _ => ⟨⟨e1, e2⟩, pd⟩, ?_, ?_, ?_, ?_⟩ <;> (rw [k]; intro e; exact absurd e (by decide))
  · rw [r20] at k
    have fa := ha.fld (f := 0) (by omega)
    have fb := hb.fld (f := 0) (by omega)
    rw [← ek] at fb
    rw [k] at fa fb
    obtain ⟨na, fa⟩ : ∃ m, Lst (Nd ζ 10) (ζ.2.1 27) m (ζ.2.1 (22 + 0) a.toNatClampNeg) := fa
    obtain ⟨nb, fb⟩ : ∃ m, Lst (Nd ζ 10) (ζ.2.1 27) m (ζ.2.1 (22 + 0) b.toNatClampNeg) := fb
    have w := w2 (ek.symm.trans k) nb
    refine ⟨am hF rfl rfl, bm hF rfl rfl, ?_⟩
    rw [r22]
    refine MC.mono (c_fieldsPair hB hF (by omega) h0 fa fb (by show _ + ((ctF (fun _ => 1) (ζ.2.1 27) nb (ζ.2.1 22 b.toNatClampNeg) : Nat) : Int) ≤ _; omega)) (fun r κ hκ => ?_) (fun _ h => h)
    obtain ⟨⟨k1, k2⟩, k3, k4⟩ := hκ
    have k2 : (κ.1 69).toInt ≤ (ν.1 69).toInt + ((ctF (fun _ => 1) (ζ.2.1 27) nb (ζ.2.1 22 b.toNatClampNeg) : Nat) : Int) := k2
    refine ⟨k3, ⟨k1, by omega⟩, k3, fun hr => ?_⟩
    refine ⟨ek, n3, ?_, ?_, fun _ => k4 hr, ?_, ?_, ?_⟩ <;> (rw [k]; intro e; exact absurd e (by decide))
  · rw [r20] at k
    have fa := ha.fld (f := 0) (by omega)
    have fb := hb.fld (f := 0) (by omega)
    rw [← ek] at fb
    rw [k] at fa fb
    have w := w1 (Or.inr (ek.symm.trans k))
    refine ⟨am hF rfl rfl, bm hF rfl rfl, ?_⟩
    rw [r22]
    refine MC.mono (pair PrX.rf (by omega) fa.1 fb.1 (by omega)) (fun r κ hκ => ?_) (fun _ h => h)
    obtain ⟨pk, p69, pd, -⟩ := hκ
    refine ⟨⟨pk, by omega⟩, Or.inr rfl, fun _ => ?_⟩
    refine ⟨ek, n3, ?_, ?_, ?_, fun _ => pd, ?_, ?_⟩ <;> (rw [k]; intro e; exact absurd e (by decide))
  · rw [r20] at k
    have fa := ha.fld (f := 0) (by omega)
    have fb := hb.fld (f := 0) (by omega)
    rw [← ek] at fb
    rw [k] at fa fb
    have sa : Nd ζ 8 (ζ.2.1 22 a.toNatClampNeg) := fa.1
    have sb : Nd ζ 8 (ζ.2.1 22 b.toNatClampNeg) := fb.1
    obtain ⟨na, la⟩ := sg_fo sa
    obtain ⟨nb, lb⟩ := sg_fo sb
    have w := w3 (ek.symm.trans k)
    have w2 := (hfw _ sb).2 nb
    refine ⟨am hF rfl rfl, bm hF rfl rfl, am hF rfl rfl, ?_, bm hF rfl rfl, ?_, ?_⟩
    · rw [r22]; exact sa.mi hB hF rfl rfl
    · rw [r22]; exact sb.mi hB hF rfl rfl
    rw [r22]
    refine MC.mono (c_sigPair hB hF (by omega) sa sb h0 la lb (by omega)) (fun r κ hκ => ?_) (fun _ h => h)
    obtain ⟨⟨k1, k2⟩, -, k4⟩ := hκ
    have hF1 := k1.tf hF
    refine ⟨fun _ => v_partsPair_231 _ _ (no _ k1 (by omega)), fun hr => ⟨am hF1 rfl rfl, bm hF1 rfl rfl, ?_⟩⟩
    rw [hF1.row (g := 22) rfl]
    refine MC.mono (c_sameSets hB hF1 (by omega) sa sb) (fun r5 κ5 h5 => ?_) (fun _ h => h)
    have e5 := h5.1.symm
    subst e5
    refine ⟨fun _ => v_partsPair_231 _ _ (no _ k1 (by omega)), fun _ => ⟨⟨k1, by omega⟩, Or.inr rfl, fun _ => ?_⟩⟩
    refine ⟨ek, n3, ?_, ?_, ?_, ?_, fun _ => k4 hr, ?_⟩ <;> (rw [k]; intro e; exact absurd e (by decide))
  · rw [r20] at k
    have kb : ζ.2.1 20 b.toNatClampNeg = 32 := ek.symm.trans k
    have na := (supV.nd ha (Or.inr k) ho).resolve_right (fun e => by rw [k] at e; exact absurd e (by decide))
    have nb := (supV.nd hb (Or.inr kb) ho).resolve_right (fun e => by rw [kb] at e; exact absurd e (by decide))
    have fld : ∀ (f s : Nat), f < 5 → fW (32 : Int32).toNatClampNeg f = (3, s) → (∃ m, Lst (Nd ζ s) (ζ.2.1 27) m (ζ.2.1 (22 + f) a.toNatClampNeg)) ∧ ∃ m, Lst (Nd ζ s) (ζ.2.1 27) m (ζ.2.1 (22 + f) b.toNatClampNeg) := fun f s hf hw => by
      have fa := ha.fld (f := f) hf
      have fb := hb.fld (f := f) hf
      rw [k, hw] at fa
      rw [kb, hw] at fb
      exact ⟨fa, fb⟩
    obtain ⟨⟨nf, fa⟩, mf, fb⟩ := fld 1 10 (by omega) rfl
    obtain ⟨⟨nm, ma⟩, mm, mb⟩ := fld 2 11 (by omega) rfl
    obtain ⟨⟨no1, oa⟩, mo1, ob⟩ := fld 3 12 (by omega) rfl
    have w : 1 + ctF (fun _ => 1) (ζ.2.1 27) mf (ζ.2.1 23 b.toNatClampNeg) + ctF (fun q => fw (ζ.2.1 23 q.toNatClampNeg).toNatClampNeg) (ζ.2.1 27) mm (ζ.2.1 24 b.toNatClampNeg) ≤ pw b.toNatClampNeg := w4 kb mf mm
    refine MC.mono (c_super hF (by omega) (am hF rfl rfl)) (fun r6 κ6 h6 => ?_) (fun _ h => h)
    obtain ⟨e6, r6⟩ := h6
    have e6 := e6.symm
    subst e6
    refine MC.mono (c_super hF (by omega) (bm hF rfl rfl)) (fun r7 κ7 h7 => ?_) (fun _ h => h)
    obtain ⟨e7, r7⟩ := h7
    have e7 := e7.symm
    subst e7
    rw [r6, r7]
    refine MC.mono (pair PrX.rf (by omega) na nb (by omega)) (fun r8 κ hκ => ?_) (fun _ h => h)
    obtain ⟨pk, p69, pd, -⟩ := hκ
    have hF1 := pk.tf hF
    refine ⟨am hF1 rfl rfl, bm hF1 rfl rfl, ?_⟩
    rw [hF1.row (g := 23) rfl]
    refine MC.mono (c_fieldsPair hB hF1 (by omega) (by omega) fa fb (by omega)) (fun r9 κ9 h9 => ?_) (fun _ h => h)
    obtain ⟨⟨k1, k2⟩, -, k4⟩ := h9
    have pk9 := pk.tr k1
    have hF9 := pk9.tf hF
    have q69 := k1.2.1
    refine ⟨fun _ => v_partsPair_327 _ _ (no _ pk9 (by omega)), fun hr9 => ⟨am hF9 rfl rfl, bm hF9 rfl rfl, ?_⟩⟩
    rw [hF9.k24 (Or.inl rfl) (sfx_of k rfl), hF9.k24 (Or.inl rfl) (sfx_of kb rfl)]
    refine MC.mono (c_methPair hB hfw hF9 (by omega) (by omega) ma mb (by omega)) (fun r10 κ10 h10 => ?_) (fun _ h => h)
    obtain ⟨⟨j1, j2⟩, -, j4⟩ := h10
    have pk10 := pk9.tr j1
    have hF10 := pk10.tf hF
    refine ⟨fun _ => v_partsPair_327 _ _ (no _ pk10 (by omega)), fun hr10 => ⟨am hF10 rfl rfl, bm hF10 rfl rfl, ?_⟩⟩
    rw [hF10.k24 (Or.inr (Or.inl rfl)) (sfx_of k rfl), hF10.k24 (Or.inr (Or.inl rfl)) (sfx_of kb rfl)]
    have oa' := oa.mono (E' := Mb ζ) (fun _ h => Or.inr h) (fun _ _ => rfl)
    have ob' := ob.mono (E' := Mb ζ) (fun _ h => Or.inr h) (fun _ _ => rfl)
    refine MC.mono (c_withinM hB hF10 (by omega) oa' ob') (fun r11 κ11 h11 => ?_) (fun _ h => h)
    have e11 := h11.1.symm
    subst e11
    refine ⟨fun _ => v_partsPair_327 _ _ (no _ pk10 (by omega)), fun _ => ⟨bm hF10 rfl rfl, am hF10 rfl rfl, ?_⟩⟩
    rw [hF10.k24 (Or.inr (Or.inl rfl)) (sfx_of k rfl), hF10.k24 (Or.inr (Or.inl rfl)) (sfx_of kb rfl)]
    refine MC.mono (c_withinM hB hF10 (by omega) ob' oa') (fun r12 κ12 h12 => ?_) (fun _ h => h)
    have e12 := h12.1.symm
    subst e12
    refine ⟨fun _ => v_partsPair_327 _ _ (no _ pk10 (by omega)), fun _ => ⟨⟨pk10, by omega⟩, Or.inr rfl, fun _ => ?_⟩⟩
    have hf := k4 hr9
    have hm := j4 hr10
    refine ⟨ek, n3, ?_, ?_, ?_, ?_, ?_, fun _ => ⟨pd.px (k1.tr j1), ?_, hm⟩⟩
    iterate 5 (rw [k]; intro e; exact absurd e (by decide))
    obtain ⟨mm1, hf⟩ := hf
    exact ⟨mm1, hf.mono (fun _ _ h => ⟨h.1, h.2.1, h.2.2.px j1⟩)⟩
  · rw [r20] at k
    exact ⟨⟨PrX.rf, by omega⟩, Or.inr rfl, fun _ => PtR.leaf ek n3 k⟩
end NNAC
