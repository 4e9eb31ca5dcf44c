/-! contracts of the reference: SIGNATUREs, METHODs, whole TYPEs in pairs -/
section NNAB
variable {X : ev_X} {W : Nat → Prop} {d : Nat} {P : MP} {μ ν ν1 κ ζ : MS} {T : MS → Prop} {x y p q a b s t : Int32}
/-- FORMALs in pairs, and RESULTs -/
theorem sp_7 {x3 x4 : Int32} (hB : TB μ ζ) (hd : 1 ≤ d) (hs : Nd ζ 8 s) (ht : Nd ζ 8 t) : ∀ (m : Nat) (x y : Int32) (ν : MS), TF ζ ν → 0 ≤ (ν.1 69).toInt → Lst (Nd ζ 9) (ζ.2.1 27) m y → (∃ n, Lst (Nd ζ 9) (ζ.2.1 27) n x) → (ν.1 69).toInt + (ctF (fun _ => 1) (ζ.2.1 27) m y + 1 : Nat) ≤ 63999 →
    ME X W true d 379 7 [(0, .ref P.1), (1, .int s), (2, .int t), (3, .int x3), (4, .int x4), (5, .int x), (6, .int y)] [] P ν (fun r ν1 => (PrX ζ ν ν1 ∧ (ν1.1 69).toInt ≤ (ν.1 69).toInt + (ctF (fun _ => 1) (ζ.2.1 27) m y + 1 : Nat)) ∧ (r = 0 ∨ r = 1) ∧ (¬ r = 0 → SgR ζ (PdN ν1) s t x y)) T := by
  have nil : ∀ (m : Nat) (x : Int32) (ν : MS), TF ζ ν → 0 ≤ (ν.1 69).toInt → (ν.1 69).toInt + (ctF (fun _ => 1) (ζ.2.1 27) m (-1) + 1 : Nat) ≤ 63999 → ME X W true d 379 7 [(0, .ref P.1), (1, .int s), (2, .int t), (3, .int x3), (4, .int x4), (5, .int x), (6, .int (-1))] [] P ν (fun r ν1 => (PrX ζ ν ν1 ∧ (ν1.1 69).toInt ≤ (ν.1 69).toInt + (ctF (fun _ => 1) (ζ.2.1 27) m (-1) + 1 : Nat)) ∧ (r = 0 ∨ r = 1) ∧ (¬ r = 0 → SgR ζ (PdN ν1) s t x (-1))) T := fun m x ν hF h0 hb => by
    have r23 : ν.2.1 23 = ζ.2.1 23 := hF.row rfl
    have no : ((PrX ζ ν ν ∧ (ν.1 69).toInt ≤ (ν.1 69).toInt + (ctF (fun _ => 1) (ζ.2.1 27) m (-1) + 1 : Nat)) ∧ ((0 : Int32) = 0 ∨ (0 : Int32) = 1) ∧ (¬ (0 : Int32) = 0 → SgR ζ (PdN ν) s t x (-1))) := ⟨⟨PrX.rf, by omega⟩, Or.inl rfl, fun h => absurd rfl h⟩
    have ms : MI s (ν.2.2 23) := hs.mi hB hF rfl rfl
    have mt : MI t (ν.2.2 23) := ht.mi hB hF rfl rfl
    refine v_signaturesPair_7 _ _ _ _ _ _ ⟨fun h => ⟨fun _ => no, fun e => ⟨ms, fun h1 => ⟨mt, fun h2 => ⟨ms, fun h3 => by omega, fun _ => ⟨ms, mt, ?_⟩⟩, fun _ => no⟩, fun h1 => ⟨mt, fun _ => no, fun h2 => ⟨ms, fun _ => ?_, fun h3 => by omega⟩⟩⟩⟩, fun h => ⟨fun _ => ⟨fun _ => no, fun e => by subst e; exact absurd h (by decide)⟩, fun h => absurd h (by decide)⟩⟩
    · rw [r23] at h1 h2 ⊢
      have n1 := (sg_re hs).resolve_left (fun e => by rw [e] at h1; exact absurd h1 (by decide))
      have n2 := (sg_re ht).resolve_left (fun e => by rw [e] at h2; exact absurd h2 (by decide))
      refine MC.mono (c_pair (hF.1.2.2) hd h0 (by rw [show rlen 70 = 64000 from rfl]; omega)) (fun r κ hκ => ?_) (fun _ h => h)
      obtain ⟨pp, pd⟩ := PrX.pair (ζ := ζ) h0 (by omega) n1 n2
      have e69 := pr_at (x := ζ.2.1 23 s.toNatClampNeg) (y := ζ.2.1 23 t.toNatClampNeg) h0 (by omega)
      rw [← hκ] at pp pd e69
      exact ⟨⟨pp, by omega⟩, Or.inr rfl, fun _ => ⟨⟨0, e, rfl⟩, Or.inr ⟨⟨h1, h2⟩, pd⟩⟩⟩
    · rw [r23] at h1 h2
      exact ⟨⟨PrX.rf, by omega⟩, Or.inr rfl, fun _ => ⟨⟨0, e, rfl⟩, Or.inl ⟨h1, h2⟩⟩⟩
  intro m
  induction m with
  | zero =>
    intro x y ν hF h0 hy hx hb
    have hy : y = -1 := hy
    subst hy
    exact nil 0 x ν hF h0 hb
  | succ m ih =>
    intro x y ν hF h0 hy hx hb
    rcases hy with hy | ⟨hy1, hy2⟩
    · subst hy
      exact nil (m + 1) x ν hF h0 hb
    have yi := hy1.in
    have ec : ctF (fun _ => 1) (ζ.2.1 27) (m + 1) y = 1 + ctF (fun _ => 1) (ζ.2.1 27) m (ζ.2.1 27 y.toNatClampNeg) := by
      show (if y.toInt < 0 then 0 else _) = _
      rw [if_neg (by omega)]
    rw [ec] at hb ⊢
    have no : ((PrX ζ ν ν ∧ (ν.1 69).toInt ≤ (ν.1 69).toInt + (1 + ctF (fun _ => 1) (ζ.2.1 27) m (ζ.2.1 27 y.toNatClampNeg) + 1 : Nat)) ∧ ((0 : Int32) = 0 ∨ (0 : Int32) = 1) ∧ (¬ (0 : Int32) = 0 → SgR ζ (PdN ν) s t x y)) := ⟨⟨PrX.rf, by omega⟩, Or.inl rfl, fun h => absurd rfl h⟩
    refine v_signaturesPair_7 _ _ _ _ _ _ ⟨fun h => ⟨fun e => no, fun e => by subst e; omega⟩, fun h => ⟨fun h => by omega, fun _ => ?_⟩⟩
    obtain ⟨n, hx⟩ := hx
    cases n with
    | zero => have hx : x = -1 := hx; subst hx; exact absurd h (by decide)
    | succ n =>
    rcases hx with hx | ⟨hx1, hx2⟩
    · subst hx; exact absurd h (by decide)
    refine ⟨hx1.mi hB hF rfl rfl, hy1.mi hB hF rfl rfl, fun e => ⟨hx1.mi hB hF rfl rfl, hy1.mi hB hF rfl rfl, ?_⟩, fun e => no⟩
    rw [hF.k24 (Or.inl rfl) (sfx_of (nk13 hx1) rfl), hF.k24 (Or.inl rfl) (sfx_of (nk13 hy1) rfl)] at e
    rw [hF.row (g := 23) rfl]
    refine MC.mono (c_pair (hF.1.2.2) hd h0 (by rw [show rlen 70 = 64000 from rfl]; omega)) (fun r κ hκ => ?_) (fun _ h => h)
    obtain ⟨pp, pd⟩ := PrX.pair (ζ := ζ) h0 (by omega) (fo_ty hx1) (fo_ty hy1)
    have e69 := pr_at (x := ζ.2.1 23 x.toNatClampNeg) (y := ζ.2.1 23 y.toNatClampNeg) h0 (by omega)
    rw [← hκ] at pp pd e69
    have hF1 := pp.tf hF
    refine ⟨hx1.mi hB hF1 rfl rfl, hy1.mi hB hF1 rfl rfl, ?_⟩
    rw [hF1.row (g := 27) rfl]
    refine ME.mono (ih _ _ κ hF1 (by omega) hy2 ⟨n, hx2⟩ (by omega)) (fun r ν1 h => ?_) (fun _ h => h)
    obtain ⟨⟨h1, h2⟩, h3, h4⟩ := h
    refine ⟨⟨pp.tr h1, by omega⟩, h3, fun hr => ?_⟩
    obtain ⟨⟨m', hm⟩, hm2⟩ := h4 hr
    exact ⟨⟨m' + 1, Or.inr ⟨⟨⟨hx1.in.1, yi.1⟩, e, pd.px h1⟩, hm⟩⟩, hm2⟩
theorem c_sigPair {m n : Nat} (hB : TB μ ζ) (hF : TF ζ ν) (hd : 2 ≤ d) (hs : Nd ζ 8 s) (ht : Nd ζ 8 t) (h0 : 0 ≤ (ν.1 69).toInt) (hx : Lst (Nd ζ 9) (ζ.2.1 27) n x) (hy : Lst (Nd ζ 9) (ζ.2.1 27) m y) (hb : (ν.1 69).toInt + (ctF (fun _ => 1) (ζ.2.1 27) m y + 1 : Nat) ≤ 63999) : MC X W true d 379 [.ref P.1, .int s, .int t, .int x, .int y] P ν (fun r ν1 => (PrX ζ ν ν1 ∧ (ν1.1 69).toInt ≤ (ν.1 69).toInt + (ctF (fun _ => 1) (ζ.2.1 27) m y + 1 : Nat)) ∧ (r = 0 ∨ r = 1) ∧ (¬ r = 0 → SgR ζ (PdN ν1) s t x y)) T :=
  me_meth (by omega) rfl (v_signaturesPair_0 _ _ _ _ (sp_7 hB (by omega) hs ht m x y ν hF h0 hy ⟨n, hx⟩ hb))
theorem c_numV (hB : TB μ ζ) (hF : TF ζ ν) (hd : 1 ≤ d) (hy : Mb ζ y) : MC X W true d 376 [.ref P.1, .int (ζ.2.1 24 y.toNatClampNeg)] P ν (fun r ν1 => ν1 = ν ∧ r = nbV ζ (ζ.2.1 24 y.toNatClampNeg)) T := by
  unfold nbV
  rcases hy.qn with h | ⟨h1, h2⟩
  · rw [h]
    exact me_meth hd rfl (v_numberOf_0 _ ⟨fun h => absurd h (by decide), fun _ => ⟨rfl, rfl⟩⟩)
  · rw [if_pos h1.in.1]
    exact c_number hB hF hd h1 h2
/-- METHODs in pairs -/
theorem mp_5 {x1 x2 : Int32} {fw : Nat → Nat} (hB : TB μ ζ) (hfw : ∀ s, Nd ζ 8 s → fw s.toNatClampNeg ≤ 3000 ∧ ∀ m, ctF (fun _ => 1) (ζ.2.1 27) m (ζ.2.1 22 s.toNatClampNeg) + 1 ≤ fw s.toNatClampNeg) (hd : 4 ≤ d) : ∀ (m : Nat) (x y : Int32) (ν : MS), TF ζ ν → 0 ≤ (ν.1 69).toInt → Lst (Nd ζ 11) (ζ.2.1 27) m y → (∃ n, Lst (Nd ζ 11) (ζ.2.1 27) n x) → (ν.1 69).toInt + ctF (fun q => fw (ζ.2.1 23 q.toNatClampNeg).toNatClampNeg) (ζ.2.1 27) m y ≤ 63999 →
    ME X W true d 377 5 [(0, .ref P.1), (1, .int x1), (2, .int x2), (3, .int x), (4, .int y)] [] P ν (fun r ν1 => (PrX ζ ν ν1 ∧ (ν1.1 69).toInt ≤ (ν.1 69).toInt + ctF (fun q => fw (ζ.2.1 23 q.toNatClampNeg).toNatClampNeg) (ζ.2.1 27) m y) ∧ (r = 0 ∨ r = 1) ∧ (¬ r = 0 → MdR ζ (PdN ν1) x y)) T := by
  have nil : ∀ (m : Nat) (x : Int32) (ν : MS), 0 ≤ (ν.1 69).toInt → ME X W true d 377 5 [(0, .ref P.1), (1, .int x1), (2, .int x2), (3, .int x), (4, .int (-1))] [] P ν (fun r ν1 => (PrX ζ ν ν1 ∧ (ν1.1 69).toInt ≤ (ν.1 69).toInt + ctF (fun q => fw (ζ.2.1 23 q.toNatClampNeg).toNatClampNeg) (ζ.2.1 27) m (-1)) ∧ (r = 0 ∨ r = 1) ∧ (¬ r = 0 → MdR ζ (PdN ν1) x (-1))) T := fun m x ν h0 =>
    v_methodsPair_5 _ _ _ _ ⟨fun h => ⟨fun e => ⟨⟨PrX.rf, by omega⟩, Or.inl rfl, fun h => absurd rfl h⟩, fun e => ⟨⟨PrX.rf, by omega⟩, Or.inr rfl, fun _ => ⟨0, e, rfl⟩⟩⟩, fun h => ⟨fun _ => ⟨fun e => ⟨⟨PrX.rf, by omega⟩, Or.inl rfl, fun h => absurd rfl h⟩, fun e => ⟨⟨PrX.rf, by omega⟩, Or.inr rfl, fun _ => ⟨0, e, rfl⟩⟩⟩, fun h => absurd h (by decide)⟩⟩
  intro m
  induction m with
  | zero =>
    intro x y ν hF h0 hy hx hb
    have hy : y = -1 := hy
    subst hy
    exact nil 0 x ν h0
  | succ m ih =>
    intro x y ν hF h0 hy hx hb
    rcases hy with hy | ⟨hy1, hy2⟩
    · subst hy
      exact nil (m + 1) x ν h0
    have yi := hy1.in
    have ec : ctF (fun q => fw (ζ.2.1 23 q.toNatClampNeg).toNatClampNeg) (ζ.2.1 27) (m + 1) y = fw (ζ.2.1 23 y.toNatClampNeg).toNatClampNeg + ctF (fun q => fw (ζ.2.1 23 q.toNatClampNeg).toNatClampNeg) (ζ.2.1 27) m (ζ.2.1 27 y.toNatClampNeg) := by
      show (if y.toInt < 0 then 0 else _) = _
      rw [if_neg (by omega)]
    rw [ec] at hb ⊢
    have no : ((PrX ζ ν ν ∧ (ν.1 69).toInt ≤ (ν.1 69).toInt + (fw (ζ.2.1 23 y.toNatClampNeg).toNatClampNeg + ctF (fun q => fw (ζ.2.1 23 q.toNatClampNeg).toNatClampNeg) (ζ.2.1 27) m (ζ.2.1 27 y.toNatClampNeg) : Nat)) ∧ ((0 : Int32) = 0 ∨ (0 : Int32) = 1) ∧ (¬ (0 : Int32) = 0 → MdR ζ (PdN ν) x y)) := ⟨⟨PrX.rf, by omega⟩, Or.inl rfl, fun h => absurd rfl h⟩
    refine v_methodsPair_5 _ _ _ _ ⟨fun h => ⟨fun e => no, fun e => by subst e; omega⟩, fun h => ⟨fun h => by omega, fun _ => ?_⟩⟩
    obtain ⟨n, hx⟩ := hx
    cases n with
    | zero => have hx : x = -1 := hx; subst hx; exact absurd h (by decide)
    | succ n =>
    rcases hx with hx | ⟨hx1, hx2⟩
    · subst hx; exact absurd h (by decide)
    have r22 : ν.2.1 22 = ζ.2.1 22 := hF.row rfl
    have r23 : ν.2.1 23 = ζ.2.1 23 := hF.row rfl
    refine ⟨hx1.mi hB hF rfl rfl, hy1.mi hB hF rfl rfl, fun e => no, fun e => ⟨hx1.mi hB hF rfl rfl, ?_⟩⟩
    rw [r22] at e
    rw [hF.k24 (Or.inl rfl) (sfx_of (nk34 hx1) rfl)]
    refine MC.mono (c_numV hB hF (by omega) (Or.inl hx1)) (fun r1 κ1 hκ1 => ?_) (fun _ h => h)
    have e1 := hκ1.1.symm
    subst e1
    refine ⟨hy1.mi hB hF rfl rfl, ?_⟩
    rw [hF.k24 (Or.inl rfl) (sfx_of (nk34 hy1) rfl)]
    refine MC.mono (c_numV hB hF (by omega) (Or.inl hy1)) (fun r2 κ2 hκ2 => ?_) (fun _ h => h)
    have e2 := hκ2.1.symm
    subst e2
    refine ⟨fun er => ?_, fun _ => no⟩
    have sx := me_sg hx1
    have sy := me_sg hy1
    obtain ⟨nx, fx⟩ := sg_fo sx
    obtain ⟨ny, fy⟩ := sg_fo sy
    have wy := (hfw _ sy).2 ny
    refine ⟨hx1.mi hB hF rfl rfl, hy1.mi hB hF rfl rfl, hx1.mi hB hF rfl rfl, ?_, hy1.mi hB hF rfl rfl, ?_, ?_⟩
    · rw [r23]; exact sx.mi hB hF rfl rfl
    · rw [r23]; exact sy.mi hB hF rfl rfl
    rw [r23, r22]
    refine MC.mono (c_sigPair hB hF (by omega) sx sy h0 fx fy (by omega)) (fun r3 κ3 hκ3 => ?_) (fun _ h => h)
    obtain ⟨⟨k1, k2⟩, -, k4⟩ := hκ3
    have hF3 := k1.tf hF
    refine ⟨fun _ => ⟨⟨k1, by omega⟩, Or.inl rfl, fun h => absurd rfl h⟩, fun hr3 => ⟨hx1.mi hB hF3 rfl rfl, hy1.mi hB hF3 rfl rfl, ?_⟩⟩
    rw [hF3.row (g := 23) rfl]
    refine MC.mono (c_sameSets hB hF3 (by omega) sx sy) (fun r4 κ4 hκ4 => ?_) (fun _ h => h)
    have e4 := hκ4.1.symm
    subst e4
    refine ⟨fun _ => ⟨hx1.mi hB hF3 rfl rfl, hy1.mi hB hF3 rfl rfl, ?_⟩, fun _ => ⟨⟨k1, by omega⟩, Or.inl rfl, fun h => absurd rfl h⟩⟩
    rw [hF3.row (g := 27) rfl]
    have k69 := k1.2.1
    refine ME.mono (ih _ _ _ hF3 (by omega) hy2 ⟨n, hx2⟩ (by omega)) (fun r ν1 h => ?_) (fun _ h => h)
    obtain ⟨⟨h1, h2⟩, h3, h4⟩ := h
    refine ⟨⟨k1.tr h1, by omega⟩, h3, fun hr => ?_⟩
    obtain ⟨m', hm⟩ := h4 hr
    obtain ⟨⟨m3, s1⟩, s2⟩ := k4 hr3
    refine ⟨m' + 1, Or.inr ⟨⟨⟨hx1.in.1, yi.1⟩, ⟨e, by rw [← hκ1.2, ← hκ2.2]; exact er⟩, ⟨m3, s1.mono (fun _ _ h => ⟨h.1, h.2.1, h.2.2.px h1⟩)⟩, ?_⟩, hm⟩⟩
    exact s2.imp id (fun h => ⟨h.1, h.2.px h1⟩)
theorem c_methPair {m n : Nat} {fw : Nat → Nat} (hB : TB μ ζ) (hfw : ∀ s, Nd ζ 8 s → fw s.toNatClampNeg ≤ 3000 ∧ ∀ m, ctF (fun _ => 1) (ζ.2.1 27) m (ζ.2.1 22 s.toNatClampNeg) + 1 ≤ fw s.toNatClampNeg) (hF : TF ζ ν) (hd : 5 ≤ d) (h0 : 0 ≤ (ν.1 69).toInt) (hx : Lst (Nd ζ 11) (ζ.2.1 27) n x) (hy : Lst (Nd ζ 11) (ζ.2.1 27) m y) (hb : (ν.1 69).toInt + ctF (fun q => fw (ζ.2.1 23 q.toNatClampNeg).toNatClampNeg) (ζ.2.1 27) m y ≤ 63999) : MC X W true d 377 [.ref P.1, .int x, .int y] P ν (fun r ν1 => (PrX ζ ν ν1 ∧ (ν1.1 69).toInt ≤ (ν.1 69).toInt + ctF (fun q => fw (ζ.2.1 23 q.toNatClampNeg).toNatClampNeg) (ζ.2.1 27) m y) ∧ (r = 0 ∨ r = 1) ∧ (¬ r = 0 → MdR ζ (PdN ν1) x y)) T :=
  me_meth (by omega) rfl (v_methodsPair_0 _ _ (mp_5 hB hfw (by omega) m x y ν hF h0 hy ⟨n, hx⟩ hb))
end NNAB
