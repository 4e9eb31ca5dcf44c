/-! contracts of the reference: FORMALs of a body, and the whole body -/
section NNC
variable {X : ev_X} {W : Nat → Prop} {d h K : Nat} {P : MP} {μ ν κ ζ : MS} {V : Int32 → Prop} {p : Int32} {a b B lo hi n N : Int} {U w y : Nat} {C : Nat → Prop} {T : MS → Prop}
theorem G.k13 {S : Nat → Prop} {i : Int32} (hG : G μ h S 9 i) : μ.2.1 20 i.toNatClampNeg = 13 := by
  cases h with
  | zero => exact hG.elim
  | succ h =>
    have g3 : ([13] : List Int32).contains (μ.2.1 20 i.toNatClampNeg) = true := hG.2.2.1
    simpa using g3
theorem bo_formals {c1 c2 c3 c4 : Int} {u1 mL : Nat} {sg : Int32} (hd : 1 ≤ d) (hC : CXs n N V w μ) (h62 : (μ.1 62).toInt = 0) (hN : c4 ≤ N) (hcc : c2 ≤ c4) (h1 : p.toInt < c1) (p0 : 0 ≤ p.toInt) (pN : bt 0 N p.toNatClampNeg) (ek : μ.2.1 20 p.toNatClampNeg = 9) (hsg : μ.2.1 23 p.toNatClampNeg = sg) (hc : ∀ j : Nat, 0 ≤ (j : Int) → p.toInt < j → (j : Int) < c4 → C j) (hu : u1 ≤ w)
    (hLoc : ∀ (ν : MS) (B : Int) (U : Nat), StB C μ p (μ.1 52).toInt B U ν → B ≤ c2 → U ≤ u1 → ME X W true d 357 97 [(0, .ref P.1), (1, .int p), (2, .int (μ.1 62)), (3, .int sg), (4, .int (μ.2.1 24 p.toNatClampNeg))] [] P ν (fun _ ζ => QB C μ B ((μ.1 52).toInt + w) ν ζ ∧ (ζ.1 17 = 0 → ∃ b, ((ν.1 52).toInt ≤ b ∧ b ≤ (ζ.1 52).toInt) ∧ WL (fun lo hi _ l => LcP ζ h (μ.1 52).toInt b lo hi l) (ζ.2.1 27) mL c2 c3 0 (μ.2.1 24 p.toNatClampNeg) ∧ RsB C ζ h K p (μ.1 52).toInt b c3 c4)) T) :
    ∀ (m : Nat) (f : Int32) (ν : MS) (B : Int) (U : Nat), StB C μ p (μ.1 52).toInt B U ν → (0 ≤ f.toInt → B ≤ f.toInt) → B ≤ c2 → (∃ mm, Onl (μ.2.1 27) mm (μ.2.1 22 sg.toNatClampNeg) f) → U + m ≤ u1 → Lst (fun f => (0 ≤ f.toInt ∧ bt c1 c2 f.toNatClampNeg ∧ (μ.2.1 27 f.toNatClampNeg = -1 ∨ f.toInt < (μ.2.1 27 f.toNatClampNeg).toInt)) ∧ μ.2.1 20 f.toNatClampNeg = 13) (μ.2.1 27) m f →
    ME X W true d 357 20 [(0, .ref P.1), (1, .int p), (2, .int (μ.1 62)), (3, .int sg), (4, .int f)] [] P ν (fun _ ζ => QB C μ B ((μ.1 52).toInt + w) ν ζ ∧ (ζ.1 17 = 0 → ∃ b, ((ν.1 52).toInt ≤ b ∧ b ≤ (ζ.1 52).toInt) ∧ Lst (FmP ζ c1 c2 (μ.1 52).toInt b) (ζ.2.1 27) m f ∧ WL (fun lo hi _ l => LcP ζ h (μ.1 52).toInt b lo hi l) (ζ.2.1 27) mL c2 c3 0 (μ.2.1 24 p.toNatClampNeg) ∧ RsB C ζ h K p (μ.1 52).toInt b c3 c4)) T := by
  have cE : ∀ {ν : MS} {B : Int} {U : Nat}, StB C μ p (μ.1 52).toInt B U ν → NE n ν ∧ SB n ν (bt 0 N) := fun hs => ⟨hC.1.sf hs.1, hC.2.1.sf hs.1⟩
  have mi : ∀ {ν : MS} {B : Int} {U : Nat} {g : Nat} {i : Int32}, StB C μ p (μ.1 52).toInt B U ν → rk g = true → rlen g = 16000 → 0 ≤ i.toInt → bt 0 N i.toNatClampNeg → MI i (ν.2.2 g) := fun {ν B U g i} hs hg hr a0 a1 => by
    have hci := @ic i
    have := ((cE hs).2 _ a1).1
    exact MI.of ((cE hs).1.1.g hg hr) a0 (by omega)
  have e24 : ∀ {ν : MS} {B : Int} {U : Nat} {i : Int32}, StB C μ p (μ.1 52).toInt B U ν → ¬ μ.2.1 20 i.toNatClampNeg = 70 → ν.2.1 24 i.toNatClampNeg = μ.2.1 24 i.toNatClampNeg := fun {ν B U i} hs hk => (hs.1.fld (f := 2) (j := i.toNatClampNeg) (by decide)).resolve_right (fun h => hk h.1)
  have out : ∀ (ν : MS) (B : Int) (U : Nat), StB C μ p (μ.1 52).toInt B U ν → B ≤ c2 → U ≤ u1 → ME X W true d 357 20 [(0, .ref P.1), (1, .int p), (2, .int (μ.1 62)), (3, .int sg), (4, .int (-1))] [] P ν (fun _ ζ => QB C μ B ((μ.1 52).toInt + w) ν ζ ∧ (ζ.1 17 = 0 → ∃ b, ((ν.1 52).toInt ≤ b ∧ b ≤ (ζ.1 52).toInt) ∧ WL (fun lo hi _ l => LcP ζ h (μ.1 52).toInt b lo hi l) (ζ.2.1 27) mL c2 c3 0 (μ.2.1 24 p.toNatClampNeg) ∧ RsB C ζ h K p (μ.1 52).toInt b c3 c4)) T := fun ν B U hs hB hU => by
    refine v_nameBody_20 _ _ _ _ ⟨fun _ => ⟨mi hs rfl rfl p0 pN, ?_⟩, fun h => absurd h (by decide)⟩
    rw [e24 hs (by rw [ek]; decide)]
    exact hLoc ν B U hs hB hU
  intro m
  induction m with
  | zero =>
    intro f ν B U hs hBf hB hon hU hf
    have hf : f = -1 := hf
    subst hf
    refine ME.mono (out ν B U hs hB (by omega)) (fun _ ζ hz => ⟨hz.1, fun e => ?_⟩) (fun _ h => h)
    obtain ⟨b, b1, b2⟩ := hz.2 e
    exact ⟨b, b1, rfl, b2⟩
  | succ m ih =>
    intro f ν B U hs hBf hB hon hU hf
    rcases hf with hf | ⟨⟨⟨f0, f1, f2⟩, ef⟩, hf⟩
    · subst hf
      refine ME.mono (out ν B U hs hB (by omega)) (fun _ ζ hz => ⟨hz.1, fun e => ?_⟩) (fun _ h => h)
      obtain ⟨b, b1, b2⟩ := hz.2 e
      exact ⟨b, b1, Or.inl rfl, b2⟩
    have hcf := @ic f
    obtain ⟨mm, hon⟩ := hon
    have f1a := f1.1
    have f1b := f1.2
    have hBf := hBf f0
    have fN : bt 0 N f.toNatClampNeg := ⟨by omega, by omega⟩
    have f16 : f.toInt < 16000 := by have := ((cE hs).2 _ fN).1; omega
    have own : Own μ p f.toNatClampNeg := Or.inl ⟨mm, f, by rw [hsg]; exact hon, f0, rfl⟩
    have r24 := e24 (i := f) hs (by rw [ef]; decide)
    obtain ⟨s1, ⟨s2, s3, s4⟩, -⟩ := id hs
    obtain ⟨-, -, -, ⟨d4, d5⟩, d6⟩ := id hC
    have go : ∀ k : Int32, k = (if μ.2.1 24 f.toNatClampNeg = 1 then 2 else 1) → MI f (ν.2.2 23) ∧ MC X W true d 341 [.ref P.1, .int k, .int (ν.2.1 23 f.toNatClampNeg)] P ν (fun r1 μ1 => (MI f (μ1.2.2 28) ∧ (MI f (μ1.2.2 22) ∧ (MI f (μ1.2.2 28) ∧ MC X W true d 358 [.ref P.1, .int (μ1.2.1 22 f.toNatClampNeg), .int (upd (μ1.2.1 28) f.toNatClampNeg r1 f.toNatClampNeg)] P (mA1 μ1 28 f.toNatClampNeg r1) (fun _ μ2 => (MI f (μ2.2.2 27) ∧ ME X W true d 357 20 [(0, .ref P.1), (1, .int p), (2, .int (μ.1 62)), (3, .int sg), (4, .int (μ2.2.1 27 f.toNatClampNeg))] [] P μ2 (fun _ ζ => QB C μ B ((μ.1 52).toInt + w) ν ζ ∧ (ζ.1 17 = 0 → ∃ b, ((ν.1 52).toInt ≤ b ∧ b ≤ (ζ.1 52).toInt) ∧ Lst (FmP ζ c1 c2 (μ.1 52).toInt b) (ζ.2.1 27) (m + 1) f ∧ WL (fun lo hi _ l => LcP ζ h (μ.1 52).toInt b lo hi l) (ζ.2.1 27) mL c2 c3 0 (μ.2.1 24 p.toNatClampNeg) ∧ RsB C ζ h K p (μ.1 52).toInt b c3 c4)) T)) (fun _ => False))))) (fun _ => False) := fun k hk => by
      refine ⟨mi hs rfl rfl f0 fN, ?_⟩
      rw [s1.row (g := 23) rfl]
      refine c_mkv hd (cE hs).1 ⟨by omega, by omega⟩ ⟨by omega, by omega⟩ f0 f16 (by rw [s1.row (g := 20) rfl]; exact Or.inr ef) (fun κ hm => ?_)
      have hκ := hs.mk hm (by omega) own (Or.inr ef) (hc _ (by omega) (by omega) (by omega))
      refine ⟨mi hκ rfl rfl f0 fN, ?_⟩
      rw [hκ.1.row (g := 27) rfl]
      have f3 : SF (fun j => B ≤ (j : Int) ∧ C j) ν κ := hm.1.sub (fun j hj => by rw [hj]; exact ⟨by omega, hc _ (by omega) (by omega) (by omega)⟩)
      refine ME.mono (ih _ κ _ _ hκ (fun h0 => ?_) (by omega) ⟨mm + 1, hon.snoc f0⟩ (by omega) hf) (fun _ ζ hz => ⟨QB.tr f3 (by omega) hz.1, fun e => ?_⟩) (fun _ h => h)
      · rcases f2 with f2 | f2
        · rw [f2] at h0; exact absurd h0 (by decide)
        · omega
      obtain ⟨b, ⟨b1, b1'⟩, b2, b3, b4⟩ := hz.2 e
      have o1 := hm.2.1
      have o2 := hm.2.2.1
      have zz : ζ.2.1 28 f.toNatClampNeg = κ.2.1 28 f.toNatClampNeg := hz.1.1.r13 (by rw [hκ.1.row (g := 20) rfl]; exact Or.inr ef) (fun hj => by omega)
      have zr := hκ.1.tr (hz.1.1.sub (C' := C) (fun j hj => hj.2))
      have z24 : ζ.2.1 24 f.toNatClampNeg = μ.2.1 24 f.toNatClampNeg := (zr.fld (f := 2) (j := f.toNatClampNeg) (by decide)).resolve_right (fun h => by rw [ef] at h; exact absurd h.1 (by decide))
      refine ⟨b, ⟨by omega, b1'⟩, Or.inr ⟨⟨⟨f0, f1⟩, ?_, ?_, ?_, ?_, ?_⟩, ?_⟩, b3, b4⟩
      · rw [zr.row (g := 20) rfl]; exact ef
      · rw [zr.row (g := 27) rfl]; exact f2
      · rw [zz, z24, zr.row (g := 23) rfl, ← hk]
        exact VX.sf hm.2.2.2.1 hz.1.1
      · rw [zz]; omega
      · rw [zz]; omega
      · rw [zr.row (g := 27) rfl] at b2 ⊢
        exact b2
    refine v_nameBody_20 _ _ _ _ ⟨fun h => by omega, fun _ => ⟨mi hs rfl rfl f0 fN, fun hne => go 1 ?_, fun he => go 2 ?_⟩⟩
    · rw [r24] at hne; rw [if_neg hne]
    · rw [r24] at he; rw [if_pos he]
/-- a PROCEDURE's body -/
theorem bo_step (hT : TyN X W P d h) (hS : StsN X W P d h K) (hd : 1 ≤ d) (hC : CXs n N V w μ) (h62 : (μ.1 62).toInt = 0) (h0 : 0 ≤ lo) (hN : hi ≤ N) (hP : PK μ h K 2 4 lo hi w p) (ek : μ.2.1 20 p.toNatClampNeg = 9) : MC X W true (d + 1) 357 [.ref P.1, .int p] P μ (fun _ μ1 => SFw (bt lo hi) w μ μ1 ∧ (μ1.1 17 = 0 → BdP μ1 h K p lo hi)) T := by
  obtain ⟨⟨i1, i2, i3⟩, g3, c, u, ⟨b0, b5⟩, hw, F⟩ := hP
  rw [ek] at hw F
  have e9 : ow (9 : Int32) = 1 := by decide
  rw [e9] at hw
  have hcp := @ic p
  have F1 : FK μ h K 2 (1, 8) (c 1) (c 2) (u 1) (μ.2.1 23 p.toNatClampNeg) := F 1 (by decide)
  have F2 : FK μ h K 2 (3, 19) (c 2) (c 3) (u 2) (μ.2.1 24 p.toNatClampNeg) := F 2 (by decide)
  have F3 : FK μ h K 2 (3, 3) (c 3) (c 4) (u 3) (μ.2.1 25 p.toNatClampNeg) := F 3 (by decide)
  have q0 : c 0 ≤ c 1 := (F 0 (by decide)).1
  have q1 := F1.1
  have q2 := F2.1
  have q3 := F3.1
  have q4 : c 4 ≤ c 5 := (F 4 (by decide)).1
  obtain ⟨-, ⟨gS, -, f8⟩, nS⟩ := F1
  obtain ⟨mF, hmF, hF⟩ := f8 rfl
  obtain ⟨-, -, hL⟩ := F2
  obtain ⟨mL, hmL⟩ : LK μ h K 1 19 (c 2) (c 3) (u 2) (μ.2.1 24 p.toNatClampNeg) := hL (by decide)
  obtain ⟨-, bB, -⟩ := F3
  have bB := bB rfl
  have pN : bt 0 N p.toNatClampNeg := ⟨by omega, by omega⟩
  have hsi := gS.in
  have sgN : bt 0 N (μ.2.1 23 p.toNatClampNeg).toNatClampNeg := ⟨by have := hsi.2.1; omega, by have := hsi.2.2; omega⟩
  have hfm : Lst (fun f => (0 ≤ f.toInt ∧ bt (c 1) (c 2) f.toNatClampNeg ∧ (μ.2.1 27 f.toNatClampNeg = -1 ∨ f.toInt < (μ.2.1 27 f.toNatClampNeg).toInt)) ∧ μ.2.1 20 f.toNatClampNeg = 13) (μ.2.1 27) mF (μ.2.1 22 (μ.2.1 23 p.toNatClampNeg).toNatClampNeg) := by
    cases h with
    | zero => exact gS.elim
    | succ k =>
      obtain ⟨-, ⟨m9, h9⟩, -⟩ := fk12 gS
      exact (Lst.and (fun x hx => hx.1) hF h9).mono (fun x hx => ⟨hx.1, hx.2.k13⟩) (fun _ _ => rfl)
  have hst : StB (bt lo hi) μ p (μ.1 52).toInt (c 1) 0 μ := ⟨SF.rf, ⟨by omega, Int.le_refl _, by omega⟩, fun k hk => by omega, fun v hv1 hv2 => by omega, id⟩
  refine me_meth (by omega) rfl (v_nameBody_0 _ ⟨hC.mi rfl rfl i1 pN, hC.mi rfl rfl hsi.1 sgN, ?_⟩)
  refine ME.mono (bo_formals (c1 := c 1) (c2 := c 2) (c3 := c 3) (c4 := c 4) (u1 := u 1) (mL := mL) (K := K) (h := h) hd hC h62 (by omega) (by omega) (by omega) i1 pN ek rfl (fun j j1 j2 j3 => ⟨by omega, by omega⟩) (by omega) (fun ν B U hs hB hU => ?_) mF _ μ (c 1) 0 hst (fun hf0 => ?_) q1 ⟨0, rfl⟩ (by omega) hfm) (fun _ ζ hz => ?_) (fun _ h => h)
  · exact bo_locals hT hS hd hC h62 (by omega) (by omega) q3 i1 pN ek bB (fun j j1 j2 j3 => ⟨by omega, by omega⟩) (u12 := u 1 + u 2) (by omega) mL (c 2) (u 2) _ ν B U hs (by omega) (by omega) hB ⟨0, rfl⟩ (by omega) hmL
  · cases mF with
    | zero =>
      have hfm : μ.2.1 22 (μ.2.1 23 p.toNatClampNeg).toNatClampNeg = -1 := hfm
      rw [hfm] at hf0; exact absurd hf0 (by decide)
    | succ mF =>
      rcases hfm with e | ⟨e, -⟩
      · rw [e] at hf0; exact absurd hf0 (by decide)
      · have := e.1.2.1.1
        have hcf := @ic (μ.2.1 22 (μ.2.1 23 p.toNatClampNeg).toNatClampNeg)
        omega
  · obtain ⟨⟨z1, z2, z3, z4⟩, z5⟩ := hz
    have zr := z1.sub (C' := bt lo hi) (fun j hj => hj.2)
    have e24 : ζ.2.1 24 p.toNatClampNeg = μ.2.1 24 p.toNatClampNeg := (zr.fld (f := 2) (j := p.toNatClampNeg) (by decide)).resolve_right (fun h => by rw [ek] at h; exact absurd h.1 (by decide))
    refine ⟨⟨zr, z2, z3, fun k hk => by omega, z4⟩, fun e => ?_⟩
    obtain ⟨b, ⟨b1, b2⟩, b3, b4, b5, b6⟩ := z5 e
    refine ⟨c 1, c 2, c 3, c 4, (μ.1 52).toInt, b, ⟨by omega, q1, q2, q3, by omega⟩, ⟨hC.2.2.2.1.1, b1, b2⟩, ⟨mF, ?_⟩, ⟨mL, ?_⟩, b5, b6⟩
    · rw [zr.row (g := 23) rfl, zr.row (g := 22) rfl]; exact b3
    · rw [e24]; exact b4
end NNC
