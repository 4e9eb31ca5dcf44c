/-! contracts of the reference: the whole round of names -/
/-- a program parsed, and some nodes more that are none of its own -/
def PT2 (ν : MS) : Prop := ∃ N : Int, LRow ν.2.2 ∧ (0 ≤ (ν.1 41).toInt ∧ (ν.1 41).toInt ≤ 12) ∧ (0 ≤ (ν.1 32).toInt ∧ (ν.1 32).toInt < 6002) ∧ (0 ≤ N ∧ N ≤ (ν.1 19).toInt ∧ (ν.1 19).toInt ≤ 12100) ∧ (∀ i : Nat, (i : Int) < (ν.1 41).toInt → G ν 400 (fun j => (j : Int) < N) 20 (ν.2.1 42 i)) ∧ (∀ j : Nat, (j : Int) < N → 0 ≤ (ν.2.1 29 j).toInt ∧ (ν.2.1 29 j).toInt < (ν.1 41).toInt) ∧ (∀ j : Nat, (j : Int) < (ν.1 19).toInt → ν.2.1 28 j = -1) ∧
  (∀ j : Nat, (j : Int) < (ν.1 19).toInt → sp (ν.2.1 20 j) = true → ∃ i : Nat, (i : Int) < (ν.1 41).toInt ∧ (∃ m, Up ν 0 N m j (ν.2.1 42 i).toNatClampNeg)) ∧ ∃ (c : Nat → Int) (V : Nat → Nat), V 0 = 0 ∧ (∀ i : Nat, (i : Int) < (ν.1 41).toInt → V i ≤ V (i + 1) ∧ (0 ≤ c i ∧ c i ≤ c (i + 1) ∧ c (i + 1) ≤ N) ∧ PK ν 400 20 3 20 (c i) (c (i + 1)) (V (i + 1) - V i) (ν.2.1 42 i)) ∧ (0 ≤ c (ν.1 41).toNatClampNeg ∧ c (ν.1 41).toNatClampNeg ≤ N) ∧ 2 * (V (ν.1 41).toNatClampNeg : Int) ≤ (ν.1 32).toInt
/-- what the round of names leaves -/
def NmR (μ ζ : MS) : Prop := kf [17, 18, 43, 52, 56, 59, 60, 62] [24, 26, 28, 44, 45, 46, 47, 48, 49, 50, 51, 53, 54, 55, 57, 58, 61, 63, 64] μ ζ ∧ (NE (μ.1 41).toInt ζ ∧ NI ζ) ∧ (∀ f j, f < 5 → ζ.2.1 (22 + f) j = μ.2.1 (22 + f) j ∨ (μ.2.1 20 j = 70 ∧ (f = 2 ∨ f = 4))) ∧ ((0 ≤ (ζ.1 52).toInt ∧ (ζ.1 52).toInt ≤ 3200) ∧ (0 ≤ (ζ.1 56).toInt ∧ (ζ.1 56).toInt ≤ (ζ.1 43).toInt) ∧ 0 ≤ (ζ.1 60).toInt ∧ (ζ.1 60).toInt ≤ (ζ.1 43).toInt) ∧ (∀ w : Nat, (w : Int) < (μ.1 41).toInt → ζ.2.1 51 w = if μ.2.1 26 (μ.2.1 42 w).toNatClampNeg = 1 then 1 else 0) ∧
  (ζ.1 17 = 0 → (∃ c : Nat → Int, ∀ i : Nat, (i : Int) < (μ.1 41).toInt → (0 ≤ c i ∧ c i ≤ c (i + 1) ∧ c (i + 1) ≤ (μ.1 19).toInt) ∧ UnN ζ 400 20 (c i) (c (i + 1)) (μ.2.1 42 i)) ∧ (∀ s : Nat, (s : Int) < (ζ.1 43).toInt → SyF μ (μ.1 19).toInt ζ s) ∧ (∀ p : Nat, 1 ≤ p → (p : Int) ≤ (ζ.1 56).toInt → PrF μ (μ.1 19).toInt ζ p) ∧ ∀ k : Nat, (k : Int) < (ζ.1 60).toInt → TyF μ ζ k)
theorem WL.onl {E : Int → Int → Nat → Int32 → Prop} {nx : Nat → Int32} {hi : Int} {y : Int32} (y0 : 0 ≤ y.toInt) : ∀ {m k : Nat} {lo : Int} {w : Nat} {x : Int32}, WL E nx m lo hi w x → Onl nx k x y → ∃ lo' hi' v, (lo ≤ lo' ∧ hi' ≤ hi) ∧ E lo' hi' v y
  | m, k, lo, w, x, hW, hO => by
    have neg : x = -1 → False := fun e => by
      subst e
      cases k with
      | zero =>
        have hO : (-1 : Int32) = y := hO
        rw [← hO] at y0
        exact absurd y0 (by decide)
      | succ k => exact absurd hO.1 (by decide)
    cases m with
    | zero => exact (neg hW.1).elim
    | succ m =>
      rcases hW with hW | ⟨mid, v, ⟨k1, k2, k3⟩, k4, k5⟩
      · exact (neg hW.1).elim
      cases k with
      | zero =>
        have hO : x = y := hO
        subst hO
        exact ⟨lo, mid, v, ⟨Int.le_refl _, k2⟩, k4⟩
      | succ k =>
        obtain ⟨lo', hi', v', ⟨a1, a2⟩, a3⟩ := WL.onl y0 k5 hO.2
        exact ⟨lo', hi', v', ⟨by omega, a2⟩, a3⟩
theorem smF.le {f g V : Nat → Nat} {u : Nat} (h : ∀ i, i < u → V i ≤ V (i + 1) ∧ f i + g i ≤ V (i + 1) - V i) : ∀ i, i ≤ u → smF f i + smF g i ≤ V i
  | 0, _ => Nat.zero_le _
  | i + 1, hi => by
    have ih := smF.le h i (by omega)
    obtain ⟨h1, h2⟩ := h i (by omega)
    show smF f i + f i + (smF g i + g i) ≤ V (i + 1)
    omega
section NNP
variable {X : ev_X} {W : Nat → Prop} {d h K : Nat} {P : MP} {μ ν κ ζ : MS} {B n N lo hi : Int} {C : Nat → Prop} {T : MS → Prop} {s p k : Nat} {x : Int32}
theorem SyF.sf (hs : SyF μ B ν s) (h1 : (s : Int) < (ν.1 43).toInt) (hall : ∀ s' : Nat, (s' : Int) < (ν.1 43).toInt → SyF μ B ν s') (hN : SF C ν ζ) (hr : ∀ a, a = 20 ∨ a = 22 ∨ a = 23 ∨ a = 27 → ζ.2.1 a = μ.2.1 a) (hr4 : ∀ j, μ.2.1 20 j = 1 → ζ.2.1 24 j = μ.2.1 24 j) (hU : ∀ i : Nat, (i : Int) < (μ.1 41).toInt → ∃ lo hi, UnN ζ h K lo hi (μ.2.1 42 i)) : SyF μ B ζ s := by
  have r20 := hr 20 (Or.inl rfl)
  have r22 := hr 22 (Or.inr (Or.inl rfl))
  have r23 := hr 23 (Or.inr (Or.inr (Or.inl rfl)))
  have r27 := hr 27 (Or.inr (Or.inr (Or.inr rfl)))
  unfold SyF
  rw [hN.row (g := 45) rfl, hN.row (g := 46) rfl, hN.row (g := 47) rfl, hN.row (g := 61) rfl, hN.1.1 60 rfl, hN.1.1 56 rfl]
  rcases hs with a | a | a | ⟨a1, ⟨w, dv, m, ⟨hw, m', ho, d0⟩, ed, ho2, hv⟩, ⟨b0, b1⟩, h28⟩ | a
  · exact Or.inl a
  · exact Or.inr (Or.inl a)
  · exact Or.inr (Or.inr (Or.inl a))
  · refine Or.inr (Or.inr (Or.inr (Or.inl ⟨a1, ⟨w, dv, m, ⟨hw, m', ho, d0⟩, ed, ho2, hv.sf hN⟩, ⟨b0, b1⟩, ?_⟩)))
    obtain ⟨lo, hi, -, f2, c2, c3, c4, mm, -, f3, -⟩ := hU w hw
    rw [r20] at f2
    rw [r27, hr4 _ f2] at f3
    obtain ⟨lo', hi', v, -, -, hD⟩ := WL.onl d0 f3 ho
    obtain ⟨c0, c1, m9, -, g⟩ := hD.2.2 (by rw [r20]; exact ed)
    rw [r27, r22] at g
    obtain ⟨lo2, hi2, v2, -, -, -, -, s', s1, s2, s3, s4⟩ := WL.onl b0 g ho2
    rw [hN.1.1 43 rfl] at s1
    rw [hN.row (g := 45) rfl] at s2
    rw [hN.row (g := 46) rfl] at s3
    rw [hN.row (g := 47) rfl] at s4
    have e28 : ν.2.1 28 (ν.2.1 46 s').toNatClampNeg = ν.2.1 47 s' := by
      rcases hall s' s1 with e | e | ⟨e, -⟩ | ⟨-, -, -, e⟩ | ⟨e, -⟩
      · rw [s2] at e; exact absurd e (by decide)
      · rw [s2] at e; exact absurd e (by decide)
      · rw [s2] at e; rcases e with e | e <;> exact absurd e (by decide)
      · exact e
      · rw [s2] at e; exact absurd e (by decide)
    rw [← s4, ← e28, s3]
    exact h28
  · exact Or.inr (Or.inr (Or.inr (Or.inr a)))
theorem PrF.sf (hp : PrF μ B ν p) (hN : SF C ν ζ) (h20 : ν.2.1 20 = μ.2.1 20) : PrF μ B ζ p := by
  unfold PrF
  rw [hN.row (g := 57) rfl, hN.row (g := 58) rfl]
  refine ⟨hp.1, hp.2.imp id (fun ⟨h1, h2, h3, h4⟩ => ⟨h1, h2, h3, ?_⟩)⟩
  have e28 : ζ.2.1 28 (ν.2.1 58 p).toNatClampNeg = ν.2.1 28 (ν.2.1 58 p).toNatClampNeg := by
    rcases hN.2.2.2 (ν.2.1 58 p).toNatClampNeg with ⟨-, -, e2⟩ | ⟨e2, -⟩ | ⟨-, e2⟩ | ⟨-, e2, -⟩
    · exact e2
    · rw [h20, h2] at e2; exact absurd e2 (by decide)
    · rw [h20, h2] at e2; exact absurd e2 (by decide)
    · rw [h20, h2] at e2; rcases e2 with e2 | e2 <;> exact absurd e2 (by decide)
  rw [e28]
  exact h4
theorem UnT.rows {w g : Nat} (hr : ∀ a, 20 ≤ a → a ≤ 27 → ζ.2.1 a = μ.2.1 a) (hX : UnT μ h K ν lo hi w g x) : UnT ζ h K ν lo hi w g x := by
  obtain ⟨i, ek, c2, c3, c4, m, wd, v3, q, hw, hG, hB⟩ := hX
  have hA : ∀ lo hi, Ag μ ζ lo hi := fun lo hi a a1 a2 j _ _ => Or.inr (by rw [hr a a1 a2])
  have r20 := hr 20 (by omega) (by omega)
  have r24 := hr 24 (by omega) (by omega)
  have r25 := hr 25 (by omega) (by omega)
  have r27 := hr 27 (by omega) (by omega)
  refine ⟨i, by rw [r20]; exact ek, c2, c3, c4, m, wd, v3, q, hw, ?_, ?_⟩
  · rw [r24]
    exact WG.cg (lo := c2) (fun lo' hi' v y _ _ hy => ⟨⟨PK.ag (Nat.le_refl _) (Nat.le_refl _) (hA _ _) hy.1, hy.2⟩, by rw [r27], by rw [r20]⟩) (Int.le_refl _) hG
  · rw [r25]
    exact BT.cg (Nat.le_refl _) K _ _ _ _ (hA _ _) hB
theorem c_nameRound (hd : 1272 ≤ d) (hP : PT2 μ) : MC X W true (d + 3) 349 [.ref P.1] P μ (fun _ ζ => NmR μ ζ) T := by
  obtain ⟨N, hL, ⟨u0, u12⟩, hat, ⟨n0, n1, n19⟩, -, h29, h28, -, c, V, V0, hU, ⟨cu0, cu1⟩, hV⟩ := hP
  have hcu := @ic (μ.1 41)
  obtain ⟨u, hu⟩ : ∃ u, u = (μ.1 41).toNatClampNeg := ⟨_, rfl⟩
  have hu1 : (u : Int) = (μ.1 41).toInt := by omega
  rw [← hu] at cu0 cu1 hV
  have hch : ∀ i, ∃ wg : Nat × Nat, i < u → UX μ 400 20 (c i) (c (i + 1)) (V (i + 1) - V i) wg.1 wg.2 (μ.2.1 42 i) := fun i => by
    by_cases hi : i < u
    · obtain ⟨wg, h⟩ := ux_of (hU i (by omega)).2.2
      exact ⟨wg, fun _ => h⟩
    · exact ⟨(0, 0), fun h => absurd h hi⟩
  obtain ⟨f, hf⟩ := Classical.skolem.mp hch
  have hsum := smF.le (f := fun j => (f j).1) (g := fun j => (f j).2) (V := V) (u := u) (fun i hi => ⟨(hU i (by omega)).1, (hf i hi).2.2.1⟩) u (Nat.le_refl _)
  have hSB : SB (μ.1 41).toInt μ (bt 0 N) := fun j hj => by
    obtain ⟨a1, a2⟩ := h29 j hj.2
    exact ⟨by have := hj.2; omega, a1, a2⟩
  refine me_meth (by omega) rfl (v_nameRound_0 (MC.mono (c_declareAll (d := d) (N := N) (f := f) (V := V) (c := c) (u := u) (by omega) hL h28 ⟨hu1, by omega⟩ hSB (by omega) (by omega) (fun i hi => ⟨(hU i (by omega)).1, (hU i (by omega)).2.1, hf i hi⟩)) (fun _ ζ hz => ?_) (fun _ h => h)))
  obtain ⟨hI, ⟨h43, h52⟩, hD⟩ := hz
  have k2 : kf [62] [] ζ (mS1 ζ 62 0) := kf.rf.S rfl
  have e62 : (mS1 ζ 62 0).1 62 = 0 := rfl
  generalize mS1 ζ 62 0 = ζ1 at *
  have z : (0 : Int32).toInt = 0 := rfl
  have z62 := eq_i e62
  rw [z] at z62
  have s1 : SF (fun _ => False) ζ ζ1 := ⟨k2.up rfl rfl, fun e => by rw [k2.1 17 rfl]; exact e, ⟨by rw [k2.1 52 rfl]; exact Int.le_refl _, fun v _ => ⟨by rw [k2.2.1 53 rfl], by rw [k2.2.1 54 rfl]⟩⟩, fun j => Or.inl ⟨by rw [k2.2.1 24 rfl], by rw [k2.2.1 26 rfl], by rw [k2.2.1 28 rfl]⟩⟩
  obtain ⟨hE, hk, ⟨hSy, hPr, hTy⟩, hNI, ⟨⟨n4, n5, n6⟩, n7, n2, n3⟩, h51⟩ := hI
  have hr : ∀ a, 20 ≤ a → a ≤ 27 → ζ1.2.1 a = μ.2.1 a := fun a a1 a2 => by
    have : a = 20 ∨ a = 21 ∨ a = 22 ∨ a = 23 ∨ a = 24 ∨ a = 25 ∨ a = 26 ∨ a = 27 := by omega
    rcases this with rfl | rfl | rfl | rfl | rfl | rfl | rfl | rfl <;> exact (k2.2.1 _ rfl).trans (hk.2.1 _ rfl)
  have r42 : ζ1.2.1 42 = μ.2.1 42 := (k2.2.1 42 rfl).trans (hk.2.1 42 rfl)
  have r29 : ζ1.2.1 29 = μ.2.1 29 := (k2.2.1 29 rfl).trans (hk.2.1 29 rfl)
  have i41 : (ζ1.1 41).toInt = (μ.1 41).toInt := eq_i ((k2.1 41 rfl).trans (hk.1 41 rfl))
  have i52 := eq_i (k2.1 52 rfl)
  have i43 := eq_i (k2.1 43 rfl)
  have hE1 : NE u ζ1 := hE.sf s1
  have cx : CXs u N (VS (fun _ => False) []) (smF (fun j => (f j).1) u - smF (fun j => (f j).1) 0) ζ1 := by
    refine ⟨hE1, fun j hj => ?_, ⟨⟨by omega, by omega⟩, fun k hk => by omega⟩, ⟨by omega, by omega⟩, by omega⟩
    rw [r29, hu1]
    exact hSB j hj
  refine ME.mono (nr_11 (μ := ζ1) (d := d) (h := 400) (K := 20) (n := u) (N := N) (c := c) (W1 := smF (fun j => (f j).1)) (u := u) (fun h' hh => ty_named 400 d h' hh (by omega)) (ty_named 400 (d + 1) 400 (Nat.le_refl _) (by omega)) (stm_named 20 d (by omega)) (stm_named 20 (d + 2) (by omega)) (by omega) ⟨by omega, by omega⟩ (fun i hi => ⟨Nat.le_add_right _ _, (hU i (by omega)).2.1⟩) u 0 0 ζ1 (by omega) rfl SF.rf cx (Nat.zero_le _) z62 (fun j _ hj => ⟨(f j).2, ?_⟩) (fun _ j hj => by omega)) (fun _ ζ2 h2 => ?_) (fun _ h => h)
  · rw [r42, show smF (fun j => (f j).1) (j + 1) - smF (fun j => (f j).1) j = (f j).1 from Nat.add_sub_cancel_left _ _]
    exact ((hD j hj).sf s1 (fun _ _ h => h)).rows hr
  · obtain ⟨y1, y2⟩ := h2
    have s2 := (s1.sub (C' := bt 0 N) (fun _ h => h.elim)).tr y1.1
    have j52 := y1.2.1
    have l52 := y1.1.2.2.1.1
    have j43 := eq_i (s2.1.1 43 rfl)
    have j56 := eq_i (s2.1.1 56 rfl)
    have j60 := eq_i (s2.1.1 60 rfl)
    have k20 : ζ.2.1 20 = μ.2.1 20 := hk.2.1 20 rfl
    have hfl : ∀ f j, f < 5 → ζ2.2.1 (22 + f) j = μ.2.1 (22 + f) j ∨ (μ.2.1 20 j = 70 ∧ (f = 2 ∨ f = 4)) := fun f j hf => by
      have e := y1.1.fld (f := f) (j := j) hf
      rw [hr (22 + f) (by omega) (by omega), hr 20 (by omega) (by omega)] at e
      exact e
    refine ⟨(hk.up rfl rfl).tr (s2.1.up rfl rfl), ⟨?_, y1.2.2.2.2 (hNI.kf k2 rfl rfl rfl rfl)⟩, hfl, ⟨⟨by omega, by omega⟩, ⟨by omega, by omega⟩, by omega, by omega⟩, fun w hw => ?_, fun e => ?_⟩
    · rw [← hu1]; exact hE1.sf y1.1
    · rw [s2.row (g := 51) rfl]; exact h51 w (by omega)
    have hUn : ∀ i : Nat, (i : Int) < (μ.1 41).toInt → UnN ζ2 400 20 (c i) (c (i + 1)) (μ.2.1 42 i) := fun i hi => by
      have := y2 e i (by omega)
      rw [r42] at this
      exact this
    refine ⟨⟨c, fun i hi => ⟨⟨(hU i hi).2.1.1, (hU i hi).2.1.2.1, by have := (hU i hi).2.1.2.2; omega⟩, hUn i hi⟩⟩, fun s hs => ?_, fun p p1 p2 => ?_, fun k hk2 => ?_⟩
    · refine SyF.up (B := c u) (SyF.sf (h := 400) (K := 20) (hSy s (by omega)) (by omega) hSy s2 (fun a ha => ?_) (fun j hj => ?_) (fun i hi => ⟨_, _, hUn i hi⟩)) (by omega)
      · rcases ha with rfl | rfl | rfl | rfl <;> exact (s2.row rfl).trans (hk.2.1 _ rfl)
      · exact (hfl 2 j (by omega)).resolve_right (fun h => by rw [hj] at h; exact absurd h.1 (by decide))
    · exact PrF.up (B := c u) ((hPr p p1 (by omega)).sf s2 k20) (by omega)
    · have := hTy k (by omega)
      unfold TyF at this ⊢
      rw [s2.row (g := 61) rfl]
      exact this
end NNP
