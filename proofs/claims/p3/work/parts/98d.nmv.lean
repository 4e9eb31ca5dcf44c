/-! contracts of the reference: a PROCEDURE's body named -/
/-- the body behind FORMALs and local names: whose the variables are, and its statements -/
def RsB (C : Nat → Prop) (ζ : MS) (h K : Nat) (p : Int32) (a b c3 c4 : Int) : Prop := (∀ v : Int32, a ≤ v.toInt → v.toInt < b → ∃ y, Own ζ p y ∧ ((ζ.2.1 20 y = 10 ∨ ζ.2.1 20 y = 13) ∧ C y) ∧ ζ.2.1 28 y = v) ∧ BN ζ h (fun v => a ≤ v.toInt ∧ v.toInt < b) K [] c3 c4 (ζ.2.1 25 p.toNatClampNeg)
/-- from under way to the end -/
def QB (C : Nat → Prop) (μ : MS) (B lim : Int) (ν ζ : MS) : Prop := SF (fun j => B ≤ (j : Int) ∧ C j) ν ζ ∧ (ζ.1 52).toInt ≤ lim ∧ ζ.1 62 = μ.1 62 ∧ (NI μ → NI ζ)
section NNB
variable {X : ev_X} {W : Nat → Prop} {d h K : Nat} {P : MP} {μ ν κ ζ : MS} {V : Int32 → Prop} {p : Int32} {a b B lo hi n N : Int} {U w y : Nat} {C : Nat → Prop} {T : MS → Prop}
theorem Own.sf (hO : Own μ p y) (hN : SF C μ ζ) (ek : μ.2.1 20 p.toNatClampNeg = 9) : Own ζ p y := by
  have e24 : ζ.2.1 24 p.toNatClampNeg = μ.2.1 24 p.toNatClampNeg := (hN.fld (f := 2) (j := p.toNatClampNeg) (by decide)).resolve_right (fun h => by rw [ek] at h; exact absurd h.1 (by decide))
  unfold Own
  rw [hN.row (g := 27) rfl, hN.row (g := 22) rfl, hN.row (g := 23) rfl, e24]
  exact hO
theorem QB.tr {B' lim : Int} (h1 : SF (fun j => B ≤ (j : Int) ∧ C j) ν κ) (hB : B ≤ B') (h2 : QB C μ B' lim κ ζ) : QB C μ B lim ν ζ := ⟨h1.tr (h2.1.sub (fun j hj => ⟨by omega, hj.2⟩)), h2.2⟩
/-- the statements of the body, at its end -/
theorem bo_tail {x4 : Int32} {c3 c4 : Int} {v3 : Nat} {sg : Int32} (hS : StsN X W P d h K) (hC : CXs n N V w μ) (h62 : (μ.1 62).toInt = 0) (h0 : 0 ≤ c3) (hN : c4 ≤ N) (p0 : 0 ≤ p.toInt) (pN : bt 0 N p.toNatClampNeg) (ek : μ.2.1 20 p.toNatClampNeg = 9) (hB3 : BT μ h K c3 c4 v3 (μ.2.1 25 p.toNatClampNeg)) (hc : ∀ j, bt c3 c4 j → C j) (hst : StB C μ p (μ.1 52).toInt B U ν) (hBc : B ≤ c3) (hU : U + v3 ≤ w) (hx : x4.toInt < 0) :
    ME X W true d 357 97 [(0, .ref P.1), (1, .int p), (2, .int (μ.1 62)), (3, .int sg), (4, .int x4)] [] P ν (fun _ ζ => QB C μ B ((μ.1 52).toInt + w) ν ζ ∧ (ζ.1 17 = 0 → ∃ b, ((ν.1 52).toInt ≤ b ∧ b ≤ (ζ.1 52).toInt) ∧ RsB C ζ h K p (μ.1 52).toInt b c3 c4)) T := by
  obtain ⟨s1, ⟨s2, s3, s4⟩, s5, s6, s7⟩ := id hst
  obtain ⟨c1, c2, c3', ⟨c4', c5⟩, c6⟩ := hC
  have pC : CXs n N (VS (fun v => (μ.1 52).toInt ≤ v.toInt ∧ v.toInt < (ν.1 52).toInt) []) v3 ν := ⟨c1.sf s1, c2.sf s1, ⟨⟨by omega, by omega⟩, fun k hk => Or.inr (s5 k hk)⟩, ⟨by omega, by omega⟩, by omega⟩
  refine v_nameBody_97 _ _ _ _ ⟨fun _ => ⟨pC.mi rfl rfl p0 pN, ?_⟩, fun h => by omega⟩
  rw [s1.row (g := 25) rfl]
  refine MC.mono (hS ν _ n N _ [] c3 c4 v3 _ pC h0 hN (BT.cg (Nat.le_refl _) K _ _ _ _ s1.ag hB3)) (fun _ κ hk => ?_) (fun _ h => h)
  obtain ⟨q1, q2⟩ := hk
  have k5 : kf [62] [63, 64] κ (mS1 κ 62 (μ.1 62)) := kf.rf.S rfl
  have f5 : ∀ C, SF C κ (mS1 κ 62 (μ.1 62)) := fun C => SF.seen k5
  have z1 : SF (fun j => B ≤ (j : Int) ∧ C j) ν (mS1 κ 62 (μ.1 62)) := (q1.1.sub (fun j hj => ⟨by have := hj.1; omega, hc j hj⟩)).tr (f5 _)
  have zμ : SF (fun _ => True) μ (mS1 κ 62 (μ.1 62)) := (s1.sub (fun _ _ => trivial)).tr (z1.sub (fun _ _ => trivial))
  refine ⟨⟨z1, ?_, rfl, fun hI => ?_⟩, fun e => ⟨(ν.1 52).toInt, ⟨Int.le_refl _, z1.2.2.1.1⟩, fun v hv1 hv2 => ?_, ?_⟩⟩
  · show (κ.1 52).toInt ≤ _
    have := q1.2.1
    omega
  · have := q1.2.2.2.2 (s7 hI)
    exact this
  · obtain ⟨y, y1, ⟨y2, y3, yC⟩, y4⟩ := s6 v hv1 hv2
    refine ⟨y, y1.sf zμ ek, ⟨by rw [zμ.row (g := 20) rfl]; exact y3, yC⟩, ?_⟩
    rw [z1.r13 (by rw [s1.row (g := 20) rfl]; exact y3) (fun h => by omega)]
    exact y4
  · rw [zμ.row (g := 25) rfl]
    exact BN.sf (f5 (fun _ => False)) K _ _ _ _ (fun _ _ h => h) (q2 e)
/-- the VARs of a body, one after the other -/
theorem bo_locals {c3 c4 : Int} {v3 u12 : Nat} {sg : Int32} (hT : TyN X W P d h) (hS : StsN X W P d h K) (hd : 1 ≤ d) (hC : CXs n N V w μ) (h62 : (μ.1 62).toInt = 0) (h0 : 0 ≤ c3) (hN : c4 ≤ N) (hcc : c3 ≤ c4) (p0 : 0 ≤ p.toInt) (pN : bt 0 N p.toNatClampNeg) (ek : μ.2.1 20 p.toNatClampNeg = 9) (hB3 : BT μ h K c3 c4 v3 (μ.2.1 25 p.toNatClampNeg)) (hc : ∀ j : Nat, 0 ≤ (j : Int) → p.toInt < j → (j : Int) < c4 → C j) (hu : u12 + v3 ≤ w) :
    ∀ (m : Nat) (l : Int) (w2 : Nat) (x : Int32) (ν : MS) (B : Int) (U : Nat), StB C μ p (μ.1 52).toInt B U ν → p.toInt < l → 0 ≤ l → B ≤ l → (∃ mm, Onl (μ.2.1 27) mm (μ.2.1 24 p.toNatClampNeg) x) → U + w2 ≤ u12 → WL (PK μ h K 1 19) (μ.2.1 27) m l c3 w2 x →
    ME X W true d 357 97 [(0, .ref P.1), (1, .int p), (2, .int (μ.1 62)), (3, .int sg), (4, .int x)] [] P ν (fun _ ζ => QB C μ B ((μ.1 52).toInt + w) ν ζ ∧ (ζ.1 17 = 0 → ∃ b, ((ν.1 52).toInt ≤ b ∧ b ≤ (ζ.1 52).toInt) ∧ WL (fun lo hi _ l => LcP ζ h (μ.1 52).toInt b lo hi l) (ζ.2.1 27) m l c3 0 x ∧ RsB C ζ h K p (μ.1 52).toInt b c3 c4)) T
  | 0, l, w2, x, ν, B, U, hst, hpl, hl0, hBl, hon, hU, hx => by
    obtain ⟨hx, hlc⟩ := hx
    subst hx
    refine ME.mono (bo_tail (sg := sg) (B := B) hS hC h62 h0 hN p0 pN ek hB3 (fun j hj => hc j (by have := hj.1; omega) (by have := hj.1; omega) hj.2) hst (by omega) (by omega) (by decide)) (fun _ ζ hz => ⟨hz.1, fun e => ?_⟩) (fun _ h => h)
    obtain ⟨b, b1, b2⟩ := hz.2 e
    exact ⟨b, b1, ⟨rfl, hlc⟩, b2⟩
  | m + 1, l, w2, x, ν, B, U, hst, hpl, hl0, hBl, hon, hU, hx => by
    rcases hx with ⟨hx, hlc⟩ | ⟨mid, v, ⟨k1, k2, k3⟩, k4, k5⟩
    · subst hx
      refine ME.mono (bo_tail (sg := sg) (B := B) hS hC h62 h0 hN p0 pN ek hB3 (fun j hj => hc j (by have := hj.1; omega) (by have := hj.1; omega) hj.2) hst (by omega) (by omega) (by decide)) (fun _ ζ hz => ⟨hz.1, fun e => ?_⟩) (fun _ h => h)
      obtain ⟨b, b1, b2⟩ := hz.2 e
      exact ⟨b, b1, Or.inl ⟨rfl, hlc⟩, b2⟩
    obtain ⟨⟨i1, i2, i3⟩, g3, c, u, ⟨b0, b5⟩, hw, F⟩ := k4
    have hcx := @ic x
    have ex : μ.2.1 20 x.toNatClampNeg = 7 := by
      have g3 : ([7] : List Int32).contains (μ.2.1 20 x.toNatClampNeg) = true := g3
      simpa using g3
    rw [ex] at hw F
    have F0 : FK μ h K 1 (4, 6) (c 0) (c 1) (u 0) (μ.2.1 22 x.toNatClampNeg) := F 0 (by decide)
    have F1 : FK μ h K 1 (1, 0) (c 1) (c 2) (u 1) (μ.2.1 23 x.toNatClampNeg) := F 1 (by decide)
    have q0 := F0.1
    have q1 := F1.1
    have q2 : c 2 ≤ c 3 := (F 2 (by decide)).1
    have q3 : c 3 ≤ c 4 := (F 3 (by decide)).1
    have q4 : c 4 ≤ c 5 := (F 4 (by decide)).1
    obtain ⟨-, -, -, hL6⟩ := F0
    obtain ⟨m6, hm6⟩ : LK μ h K 0 6 (c 0) (c 1) (u 0) (μ.2.1 22 x.toNatClampNeg) := hL6 (by decide)
    obtain ⟨-, ⟨gT, -⟩, nT⟩ := F1
    obtain ⟨mm, hon⟩ := hon
    have e7 : ow (7 : Int32) = 0 := by decide
    have xN : bt 0 N x.toNatClampNeg := ⟨by omega, by omega⟩
    have cE : ∀ {ν : MS} {B : Int} {U : Nat}, StB C μ p (μ.1 52).toInt B U ν → NE n ν ∧ SB n ν (bt 0 N) := fun hs => ⟨hC.1.sf hs.1, hC.2.1.sf hs.1⟩
    have mi : ∀ {ν : MS} {B : Int} {U : Nat} {g : Nat} {i : Int32}, StB C μ p (μ.1 52).toInt B U ν → rk g = true → rlen g = 16000 → 0 ≤ i.toInt → bt 0 N i.toNatClampNeg → MI i (ν.2.2 g) := fun {ν B U g i} hs hg hr a0 a1 => by
      have hci := @ic i
      have := ((cE hs).2 _ a1).1
      exact MI.of ((cE hs).1.1.g hg hr) a0 (by omega)
    -- the names of this VAR, then the VARs behind it
    have key : ∀ (m' : Nat) (l1 : Int) (w3 : Nat) (y : Int32) (κ : MS) (B' : Int) (U' : Nat), StB C μ p (μ.1 52).toInt B' U' κ → x.toInt < l1 → B' ≤ l1 → (∃ mm, Onl (μ.2.1 27) mm (μ.2.1 22 x.toNatClampNeg) y) → U' + w3 + (w2 - v) ≤ u12 → (κ.1 17 = 0 → NG κ h 0 (μ.2.1 23 x.toNatClampNeg)) → WL (PK μ h K 0 6) (μ.2.1 27) m' l1 (c 1) w3 y →
        ME X W true d 357 122 [(0, .ref P.1), (1, .int p), (2, .int (μ.1 62)), (3, .int sg), (4, .int x), (5, .int y)] [] P κ (fun _ ζ => QB C μ B' ((μ.1 52).toInt + w) κ ζ ∧ (ζ.1 17 = 0 → ∃ b, ((κ.1 52).toInt ≤ b ∧ b ≤ (ζ.1 52).toInt) ∧ WL (fun lo hi _ z => NmP ζ (μ.2.1 23 x.toNatClampNeg) (μ.1 52).toInt b lo hi z) (ζ.2.1 27) m' l1 (c 1) 0 y ∧ NG ζ h 0 (μ.2.1 23 x.toNatClampNeg) ∧ WL (fun lo hi _ l => LcP ζ h (μ.1 52).toInt b lo hi l) (ζ.2.1 27) m mid c3 0 (μ.2.1 27 x.toNatClampNeg) ∧ RsB C ζ h K p (μ.1 52).toInt b c3 c4)) T := by
      intro m'
      -- all names of it are made
      have out : ∀ (l1 : Int) (w3 : Nat) (κ : MS) (B' : Int) (U' : Nat), StB C μ p (μ.1 52).toInt B' U' κ → B' ≤ mid → U' + (w2 - v) ≤ u12 → (κ.1 17 = 0 → NG κ h 0 (μ.2.1 23 x.toNatClampNeg)) → ME X W true d 357 122 [(0, .ref P.1), (1, .int p), (2, .int (μ.1 62)), (3, .int sg), (4, .int x), (5, .int (-1))] [] P κ (fun _ ζ => QB C μ B' ((μ.1 52).toInt + w) κ ζ ∧ (ζ.1 17 = 0 → ∃ b, ((κ.1 52).toInt ≤ b ∧ b ≤ (ζ.1 52).toInt) ∧ NG ζ h 0 (μ.2.1 23 x.toNatClampNeg) ∧ WL (fun lo hi _ l => LcP ζ h (μ.1 52).toInt b lo hi l) (ζ.2.1 27) m mid c3 0 (μ.2.1 27 x.toNatClampNeg) ∧ RsB C ζ h K p (μ.1 52).toInt b c3 c4)) T := fun l1 w3 κ B' U' hκ hB' hU' hT' => by
        refine v_nameBody_122 _ _ _ _ _ ⟨fun _ => ⟨mi hκ rfl rfl i1 xN, ?_⟩, fun h => absurd h (by decide)⟩
        rw [hκ.1.row (g := 27) rfl]
        refine ME.mono (bo_locals hT hS hd hC h62 h0 hN hcc p0 pN ek hB3 hc hu m mid (w2 - v) _ κ B' U' hκ (by omega) (by omega) hB' ⟨mm + 1, hon.snoc i1⟩ hU' k5) (fun _ ζ hz => ⟨hz.1, fun e => ?_⟩) (fun _ h => h)
        obtain ⟨b, b1, b2, b3⟩ := hz.2 e
        exact ⟨b, b1, NG.sf hz.1.1 (by decide) (hT' (hz.1.1.z e)), b2, b3⟩
      induction m' with
      | zero =>
        intro l1 w3 y κ B' U' hκ hxl hB' hon' hU' hT' hy
        obtain ⟨hy, hlc⟩ := hy
        subst hy
        refine ME.mono (out l1 w3 κ B' U' hκ (by omega) (by omega) hT') (fun _ ζ hz => ⟨hz.1, fun e => ?_⟩) (fun _ h => h)
        obtain ⟨b, b1, b2, b3, b4⟩ := hz.2 e
        exact ⟨b, b1, ⟨rfl, hlc⟩, b2, b3, b4⟩
      | succ m' ih =>
        intro l1 w3 y κ B' U' hκ hxl hB' hon' hU' hT' hy
        rcases hy with ⟨hy, hlc⟩ | ⟨mid1, v1, ⟨r1, r2, r3⟩, r4, r5⟩
        · subst hy
          refine ME.mono (out l1 w3 κ B' U' hκ (by omega) (by omega) hT') (fun _ ζ hz => ⟨hz.1, fun e => ?_⟩) (fun _ h => h)
          obtain ⟨b, b1, b2, b3, b4⟩ := hz.2 e
          exact ⟨b, b1, Or.inl ⟨rfl, hlc⟩, b2, b3, b4⟩
        obtain ⟨⟨j1, j2, j3⟩, h3, -, uu, -, hw1, -⟩ := r4
        have hcy := @ic y
        have ey : μ.2.1 20 y.toNatClampNeg = 10 := by
          have h3 : ([10] : List Int32).contains (μ.2.1 20 y.toNatClampNeg) = true := h3
          simpa using h3
        have e10 : ow (10 : Int32) = 1 := by decide
        rw [ey, e10] at hw1
        obtain ⟨mm', hon'⟩ := hon'
        have yN : bt 0 N y.toNatClampNeg := ⟨by omega, by omega⟩
        have y16 : y.toInt < 16000 := by have := ((cE hκ).2 _ yN).1; omega
        have own : Own μ p y.toNatClampNeg := Or.inr ⟨mm, x, mm', y, hon, i1, hon', j1, rfl⟩
        obtain ⟨s1, ⟨s2, s3, s4⟩, -⟩ := id hκ
        obtain ⟨-, -, -, ⟨d4, d5⟩, d6⟩ := id hC
        refine v_nameBody_122 _ _ _ _ _ ⟨fun h => by omega, fun _ => loop130 hd 3200 _ κ (cE hκ).1.1 (by omega) (by omega) (by omega) ⟨j1, y16⟩ (fun κ2 x6 t1 t2 t3 => ?_)⟩
        have hκ2 := hκ.kf t1 t2
        have i52 := eq_i (t1.1 52 rfl)
        have i62 := eq_i (t1.1 62 rfl)
        refine v_nameBody_130 _ _ _ _ _ _ ⟨fun _ => ⟨mi hκ2 rfl rfl i1 xN, ?_⟩, fun h => absurd h (by omega)⟩
        rw [hκ2.1.row (g := 23) rfl]
        refine c_mkv hd (cE hκ2).1 ⟨by omega, by omega⟩ ⟨by omega, by omega⟩ j1 y16 (by rw [hκ2.1.row (g := 20) rfl]; exact Or.inl ey) (fun κ3 hm => ?_)
        have hκ3 := hκ2.mk hm (by omega) own (Or.inl ey) (hc _ (by omega) (by omega) (by omega))
        refine ⟨mi hκ3 rfl rfl j1 yN, ?_⟩
        rw [hκ3.1.row (g := 27) rfl]
        have fk : SF (fun j => B' ≤ (j : Int) ∧ C j) κ κ2 := by
          refine ⟨t1.up rfl rfl, t2, ⟨by omega, fun z _ => ⟨by rw [t1.2.1 53 rfl], by rw [t1.2.1 54 rfl]⟩⟩, fun j => Or.inl ⟨by rw [t1.2.1 24 rfl], by rw [t1.2.1 26 rfl], by rw [t1.2.1 28 rfl]⟩⟩
        have f3 : SF (fun j => B' ≤ (j : Int) ∧ C j) κ κ3 := fk.tr (hm.1.sub (fun j hj => by rw [hj]; exact ⟨by omega, hc _ (by omega) (by omega) (by omega)⟩))
        refine ME.mono (ih mid1 (w3 - v1) _ κ3 _ _ hκ3 (by omega) (by omega) ⟨mm' + 1, hon'.snoc j1⟩ (by omega) (fun e => NG.sf f3 (by decide) (hT' (f3.z e))) r5) (fun _ ζ hz => ⟨QB.tr f3 (by omega) hz.1, fun e => ?_⟩) (fun _ h => h)
        obtain ⟨b, ⟨b1, b1'⟩, b2, b3, b4, b5⟩ := hz.2 e
        have o1 := hm.2.1
        have o2 := hm.2.2.1
        have zz : ζ.2.1 28 y.toNatClampNeg = κ3.2.1 28 y.toNatClampNeg := hz.1.1.r13 (by rw [hκ3.1.row (g := 20) rfl]; exact Or.inl ey) (fun hj => by omega)
        refine ⟨b, ⟨by omega, b1'⟩, Or.inr ⟨mid1, 0, ⟨r1, r2, Nat.le_refl _⟩, ⟨⟨j1, j2, j3⟩, ?_, ?_, ?_, ?_⟩, ?_⟩, b3, b4, b5⟩
        · rw [hz.1.1.row (g := 20) rfl, hκ3.1.row (g := 20) rfl]; exact ey
        · rw [zz]
          exact VX.sf hm.2.2.2.1 hz.1.1
        · rw [zz]; omega
        · rw [zz]; omega
        · rw [hz.1.1.row (g := 27) rfl, hκ3.1.row (g := 27) rfl] at b2 ⊢
          exact b2
    refine v_nameBody_97 _ _ _ _ ⟨fun h => by omega, fun _ => ⟨mi hst rfl rfl i1 xN, ?_⟩⟩
    rw [hst.1.row (g := 23) rfl]
    refine MC.mono (hT ν _ n _ _ (cE hst).1 ((cE hst).2.sub (fun j (hj : bt (c 1) (c 2) j) => ⟨by have := hj.1; omega, by have := hj.2; omega⟩)) (G.ag hst.1.ag (fun _ h => h) (Nat.le_refl _) gT)) (fun _ κ hk => ?_) (fun _ h => h)
    obtain ⟨n1, n2⟩ := hk
    have hκ := hst.np (V := V) (S := fun _ => False) n1
    have f1 : SF (fun j => B ≤ (j : Int) ∧ C j) ν κ := (n1.np (V := V) (S := fun _ => False)).sf.sub (fun _ h => h.elim)
    have i52 := eq_i (n1.1.1 52 rfl)
    refine ⟨mi hκ rfl rfl i1 xN, ?_⟩
    rw [hκ.1.row (g := 22) rfl]
    refine ME.mono (key m6 (c 0) (u 0) _ κ B U hκ (by omega) (by omega) ⟨0, rfl⟩ (by omega) n2 hm6) (fun _ ζ hz => ⟨QB.tr f1 (Int.le_refl _) hz.1, fun e => ?_⟩) (fun _ h => h)
    obtain ⟨b, ⟨b1, b1'⟩, b2, b3, b4, b5⟩ := hz.2 e
    have zr := hκ.1.tr (hz.1.1.sub (C' := C) (fun j hj => hj.2))
    refine ⟨b, ⟨by omega, b1'⟩, Or.inr ⟨mid, 0, ⟨k1, k2, Nat.le_refl _⟩, ⟨⟨i1, i2, i3⟩, ?_, ?_, c 0, c 1, m6, ⟨by omega, by omega⟩, ?_⟩, ?_⟩, b5⟩
    · rw [zr.row (g := 20) rfl]; exact ex
    · rw [zr.row (g := 23) rfl]; exact b3
    · rw [zr.row (g := 23) rfl, zr.row (g := 22) rfl]; exact b2
    · rw [show ζ.2.1 27 x.toNatClampNeg = μ.2.1 27 x.toNatClampNeg by rw [zr.row (g := 27) rfl]]
      exact b4
end NNB
