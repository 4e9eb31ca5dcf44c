/-! contracts of the reference: a declaration told, an IMPORT told -/
section NNJ
variable {X : ev_X} {W : Nat → Prop} {d h K : Nat} {P : MP} {μ ν κ ζ : MS} {B n N : Int} {T : MS → Prop} {x : Int32}
/-- a unit's variables are made when they are told -/
def gwt (k : Int32) (v : Nat) : Nat := if k = 7 then v else 0
theorem pr_326 {u e x3 x4 x5 : Int32} {w : Nat} {mid : Int} (hd : 3 ≤ d) (u0 : 0 ≤ u.toInt) (u1 : u.toInt < n) (uw : u.toInt = w) (hI : DI μ n B ν) (hk : KPr False e x5 ν κ) (hdc : DcO μ w e) (ee : μ.2.1 20 e.toNatClampNeg = 9) (hS : SB (μ.1 41).toInt μ (bt 0 N)) (eN : bt 0 N e.toNatClampNeg) (h43 : (ν.1 43).toInt < 3190) (hB : B ≤ e.toInt) (e0 : 0 ≤ e.toInt) (hmid : e.toInt < mid) :
    ME X W true d 347 326 [(0, .ref P.1), (1, .int u), (2, .int e), (3, .int x3), (4, .int x4), (5, .int x5)] [] P κ (fun _ ζ => DF (fun j => j = e.toNatClampNeg) ν ζ ∧ DI μ n mid ζ ∧ ((ζ.1 43).toInt = (ν.1 43).toInt + 1 ∧ (ζ.1 52).toInt = (ν.1 52).toInt) ∧ (1 ≤ (ζ.2.1 28 e.toNatClampNeg).toInt ∧ (ζ.2.1 28 e.toNatClampNeg).toInt ≤ (ζ.1 56).toInt)) T := by
  obtain ⟨k1, ⟨k2, k2'⟩, ⟨k3, k3'⟩, k4, k5⟩ := id hk
  have hcu := @ic u
  have hc5 := @ic x5
  have h51 := hI.2.2.2.2.2 w (by omega)
  have r51 : κ.2.1 51 u.toNatClampNeg = if μ.2.1 26 (μ.2.1 42 w).toNatClampNeg = 1 then 1 else 0 := by
    rw [k1.2.1 51 rfl, show u.toNatClampNeg = w by omega]; exact h51
  have n14 := hI.1.2.1.2.1
  obtain ⟨-, -, -, -, ⟨⟨q4, q5, q6⟩, q1, q2, q3⟩, -⟩ := id hI
  refine v_declared_326 _ _ _ _ _ ⟨MI.of ((hI.1.1.to k1).g rfl rfl : _ = 14) u0 (by omega), fun _ => pr_343 (M := False) hd u0 u1 hI hk (fun h => h.elim) hdc ee hS eN (by omega) hB e0 hmid, fun hm => ⟨MI.of ((hI.1.1.to k1).g rfl rfl : _ = 3200) (by omega) (by omega), ?_⟩⟩
  have hM : μ.2.1 26 (μ.2.1 42 w).toNatClampNeg = 1 := by
    by_cases c : μ.2.1 26 (μ.2.1 42 w).toNatClampNeg = 1
    · exact c
    · rw [r51, if_neg c] at hm; exact absurd rfl hm
  refine pr_343 (M := μ.2.1 26 (μ.2.1 42 w).toNatClampNeg = 1) hd u0 u1 hI ?_ id hdc ee hS eN (by omega) hB e0 hmid
  have a58 : (mA1 κ 58 x5.toNatClampNeg e).2.1 58 x5.toNatClampNeg = e := upd_at
  have b58 : ∀ p : Nat, p ≠ x5.toNatClampNeg → (mA1 κ 58 x5.toNatClampNeg e).2.1 58 p = κ.2.1 58 p := fun p hp => upd_off hp
  have b57 : (mA1 κ 58 x5.toNatClampNeg e).2.1 57 = κ.2.1 57 := row_off rfl
  refine ⟨k1.A rfl, ⟨k2, k2'⟩, ⟨k3, k3'⟩, fun p hp => ?_, fun p hp hp2 => ?_⟩
  · obtain ⟨g1, g2⟩ := k4 p hp
    refine ⟨by rw [b57]; exact g1, ?_⟩
    by_cases c : p = x5.toNatClampNeg
    · exact Or.inr ⟨by omega, by rw [c]; exact a58, hM⟩
    · refine Or.inl ?_
      rw [b58 p c]
      rcases g2 with g2 | ⟨-, -, g2⟩
      · exact g2
      · exact g2.elim
  · obtain ⟨g1, g2⟩ := k5 p hp hp2
    refine ⟨by rw [b57]; exact g1, ?_⟩
    by_cases c : p = x5.toNatClampNeg
    · exact Or.inr ⟨by omega, by rw [c]; exact a58, hM⟩
    · refine Or.inl ?_
      rw [b58 p c]
      rcases g2 with g2 | ⟨-, -, g2⟩
      · exact g2
      · exact g2.elim
theorem declared_step {u : Int32} {w : Nat} {l mid : Int} {v : Nat} (hd : 3 ≤ d) (u0 : 0 ≤ u.toInt) (u1 : u.toInt < n) (uw : u.toInt = w) (hI : DI μ n B ν) (hdc : DcO μ w x) (hS : SB (μ.1 41).toInt μ (bt 0 N)) (h0 : 0 ≤ l) (hN : mid ≤ N) (hB : B ≤ l) (h43 : (ν.1 43).toInt + v ≤ 3190) (hP : PK μ h K 2 4 l mid v x) :
    MC X W true (d + 1) 347 [.ref P.1, .int u, .int x] P ν (fun _ ζ => DF (bt l mid) ν ζ ∧ DI μ n mid ζ ∧ ((ζ.1 43).toInt ≤ (ν.1 43).toInt + v ∧ (ζ.1 52).toInt ≤ (ν.1 52).toInt + gwt (μ.2.1 20 x.toNatClampNeg) v) ∧ DeP ζ l mid x) T := by
  obtain ⟨⟨i1, i2, i3⟩, g3, c, u', ⟨b0, b5⟩, hw, F⟩ := hP
  have hcx := @ic x
  have hcu := @ic u
  have hke : μ.2.1 20 x.toNatClampNeg ∈ ([3, 4, 5, 6, 7, 8, 9] : List Int32) := by
    have g3 : ([3, 4, 5, 6, 7, 8, 9] : List Int32).contains (μ.2.1 20 x.toNatClampNeg) = true := g3
    simpa using g3
  have eν : ν.2.1 20 = μ.2.1 20 := hI.row rfl
  have xN : bt 0 N x.toNatClampNeg := ⟨by omega, by omega⟩
  have x16 : x.toInt < 16000 := by have := (hS _ xN).1; omega
  have mi : ∀ {κ : MS} {g : Nat} {s r : List Nat}, kf s r ν κ → rk g = true → rlen g = 16000 → MI x (κ.2.2 g) := fun hk hg hr => MI.of ((hI.1.1.to hk).g hg hr) i1 x16
  have mi0 : ∀ {g : Nat}, rk g = true → rlen g = 16000 → MI x (ν.2.2 g) := fun hg hr => MI.of (hI.1.1.g hg hr) i1 x16
  obtain ⟨-, -, ⟨hSy, hPr, hTy⟩, -, ⟨⟨q4, q5, q6⟩, q1, q2, q3⟩, -⟩ := id hI
  have hU := hI.1.2.1
  have n14 := hU.2.1
  have one : ∀ k ∈ ([3, 4, 8, 9] : List Int32), ow k = 1 := by decide
  refine me_meth (by omega) rfl (v_declared_0 _ _ ⟨mi0 rfl rfl, fun ek => ⟨mi0 rfl rfl, mi0 rfl rfl, mi0 rfl rfl, ?_⟩, fun ek => ⟨mi0 rfl rfl, ?_⟩, fun ek => ⟨mi0 rfl rfl, mi0 rfl rfl, ?_⟩, fun ek => ?_, fun hv => ?_⟩)
  · -- TYPE
    rw [eν] at ek
    have ho : ow (μ.2.1 20 x.toNatClampNeg) = 1 := one _ (by rcases ek with e | e <;> rw [e] <;> decide)
    rw [ho] at hw
    refine MC.mono (c_tell hd hI.1.1 hU u0 u1 (by omega)) (fun _ κ hT => ?_) (fun _ h => h)
    have e60 := eq_i (hT.1.1 60 rfl)
    obtain ⟨r1, r2⟩ := hI.ty (B' := mid) hT u0 u1 (by omega) (by rw [eν]; exact ek) ⟨w, hdc⟩ (by rw [eν]) (by omega)
    refine ⟨MI.of ((hI.1.1.to hT.1).g rfl rfl : _ = 3200) (by omega) (by omega), v_declared_376 _ _ ⟨r2.sub (fun _ h => h.elim), r1, ⟨?_, ?_⟩, ⟨i1, i2, i3⟩, fun e => ?_, fun e => ?_⟩⟩
    · show (κ.1 43).toInt ≤ _
      have := hT.2.2.1
      omega
    · show (κ.1 52).toInt ≤ _
      rw [hT.1.1 52 rfl]; omega
    · rw [r1.row (g := 20) rfl] at e
      rcases ek with e2 | e2 <;> rw [e2] at e <;> exact absurd e (by decide)
    · rw [r1.row (g := 20) rfl] at e
      rcases ek with e2 | e2 <;> rw [e2] at e <;> exact absurd e (by decide)
  · -- VAR
    rw [eν] at ek
    have f0 := F 0 (by decide)
    rw [ek] at f0
    have q0 : c 0 ≤ c 1 := f0.1
    have q1' : c 1 ≤ c 2 := (F 1 (by decide)).1
    have q2' : c 2 ≤ c 3 := (F 2 (by decide)).1
    have q3' : c 3 ≤ c 4 := (F 3 (by decide)).1
    have q4' : c 4 ≤ c 5 := (F 4 (by decide)).1
    obtain ⟨-, -, -, hL6⟩ := f0
    obtain ⟨m6, hm6⟩ : LK μ h K 1 6 (c 0) (c 1) (u' 0) (μ.2.1 22 x.toNatClampNeg) := hL6 (by decide)
    rw [hI.row (g := 22) rfl]
    refine ME.mono (va_143 (c1 := c 1) hd u0 u1 hdc ek hS xN (by omega) i1 m6 (c 0) (u' 0) _ ν B hI (by omega) (by omega) ⟨0, rfl⟩ (by omega) hm6) (fun _ ζ hz => ?_) (fun _ h => h)
    obtain ⟨z1, z2, ⟨z3, z4⟩, z5⟩ := hz
    have hg : gwt (μ.2.1 20 x.toNatClampNeg) v = v := by rw [ek]; rfl
    rw [hg]
    refine ⟨z1.sub (fun j hj => ⟨by have := hj.1; omega, by have := hj.2; omega⟩), z2.up (by omega), ⟨by omega, by omega⟩, ⟨i1, i2, i3⟩, fun e => ?_, fun _ => ⟨c 0, c 1, m6, ⟨by omega, by omega⟩, ?_⟩⟩
    · rw [z2.row (g := 20) rfl, ek] at e; exact absurd e (by decide)
    · rw [z2.row (g := 23) rfl, z2.row (g := 22) rfl]; exact z5
  · -- EXCEPTION
    rw [eν] at ek
    have ho : ow (μ.2.1 20 x.toNatClampNeg) = 1 := one _ (by rw [ek]; decide)
    rw [ho] at hw
    refine MC.mono (c_tell hd hI.1.1 hU u0 u1 (by omega)) (fun _ κ hT => v_declared_376 _ _ ?_) (fun _ h => h)
    have r1 := hI.sy (B' := mid) hT u0 u1 (by omega) (Or.inl rfl) (by omega)
    have r2 := hT.df (C := bt l mid) hU.1.1
    have kz : kf [59] [] κ (mS1 κ 59 (κ.1 59 + 1)) := kf.rf.S rfl
    have e43 := hT.2.2.1
    have e52 := eq_i (hT.1.1 52 rfl)
    generalize mS1 κ 59 (κ.1 59 + 1) = ζ at *
    have rr : ∀ g, ζ.2.1 g = κ.2.1 g := fun g => kz.2.1 g rfl
    have z43 := kz.1 43 rfl
    have z52 := kz.1 52 rfl
    have z56 := kz.1 56 rfl
    have z60 := kz.1 60 rfl
    have d2 : DF (fun _ => False) κ ζ := ⟨kz.up rfl rfl, fun e => by rw [kz.1 17 rfl]; exact e, ⟨by rw [z43]; exact Int.le_refl _, by rw [z52]; exact Int.le_refl _, by rw [z56]; exact Int.le_refl _, by rw [z60]; exact Int.le_refl _⟩, fun s _ => ⟨by rw [rr], by rw [rr], by rw [rr], by rw [rr]⟩, fun v _ => ⟨by rw [rr], by rw [rr]⟩, fun i _ => by rw [rr], fun p _ => by rw [rr], fun j => Or.inr (by rw [rr])⟩
    have hEz : NE n ζ := by
      refine ⟨r1.1.1.to kz, ?_, fun s hs h45 => ?_⟩
      · unfold US
        rw [z43, rr, rr, rr]
        exact r1.1.2.1
      · rw [z43] at hs
        rw [rr] at h45
        rw [rr, kz.1 17 rfl]
        exact r1.1.2.2 s hs h45
    obtain ⟨-, -, -, n6, ⟨-, n1, n2, n3⟩, -⟩ := id r1
    have rz := r1.go (B' := mid) d2 (fun _ h => h.elim) (Int.le_refl _) hEz (n6.kf kz rfl rfl rfl rfl) (rr 51) (fun s s1 s2 => by rw [z43] at s2; omega) (fun p p1 p2 => Or.inl ⟨rr 58 ▸ rfl, by rw [z56] at p2; exact p2⟩) (fun k k1 k2 => by rw [z60] at k2; omega) (by rw [z43, z52, z56, z60]; exact ⟨n1, n2, n3⟩)
    refine ⟨r2.tr (d2.sub (fun _ h => h.elim)), rz, ⟨by rw [z43]; omega, by rw [z52]; omega⟩, ⟨i1, i2, i3⟩, fun e => ?_, fun e => ?_⟩
    · rw [rz.row (g := 20) rfl, ek] at e; exact absurd e (by decide)
    · rw [rz.row (g := 20) rfl, ek] at e; exact absurd e (by decide)
  · -- PROCEDURE
    rw [eν] at ek
    have ho : ow (μ.2.1 20 x.toNatClampNeg) = 1 := one _ (by rw [ek]; decide)
    rw [ho] at hw
    have wrap : ∀ {pc : Nat} {lv : List (Nat × Value)} {κ : MS}, ME X W true d 347 pc lv [] P κ (fun _ ζ => DF (fun j => j = x.toNatClampNeg) ν ζ ∧ DI μ n mid ζ ∧ ((ζ.1 43).toInt = (ν.1 43).toInt + 1 ∧ (ζ.1 52).toInt = (ν.1 52).toInt) ∧ (1 ≤ (ζ.2.1 28 x.toNatClampNeg).toInt ∧ (ζ.2.1 28 x.toNatClampNeg).toInt ≤ (ζ.1 56).toInt)) T → ME X W true d 347 pc lv [] P κ (fun _ ζ => DF (bt l mid) ν ζ ∧ DI μ n mid ζ ∧ ((ζ.1 43).toInt ≤ (ν.1 43).toInt + v ∧ (ζ.1 52).toInt ≤ (ν.1 52).toInt + gwt (μ.2.1 20 x.toNatClampNeg) v) ∧ DeP ζ l mid x) T := fun hm => by
      refine ME.mono hm (fun _ ζ hz => ?_) (fun _ h => h)
      obtain ⟨z1, z2, ⟨z3, z4⟩, z5⟩ := hz
      refine ⟨z1.sub (fun j hj => by rw [hj]; exact ⟨by omega, by omega⟩), z2, ⟨by omega, by omega⟩, ⟨i1, i2, i3⟩, fun _ => z5, fun e => ?_⟩
      rw [z2.row (g := 20) rfl, ek] at e; exact absurd e (by decide)
    -- a new number
    have s268 : ∀ x3 : Int32, ME X W true d 347 268 [(0, .ref P.1), (1, .int u), (2, .int x), (3, .int x3)] [] P ν (fun _ ζ => DF (bt l mid) ν ζ ∧ DI μ n mid ζ ∧ ((ζ.1 43).toInt ≤ (ν.1 43).toInt + v ∧ (ζ.1 52).toInt ≤ (ν.1 52).toInt + gwt (μ.2.1 20 x.toNatClampNeg) v) ∧ DeP ζ l mid x) T := fun x3 => by
      have e56 : (ν.1 56 + 1).toInt = (ν.1 56).toInt + 1 := ia1 (by omega)
      have hc56 := @ic (ν.1 56 + 1)
      refine v_declared_268 _ _ _ (v_declared_271 _ _ _ _ ⟨fun h => absurd rfl h, fun _ => ⟨MI.of (hI.1.1.g rfl rfl : _ = 3200) (by omega) (by omega), MI.of (hI.1.1.g rfl rfl : _ = 3200) (by omega) (by omega), v_declared_306 _ _ _ _ ⟨fun _ => ?_, fun h => absurd rfl h⟩⟩⟩)
      refine wrap (pr_326 hd u0 u1 uw hI ?_ hdc ek hS xN (by omega) (by omega) i1 i3)
      refine ⟨((kf.rf.S rfl).A rfl).A rfl, ⟨by show (ν.1 56).toInt ≤ (ν.1 56 + 1).toInt; omega, by show (ν.1 56 + 1).toInt ≤ _; omega⟩, ⟨by show 1 ≤ (ν.1 56 + 1).toInt; omega, Int.le_refl _⟩, fun p hp => ⟨upd_off (by omega), Or.inl (upd_off (by omega))⟩, fun p hp _ => ?_⟩
      rw [show p = (ν.1 56 + 1).toNatClampNeg by omega]
      exact ⟨upd_at, Or.inl upd_at⟩
    have s234 : ∀ x3 : Int32, (x3 = -1 ∨ (0 ≤ x3.toInt ∧ x3.toInt < (ν.1 43).toInt)) → ME X W true d 347 234 [(0, .ref P.1), (1, .int u), (2, .int x), (3, .int x3)] [] P ν (fun _ ζ => DF (bt l mid) ν ζ ∧ DI μ n mid ζ ∧ ((ζ.1 43).toInt ≤ (ν.1 43).toInt + v ∧ (ζ.1 52).toInt ≤ (ν.1 52).toInt + gwt (μ.2.1 20 x.toNatClampNeg) v) ∧ DeP ζ l mid x) T := fun x3 h3 => by
      have hc3 := @ic x3
      refine v_declared_234 _ _ _ ⟨fun _ => s268 x3, fun hp => ?_⟩
      have h3 : 0 ≤ x3.toInt ∧ x3.toInt < (ν.1 43).toInt := by
        rcases h3 with h3 | h3
        · rw [h3] at hp; exact absurd hp (by decide)
        · exact h3
      obtain ⟨w1, w2, w3⟩ := hU.2.2 u.toNatClampNeg (by omega)
      refine ⟨MI.of (hI.1.1.g rfl rfl : _ = 3200) h3.1 (by omega), fun _ => s268 x3, fun h9 => ⟨mi0 rfl rfl, MC.mono (c_findIn (by omega) hI.1.1 u0 (by omega) w1 (by omega)) (fun r1 κ hκ => ?_) (fun _ h => h)⟩⟩
      obtain ⟨rfl, -, -⟩ := hκ
      refine ⟨fun _ => s268 x3, fun _ => v_declared_271 _ _ _ _ ⟨fun _ => v_declared_306 _ _ _ _ ⟨fun h => absurd h (by decide), fun _ => ⟨MI.of (hI.1.1.g rfl rfl : _ = 3200) h3.1 (by omega), ?_⟩⟩, fun h => absurd h (by decide)⟩⟩
      have sy := hSy x3.toNatClampNeg (by omega)
      have nums : 1 ≤ (κ.2.1 47 x3.toNatClampNeg).toInt ∧ (κ.2.1 47 x3.toNatClampNeg).toInt ≤ (κ.1 56).toInt := by
        rcases sy with e | e | ⟨e, -⟩ | ⟨e, -⟩ | ⟨-, -, -, e1, e2⟩
        · rw [h9] at e; exact absurd e (by decide)
        · rw [h9] at e; exact absurd e (by decide)
        · rw [h9] at e; rcases e with e | e <;> exact absurd e (by decide)
        · rw [h9] at e; exact absurd e (by decide)
        · exact ⟨e1, e2⟩
      exact wrap (pr_326 hd u0 u1 uw hI ⟨kf.rf, ⟨Int.le_refl _, by omega⟩, nums, fun p _ => ⟨rfl, Or.inl rfl⟩, fun p hp hp2 => by omega⟩ hdc ek hS xN (by omega) (by omega) i1 i3)
    obtain ⟨w1, w2, w3⟩ := hU.2.2 u.toNatClampNeg (by omega)
    have l50 : ν.2.2 50 = 14 := hI.1.1.g rfl rfl
    refine ⟨MI.of l50 u0 (by omega), fun hf => ⟨MI.of l50 u0 (by omega), mi0 rfl rfl, ?_⟩, fun _ => s234 (-1) (Or.inl rfl)⟩
    have hcf := @ic (ν.2.1 50 u.toNatClampNeg)
    obtain ⟨y1, y2, y3⟩ := hU.2.2 (ν.2.1 50 u.toNatClampNeg).toNatClampNeg (by omega)
    refine MC.mono (c_findIn (by omega) hI.1.1 hf (by omega) y1 (by omega)) (fun r1 κ hκ => ?_) (fun _ h => h)
    obtain ⟨rfl, -, hr⟩ := hκ
    refine s234 r1 ?_
    rcases hr with hr | ⟨z1, z2, z3, -⟩
    · exact Or.inl hr
    · exact Or.inr ⟨z1, by omega⟩
  · -- REVEAL
    have rest : ∀ k ∈ ([3, 4, 5, 6, 7, 8, 9] : List Int32), (∀ v ∈ ([3, 4, 7, 8, 9] : List Int32), ¬ k = v) → ¬ k = 9 ∧ ¬ k = 7 := by decide
    rw [eν] at hv
    obtain ⟨n9, n7⟩ := rest _ hke hv
    exact v_declared_376 _ _ ⟨DF.rf, hI.up (by omega), ⟨by omega, by omega⟩, ⟨i1, i2, i3⟩, fun e => absurd (by rw [eν] at e; exact e) n9, fun e => absurd (by rw [eν] at e; exact e) n7⟩
end NNJ
