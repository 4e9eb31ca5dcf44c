/-! contracts of the reference: VARs of a unit and PROCEDUREs told -/
section NNI
variable {X : ev_X} {W : Nat → Prop} {d h K nn : Nat} {P : MP} {μ ν κ ζ : MS} {B B' n N lo hi : Int} {C C' : Nat → Prop} {T : MS → Prop} {x : Int32}
theorem DI.up (h : DI μ n B ν) (hB : B ≤ B') : DI μ n B' ν := ⟨h.1, h.2.1, ⟨fun s hs => (h.2.2.1.1 s hs).up hB, fun p p1 p2 => (h.2.2.1.2.1 p p1 p2).up hB, h.2.2.1.2.2⟩, h.2.2.2⟩
/-- a variable made, put and told -/
theorem DI.va {κ1 κ3 : MS} {u a t r dv : Int32} {w m : Nat} (h : DI μ n B ν) (k1 : kf [52] [53, 54, 55] ν κ1) (hr : r = ν.1 52) (h52 : (κ1.1 52).toInt = (ν.1 52).toInt + 1) (hv : κ1.2.1 53 r.toNatClampNeg = 0 ∧ κ1.2.1 54 r.toNatClampNeg = t) (hv2 : ∀ v : Nat, v ≠ r.toNatClampNeg → κ1.2.1 53 v = ν.2.1 53 v ∧ κ1.2.1 54 v = ν.2.1 54 v) (hT : TlP u a 7 x r (mA1 κ1 28 x.toNatClampNeg r) κ3) (u0 : 0 ≤ u.toInt) (u1 : u.toInt < n) (h43 : (ν.1 43).toInt < 3200) (hd : DcO μ w dv) (ed : μ.2.1 20 dv.toNatClampNeg = 7) (hon : Onl (μ.2.1 27) m (μ.2.1 22 dv.toNatClampNeg) x) (ht : t = μ.2.1 23 dv.toNatClampNeg) (x0 : 0 ≤ x.toInt) (ex : μ.2.1 20 x.toNatClampNeg = 10) (hB : B ≤ x.toInt) :
    DI μ n (x.toInt + 1) κ3 ∧ DF (fun j => j = x.toNatClampNeg) ν κ3 ∧ ((κ3.1 43).toInt = (ν.1 43).toInt + 1 ∧ (κ3.1 52).toInt = (ν.1 52).toInt + 1) ∧ (VX κ3 0 t (κ3.2.1 28 x.toNatClampNeg) ∧ ∃ s : Nat, (s : Int) < (κ3.1 43).toInt ∧ κ3.2.1 45 s = 7 ∧ κ3.2.1 46 s = x ∧ κ3.2.1 47 s = κ3.2.1 28 x.toNatClampNeg) := by
  have hcx := @ic x
  have hcr := @ic r
  have e52 := eq_i hr
  have k2 : kf [] [28] κ1 (mA1 κ1 28 x.toNatClampNeg r) := kf.rf.A rfl
  have e28 : (mA1 κ1 28 x.toNatClampNeg r).2.1 28 x.toNatClampNeg = r := upd_at
  have b28 : ∀ j : Nat, j ≠ x.toNatClampNeg → (mA1 κ1 28 x.toNatClampNeg r).2.1 28 j = κ1.2.1 28 j := fun j hj => upd_off hj
  generalize mA1 κ1 28 x.toNatClampNeg r = κ2 at *
  have t1 := hT.1
  obtain ⟨-, -, -, h6, ⟨⟨q4, q5, q6⟩, q1, q2, q3⟩, -⟩ := id h
  have i43 := eq_i ((k2.1 43 rfl).trans (k1.1 43 rfl))
  have i52 := eq_i (k2.1 52 rfl)
  have j52 := eq_i (t1.1 52 rfl)
  have i56 := eq_i ((t1.1 56 rfl).trans ((k2.1 56 rfl).trans (k1.1 56 rfl)))
  have i60 := eq_i ((t1.1 60 rfl).trans ((k2.1 60 rfl).trans (k1.1 60 rfl)))
  have h0 := h.1.2.1.1.1
  have e43 := hT.2.2.1
  have hc43 := @ic (κ2.1 43)
  have hNE2 : NE n κ2 := by
    refine ⟨(h.1.1.to k1).to k2, ?_, fun s hs h45 => ?_⟩
    · unfold US
      rw [k2.1 43 rfl, k1.1 43 rfl, k2.2.1 48 rfl, k1.2.1 48 rfl, k2.2.1 49 rfl, k1.2.1 49 rfl, k2.2.1 50 rfl, k1.2.1 50 rfl]
      exact h.1.2.1
    · rw [k2.1 43 rfl, k1.1 43 rfl] at hs
      rw [k2.2.1 45 rfl, k1.2.1 45 rfl] at h45
      rw [k2.2.1 47 rfl, k1.2.1 47 rfl, k2.1 17 rfl, k1.1 17 rfl]
      exact h.1.2.2 s hs h45
  have z28 : κ3.2.1 28 = κ2.2.1 28 := t1.2.1 28 rfl
  have x28 : κ3.2.1 28 x.toNatClampNeg = r := by rw [z28]; exact e28
  have o28 : ∀ j : Nat, j ≠ x.toNatClampNeg → κ3.2.1 28 j = ν.2.1 28 j := fun j hj => by rw [z28, b28 j hj, k1.2.1 28 rfl]
  have vx : VX κ3 0 t r := by
    refine ⟨⟨by omega, by omega⟩, ?_, ?_⟩
    · rw [t1.2.1 53 rfl, k2.2.1 53 rfl]; exact hv.1
    · rw [t1.2.1 54 rfl, k2.2.1 54 rfl]; exact hv.2
  have df : DF (fun j => j = x.toNatClampNeg) ν κ3 := by
    refine ⟨((k1.up rfl rfl).tr (k2.up rfl rfl)).tr (t1.up rfl rfl), fun e => hT.2.1 (by rw [k2.1 17 rfl, k1.1 17 rfl]; exact e), ⟨by omega, by omega, by omega, by omega⟩, fun s hs => ?_, fun v hv => ?_, fun i _ => ?_, fun i _ => ?_, fun j => ?_⟩
    · obtain ⟨b1, b2, b3, b4⟩ := hT.2.2.2.2.1 s (by omega)
      rw [b1, b2, b3, b4, k2.2.1 44 rfl, k2.2.1 45 rfl, k2.2.1 46 rfl, k2.2.1 47 rfl, k1.2.1 44 rfl, k1.2.1 45 rfl, k1.2.1 46 rfl, k1.2.1 47 rfl]
      exact ⟨rfl, rfl, rfl, rfl⟩
    · rw [t1.2.1 53 rfl, t1.2.1 54 rfl, k2.2.1 53 rfl, k2.2.1 54 rfl]
      exact hv2 v (by omega)
    · rw [t1.2.1 61 rfl, k2.2.1 61 rfl, k1.2.1 61 rfl]
    · rw [t1.2.1 57 rfl, k2.2.1 57 rfl, k1.2.1 57 rfl]
    · by_cases c : j = x.toNatClampNeg
      · exact Or.inl c
      · exact Or.inr (o28 j c)
  refine ⟨h.go df (fun j hj => by rw [hj]; omega) (by omega) (hT.ne hNE2 u0 u1 (by omega) (fun e => absurd e (by decide))) (fun i hi => ?_) ?_ (fun s s1 s2 => ?_) (fun p p1 p2 => Or.inl ⟨?_, by omega⟩) (fun k k1 k2 => by omega) ⟨by omega, by omega, by omega⟩, df, ⟨by omega, by omega⟩, by rw [x28]; exact ⟨vx, (κ2.1 43).toNatClampNeg, by omega, hT.2.2.2.1.1, hT.2.2.2.1.2.1, hT.2.2.2.1.2.2⟩⟩
  · have k20 : κ3.2.1 20 = ν.2.1 20 := df.row rfl
    have eν : ν.2.1 20 = μ.2.1 20 := h.row rfl
    replace hi := hi.of k20 (df.1.1 19 rfl)
    by_cases c : i = x.toNatClampNeg
    · rw [c, x28]
      refine ⟨by omega, fun j hj _ hij => ?_⟩
      by_cases c2 : j = x.toNatClampNeg
      · exact c2.symm
      · replace hj := hj.of k20 (df.1.1 19 rfl)
        rw [o28 j c2] at hij
        have h9 := (h6 j hj).1
        rw [← hij] at h9
        omega
    · rw [o28 i c]
      obtain ⟨w1, w2⟩ := h6 i hi
      refine ⟨by omega, fun j hj h0 hij => ?_⟩
      by_cases c2 : j = x.toNatClampNeg
      · rw [c2, x28] at hij
        rw [hij] at w1
        omega
      · replace hj := hj.of k20 (df.1.1 19 rfl)
        rw [o28 j c2] at hij
        exact w2 j hj h0 hij
  · rw [t1.2.1 51 rfl, k2.2.1 51 rfl, k1.2.1 51 rfl]
  · have es : s = (κ2.1 43).toNatClampNeg := by omega
    obtain ⟨y1, y2, y3⟩ := hT.2.2.2.1
    unfold SyF
    rw [es, y1, y2, y3]
    exact Or.inr (Or.inr (Or.inr (Or.inl ⟨rfl, ⟨w, dv, m, hd, ed, hon, by rw [← ht]; exact vx⟩, ⟨x0, by omega⟩, x28⟩)))
  · rw [t1.2.1 58 rfl, k2.2.1 58 rfl, k1.2.1 58 rfl]
/-- the names of a unit's VAR -/
theorem va_143 {u dv : Int32} {w : Nat} {c1 : Int} (hd : 3 ≤ d) (u0 : 0 ≤ u.toInt) (u1 : u.toInt < n) (hdc : DcO μ w dv) (ed : μ.2.1 20 dv.toNatClampNeg = 7) (hS : SB (μ.1 41).toInt μ (bt 0 N)) (dN : bt 0 N dv.toNatClampNeg) (hN : c1 ≤ N) (hdl : 0 ≤ dv.toInt) :
    ∀ (m : Nat) (l : Int) (g : Nat) (y : Int32) (ν : MS) (B : Int), DI μ n B ν → B ≤ l → 0 ≤ l → (∃ mm, Onl (μ.2.1 27) mm (μ.2.1 22 dv.toNatClampNeg) y) → (ν.1 43).toInt + g ≤ 3200 → WL (PK μ h K nn 6) (μ.2.1 27) m l c1 g y →
    ME X W true d 347 143 [(0, .ref P.1), (1, .int u), (2, .int dv), (3, .int y)] [] P ν (fun _ ζ => DF (bt l c1) ν ζ ∧ DI μ n c1 ζ ∧ ((ζ.1 43).toInt ≤ (ν.1 43).toInt + g ∧ (ζ.1 52).toInt ≤ (ν.1 52).toInt + g) ∧ WL (fun lo hi _ z => NmV ζ (μ.2.1 23 dv.toNatClampNeg) lo hi z) (ζ.2.1 27) m l c1 0 y) T
  | 0, l, g, y, ν, B, hI, hB, hl, hon, hg, hy => by
    obtain ⟨hy, hlc⟩ := hy
    subst hy
    exact v_declared_143 _ _ _ ⟨fun _ => v_declared_376 _ _ ⟨DF.rf, hI.up (by omega), ⟨by omega, by omega⟩, rfl, hlc⟩, fun h => absurd h (by decide)⟩
  | m + 1, l, g, y, ν, B, hI, hB, hl, hon, hg, hy => by
    rcases hy with ⟨hy, hlc⟩ | ⟨mid, v, ⟨r1, r2, r3⟩, r4, r5⟩
    · subst hy
      exact v_declared_143 _ _ _ ⟨fun _ => v_declared_376 _ _ ⟨DF.rf, hI.up (by omega), ⟨by omega, by omega⟩, Or.inl ⟨rfl, hlc⟩⟩, fun h => absurd h (by decide)⟩
    obtain ⟨⟨j1, j2, j3⟩, h3, -, uu, -, hw1, -⟩ := r4
    have hcy := @ic y
    have ey : μ.2.1 20 y.toNatClampNeg = 10 := by
      have h3 : ([10] : List Int32).contains (μ.2.1 20 y.toNatClampNeg) = true := h3
      simpa using h3
    have e10 : ow (10 : Int32) = 1 := by decide
    rw [ey, e10] at hw1
    obtain ⟨mm, hon⟩ := hon
    have yN : bt 0 N y.toNatClampNeg := ⟨by omega, by omega⟩
    have mi : ∀ {κ : MS} {g : Nat} {i : Int32} {s r : List Nat}, kf s r ν κ → rk g = true → rlen g = 16000 → 0 ≤ i.toInt → bt 0 N i.toNatClampNeg → MI i (κ.2.2 g) := fun {κ g i s r} hk hg hr a0 a1 => by
      have hci := @ic i
      have := (hS _ a1).1
      exact MI.of ((hI.1.1.to hk).g hg hr) a0 (by omega)
    obtain ⟨-, -, -, -, ⟨⟨q4, q5, q6⟩, q1, q2, q3⟩, -⟩ := id hI
    refine v_declared_143 _ _ _ ⟨fun h => by omega, fun _ => ⟨mi (s := []) (r := []) kf.rf rfl rfl hdl dN, MC.mono (c_variable (by omega) hI.1.1 q4 (by omega)) (fun r κ1 h1 => ?_) (fun _ h => h)⟩⟩
    obtain ⟨a1, a2, a3, a4, a5⟩ := h1
    refine ⟨mi a1 rfl rfl j1 yN, mi a1 rfl rfl j1 yN, mi a1 rfl rfl j1 yN, mi a1 rfl rfl j1 yN, ?_⟩
    have k2 : kf [52] [28, 53, 54, 55] ν (mA1 κ1 28 y.toNatClampNeg r) := (a1.up rfl rfl).A rfl
    rw [show upd (κ1.2.1 28) y.toNatClampNeg r y.toNatClampNeg = r from upd_at]
    have hU2 : US n (mA1 κ1 28 y.toNatClampNeg r) := by
      unfold US
      rw [k2.1 43 rfl, k2.2.1 48 rfl, k2.2.1 49 rfl, k2.2.1 50 rfl]
      exact hI.1.2.1
    have i43 := eq_i (k2.1 43 rfl)
    refine MC.mono (c_tell hd (hI.1.1.to k2) hU2 u0 u1 (by omega)) (fun _ κ3 hT => ?_) (fun _ h => h)
    obtain ⟨b1, b2, ⟨b3, b4⟩, b5, s, s1, s2, s3, s4⟩ := hI.va (t := ν.2.1 23 dv.toNatClampNeg) a1 a2 a3 a4 a5 hT u0 u1 (by omega) hdc ed hon (by rw [hI.row (g := 23) rfl]) j1 ey (by omega)
    refine ⟨mi b2.1 rfl rfl j1 yN, ?_⟩
    rw [b1.row (g := 27) rfl]
    refine ME.mono (va_143 hd u0 u1 hdc ed hS dN hN hdl m mid (g - v) _ κ3 _ b1 (by omega) (by omega) ⟨mm + 1, hon.snoc j1⟩ (by omega) r5) (fun _ ζ hz => ?_) (fun _ h => h)
    obtain ⟨z1, z2, ⟨z3, z4⟩, z5⟩ := hz
    have zy : ζ.2.1 28 y.toNatClampNeg = κ3.2.1 28 y.toNatClampNeg := (z1.2.2.2.2.2.2.2 y.toNatClampNeg).resolve_left (fun hj => by have := hj.1; omega)
    refine ⟨(b2.sub (C' := bt l c1) (fun j hj => by rw [hj]; exact ⟨by omega, by omega⟩)).tr (z1.sub (fun j hj => ⟨by have := hj.1; omega, hj.2⟩)), z2, ⟨by omega, by omega⟩, Or.inr ⟨mid, 0, ⟨r1, r2, Nat.le_refl _⟩, ⟨⟨j1, j2, j3⟩, ?_, ?_⟩, ?_⟩⟩
    · rw [z2.row (g := 20) rfl]; exact ey
    · rw [zy]
      have b6 := b5.df z1
      rw [hI.row (g := 23) rfl] at b6
      obtain ⟨-, y2, y3, y4⟩ := z1.2.2.2.1 s s1
      exact ⟨b6, s, by have := z1.2.2.1.1; omega, y2.trans s2, y3.trans s3, y4.trans s4⟩
    · rw [z2.row (g := 27) rfl] at z5 ⊢
      exact z5
/-- the number of a PROCEDURE is known -/
def KPr (M : Prop) (e x5 : Int32) (ν κ : MS) : Prop := kf [56] [57, 58] ν κ ∧ ((ν.1 56).toInt ≤ (κ.1 56).toInt ∧ (κ.1 56).toInt ≤ (ν.1 56).toInt + 1) ∧ (1 ≤ x5.toInt ∧ x5.toInt ≤ (κ.1 56).toInt) ∧ (∀ p : Nat, (p : Int) ≤ (ν.1 56).toInt → κ.2.1 57 p = ν.2.1 57 p ∧ (κ.2.1 58 p = ν.2.1 58 p ∨ ((p : Int) = x5.toInt ∧ κ.2.1 58 p = e ∧ M))) ∧ ∀ p : Nat, (p : Int) = (ν.1 56).toInt + 1 → (p : Int) ≤ (κ.1 56).toInt → κ.2.1 57 p = e ∧ (κ.2.1 58 p = -1 ∨ ((p : Int) = x5.toInt ∧ κ.2.1 58 p = e ∧ M))
theorem pr_343 {u e x3 x4 x5 : Int32} {M : Prop} {w : Nat} {mid : Int} (hd : 3 ≤ d) (u0 : 0 ≤ u.toInt) (u1 : u.toInt < n) (hI : DI μ n B ν) (hk : KPr M e x5 ν κ) (hM : M → μ.2.1 26 (μ.2.1 42 w).toNatClampNeg = 1) (hdc : DcO μ w e) (ee : μ.2.1 20 e.toNatClampNeg = 9) (hS : SB (μ.1 41).toInt μ (bt 0 N)) (eN : bt 0 N e.toNatClampNeg) (h43 : (ν.1 43).toInt < 3200) (hB : B ≤ e.toInt) (e0 : 0 ≤ e.toInt) (hmid : e.toInt < mid) :
    ME X W true d 347 343 [(0, .ref P.1), (1, .int u), (2, .int e), (3, .int x3), (4, .int x4), (5, .int x5)] [] P κ (fun _ ζ => DF (fun j => j = e.toNatClampNeg) ν ζ ∧ DI μ n mid ζ ∧ ((ζ.1 43).toInt = (ν.1 43).toInt + 1 ∧ (ζ.1 52).toInt = (ν.1 52).toInt) ∧ (1 ≤ (ζ.2.1 28 e.toNatClampNeg).toInt ∧ (ζ.2.1 28 e.toNatClampNeg).toInt ≤ (ζ.1 56).toInt)) T := by
  obtain ⟨k1, ⟨k2, k2'⟩, ⟨k3, k3'⟩, k4, k5⟩ := hk
  have hce := @ic e
  have e16 : e.toInt < 16000 := by have := (hS _ eN).1; omega
  obtain ⟨-, -, ⟨hSy, hPr, hTy⟩, h6, ⟨⟨q4, q5, q6⟩, q1, q2, q3⟩, -⟩ := id hI
  have hU2 : US n κ := by
    unfold US
    rw [k1.1 43 rfl, k1.2.1 48 rfl, k1.2.1 49 rfl, k1.2.1 50 rfl]
    exact hI.1.2.1
  have hNE2 : NE n κ := by
    refine ⟨hI.1.1.to k1, hU2, fun s hs h45 => ?_⟩
    rw [k1.1 43 rfl] at hs
    rw [k1.2.1 45 rfl] at h45
    rw [k1.2.1 47 rfl, k1.1 17 rfl]
    exact hI.1.2.2 s hs h45
  have i43 := eq_i (k1.1 43 rfl)
  have i52 := eq_i (k1.1 52 rfl)
  have i60 := eq_i (k1.1 60 rfl)
  have mi : ∀ {κ : MS} {g : Nat} {s r : List Nat}, kf s r ν κ → rk g = true → rlen g = 16000 → MI e (κ.2.2 g) := fun hk hg hr => MI.of ((hI.1.1.to hk).g hg hr) e0 e16
  refine v_declared_343 _ _ _ _ _ ⟨mi k1 rfl rfl, mi k1 rfl rfl, MC.mono (c_tell hd (hI.1.1.to k1) hU2 u0 u1 (by omega)) (fun _ κt hT => ?_) (fun _ h => h)⟩
  have t1 := hT.1
  have e43 := hT.2.2.1
  have j52 := eq_i (t1.1 52 rfl)
  have j56 := eq_i (t1.1 56 rfl)
  have j60 := eq_i (t1.1 60 rfl)
  have kt : kf [17, 18, 43, 56] [44, 45, 46, 47, 49, 57, 58] ν κt := (k1.up rfl rfl).tr (t1.up rfl rfl)
  refine ⟨mi kt rfl rfl, v_declared_376 _ _ ?_⟩
  have kz : kf [] [28] κt (mA1 κt 28 e.toNatClampNeg x5) := kf.rf.A rfl
  have x28 : (mA1 κt 28 e.toNatClampNeg x5).2.1 28 e.toNatClampNeg = x5 := upd_at
  have b28 : ∀ j : Nat, j ≠ e.toNatClampNeg → (mA1 κt 28 e.toNatClampNeg x5).2.1 28 j = κt.2.1 28 j := fun j hj => upd_off hj
  generalize mA1 κt 28 e.toNatClampNeg x5 = ζ at *
  have z43 := eq_i (kz.1 43 rfl)
  have z52 := eq_i (kz.1 52 rfl)
  have z56 := eq_i (kz.1 56 rfl)
  have z60 := eq_i (kz.1 60 rfl)
  have h0 := hI.1.2.1.1.1
  have hc43 := @ic (κ.1 43)
  have o28 : ∀ j : Nat, j ≠ e.toNatClampNeg → ζ.2.1 28 j = ν.2.1 28 j := fun j hj => by rw [b28 j hj, kt.2.1 28 rfl]
  have hNEt : NE n κt := hT.ne hNE2 u0 u1 (by omega) (fun e => absurd e (by decide))
  have hNEz : NE n ζ := by
    refine ⟨hNEt.1.to kz, ?_, fun s hs h45 => ?_⟩
    · unfold US
      rw [kz.1 43 rfl, kz.2.1 48 rfl, kz.2.1 49 rfl, kz.2.1 50 rfl]
      exact hNEt.2.1
    · rw [kz.1 43 rfl] at hs
      rw [kz.2.1 45 rfl] at h45
      rw [kz.2.1 47 rfl, kz.1 17 rfl]
      exact hNEt.2.2 s hs h45
  have r57 : ζ.2.1 57 = κ.2.1 57 := (kz.2.1 57 rfl).trans (t1.2.1 57 rfl)
  have r58 : ζ.2.1 58 = κ.2.1 58 := (kz.2.1 58 rfl).trans (t1.2.1 58 rfl)
  have df : DF (fun j => j = e.toNatClampNeg) ν ζ := by
    refine ⟨(kt.up rfl rfl).tr (kz.up rfl rfl), fun e => by rw [kz.1 17 rfl]; exact hT.2.1 (by rw [k1.1 17 rfl]; exact e), ⟨by omega, by omega, by omega, by omega⟩, fun s hs => ?_, fun v hv => ?_, fun i _ => ?_, fun i hi => ?_, fun j => ?_⟩
    · obtain ⟨b1, b2, b3, b4⟩ := hT.2.2.2.2.1 s (by omega)
      rw [kz.2.1 44 rfl, kz.2.1 45 rfl, kz.2.1 46 rfl, kz.2.1 47 rfl, b1, b2, b3, b4, k1.2.1 44 rfl, k1.2.1 45 rfl, k1.2.1 46 rfl, k1.2.1 47 rfl]
      exact ⟨rfl, rfl, rfl, rfl⟩
    · rw [kz.2.1 53 rfl, kz.2.1 54 rfl, kt.2.1 53 rfl, kt.2.1 54 rfl]
      exact ⟨rfl, rfl⟩
    · rw [kz.2.1 61 rfl, kt.2.1 61 rfl]
    · rw [r57]; exact (k4 i hi).1
    · by_cases c : j = e.toNatClampNeg
      · exact Or.inl c
      · exact Or.inr (o28 j c)
  have made : ∀ p : Nat, (p : Int) = x5.toInt → M → ((∃ w, DcO μ w e ∧ μ.2.1 26 (μ.2.1 42 w).toNatClampNeg = 1) ∧ μ.2.1 20 e.toNatClampNeg = 9 ∧ e.toInt < mid ∧ (ζ.2.1 28 e.toNatClampNeg).toInt = (p : Int)) := fun p hp m => ⟨⟨w, hdc, hM m⟩, ee, hmid, by rw [x28]; exact hp.symm⟩
  refine ⟨df, hI.go df (fun j hj => by rw [hj]; omega) (by omega) hNEz (fun i hi => ?_) ?_ (fun s s1 s2 => ?_) (fun p p1 p2 => ?_) (fun k k1 k2 => by omega) ⟨by omega, by omega, by omega⟩, ⟨by omega, by omega⟩, by rw [x28]; omega⟩
  · have k20 : ζ.2.1 20 = ν.2.1 20 := df.row rfl
    have eν : ν.2.1 20 = μ.2.1 20 := hI.row rfl
    have ne : ∀ j : Nat, (ν.2.1 20 j = 10 ∨ ν.2.1 20 j = 13) → j ≠ e.toNatClampNeg := fun j hj c => by
      rw [c, eν, ee] at hj
      rcases hj with hj | hj <;> exact absurd hj (by decide)
    replace hi := hi.of k20 (df.1.1 19 rfl)
    rw [o28 i (ne i hi.2)]
    obtain ⟨w1, w2⟩ := h6 i hi
    refine ⟨by omega, fun j hj h0 hij => ?_⟩
    replace hj := hj.of k20 (df.1.1 19 rfl)
    rw [o28 j (ne j hj.2)] at hij
    exact w2 j hj h0 hij
  · rw [kz.2.1 51 rfl, kt.2.1 51 rfl]
  · have es : s = (κ.1 43).toNatClampNeg := by omega
    obtain ⟨y1, y2, y3⟩ := hT.2.2.2.1
    unfold SyF
    rw [es, kz.2.1 45 rfl, kz.2.1 46 rfl, kz.2.1 47 rfl, y1, y2, y3]
    exact Or.inr (Or.inr (Or.inr (Or.inr ⟨rfl, ⟨w, hdc⟩, ee, k3, by omega⟩)))
  · by_cases c : (p : Int) ≤ (ν.1 56).toInt
    · obtain ⟨g1, g2⟩ := k4 p c
      rcases g2 with g2 | ⟨g2, g3, g4⟩
      · exact Or.inl ⟨by rw [r58]; exact g2, c⟩
      · refine Or.inr ?_
        unfold PrF
        rw [r57, r58, g1, g3]
        exact ⟨(hPr p p1 c).1, Or.inr (made p g2 g4)⟩
    · obtain ⟨g1, g2⟩ := k5 p (by omega) (by omega)
      refine Or.inr ?_
      unfold PrF
      rw [r57, r58, g1]
      refine ⟨⟨⟨w, hdc⟩, ee⟩, ?_⟩
      rcases g2 with g2 | ⟨g2, g3, g4⟩
      · exact Or.inl g2
      · rw [g3]
        exact Or.inr (made p g2 g4)
end NNI
