/-! contracts of the reference: units' parts; every unit told -/
def smF (f : Nat → Nat) : Nat → Nat
  | 0 => 0
  | n + 1 => smF f n + f n
/-- a unit: IMPORTs, declarations, statements, in spans, with weights -/
def UX (μ : MS) (h K : Nat) (lo hi : Int) (V w g : Nat) (x : Int32) : Prop := (0 ≤ x.toInt ∧ lo ≤ x.toInt ∧ x.toInt < hi) ∧ μ.2.1 20 x.toNatClampNeg = 1 ∧ w + g ≤ V ∧ ∃ (c1 c2 c3 c4 : Int) (m1 m2 v1 wd v3 : Nat), (x.toInt < c1 ∧ c1 ≤ c2 ∧ c2 ≤ c3 ∧ c3 ≤ c4 ∧ c4 ≤ hi) ∧ (v1 + wd + g ≤ V ∧ wd + v3 ≤ w) ∧ WL (PK μ h K 2 5) (μ.2.1 27) m1 c1 c2 v1 (μ.2.1 23 x.toNatClampNeg) ∧ WG (PK μ h K 2 4) (fun x => μ.2.1 20 x.toNatClampNeg = 7) (μ.2.1 27) m2 c2 c3 wd g (μ.2.1 24 x.toNatClampNeg) ∧ BT μ h K c3 c4 v3 (μ.2.1 25 x.toNatClampNeg)
section NNM
variable {X : ev_X} {W : Nat → Prop} {d h K : Nat} {P : MP} {μ ν κ ζ : MS} {B n N lo hi : Int} {T : MS → Prop} {x : Int32} {V w g : Nat}
theorem ux_of (hP : PK μ h K 3 20 lo hi V x) : ∃ wg : Nat × Nat, UX μ h K lo hi V wg.1 wg.2 x := by
  obtain ⟨i, g3, c, v, ⟨b0, b5⟩, hw, F⟩ := hP
  have g3 : ([1] : List Int32).contains (μ.2.1 20 x.toNatClampNeg) = true := g3
  have ek : μ.2.1 20 x.toNatClampNeg = 1 := by simpa using g3
  have q0 : c 0 ≤ c 1 := (F 0 (by decide)).1
  have q1 : c 1 ≤ c 2 := (F 1 (by decide)).1
  have q2 : c 2 ≤ c 3 := (F 2 (by decide)).1
  have q3 : c 3 ≤ c 4 := (F 3 (by decide)).1
  have q4 : c 4 ≤ c 5 := (F 4 (by decide)).1
  have f1 := F 1 (by decide)
  have f2 := F 2 (by decide)
  have f3 := F 3 (by decide)
  rw [ek] at f1 f2 f3
  obtain ⟨-, -, hL1⟩ := f1
  obtain ⟨-, -, hL2⟩ := f2
  obtain ⟨-, hB3, -⟩ := f3
  obtain ⟨m1, hm1⟩ : LK μ h K 2 5 (c 1) (c 2) (v 1) (μ.2.1 23 x.toNatClampNeg) := hL1 (by decide)
  obtain ⟨m2, hm2⟩ : LK μ h K 2 4 (c 2) (c 3) (v 2) (μ.2.1 24 x.toNatClampNeg) := hL2 (by decide)
  have hB : BT μ h K (c 3) (c 4) (v 3) (μ.2.1 25 x.toNatClampNeg) := hB3 rfl
  obtain ⟨wd, g, hwg, hG⟩ := hm2.wg (D := fun x => μ.2.1 20 x.toNatClampNeg = 7)
  refine ⟨(wd + v 3, g), i, ek, ?_, c 1, c 2, c 3, c 4, m1, m2, v 1, wd, v 3, ⟨by omega, q1, q2, q3, by omega⟩, ⟨?_, Nat.le_refl _⟩, hm1, hG, hB⟩
  · show wd + v 3 + g ≤ V
    omega
  · show v 1 + wd + g ≤ V
    omega
theorem DI.start (hL : LRow μ.2.2) (h28 : ∀ j : Nat, (j : Int) < (μ.1 19).toInt → μ.2.1 28 j = -1) : DI μ 0 B (mS1 (mS1 (mS1 (mS1 (mS1 μ 43 0) 52 0) 56 0) 59 0) 60 0) := by
  have k : kf [43, 52, 56, 59, 60] [] μ (mS1 (mS1 (mS1 (mS1 (mS1 μ 43 0) 52 0) 56 0) 59 0) 60 0) := ((((kf.rf.S rfl).S rfl).S rfl).S rfl).S rfl
  have e43 : (mS1 (mS1 (mS1 (mS1 (mS1 μ 43 0) 52 0) 56 0) 59 0) 60 0).1 43 = 0 := rfl
  have e52 : (mS1 (mS1 (mS1 (mS1 (mS1 μ 43 0) 52 0) 56 0) 59 0) 60 0).1 52 = 0 := rfl
  have e56 : (mS1 (mS1 (mS1 (mS1 (mS1 μ 43 0) 52 0) 56 0) 59 0) 60 0).1 56 = 0 := rfl
  have e60 : (mS1 (mS1 (mS1 (mS1 (mS1 μ 43 0) 52 0) 56 0) 59 0) 60 0).1 60 = 0 := rfl
  generalize mS1 (mS1 (mS1 (mS1 (mS1 μ 43 0) 52 0) 56 0) 59 0) 60 0 = ζ at *
  have z : (0 : Int32).toInt = 0 := rfl
  have z43 := eq_i e43
  have z52 := eq_i e52
  have z56 := eq_i e56
  have z60 := eq_i e60
  rw [z] at z43 z52 z56 z60
  refine ⟨⟨hL.to k, ⟨⟨by omega, by omega⟩, by omega, fun w hw => by omega⟩, fun s hs => by omega⟩, k.up rfl rfl, ⟨fun s hs => by omega, fun p p1 p2 => by omega, fun k hk => by omega⟩, fun i hi => ?_, ⟨⟨by omega, by omega, by omega⟩, by omega, by omega, by omega⟩, fun w hw => by omega⟩
  have m1 : (-1 : Int32).toInt = -1 := rfl
  have e28 : (ζ.2.1 28 i).toInt = -1 := by
    rw [k.2.1 28 rfl, h28 i (by have := hi.1; rw [k.1 19 rfl] at this; exact this)]
    exact m1
  exact ⟨by omega, fun j _ h0 => by omega⟩
theorem FcQ.start {f u : Int32} (u0 : 0 ≤ u.toInt) : FcQ f u ν (mA1 (mA1 (mA1 (mA1 ν 51 u.toNatClampNeg f) 50 u.toNatClampNeg (-1)) 48 u.toNatClampNeg (ν.1 43)) 49 u.toNatClampNeg (ν.1 43)) := by
  have m1 : (-1 : Int32).toInt = -1 := rfl
  refine ⟨(((kf.rf.A rfl).A rfl).A rfl).A rfl, id, fun j hj => ⟨upd_off hj, upd_off hj, upd_off hj, upd_off hj⟩, upd_at, upd_at, upd_at, ?_⟩
  have e : (mA1 (mA1 (mA1 (mA1 ν 51 u.toNatClampNeg f) 50 u.toNatClampNeg (-1)) 48 u.toNatClampNeg (ν.1 43)) 49 u.toNatClampNeg (ν.1 43)).2.1 50 u.toNatClampNeg = -1 := upd_at
  rw [e]; omega
theorem da_27 {c : Nat → Int} {V : Nat → Nat} {f : Nat → Nat × Nat} {u : Nat} (hd : 3 ≤ d) (hu : (u : Int) = (μ.1 41).toInt ∧ u ≤ 12) (hS : SB (μ.1 41).toInt μ (bt 0 N)) (hN : N ≤ 16000) (hV : V u ≤ 3100) (hU : ∀ i, i < u → V i ≤ V (i + 1) ∧ (0 ≤ c i ∧ c i ≤ c (i + 1) ∧ c (i + 1) ≤ N) ∧ UX μ h K (c i) (c (i + 1)) (V (i + 1) - V i) (f i).1 (f i).2 (μ.2.1 42 i)) : ∀ (k i : Nat) (x1 : Int32) (ν : MS), i + k = u → x1.toInt = i → DI μ i (c i) ν → (ν.1 43).toInt ≤ V i → (ν.1 52).toInt ≤ smF (fun j => (f j).2) i → (∀ j, j < i → c (j + 1) ≤ c i ∧ UnT μ h K ν (c j) (c (j + 1)) (f j).1 (f j).2 (μ.2.1 42 j)) →
    ME X W true (d + 1) 345 27 [(0, .ref P.1), (1, .int x1)] [] P ν (fun _ ζ => DI μ u (c u) ζ ∧ ((ζ.1 43).toInt ≤ V u ∧ (ζ.1 52).toInt ≤ smF (fun j => (f j).2) u) ∧ ∀ j, j < u → UnT μ h K ζ (c j) (c (j + 1)) (f j).1 (f j).2 (μ.2.1 42 j)) T
  | 0, i, x1, ν, hi, hx, hI, h43, h52, hD => by
    have e41 := eq_i (hI.2.1.1 41 rfl)
    have hi : i = u := by omega
    subst hi
    exact v_declareAll_27 _ ⟨fun _ => ⟨hI, ⟨h43, h52⟩, fun j hj => (hD j hj).2⟩, fun h => by omega⟩
  | k + 1, i, x1, ν, hi, hx, hI, h43, h52, hD => by
    have e41 := eq_i (hI.2.1.1 41 rfl)
    obtain ⟨u1, ⟨u2, u3, u4⟩, ⟨i1, i2, i3⟩, ek, hwg, c1, c2, c3, c4, m1, m2, v1, wd, v3, ⟨q1, q2, q3, q4, q5⟩, ⟨hv, hwv⟩, hm1, hG, hBT⟩ := hU i (by omega)
    have hcx := @ic x1
    have hcn := @ic (μ.2.1 42 i)
    have en : x1.toNatClampNeg = i := by omega
    have r42 : ν.2.1 42 = μ.2.1 42 := hI.row rfl
    have r26 : ν.2.1 26 = μ.2.1 26 := hI.row rfl
    have hVi : V (i + 1) ≤ V u := by
      have : ∀ k, i + 1 + k ≤ u → V (i + 1) ≤ V (i + 1 + k) := fun k => by
        induction k with
        | zero => intro _; exact Nat.le_refl _
        | succ k ih => intro hk; exact Nat.le_trans (ih (by omega)) ((hU (i + 1 + k) (by omega)).1)
      have := this (u - (i + 1)) (by omega)
      rw [show i + 1 + (u - (i + 1)) = u by omega] at this
      exact this
    have hn16 : ∀ w : Nat, (w : Int) ≤ x1.toInt → 0 ≤ (μ.2.1 42 w).toInt ∧ (μ.2.1 42 w).toInt < 16000 := fun w hw => by
      obtain ⟨-, ⟨z2, z3, z4⟩, ⟨z5, z6, z7⟩, -⟩ := hU w (by omega)
      exact ⟨z5, by omega⟩
    have ee : ν.2.1 42 x1.toNatClampNeg = μ.2.1 42 i := by rw [r42, en]
    have cast : ((i + 1 : Nat) : Int) = (i : Int) + 1 := by omega
    have mu : ∀ {g : Nat}, rk g = true → rlen g = 14 → MI x1 (ν.2.2 g) := fun hg hr => MI.of (hI.1.1.g hg hr) (by omega) (by omega)
    have e1 : (x1 + 1).toInt = x1.toInt + 1 := ia1 (by omega)
    have me : ∀ {κ : MS} {s r : List Nat} {g : Nat}, kf s r ν κ → rk g = true → rlen g = 16000 → MI (μ.2.1 42 i) (κ.2.2 g) := fun hk hg hr => MI.of ((hI.1.1.to hk).g hg hr) i1 (by omega)
    have go : ∀ fl : Int32, fl = (if μ.2.1 26 (μ.2.1 42 i).toNatClampNeg = 1 then 1 else 0) → ME X W true (d + 1) 345 92 [(0, .ref P.1), (1, .int x1), (2, .int (μ.2.1 42 i)), (3, .int 0)] [] P (mA1 (mA1 (mA1 (mA1 ν 51 x1.toNatClampNeg fl) 50 x1.toNatClampNeg (-1)) 48 x1.toNatClampNeg (ν.1 43)) 49 x1.toNatClampNeg (ν.1 43)) (fun _ ζ => DI μ u (c u) ζ ∧ ((ζ.1 43).toInt ≤ V u ∧ (ζ.1 52).toInt ≤ smF (fun j => (f j).2) u) ∧ ∀ j, j < u → UnT μ h K ζ (c j) (c (j + 1)) (f j).1 (f j).2 (μ.2.1 42 j)) T := fun fl hfl => by
      have z : (0 : Int32).toInt = 0 := rfl
      refine da_92 (f := fl) (ν := ν) (by omega) (by omega) (by omega) hI.1.1 (by rw [r42]; exact hn16) ee (fun κ hq => ?_) x1.toInt.toNat 0 _ (by omega) (by omega) (FcQ.start (by omega))
      obtain ⟨dI, dF⟩ := hI.next hq hx (by omega) (by omega) (by rw [en]; exact hfl)
      rw [← cast] at dI
      have j43 := eq_i (hq.1.1 43 rfl)
      have j52 := eq_i (hq.1.1 52 rfl)
      refine ⟨me hq.1 rfl rfl, ?_⟩
      rw [dI.row (g := 23) rfl]
      refine da_187 (d := d) (by omega) (by omega) (by omega) hn16 (by omega) m1 c1 v1 _ κ dI (by omega) (by omega) hm1 (fun ζ z1 z2 z3 z4 => v_declareAll_187 _ _ _ ⟨fun _ => ⟨me ((hq.1.up (s' := [17, 18, 43, 52, 56, 59, 60]) (r' := [28, 44, 45, 46, 47, 48, 49, 50, 51, 53, 54, 55, 57, 58, 61]) rfl rfl).tr z1.1) rfl rfl, ?_⟩, fun h => absurd h (by decide)⟩)
      rw [z2.row (g := 24) rfl]
      refine da_214 (d := d) (N := N) hd (by omega) (by omega) hx (by omega) rfl hS (by omega) m2 c2 wd (f i).2 _ ζ (c i) z2 (by omega) (by omega) ⟨0, rfl⟩ (by omega) hG (fun ζ2 y1 y2 y3 y4 y5 => v_declareAll_214 _ _ _ ⟨fun _ => ?_, fun h => absurd h (by decide)⟩)
      refine da_27 hd hu hS hN hV hU k (i + 1) (x1 + 1) ζ2 (by omega) (by omega) (y2.up (by omega)) (by omega) ?_ (fun j hj => ?_)
      · show (ζ2.1 52).toInt ≤ ((smF (fun j => (f j).2) i + (f i).2 : Nat) : Int)
        omega
      · by_cases ej : j < i
        · obtain ⟨w1, w2⟩ := hD j ej
          refine ⟨by omega, w2.df (C := bt c2 c3) (((dF.sub (fun _ h => h.elim)).tr (z1.sub (fun _ h => h.elim))).tr y1) (fun j' hj1 hj2 => by have := hj1.2; have := hj2.1; omega)⟩
        · have ej : j = i := by omega
          subst ej
          exact ⟨Int.le_refl _, ⟨i1, i2, i3⟩, ek, c2, c3, c4, m2, wd, v3, ⟨by omega, q3, q4, q5⟩, hwv, y5, hBT⟩
    refine v_declareAll_27 _ ⟨fun h => by omega, fun _ => ⟨mu rfl rfl, ?_, fun h26 => ⟨mu rfl rfl, mu rfl rfl, mu rfl rfl, mu rfl rfl, ?_⟩, fun h26 => ⟨mu rfl rfl, mu rfl rfl, mu rfl rfl, mu rfl rfl, ?_⟩⟩⟩
    · rw [ee]; exact me (s := []) (r := []) kf.rf rfl rfl
    · rw [ee, r26] at h26
      rw [ee]
      exact go 0 (by rw [if_neg h26])
    · rw [ee, r26] at h26
      rw [ee]
      exact go 1 (by rw [if_pos h26])
theorem c_declareAll {c : Nat → Int} {V : Nat → Nat} {f : Nat → Nat × Nat} {u : Nat} (hd : 3 ≤ d) (hL : LRow μ.2.2) (h28 : ∀ j : Nat, (j : Int) < (μ.1 19).toInt → μ.2.1 28 j = -1) (hu : (u : Int) = (μ.1 41).toInt ∧ u ≤ 12) (hS : SB (μ.1 41).toInt μ (bt 0 N)) (hN : N ≤ 16000) (hV : V u ≤ 3100) (hU : ∀ i, i < u → V i ≤ V (i + 1) ∧ (0 ≤ c i ∧ c i ≤ c (i + 1) ∧ c (i + 1) ≤ N) ∧ UX μ h K (c i) (c (i + 1)) (V (i + 1) - V i) (f i).1 (f i).2 (μ.2.1 42 i)) :
    MC X W true (d + 2) 345 [.ref P.1] P μ (fun _ ζ => DI μ u (c u) ζ ∧ ((ζ.1 43).toInt ≤ V u ∧ (ζ.1 52).toInt ≤ smF (fun j => (f j).2) u) ∧ ∀ j, j < u → UnT μ h K ζ (c j) (c (j + 1)) (f j).1 (f j).2 (μ.2.1 42 j)) T := by
  have z : (0 : Int32).toInt = 0 := rfl
  refine me_meth (by omega) rfl (v_declareAll_0 (da_27 hd hu hS hN hV hU u 0 0 _ (by omega) rfl (DI.start hL h28) ?_ ?_ (fun j hj => by omega)))
  · show (0 : Int32).toInt ≤ _
    omega
  · show (0 : Int32).toInt ≤ _
    omega
end NNM
