/-! contracts of the reference: rings of NAMEs, and what a TYPE stands for -/
/-- the first declaration of a ring -/
def frF (ζ : MS) (e : Int32) : Nat → Int32 → Int32 → Int32
  | 0, y, _ => y
  | n + 1, y, z => if z = e then y else frF ζ e n (if (z : Int32) < y then z else y) (dcl ζ (ζ.2.1 23 z.toNatClampNeg))
def frV (ζ : MS) (e : Int32) : Int32 := frF ζ e 3200 e (dcl ζ (ζ.2.1 23 e.toNatClampNeg))
/-- what a TYPE stands for -/
def rlF (ζ : MS) : Nat → Int32 → Int32
  | 0, y => if ζ.2.1 20 y.toNatClampNeg = 20 then (if ζ.2.1 20 (dcl ζ y).toNatClampNeg = 4 then dcl ζ y else frV ζ (dcl ζ y)) else y
  | n + 1, y => if ζ.2.1 20 y.toNatClampNeg = 20 then (if ζ.2.1 20 (dcl ζ y).toNatClampNeg = 4 then dcl ζ y else rlF ζ n (ζ.2.1 23 (dcl ζ y).toNatClampNeg)) else y
def rlV (ζ : MS) (x : Int32) : Int32 := rlF ζ ((ζ.1 60).toInt.toNat + 1) x
/-- a TYPE that is no NAME, or a declaration -/
def RT (μ ζ : MS) (r : Int32) : Prop := (Nd ζ 0 r ∧ ¬ ζ.2.1 20 r.toNatClampNeg = 20) ∨ Dk μ ζ r
section NNS
variable {X : ev_X} {W : Nat → Prop} {d h K : Nat} {P : MP} {μ ν κ ζ : MS} {T : MS → Prop} {x e t : Int32}
theorem sq_ring {N : Nat} (hB : TB μ ζ) (hN : N = (ζ.1 60).toInt.toNat) (hA : ∀ i, i ≤ N + 1 → AlN ζ (sqT ζ x i)) : ∃ p, (1 ≤ p ∧ p ≤ N) ∧ (∀ m, AlN ζ (sqT ζ x m)) ∧ sqT ζ x (N + 1 + p) = sqT ζ x (N + 1) := by
  have hch : ∀ i, ∃ k : Nat, i ≤ N + 1 → (k : Int) < (ζ.1 60).toInt ∧ ζ.2.1 61 k = dcl ζ (sqT ζ x i) := fun i => by
    by_cases c : i ≤ N + 1
    · obtain ⟨a1, a2, -⟩ := hA i c
      obtain ⟨-, -, -, -, k, h1, h2⟩ := hB.dcl a1 a2
      exact ⟨k, fun _ => ⟨h1, h2⟩⟩
    · exact ⟨0, fun h => absurd h c⟩
  obtain ⟨f, hf⟩ := Classical.skolem.mp hch
  obtain ⟨i, j, h1, h2, h3⟩ := two_alike N f (fun i hi => by have := (hf i (by omega)).1; omega)
  have e1 : sqT ζ x (i + 1) = sqT ζ x (j + 1) := by
    show ζ.2.1 23 (dcl ζ (sqT ζ x i)).toNatClampNeg = ζ.2.1 23 (dcl ζ (sqT ζ x j)).toNatClampNeg
    rw [← (hf i (by omega)).2, ← (hf j (by omega)).2, h3]
  have per : ∀ m, sqT ζ x (i + 1 + m + (j - i)) = sqT ζ x (i + 1 + m) := fun m => by
    rw [show i + 1 + m + (j - i) = j + 1 + m by omega, sqT.add (j + 1) m, sqT.add (i + 1) m, e1]
  have all : ∀ b m, m ≤ b → AlN ζ (sqT ζ x m) := fun b => by
    induction b with
    | zero => intro m hm; exact hA m (by omega)
    | succ b ih =>
      intro m hm
      by_cases c : m ≤ N + 1
      · exact hA m c
      · have := per (m - (j - i) - (i + 1))
        rw [show i + 1 + (m - (j - i) - (i + 1)) + (j - i) = m by omega] at this
        rw [this]
        exact ih _ (by omega)
  refine ⟨j - i, ⟨by omega, by omega⟩, fun m => all m m (Nat.le_refl _), ?_⟩
  have := per (N + 1 - (i + 1))
  rw [show i + 1 + (N + 1 - (i + 1)) = N + 1 by omega] at this
  exact this
theorem fr_13 {p : Nat} (hB : TB μ ζ) (hF : TF ζ ν) (hd : 1 ≤ d) (hA : ∀ m, AlN ζ (sqT ζ t m)) (he : e = dcl ζ t) (hp : sqT ζ t p = t) : ∀ (k m n : Nat) (y : Int32), m + k = p → k ≤ n → Dk μ ζ y → ME X W true d 366 13 [(0, .ref P.1), (1, .int e), (2, .int y), (3, .int (dcl ζ (sqT ζ t m)))] [] P ν (fun r ν1 => ν1 = ν ∧ r = frF ζ e n y (dcl ζ (sqT ζ t m)) ∧ Dk μ ζ r) T := by
  intro k
  have yes : ∀ (m n : Nat) (y : Int32), dcl ζ (sqT ζ t m) = e → Dk μ ζ y → ME X W true d 366 13 [(0, .ref P.1), (1, .int e), (2, .int y), (3, .int (dcl ζ (sqT ζ t m)))] [] P ν (fun r ν1 => ν1 = ν ∧ r = frF ζ e n y (dcl ζ (sqT ζ t m)) ∧ Dk μ ζ r) T := fun m n y c hy => by
    refine v_firstOfRing_13 _ _ _ ⟨fun _ => ⟨rfl, ?_, hy⟩, fun h => absurd c h⟩
    cases n with
    | zero => rfl
    | succ n => show y = if _ then _ else _; rw [if_pos c]
  induction k with
  | zero =>
    intro m n y hm hn hy
    refine yes m n y ?_ hy
    rw [show m = p by omega, hp]
    exact he.symm
  | succ k ih =>
    intro m n y hm hn hy
    by_cases c : dcl ζ (sqT ζ t m) = e
    · exact yes m n y c hy
    · cases n with
        | zero => omega
        | succ n =>
          have hz := hB.dcl (hA m).1 (hA m).2.1
          have hz1 := hA (m + 1)
          refine v_firstOfRing_13 _ _ _ ⟨fun h => absurd h c, fun _ => ⟨hz.mi hB hF rfl rfl, ?_⟩⟩
          rw [hF.row (g := 23) rfl]
          refine MC.mono (c_dcl hB hF hd hz1.1 hz1.2.1) (fun r κ hk => ?_) (fun _ h => h)
          obtain ⟨rfl, rfl⟩ := hk
          have ih := ih (m + 1) n (if (dcl ζ (sqT ζ t m) : Int32) < y then dcl ζ (sqT ζ t m) else y) (by omega) (by omega) (by
            by_cases c2 : (dcl ζ (sqT ζ t m) : Int32) < y
            · rw [if_pos c2]; exact hz
            · rw [if_neg c2]; exact hy)
          refine ME.mono ih (fun r ν1 h => ⟨h.1, ?_, h.2.2⟩) (fun _ h => h)
          rw [h.2.1]
          show _ = if _ then _ else _
          rw [if_neg c]
          rfl
theorem c_ring1 {p : Nat} (hB : TB μ ζ) (hF : TF ζ ν) (hd : 2 ≤ d) (hA : ∀ m, AlN ζ (sqT ζ t m)) (he : e = dcl ζ t) (hp : sqT ζ t p = t) (p1 : 1 ≤ p) (p2 : p ≤ 3200) : MC X W true d 366 [.ref P.1, .int e] P ν (fun r ν1 => ν1 = ν ∧ r = frV ζ e ∧ Dk μ ζ r) T := by
  have hz : Dk μ ζ e := by rw [he]; exact hB.dcl (hA 0).1 (hA 0).2.1
  have e1 : ζ.2.1 23 e.toNatClampNeg = sqT ζ t 1 := by rw [he]; rfl
  refine me_meth (by omega) rfl (v_firstOfRing_0 _ ⟨hz.mi hB hF rfl rfl, ?_⟩)
  rw [hF.row (g := 23) rfl, e1]
  refine MC.mono (c_dcl hB hF (by omega) (hA 1).1 (hA 1).2.1) (fun r κ hk => ?_) (fun _ h => h)
  obtain ⟨rfl, rfl⟩ := hk
  refine ME.mono (fr_13 hB hF (by omega) hA he hp (p - 1) 1 3200 e (by omega) (by omega) hz) (fun r ν1 h => ⟨h.1, ?_, h.2.2⟩) (fun _ h => h)
  unfold frV
  rw [e1]
  exact h.2.1
theorem rl_4 {N : Nat} (hB : TB μ ζ) (hF : TF ζ ν) (hd : 3 ≤ d) (hN : N = (ζ.1 60).toInt.toNat) : ∀ (k i : Nat) (x3 : Int32), i + k = N + 1 → x3.toInt = i → (∀ j, j < i → AlN ζ (sqT ζ x j)) → Nd ζ 0 (sqT ζ x i) → ME X W true d 365 4 [(0, .ref P.1), (1, .int x), (2, .int (sqT ζ x i)), (3, .int x3)] [] P ν (fun r ν1 => ν1 = ν ∧ r = rlF ζ k (sqT ζ x i) ∧ RT μ ζ r) T := by
  intro k
  induction k with
  | zero =>
    intro i x3 hi h3 hA hx
    have hb := hB.2.1.2.2.2.1.2.2
    have hU := hB.2.1.2.1.1.2.1.1
    have r20 : ν.2.1 20 = ζ.2.1 20 := hF.row rfl
    have i60 := eq_i (hF.1.1 60 rfl)
    refine v_real_4 _ _ _ ⟨hx.mi hB hF rfl rfl, fun hk => ?_, fun hk => ?_⟩
    · rw [r20] at hk
      refine ⟨rfl, ?_, Or.inl ⟨hx, hk⟩⟩
      show _ = if _ then _ else _; rw [if_neg hk]
    · rw [r20] at hk
      refine MC.mono (c_dcl hB hF (by omega) hx hk) (fun r κ hκ => ?_) (fun _ h => h)
      obtain ⟨rfl, rfl⟩ := hκ
      have hz := hB.dcl hx hk
      refine ⟨hz.mi hB hF rfl rfl, fun h4 => ?_, fun h4 => ?_⟩
      · rw [r20] at h4
        have h3k : ζ.2.1 20 (dcl ζ (sqT ζ x i)).toNatClampNeg = 3 := hz.2.1.resolve_right h4
        have hA2 : ∀ j, j < i + 1 → AlN ζ (sqT ζ x j) := fun j hj => by
          by_cases c : j < i
          · exact hA j c
          · rw [show j = i by omega]; exact ⟨hx, hk, h3k⟩
        refine ⟨fun hle => ?_, fun hlt => ?_⟩
        · omega
        · have ei : i = N + 1 := by omega
          subst ei
          obtain ⟨p, ⟨p1, p2⟩, p3, p4⟩ := sq_ring hB hN (fun j hj => hA2 j (by omega))
          refine MC.mono (c_ring1 (t := sqT ζ x (N + 1)) (p := p) hB hF (by omega) (fun m => by rw [← sqT.add]; exact p3 _) rfl (by rw [← sqT.add]; exact p4) p1 (by omega)) (fun r ν1 h => ⟨h.1, ?_, Or.inr h.2.2⟩) (fun _ h => h)
          rw [h.2.1]
          show _ = if _ then _ else _
          rw [if_pos hk, if_neg h4]
      · rw [r20] at h4
        refine ⟨rfl, ?_, Or.inr hz⟩
        show _ = if _ then _ else _; rw [if_pos hk, if_pos h4]
  | succ k ih0 =>
    intro i x3 hi h3 hA hx
    have hb := hB.2.1.2.2.2.1.2.2
    have hU := hB.2.1.2.1.1.2.1.1
    have r20 : ν.2.1 20 = ζ.2.1 20 := hF.row rfl
    have i60 := eq_i (hF.1.1 60 rfl)
    refine v_real_4 _ _ _ ⟨hx.mi hB hF rfl rfl, fun hk => ?_, fun hk => ?_⟩
    · rw [r20] at hk
      refine ⟨rfl, ?_, Or.inl ⟨hx, hk⟩⟩
      show _ = if _ then _ else _; rw [if_neg hk]
    · rw [r20] at hk
      refine MC.mono (c_dcl hB hF (by omega) hx hk) (fun r κ hκ => ?_) (fun _ h => h)
      obtain ⟨rfl, rfl⟩ := hκ
      have hz := hB.dcl hx hk
      refine ⟨hz.mi hB hF rfl rfl, fun h4 => ?_, fun h4 => ?_⟩
      · rw [r20] at h4
        have h3k : ζ.2.1 20 (dcl ζ (sqT ζ x i)).toNatClampNeg = 3 := hz.2.1.resolve_right h4
        have hA2 : ∀ j, j < i + 1 → AlN ζ (sqT ζ x j) := fun j hj => by
          by_cases c : j < i
          · exact hA j c
          · rw [show j = i by omega]; exact ⟨hx, hk, h3k⟩
        refine ⟨fun hle => ?_, fun hlt => ?_⟩
        · have e1 : (x3 + 1).toInt = x3.toInt + 1 := ia1 (by omega)
          refine ⟨hz.mi hB hF rfl rfl, ?_⟩
          rw [hF.row (g := 23) rfl]
          have ih := ih0 (i + 1) (x3 + 1) (by omega) (by omega) hA2 hz.2.2.2.1
          refine ME.mono ih (fun r ν1 h => ⟨h.1, ?_, h.2.2⟩) (fun _ h => h)
          rw [h.2.1]
          show _ = if _ then _ else _
          rw [if_pos hk, if_neg h4]
          rfl
        · omega
      · rw [r20] at h4
        refine ⟨rfl, ?_, Or.inr hz⟩
        show _ = if _ then _ else _; rw [if_pos hk, if_pos h4]
theorem c_real (hB : TB μ ζ) (hF : TF ζ ν) (hd : 4 ≤ d) (hx : Nd ζ 0 x) : MC X W true d 365 [.ref P.1, .int x] P ν (fun r ν1 => ν1 = ν ∧ r = rlV ζ x ∧ RT μ ζ r) T :=
  me_meth (by omega) rfl (v_real_0 _ (rl_4 (x := x) hB hF (by omega) rfl ((ζ.1 60).toInt.toNat + 1) 0 0 (by omega) rfl (fun j hj => by omega) hx))
end NNS
