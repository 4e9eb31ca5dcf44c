/-! contracts of the reference: the CELLS of a TYPE -/
/-- one step into a TYPE, by declarations that do not hold themselves -/
def GSt (ζ : MS) (η : Nat → Int32) (x y : Int32) : Prop := (ζ.2.1 20 x.toNatClampNeg = 20 ∧ ζ.2.1 20 (dcl ζ x).toNatClampNeg = 3 ∧ η (dcl ζ x).toNatClampNeg = 0 ∧ y = ζ.2.1 23 (dcl ζ x).toNatClampNeg) ∨ (ζ.2.1 20 x.toNatClampNeg = 28 ∧ y = ζ.2.1 24 x.toNatClampNeg) ∨ (ζ.2.1 20 x.toNatClampNeg = 29 ∧ ∃ m f, Onl (ζ.2.1 27) m (ζ.2.1 22 x.toNatClampNeg) f ∧ 0 ≤ f.toInt ∧ y = ζ.2.1 23 f.toNatClampNeg)
def GRs (ζ : MS) (η : Nat → Int32) : Nat → Int32 → Int32 → Prop
  | 0, x, y => x = y
  | n + 1, x, y => ∃ z, GSt ζ η x z ∧ GRs ζ η n z y
/-- declarations that hold themselves are told -/
def HoC (μ ζ : MS) (η : Nat → Int32) : Prop := ∀ e, Dk μ ζ e → ζ.2.1 20 e.toNatClampNeg = 3 → η e.toNatClampNeg = 0 → NoC ζ e
/-- no declaration holds itself -/
def ag (ζ : MS) (η : Nat → Int32) : Prop := ∀ j : Nat, (j : Int) < (ζ.1 19).toInt → η j = 0
/-- how many elements an ARRAY has -/
def arN (ζ : MS) (t : Int32) : Int := (ζ.2.1 23 t.toNatClampNeg).toInt - (ζ.2.1 22 t.toNatClampNeg).toInt + 1
/-- ARRAYs have elements -/
def bg (ζ : MS) : Prop := ∀ t, Nd ζ 0 t → ζ.2.1 20 t.toNatClampNeg = 28 → 1 ≤ arN ζ t
/-- the CELLS of a TYPE as they are told so far -/
def cvV (ζ : MS) (M : Nat → Int32) (x : Int32) : Int32 := if ζ.2.1 20 (rlV ζ x).toNatClampNeg = 28 ∨ ζ.2.1 20 (rlV ζ x).toNatClampNeg = 29 then M (rlV ζ x).toNatClampNeg else 1
/-- FIELDs' CELLS, from a sum on -/
def FlS (ζ : MS) (M : Nat → Int32) : Nat → Int32 → Int → Int → Prop
  | 0, x, s, v => x = -1 ∧ v = s
  | m + 1, x, s, v => (x = -1 ∧ v = s) ∨ (0 ≤ x.toInt ∧ ¬ cvV ζ M (ζ.2.1 23 x.toNatClampNeg) = -2 ∧ ((0 ≤ (cvV ζ M (ζ.2.1 23 x.toNatClampNeg)).toInt ∧ FlS ζ M m (ζ.2.1 27 x.toNatClampNeg) (min (s + (cvV ζ M (ζ.2.1 23 x.toNatClampNeg)).toInt) 100000) v) ∨ ((cvV ζ M (ζ.2.1 23 x.toNatClampNeg)).toInt < 0 ∧ v = -1)))
/-- an ARRAY's, a RECORD's CELLS out of their parts' -/
def EqC (ζ : MS) (M : Nat → Int32) (t : Int32) : Prop := (ζ.2.1 20 t.toNatClampNeg = 28 → ¬ cvV ζ M (ζ.2.1 24 t.toNatClampNeg) = -2 ∧ (1 ≤ arN ζ t ∧ 0 ≤ (cvV ζ M (ζ.2.1 24 t.toNatClampNeg)).toInt → (M t.toNatClampNeg).toInt = min (arN ζ t * (cvV ζ M (ζ.2.1 24 t.toNatClampNeg)).toInt) 100000) ∧ (¬ (1 ≤ arN ζ t ∧ 0 ≤ (cvV ζ M (ζ.2.1 24 t.toNatClampNeg)).toInt) → M t.toNatClampNeg = -1)) ∧
  (ζ.2.1 20 t.toNatClampNeg = 29 → ∃ m, FlS ζ M m (ζ.2.1 22 t.toNatClampNeg) 0 (M t.toNatClampNeg).toInt)
/-- what is told is right -/
def KI (ζ : MS) (η M : Nat → Int32) : Prop := ∀ t, Nd ζ 0 t → ζ.2.1 20 t.toNatClampNeg = 28 ∨ ζ.2.1 20 t.toNatClampNeg = 29 → M t.toNatClampNeg = -2 ∨ ((-1 ≤ (M t.toNatClampNeg).toInt ∧ (M t.toNatClampNeg).toInt ≤ 100000) ∧ (ag ζ η → EqC ζ M t ∧ (bg ζ → 0 ≤ (M t.toNatClampNeg).toInt)))
/-- what is told stays -/
def KP (M M' : Nat → Int32) : Prop := ∀ j, ¬ M j = -2 → M' j = M j
/-- what cellsOf answers; f marks what is being counted -/
def ClR (ζ : MS) (η f : Nat → Int32) (x : Int32) (ν0 : MS) (r : Int32) (ν1 : MS) : Prop := (kf [] [81] ν0 ν1 ∧ KI ζ η (ν1.2.1 81) ∧ KP (ν0.2.1 81) (ν1.2.1 81) ∧ ∀ j, ¬ f j = 0 → ν1.2.1 81 j = ν0.2.1 81 j) ∧ (-1 ≤ r.toInt ∧ r.toInt ≤ 100000) ∧ (ag ζ η → r = cvV ζ (ν1.2.1 81) x ∧ (bg ζ → 0 ≤ r.toInt))
/-- the same, at an ARRAY or RECORD itself -/
def ClT (ζ : MS) (η f : Nat → Int32) (t : Int32) (ν0 : MS) (r : Int32) (ν1 : MS) : Prop := (kf [] [81] ν0 ν1 ∧ KI ζ η (ν1.2.1 81) ∧ KP (ν0.2.1 81) (ν1.2.1 81) ∧ ∀ j, ¬ f j = 0 → ν1.2.1 81 j = ν0.2.1 81 j) ∧ (-1 ≤ r.toInt ∧ r.toInt ≤ 100000) ∧ (ag ζ η → r = ν1.2.1 81 t.toNatClampNeg ∧ (bg ζ → 0 ≤ r.toInt))
/-- what is being counted leads here -/
def SKf (ζ : MS) (η f : Nat → Int32) (x : Int32) : Prop := ∀ s : Int32, Nd ζ 0 s → ¬ f s.toNatClampNeg = 0 → ∃ n, GRs ζ η (n + 1) s x
section NNAP
variable {X : ev_X} {W : Nat → Prop} {d : Nat} {P : MP} {μ ν ν0 ν1 κ ζ : MS} {T : MS → Prop} {x y z s t r e u : Int32} {η f M M' : Nat → Int32} {w c : Nat}
theorem gr_cat : ∀ {n m : Nat} {x y z : Int32}, GRs ζ η n x y → GRs ζ η m y z → GRs ζ η (n + m) x z
  | 0, m, x, y, z, h, g => by
    have h : x = y := h
    rw [h, Nat.zero_add]; exact g
  | n + 1, m, x, y, z, h, g => by
    obtain ⟨v, h1, h2⟩ := h
    rw [show n + 1 + m = (n + m) + 1 by omega]
    exact ⟨v, h1, gr_cat h2 g⟩
theorem gs_st (h : GSt ζ η x y) : St ζ x y := by
  rcases h with ⟨a, b, -, c⟩ | h | h
  · exact Or.inl ⟨a, b, c⟩
  · exact Or.inr (Or.inl h)
  · exact Or.inr (Or.inr h)
theorem gr_rs : ∀ {n : Nat} {x y : Int32}, GRs ζ η n x y → Rs ζ n x y
  | 0, _, _, h => h
  | _ + 1, _, _, ⟨z, h1, h2⟩ => ⟨z, gs_st h1, gr_rs h2⟩
theorem rs_cat : ∀ {n m : Nat} {x y z : Int32}, Rs ζ n x y → Rs ζ m y z → Rs ζ (n + m) x z
  | 0, m, x, y, z, h, g => by
    have h : x = y := h
    rw [h, Nat.zero_add]; exact g
  | n + 1, m, x, y, z, h, g => by
    obtain ⟨v, h1, h2⟩ := h
    rw [show n + 1 + m = (n + m) + 1 by omega]
    exact ⟨v, h1, rs_cat h2 g⟩
theorem gs_nd (hB : TB μ ζ) (hn : Nd ζ 0 x) (h : GSt ζ η x y) : Nd ζ 0 y := by
  rcases h with ⟨a, -, -, e⟩ | ⟨a, e⟩ | ⟨a, m, f, ho, h0, e⟩
  · rw [e]; exact (hB.dcl hn a).2.2.2.1
  · rw [e]; exact nd_28 hn a
  · rw [e]
    obtain ⟨m2, hm⟩ := nd_29 hn a
    exact fl_ty (Lst.onl h0 hm ho)
theorem gr_split (hB : TB μ ζ) : ∀ (n h : Nat) (x y : Int32), NG ζ h 0 x → Nd ζ 0 x → GRs ζ η n x y → (∃ i j z, GRs ζ η i x z ∧ Nd ζ 0 z ∧ ζ.2.1 20 z.toNatClampNeg = 20 ∧ ζ.2.1 20 (dcl ζ z).toNatClampNeg = 3 ∧ η (dcl ζ z).toNatClampNeg = 0 ∧ GRs ζ η j (ζ.2.1 23 (dcl ζ z).toNatClampNeg) y) ∨ ∃ h', NG ζ h' 0 y ∧ h' + n ≤ h
  | 0, h, x, y, hg, _, hr => by
    have hr : x = y := hr
    subst hr
    exact Or.inr ⟨h, hg, by omega⟩
  | n + 1, h, x, y, hg, hn, hr => by
    obtain ⟨z, h1, h2⟩ := hr
    have hz := gs_nd hB hn h1
    rcases h1 with ⟨a, b, c, e⟩ | ⟨a, e⟩ | ⟨a, m, f, ho, h0, e⟩
    · exact Or.inl ⟨0, n, x, rfl, hn, a, b, c, by rw [← e]; exact h2⟩
    · cases h with
      | zero => exact hg.elim
      | succ h =>
        have g2 := ng_28 hg a
        rw [← e] at g2
        rcases gr_split hB n h z y g2 hz h2 with ⟨i, j, v, k1, k2⟩ | ⟨h', k1, k2⟩
        · exact Or.inl ⟨i + 1, j, v, ⟨z, Or.inr (Or.inl ⟨a, e⟩), k1⟩, k2⟩
        · exact Or.inr ⟨h', k1, by omega⟩
    · cases h with
      | zero => exact hg.elim
      | succ h =>
        have g2 := hg.2.2.2 0 (by omega)
        rw [a] at g2
        obtain ⟨m2, g2⟩ : ∃ m, Lst (NG ζ h 10) (ζ.2.1 27) m (ζ.2.1 (22 + 0) x.toNatClampNeg) := g2
        have g3 := Lst.onl h0 g2 ho
        cases h with
        | zero => exact g3.elim
        | succ h =>
          have k10 : ([33] : List Int32).contains (ζ.2.1 20 f.toNatClampNeg) = true := g3.2.1
          have k33 : ζ.2.1 20 f.toNatClampNeg = 33 := by simpa using k10
          have g4 := g3.2.2.2 1 (by omega)
          rw [k33] at g4
          have g5 : NG ζ h 0 (ζ.2.1 23 f.toNatClampNeg) := g4.1
          rw [← e] at g5
          rcases gr_split hB n h z y g5 hz h2 with ⟨i, j, v, k1, k2⟩ | ⟨h', k1, k2⟩
          · exact Or.inl ⟨i + 1, j, v, ⟨z, Or.inr (Or.inr ⟨a, m, f, ho, h0, e⟩), k1⟩, k2⟩
          · exact Or.inr ⟨h', k1, by omega⟩
theorem no_cyc (hB : TB μ ζ) (hC : HoC μ ζ η) : ∀ (k h n : Nat) (x : Int32), h ≤ k → NG ζ h 0 x → Nd ζ 0 x → GRs ζ η (n + 1) x x → False := by
  intro k
  induction k with
  | zero =>
    intro h n x hk hg _ _
    rw [show h = 0 by omega] at hg
    exact hg.elim
  | succ k ih =>
    intro h n x hk hg hn hr
    rcases gr_split hB (n + 1) h x x hg hn hr with ⟨i, j, z, k1, k2, k3, k4, k5, k6⟩ | ⟨h', k1, k2⟩
    · exact hC _ (hB.dcl k2 k3) k4 k5 (j + i) z (rs_cat (gr_rs k6) (gr_rs k1)) k3 rfl
    · exact ih h' n x (by omega) k1 hn hr
theorem no_cy (hB : TB μ ζ) (hC : HoC μ ζ η) {n : Nat} (hn : Nd ζ 0 x) (hr : GRs ζ η (n + 1) x x) : False := by
  have hn2 := hn
  obtain ⟨h, _, g, _⟩ := hn2
  exact no_cyc hB hC h h n x (Nat.le_refl _) g hn hr
/-- so many NAMEs passed -/
def AlG (ζ : MS) (η : Nat → Int32) (x : Int32) (i : Nat) : Prop := ∀ j, j < i → AlN ζ (sqT ζ x j) ∧ η (dcl ζ (sqT ζ x j)).toNatClampNeg = 0
theorem al_gr : ∀ {i : Nat} {x : Int32}, AlG ζ η x i → GRs ζ η i x (sqT ζ x i)
  | 0, _, _ => rfl
  | i + 1, x, h => by
    obtain ⟨⟨-, a2, a3⟩, b⟩ := h i (by omega)
    exact gr_cat (m := 1) (al_gr (fun j hj => h j (by omega))) ⟨_, Or.inl ⟨a2, a3, b, rfl⟩, rfl⟩
theorem al_lt (hB : TB μ ζ) (hC : HoC μ ζ η) {i : Nat} (h : AlG ζ η x i) : i ≤ (ζ.1 60).toInt.toNat := by
  by_cases cc : i ≤ (ζ.1 60).toInt.toNat
  · exact cc
  have hch : ∀ j, ∃ k : Nat, j < i → (k : Int) < (ζ.1 60).toInt ∧ ζ.2.1 61 k = dcl ζ (sqT ζ x j) := fun j => by
    by_cases c : j < i
    · obtain ⟨⟨a1, a2, -⟩, -⟩ := h j c
      obtain ⟨-, -, -, -, k, h1, h2⟩ := hB.dcl a1 a2
      exact ⟨k, fun _ => ⟨h1, h2⟩⟩
    · exact ⟨0, fun h => absurd h c⟩
  obtain ⟨g, hg⟩ := Classical.skolem.mp hch
  have h60 := hB.2.1.2.2.2.1.2.2.1
  obtain ⟨a, b, h1, h2, h3⟩ := two_alike (ζ.1 60).toInt.toNat g (fun j hj => by have := (hg j (by omega)).1; omega)
  have e1 : sqT ζ x (a + 1) = sqT ζ x (b + 1) := by
    show ζ.2.1 23 (dcl ζ (sqT ζ x a)).toNatClampNeg = ζ.2.1 23 (dcl ζ (sqT ζ x b)).toNatClampNeg
    rw [← (hg a (by omega)).2, ← (hg b (by omega)).2, h3]
  have hn : Nd ζ 0 (sqT ζ x (a + 1)) := (hB.dcl (h a (by omega)).1.1 (h a (by omega)).1.2.1).2.2.2.1
  have hr : GRs ζ η (b - a) (sqT ζ x (a + 1)) (sqT ζ x (b + 1)) := by
    have := al_gr (ζ := ζ) (η := η) (x := sqT ζ x (a + 1)) (i := b - a) (fun j hj => by
      rw [← sqT.add]
      exact h (a + 1 + j) (by omega))
    rw [← sqT.add, show a + 1 + (b - a) = b + 1 by omega] at this
    exact this
  rw [← e1, show b - a = (b - a - 1) + 1 by omega] at hr
  exact (no_cy hB hC hn hr).elim
theorem rl_wk {i : Nat} (h : ∀ j, j < i → AlN ζ (sqT ζ x j)) (hi : i ≤ (ζ.1 60).toInt.toNat + 1) : rlV ζ x = rlF ζ ((ζ.1 60).toInt.toNat + 1 - i) (sqT ζ x i) := by
  induction i with
  | zero => rfl
  | succ i ih =>
    rw [ih (fun j hj => h j (by omega)) (by omega)]
    obtain ⟨-, a2, a3⟩ := h i (by omega)
    rw [show (ζ.1 60).toInt.toNat + 1 - i = ((ζ.1 60).toInt.toNat + 1 - (i + 1)) + 1 by omega]
    show (if _ then _ else _) = _
    rw [if_pos a2, if_neg (fun h => by rw [a3] at h; exact absurd h (by decide))]
    rfl
theorem rl_end {i : Nat} (h : ∀ j, j < i → AlN ζ (sqT ζ x j)) (hi : i ≤ (ζ.1 60).toInt.toNat + 1) (hk : ¬ ζ.2.1 20 (sqT ζ x i).toNatClampNeg = 20) : rlV ζ x = sqT ζ x i := by
  rw [rl_wk h hi]
  cases (ζ.1 60).toInt.toNat + 1 - i with
  | zero => show (if _ then _ else _) = _; rw [if_neg hk]
  | succ k => show (if _ then _ else _) = _; rw [if_neg hk]
theorem rl_op {i : Nat} (h : ∀ j, j < i → AlN ζ (sqT ζ x j)) (hi : i ≤ (ζ.1 60).toInt.toNat + 1) (hk : ζ.2.1 20 (sqT ζ x i).toNatClampNeg = 20) (h4 : ζ.2.1 20 (dcl ζ (sqT ζ x i)).toNatClampNeg = 4) : rlV ζ x = dcl ζ (sqT ζ x i) := by
  rw [rl_wk h hi]
  cases (ζ.1 60).toInt.toNat + 1 - i with
  | zero => show (if _ then _ else _) = _; rw [if_pos hk, if_pos h4]
  | succ k => show (if _ then _ else _) = _; rw [if_pos hk, if_pos h4]
theorem cv_keep (h : KP M M') (hx : ¬ cvV ζ M x = -2) : cvV ζ M' x = cvV ζ M x := by
  unfold cvV at hx ⊢
  by_cases c : ζ.2.1 20 (rlV ζ x).toNatClampNeg = 28 ∨ ζ.2.1 20 (rlV ζ x).toNatClampNeg = 29
  · rw [if_pos c] at hx ⊢
    rw [if_pos c]
    exact h _ hx
  · rw [if_neg c, if_neg c]
theorem fl_keep (h : KP M M') : ∀ {m : Nat} {x : Int32} {s v : Int}, FlS ζ M m x s v → FlS ζ M' m x s v
  | 0, _, _, _, g => g
  | m + 1, x, s, v, g => by
    rcases g with g | ⟨g1, g2, g3⟩
    · exact Or.inl g
    · have e := cv_keep h g2
      refine Or.inr ⟨g1, by rw [e]; exact g2, ?_⟩
      rw [e]
      exact g3.imp (fun k => ⟨k.1, fl_keep h k.2⟩) id
theorem eq_keep (h : KP M M') (ht : ¬ M t.toNatClampNeg = -2) (g : EqC ζ M t) : EqC ζ M' t := by
  refine ⟨fun k => ?_, fun k => ?_⟩
  · obtain ⟨a, b, c⟩ := g.1 k
    rw [cv_keep h a, h _ ht]
    exact ⟨a, b, c⟩
  · obtain ⟨m, hm⟩ := g.2 k
    rw [h _ ht]
    exact ⟨m, fl_keep h hm⟩
theorem KP.rf : KP M M := fun _ _ => rfl
theorem KP.tr {M'' : Nat → Int32} (h : KP M M') (g : KP M' M'') : KP M M'' := fun j hj => by
  have := h j hj
  rw [g j (by rw [this]; exact hj), this]
theorem KP.put {v : Int32} {j : Nat} (h : M j = -2) : KP M (upd M j v) := fun i hi => upd_off (fun e => hi (by rw [e]; exact h))
/-- a value told -/
theorem KI.put {v : Int32} (hK : KI ζ η M) (tn : Nd ζ 0 t) (ht : M t.toNatClampNeg = -2) (hv : -1 ≤ v.toInt ∧ v.toInt ≤ 100000) (he : ag ζ η → EqC ζ (upd M t.toNatClampNeg v) t ∧ (bg ζ → 0 ≤ v.toInt)) : KI ζ η (upd M t.toNatClampNeg v) := fun t' hn hk => by
  by_cases c : t'.toNatClampNeg = t.toNatClampNeg
  · have : t' = t := in_eq hn.in tn.in c
    subst this
    rw [upd_at]
    exact Or.inr ⟨hv, he⟩
  · rw [upd_off c]
    rcases hK t' hn hk with h | ⟨h1, h2⟩
    · exact Or.inl h
    · by_cases c2 : M t'.toNatClampNeg = -2
      · exact Or.inl c2
      · exact Or.inr ⟨h1, fun g => ⟨eq_keep (KP.put ht) c2 (h2 g).1, (h2 g).2⟩⟩
end NNAP
