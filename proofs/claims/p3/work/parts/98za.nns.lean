/-! contracts of the reference: parts of TYPEs in pairs; what it is for TYPEs to be alike -/
/-- two rows, node by node -/
def L2 (E : Int32 → Int32 → Prop) (nx : Nat → Int32) : Nat → Int32 → Int32 → Prop
  | 0, x, y => x = -1 ∧ y = -1
  | m + 1, x, y => (x = -1 ∧ y = -1) ∨ (E x y ∧ L2 E nx m (nx x.toNatClampNeg) (nx y.toNatClampNeg))
/-- what the nodes of a row weigh -/
def ctF (wt : Int32 → Nat) (nx : Nat → Int32) : Nat → Int32 → Nat
  | 0, _ => 0
  | m + 1, y => if y.toInt < 0 then 0 else wt y + ctF wt nx m (nx y.toNatClampNeg)
/-- the number that a QNAME or nothing stands for -/
def nbV (ζ : MS) (q : Int32) : Int32 := if 0 ≤ q.toInt then ζ.2.1 47 (ζ.2.1 28 q.toNatClampNeg).toNatClampNeg else 0
/-- FIELDs -/
def FdR (ζ : MS) (R : Int32 → Int32 → Prop) (x y : Int32) : Prop := ∃ m, L2 (fun f g => (0 ≤ f.toInt ∧ 0 ≤ g.toInt) ∧ ζ.2.1 22 f.toNatClampNeg = ζ.2.1 22 g.toNatClampNeg ∧ R (ζ.2.1 23 f.toNatClampNeg) (ζ.2.1 23 g.toNatClampNeg)) (ζ.2.1 27) m x y
/-- FORMALs -/
def FmR (ζ : MS) (R : Int32 → Int32 → Prop) (x y : Int32) : Prop := ∃ m, L2 (fun f g => (0 ≤ f.toInt ∧ 0 ≤ g.toInt) ∧ ζ.2.1 24 f.toNatClampNeg = ζ.2.1 24 g.toNatClampNeg ∧ R (ζ.2.1 23 f.toNatClampNeg) (ζ.2.1 23 g.toNatClampNeg)) (ζ.2.1 27) m x y
/-- RESULTs -/
def ReR (R : Int32 → Int32 → Prop) (x y : Int32) : Prop := (x.toInt < 0 ∧ y.toInt < 0) ∨ ((0 ≤ x.toInt ∧ 0 ≤ y.toInt) ∧ R x y)
/-- SIGNATUREs, from some FORMALs on -/
def SgR (ζ : MS) (R : Int32 → Int32 → Prop) (s t x y : Int32) : Prop := FmR ζ R x y ∧ ReR R (ζ.2.1 23 s.toNatClampNeg) (ζ.2.1 23 t.toNatClampNeg)
/-- METHODs -/
def MdR (ζ : MS) (R : Int32 → Int32 → Prop) (x y : Int32) : Prop := ∃ m, L2 (fun f g => (0 ≤ f.toInt ∧ 0 ≤ g.toInt) ∧ (ζ.2.1 22 f.toNatClampNeg = ζ.2.1 22 g.toNatClampNeg ∧ nbV ζ (ζ.2.1 24 f.toNatClampNeg) = nbV ζ (ζ.2.1 24 g.toNatClampNeg)) ∧ SgR ζ R (ζ.2.1 23 f.toNatClampNeg) (ζ.2.1 23 g.toNatClampNeg) (ζ.2.1 22 (ζ.2.1 23 f.toNatClampNeg).toNatClampNeg) (ζ.2.1 22 (ζ.2.1 23 g.toNatClampNeg).toNatClampNeg)) (ζ.2.1 27) m x y
/-- TYPEs that are no NAMEs, their parts in a relation -/
def PtR (ζ : MS) (R : Int32 → Int32 → Prop) (a b : Int32) : Prop := ζ.2.1 20 a.toNatClampNeg = ζ.2.1 20 b.toNatClampNeg ∧ (¬ ζ.2.1 20 a.toNatClampNeg = 3 ∧ ¬ ζ.2.1 20 a.toNatClampNeg = 4) ∧
  (ζ.2.1 20 a.toNatClampNeg = 27 → ζ.2.1 22 a.toNatClampNeg = ζ.2.1 22 b.toNatClampNeg ∧ ζ.2.1 23 a.toNatClampNeg = ζ.2.1 23 b.toNatClampNeg) ∧
  (ζ.2.1 20 a.toNatClampNeg = 28 → (ζ.2.1 22 a.toNatClampNeg = ζ.2.1 22 b.toNatClampNeg ∧ ζ.2.1 23 a.toNatClampNeg = ζ.2.1 23 b.toNatClampNeg) ∧ R (ζ.2.1 24 a.toNatClampNeg) (ζ.2.1 24 b.toNatClampNeg)) ∧
  (ζ.2.1 20 a.toNatClampNeg = 29 → FdR ζ R (ζ.2.1 22 a.toNatClampNeg) (ζ.2.1 22 b.toNatClampNeg)) ∧
  (ζ.2.1 20 a.toNatClampNeg = 30 → R (ζ.2.1 22 a.toNatClampNeg) (ζ.2.1 22 b.toNatClampNeg)) ∧
  (ζ.2.1 20 a.toNatClampNeg = 31 → SgR ζ R (ζ.2.1 22 a.toNatClampNeg) (ζ.2.1 22 b.toNatClampNeg) (ζ.2.1 22 (ζ.2.1 22 a.toNatClampNeg).toNatClampNeg) (ζ.2.1 22 (ζ.2.1 22 b.toNatClampNeg).toNatClampNeg)) ∧
  (ζ.2.1 20 a.toNatClampNeg = 32 → R (supV ζ a) (supV ζ b) ∧ FdR ζ R (ζ.2.1 23 a.toNatClampNeg) (ζ.2.1 23 b.toNatClampNeg) ∧ MdR ζ R (ζ.2.1 24 a.toNatClampNeg) (ζ.2.1 24 b.toNatClampNeg))
/-- how many pairs a TYPE can give -/
def PwO (ζ : MS) (pw fw : Nat → Nat) (b : Int32) : Prop := (ζ.2.1 20 b.toNatClampNeg = 28 ∨ ζ.2.1 20 b.toNatClampNeg = 30 → 1 ≤ pw b.toNatClampNeg) ∧ (ζ.2.1 20 b.toNatClampNeg = 29 → ∀ m, ctF (fun _ => 1) (ζ.2.1 27) m (ζ.2.1 22 b.toNatClampNeg) ≤ pw b.toNatClampNeg) ∧ (ζ.2.1 20 b.toNatClampNeg = 31 → fw (ζ.2.1 22 b.toNatClampNeg).toNatClampNeg ≤ pw b.toNatClampNeg) ∧ (ζ.2.1 20 b.toNatClampNeg = 32 → ∀ m m2, 1 + ctF (fun _ => 1) (ζ.2.1 27) m (ζ.2.1 23 b.toNatClampNeg) + ctF (fun q => fw (ζ.2.1 23 q.toNatClampNeg).toNatClampNeg) (ζ.2.1 27) m2 (ζ.2.1 24 b.toNatClampNeg) ≤ pw b.toNatClampNeg)
/-- TYPEs have so many parts all together -/
def PwB (ζ : MS) : Prop := ∃ pw fw : Nat → Nat, (∀ s, Nd ζ 8 s → fw s.toNatClampNeg ≤ 3000 ∧ ∀ m, ctF (fun _ => 1) (ζ.2.1 27) m (ζ.2.1 22 s.toNatClampNeg) + 1 ≤ fw s.toNatClampNeg) ∧ (∀ b, Nd ζ 0 b → PwO ζ pw fw b) ∧ ∀ l : List Nat, l.Nodup → (l.map pw).sum ≤ 60000
/-- pairs more -/
def PrX (ζ ν ν1 : MS) : Prop := kf [69] [70, 71] ν ν1 ∧ (ν.1 69).toInt ≤ (ν1.1 69).toInt ∧ (∀ k : Nat, (k : Int) < (ν.1 69).toInt → ν1.2.1 70 k = ν.2.1 70 k ∧ ν1.2.1 71 k = ν.2.1 71 k) ∧ ∀ k : Nat, (ν.1 69).toInt ≤ k → (k : Int) < (ν1.1 69).toInt → Nd ζ 0 (ν1.2.1 70 k) ∧ Nd ζ 0 (ν1.2.1 71 k)
/-- a pair is there -/
def PdN (ν : MS) (p q : Int32) : Prop := ∃ k : Nat, (k : Int) < (ν.1 69).toInt ∧ ν.2.1 70 k = p ∧ ν.2.1 71 k = q
section NNAA
variable {X : ev_X} {W : Nat → Prop} {d : Nat} {P : MP} {μ ν ν1 κ ζ : MS} {T : MS → Prop} {x y p q a b : Int32}
theorem L2.mono {E F : Int32 → Int32 → Prop} {nx : Nat → Int32} (h : ∀ x y, E x y → F x y) : ∀ {m : Nat} {x y : Int32}, L2 E nx m x y → L2 F nx m x y
  | 0, _, _, g => g
  | _ + 1, _, _, g => g.imp id (fun g => ⟨h _ _ g.1, L2.mono h g.2⟩)
theorem L2.symm {E : Int32 → Int32 → Prop} {nx : Nat → Int32} : ∀ {m : Nat} {x y : Int32}, L2 E nx m x y → L2 (fun a b => E b a) nx m y x
  | 0, _, _, g => ⟨g.2, g.1⟩
  | _ + 1, _, _, g => g.imp (fun g => ⟨g.2, g.1⟩) (fun g => ⟨g.1, L2.symm g.2⟩)
theorem L2.trans {E F H : Int32 → Int32 → Prop} {nx : Nat → Int32} (h : ∀ x y z, E x y → F y z → H x z) (h0 : ∀ x y, E x y → 0 ≤ x.toInt ∧ 0 ≤ y.toInt) (h1 : ∀ x y, F x y → 0 ≤ x.toInt ∧ 0 ≤ y.toInt) : ∀ {m n : Nat} {x y z : Int32}, L2 E nx m x y → L2 F nx n y z → L2 H nx m x z
  | 0, n, x, y, z, g, k => by
    obtain ⟨g1, g2⟩ := g
    subst g2
    cases n with
    | zero => exact ⟨g1, k.2⟩
    | succ n =>
      rcases k with k | k
      · exact ⟨g1, k.2⟩
      · have := (h1 _ _ k.1).1; exact absurd this (by decide)
  | m + 1, n, x, y, z, g, k => by
    rcases g with ⟨g1, g2⟩ | ⟨g1, g2⟩
    · subst g2
      cases n with
      | zero => exact Or.inl ⟨g1, k.2⟩
      | succ n =>
        rcases k with k | k
        · exact Or.inl ⟨g1, k.2⟩
        · have := (h1 _ _ k.1).1; exact absurd this (by decide)
    · cases n with
      | zero =>
        have := (h0 _ _ g1).2
        rw [k.1] at this; exact absurd this (by decide)
      | succ n =>
        rcases k with k | k
        · have := (h0 _ _ g1).2
          rw [k.1] at this; exact absurd this (by decide)
        · exact Or.inr ⟨h _ _ _ g1 k.1, L2.trans h h0 h1 g2 k.2⟩
theorem TF.kf {s r : List Nat} (h : TF ζ ν) (k : kf s r ν ν1) (hs : s.all (fun x => ([0, 3, 18, 34, 67, 68, 69, 74, 76, 77, 80, 83, 89, 90, 91, 92, 93, 97, 98, 100, 101, 102, 103, 104, 110, 115, 127, 128, 129, 130, 133] : List Nat).contains x) = true) (hr : r.all (fun x => ([2, 55, 66, 68, 70, 71, 72, 73, 74, 75, 76, 78, 79, 81, 82, 84, 88, 94, 95, 96, 99, 105, 106, 107, 108, 109, 111, 112, 113, 114, 116, 117, 118, 119, 120, 121, 122, 123, 124, 125, 126, 132] : List Nat).contains x) = true) : TF ζ ν1 := by
  have hs' : s.all (fun x => TFs.contains x) = true := by
    rw [List.all_eq_true] at hs ⊢
    intro x hx
    have := hs x hx
    simp only [List.contains_eq_mem, decide_eq_true_eq, List.mem_cons, List.not_mem_nil, or_false] at this ⊢
    omega
  have hr' : r.all (fun x => TFr.contains x) = true := by
    rw [List.all_eq_true] at hr ⊢
    intro x hx
    have := hr x hx
    simp only [List.contains_eq_mem, decide_eq_true_eq, List.mem_cons, List.not_mem_nil, or_false] at this ⊢
    omega
  refine ⟨h.1.tr k hs' hr', fun e => ?_, fun j => ?_, fun g hg j => ?_⟩
  · rw [k.1 17 (kf_sub hs rfl)]; exact h.2.1 e
  · rw [k.2.1 28 (kf_sub hr rfl)]; exact h.2.2.1 j
  · rw [k.2.1 g (kf_sub hr (by rcases hg with e | e | e <;> (rw [e]; rfl)))]; exact h.2.2.2 g hg j
theorem PrX.rf : PrX ζ ν ν := ⟨kf.rf, Int.le_refl _, fun _ _ => ⟨rfl, rfl⟩, fun k h1 h2 => by omega⟩
theorem PrX.tr (h : PrX ζ ν κ) (g : PrX ζ κ ν1) : PrX ζ ν ν1 := by
  obtain ⟨h1, h2, h3, h4⟩ := h
  obtain ⟨g1, g2, g3, g4⟩ := g
  refine ⟨h1.tr g1, by omega, fun k hk => ?_, fun k k1 k2 => ?_⟩
  · rw [(g3 k (by omega)).1, (g3 k (by omega)).2]; exact h3 k hk
  · by_cases c : (k : Int) < (κ.1 69).toInt
    · rw [(g3 k c).1, (g3 k c).2]; exact h4 k k1 c
    · exact g4 k (by omega) k2
theorem PrX.tf (h : PrX ζ ν ν1) (hF : TF ζ ν) : TF ζ ν1 := hF.kf h.1 rfl rfl
theorem PdN.px (h : PdN ν p q) (g : PrX ζ ν ν1) : PdN ν1 p q := by
  obtain ⟨k, k1, k2, k3⟩ := h
  obtain ⟨-, g2, g3, -⟩ := g
  exact ⟨k, by omega, (g3 k k1).1.trans k2, (g3 k k1).2.trans k3⟩
theorem pr_at (h0 : 0 ≤ (ν.1 69).toInt) (h1 : (ν.1 69).toInt < 64000) : ((pairS ν x y).1 69).toInt = (ν.1 69).toInt + 1 := by
  show (ν.1 69 + 1).toInt = _
  exact ia1 (by omega)
theorem PrX.pair (h0 : 0 ≤ (ν.1 69).toInt) (h1 : (ν.1 69).toInt < 64000) (hx : Nd ζ 0 x) (hy : Nd ζ 0 y) : PrX ζ ν (pairS ν x y) ∧ PdN (pairS ν x y) x y := by
  have e := pr_at (x := x) (y := y) h0 h1
  have hc := @ic (ν.1 69)
  have a70 : (pairS ν x y).2.1 70 = upd (ν.2.1 70) (ν.1 69).toNatClampNeg x := rfl
  have a71 : (pairS ν x y).2.1 71 = upd (ν.2.1 71) (ν.1 69).toNatClampNeg y := rfl
  refine ⟨⟨((kf.rf.A rfl).A rfl).S rfl, by omega, fun k hk => ?_, fun k k1 k2 => ?_⟩, (ν.1 69).toNatClampNeg, by omega, by rw [a70]; exact upd_at, by rw [a71]; exact upd_at⟩
  · rw [a70, a71]
    exact ⟨upd_off (by omega), upd_off (by omega)⟩
  · have : k = (ν.1 69).toNatClampNeg := by omega
    subst this
    rw [a70, a71, upd_at, upd_at]
    exact ⟨hx, hy⟩
theorem fl_ty (hx : Nd ζ 10 x) : Nd ζ 0 (ζ.2.1 23 x.toNatClampNeg) := by
  have hk : ([33] : List Int32).contains (ζ.2.1 20 x.toNatClampNeg) = true := hx.kind
  have ek : ζ.2.1 20 x.toNatClampNeg = 33 := by simpa using hk
  have hf := hx.fld (f := 1) (by omega)
  rw [ek] at hf
  exact hf.1
theorem fo_ty (hx : Nd ζ 9 x) : Nd ζ 0 (ζ.2.1 23 x.toNatClampNeg) := by
  have hk : ([13] : List Int32).contains (ζ.2.1 20 x.toNatClampNeg) = true := hx.kind
  have ek : ζ.2.1 20 x.toNatClampNeg = 13 := by simpa using hk
  have hf := hx.fld (f := 1) (by omega)
  rw [ek] at hf
  exact hf.1
theorem me_sg (hx : Nd ζ 11 x) : Nd ζ 8 (ζ.2.1 23 x.toNatClampNeg) := by
  have hk : ([34] : List Int32).contains (ζ.2.1 20 x.toNatClampNeg) = true := hx.kind
  have ek : ζ.2.1 20 x.toNatClampNeg = 34 := by simpa using hk
  have hf := hx.fld (f := 1) (by omega)
  rw [ek] at hf
  exact hf.1
theorem sg_fo (hx : Nd ζ 8 x) : ∃ m, Lst (Nd ζ 9) (ζ.2.1 27) m (ζ.2.1 22 x.toNatClampNeg) := by
  have hk : ([12] : List Int32).contains (ζ.2.1 20 x.toNatClampNeg) = true := hx.kind
  have ek : ζ.2.1 20 x.toNatClampNeg = 12 := by simpa using hk
  have hf := hx.fld (f := 0) (by omega)
  rw [ek] at hf
  exact hf
theorem sg_re (hx : Nd ζ 8 x) : ζ.2.1 23 x.toNatClampNeg = -1 ∨ Nd ζ 0 (ζ.2.1 23 x.toNatClampNeg) := by
  have hk : ([12] : List Int32).contains (ζ.2.1 20 x.toNatClampNeg) = true := hx.kind
  have ek : ζ.2.1 20 x.toNatClampNeg = 12 := by simpa using hk
  have hf := hx.fld (f := 1) (by omega)
  rw [ek] at hf
  have hf : ζ.2.1 23 x.toNatClampNeg = -1 ∨ (Nd ζ 0 (ζ.2.1 23 x.toNatClampNeg) ∧ ζ.2.1 27 (ζ.2.1 23 x.toNatClampNeg).toNatClampNeg = -1) := hf
  exact hf.imp id (fun h => h.1)
/-- FIELDs in pairs -/
theorem fp_5 {x1 x2 : Int32} (hB : TB μ ζ) (hd : 1 ≤ d) : ∀ (m : Nat) (x y : Int32) (ν : MS), TF ζ ν → 0 ≤ (ν.1 69).toInt → Lst (Nd ζ 10) (ζ.2.1 27) m y → (∃ n, Lst (Nd ζ 10) (ζ.2.1 27) n x) → (ν.1 69).toInt + ctF (fun _ => 1) (ζ.2.1 27) m y ≤ 63999 →
    ME X W true d 375 5 [(0, .ref P.1), (1, .int x1), (2, .int x2), (3, .int x), (4, .int y)] [] P ν (fun r ν1 => (PrX ζ ν ν1 ∧ (ν1.1 69).toInt ≤ (ν.1 69).toInt + ctF (fun _ => 1) (ζ.2.1 27) m y) ∧ (r = 0 ∨ r = 1) ∧ (¬ r = 0 → FdR ζ (PdN ν1) x y)) T := by
  have nil : ∀ (m : Nat) (x : Int32) (ν : MS), 0 ≤ (ν.1 69).toInt → (∃ n, Lst (Nd ζ 10) (ζ.2.1 27) n x) → ME X W true d 375 5 [(0, .ref P.1), (1, .int x1), (2, .int x2), (3, .int x), (4, .int (-1))] [] P ν (fun r ν1 => (PrX ζ ν ν1 ∧ (ν1.1 69).toInt ≤ (ν.1 69).toInt + ctF (fun _ => 1) (ζ.2.1 27) m (-1)) ∧ (r = 0 ∨ r = 1) ∧ (¬ r = 0 → FdR ζ (PdN ν1) x (-1))) T := fun m x ν h0 _ => by
    have no : ME X W true d 375 5 [(0, .ref P.1), (1, .int x1), (2, .int x2), (3, .int x), (4, .int (-1))] [] P ν (fun r ν1 => (PrX ζ ν ν1 ∧ (ν1.1 69).toInt ≤ (ν.1 69).toInt + ctF (fun _ => 1) (ζ.2.1 27) m (-1)) ∧ (r = 0 ∨ r = 1) ∧ (¬ r = 0 → FdR ζ (PdN ν1) x (-1))) T := by
      refine v_fieldsPair_5 _ _ _ _ ⟨fun h => ⟨fun e => ⟨⟨PrX.rf, by omega⟩, Or.inl rfl, fun h => absurd rfl h⟩, fun e => ⟨⟨PrX.rf, by omega⟩, Or.inr rfl, fun _ => ⟨0, e, rfl⟩⟩⟩, fun h => ⟨fun _ => ⟨fun e => ⟨⟨PrX.rf, by omega⟩, Or.inl rfl, fun h => absurd rfl h⟩, fun e => ⟨⟨PrX.rf, by omega⟩, Or.inr rfl, fun _ => ⟨0, e, rfl⟩⟩⟩, fun h => absurd h (by decide)⟩⟩
    exact no
  intro m
  induction m with
  | zero =>
    intro x y ν hF h0 hy hx hb
    have hy : y = -1 := hy
    subst hy
    exact nil 0 x ν h0 hx
  | succ m ih =>
    intro x y ν hF h0 hy hx hb
    rcases hy with hy | ⟨hy1, hy2⟩
    · subst hy
      exact nil (m + 1) x ν h0 hx
    have yi := hy1.in
    have ec : ctF (fun _ => 1) (ζ.2.1 27) (m + 1) y = 1 + ctF (fun _ => 1) (ζ.2.1 27) m (ζ.2.1 27 y.toNatClampNeg) := by
      show (if y.toInt < 0 then 0 else _) = _
      rw [if_neg (by omega)]
    rw [ec] at hb ⊢
    refine v_fieldsPair_5 _ _ _ _ ⟨fun h => ⟨fun e => ⟨⟨PrX.rf, by omega⟩, Or.inl rfl, fun h => absurd rfl h⟩, fun e => by subst e; omega⟩, fun h => ⟨fun h => by omega, fun _ => ?_⟩⟩
    obtain ⟨n, hx⟩ := hx
    cases n with
    | zero => have hx : x = -1 := hx; subst hx; exact absurd h (by decide)
    | succ n =>
    rcases hx with hx | ⟨hx1, hx2⟩
    · subst hx; exact absurd h (by decide)
    refine ⟨hx1.mi hB hF rfl rfl, hy1.mi hB hF rfl rfl, fun e => ⟨hx1.mi hB hF rfl rfl, hy1.mi hB hF rfl rfl, ?_⟩, fun e => ⟨⟨PrX.rf, by omega⟩, Or.inl rfl, fun h => absurd rfl h⟩⟩
    rw [hF.row (g := 22) rfl] at e
    rw [hF.row (g := 23) rfl]
    refine MC.mono (c_pair (hF.1.2.2) hd h0 (by rw [show rlen 70 = 64000 from rfl]; omega)) (fun r κ hκ => ?_) (fun _ h => h)
    obtain ⟨pp, pd⟩ := PrX.pair (ζ := ζ) h0 (by omega) (fl_ty hx1) (fl_ty hy1)
    have e69 := pr_at (x := ζ.2.1 23 x.toNatClampNeg) (y := ζ.2.1 23 y.toNatClampNeg) h0 (by omega)
    rw [← hκ] at pp pd e69
    have hF1 := pp.tf hF
    refine ⟨hx1.mi hB hF1 rfl rfl, hy1.mi hB hF1 rfl rfl, ?_⟩
    rw [hF1.row (g := 27) rfl]
    refine ME.mono (ih _ _ κ hF1 (by omega) hy2 ⟨n, hx2⟩ (by omega)) (fun r ν1 h => ?_) (fun _ h => h)
    obtain ⟨⟨h1, h2⟩, h3, h4⟩ := h
    refine ⟨⟨pp.tr h1, by omega⟩, h3, fun hr => ?_⟩
    obtain ⟨m', hm⟩ := h4 hr
    exact ⟨m' + 1, Or.inr ⟨⟨⟨hx1.in.1, yi.1⟩, e, pd.px h1⟩, hm⟩⟩
theorem c_fieldsPair {m n : Nat} (hB : TB μ ζ) (hF : TF ζ ν) (hd : 2 ≤ d) (h0 : 0 ≤ (ν.1 69).toInt) (hx : Lst (Nd ζ 10) (ζ.2.1 27) n x) (hy : Lst (Nd ζ 10) (ζ.2.1 27) m y) (hb : (ν.1 69).toInt + ctF (fun _ => 1) (ζ.2.1 27) m y ≤ 63999) : MC X W true d 375 [.ref P.1, .int x, .int y] P ν (fun r ν1 => (PrX ζ ν ν1 ∧ (ν1.1 69).toInt ≤ (ν.1 69).toInt + ctF (fun _ => 1) (ζ.2.1 27) m y) ∧ (r = 0 ∨ r = 1) ∧ (¬ r = 0 → FdR ζ (PdN ν1) x y)) T :=
  me_meth (by omega) rfl (v_fieldsPair_0 _ _ (fp_5 hB (by omega) m x y ν hF h0 hy ⟨n, hx⟩ hb))
end NNAA
