/-! contracts of the reference: FIELDs, of which those of a group share their TYPE -/
/-- where the nodes of a list's element may lie: nothing of the group [na, nb) but itself -/
def Qs (n0 na nb N : Int) (a : Nat) : Nat → Prop := fun j => bt n0 N j ∧ ((j : Int) < na ∨ nb ≤ j ∨ j = a)
/-- so many elements from a, up to what follows -/
def Px (ν : MS) (s h : Nat) (n0 na nb N : Int) (top : Int) : Nat → Int32 → Int32 → Prop
  | 0, a, f => a = f
  | m + 1, a, f => (G ν h (Qs n0 na nb N a.toNatClampNeg) s a ∧ a.toInt ≤ top) ∧ Px ν s h n0 na nb N top m (ν.2.1 27 a.toNatClampNeg) f
theorem Px.mono {ν ν1 : MS} {s h : Nat} {n0 na nb N top n0' na' nb' N' top' : Int} (hq : ∀ a j, Qs n0 na nb N a j → Qs n0' na' nb' N' a j) (ht : top ≤ top') (hr : ∀ g, 20 ≤ g → g ≤ 27 → ∀ (a : Int32) (j : Nat), 0 ≤ a.toInt → a.toInt ≤ top → Qs n0 na nb N a.toNatClampNeg j → ν1.2.1 g j = ν.2.1 g j) : ∀ {m : Nat} {a f : Int32}, Px ν s h n0 na nb N top m a f → Px ν1 s h n0' na' nb' N' top' m a f
  | 0, a, f, h => h
  | m + 1, a, f, hP => by
    obtain ⟨⟨h1, h2⟩, h3⟩ := hP
    refine ⟨⟨G.mono h1 (Nat.le_refl _) (hq _) (fun g k1 k2 j hj => hr g k1 (by omega) a j h1.in.1 h2 hj) (fun j hj _ => hr 27 (by omega) (by omega) a j h1.in.1 h2 hj), by omega⟩, ?_⟩
    rw [hr 27 (by omega) (by omega) a _ h1.in.1 h2 h1.in.2]
    exact Px.mono hq ht hr h3
theorem Px.snoc {ν : MS} {s h : Nat} {n0 na nb N top : Int} : ∀ {m : Nat} {a b c : Int32}, Px ν s h n0 na nb N top m a b → G ν h (Qs n0 na nb N b.toNatClampNeg) s b → b.toInt ≤ top → ν.2.1 27 b.toNatClampNeg = c → Px ν s h n0 na nb N top (m + 1) a c
  | 0, a, b, c, hP, hb, ht, hc => by
    cases hP
    exact ⟨⟨hb, ht⟩, hc⟩
  | m + 1, a, b, c, hP, hb, ht, hc => ⟨hP.1, Px.snoc hP.2 hb ht hc⟩
theorem Px.lst {ν : MS} {s h : Nat} {n0 na nb N top : Int} : ∀ {m : Nat} {a : Int32}, Px ν s h n0 na nb N top m a (-1) → Lst (G ν h (bt n0 N) s) (ν.2.1 27) m a
  | 0, a, hP => hP
  | m + 1, a, hP => Or.inr ⟨G.mono hP.1.1 (Nat.le_refl _) (fun j hj => hj.1) (fun _ _ _ _ _ => rfl) (fun _ _ _ => rfl), Px.lst hP.2⟩
/-- a list with its last node, nothing of which lies below another -/
def HI (s h : Nat) (n0 : Int) (ν : MS) (x1 x2 : Int32) : Prop := ∃ (m : Nat) (na nb : Int), (n0 ≤ na ∧ na ≤ x2.toInt ∧ x2.toInt < nb ∧ nb ≤ (ν.1 19).toInt ∧ 0 ≤ x2.toInt) ∧ Px ν s h n0 na nb (ν.1 19).toInt (x2.toInt - 1) m x1 x2 ∧ G ν h (Qs n0 na nb (ν.1 19).toInt x2.toNatClampNeg) s x2 ∧ ν.2.1 27 x2.toNatClampNeg = -1
theorem HI.lst {s h : Nat} {n0 : Int} {ν : MS} {x1 x2 : Int32} (hH : HI s h n0 ν x1 x2) : LSt s h n0 ν x1 := by
  obtain ⟨m, na, nb, ⟨h1, h2, h3, h4, h5⟩, hP, hG, hn⟩ := hH
  exact ⟨m + 1, (Px.snoc (top := x2.toInt) (hP.mono (fun _ _ h => h) (by omega) (fun _ _ _ _ _ _ _ _ => rfl)) hG (Int.le_refl _) hn).lst⟩
/-- a list up to a node of a group that waits for its TYPE -/
def JI (k : Int32) (s h : Nat) (n0 na nb : Int) (ν : MS) (c : Nat) (x1 f : Int32) : Prop := (0 ≤ f.toInt ∧ n0 ≤ na ∧ 0 ≤ na ∧ nb ≤ (ν.1 19).toInt) ∧ (∃ m, Px ν s h n0 na nb (ν.1 19).toInt (f.toInt - 1) m x1 f) ∧ Lst (Ek ν k na nb) (ν.2.1 27) c f
theorem JI.step {k : Int32} {s h : Nat} {n0 na nb : Int} {ν : MS} {c : Nat} {x1 f t : Int32} (hJ : JI k s (h + 1) n0 na nb ν c x1 f) (ht : G ν h (bt nb (ν.1 19).toInt) 0 t ∧ ν.2.1 27 t.toNatClampNeg = -1) (hk : sK s k = true) (hf : fW k.toNatClampNeg 0 = (0, 0) ∧ fW k.toNatClampNeg 1 = (1, 0) ∧ fW k.toNatClampNeg 2 = (0, 0) ∧ fW k.toNatClampNeg 3 = (0, 0) ∧ fW k.toNatClampNeg 4 = (0, 0)) :
    (na ≤ f.toInt ∧ f.toInt < nb) ∧ ((ν.2.1 27 f.toNatClampNeg = -1 ∧ HI s (h + 1) n0 (mA1 ν 23 f.toNatClampNeg t) x1 f) ∨ ∃ c', c = c' + 1 ∧ JI k s (h + 1) n0 na nb (mA1 ν 23 f.toNatClampNeg t) c' x1 (ν.2.1 27 f.toNatClampNeg)) := by
  obtain ⟨⟨j1, j2, j3, j4⟩, ⟨m, hP⟩, hL⟩ := hJ
  have hc := @ic f
  cases c with
  | zero =>
    have e : f = -1 := hL
    rw [e] at j1
    exact absurd j1 (by decide)
  | succ c =>
    rcases hL with e | ⟨⟨e1, e2, e3, e4, e5⟩, hL⟩
    · rw [e] at j1
      exact absurd j1 (by decide)
    have hG : G (mA1 ν 23 f.toNatClampNeg t) (h + 1) (Qs n0 na nb (ν.1 19).toInt f.toNatClampNeg) s f := by
      refine ⟨j1, ⟨⟨by omega, by omega⟩, Or.inr (Or.inr rfl)⟩, ?_, fun g hg => ?_⟩
      · show sK s (ν.2.1 20 f.toNatClampNeg) = true
        rw [e4]; exact hk
      · rw [show (mA1 ν 23 f.toNatClampNeg t).2.1 20 f.toNatClampNeg = k from e4]
        have h5 : g = 0 ∨ g = 1 ∨ g = 2 ∨ g = 3 ∨ g = 4 := by omega
        rcases h5 with rfl | rfl | rfl | rfl | rfl
        · rw [hf.1]; exact True.intro
        · rw [hf.2.1, show (mA1 ν 23 f.toNatClampNeg t).2.1 (22 + 1) f.toNatClampNeg = t from upd_at]
          exact ⟨G.mono (ht.1.put (g := 23) (t := f.toNatClampNeg) (x := t) (Or.inl (by omega))) (Nat.le_refl _) (fun j hj => ⟨⟨⟨by have := hj.1; omega, hj.2⟩, Or.inr (Or.inl hj.1)⟩, by have := hj.1; omega⟩) (fun _ _ _ _ _ => rfl) (fun _ _ _ => rfl), by rw [row_off rfl]; exact ht.2⟩
        · rw [hf.2.2.1]; exact True.intro
        · rw [hf.2.2.2.1]; exact True.intro
        · rw [hf.2.2.2.2]; exact True.intro
    have hP1 : Px (mA1 ν 23 f.toNatClampNeg t) s (h + 1) n0 na nb (ν.1 19).toInt (f.toInt - 1) m x1 f := hP.mono (fun _ _ h => h) (Int.le_refl _) (fun g k1 k2 a j ha0 ha hj => by
      have hca := @ic a
      show (bif Nat.beq g 23 then upd (ν.2.1 23) f.toNatClampNeg t else ν.2.1 g) j = _
      by_cases e : g = 23
      · subst e; rw [nb_self]; exact upd_off (by have := hj.2; omega)
      · rw [nb_ne e]; rfl)
    refine ⟨⟨e2, e3⟩, ?_⟩
    rcases e5 with e5 | e5
    · exact Or.inl ⟨e5, m, na, nb, ⟨j2, e2, e3, j4, j1⟩, hP1, hG, e5⟩
    · refine Or.inr ⟨c, rfl, ⟨by omega, j2, j3, j4⟩, ⟨m + 1, ?_⟩, Lst.mono (fun _ h => h) (fun _ _ => rfl) hL⟩
      exact Px.snoc (hP1.mono (fun _ _ h => h) (by omega) (fun _ _ _ _ _ _ _ _ => rfl)) hG (by omega) rfl
