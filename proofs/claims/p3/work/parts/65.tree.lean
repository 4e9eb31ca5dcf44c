/-! what the reference's parser builds: sorts of nodes, fields of kinds, trees -/
/-- sorts: 0 type, 1 expr, 2 place, 3 stmt, 4 decl, 5 import, 6 n, 7 q, 8 sig, 9 formal, 10 field, 11 method, 12 override, 13 arm, 14 handler, 15 branch, 16 suffix, 17 call, 18 part, 19 dvar, 20 unit, 21 level -/
def skL : List (List Int32) := [[20, 21, 22, 23, 24, 25, 26, 27, 28, 29, 30, 31, 32], [70, 75, 76, 77, 78, 79, 80, 81, 82, 84, 85, 86], [70], [40, 41, 42, 43, 44, 46, 47, 48, 49, 50, 51, 53, 54, 55, 56, 57, 58, 59, 60], [3, 4, 5, 6, 7, 8, 9], [2], [10], [11], [12], [13], [33], [34], [35], [45], [52], [61], [71, 72, 73], [74], [83], [7], [1], [32]]
def sK (s : Nat) (k : Int32) : Bool := (skL.getD s []).contains k
/-- what the fields of a kind are: any; a node; one or none; a list; a list that isn't empty -/
def fwL : List (List (Nat × Nat)) := [[], [(0, 0), (3, 5), (3, 4), (3, 3), (0, 0)], [], [(0, 0), (1, 0)], [(0, 0), (1, 0)], [(1, 7), (1, 0)], [(1, 7), (1, 21)], [(4, 6), (1, 0)], [], [(0, 0), (1, 8), (3, 19), (3, 3)], [], [], [(3, 9), (2, 0), (3, 7)], [(0, 0), (1, 0)], [], [], [], [], [], [], [(1, 7)], [], [], [], [], [], [], [], [(0, 0), (0, 0), (1, 0)], [(3, 10)], [(1, 0)], [(1, 8)], [(2, 0), (3, 10), (3, 11), (3, 12)], [(0, 0), (1, 0)], [(0, 0), (1, 8), (2, 7)], [(0, 0), (0, 0), (1, 7)], [], [], [], [], [(1, 2), (1, 1)], [(1, 2), (1, 17)], [(2, 2), (1, 17)], [], [(4, 13)], [(2, 1), (3, 3)], [(1, 1), (3, 3)], [(0, 0), (3, 3)], [(1, 6), (1, 1), (1, 1), (3, 3)], [(2, 1)], [(1, 7), (1, 1)], [(3, 3), (3, 14), (3, 3)], [(1, 7), (1, 6), (3, 3)], [(3, 3), (3, 3)], [(1, 1), (3, 3)], [(1, 1), (1, 1)], [(1, 1)], [(1, 1)], [(1, 1)], [(1, 1)], [(1, 1), (3, 15), (3, 3)], [(1, 0), (1, 6), (3, 3)], [], [], [], [], [], [], [], [], [(0, 0), (3, 16)], [], [(1, 1)], [], [(1, 2), (3, 1)], [], [], [], [], [(1, 0)], [(1, 1), (1, 0)], [(1, 1), (1, 0)], [(1, 1), (4, 18)], [(0, 0), (1, 1)], [(1, 1), (1, 1)], [(1, 1)], [(1, 1)]]
def fW (k f : Nat) : Nat × Nat := (fwL.getD k []).getD f (0, 0)
def Lst (E : Int32 → Prop) (nx : Nat → Int32) : Nat → Int32 → Prop
  | 0, x => x = -1
  | m + 1, x => x = -1 ∨ (E x ∧ Lst E nx m (nx x.toNatClampNeg))
def FO (E : Nat → Int32 → Prop) (nx : Nat → Int32) (w : Nat × Nat) (x : Int32) : Prop := match w.1 with
  | 0 => True
  | 1 => E w.2 x ∧ nx x.toNatClampNeg = -1
  | 2 => x = -1 ∨ (E w.2 x ∧ nx x.toNatClampNeg = -1)
  | 3 => ∃ m, Lst (E w.2) nx m x
  | _ => ¬ x = -1 ∧ ∃ m, Lst (E w.2) nx m x
/-- a tree of a height, its nodes in a set, none below itself -/
def G (μ : MS) : Nat → (Nat → Prop) → Nat → Int32 → Prop
  | 0, _, _, _ => False
  | h + 1, S, s, i => 0 ≤ i.toInt ∧ S i.toNatClampNeg ∧ sK s (μ.2.1 20 i.toNatClampNeg) = true ∧ ∀ f, f < 5 → FO (G μ h (fun j => S j ∧ j ≠ i.toNatClampNeg)) (μ.2.1 27) (fW (μ.2.1 20 i.toNatClampNeg).toNatClampNeg f) (μ.2.1 (22 + f) i.toNatClampNeg)
theorem Lst.mono {E E' : Int32 → Prop} {nx nx' : Nat → Int32} (hE : ∀ x, E x → E' x) (hn : ∀ x, E x → nx' x.toNatClampNeg = nx x.toNatClampNeg) : ∀ {m : Nat} {x : Int32}, Lst E nx m x → Lst E' nx' m x
  | 0, x, h => h
  | m + 1, x, h => by
    rcases h with h | ⟨h1, h2⟩
    · exact Or.inl h
    · refine Or.inr ⟨hE x h1, ?_⟩
      rw [hn x h1]
      exact Lst.mono hE hn h2
theorem FO.mono {E E' : Nat → Int32 → Prop} {nx nx' : Nat → Int32} (hE : ∀ s x, E s x → E' s x) (hn : ∀ s x, E s x → nx' x.toNatClampNeg = nx x.toNatClampNeg) {w : Nat × Nat} {x : Int32} (h : FO E nx w x) : FO E' nx' w x := by
  obtain ⟨a, s⟩ := w
  unfold FO at h ⊢
  match a, h with
  | 0, _ => trivial
  | 1, h => exact ⟨hE _ _ h.1, (hn _ _ h.1).trans h.2⟩
  | 2, h => exact h.imp id (fun h => ⟨hE _ _ h.1, (hn _ _ h.1).trans h.2⟩)
  | 3, ⟨m, h⟩ => exact ⟨m, h.mono (hE _) (hn _)⟩
  | a + 4, ⟨h0, m, h⟩ => exact ⟨h0, m, h.mono (hE _) (hn _)⟩
theorem G.in {μ : MS} {h : Nat} {S : Nat → Prop} {s : Nat} {i : Int32} (hG : G μ h S s i) : 0 ≤ i.toInt ∧ S i.toNatClampNeg := by
  cases h with
  | zero => exact hG.elim
  | succ h => exact ⟨hG.1, hG.2.1⟩
/-- higher, in a larger set, over rows that agree on the set (its own link aside) -/
theorem G.mono {μ ν : MS} : ∀ {h h' : Nat} {S S' : Nat → Prop} {s : Nat} {i : Int32}, G μ h S s i → h ≤ h' → (∀ j, S j → S' j) → (∀ g, 20 ≤ g → g ≤ 26 → ∀ j, S j → ν.2.1 g j = μ.2.1 g j) → (∀ j, S j → j ≠ i.toNatClampNeg → ν.2.1 27 j = μ.2.1 27 j) → G ν h' S' s i
  | 0, _, _, _, _, _, hG, _, _, _, _ => hG.elim
  | h + 1, 0, _, _, _, _, _, hh, _, _, _ => absurd hh (by omega)
  | h + 1, h' + 1, S, S', s, i, hG, hh, hS, hr, hn => by
    obtain ⟨g1, g2, g3, g4⟩ := hG
    have e0 : ν.2.1 20 i.toNatClampNeg = μ.2.1 20 i.toNatClampNeg := hr 20 (by omega) (by omega) _ g2
    refine ⟨g1, hS _ g2, by rw [e0]; exact g3, fun f hf => ?_⟩
    rw [e0, hr (22 + f) (by omega) (by omega) _ g2]
    refine (g4 f hf).mono (fun s x hx => ?_) (fun s x hx => ?_)
    · exact G.mono hx (by omega) (fun j hj => ⟨hS j hj.1, hj.2⟩) (fun g h1 h2 j hj => hr g h1 h2 j hj.1) (fun j hj _ => hn j hj.1 hj.2)
    · obtain ⟨-, k1, k2⟩ := G.in hx
      exact hn _ k1 k2
/-- nodes made between two counts -/
def bt (lo hi : Int) : Nat → Prop := fun j => lo ≤ j ∧ (j : Int) < hi
theorem G.rb {μ ν : MS} {h s : Nat} {lo hi n e : Int} {i : Int32} (hG : G μ h (bt lo hi) s i) (hr : RB e n μ ν) (hn : hi ≤ n) (he : e < lo ∨ hi ≤ e) : G ν h (bt lo hi) s i :=
  G.mono hG (Nat.le_refl _) (fun _ h => h) (fun g h1 h2 j hj => hr g h1 (by omega) j (by have := hj.2; omega) (by have := hj.1; have := hj.2; omega)) (fun j hj _ => hr 27 (by omega) (by omega) j (by have := hj.2; omega) (by have := hj.1; have := hj.2; omega))
theorem G.up {μ : MS} {h h' s : Nat} {lo hi lo' hi' : Int} {i : Int32} (hG : G μ h (bt lo hi) s i) (hh : h ≤ h') (h1 : lo' ≤ lo) (h2 : hi ≤ hi') : G μ h' (bt lo' hi') s i :=
  G.mono hG hh (fun j hj => ⟨by have := hj.1; omega, by have := hj.2; omega⟩) (fun _ _ _ _ _ => rfl) (fun _ _ _ => rfl)
/-- a row put at a node outside; its own link -/
theorem G.put {μ : MS} {h s g t : Nat} {lo hi : Int} {i x : Int32} (hG : G μ h (bt lo hi) s i) (ht : (t : Int) < lo ∨ hi ≤ t) : G (mA1 μ g t x) h (bt lo hi) s i :=
  G.mono hG (Nat.le_refl _) (fun _ h => h) (fun g' h1 h2 j hj => by
    show (bif Nat.beq g' g then upd (μ.2.1 g) t x else μ.2.1 g') j = _
    by_cases e : g' = g
    · subst e; rw [nb_self]; exact upd_off (by have := hj.1; have := hj.2; omega)
    · rw [nb_ne e]; rfl) (fun j hj _ => by
    show (bif Nat.beq 27 g then upd (μ.2.1 g) t x else μ.2.1 27) j = _
    by_cases e : 27 = g
    · subst e; rw [nb_self]; exact upd_off (by have := hj.1; have := hj.2; omega)
    · rw [nb_ne e]; rfl)
theorem G.link {μ : MS} {h s : Nat} {S : Nat → Prop} {i x : Int32} (hG : G μ h S s i) : G (mA1 μ 27 i.toNatClampNeg x) h S s i :=
  G.mono hG (Nat.le_refl _) (fun _ h => h) (fun g' h1 h2 j hj => by
    show (bif Nat.beq g' 27 then upd (μ.2.1 27) i.toNatClampNeg x else μ.2.1 g') j = _
    rw [nb_ne (by omega)]; rfl) (fun j hj hne => upd_off hne)
/-- a list under way: from a to b, b itself aside -/
def Sg (μ : MS) (h s : Nat) (lo lb : Int) : Nat → Int32 → Int32 → Prop
  | 0, a, b => a = b
  | m + 1, a, b => G μ h (bt lo lb) s a ∧ Sg μ h s lo lb m (μ.2.1 27 a.toNatClampNeg) b
theorem Sg.rb {μ ν : MS} {h s : Nat} {lo lb n e : Int} (hr : RB e n μ ν) (hn : lb ≤ n) (he : e < lo ∨ lb ≤ e) : ∀ {m : Nat} {a b : Int32}, Sg μ h s lo lb m a b → Sg ν h s lo lb m a b
  | 0, a, b, h => h
  | m + 1, a, b, hS => by
    obtain ⟨h1, h2⟩ := hS
    obtain ⟨k1, k2, k3⟩ := h1.in
    refine ⟨h1.rb hr hn he, ?_⟩
    rw [hr 27 (by omega) (by omega) _ (by omega) (by omega)]
    exact Sg.rb hr hn he h2
theorem Sg.put {μ : MS} {h s g t : Nat} {lo lb : Int} {x : Int32} (ht : (t : Int) < lo ∨ lb ≤ t) : ∀ {m : Nat} {a b : Int32}, Sg μ h s lo lb m a b → Sg (mA1 μ g t x) h s lo lb m a b
  | 0, a, b, h => h
  | m + 1, a, b, hS => by
    obtain ⟨h1, h2⟩ := hS
    obtain ⟨k1, k2, k3⟩ := h1.in
    refine ⟨h1.put ht, ?_⟩
    have e : (mA1 μ g t x).2.1 27 a.toNatClampNeg = μ.2.1 27 a.toNatClampNeg := by
      show (bif Nat.beq 27 g then upd (μ.2.1 g) t x else μ.2.1 27) _ = _
      by_cases e : 27 = g
      · subst e; rw [nb_self]; exact upd_off (by omega)
      · rw [nb_ne e]; rfl
    rw [e]
    exact Sg.put ht h2
/-- one more -/
theorem Sg.snoc {μ : MS} {h s : Nat} {lo lb hb : Int} (h1 : lb ≤ hb) : ∀ {m : Nat} {a b c : Int32}, Sg μ h s lo lb m a b → G μ h (bt lb hb) s b → lo ≤ lb → μ.2.1 27 b.toNatClampNeg = c → Sg μ h s lo hb (m + 1) a c
  | 0, a, b, c, hS, hb, hl, hc => by
    cases hS
    exact ⟨hb.up (Nat.le_refl _) hl (Int.le_refl _), hc⟩
  | m + 1, a, b, c, hS, hb, hl, hc => ⟨hS.1.up (Nat.le_refl _) (Int.le_refl _) h1, Sg.snoc h1 hS.2 hb hl hc⟩
/-- the list is whole -/
theorem Sg.done {μ : MS} {h s : Nat} {lo lb hb : Int} (h1 : lb ≤ hb) (hl : lo ≤ lb) : ∀ {m : Nat} {a b : Int32}, Sg μ h s lo lb m a b → G μ h (bt lb hb) s b → μ.2.1 27 b.toNatClampNeg = -1 → Lst (G μ h (bt lo hb) s) (μ.2.1 27) (m + 1) a
  | 0, a, b, hS, hb, hn => by
    cases hS
    exact Or.inr ⟨hb.up (Nat.le_refl _) hl (Int.le_refl _), hn⟩
  | m + 1, a, b, hS, hb, hn => Or.inr ⟨hS.1.up (Nat.le_refl _) (Int.le_refl _) h1, Sg.done h1 hl hS.2 hb hn⟩
/-- a list over what isn't its own node's -/
theorem Lst.to {μ ν : MS} {h h' s : Nat} {lo hi lo' hi' : Int} {t : Nat} {m : Nat} {x : Int32} (hL : Lst (G μ h (bt lo hi) s) (μ.2.1 27) m x) (hh : h ≤ h') (h1 : lo' ≤ lo) (h2 : hi ≤ hi') (ht : (t : Int) < lo ∨ hi ≤ t) (hr : ∀ g, 20 ≤ g → g ≤ 27 → ∀ j, bt lo hi j → ν.2.1 g j = μ.2.1 g j) : Lst (G ν h' (fun j => bt lo' hi' j ∧ j ≠ t) s) (ν.2.1 27) m x :=
  hL.mono (fun x hx => G.mono hx hh (fun j hj => ⟨⟨by have := hj.1; omega, by have := hj.2; omega⟩, by have := hj.1; have := hj.2; omega⟩) (fun g k1 k2 j hj => hr g k1 (by omega) j hj) (fun j hj _ => hr 27 (by omega) (by omega) j hj)) (fun x hx => hr 27 (by omega) (by omega) _ hx.in.2)
theorem G.to {μ ν : MS} {h h' s : Nat} {lo hi lo' hi' : Int} {t : Nat} {x : Int32} (hG : G μ h (bt lo hi) s x) (hh : h ≤ h') (h1 : lo' ≤ lo) (h2 : hi ≤ hi') (ht : (t : Int) < lo ∨ hi ≤ t) (hr : ∀ g, 20 ≤ g → g ≤ 27 → ∀ j, bt lo hi j → ν.2.1 g j = μ.2.1 g j) : G ν h' (fun j => bt lo' hi' j ∧ j ≠ t) s x :=
  G.mono hG hh (fun j hj => ⟨⟨by have := hj.1; omega, by have := hj.2; omega⟩, by have := hj.1; have := hj.2; omega⟩) (fun g k1 k2 j hj => hr g k1 (by omega) j hj) (fun j hj _ => hr 27 (by omega) (by omega) j hj)
/-- a node out of what stands in it -/
theorem G.mk {μ : MS} {h s : Nat} {lo hi : Int} {i : Int32} {k a b c d e n : Int32} (hi0 : 0 ≤ i.toInt) (h1 : lo ≤ i.toInt) (h2 : i.toInt < hi) (hN : ND μ i.toNatClampNeg k a b c d e n) (hk : sK s k = true)
    (ha : FO (G μ h (fun j => bt lo hi j ∧ j ≠ i.toNatClampNeg)) (μ.2.1 27) (fW k.toNatClampNeg 0) a) (hb : FO (G μ h (fun j => bt lo hi j ∧ j ≠ i.toNatClampNeg)) (μ.2.1 27) (fW k.toNatClampNeg 1) b) (hc : FO (G μ h (fun j => bt lo hi j ∧ j ≠ i.toNatClampNeg)) (μ.2.1 27) (fW k.toNatClampNeg 2) c)
    (hd : FO (G μ h (fun j => bt lo hi j ∧ j ≠ i.toNatClampNeg)) (μ.2.1 27) (fW k.toNatClampNeg 3) d) (he : FO (G μ h (fun j => bt lo hi j ∧ j ≠ i.toNatClampNeg)) (μ.2.1 27) (fW k.toNatClampNeg 4) e) : G μ (h + 1) (bt lo hi) s i := by
  obtain ⟨a1, a2, a3, a4, a5, a6, -⟩ := hN
  have hc9 := @ic i
  refine ⟨hi0, ⟨by omega, by omega⟩, by rw [a1]; exact hk, fun f hf => ?_⟩
  rw [a1]
  have h5 : f = 0 ∨ f = 1 ∨ f = 2 ∨ f = 3 ∨ f = 4 := by omega
  rcases h5 with rfl | rfl | rfl | rfl | rfl
  · rw [show μ.2.1 (22 + 0) i.toNatClampNeg = a from a2]; exact ha
  · rw [show μ.2.1 (22 + 1) i.toNatClampNeg = b from a3]; exact hb
  · rw [show μ.2.1 (22 + 2) i.toNatClampNeg = c from a4]; exact hc
  · rw [show μ.2.1 (22 + 3) i.toNatClampNeg = d from a5]; exact hd
  · rw [show μ.2.1 (22 + 4) i.toNatClampNeg = e from a6]; exact he
