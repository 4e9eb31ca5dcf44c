/-! what the reference's parser builds: every node of a kind that is looked for hangs below the answer -/
def sp (k : Int32) : Bool := ([3, 6, 12, 28, 29, 32] : List Int32).contains k
/-- j hangs at p: by a field, or as the next one -/
def Par (ν : MS) (p j : Nat) : Prop := (∃ f, f < 5 ∧ ¬ (fW (ν.2.1 20 p).toNatClampNeg f).1 = 0 ∧ (ν.2.1 (22 + f) p).toInt = (j : Int)) ∨ (ν.2.1 27 p).toInt = (j : Int)
/-- so many steps up from j to i, within two counts -/
def Up (ν : MS) (a b : Int) : Nat → Nat → Nat → Prop
  | 0, j, i => j = i
  | m + 1, j, i => ∃ p : Nat, (a ≤ p ∧ (p : Int) < b) ∧ Par ν p j ∧ Up ν a b m p i
def CO (ν : MS) (a b : Int) (x : Int32) : Prop := ∀ j : Nat, a ≤ j → (j : Int) < b → sp (ν.2.1 20 j) = true → ∃ m, Up ν a b m j x.toNatClampNeg
/-- none of them at all -/
def NS (ν : MS) (a b : Int) : Prop := ∀ j : Nat, a ≤ j → (j : Int) < b → sp (ν.2.1 20 j) = false
theorem row_off {μ : MS} {g g' t : Nat} {x : Int32} (h : Nat.beq g' g = false) : (mA1 μ g t x).2.1 g' = μ.2.1 g' := by
  show (bif Nat.beq g' g then upd (μ.2.1 g) t x else μ.2.1 g') = _
  rw [h]; rfl
/-- all nodes between two counts are of a kind -/
def KR (ν : MS) (k : Int32) (a b : Int) : Prop := ∀ j : Nat, a ≤ j → (j : Int) < b → ν.2.1 20 j = k
/-- so many steps along the links -/
def Wn (ν : MS) (lo hi : Int) : Nat → Int32 → Int32 → Prop
  | 0, a, b => a = b
  | m + 1, a, b => (0 ≤ a.toInt ∧ lo ≤ a.toInt ∧ a.toInt < hi) ∧ Wn ν lo hi m (ν.2.1 27 a.toNatClampNeg) b
section COV
variable {ν ν1 : MS} {a b a' b' e n lo hi : Int} {m m' j i p s : Nat} {x y : Int32}
theorem Par.rb (h : Par ν p j) (hr : RB e n ν ν1) (h1 : (p : Int) < n) (h2 : (p : Int) ≠ e) : Par ν1 p j := by
  unfold Par
  rw [hr 20 (by omega) (by omega) p h1 h2, hr 27 (by omega) (by omega) p h1 h2]
  rcases h with ⟨f, hf, h3, h4⟩ | h
  · exact Or.inl ⟨f, hf, h3, by rw [hr (22 + f) (by omega) (by omega) p h1 h2]; exact h4⟩
  · exact Or.inr h
theorem Up.rb (hr : RB e n ν ν1) (hn : b ≤ n) (he : e < a ∨ b ≤ e) : ∀ {m j i : Nat}, Up ν a b m j i → Up ν1 a b m j i
  | 0, _, _, h => h
  | m + 1, _, _, ⟨p, h1, h2, h3⟩ => ⟨p, h1, h2.rb hr (by omega) (by omega), Up.rb hr hn he h3⟩
theorem Up.cg (hr : ν1.2.1 = ν.2.1) : ∀ {m j i : Nat}, Up ν a b m j i → Up ν1 a b m j i
  | 0, _, _, h => h
  | m + 1, _, _, ⟨p, h1, h2, h3⟩ => ⟨p, h1, by unfold Par; rw [hr]; exact h2, Up.cg hr h3⟩
theorem Up.wide (h1 : a' ≤ a) (h2 : b ≤ b') : ∀ {m j i : Nat}, Up ν a b m j i → Up ν a' b' m j i
  | 0, _, _, h => h
  | m + 1, _, _, ⟨p, h3, h4, h5⟩ => ⟨p, ⟨by omega, by omega⟩, h4, Up.wide h1 h2 h5⟩
theorem Up.trans : ∀ {m m' j p i : Nat}, Up ν a b m j p → Up ν a b m' p i → ∃ k, Up ν a b k j i
  | 0, m', j, p, i, h, k => ⟨m', by rw [show j = p from h]; exact k⟩
  | m + 1, m', j, p, i, ⟨q, h1, h2, h3⟩, k => by
    obtain ⟨k', hk⟩ := Up.trans h3 k
    exact ⟨k' + 1, q, h1, h2, hk⟩
theorem Up.one (h : Par ν s j) (h1 : a ≤ s) (h2 : (s : Int) < b) : Up ν a b 1 j s := ⟨s, ⟨h1, h2⟩, h, rfl⟩
theorem CO.rb (h : CO ν a b x) (hr : RB e n ν ν1) (hn : b ≤ n) (he : e < a ∨ b ≤ e) : CO ν1 a b x := fun j h1 h2 h3 => by
  rw [hr 20 (by omega) (by omega) j (by omega) (by omega)] at h3
  obtain ⟨m, hm⟩ := h j h1 h2 h3
  exact ⟨m, hm.rb hr hn he⟩
theorem NS.rb (h : NS ν a b) (hr : RB e n ν ν1) (hn : b ≤ n) (he : e < a ∨ b ≤ e) : NS ν1 a b := fun j h1 h2 => by
  rw [hr 20 (by omega) (by omega) j (by omega) (by omega)]
  exact h j h1 h2
/-- below a child is below its parent -/
theorem CO.kid (h : CO ν a b x) (hp : Par ν s x.toNatClampNeg) (h1 : lo ≤ a) (h2 : b ≤ hi) (h3 : lo ≤ s) (h4 : (s : Int) < hi) (j1 : a ≤ j) (j2 : (j : Int) < b) (hs : sp (ν.2.1 20 j) = true) : ∃ m, Up ν lo hi m j s := by
  obtain ⟨m, hm⟩ := h j j1 j2 hs
  exact (hm.wide h1 h2).trans (Up.one hp h3 h4)
theorem NS.no (h : NS ν a b) (h1 : a ≤ j) (h2 : (j : Int) < b) (hs : sp (ν.2.1 20 j) = true) : False := by
  rw [h j h1 h2] at hs
  cases hs
theorem NS.co (h : NS ν a b) : CO ν a b x := fun _ h1 h2 h3 => (h.no h1 h2 h3).elim
theorem NS.nil (h : b ≤ a) : NS ν a b := fun j h1 h2 => by omega
theorem NS.one {k c1 c2 c3 c4 c5 c6 : Int32} (hN : ND ν i k c1 c2 c3 c4 c5 c6) (ha : a = (i : Int)) (hb : b = (i : Int) + 1) (hk : sp k = false) : NS ν a b := fun j h1 h2 => by
  have e : j = i := by omega
  rw [e, hN.1]; exact hk
theorem NS.cat (h : NS ν a b) (k : NS ν b b') : NS ν a b' := fun j h1 h2 => by
  by_cases e : (j : Int) < b
  · exact h j h1 e
  · exact k j (by omega) h2
theorem Par.fa {k c1 c2 c3 c4 c5 c6 : Int32} (hN : ND ν s k c1 c2 c3 c4 c5 c6) (hw : ¬ (fW k.toNatClampNeg 0).1 = 0) (h0 : 0 ≤ c1.toInt) : Par ν s c1.toNatClampNeg := Or.inl ⟨0, by decide, by rw [hN.1]; exact hw, by rw [show ν.2.1 (22 + 0) s = c1 from hN.2.1]; have := @ic c1; omega⟩
theorem Par.fb {k c1 c2 c3 c4 c5 c6 : Int32} (hN : ND ν s k c1 c2 c3 c4 c5 c6) (hw : ¬ (fW k.toNatClampNeg 1).1 = 0) (h0 : 0 ≤ c2.toInt) : Par ν s c2.toNatClampNeg := Or.inl ⟨1, by decide, by rw [hN.1]; exact hw, by rw [show ν.2.1 (22 + 1) s = c2 from hN.2.2.1]; have := @ic c2; omega⟩
theorem Par.fc {k c1 c2 c3 c4 c5 c6 : Int32} (hN : ND ν s k c1 c2 c3 c4 c5 c6) (hw : ¬ (fW k.toNatClampNeg 2).1 = 0) (h0 : 0 ≤ c3.toInt) : Par ν s c3.toNatClampNeg := Or.inl ⟨2, by decide, by rw [hN.1]; exact hw, by rw [show ν.2.1 (22 + 2) s = c3 from hN.2.2.2.1]; have := @ic c3; omega⟩
theorem Par.fd {k c1 c2 c3 c4 c5 c6 : Int32} (hN : ND ν s k c1 c2 c3 c4 c5 c6) (hw : ¬ (fW k.toNatClampNeg 3).1 = 0) (h0 : 0 ≤ c4.toInt) : Par ν s c4.toNatClampNeg := Or.inl ⟨3, by decide, by rw [hN.1]; exact hw, by rw [show ν.2.1 (22 + 3) s = c4 from hN.2.2.2.2.1]; have := @ic c4; omega⟩
theorem Par.fe {k c1 c2 c3 c4 c5 c6 : Int32} (hN : ND ν s k c1 c2 c3 c4 c5 c6) (hw : ¬ (fW k.toNatClampNeg 4).1 = 0) (h0 : 0 ≤ c5.toInt) : Par ν s c5.toNatClampNeg := Or.inl ⟨4, by decide, by rw [hN.1]; exact hw, by rw [show ν.2.1 (22 + 4) s = c5 from hN.2.2.2.2.2.1]; have := @ic c5; omega⟩
theorem Par.fn (h : ν.2.1 27 p = x) (h0 : 0 ≤ x.toInt) : Par ν p x.toNatClampNeg := Or.inr (by rw [h]; have := @ic x; omega)
/-- a link put behind a node that had none -/
theorem Par.link {t : Nat} {x : Int32} (h : Par ν p j) (ht : ν.2.1 27 t = -1) : Par (mA1 ν 27 t x) p j := by
  have e20 : (mA1 ν 27 t x).2.1 20 = ν.2.1 20 := by
    show (bif Nat.beq 20 27 then upd (ν.2.1 27) t x else ν.2.1 20) = _
    rw [nb_ne (by decide)]; rfl
  rcases h with ⟨f, hf, h3, h4⟩ | h
  · refine Or.inl ⟨f, hf, by rw [e20]; exact h3, ?_⟩
    show ((bif Nat.beq (22 + f) 27 then upd (ν.2.1 27) t x else ν.2.1 (22 + f)) p).toInt = _
    rw [nb_ne (by omega)]; exact h4
  · refine Or.inr ?_
    show (upd (ν.2.1 27) t x p).toInt = _
    by_cases e : p = t
    · rw [e, ht] at h
      exact absurd h (by rw [show (-1 : Int32).toInt = -1 from rfl]; omega)
    · rw [upd_off e]; exact h
theorem Up.link {t : Nat} {x : Int32} (ht : ν.2.1 27 t = -1) : ∀ {m j i : Nat}, Up ν a b m j i → Up (mA1 ν 27 t x) a b m j i
  | 0, _, _, h => h
  | m + 1, _, _, ⟨p, h1, h2, h3⟩ => ⟨p, h1, h2.link ht, Up.link ht h3⟩
theorem kind_link {t : Nat} {x : Int32} : (mA1 ν 27 t x).2.1 20 = ν.2.1 20 := by
  show (bif Nat.beq 20 27 then upd (ν.2.1 27) t x else ν.2.1 20) = _
  rw [nb_ne (by decide)]; rfl
theorem KR.ns {k : Int32} (h : KR ν k a b) (hk : sp k = false) : NS ν a b := fun j h1 h2 => by rw [h j h1 h2]; exact hk
theorem KR.rb {k : Int32} (h : KR ν k a b) (hr : RB e n ν ν1) (hn : b ≤ n) (he : e < a ∨ b ≤ e) : KR ν1 k a b := fun j h1 h2 => by
  rw [hr 20 (by omega) (by omega) j (by omega) (by omega)]
  exact h j h1 h2
theorem KR.one {k c1 c2 c3 c4 c5 c6 : Int32} (h : KR ν k a b) (hN : ND ν i k c1 c2 c3 c4 c5 c6) (hi : b = (i : Int)) (hb : b' = b + 1) : KR ν k a b' := fun j h1 h2 => by
  by_cases e : (j : Int) < b
  · exact h j h1 e
  · rw [show j = i by omega]; exact hN.1
theorem Wn.up : ∀ {m : Nat} {a b : Int32}, Wn ν lo hi m a b → 0 ≤ b.toInt → Up ν lo hi 0 a.toNatClampNeg b.toNatClampNeg ∨ ∃ k, Up ν lo hi k b.toNatClampNeg a.toNatClampNeg
  | 0, a, b, h, _ => Or.inl (by rw [show a = b from h]; rfl)
  | m + 1, a, b, ⟨⟨h1, h2, h3⟩, h4⟩, hb => by
    have hc := @ic a
    have h0 : 0 ≤ (ν.2.1 27 a.toNatClampNeg).toInt := by
      cases m with
      | zero => rw [show ν.2.1 27 a.toNatClampNeg = b from h4]; exact hb
      | succ m => exact h4.1.1
    have l1 : Up ν lo hi 1 (ν.2.1 27 a.toNatClampNeg).toNatClampNeg a.toNatClampNeg := Up.one (Par.fn rfl h0) (by omega) (by omega)
    rcases Wn.up h4 hb with h5 | ⟨k, h5⟩
    · have h5 : (ν.2.1 27 a.toNatClampNeg).toNatClampNeg = b.toNatClampNeg := h5
      rw [h5] at l1
      exact Or.inr ⟨1, l1⟩
    · exact Or.inr (h5.trans l1)
/-- from the last up to the first -/
theorem Wn.to {m : Nat} {c d : Int32} (h : Wn ν lo hi m c d) (hd : 0 ≤ d.toInt) : ∃ k, Up ν lo hi k d.toNatClampNeg c.toNatClampNeg := by
  rcases h.up hd with h | h
  · exact ⟨0, (show c.toNatClampNeg = d.toNatClampNeg from h).symm⟩
  · exact h
theorem Wn.rb (hr : RB e n ν ν1) (hn : hi ≤ n) (he : e < lo ∨ hi ≤ e) : ∀ {m : Nat} {c d : Int32}, Wn ν lo hi m c d → Wn ν1 lo hi m c d
  | 0, _, _, h => h
  | m + 1, c, d, ⟨⟨h1, h2, h3⟩, h4⟩ => by
    have hc := @ic c
    refine ⟨⟨h1, h2, h3⟩, ?_⟩
    rw [hr 27 (by omega) (by omega) _ (by omega) (by omega)]
    exact Wn.rb hr hn he h4
theorem Wn.row (hr : ν1.2.1 27 = ν.2.1 27) : ∀ {m : Nat} {c d : Int32}, Wn ν lo hi m c d → Wn ν1 lo hi m c d
  | 0, _, _, h => h
  | m + 1, c, d, ⟨h1, h4⟩ => ⟨h1, by rw [hr]; exact Wn.row hr h4⟩
theorem Wn.snoc {hi' : Int} (h1 : hi ≤ hi') : ∀ {m : Nat} {c d f : Int32}, Wn ν lo hi m c d → (0 ≤ d.toInt ∧ lo ≤ d.toInt ∧ d.toInt < hi') → ν.2.1 27 d.toNatClampNeg = f → Wn ν lo hi' (m + 1) c f
  | 0, c, d, f, h, hd, hf => by
    rw [show c = d from h]
    exact ⟨hd, hf⟩
  | m + 1, c, d, f, ⟨⟨k1, k2, k3⟩, k4⟩, hd, hf => ⟨⟨k1, k2, by omega⟩, Wn.snoc h1 k4 hd hf⟩
theorem Wn.wide {lo' hi' : Int} (h1 : lo' ≤ lo) (h2 : hi ≤ hi') : ∀ {m : Nat} {c d : Int32}, Wn ν lo hi m c d → Wn ν lo' hi' m c d
  | 0, _, _, h => h
  | m + 1, _, _, ⟨⟨k1, k2, k3⟩, k4⟩ => ⟨⟨k1, by omega, by omega⟩, Wn.wide h1 h2 k4⟩
/-- a list so far, between two counts, hangs below its first; its last is known -/
def OC (ν : MS) (a b : Int) (f y : Int32) : Prop := (f = -1 ∧ NS ν a b) ∨ (0 ≤ f.toInt ∧ 0 ≤ y.toInt ∧ CO ν a b f ∧ ∃ m, Up ν a b m y.toNatClampNeg f.toNatClampNeg)
theorem OC.rb {f y : Int32} (h : OC ν a b f y) (hr : RB e n ν ν1) (hn : b ≤ n) (he : e < a ∨ b ≤ e) : OC ν1 a b f y := by
  rcases h with ⟨h1, h2⟩ | ⟨h1, h2, h3, m, h4⟩
  · exact Or.inl ⟨h1, h2.rb hr hn he⟩
  · exact Or.inr ⟨h1, h2, h3.rb hr hn he, m, h4.rb hr hn he⟩
theorem OC.co {f y : Int32} (h : OC ν a b f y) : CO ν a b f := by
  rcases h with ⟨-, h⟩ | ⟨-, -, h, -⟩
  · exact h.co
  · exact h
theorem OC.one (h : CO ν a b x) (h0 : 0 ≤ x.toInt) : OC ν a b x x := Or.inr ⟨h0, h0, h, 0, rfl⟩
/-- nodes of no such kind ahead -/
theorem CO.ahead (h : CO ν b b' x) (k : NS ν a b) (hl : a ≤ b) : CO ν a b' x := fun j h1 h2 h3 => by
  by_cases e : (j : Int) < b
  · exact (k.no h1 e h3).elim
  · obtain ⟨m, hm⟩ := h j (by omega) h2 h3
    exact ⟨m, hm.wide hl (Int.le_refl _)⟩
theorem CO.behind (h : CO ν a b x) (k : NS ν b b') (hl : b ≤ b') : CO ν a b' x := fun j h1 h2 h3 => by
  by_cases e : (j : Int) < b
  · obtain ⟨m, hm⟩ := h j h1 e h3
    exact ⟨m, hm.wide (Int.le_refl _) hl⟩
  · exact (k.no (by omega) h2 h3).elim
/-- one more, linked behind the last -/
theorem OC.add {f y : Int32} (h : OC ν a b f y) (hy : 0 ≤ y.toInt) (hya : a ≤ y.toInt) (hyb : y.toInt < b) (hf : 0 ≤ f.toInt) (hx : CO ν b b' x) (hx0 : 0 ≤ x.toInt) (hbb : b ≤ b') (ht : ν.2.1 27 y.toNatClampNeg = -1) : OC (mA1 ν 27 y.toNatClampNeg x) a b' f x := by
  have hc := @ic y
  rcases h with ⟨h1, -⟩ | ⟨-, -, h3, m, h4⟩
  · rw [h1] at hf; exact absurd hf (by decide)
  have l1 : Up (mA1 ν 27 y.toNatClampNeg x) a b' 1 x.toNatClampNeg y.toNatClampNeg := Up.one (Par.fn upd_at hx0) (by omega) (by omega)
  have l2 : Up (mA1 ν 27 y.toNatClampNeg x) a b' m y.toNatClampNeg f.toNatClampNeg := (h4.wide (Int.le_refl _) hbb).link ht
  obtain ⟨k, l3⟩ := l1.trans l2
  refine Or.inr ⟨hf, hx0, fun j j1 j2 j3 => ?_, k, l3⟩
  rw [kind_link] at j3
  by_cases e : (j : Int) < b
  · obtain ⟨m', hm⟩ := h3 j j1 e j3
    exact ⟨m', (hm.wide (Int.le_refl _) hbb).link ht⟩
  · obtain ⟨m', hm⟩ := hx j (by omega) j2 j3
    exact ((hm.wide (by omega) (Int.le_refl _)).link ht).trans l3
/-- an answer that may be an empty list -/
def LCO (ν : MS) (a b : Int) (x : Int32) : Prop := (x = -1 ∧ NS ν a b) ∨ (0 ≤ x.toInt ∧ CO ν a b x)
theorem LCO.of (h0 : 0 ≤ x.toInt) (h : CO ν a b x) : LCO ν a b x := Or.inr ⟨h0, h⟩
theorem LCO.rb (h : LCO ν a b x) (hr : RB e n ν ν1) (hn : b ≤ n) (he : e < a ∨ b ≤ e) : LCO ν1 a b x := by
  rcases h with ⟨h1, h2⟩ | ⟨h1, h2⟩
  · exact Or.inl ⟨h1, h2.rb hr hn he⟩
  · exact Or.inr ⟨h1, h2.rb hr hn he⟩
theorem LCO.at2 (h : LCO ν a b x) (ha : a' = a) : LCO ν a' b x := by rw [ha]; exact h
theorem LCO.ub (h : LCO ν a b x) (hb : b' = b) : LCO ν a b' x := by rw [hb]; exact h
theorem OC.l {f y : Int32} (h : OC ν a b f y) : LCO ν a b f := by
  rcases h with h | ⟨h1, -, h2, -⟩
  · exact Or.inl h
  · exact Or.inr ⟨h1, h2⟩
/-- what is made between two counts hangs below one of so many -/
def CVs (ν : MS) (a b : Int) (H : List Int32) : Prop := ∀ j : Nat, a ≤ j → (j : Int) < b → sp (ν.2.1 20 j) = true → ∃ x, x ∈ H ∧ 0 ≤ x.toInt ∧ ∃ m, Up ν a b m j x.toNatClampNeg
def AllP (P : Int32 → Prop) : List Int32 → Prop
  | [] => True
  | x :: t => P x ∧ AllP P t
theorem AllP.mem {P : Int32 → Prop} : ∀ {H : List Int32}, AllP P H → ∀ {x : Int32}, x ∈ H → P x
  | [], _, x, hx => by cases hx
  | y :: t, h, x, hx => by
    cases hx with
    | head => exact h.1
    | tail _ hx => exact AllP.mem h.2 hx
section CVS
variable {H : List Int32}
theorem CVs.nil (h : b ≤ a) : CVs ν a b H := fun j h1 h2 => by omega
theorem CVs.rb (h : CVs ν a b H) (hr : RB e n ν ν1) (hn : b ≤ n) (he : e < a ∨ b ≤ e) : CVs ν1 a b H := fun j h1 h2 h3 => by
  rw [hr 20 (by omega) (by omega) j (by omega) (by omega)] at h3
  obtain ⟨x, k1, k2, m, k3⟩ := h j h1 h2 h3
  exact ⟨x, k1, k2, m, k3.rb hr hn he⟩
/-- a step that makes no node of such a kind -/
theorem CVs.ns (h : CVs ν a b H) (hr : RB e n ν ν1) (hn : b ≤ n) (he : e < a ∨ b ≤ e) (hb : b ≤ b') (k : NS ν1 b b') : CVs ν1 a b' H := fun j h1 h2 h3 => by
  by_cases c : (j : Int) < b
  · obtain ⟨x, k1, k2, m, k3⟩ := (h.rb hr hn he) j h1 c h3
    exact ⟨x, k1, k2, m, k3.wide (Int.le_refl _) hb⟩
  · exact (k.no (by omega) h2 h3).elim
theorem CVs.st (h : CVs ν a b H) (hr : RB e n ν ν1) (hn : b ≤ n) (he : e < a ∨ b ≤ e) (hb : b' = b) : CVs ν1 a b' H := by
  rw [hb]; exact h.rb hr hn he
theorem CVs.add (h : CVs ν a b H) (hr : RB e n ν ν1) (hn : b ≤ n) (he : e < a ∨ b ≤ e) (ha : a ≤ b) (hb : b ≤ b') (k : LCO ν1 b b' x) : CVs ν1 a b' (x :: H) := fun j h1 h2 h3 => by
  by_cases c : (j : Int) < b
  · obtain ⟨y, k1, k2, m, k3⟩ := (h.rb hr hn he) j h1 c h3
    exact ⟨y, List.mem_cons_of_mem _ k1, k2, m, k3.wide (Int.le_refl _) hb⟩
  · rcases k with ⟨-, k⟩ | ⟨k0, k⟩
    · exact (k.no (by omega) h2 h3).elim
    · obtain ⟨m, hm⟩ := k j (by omega) h2 h3
      exact ⟨x, List.mem_cons_self, k0, m, hm.wide ha (Int.le_refl _)⟩
theorem CVs.more (h : CVs ν a b H) (x : Int32) : CVs ν a b (x :: H) := fun j h1 h2 h3 => by
  obtain ⟨y, k1, k2⟩ := h j h1 h2 h3
  exact ⟨y, List.mem_cons_of_mem _ k1, k2⟩
theorem CVs.one (k : LCO ν a b x) : CVs ν a b [x] := fun j h1 h2 h3 => by
  rcases k with ⟨-, k⟩ | ⟨k0, k⟩
  · exact (k.no h1 h2 h3).elim
  · obtain ⟨m, hm⟩ := k j h1 h2 h3
    exact ⟨x, List.mem_cons_self, k0, m, hm⟩
/-- all of them below one node -/
theorem CVs.top (h : CVs ν a b H) (hp : AllP (fun x => 0 ≤ x.toInt → Par ν s x.toNatClampNeg) H) (h1 : lo ≤ a) (h2 : b ≤ hi) (h3 : lo ≤ s) (h4 : (s : Int) < hi) (j1 : a ≤ j) (j2 : (j : Int) < b) (hs : sp (ν.2.1 20 j) = true) : ∃ m, Up ν lo hi m j s := by
  obtain ⟨x, k1, k2, m, k3⟩ := h j j1 j2 hs
  exact (k3.wide h1 h2).trans (Up.one (hp.mem k1 k2) h3 h4)
/-- a node that was made ahead of all that hangs below it -/
theorem CO.fin {s : Int32} (h : CVs ν (s.toInt + 1) b H) (h0 : 0 ≤ s.toInt) (hp : AllP (fun x => 0 ≤ x.toInt → Par ν s.toNatClampNeg x.toNatClampNeg) H) (hb : s.toInt < b) : CO ν s.toInt b s := fun j h1 h2 h3 => by
  have hc := @ic s
  by_cases c : j = s.toNatClampNeg
  · exact ⟨0, c⟩
  · exact h.top hp (by omega) (Int.le_refl _) (by omega) (by omega) (by omega) h2 h3
end CVS
theorem CO.lh (h : CO ν a b x) (ha : a' = a) (hb : b' = b) : CO ν a' b' x := by rw [ha, hb]; exact h
theorem CO.ub (h : CO ν a b x) (e : b' = b) : CO ν a b' x := by rw [e]; exact h
theorem CO.fin' {H : List Int32} {s : Int32} (hl : lo = s.toInt) (h : CVs ν (s.toInt + 1) b H) (h0 : 0 ≤ s.toInt) (hp : AllP (fun x => 0 ≤ x.toInt → Par ν s.toNatClampNeg x.toNatClampNeg) H) (hb : s.toInt < b) : CO ν lo b s := by
  rw [hl]; exact CO.fin h h0 hp hb
/-- a node with a child made ahead of it -/
theorem CO.mid {H : List Int32} {s : Int32} (h0 : 0 ≤ s.toInt) (c1 : LCO ν lo s.toInt x) (p1 : 0 ≤ x.toInt → Par ν s.toNatClampNeg x.toNatClampNeg) (h : CVs ν (s.toInt + 1) b H) (hp : AllP (fun x => 0 ≤ x.toInt → Par ν s.toNatClampNeg x.toNatClampNeg) H) (hl : lo ≤ s.toInt) (hb : s.toInt < b) : CO ν lo b s := fun j h1 h2 h3 => by
  have hc := @ic s
  by_cases c : (j : Int) < s.toInt
  · rcases c1 with ⟨-, k⟩ | ⟨k0, k⟩
    · exact (k.no h1 c h3).elim
    · exact k.kid (p1 k0) (Int.le_refl _) (by omega) (by omega) (by omega) h1 c h3
  · obtain ⟨m, hm⟩ := (CO.fin h h0 hp hb) j (by omega) h2 h3
    exact ⟨m, hm.wide hl (Int.le_refl _)⟩
theorem CVs.at {H : List Int32} (h : CVs ν a b H) (ha : a' = a) : CVs ν a' b H := by rw [ha]; exact h
/-- a field put that no child stands in -/
theorem Par.free {t f0 : Nat} {y : Int32} (hf0 : f0 < 5) (hw : (fW (ν.2.1 20 t).toNatClampNeg f0).1 = 0) (h : Par ν p j) : Par (mA1 ν (22 + f0) t y) p j := by
  have e20 : (mA1 ν (22 + f0) t y).2.1 20 = ν.2.1 20 := by
    show (bif Nat.beq 20 (22 + f0) then upd (ν.2.1 (22 + f0)) t y else ν.2.1 20) = _
    rw [nb_ne (by omega)]; rfl
  have e27 : (mA1 ν (22 + f0) t y).2.1 27 = ν.2.1 27 := by
    show (bif Nat.beq 27 (22 + f0) then upd (ν.2.1 (22 + f0)) t y else ν.2.1 27) = _
    rw [nb_ne (by omega)]; rfl
  rcases h with ⟨f, hf, h3, h4⟩ | h
  · refine Or.inl ⟨f, hf, by rw [e20]; exact h3, ?_⟩
    show ((bif Nat.beq (22 + f) (22 + f0) then upd (ν.2.1 (22 + f0)) t y else ν.2.1 (22 + f)) p).toInt = _
    by_cases c : f = f0
    · subst c
      rw [nb_self]
      by_cases c2 : p = t
      · rw [c2] at h3; exact absurd hw h3
      · rw [show (bif true then upd (ν.2.1 (22 + f)) t y else ν.2.1 (22 + f)) p = ν.2.1 (22 + f) p from upd_off c2]; exact h4
    · rw [nb_ne (by omega)]; exact h4
  · exact Or.inr (by rw [e27]; exact h)
theorem Up.free {t f0 : Nat} {y : Int32} (hf0 : f0 < 5) (hw : (fW (ν.2.1 20 t).toNatClampNeg f0).1 = 0) : ∀ {m j i : Nat}, Up ν a b m j i → Up (mA1 ν (22 + f0) t y) a b m j i
  | 0, _, _, h => h
  | m + 1, _, _, ⟨p, h1, h2, h3⟩ => ⟨p, h1, h2.free hf0 hw, Up.free hf0 hw h3⟩
theorem CVs.free0 {H : List Int32} {t : Nat} {y : Int32} (h : CVs ν a b H) (hk : ν.2.1 20 t = 10) : CVs (mA1 ν 22 t y) a b H := fun j h1 h2 h3 => by
  rw [row_off rfl] at h3
  obtain ⟨x, k1, k2, m, k3⟩ := h j h1 h2 h3
  exact ⟨x, k1, k2, m, k3.free (f0 := 0) (by decide) (by rw [hk]; decide)⟩
end COV
