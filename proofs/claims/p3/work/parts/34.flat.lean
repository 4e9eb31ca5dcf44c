/-! a flat picture of the heap: fields by numbers (32 a class), arrays by sorts; rows over it -/
abbrev fl_S : Type := (Nat → Nat → Bool) × (Nat → Nat → Value) × (Nat → Option (Nat × (Nat → Int32))) × (Nat → Option (Nat × (Nat → Int32))) × (Nat → Option (Nat × Nat × (Nat → Option Nat))) × Nat × Nat × Nat
abbrev sC (σ : fl_S) : Nat → Nat → Bool := σ.1
abbrev sF (σ : fl_S) : Nat → Nat → Value := σ.2.1
abbrev sI (σ : fl_S) : Nat → Option (Nat × (Nat → Int32)) := σ.2.2.1
abbrev sY (σ : fl_S) : Nat → Option (Nat × (Nat → Int32)) := σ.2.2.2.1
abbrev sR (σ : fl_S) : Nat → Option (Nat × Nat × (Nat → Option Nat)) := σ.2.2.2.2.1
abbrev sZ (σ : fl_S) : Nat := σ.2.2.2.2.2.1
abbrev sc (σ : fl_S) : Nat := σ.2.2.2.2.2.2.1
abbrev ss (σ : fl_S) : Nat := σ.2.2.2.2.2.2.2
def fl_n (ci : Nat) : Nat := (ev_df ci).length
def fl_l (F : Nat → Nat → Value) (ci a : Nat) : List Value := (List.range (fl_n ci)).map fun s => F a (ci * 32 + s)
def Hp (t : ev_T) (σ : fl_S) : Prop :=
  (∀ ci a, sC σ ci a = true → a < sZ σ ∧ ev_g t a = some (.inr (ci, fl_l (sF σ) ci a))) ∧
  (∀ a x, sI σ a = some x → a < sZ σ ∧ ev_g t a = some (.inl (0, x.1, .inl x.2))) ∧
  (∀ a x, sY σ a = some x → a < sZ σ ∧ ev_g t a = some (.inl (1, x.1, .inl x.2))) ∧
  (∀ a x, sR σ a = some x → a < sZ σ ∧ ev_g t a = some (.inl (x.1, x.2.1, .inr (.inr (.inr (.inr x.2.2)))))) ∧ sZ σ ≤ 1048576
/-- a field set -/
def FU (F : Nat → Nat → Value) (a g : Nat) (v : Value) : Nat → Nat → Value := fun b h => bif Nat.beq h g then (bif Nat.beq b a then v else F b h) else F b h
def sU (σ : fl_S) (a g : Nat) (v : Value) : fl_S := (σ.1, FU σ.2.1 a g v, σ.2.2)
theorem nb_self (a : Nat) : Nat.beq a a = true := Nat.beq_refl a
theorem nb_ne {a b : Nat} (h : a ≠ b) : Nat.beq a b = false := by
  cases hb : Nat.beq a b with
  | true => exact absurd (Nat.eq_of_beq_eq_true hb) h
  | false => rfl
theorem FU_at {F : Nat → Nat → Value} {a g : Nat} {v : Value} : FU F a g v a g = v := by unfold FU; rw [nb_self, nb_self]; rfl
theorem FU_ne {F : Nat → Nat → Value} {a b g h : Nat} {v : Value} (hb : b ≠ a) : FU F a g v b h = F b h := by
  unfold FU; rw [nb_ne hb]
  cases Nat.beq h g <;> rfl
theorem FU_gne {F : Nat → Nat → Value} {a b g h : Nat} {v : Value} (hb : h ≠ g) : FU F a g v b h = F b h := by
  unfold FU; rw [nb_ne hb]; rfl
theorem fl_len (F : Nat → Nat → Value) (ci a : Nat) : (fl_l F ci a).length = fl_n ci := by simp [fl_l]
theorem fl_at (F : Nat → Nat → Value) (ci a b : Nat) : (fl_l F ci a)[b]? = if b < fl_n ci then some (F a (ci * 32 + b)) else none := by
  unfold fl_l
  rw [List.getElem?_map]
  by_cases h : b < fl_n ci
  · rw [List.getElem?_range h, if_pos h]; rfl
  · rw [if_neg h, List.getElem?_eq_none (by simpa using h)]; rfl
theorem fl_set {F : Nat → Nat → Value} {ci a b : Nat} {v : Value} : (fl_l F ci a).set b v = fl_l (FU F a (ci * 32 + b) v) ci a := by
  apply List.ext_getElem?
  intro i
  rw [List.getElem?_set, fl_at, fl_at, fl_len]
  by_cases e : b = i
  · subst e
    rw [if_pos rfl, FU_at]
  · rw [if_neg e, FU_gne (by omega)]
theorem fl_setne {F : Nat → Nat → Value} {ci a b g : Nat} {v : Value} (h : a ≠ b) : fl_l (FU F b g v) ci a = fl_l F ci a := by
  apply List.ext_getElem?
  intro i
  rw [fl_at, fl_at, FU_ne h]
theorem Hp.put {t : ev_T} {σ : fl_S} (h : Hp t σ) {ci q b : Nat} {v : Value} (hC : sC σ ci q = true) : Hp (ev_p t q (.inr (ci, (fl_l (sF σ) ci q).set b v))) (sU σ q (ci * 32 + b) v) := by
  obtain ⟨h1, h2, h3, h4, h5⟩ := h
  have hq := h1 ci q hC
  have hq2 : q < 1048576 := Nat.lt_of_lt_of_le hq.1 h5
  refine ⟨fun cj a ha => ⟨(h1 cj a ha).1, ?_⟩, fun a x ha => ⟨(h2 a x ha).1, ?_⟩, fun a x ha => ⟨(h3 a x ha).1, ?_⟩, fun a x ha => ⟨(h4 a x ha).1, ?_⟩, h5⟩
  · rw [ev_gp hq2]
    by_cases e : a = q
    · subst e
      have := hq.2.symm.trans (h1 cj a ha).2
      cases this
      rw [if_pos rfl, fl_set]
      rfl
    · rw [if_neg e, (h1 cj a ha).2]
      show _ = some (Sum.inr (cj, fl_l (FU (sF σ) q (ci * 32 + b) v) cj a))
      rw [fl_setne e]
  · have e : a ≠ q := fun e => by subst e; have := hq.2.symm.trans (h2 a x ha).2; cases this
    rw [ev_gp hq2, if_neg e, (h2 a x ha).2]
  · have e : a ≠ q := fun e => by subst e; have := hq.2.symm.trans (h3 a x ha).2; cases this
    rw [ev_gp hq2, if_neg e, (h3 a x ha).2]
  · have e : a ≠ q := fun e => by subst e; have := hq.2.symm.trans (h4 a x ha).2; cases this
    rw [ev_gp hq2, if_neg e, (h4 a x ha).2]
/-- a new object -/
def FN (F : Nat → Nat → Value) (ci a0 : Nat) : Nat → Nat → Value := fun a g => bif (Nat.beq (Nat.div g 32) ci && Nat.beq a a0) then ((ev_df ci)[Nat.mod g 32]?).getD .null else F a g
def sN (σ : fl_S) (ci n : Nat) : fl_S := (fun c a => bif (Nat.beq c ci && Nat.beq a (sZ σ)) then true else sC σ c a, FN (sF σ) ci (sZ σ), sI σ, sY σ, sR σ, sZ σ + 1, sc σ + 1, ss σ + n)
theorem FN_ne {F : Nat → Nat → Value} {ci a0 a g : Nat} (h : a ≠ a0) : FN F ci a0 a g = F a g := by unfold FN; rw [nb_ne h, Bool.and_false]; rfl
theorem fl_new {F : Nat → Nat → Value} {ci a : Nat} (h : fl_n ci ≤ 32) : fl_l (FN F ci a) ci a = ev_df ci := by
  apply List.ext_getElem?
  intro i
  rw [fl_at]
  by_cases e : i < fl_n ci
  · rw [if_pos e]
    unfold FN
    have h1 : Nat.div (ci * 32 + i) 32 = ci := by show (ci * 32 + i) / 32 = ci; omega
    have h2 : Nat.mod (ci * 32 + i) 32 = i := by show (ci * 32 + i) % 32 = i; omega
    rw [h1, h2, nb_self, nb_self]
    have e' : i < (ev_df ci).length := e
    simp [List.getElem?_eq_getElem e']
  · rw [if_neg e, List.getElem?_eq_none (by exact Nat.not_lt.mp e)]
theorem fl_newne {F : Nat → Nat → Value} {ci cj a a0 : Nat} (h : a ≠ a0) : fl_l (FN F cj a0) ci a = fl_l F ci a := by
  apply List.ext_getElem?
  intro i
  rw [fl_at, fl_at, FN_ne h]
theorem Hp.new {t : ev_T} {σ : fl_S} (h : Hp t σ) {ci n : Nat} (hz : sZ σ < 1048576) (hn : fl_n ci ≤ 32) : Hp (ev_p t (sZ σ) (.inr (ci, ev_df ci))) (sN σ ci n) := by
  obtain ⟨h1, h2, h3, h4, h5⟩ := h
  refine ⟨fun cj a ha => ?_, fun a x ha => ⟨Nat.lt_succ_of_lt (h2 a x ha).1, ?_⟩, fun a x ha => ⟨Nat.lt_succ_of_lt (h3 a x ha).1, ?_⟩, fun a x ha => ⟨Nat.lt_succ_of_lt (h4 a x ha).1, ?_⟩, hz⟩
  · have ha : (bif (Nat.beq cj ci && Nat.beq a (sZ σ)) then true else sC σ cj a) = true := ha
    rw [ev_gp hz]
    cases hb : (Nat.beq cj ci && Nat.beq a (sZ σ)) with
    | true =>
      rw [Bool.and_eq_true] at hb
      have e1 := Nat.eq_of_beq_eq_true hb.1
      have e2 := Nat.eq_of_beq_eq_true hb.2
      subst e1 e2
      refine ⟨Nat.lt_succ_self _, ?_⟩
      rw [if_pos rfl]
      show _ = some (Sum.inr (cj, fl_l (FN (sF σ) cj (sZ σ)) cj (sZ σ)))
      rw [fl_new hn]
    | false =>
      rw [hb] at ha
      have g := h1 cj a ha
      have e : a ≠ sZ σ := Nat.ne_of_lt g.1
      refine ⟨Nat.lt_succ_of_lt g.1, ?_⟩
      rw [if_neg e, g.2]
      show _ = some (Sum.inr (cj, fl_l (FN (sF σ) ci (sZ σ)) cj a))
      rw [fl_newne e]
  · rw [ev_gp hz, if_neg (Nat.ne_of_lt (h2 a x ha).1), (h2 a x ha).2]
  · rw [ev_gp hz, if_neg (Nat.ne_of_lt (h3 a x ha).1), (h3 a x ha).2]
  · rw [ev_gp hz, if_neg (Nat.ne_of_lt (h4 a x ha).1), (h4 a x ha).2]
/-- an array's cell of a sort set (made or written) -/
def aU {α : Type} (f : Nat → Option α) (a : Nat) (x : α) : Nat → Option α := fun b => bif Nat.beq b a then some x else f b
theorem aU_at {α : Type} {f : Nat → Option α} {a : Nat} {x : α} : aU f a x a = some x := by unfold aU; rw [nb_self]; rfl
theorem aU_ne {α : Type} {f : Nat → Option α} {a b : Nat} {x : α} (h : b ≠ a) : aU f a x b = f b := by unfold aU; rw [nb_ne h]; rfl
def sI1 (σ : fl_S) (a : Nat) (x : Nat × (Nat → Int32)) : fl_S := (sC σ, sF σ, aU (sI σ) a x, sY σ, sR σ, σ.2.2.2.2.2)
def sY1 (σ : fl_S) (a : Nat) (x : Nat × (Nat → Int32)) : fl_S := (sC σ, sF σ, sI σ, aU (sY σ) a x, sR σ, σ.2.2.2.2.2)
def sR1 (σ : fl_S) (a : Nat) (x : Nat × Nat × (Nat → Option Nat)) : fl_S := (sC σ, sF σ, sI σ, sY σ, aU (sR σ) a x, σ.2.2.2.2.2)
def sZ1 (σ : fl_S) (n : Nat) : fl_S := (sC σ, sF σ, sI σ, sY σ, sR σ, sZ σ + 1, sc σ + 1, ss σ + n)
theorem Hp.sz {t : ev_T} {σ : fl_S} (h : Hp t σ) {n : Nat} (hz : sZ σ < 1048576) : Hp t (sZ1 σ n) := by
  obtain ⟨h1, h2, h3, h4, h5⟩ := h
  exact ⟨fun cj a ha => ⟨Nat.lt_succ_of_lt (h1 cj a ha).1, (h1 cj a ha).2⟩, fun a x ha => ⟨Nat.lt_succ_of_lt (h2 a x ha).1, (h2 a x ha).2⟩, fun a x ha => ⟨Nat.lt_succ_of_lt (h3 a x ha).1, (h3 a x ha).2⟩, fun a x ha => ⟨Nat.lt_succ_of_lt (h4 a x ha).1, (h4 a x ha).2⟩, hz⟩
/-- nothing known stands at a -/
def fr (σ : fl_S) (a : Nat) : Prop := (∀ ci, sC σ ci a = false) ∧ sI σ a = none ∧ sY σ a = none ∧ sR σ a = none
theorem Hp.free {t : ev_T} {σ : fl_S} (h : Hp t σ) : fr σ (sZ σ) := by
  obtain ⟨h1, h2, h3, h4, h5⟩ := h
  refine ⟨fun ci => ?_, ?_, ?_, ?_⟩
  · cases hb : sC σ ci (sZ σ) with
    | true => exact absurd (h1 _ _ hb).1 (Nat.lt_irrefl _)
    | false => rfl
  · cases hb : sI σ (sZ σ) with
    | some x => exact absurd (h2 _ _ hb).1 (Nat.lt_irrefl _)
    | none => rfl
  · cases hb : sY σ (sZ σ) with
    | some x => exact absurd (h3 _ _ hb).1 (Nat.lt_irrefl _)
    | none => rfl
  · cases hb : sR σ (sZ σ) with
    | some x => exact absurd (h4 _ _ hb).1 (Nat.lt_irrefl _)
    | none => rfl
theorem Hp.other {t : ev_T} {σ : fl_S} (h : Hp t σ) {a : Nat} {y : va_E} (ha : a < 1048576) (hf : ∀ ci, sC σ ci a = false) : ∀ cj b, sC σ cj b = true → b < sZ σ ∧ ev_g (ev_p t a y) b = some (.inr (cj, fl_l (sF σ) cj b)) := fun cj b hb => by
  have e : b ≠ a := fun e => by subst e; rw [hf cj] at hb; cases hb
  exact ⟨(h.1 cj b hb).1, by rw [ev_gp ha, if_neg e, (h.1 cj b hb).2]⟩
theorem Hp.putI {t : ev_T} {σ : fl_S} (h : Hp t σ) {a : Nat} {x : Nat × (Nat → Int32)} (ha : a < sZ σ) (hc : ∀ ci, sC σ ci a = false) (hy : sY σ a = none) (hr : sR σ a = none) : Hp (ev_p t a (.inl (0, x.1, .inl x.2))) (sI1 σ a x) := by
  have h256 : a < 1048576 := Nat.lt_of_lt_of_le ha h.2.2.2.2
  refine ⟨h.other h256 hc, fun b y hb => ?_, fun b y hb => ⟨(h.2.2.1 b y hb).1, ?_⟩, fun b y hb => ⟨(h.2.2.2.1 b y hb).1, ?_⟩, h.2.2.2.2⟩
  · by_cases e : b = a
    · subst e
      have hb : aU (sI σ) b x b = some y := hb
      rw [aU_at] at hb; cases hb
      exact ⟨ha, by rw [ev_gp h256, if_pos rfl]⟩
    · have hb : aU (sI σ) a x b = some y := hb
      rw [aU_ne e] at hb
      exact ⟨(h.2.1 b y hb).1, by rw [ev_gp h256, if_neg e, (h.2.1 b y hb).2]⟩
  · have e : b ≠ a := fun e => by subst e; have := (hy).symm.trans hb; cases this
    rw [ev_gp h256, if_neg e, (h.2.2.1 b y hb).2]
  · have e : b ≠ a := fun e => by subst e; have := (hr).symm.trans hb; cases this
    rw [ev_gp h256, if_neg e, (h.2.2.2.1 b y hb).2]
theorem Hp.putY {t : ev_T} {σ : fl_S} (h : Hp t σ) {a : Nat} {x : Nat × (Nat → Int32)} (ha : a < sZ σ) (hc : ∀ ci, sC σ ci a = false) (hi : sI σ a = none) (hr : sR σ a = none) : Hp (ev_p t a (.inl (1, x.1, .inl x.2))) (sY1 σ a x) := by
  have h256 : a < 1048576 := Nat.lt_of_lt_of_le ha h.2.2.2.2
  refine ⟨h.other h256 hc, fun b y hb => ⟨(h.2.1 b y hb).1, ?_⟩, fun b y hb => ?_, fun b y hb => ⟨(h.2.2.2.1 b y hb).1, ?_⟩, h.2.2.2.2⟩
  · have e : b ≠ a := fun e => by subst e; have := (hi).symm.trans hb; cases this
    rw [ev_gp h256, if_neg e, (h.2.1 b y hb).2]
  · by_cases e : b = a
    · subst e
      have hb : aU (sY σ) b x b = some y := hb
      rw [aU_at] at hb; cases hb
      exact ⟨ha, by rw [ev_gp h256, if_pos rfl]⟩
    · have hb : aU (sY σ) a x b = some y := hb
      rw [aU_ne e] at hb
      exact ⟨(h.2.2.1 b y hb).1, by rw [ev_gp h256, if_neg e, (h.2.2.1 b y hb).2]⟩
  · have e : b ≠ a := fun e => by subst e; have := (hr).symm.trans hb; cases this
    rw [ev_gp h256, if_neg e, (h.2.2.2.1 b y hb).2]
theorem Hp.putR {t : ev_T} {σ : fl_S} (h : Hp t σ) {a : Nat} {x : Nat × Nat × (Nat → Option Nat)} (ha : a < sZ σ) (hc : ∀ ci, sC σ ci a = false) (hi : sI σ a = none) (hy : sY σ a = none) : Hp (ev_p t a (.inl (x.1, x.2.1, .inr (.inr (.inr (.inr x.2.2)))))) (sR1 σ a x) := by
  have h256 : a < 1048576 := Nat.lt_of_lt_of_le ha h.2.2.2.2
  refine ⟨h.other h256 hc, fun b y hb => ⟨(h.2.1 b y hb).1, ?_⟩, fun b y hb => ⟨(h.2.2.1 b y hb).1, ?_⟩, fun b y hb => ?_, h.2.2.2.2⟩
  · have e : b ≠ a := fun e => by subst e; have := (hi).symm.trans hb; cases this
    rw [ev_gp h256, if_neg e, (h.2.1 b y hb).2]
  · have e : b ≠ a := fun e => by subst e; have := (hy).symm.trans hb; cases this
    rw [ev_gp h256, if_neg e, (h.2.2.1 b y hb).2]
  · by_cases e : b = a
    · subst e
      have hb : aU (sR σ) b x b = some y := hb
      rw [aU_at] at hb; cases hb
      exact ⟨ha, by rw [ev_gp h256, if_pos rfl]⟩
    · have hb : aU (sR σ) a x b = some y := hb
      rw [aU_ne e] at hb
      exact ⟨(h.2.2.2.1 b y hb).1, by rw [ev_gp h256, if_neg e, (h.2.2.2.1 b y hb).2]⟩
theorem Hp.oneI {t : ev_T} {σ : fl_S} (h : Hp t σ) {a : Nat} {x : Nat × (Nat → Int32)} (hx : sI σ a = some x) : a < sZ σ ∧ (∀ ci, sC σ ci a = false) ∧ sY σ a = none ∧ sR σ a = none := by
  have g := h.2.1 a x hx
  refine ⟨g.1, fun ci => ?_, ?_, ?_⟩
  · cases hb : sC σ ci a with
    | true => have := (h.1 _ _ hb).2.symm.trans g.2; cases this
    | false => rfl
  · cases hb : sY σ a with
    | some y => have := (h.2.2.1 _ _ hb).2.symm.trans g.2; simp at this
    | none => rfl
  · cases hb : sR σ a with
    | some y => have := (h.2.2.2.1 _ _ hb).2.symm.trans g.2; simp at this
    | none => rfl
theorem Hp.oneY {t : ev_T} {σ : fl_S} (h : Hp t σ) {a : Nat} {x : Nat × (Nat → Int32)} (hx : sY σ a = some x) : a < sZ σ ∧ (∀ ci, sC σ ci a = false) ∧ sI σ a = none ∧ sR σ a = none := by
  have g := h.2.2.1 a x hx
  refine ⟨g.1, fun ci => ?_, ?_, ?_⟩
  · cases hb : sC σ ci a with
    | true => have := (h.1 _ _ hb).2.symm.trans g.2; cases this
    | false => rfl
  · cases hb : sI σ a with
    | some y => have := (h.2.1 _ _ hb).2.symm.trans g.2; simp at this
    | none => rfl
  · cases hb : sR σ a with
    | some y => have := (h.2.2.2.1 _ _ hb).2.symm.trans g.2; simp at this
    | none => rfl
theorem Hp.oneR {t : ev_T} {σ : fl_S} (h : Hp t σ) {a : Nat} {x : Nat × Nat × (Nat → Option Nat)} (hx : sR σ a = some x) : a < sZ σ ∧ (∀ ci, sC σ ci a = false) ∧ sI σ a = none ∧ sY σ a = none := by
  have g := h.2.2.2.1 a x hx
  refine ⟨g.1, fun ci => ?_, ?_, ?_⟩
  · cases hb : sC σ ci a with
    | true => have := (h.1 _ _ hb).2.symm.trans g.2; cases this
    | false => rfl
  · cases hb : sI σ a with
    | some y => have := (h.2.1 _ _ hb).2.symm.trans g.2; simp at this
    | none => rfl
  · cases hb : sY σ a with
    | some y => have := (h.2.2.1 _ _ hb).2.symm.trans g.2; simp at this
    | none => rfl
/-- the rest of a method's run, a call: over flat pictures; Q: what may come of it -/
def EX (X : ev_X) (d k pc : Nat) (lv : ev_L) (st : List Value) (σ : fl_S) (Q : ev_O → fl_S → Prop) : Prop := ∀ t c s, Hp t σ → ∃ r σ' t' mc ms, Q r σ' ∧ Hp t' σ' ∧ sc σ' = sc σ + mc ∧ ss σ' = ss σ + ms ∧ EE X d k pc lv st (sZ σ, t, c, s) r (sZ σ', t', c + mc, s + ms)
def CX (X : ev_X) (d k : Nat) (as : List Value) (σ : fl_S) (Q : ev_O → fl_S → Prop) : Prop := ∀ t, Hp t σ → ∃ v σ' t' mc ms, Q v σ' ∧ Hp t' σ' ∧ sc σ' = sc σ + mc ∧ ss σ' = ss σ + ms ∧ Cd X d k as (sZ σ) t v (sZ σ', t', mc, ms)
/-- it returns -/
def lf (Q : Option Value → fl_S → Prop) : ev_O → fl_S → Prop := fun o σ => match o with
  | .inl v => Q v σ
  | .inr _ => False
abbrev EQ (X : ev_X) (d k pc : Nat) (lv : ev_L) (st : List Value) (σ : fl_S) (Q : Option Value → fl_S → Prop) : Prop := EX X d k pc lv st σ (lf Q)
abbrev CQ (X : ev_X) (d k : Nat) (as : List Value) (σ : fl_S) (Q : Option Value → fl_S → Prop) : Prop := CX X d k as σ (lf Q)
abbrev EF (X : ev_X) (d k pc : Nat) (lv : ev_L) (st : List Value) (σ : fl_S) (r : Option Value) (σ' : fl_S) : Prop := EQ X d k pc lv st σ (fun r1 σ1 => r1 = r ∧ σ1 = σ')
abbrev CF (X : ev_X) (d k : Nat) (as : List Value) (σ : fl_S) (v : Option Value) (σ' : fl_S) : Prop := CQ X d k as σ (fun v1 σ1 => v1 = v ∧ σ1 = σ')
