/-! locals may be told in another order, some forgotten -/
def lvK (lv1 lv : ev_L) : Prop := ∀ q ∈ lv1, ev_lk lv q.1 = some q.2
theorem fl_0 {lv : ev_L} : lvK [] lv := fun q hq => by cases hq
theorem fl_c {lv l : ev_L} {a : Nat × Value} (h : ev_lk lv a.1 = some a.2) (hl : lvK l lv) : lvK (a :: l) lv := fun q hq => by
  rcases List.mem_cons.mp hq with e | e
  · rw [e]; exact h
  · exact hl q e
theorem lvK.mem {i : Nat} {v : Value} : ∀ {lv1 : ev_L}, ev_lk lv1 i = some v → (i, v) ∈ lv1
  | [], h => by cases h
  | q :: r, h => by
    unfold ev_lk at h
    cases e : Nat.beq q.1 i with
    | true =>
      rw [e] at h
      cases h
      rw [← Nat.eq_of_beq_eq_true e]
      exact List.mem_cons_self
    | false =>
      rw [e] at h
      exact List.mem_cons_of_mem _ (lvK.mem h)
theorem lvK.lk {lv1 lv : ev_L} (h : lvK lv1 lv) {i : Nat} {v : Value} (hl : ev_lk lv1 i = some v) : ev_lk lv i = some v := h _ (lvK.mem hl)
theorem lvK.st {lv1 lv : ev_L} (h : lvK lv1 lv) (i : Nat) (v : Value) {P : Nat × Value → Bool} (hP : ∀ q, P q = true → q.1 ≠ i) : lvK ((i, v) :: lv1.filter P) ((i, v) :: lv.filter P) := fun q hq => by
  rcases List.mem_cons.mp hq with e | e
  · rw [e]
    show ev_lk ((i, v) :: _) i = some v
    unfold ev_lk
    rw [nb_self]; rfl
  · obtain ⟨h1, h2⟩ := List.mem_filter.mp e
    show ev_lk ((i, v) :: _) q.1 = some q.2
    unfold ev_lk
    rw [nb_ne (Ne.symm (hP q h2))]
    exact ev_lk_f h2 (h q h1)
theorem lvK.st1 {lv1 lv : ev_L} (h : lvK lv1 lv) (i : Nat) (v : Value) : lvK (ev_st1 lv1 i v) (ev_st1 lv i v) := h.st i v (fun q hq e => by subst e; simp at hq)
theorem lvK.st2 {lv1 lv : ev_L} (h : lvK lv1 lv) (i : Nat) (v : Value) : lvK (ev_st2 lv1 i v) (ev_st2 lv i v) := h.st i v (fun q hq e => by subst e; simp at hq)
theorem lvK.xl {lv1 lv : ev_L} (h : lvK lv1 lv) {i : Instr} {len pc nL : Nat} {st : List Value} {pc' : Nat} {lv1' : ev_L} {st' : List Value} (hx : ev_xl i len pc nL lv1 st = some (pc', lv1', st')) : ∃ lv', ev_xl i len pc nL lv st = some (pc', lv', st') ∧ lvK lv1' lv' := by
  unfold ev_xl at hx ⊢
  split at hx
  case h_13 k n =>
    split at hx
    · rename_i x hq
      rw [h.lk hq]
      obtain ⟨h1, h2⟩ := ev_if_ok hx
      cases h2
      refine ⟨_, ?_, h.st1 k _⟩
      show ev_if _ _ = _
      rw [h1]; rfl
    · cases hx
  case h_14 => cases hx
  all_goals
    obtain ⟨h1, h2⟩ := ev_if_ok hx
    first
    | (unfold ev_ldi at h2; split at h2 <;> first
        | (rename_i hq; cases h2; refine ⟨lv, ?_, h⟩; unfold ev_ldi; rw [h.lk hq]; show ev_if _ _ = _; rw [h1]; rfl)
        | cases h2)
    | (unfold ev_ldl at h2; split at h2 <;> first
        | (rename_i hq; cases h2; refine ⟨lv, ?_, h⟩; unfold ev_ldl; rw [h.lk hq]; show ev_if _ _ = _; rw [h1]; rfl)
        | cases h2)
    | (unfold ev_lda at h2; split at h2 <;> first
        | (rename_i hq; cases h2; refine ⟨lv, ?_, h⟩; unfold ev_lda; rw [h.lk hq]; show ev_if _ _ = _; rw [h1]; rfl)
        | cases h2)
    | (unfold ev_sti at h2; split at h2 <;> first
        | (obtain ⟨h3, h4⟩ := ev_if_ok h2; cases h4; refine ⟨_, ?_, h.st1 _ _⟩; unfold ev_sti; show ev_if _ (ev_if _ _) = _; rw [h1, h3]; rfl)
        | cases h2)
    | (unfold ev_stl at h2; split at h2 <;> first
        | (obtain ⟨h3, h4⟩ := ev_if_ok h2; cases h4; refine ⟨_, ?_, h.st2 _ _⟩; unfold ev_stl; show ev_if _ (ev_if _ _) = _; rw [h1, h3]; rfl)
        | cases h2)
    | (unfold ev_sta at h2; split at h2 <;> first
        | (obtain ⟨h3, h4⟩ := ev_if_ok h2; cases h4; refine ⟨_, ?_, h.st1 _ _⟩; unfold ev_sta; show ev_if _ (ev_if _ _) = _; rw [h1, h3]; rfl)
        | cases h2)
theorem lvK.fil {lv1 lv : ev_L} (h : lvK lv1 lv) (P : Nat × Value → Bool) : lvK (lv1.filter P) (lv.filter P) := fun q hq => by
  obtain ⟨h1, h2⟩ := List.mem_filter.mp hq
  exact ev_lk_f h2 (h q h1)
theorem lvK.Lp {C : Nat → List Value → Nat → ev_T → ev_O → ev_S → Prop} {k : Nat} {r : ev_O} {σ' : ev_S} : ∀ {n pc : Nat} {lv1 lv : ev_L} {st : List Value} {σ : ev_S}, lvK lv1 lv → ev_Lp ev_tl ev_oc ev_df ev_ms ev_tb ev_hd C k n pc lv1 st σ r σ' → ev_Lp ev_tl ev_oc ev_df ev_ms ev_tb ev_hd C k n pc lv st σ r σ'
  | 0, _, _, _, _, _, _, h => h
  | n + 1, pc, lv1, lv, st, σ, hk, h => by
    unfold ev_Lp at h ⊢
    split at h
    · exact h
    · rename_i e he
      rcases h with ⟨pc1, st1, h1, h2⟩ | ⟨pc1, lv2, st1, h1, h2⟩ | ⟨pc1, st1, σ1, h1, h2⟩ | ⟨st1, h1, h2⟩ | ⟨v, h1, h2⟩ | ⟨as, rest, v, τ, h1, h2, h3⟩ | h1 | h1 | ⟨as, rest, τ, ix, x, i, e2, h0, h1, h2, g0, g1, g2, g3, g4, g5, g6, h3⟩
      · exact Or.inl ⟨pc1, st1, h1, lvK.Lp hk h2⟩
      · obtain ⟨lv', g1, g2⟩ := hk.xl h1
        exact Or.inr (Or.inl ⟨pc1, lv', st1, g1, lvK.Lp g2 h2⟩)
      · exact Or.inr (Or.inr (Or.inl ⟨pc1, st1, σ1, h1, lvK.Lp hk h2⟩))
      · exact Or.inr (Or.inr (Or.inr (Or.inl ⟨st1, h1, lvK.Lp hk h2⟩)))
      · exact Or.inr (Or.inr (Or.inr (Or.inr (Or.inl ⟨v, h1, h2⟩))))
      · exact Or.inr (Or.inr (Or.inr (Or.inr (Or.inr (Or.inl ⟨as, rest, v, τ, h1, h2, lvK.Lp hk h3⟩)))))
      · exact Or.inr (Or.inr (Or.inr (Or.inr (Or.inr (Or.inr (Or.inl h1))))))
      · exact Or.inr (Or.inr (Or.inr (Or.inr (Or.inr (Or.inr (Or.inr (Or.inl h1)))))))
      · exact Or.inr (Or.inr (Or.inr (Or.inr (Or.inr (Or.inr (Or.inr (Or.inr ⟨as, rest, τ, ix, x, i, e2, h0, h1, h2, g0, g1, g2, g3, g4, g5, g6, lvK.Lp (hk.fil _) h3⟩)))))))
theorem f_lv {X : ev_X} {d k pc : Nat} {lv : ev_L} {st : List Value} {σ : fl_S} {Q : ev_O → fl_S → Prop} (lv1 : ev_L) (h : lvK lv1 lv) (next : EX X d k pc lv1 st σ Q) : EX X d k pc lv st σ Q := f_step (fun _ _ _ _ _ _ e => by
  obtain ⟨n, hn⟩ := e
  exact ⟨n, lvK.Lp h hn⟩) next
/-! a number stored behind a local that may be null -/
theorem cat_va (o : Option Nat) : (va_rf o).category ≠ 2 := by
  cases o
  · exact (by decide : (1 : Nat) ≠ 2)
  · exact (by decide : (1 : Nat) ≠ 2)
def lvJ (i : Nat) (lv1 lv : ev_L) : Prop := ∀ q ∈ lv1, ev_lk lv q.1 = some q.2 ∧ q.1 ≠ i ∧ (q.1 + 1 ≠ i ∨ q.2.category ≠ 2)
theorem fj_0 {i : Nat} {lv : ev_L} : lvJ i [] lv := fun q hq => by cases hq
theorem fj_c {i : Nat} {lv l : ev_L} {a : Nat × Value} (h : ev_lk lv a.1 = some a.2) (h1 : Nat.beq a.1 i = false) (h2 : Nat.beq (a.1 + 1) i = false) (hl : lvJ i l lv) : lvJ i (a :: l) lv := fun q hq => by
  rcases List.mem_cons.mp hq with e | e
  · rw [e]; exact ⟨h, ev_beq_n h1, Or.inl (ev_beq_n h2)⟩
  · exact hl q e
theorem fj_v {i j : Nat} {lv l : ev_L} {o : Option Nat} (h : ev_lk lv j = some (va_rf o)) (h1 : Nat.beq j i = false) (hl : lvJ i l lv) : lvJ i ((j, va_rf o) :: l) lv := fun q hq => by
  rcases List.mem_cons.mp hq with e | e
  · rw [e]; exact ⟨h, ev_beq_n h1, Or.inr (cat_va o)⟩
  · exact hl q e
theorem lvJ.K {i : Nat} {v : Value} {lv1 lv : ev_L} (h : lvJ i lv1 lv) : lvK ((i, v) :: lv1) (ev_st1 lv i v) := fun q hq => by
  rcases List.mem_cons.mp hq with e | e
  · rw [e]
    show ev_lk ((i, v) :: _) i = some v
    unfold ev_lk
    rw [nb_self]; rfl
  · obtain ⟨h1, h2, h3⟩ := h q e
    show ev_lk ((i, v) :: _) q.1 = some q.2
    unfold ev_lk
    rw [nb_ne (Ne.symm h2)]
    refine ev_lk_f ?_ h1
    rcases h3 with h3 | h3
    · simp [h2, h3]
    · simp [h2, h3]
theorem f_ist {X : ev_X} {d k pc : Nat} {lv : ev_L} {st : List Value} {σ : fl_S} {Q : ev_O → fl_S → Prop} {i a b tg : Nat} {kk : Int} {x : Int32} (lv1 : ev_L) (hb : ev_tb k pc = some (.istore i, 2, a, b, tg, kk)) (hl : Nat.ble (i + 1) (ev_ms k).2.2.2.1 = true) (hj : lvJ i lv1 lv) (next : EX X d k (pc + 2) ((i, .int x) :: lv1) st σ Q) : EX X d k pc lv (.int x :: st) σ Q := by
  refine f_step (fun _ _ _ _ _ _ e => e_xl hb (pc1 := pc + 2) (lv1 := ev_st1 lv i (.int x)) (st1 := st) ?_ e) (f_lv _ hj.K next)
  show ev_if (Nat.beq 2 2) (ev_if (Nat.ble (i + 1) (ev_ms k).2.2.2.1) _) = _
  rw [hl]; rfl
theorem f_istn {X : ev_X} {d k pc : Nat} {lv : ev_L} {st : List Value} {σ : fl_S} {Q : ev_O → fl_S → Prop} {i : Fin 4} {a b tg : Nat} {kk : Int} {x : Int32} (lv1 : ev_L) (hb : ev_tb k pc = some (.istore_n i, 1, a, b, tg, kk)) (hl : Nat.ble ((i : Nat) + 1) (ev_ms k).2.2.2.1 = true) (hj : lvJ i lv1 lv) (next : EX X d k (pc + 1) (((i : Nat), .int x) :: lv1) st σ Q) : EX X d k pc lv (.int x :: st) σ Q := by
  refine f_step (fun _ _ _ _ _ _ e => e_xl hb (pc1 := pc + 1) (lv1 := ev_st1 lv i (.int x)) (st1 := st) ?_ e) (f_lv _ hj.K next)
  show ev_if (Nat.beq 1 1) (ev_if (Nat.ble ((i : Nat) + 1) (ev_ms k).2.2.2.1) _) = _
  rw [hl]; rfl
theorem f_inc {X : ev_X} {d k pc : Nat} {lv : ev_L} {st : List Value} {σ : fl_S} {Q : ev_O → fl_S → Prop} {i a b tg : Nat} {n kk : Int} {x : Int32} (lv1 : ev_L) (hb : ev_tb k pc = some (.iinc i n, 3, a, b, tg, kk)) (hl : Nat.ble (i + 1) (ev_ms k).2.2.2.1 = true) (hx : ev_lk lv i = some (.int x)) (hj : lvJ i lv1 lv) (next : EX X d k (pc + 3) ((i, .int (x + Int32.ofInt n)) :: lv1) st σ Q) : EX X d k pc lv st σ Q := by
  refine f_step (fun _ _ _ _ _ _ e => e_xl hb (pc1 := pc + 3) (lv1 := ev_st1 lv i (.int (x + Int32.ofInt n))) (st1 := st) ?_ e) (f_lv _ hj.K next)
  show (match ev_lk lv i with
    | some (.int x) => ev_if (Nat.beq 3 3 && Nat.ble (i + 1) (ev_ms k).2.2.2.1) (some (pc + 3, ev_st1 lv i (.int (x + Int32.ofInt n)), st))
    | _ => none) = _
  rw [hx]
  show ev_if (Nat.beq 3 3 && Nat.ble (i + 1) (ev_ms k).2.2.2.1) _ = _
  rw [hl]; rfl
