/-! which types are alike at one look -/
theorem ic_b {x y : Int32} {c : Jvm.ClassFile.Cond} {q : Bool} (h : ev_ic c x y = q) : ev_ic c x y = q := h
/-- a type's cell, its kind, what it is when names are replaced, whose REVEAL it is -/
def SA (σ : fl_S) (kd : Nat → Int32) (rl : Nat → Nat) (on : Nat → Option Nat) (a : Nat) : Prop := sC σ 4 a = true ∧ sF σ a 128 = .int (kd a) ∧ sF σ a 139 = .ref (rl a) ∧ sF σ a 138 = va_rf (on a)
def ownt (kd : Nat → Int32) (rl : Nat → Nat) (on : Nat → Option Nat) (a : Nat) : Bool := decide (rl a = a) && (!decide (kd a = 11) || (on a).isNone)
theorem g_isOwnType {X : ev_X} {d : Nat} {σ : fl_S} (hd : 1 ≤ d) {kd : Nat → Int32} {rl : Nat → Nat} {on : Nat → Option Nat} {a : Nat} (h : SA σ kd rl on a) : CF X d 88 [.ref a] σ (some (.int (if ownt kd rl on a then 1 else 0))) σ := by
  obtain ⟨c_a, a_kind, a_real, a_own⟩ := h
  refine f_meth hd rfl ?_
  refine f_go (pc1 := 1) (lv1 := [(0, .ref a)]) (st1 := [.ref a]) 1 rfl ?_
  refine f_getf rfl rfl (g := 139) rfl c_a a_real ?_
  refine f_go (pc1 := 5) (lv1 := [(0, .ref a)]) (st1 := [.ref a, .ref (rl a)]) 1 rfl ?_
  by_cases h1 : rl a = a
  ·
    refine f_acmp (t := 28) rfl rfl false (by simp [h1]) ?_
    refine f_go (pc1 := 9) (lv1 := [(0, .ref a)]) (st1 := [.ref a]) 1 rfl ?_
    refine f_getf rfl rfl (g := 128) rfl c_a a_kind ?_
    refine f_go (pc1 := 14) (lv1 := [(0, .ref a)]) (st1 := [.int 11, .int (kd a)]) 1 rfl ?_
    by_cases h2 : kd a = 11
    ·
      cases ho : on a with
      | none =>
        rw [ho] at a_own
        refine f_icmp (t := 24) rfl rfl false (ic_nen h2) ?_
        refine f_go (pc1 := 18) (lv1 := [(0, .ref a)]) (st1 := [.ref a]) 1 rfl ?_
        refine f_getf rfl rfl (g := 138) rfl c_a a_own ?_
        refine f_go (pc1 := 29) (lv1 := [(0, .ref a)]) (st1 := [.int 1]) 3 rfl ?_
        rw [show ownt kd rl on a = true by simp [ownt, h1, ho]]
        exact f_rt rfl rfl
      | some y =>
        rw [ho] at a_own
        refine f_icmp (t := 24) rfl rfl false (ic_nen h2) ?_
        refine f_go (pc1 := 18) (lv1 := [(0, .ref a)]) (st1 := [.ref a]) 1 rfl ?_
        refine f_getf rfl rfl (g := 138) rfl c_a a_own ?_
        refine f_go (pc1 := 29) (lv1 := [(0, .ref a)]) (st1 := [.int 0]) 2 rfl ?_
        rw [show ownt kd rl on a = false by simp [ownt, h1, h2, ho]]
        exact f_rt rfl rfl
    ·
      refine f_icmp (t := 24) rfl rfl true (ic_ne h2) ?_
      refine f_go (pc1 := 29) (lv1 := [(0, .ref a)]) (st1 := [.int 1]) 2 rfl ?_
      rw [show ownt kd rl on a = true by simp [ownt, h1, h2]]
      exact f_rt rfl rfl
  ·
    refine f_acmp (t := 28) rfl rfl true (by simp [h1]) ?_
    refine f_go (pc1 := 29) (lv1 := [(0, .ref a)]) (st1 := [.int 0]) 1 rfl ?_
    rw [show ownt kd rl on a = false by simp [ownt, h1]]
    exact f_rt rfl rfl
/-- a part, and its shape -/
def SE (σ : fl_S) (el pt : Nat → Nat) (sh : Nat → Int32) (a : Nat) : Prop := sC σ 4 a = true ∧ sF σ a 134 = .ref (el a) ∧ sC σ 4 (el a) = true ∧ sF σ (el a) 139 = .ref (pt a) ∧ sC σ 4 (pt a) = true ∧ sF σ (pt a) 142 = .int (sh (pt a))
theorem g_isSameElem {X : ev_X} {d : Nat} {σ : fl_S} (hd : 1 ≤ d) {el pt : Nat → Nat} {sh : Nat → Int32} {a b : Nat} (ha : SE σ el pt sh a) (hb : SE σ el pt sh b) : CF X d 91 [.ref a, .ref b] σ (some (.int (if sh (pt a) = sh (pt b) then 1 else 0))) σ := by
  obtain ⟨a1, a2, a3, a4, a5, a6⟩ := ha
  obtain ⟨b1, b2, b3, b4, b5, b6⟩ := hb
  refine f_meth hd rfl ?_
  refine f_go (pc1 := 1) (lv1 := [(0, .ref a), (1, .ref b)]) (st1 := [.ref a]) 1 rfl ?_
  refine f_getf rfl rfl (g := 134) rfl a1 a2 ?_
  refine f_go (pc1 := 8) (lv1 := [(0, .ref a), (1, .ref b)]) (st1 := [.ref b]) 2 rfl ?_
  refine f_getf rfl rfl (g := 134) rfl b1 b2 ?_
  refine f_go (pc1 := 32) (lv1 := [(0, .ref a), (1, .ref b)]) (st1 := [.ref a]) 2 rfl ?_
  refine f_getf rfl rfl (g := 134) rfl a1 a2 ?_
  refine f_getf rfl rfl (g := 139) rfl a3 a4 ?_
  refine f_getf rfl rfl (g := 142) rfl a5 a6 ?_
  refine f_go (pc1 := 42) (lv1 := [(0, .ref a), (1, .ref b)]) (st1 := [.ref b, .int (sh (pt a))]) 1 rfl ?_
  refine f_getf rfl rfl (g := 134) rfl b1 b2 ?_
  refine f_getf rfl rfl (g := 139) rfl b3 b4 ?_
  refine f_getf rfl rfl (g := 142) rfl b5 b6 ?_
  by_cases h1 : sh (pt a) = sh (pt b)
  ·
    refine f_icmp (t := 58) rfl rfl false (ic_nen h1) ?_
    refine f_go (pc1 := 59) (lv1 := [(0, .ref a), (1, .ref b)]) (st1 := [.int 1]) 2 rfl ?_
    rw [if_pos h1]
    exact f_rt rfl rfl
  ·
    refine f_icmp (t := 58) rfl rfl true (ic_ne h1) ?_
    refine f_go (pc1 := 59) (lv1 := [(0, .ref a), (1, .ref b)]) (st1 := [.int 0]) 1 rfl ?_
    rw [if_neg h1]
    exact f_rt rfl rfl
theorem g_hasOverrides0 {X : ev_X} {d : Nat} {σ : fl_S} (hd : 1 ≤ d) : CF X d 93 [.null, .null] σ (some (.int 1)) σ := by
  refine f_meth hd rfl ?_
  refine f_go (pc1 := 60) (lv1 := [(2, .null), (0, .null), (1, .null)]) (st1 := [.int 1]) 5 rfl ?_
  exact f_rt rfl rfl
theorem g_isWithin0 {X : ev_X} {d : Nat} {σ : fl_S} (hd : 1 ≤ d) : CF X d 94 [.null, .null] σ (some (.int 1)) σ := by
  refine f_meth hd rfl ?_
  refine f_go (pc1 := 46) (lv1 := [(2, .null), (0, .null), (1, .null)]) (st1 := [.int 1]) 5 rfl ?_
  exact f_rt rfl rfl
/-- what one look sees of a type of its own -/
def SL (σ : fl_S) (kd hi : Nat → Int32) (el pt it : Nat → Nat) (nm sh : Nat → Int32) (a : Nat) : Prop :=
  sC σ 4 a = true ∧ sF σ a 128 = .int (kd a) ∧ ((kd a = 3 ∨ kd a = 5 ∨ kd a = 11) → sF σ a 132 = .int 0 ∧ sF σ a 133 = .int (hi a) ∧ SE σ el pt sh a) ∧
  ((kd a = 3 ∨ kd a = 5) → sF σ a 135 = .null ∧ sF σ a 136 = .null) ∧ (kd a = 11 → sF σ a 135 = .ref (it a) ∧ sC σ 1 (it a) = true ∧ sF σ (it a) 32 = .int 10 ∧ sF σ (it a) 33 = .int (nm a))
def lkt (kd hi : Nat → Int32) (pt : Nat → Nat) (sh : Nat → Int32) (a b : Nat) : Bool := decide (a = b) || (decide (kd a = kd b) && (decide (kd a = 3) || decide (kd a = 5)) && decide (hi a = hi b) && decide (sh (pt a) = sh (pt b)))
theorem g_isLike {X : ev_X} {d : Nat} {σ : fl_S} (hd : 2 ≤ d) {kd hi : Nat → Int32} {el pt it : Nat → Nat} {nm sh : Nat → Int32} {a b : Nat} (ha : SL σ kd hi el pt it nm sh a) (hb : SL σ kd hi el pt it nm sh b) (hu : a ≠ b → kd a = kd b → kd a = 3 ∨ kd a = 5 ∨ kd a = 12 ∨ (kd a = 11 ∧ nm a ≠ nm b)) : CF X d 90 [.ref a, .ref b] σ (some (.int (if lkt kd hi pt sh a b then 1 else 0))) σ := by
  obtain ⟨c_a, a_kind, a_l, a_p, a_i⟩ := ha
  obtain ⟨c_b, b_kind, b_l, b_p, b_i⟩ := hb
  refine f_meth (by omega) rfl ?_
  refine f_go (pc1 := 2) (lv1 := [(0, .ref a), (1, .ref b)]) (st1 := [.ref b, .ref a]) 2 rfl ?_
  by_cases h1 : a = b
  ·
    refine f_acmp (t := 7) rfl rfl false (by simp [h1]) ?_
    refine f_go (pc1 := 6) (lv1 := [(0, .ref a), (1, .ref b)]) (st1 := [.int 1]) 1 rfl ?_
    rw [show lkt kd hi pt sh a b = true by simp [lkt, h1]]
    exact f_rt rfl rfl
  ·
    refine f_acmp (t := 7) rfl rfl true (by simp [h1]) ?_
    refine f_go (pc1 := 8) (lv1 := [(0, .ref a), (1, .ref b)]) (st1 := [.ref a]) 1 rfl ?_
    refine f_getf rfl rfl (g := 128) rfl c_a a_kind ?_
    refine f_go (pc1 := 12) (lv1 := [(0, .ref a), (1, .ref b)]) (st1 := [.ref b, .int (kd a)]) 1 rfl ?_
    refine f_getf rfl rfl (g := 128) rfl c_b b_kind ?_
    by_cases h2 : kd a = kd b
    ·
      have hu := hu h1 h2
      refine f_icmp (t := 58) rfl rfl false (ic_nen h2) ?_
      refine f_go (pc1 := 19) (lv1 := [(0, .ref a), (1, .ref b)]) (st1 := [.ref a]) 1 rfl ?_
      refine f_getf rfl rfl (g := 128) rfl c_a a_kind ?_
      refine f_go (pc1 := 24) (lv1 := [(0, .ref a), (1, .ref b)]) (st1 := [.int 12, .int (kd a)]) 1 rfl ?_
      by_cases h3 : kd a = 12
      ·
        refine f_icmp (t := 58) rfl rfl true (ic_eq h3) ?_
        refine f_go (pc1 := 59) (lv1 := [(0, .ref a), (1, .ref b)]) (st1 := [.int 0]) 1 rfl ?_
        rw [show lkt kd hi pt sh a b = false by simp [lkt, h1, h3]]
        exact f_rt rfl rfl
      ·
        refine f_icmp (t := 58) rfl rfl false (ic_eqn h3) ?_
        refine f_go (pc1 := 28) (lv1 := [(0, .ref a), (1, .ref b)]) (st1 := [.ref a]) 1 rfl ?_
        refine f_getf rfl rfl (g := 128) rfl c_a a_kind ?_
        refine f_go (pc1 := 33) (lv1 := [(0, .ref a), (1, .ref b)]) (st1 := [.int 13, .int (kd a)]) 1 rfl ?_
        have h13 : ¬ kd a = 13 := by rcases hu with h | h | h | h <;> first | (rw [h]; decide) | (rw [h.1]; decide)
        have h4 : kd a = 3 ∨ kd a = 5 ∨ kd a = 11 := hu.elim Or.inl (fun h => h.elim (fun h => Or.inr (Or.inl h)) (fun h => h.elim (fun h => absurd h h3) (fun h => Or.inr (Or.inr h.1))))
        obtain ⟨a_lo, a_hi, hea⟩ := a_l h4
        obtain ⟨b_lo, b_hi, heb⟩ := b_l (h2 ▸ h4)
        refine f_icmp (t := 58) rfl rfl false (ic_eqn h13) ?_
        refine f_go (pc1 := 37) (lv1 := [(0, .ref a), (1, .ref b)]) (st1 := [.ref a]) 1 rfl ?_
        refine f_getf rfl rfl (g := 132) rfl c_a a_lo ?_
        refine f_go (pc1 := 41) (lv1 := [(0, .ref a), (1, .ref b)]) (st1 := [.ref b, .int 0]) 1 rfl ?_
        refine f_getf rfl rfl (g := 132) rfl c_b b_lo ?_
        refine f_go (pc1 := 48) (lv1 := [(0, .ref a), (1, .ref b)]) (st1 := [.ref a]) 2 rfl ?_
        refine f_getf rfl rfl (g := 133) rfl c_a a_hi ?_
        refine f_go (pc1 := 52) (lv1 := [(0, .ref a), (1, .ref b)]) (st1 := [.ref b, .int (hi a)]) 1 rfl ?_
        refine f_getf rfl rfl (g := 133) rfl c_b b_hi ?_
        by_cases h5 : hi a = hi b
        ·
          refine f_icmp (t := 60) rfl rfl true (ic_eq h5) ?_
          refine f_go (pc1 := 62) (lv1 := [(0, .ref a), (1, .ref b)]) (st1 := [.ref b, .ref a]) 2 rfl ?_
          refine f_st rfl rfl rfl rfl (g_isSameElem (by omega) hea heb) ?_
          by_cases h6 : sh (pt a) = sh (pt b)
          ·
            rw [if_pos h6]
            by_cases h7 : kd a = 11
            ·
              have hnm : nm a ≠ nm b := by
                rcases hu with h | h | h | h
                · rw [h7] at h; exact absurd h (by decide)
                · rw [h7] at h; exact absurd h (by decide)
                · exact absurd h h3
                · exact h.2
              obtain ⟨a_items, c_ia, ia_kind, ia_name⟩ := a_i h7
              obtain ⟨b_items, c_ib, ib_kind, ib_name⟩ := b_i (h2 ▸ h7)
              refine f_go (pc1 := 71) (lv1 := [(0, .ref a), (1, .ref b)]) (st1 := [.ref a]) 2 rfl ?_
              refine f_getf rfl rfl (g := 135) rfl c_a a_items ?_
              refine f_go (pc1 := 76) (lv1 := [(2, .ref (it a)), (0, .ref a), (1, .ref b)]) (st1 := [.ref b]) 2 rfl ?_
              refine f_getf rfl rfl (g := 135) rfl c_b b_items ?_
              refine f_go (pc1 := 89) (lv1 := [(3, .ref (it b)), (2, .ref (it a)), (0, .ref a), (1, .ref b)]) (st1 := [.ref (it a)]) 6 rfl ?_
              refine f_getf rfl rfl (g := 32) rfl c_ia ia_kind ?_
              refine f_go (pc1 := 93) (lv1 := [(3, .ref (it b)), (2, .ref (it a)), (0, .ref a), (1, .ref b)]) (st1 := [.ref (it b), .int 10]) 1 rfl ?_
              refine f_getf rfl rfl (g := 32) rfl c_ib ib_kind ?_
              refine f_go (pc1 := 100) (lv1 := [(3, .ref (it b)), (2, .ref (it a)), (0, .ref a), (1, .ref b)]) (st1 := [.ref (it a)]) 2 rfl ?_
              refine f_getf rfl rfl (g := 32) rfl c_ia ia_kind ?_
              refine f_go (pc1 := 109) (lv1 := [(3, .ref (it b)), (2, .ref (it a)), (0, .ref a), (1, .ref b)]) (st1 := [.ref a]) 3 rfl ?_
              refine f_getf rfl rfl (g := 128) rfl c_a a_kind ?_
              refine f_go (pc1 := 114) (lv1 := [(3, .ref (it b)), (2, .ref (it a)), (0, .ref a), (1, .ref b)]) (st1 := [.int 6, .int (kd a)]) 1 rfl ?_
              refine f_icmp (t := 130) rfl rfl false (ic_eqn (by rw [h7]; decide)) ?_
              refine f_go (pc1 := 118) (lv1 := [(3, .ref (it b)), (2, .ref (it a)), (0, .ref a), (1, .ref b)]) (st1 := [.ref (it a)]) 1 rfl ?_
              refine f_getf rfl rfl (g := 33) rfl c_ia ia_name ?_
              refine f_go (pc1 := 122) (lv1 := [(3, .ref (it b)), (2, .ref (it a)), (0, .ref a), (1, .ref b)]) (st1 := [.ref (it b), .int (nm a)]) 1 rfl ?_
              refine f_getf rfl rfl (g := 33) rfl c_ib ib_name ?_
              refine f_icmp (t := 130) rfl rfl false (ic_eqn hnm) ?_
              refine f_go (pc1 := 129) (lv1 := [(3, .ref (it b)), (2, .ref (it a)), (0, .ref a), (1, .ref b)]) (st1 := [.int 0]) 1 rfl ?_
              rw [show lkt kd hi pt sh a b = false by simp [lkt, h1, h7]]
              exact f_rt rfl rfl
            ·
              have h8 : kd a = 3 ∨ kd a = 5 := h4.elim Or.inl (fun h => h.elim Or.inr (fun h => absurd h h7))
              obtain ⟨a_items, a_raises⟩ := a_p h8
              obtain ⟨b_items, b_raises⟩ := b_p (h2 ▸ h8)
              refine f_go (pc1 := 71) (lv1 := [(0, .ref a), (1, .ref b)]) (st1 := [.ref a]) 2 rfl ?_
              refine f_getf rfl rfl (g := 135) rfl c_a a_items ?_
              refine f_go (pc1 := 76) (lv1 := [(2, .null), (0, .ref a), (1, .ref b)]) (st1 := [.ref b]) 2 rfl ?_
              refine f_getf rfl rfl (g := 135) rfl c_b b_items ?_
              refine f_go (pc1 := 212) (lv1 := [(3, .null), (2, .null), (0, .ref a), (1, .ref b)]) (st1 := [.null, .null]) 9 rfl ?_
              refine f_st rfl rfl rfl rfl (g_hasOverrides0 (by omega)) ?_
              refine f_go (pc1 := 220) (lv1 := [(3, .null), (2, .null), (0, .ref a), (1, .ref b)]) (st1 := [.null, .null]) 3 rfl ?_
              refine f_st rfl rfl rfl rfl (g_hasOverrides0 (by omega)) ?_
              refine f_go (pc1 := 227) (lv1 := [(3, .null), (2, .null), (0, .ref a), (1, .ref b)]) (st1 := [.ref a]) 2 rfl ?_
              refine f_getf rfl rfl (g := 136) rfl c_a a_raises ?_
              refine f_go (pc1 := 231) (lv1 := [(3, .null), (2, .null), (0, .ref a), (1, .ref b)]) (st1 := [.ref b, .null]) 1 rfl ?_
              refine f_getf rfl rfl (g := 136) rfl c_b b_raises ?_
              refine f_st rfl rfl rfl rfl (g_isWithin0 (by omega)) ?_
              refine f_go (pc1 := 241) (lv1 := [(3, .null), (2, .null), (0, .ref a), (1, .ref b)]) (st1 := [.ref b]) 2 rfl ?_
              refine f_getf rfl rfl (g := 136) rfl c_b b_raises ?_
              refine f_go (pc1 := 245) (lv1 := [(3, .null), (2, .null), (0, .ref a), (1, .ref b)]) (st1 := [.ref a, .null]) 1 rfl ?_
              refine f_getf rfl rfl (g := 136) rfl c_a a_raises ?_
              refine f_st rfl rfl rfl rfl (g_isWithin0 (by omega)) ?_
              refine f_go (pc1 := 259) (lv1 := [(3, .null), (2, .null), (0, .ref a), (1, .ref b)]) (st1 := [.int 1]) 3 rfl ?_
              rw [show lkt kd hi pt sh a b = true by rcases h8 with h8 | h8 <;> simp [lkt, h2, h5, h6, h2.symm.trans h8]]
              exact f_rt rfl rfl
          ·
            rw [if_neg h6]
            refine f_go (pc1 := 69) (lv1 := [(0, .ref a), (1, .ref b)]) (st1 := [.int 0]) 2 rfl ?_
            rw [show lkt kd hi pt sh a b = false by simp [lkt, h1, h6]]
            exact f_rt rfl rfl
        ·
          refine f_icmp (t := 60) rfl rfl false (ic_eqn h5) ?_
          refine f_go (pc1 := 59) (lv1 := [(0, .ref a), (1, .ref b)]) (st1 := [.int 0]) 1 rfl ?_
          rw [show lkt kd hi pt sh a b = false by simp [lkt, h1, h5]]
          exact f_rt rfl rfl
    ·
      refine f_icmp (t := 58) rfl rfl true (ic_ne h2) ?_
      refine f_go (pc1 := 59) (lv1 := [(0, .ref a), (1, .ref b)]) (st1 := [.int 0]) 1 rfl ?_
      rw [show lkt kd hi pt sh a b = false by simp [lkt, h1, h2]]
      exact f_rt rfl rfl
