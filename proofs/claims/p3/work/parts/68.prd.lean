/-! contracts of the reference: lists of trees -/
/-- a list under way, from its first to its last node, since a count -/
def LI (s h : Nat) (n0 : Int) (ν : MS) (a b : Int32) : Prop := ∃ (m : Nat) (lb : Int), n0 ≤ lb ∧ lb ≤ (ν.1 19).toInt ∧ Sg ν h s n0 lb m a b ∧ G ν h (bt lb (ν.1 19).toInt) s b ∧ ν.2.1 27 b.toNatClampNeg = -1
section LIS
variable {s h : Nat} {n0 : Int} {μ ν ν1 : MS} {a b r : Int32}
theorem LI.in (hL : LI s h n0 ν a b) : 0 ≤ b.toInt ∧ n0 ≤ b.toInt ∧ b.toInt < (ν.1 19).toInt := by
  obtain ⟨m, lb, h1, h2, h3, h4, h5⟩ := hL
  obtain ⟨k1, k2, k3⟩ := h4.in
  have hc := @ic b
  exact ⟨k1, by omega, by omega⟩
theorem LI.one (hG : G ν h (bt n0 (ν.1 19).toInt) s r) (hn : n0 ≤ (ν.1 19).toInt) (hr : ν.2.1 27 r.toNatClampNeg = -1) : LI s h n0 ν r r := ⟨0, n0, Int.le_refl _, hn, rfl, hG, hr⟩
theorem LI.rb {e : Int} (hL : LI s h n0 ν a b) (hr : RB e (ν.1 19).toInt ν ν1) (hn : (ν.1 19).toInt ≤ (ν1.1 19).toInt) (he : e < n0 ∨ (ν.1 19).toInt ≤ e) : LI s h n0 ν1 a b := by
  obtain ⟨k1, k2, k3⟩ := hL.in
  obtain ⟨m, lb, h1, h2, h3, h4, h5⟩ := hL
  have hc := @ic b
  exact ⟨m, lb, h1, by omega, h3.rb hr h2 (by omega), (h4.rb hr (Int.le_refl _) (by omega)).up (Nat.le_refl _) (Int.le_refl _) hn, by rw [hr 27 (by omega) (by omega) _ (by omega) (by omega)]; exact h5⟩
/-- one more, linked behind the last -/
theorem LI.snoc (hL : LI s h n0 ν a b) (hr : RB (-1) (ν.1 19).toInt ν ν1) (hn : (ν.1 19).toInt ≤ (ν1.1 19).toInt) (h0 : 0 ≤ n0) (hG : G ν1 h (bt (ν.1 19).toInt (ν1.1 19).toInt) s r) (hl : ν1.2.1 27 r.toNatClampNeg = -1) : LI s h n0 (mA1 ν1 27 b.toNatClampNeg r) a r := by
  obtain ⟨k1, k2, k3⟩ := hL.in
  obtain ⟨m, lb, h1, h2, h3, h4, h5⟩ := hL
  obtain ⟨q1, q2, q3⟩ := hG.in
  obtain ⟨w1, w2, w3⟩ := h4.in
  have hc := @ic b
  have hd := @ic r
  have g4 : G ν1 h (bt lb (ν.1 19).toInt) s b := h4.rb hr (Int.le_refl _) (by omega)
  refine ⟨m + 1, (ν.1 19).toInt, by omega, by show _ ≤ (ν1.1 19).toInt; omega, Sg.snoc h2 ((h3.rb hr h2 (by omega)).put (Or.inr (by omega))) (G.link g4) h1 upd_at, ?_, ?_⟩
  · show G (mA1 ν1 27 b.toNatClampNeg r) h (bt (ν.1 19).toInt (ν1.1 19).toInt) s r
    exact hG.put (Or.inl (by omega))
  · show upd (ν1.2.1 27) b.toNatClampNeg r r.toNatClampNeg = -1
    rw [upd_off (by omega)]; exact hl
theorem LI.done (hL : LI s h n0 ν a b) : ∃ m, Lst (G ν h (bt n0 (ν.1 19).toInt) s) (ν.2.1 27) m a := by
  obtain ⟨m, lb, h1, h2, h3, h4, h5⟩ := hL
  exact ⟨m + 1, h3.done h2 h1 h4 h5⟩
end LIS
/-- a list is the answer -/
def PL (s h : Nat) (μ : MS) (r : Int32) (μ1 : MS) : Prop := PR (-1) 0 0 0 0 μ μ1 ∧ (μ1.1 19).toInt + 2 * (μ.1 32).toInt ≤ (μ.1 19).toInt + 2 * (μ1.1 32).toInt ∧ ∃ m, Lst (G μ1 h (bt (μ.1 19).toInt (μ1.1 19).toInt) s) (μ1.2.1 27) m r
section PRD
variable {X : ev_X} {W : Nat → Prop} {d : Nat} {P : MP} {μ : MS} {T : MS → Prop}
theorem c_qnames (hd : 7 ≤ d) (hS : PS μ) (hn : (μ.1 19).toInt ≤ 2 * (μ.1 32).toInt + 30) (hT : ∀ μ1, kf SPA RPA μ μ1 → T μ1) : MC X W true d 310 [.ref P.1] P μ (fun r μ1 => PL 7 1 μ r μ1 ∧ NS μ1 (μ.1 19).toInt (μ1.1 19).toInt) T := by
  have h0 := hS.2.2.2.2.1
  have key : ∀ (j : Nat) (x1 x2 : Int32) (ν : MS), ((μ.1 8).toInt - (ν.1 32).toInt).toNat < j → PR (-1) 0 0 0 0 μ ν → (ν.1 19).toInt + 2 * (μ.1 32).toInt ≤ (μ.1 19).toInt + 2 * (ν.1 32).toInt → LI 7 1 (μ.1 19).toInt ν x1 x2 → NS ν (μ.1 19).toInt (ν.1 19).toInt →
      ME X W true (d - 1) 310 7 [(0, .ref P.1), (1, .int x1), (2, .int x2)] [] P ν (fun r μ1 => PL 7 1 μ r μ1 ∧ NS μ1 (μ.1 19).toInt (μ1.1 19).toInt) T := by
    intro j
    induction j with
    | zero => intro x1 x2 ν hj; omega
    | succ j ih =>
      intro x1 x2 ν hj p b1 hL hNS
      have e8 := eq_i (p.1.1 8 rfl)
      have t8 := p.2.1.2.2.1.2
      refine v_qnames_7 _ _ (MC.mono (c_is (by omega) p.2.1) (fun r1 ν1 h => ?_) (fun _ h => h))
      obtain ⟨rfl, rfl⟩ := h
      refine ⟨fun _ => ⟨⟨p, b1, hL.done⟩, hNS⟩, fun h => MC.mono (c_next (by omega) p.2.1 (by rw [is_t h]; decide) (fun _ h => hT _ (p.1.tr h))) (fun _ ν2 h => ?_) (fun _ h => h)⟩
      obtain ⟨rfl, hS2⟩ := h
      have p2 := p.nx hS2
      have e2 := nx_at p.2.1
      have n2 : ((nxS ν1).1 19).toInt = (ν1.1 19).toInt := rfl
      refine MC.mono (c_qname (by omega) p2.2.1 (by omega) (fun _ h => hT _ (p2.1.tr h))) (fun r3 ν3 h => ?_) (fun _ h => h)
      obtain ⟨⟨q3, q4, q5, q6, q7⟩, -, q8⟩ := h
      have p3 : PR (-1) 0 0 0 0 μ ν3 := p2.tr q3 rfl rfl rfl rfl
      obtain ⟨w1, w2, w3⟩ := hL.in
      have at3 := p3.2.1.at
      have hx := @ic x2
      have m3 := q3.2.2.2.1
      have p4 := p3.A (g := 27) (i := x2.toNatClampNeg) (x := r3) rfl rfl (Or.inl (by omega))
      have hL2 : LI 7 1 (μ.1 19).toInt (nxS ν1) x1 x2 := hL.rb (e := -1) (show RB (-1) _ ν1 (nxS ν1) from RB.S) (Int.le_refl _) (by omega)
      refine ⟨p3.mi rfl rfl (by omega) (by omega), ih _ _ _ ?_ p4 ?_ (hL2.snoc q3.2.2.2.2.1 m3 h0 q6 q7) ?_⟩
      · show ((μ.1 8).toInt - (ν3.1 32).toInt).toNat < j; omega
      · show (ν3.1 19).toInt + _ ≤ _ + 2 * (ν3.1 32).toInt; omega
      · have n3 : NS ν3 (μ.1 19).toInt (ν3.1 19).toInt := NS.cat (hNS.rb (e := -1) (show RB (-1) (ν1.1 19).toInt ν1 ν3 from RB.tr (show RB (-1) _ ν1 (nxS ν1) from RB.S) q3.2.2.2.2.1) (Int.le_refl _) (Or.inl (by omega))) q8
        intro j h1 h2
        rw [row_off rfl]
        exact n3 j h1 h2
  refine me_meth (by omega) rfl (v_qnames_0 (MC.mono (c_qname (by omega) hS (by omega) hT) (fun r1 ν h => ?_) (fun _ h => h)))
  obtain ⟨⟨q3, q4, q5, q6, q7⟩, -, q8⟩ := h
  exact key _ _ _ _ (Nat.lt_succ_self _) q3 q4 (LI.one q6 q3.2.2.2.1 q7) q8
end PRD
