/-! contracts of the reference: rows of names -/
def Ek (μ : MS) (k : Int32) (lo hi : Int) (i : Int32) : Prop := 0 ≤ i.toInt ∧ lo ≤ i.toInt ∧ i.toInt < hi ∧ μ.2.1 20 i.toNatClampNeg = k ∧ (μ.2.1 27 i.toNatClampNeg = -1 ∨ i.toInt < (μ.2.1 27 i.toNatClampNeg).toInt)
/-- nodes of a kind under way: from a to b, b aside -/
def Cq (μ : MS) (k : Int32) (lo lb : Int) : Nat → Int32 → Int32 → Prop
  | 0, a, b => a = b
  | m + 1, a, b => Ek μ k lo lb a ∧ Cq μ k lo lb m (μ.2.1 27 a.toNatClampNeg) b
theorem Ek.up {μ : MS} {k i : Int32} {lo hi lo' hi' : Int} (h : Ek μ k lo hi i) (h1 : lo' ≤ lo) (h2 : hi ≤ hi') : Ek μ k lo' hi' i := ⟨h.1, by have := h.2.1; omega, by have := h.2.2.1; omega, h.2.2.2⟩
theorem Cq.rb {μ ν : MS} {k : Int32} {lo lb n e : Int} (hr : RB e n μ ν) (hn : lb ≤ n) (he : e < lo ∨ lb ≤ e) : ∀ {m : Nat} {a b : Int32}, Cq μ k lo lb m a b → Cq ν k lo lb m a b
  | 0, a, b, h => h
  | m + 1, a, b, hS => by
    obtain ⟨⟨k1, k2, k3, k4, k5⟩, h2⟩ := hS
    have hc := @ic a
    refine ⟨⟨k1, k2, k3, ?_, ?_⟩, ?_⟩
    · rw [hr 20 (by omega) (by omega) _ (by omega) (by omega)]; exact k4
    · rw [hr 27 (by omega) (by omega) _ (by omega) (by omega)]; exact k5
    · rw [hr 27 (by omega) (by omega) _ (by omega) (by omega)]
      exact Cq.rb hr hn he h2
theorem Cq.snoc {μ : MS} {k : Int32} {lo lb hb : Int} (h1 : lb ≤ hb) : ∀ {m : Nat} {a b c : Int32}, Cq μ k lo lb m a b → Ek μ k lo hb b → μ.2.1 27 b.toNatClampNeg = c → Cq μ k lo hb (m + 1) a c
  | 0, a, b, c, hS, hb, hc => by
    cases hS
    exact ⟨hb, hc⟩
  | m + 1, a, b, c, hS, hb, hc => ⟨hS.1.up (Int.le_refl _) h1, Cq.snoc h1 hS.2 hb hc⟩
theorem Cq.done {μ : MS} {k : Int32} {lo lb hb : Int} (h1 : lb ≤ hb) : ∀ {m : Nat} {a b : Int32}, Cq μ k lo lb m a b → Ek μ k lo hb b → μ.2.1 27 b.toNatClampNeg = -1 → Lst (Ek μ k lo hb) (μ.2.1 27) (m + 1) a
  | 0, a, b, hS, hb, hn => by
    cases hS
    exact Or.inr ⟨hb, hn⟩
  | m + 1, a, b, hS, hb, hn => Or.inr ⟨hS.1.up (Int.le_refl _) h1, Cq.done h1 hS.2 hb hn⟩
theorem ND.off {μ : MS} {g t i : Nat} {k a b c d e n x : Int32} (h : ND μ i k a b c d e n) (ht : i ≠ t) : ND (mA1 μ g t x) i k a b c d e n := h.rb (RB.A (e := (t : Int)) (n := (i : Int) + 1) (Or.inr rfl)) (by omega) (by omega)
/-- a row of nodes of a kind is the answer -/
def NR (k : Int32) (μ : MS) (r : Int32) (μ1 : MS) : Prop := PR (-1) 0 0 0 0 μ μ1 ∧ (μ1.1 19).toInt + 2 * (μ.1 32).toInt ≤ (μ.1 19).toInt + 2 * (μ1.1 32).toInt ∧ (μ.1 32).toInt < (μ1.1 32).toInt ∧ r = μ.1 19 ∧ ∃ m, Lst (Ek μ1 k (μ.1 19).toInt (μ1.1 19).toInt) (μ1.2.1 27) m r
theorem Cq.wn {μ : MS} {k : Int32} {lo lb : Int} : ∀ {m : Nat} {a b : Int32}, Cq μ k lo lb m a b → Wn μ lo lb m a b
  | 0, _, _, h => h
  | m + 1, _, _, ⟨h1, h2⟩ => ⟨⟨h1.1, h1.2.1, h1.2.2.1⟩, Cq.wn h2⟩
/-- and what else is known of it -/
def NW (k : Int32) (μ : MS) (r : Int32) (μ1 : MS) : Prop := KR μ1 k (μ.1 19).toInt (μ1.1 19).toInt ∧ ∃ (m : Nat) (y : Int32), Wn μ1 (μ.1 19).toInt y.toInt m r y ∧ ((μ.1 19).toInt ≤ y.toInt ∧ y.toInt < (μ1.1 19).toInt) ∧ μ1.2.1 27 y.toNatClampNeg = -1
/-- all of it: as many nodes as half the tokens, one more counted -/
def NQ (k : Int32) (μ : MS) (r : Int32) (μ1 : MS) : Prop := (NR k μ r μ1 ∧ NW k μ r μ1) ∧ 2 * (μ1.1 19).toInt + (μ.1 32).toInt ≤ 2 * (μ.1 19).toInt + (μ1.1 32).toInt + 1
section PRC
variable {X : ev_X} {W : Nat → Prop} {d : Nat} {P : MP} {μ : MS} {T : MS → Prop}
theorem c_nameRowQ {k : Int32} (hd : 6 ≤ d) (hS : PS μ) (hn : (μ.1 19).toInt ≤ 2 * (μ.1 32).toInt + 30) (hT : ∀ μ1, kf SPA RPA μ μ1 → T μ1) : MC X W true d 304 [.ref P.1, .int k] P μ (fun r μ1 => NQ k μ r μ1) T := by
  have hat := hS.at
  have h0 := hS.2.2.2.2.1
  have hc := @ic (μ.1 19)
  have key : ∀ (j : Nat) (x3 : Int32) (ν : MS), ((μ.1 8).toInt - (ν.1 32).toInt).toNat < j → PR (-1) 0 0 0 0 μ ν → (ν.1 19).toInt + 2 * (μ.1 32).toInt ≤ (μ.1 19).toInt + 2 * (ν.1 32).toInt → (μ.1 32).toInt < (ν.1 32).toInt → (μ.1 19).toInt ≤ x3.toInt → x3.toInt < (ν.1 19).toInt →
      (∃ a b c d e, ND ν x3.toNatClampNeg k a b c d e (-1)) → (∃ m, Cq ν k (μ.1 19).toInt x3.toInt m (μ.1 19) x3) → KR ν k (μ.1 19).toInt (ν.1 19).toInt → 2 * (ν.1 19).toInt + (μ.1 32).toInt ≤ 2 * (μ.1 19).toInt + (ν.1 32).toInt + 1 → ME X W true (d - 1) 304 20 [(0, .ref P.1), (1, .int k), (2, .int (μ.1 19)), (3, .int x3)] [] P ν (fun r μ1 => NQ k μ r μ1) T := by
    intro j
    induction j with
    | zero => intro x3 ν hj; omega
    | succ j ih =>
      intro x3 ν hj p b1 b2 g1 g2 hN hC hK b3
      have hx := @ic x3
      have e8 := eq_i (p.1.1 8 rfl)
      have t8 := p.2.1.2.2.1.2
      refine v_nameRow_20 _ _ _ (MC.mono (c_is (by omega) p.2.1) (fun r1 ν1 h => ?_) (fun _ h => h))
      obtain ⟨rfl, rfl⟩ := h
      refine ⟨fun _ => ?_, fun h => MC.mono (c_next (by omega) p.2.1 (by rw [is_t h]; decide) (fun _ h => hT _ (p.1.tr h))) (fun _ ν2 h => ?_) (fun _ h => h)⟩
      · obtain ⟨a, b, c, d, e, hN⟩ := hN
        obtain ⟨m, hC⟩ := hC
        exact ⟨⟨⟨p, b1, b2, rfl, m + 1, hC.done (by omega) ⟨by omega, g1, g2, hN.1, Or.inl hN.2.2.2.2.2.2⟩ hN.2.2.2.2.2.2⟩, hK, m, x3, hC.wn, ⟨g1, g2⟩, hN.2.2.2.2.2.2⟩, b3⟩
      · obtain ⟨rfl, hS2⟩ := h
        have p2 := p.nx hS2
        have e2 := nx_at p.2.1
        have at2 := p2.2.1.at
        have n2 : ((nxS ν1).1 19).toInt = (ν1.1 19).toInt := rfl
        refine MC.mono (c_node (by omega) p2.2.1 (by omega)) (fun r3 ν3 h => ?_) (fun _ h => h)
        obtain ⟨rfl, q3, n3, a3, s3, nd3⟩ := h
        have a3 := eq_i a3
        have p3 : PR (-1) 0 0 0 0 μ ν3 := p2.tr q3 rfl rfl rfl rfl
        refine MC.mono (c_name (by omega) p3.2.1 (fun _ h => hT _ (p3.1.tr h))) (fun v4 ν4 h => ?_) (fun _ h => h)
        obtain ⟨-, rfl, hS4⟩ := h
        have p4 := p3.nx hS4
        have e4 := nx_at p3.2.1
        have hy := @ic ((nxS ν1).1 19)
        have hlt : (μ.1 19).toInt ≤ (((nxS ν1).1 19).toNatClampNeg : Int) := by omega
        have p5 := p4.A (g := 22) (i := ((nxS ν1).1 19).toNatClampNeg) (x := v4) rfl rfl (Or.inl hlt)
        have p6 := p5.A (g := 27) (i := x3.toNatClampNeg) (x := (nxS ν1).1 19) rfl rfl (Or.inl (by omega))
        refine ⟨p4.mi rfl rfl (by omega) (by omega), p4.mi rfl rfl (by omega) (by omega), ih _ _ ?_ p6 ?_ ?_ (by omega) ?_ ?_ ?_ ?_ ?_⟩
        · show ((μ.1 8).toInt - ((nxS ν3).1 32).toInt).toNat < j; omega
        · show (ν3.1 19).toInt + _ ≤ _ + 2 * ((nxS ν3).1 32).toInt; omega
        · show _ < ((nxS ν3).1 32).toInt; omega
        · show _ < (ν3.1 19).toInt; omega
        · have w := ND.pa (x := v4) (show ND (nxS ν3) ((nxS ν1).1 19).toNatClampNeg k (-1) (-1) (-1) (-1) (-1) (-1) from nd3)
          exact ⟨_, _, _, _, _, ND.off w (by omega)⟩
        · obtain ⟨a, b, c, d', e, hN⟩ := hN
          obtain ⟨m, hC⟩ := hC
          have r3 : RB (-1) (ν1.1 19).toInt ν1 ν3 := q3.2.2.2.2.1
          have c3 : Cq ν3 k (μ.1 19).toInt x3.toInt m (μ.1 19) x3 := hC.rb r3 (by omega) (by omega)
          have c5 : Cq (mA1 (mA1 (nxS ν3) 22 ((nxS ν1).1 19).toNatClampNeg v4) 27 x3.toNatClampNeg ((nxS ν1).1 19)) k (μ.1 19).toInt x3.toInt m (μ.1 19) x3 := Cq.rb (μ := ν3) (e := -1) (n := x3.toInt) (RB.tr (show RB (-1) x3.toInt ν3 (nxS ν3) from RB.S) (RB.tr (RB.A (Or.inl (by omega))) (RB.A (Or.inl (by omega))))) (Int.le_refl _) (by omega) c3
          refine ⟨m + 1, Cq.snoc (by omega) c5 ⟨by omega, g1, by omega, ?_, Or.inr ?_⟩ upd_at⟩
          · show ν3.2.1 20 x3.toNatClampNeg = k
            rw [r3 20 (by omega) (by omega) _ (by omega) (by omega)]
            exact hN.1
          · show _ < (upd (ν3.2.1 27) x3.toNatClampNeg ((nxS ν1).1 19) x3.toNatClampNeg).toInt
            rw [upd_at]; omega
        · have hK3 : KR ν3 k (μ.1 19).toInt (ν3.1 19).toInt := KR.one (hK.rb (e := -1) (show RB (-1) (ν1.1 19).toInt ν1 ν3 from RB.tr (show RB (-1) _ ν1 (nxS ν1) from RB.S) q3.2.2.2.2.1) (Int.le_refl _) (Or.inl (by omega))) nd3 (by omega) (by omega)
          have e20 : (mA1 (mA1 (nxS ν3) 22 ((nxS ν1).1 19).toNatClampNeg v4) 27 x3.toNatClampNeg ((nxS ν1).1 19)).2.1 20 = ν3.2.1 20 := (row_off rfl).trans (row_off rfl)
          intro j h1 h2
          rw [e20]
          exact hK3 j h1 h2
        · show 2 * (ν3.1 19).toInt + _ ≤ _ + ((nxS ν3).1 32).toInt + 1; omega
  refine me_meth (by omega) rfl (v_nameRow_0 _ (MC.mono (c_node (by omega) hS (by omega)) (fun q μ1 h => ?_) (fun _ h => h)))
  obtain ⟨rfl, p1, n1, a1, s1, nd1⟩ := h
  have a1 := eq_i a1
  refine MC.mono (c_name (by omega) p1.2.1 (fun _ h => hT _ (p1.1.tr h))) (fun v μ2 h => ?_) (fun _ h => h)
  obtain ⟨-, rfl, hS2⟩ := h
  have p2 := p1.nx hS2
  have e2 := nx_at p1.2.1
  have p3 := p2.A (g := 22) (i := (μ.1 19).toNatClampNeg) (x := v) rfl rfl (Or.inl (by omega))
  have nd3 := ND.pa (x := v) (show ND (nxS μ1) (μ.1 19).toNatClampNeg k (-1) (-1) (-1) (-1) (-1) (-1) from nd1)
  exact ⟨p2.mi rfl rfl h0 (by omega), key _ _ _ (Nat.lt_succ_self _) p3 (by show (μ1.1 19).toInt + _ ≤ _ + 2 * ((nxS μ1).1 32).toInt; omega) (by show _ < ((nxS μ1).1 32).toInt; omega) (Int.le_refl _) (by show _ < (μ1.1 19).toInt; omega) ⟨_, _, _, _, _, nd3⟩ ⟨0, rfl⟩ (KR.one (b := (μ.1 19).toInt) (fun j h1 h2 => by omega) nd3 (by omega) (by show (μ1.1 19).toInt = _; omega)) (by show 2 * (μ1.1 19).toInt + _ ≤ _ + ((nxS μ1).1 32).toInt + 1; omega)⟩
theorem c_nameRow {k : Int32} (hd : 6 ≤ d) (hS : PS μ) (hn : (μ.1 19).toInt ≤ 2 * (μ.1 32).toInt + 30) (hT : ∀ μ1, kf SPA RPA μ μ1 → T μ1) : MC X W true d 304 [.ref P.1, .int k] P μ (fun r μ1 => NR k μ r μ1 ∧ NW k μ r μ1) T := MC.mono (c_nameRowQ hd hS hn hT) (fun _ _ h => h.1) (fun _ h => h)
end PRC
