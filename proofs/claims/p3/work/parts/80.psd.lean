/-! contracts of the reference: expressions, what joins operands -/
def XN (dn : Int) (s h : Nat) (μ : MS) (r : Int32) (μ1 : MS) : Prop := TR (-1) 0 0 0 0 (-dn) μ μ1 ∧ (μ.1 32).toInt < (μ1.1 32).toInt ∧ G μ1 h (bt (μ.1 19).toInt (μ1.1 19).toInt) s r ∧ μ1.2.1 27 r.toNatClampNeg = -1 ∧ CO μ1 (μ.1 19).toInt (μ1.1 19).toInt r
def XC (X : ev_X) (W : Nat → Prop) (P : MP) (k : Nat) (as : List Value) (s : Nat) (rd rh dn up : Int) (d : Nat) : Prop := ∀ (μ : MS) (T : MS → Prop) (h : Nat), PS μ → psX μ + rd ≤ d → hiX μ + rh ≤ h → (μ.1 19).toInt ≤ 2 * (μ.1 32).toInt + 30 + up → (∀ μ1, kf SPA RPA μ μ1 → T μ1) → MC X W true d k (.ref P.1 :: as) P μ (fun r μ1 => XN dn s h μ r μ1) T
theorem XN.up {dn : Int} {s h h' : Nat} {μ μ1 : MS} {r : Int32} (hX : XN dn s h μ r μ1) (hh : h ≤ h') : XN dn s h' μ r μ1 := ⟨hX.1, hX.2.1, hX.2.2.1.up hh (Int.le_refl _) (Int.le_refl _), hX.2.2.2⟩
theorem XN.dn {dn dn' : Int} {s h : Nat} {μ μ1 : MS} {r : Int32} (hX : XN dn s h μ r μ1) (hh : dn' ≤ dn) : XN dn' s h μ r μ1 := ⟨⟨hX.1.1, by have := hX.1.2; omega⟩, hX.2⟩
/-- which tokens join operands of a level -/
def jnB (lv s : Int32) : Bool := if lv = 0 then decide (s = 36) else if lv = 1 then decide (s = 0) else if lv = 2 then decide (s = 118) || decide (s = 119) else decide (s = 120) || (decide (s = 6) || decide (s = 27))
theorem jnB_e {lv s : Int32} (h : jnB lv s = true) : ¬ s = 203 := fun e => by
  subst e
  unfold jnB at h
  split at h
  · exact absurd h (by decide)
  split at h
  · exact absurd h (by decide)
  split at h
  · exact absurd h (by decide)
  · exact absurd h (by decide)
theorem TR.s38 {ν : MS} (hS : PS ν) {x : Int32} {n : Int} (hx : x.toInt = (ν.1 38).toInt + n) (h0 : 0 ≤ x.toInt) (h1 : x.toInt ≤ 20) : TR (-1) 0 n 0 0 0 ν (mS1 ν 38 x) := by
  obtain ⟨k1, k2, k3, k4, k5, k6, k7, k8, k9⟩ := hS
  exact ⟨⟨kf.rf.S rfl, ⟨k1, k2.kf (s := [38]) (r := []) (kf.rf.S rfl) rfl rfl, k3, k4, k5, k6, ⟨h0, h1⟩, k8, k9⟩, Int.le_refl _, Int.le_refl _, RB.S, (Int.add_zero _).symm, hx, (Int.add_zero _).symm, (Int.add_zero _).symm, NC.rf⟩, by show (ν.1 19).toInt + _ ≤ _ + 2 * (ν.1 32).toInt + 0; omega⟩
theorem TR.s40 {ν : MS} (hS : PS ν) {x : Int32} {n : Int} (hx : x.toInt = (ν.1 40).toInt + n) (h0 : 0 ≤ x.toInt) (h1 : x.toInt ≤ 20) : TR (-1) 0 0 0 n 0 ν (mS1 ν 40 x) := by
  obtain ⟨k1, k2, k3, k4, k5, k6, k7, k8, k9⟩ := hS
  exact ⟨⟨kf.rf.S rfl, ⟨k1, k2.kf (s := [40]) (r := []) (kf.rf.S rfl) rfl rfl, k3, k4, k5, k6, k7, k8, h0, h1⟩, Int.le_refl _, Int.le_refl _, RB.S, (Int.add_zero _).symm, (Int.add_zero _).symm, (Int.add_zero _).symm, hx, NC.rf⟩, by show (ν.1 19).toInt + _ ≤ _ + 2 * (ν.1 32).toInt + 0; omega⟩
theorem TR.s34 {ν : MS} (hS : PS ν) {x : Int32} : TR (-1) 0 0 0 0 0 ν (mS1 ν 34 x) := ⟨(PR.rf hS).s34, by show (ν.1 19).toInt + _ ≤ _ + 2 * (ν.1 32).toInt + 0; omega⟩
section PSD
variable {X : ev_X} {W : Nat → Prop} {d : Nat} {P : MP}
theorem c_joins {μ : MS} {T : MS → Prop} {lv : Int32} (hd : 2 ≤ d) (hS : PS μ) : MC X W true d 333 [.ref P.1, .int lv] P μ (fun r μ1 => r = bI (jnB lv (srt μ)) ∧ μ1 = μ) T := by
  refine me_meth (by omega) rfl (v_joins_0 lv ⟨fun h0 => ⟨fun h1 => ⟨fun h2 => ?_, fun h2 => ?_⟩, fun h1 => ?_⟩, fun h0 => ?_⟩)
  · refine MC.mono (c_is (by omega) hS) (fun r ν h => ?_) (fun _ h => h)
    obtain ⟨rfl, rfl⟩ := h
    refine ⟨fun h => ⟨?_, rfl⟩, fun ha => MC.mono (c_is (by omega) hS) (fun r ν h => ?_) (fun _ h => h)⟩
    · unfold jnB; rw [if_neg h0, if_neg h1, if_neg h2, is_t h]; rfl
    obtain ⟨rfl, rfl⟩ := h
    refine ⟨fun h => ⟨?_, rfl⟩, fun hb => MC.mono (c_is (by omega) hS) (fun r ν h => ?_) (fun _ h => h)⟩
    · unfold jnB; rw [if_neg h0, if_neg h1, if_neg h2, is_t h]; rfl
    obtain ⟨rfl, rfl⟩ := h
    refine ⟨fun hc => ⟨?_, rfl⟩, fun h => ⟨?_, rfl⟩⟩
    · unfold jnB; rw [if_neg h0, if_neg h1, if_neg h2, decide_eq_false (is_f ha), decide_eq_false (is_f hb), decide_eq_false (is_f hc)]; rfl
    · unfold jnB; rw [if_neg h0, if_neg h1, if_neg h2, is_t h]; rfl
  · refine MC.mono (c_is (by omega) hS) (fun r ν h => ?_) (fun _ h => h)
    obtain ⟨rfl, rfl⟩ := h
    refine ⟨fun h => ⟨?_, rfl⟩, fun ha => MC.mono (c_is (by omega) hS) (fun r ν h => ?_) (fun _ h => h)⟩
    · unfold jnB; rw [if_neg h0, if_neg h1, if_pos h2, is_t h]; rfl
    obtain ⟨rfl, rfl⟩ := h
    refine ⟨fun hc => ⟨?_, rfl⟩, fun h => ⟨?_, rfl⟩⟩
    · unfold jnB; rw [if_neg h0, if_neg h1, if_pos h2, decide_eq_false (is_f ha), decide_eq_false (is_f hc)]; rfl
    · unfold jnB; rw [if_neg h0, if_neg h1, if_pos h2, is_t h]; rfl
  · refine MC.mono (c_is (by omega) hS) (fun r ν h => ?_) (fun _ h => h)
    obtain ⟨rfl, rfl⟩ := h
    exact ⟨bI_01 _, by unfold jnB; rw [if_neg h0, if_pos h1], rfl⟩
  · refine MC.mono (c_is (by omega) hS) (fun r ν h => ?_) (fun _ h => h)
    obtain ⟨rfl, rfl⟩ := h
    exact ⟨bI_01 _, by unfold jnB; rw [if_pos h0], rfl⟩
theorem st_opd0 (hC : XC X W P 335 [.int 1] 1 17 10 0 0 d) : XC X W P 334 [.int 0] 1 18 10 0 0 (d + 1) := fun μ T h hS hd hh hn hT => by
  have hp := px0 hS
  exact me_meth (by omega) rfl (v_operand_0 _ ⟨fun h => absurd rfl h, fun _ => hC μ T h hS (by omega) hh hn hT⟩)
theorem st_opd1 (hC : XC X W P 336 [] 1 15 8 0 0 d) : XC X W P 334 [.int 1] 1 16 8 0 0 (d + 1) := fun μ T h hS hd hh hn hT => by
  have hp := px0 hS
  exact me_meth (by omega) rfl (v_operand_0 _ ⟨fun _ => ⟨fun h => absurd rfl h, fun _ => hC μ T h hS (by omega) hh hn hT⟩, fun h => absurd h (by decide)⟩)
theorem st_opd2 (hC : XC X W P 335 [.int 3] 1 11 5 0 0 d) : XC X W P 334 [.int 2] 1 12 5 0 0 (d + 1) := fun μ T h hS hd hh hn hT => by
  have hp := px0 hS
  exact me_meth (by omega) rfl (v_operand_0 _ ⟨fun _ => ⟨fun _ => ⟨fun h => absurd rfl h, fun _ => hC μ T h hS (by omega) hh hn hT⟩, fun h => absurd h (by decide)⟩, fun h => absurd h (by decide)⟩)
theorem st_opd3 (hC : XC X W P 338 [] 1 9 3 0 0 d) : XC X W P 334 [.int 3] 1 10 3 0 0 (d + 1) := fun μ T h hS hd hh hn hT => by
  have hp := px0 hS
  exact me_meth (by omega) rfl (v_operand_0 _ ⟨fun _ => ⟨fun _ => ⟨fun _ => hC μ T h hS (by omega) hh hn hT, fun h => absurd h (by decide)⟩, fun h => absurd h (by decide)⟩, fun h => absurd h (by decide)⟩)
theorem st_chain {lv : Int32} {rd rh rd' rh' : Int} (hrd : 10 ≤ rd) (hrh : 3 ≤ rh) (er1 : rd = rd' + 1) (er2 : rh = rh' + 2) (hO : XC X W P 334 [.int lv] 1 rd' rh' 0 0 d) : XC X W P 335 [.int lv] 1 rd rh 0 0 (d + 1) := fun μ T h9 hS hd hh hn hT => by
  have hp := px0 hS
  have h0 := hS.2.2.2.2.1
  obtain ⟨h, rfl⟩ : ∃ h, h9 = h + 2 := ⟨h9 - 2, by omega⟩
  refine me_meth (by omega) rfl (v_chain_0 _ (MC.mono (hO μ T h hS (by omega) (by omega) (by omega) hT) (fun r1 ν1 h1 => ?_) (fun _ h => h)))
  obtain ⟨w1, w2, w3, w4, wc⟩ := h1
  have u1 := w1.2
  have at1 := w1.ps.at
  have l1 := w1.l19
  refine MC.mono (c_joins (by omega) w1.ps) (fun r2 ν2 h2 => ?_) (fun _ h => h)
  obtain ⟨rfl, rfl⟩ := h2
  refine ⟨fun hj => ?_, fun _ => ⟨w1, w2, w3.up (by omega) (Int.le_refl _) (Int.le_refl _), w4, wc⟩⟩
  have hj := bI_t hj
  refine MC.mono (t_node (by omega) w1.ps (by omega)) (fun c ν3 h3 => ?_) (fun _ h => h)
  obtain ⟨q1, ⟨q2, q2'⟩, q3, q4, q5, q6⟩ := h3
  have w5 : TR (-1) 0 0 0 0 1 μ ν3 := w1.tr q1 (Or.inl (by decide)) rfl rfl rfl rfl (by omega)
  have hcc := @ic c
  have key : ∀ (j : Nat) (f x4 : Int32) (ν : MS), ((μ.1 8).toInt - (ν.1 32).toInt).toNat < j → TR (-1) 0 0 0 0 1 μ ν → (x4 = -1 → jnB lv (srt ν) = true) → (¬ x4 = -1 → (ν.1 19).toInt + 2 * (μ.1 32).toInt ≤ (μ.1 19).toInt + 2 * (ν.1 32).toInt) → (μ.1 32).toInt < (ν.1 32).toInt → c.toInt < (ν.1 19).toInt → ND ν c.toNatClampNeg 82 r1 f (-1) (-1) (-1) (-1) → G ν h (bt (μ.1 19).toInt c.toInt) 1 r1 → OL 18 (h + 1) (c.toInt + 1) ν f x4 → CO ν (μ.1 19).toInt c.toInt r1 → OC ν (c.toInt + 1) (ν.1 19).toInt f x4 → ν.2.1 27 r1.toNatClampNeg = -1 →
      ME X W true d 335 28 [(0, .ref P.1), (1, .int lv), (2, .int r1), (3, .int c), (4, .int x4)] [] P ν (fun r μ1 => XN 0 1 (h + 2) μ r μ1) T := by
    intro j
    induction j with
    | zero => intro f x4 ν hj; omega
    | succ j ih =>
      intro f x4 ν hj p hx hb ha hlt hN hG hL hA hB hO1
      have e8 := eq_i (p.1.1.1 8 rfl)
      have t8 := p.ps.2.2.1.2
      have at0 := p.ps.at
      have u0 := p.2
      refine v_chain_28 _ _ _ _ (MC.mono (c_joins (by omega) p.ps) (fun r5 ν5 h5 => ?_) (fun _ h => h))
      obtain ⟨rfl, rfl⟩ := h5
      refine ⟨fun h6 => ?_, fun h6 => ⟨MI.of (p.ps.1.g rfl rfl : _ = 6002) at0.1 at0.2, MC.mono (t_node (by omega) p.ps (by omega)) (fun q ν6 h7 => ?_) (fun _ h => h)⟩⟩
      · have h4 : ¬ x4 = -1 := fun e => by rw [hx e] at h6; exact absurd h6 (by decide)
        rcases hL.sg with ⟨-, e⟩ | ⟨s1, s2⟩
        · exact absurd e h4
        refine ⟨⟨p.1, by have := hb h4; omega⟩, ha, G.mk q2' (by omega) hlt hN (by decide) ?_ (hL.kid4 q2' (by omega) (by omega) s2) True.intro True.intro True.intro, hN.2.2.2.2.2.2, CO.mid q2' (LCO.of hG.in.1 hA) (fun h => Par.fa hN (by decide) h) (CVs.one hB.l) ⟨fun h => Par.fb hN (by decide) h, True.intro⟩ (by omega) hlt⟩
        exact (Kd.of (ν := ν5) (i := c) hG (Int.le_refl _) (by omega) q2' (Or.inr (Int.le_refl _)) hO1).up (Nat.le_succ _)
      · obtain ⟨k1, ⟨k2, k2'⟩, k3, k4, k5, k6⟩ := h7
        have hj2 := bI_t h6
        have hcq := @ic q
        have p6 : TR (-1) 0 0 0 0 2 μ ν6 := p.tr k1 (Or.inl (by decide)) rfl rfl rfl rfl (by omega)
        refine MC.mono (t_next (by omega) p6.ps (by rw [k5]; exact jnB_e hj2) (fun _ h => hT _ (p6.1.1.tr h))) (fun _ ν7 h7 => ?_) (fun _ h => h)
        obtain ⟨m1, m2, m3⟩ := h7
        have p7 : TR (-1) 0 0 0 0 0 μ ν7 := p6.tr m1 (Or.inl (by decide)) rfl rfl rfl rfl (by omega)
        have u7 := p7.2
        have x7 := p7.px
        refine MC.mono (hO ν7 T h p7.ps (by omega) (by omega) (by omega) (fun _ h => hT _ (p7.1.1.tr h))) (fun r8 ν8 h8 => ?_) (fun _ h => h)
        obtain ⟨v1, v2, v3, v4, vc⟩ := h8
        have p8 : TR (-1) 0 0 0 0 0 μ ν8 := p7.tr v1 (Or.inl (by decide)) rfl rfl rfl rfl (by omega)
        have at8 := p8.ps.at
        have u8 := p8.2
        have l8 := v1.l19
        have g1 : TR q.toInt 0 0 0 0 0 ν8 (mA1 ν8 23 q.toNatClampNeg r8) := TR.put p8.ps k2' rfl rfl
        have p9 : TR (-1) 0 0 0 0 0 μ (mA1 ν8 23 q.toNatClampNeg r8) := p8.tr g1 (Or.inr (by omega)) rfl rfl rfl rfl (by omega)
        have kk : TR (-1) 0 0 0 0 0 ν5 (mA1 ν8 23 q.toNatClampNeg r8) := ((k1.tr m1 (Or.inl (by decide)) rfl rfl rfl rfl (Int.le_refl _)).tr v1 (Or.inl (by decide)) rfl rfl rfl rfl (Int.le_refl _)).tr g1 (Or.inr (by omega)) rfl rfl rfl rfl (by omega)
        have nd8 := ((k6.tr m1 (by omega) (by omega)).tr v1 (by omega) (by omega)).pb (x := r8)
        have e19 : ((mA1 ν8 23 q.toNatClampNeg r8).1 19).toInt = (ν8.1 19).toInt := rfl
        have e32 : ((mA1 ν8 23 q.toNatClampNeg r8).1 32).toInt = (ν8.1 32).toInt := rfl
        have g8 : G (mA1 ν8 23 q.toNatClampNeg r8) h (bt (ν7.1 19).toInt (ν8.1 19).toInt) 1 r8 := v3.put (Or.inl (by omega))
        have hl8 : (mA1 ν8 23 q.toNatClampNeg r8).2.1 27 r8.toNatClampNeg = -1 := by rw [row_off rfl]; exact v4
        obtain ⟨i1', i2', i3'⟩ := hG.in
        have hc1 := @ic r1
        have hl1 : (mA1 ν8 23 q.toNatClampNeg r8).2.1 27 r1.toNatClampNeg = -1 := by rw [kk.rb 27 (by omega) (by omega) _ (by omega) (by omega)]; exact hO1
        have mi1 : ∀ {i : Int32} {g : Nat}, rk g = true → rlen g = 16000 → 0 ≤ i.toInt → i.toInt < (ν8.1 19).toInt → MI i (ν8.2.2 g) := fun hg hr z1 z2 => TR.mi p8.ps hg hr z1 (by omega)
        refine ⟨mi1 rfl rfl k2' (by omega), ?_⟩
        have cv9 : CVs (mA1 ν8 23 q.toNatClampNeg r8) (q.toInt + 1) ((mA1 ν8 23 q.toNatClampNeg r8).1 19).toInt [r8] := ((CVs.one (LCO.of v3.in.1 vc)).at (by omega)).rb g1.rb (Int.le_refl _) (Or.inl (by omega))
        have np : ∀ {x : Int32}, 0 ≤ x.toInt → x = r8 → Par (mA1 ν8 23 q.toNatClampNeg r8) q.toNatClampNeg x.toNatClampNeg := fun h e => by subst e; exact Par.fb nd8 (by decide) h
        generalize mA1 ν8 23 q.toNatClampNeg r8 = ν9 at *
        have eP : G ν9 (h + 1) (bt (ν5.1 19).toInt (ν9.1 19).toInt) 18 q := G.mk k2' (by omega) (by omega) nd8 (by decide) True.intro (Kd.of (ν := ν9) (i := q) (lo' := (ν5.1 19).toInt) g8 (by omega) (by omega) k2' (Or.inl (by omega)) hl8) True.intro True.intro True.intro
        have hN9 := hN.tr kk (by omega) (by omega)
        have hG9 := hG.tr kk (by omega) (Or.inl (by omega))
        have hL9 := hL.tr kk (Or.inl (by omega))
        have eC : CO ν9 (ν5.1 19).toInt (ν9.1 19).toInt q := CO.fin' (by omega) cv9 k2' ⟨fun h => np h rfl, True.intro⟩ (by omega)
        have hA9 := hA.rb kk.rb (by omega) (Or.inl (by omega))
        have hB9 := hB.rb kk.rb (Int.le_refl _) (Or.inl (by omega))
        have hq : ¬ q = -1 := fun e => by rw [e] at k2'; exact absurd k2' (by decide)
        refine ⟨fun hx4 => ?_, fun hx4 => ?_⟩
        · obtain ⟨s1, s2, s3⟩ := hL.in hx4
          have hc4 := @ic x4
          have g2 : TR x4.toInt 0 0 0 0 0 ν9 (mA1 ν9 27 x4.toNatClampNeg q) := TR.put p9.ps hx4 rfl rfl
          exact ⟨mi1 rfl rfl hx4 (by omega), ih f q _ (by show ((μ.1 8).toInt - (ν9.1 32).toInt).toNat < j; omega) (p9.tr g2 (Or.inr (by omega)) rfl rfl rfl rfl (by omega)) (fun e => absurd e hq) (fun _ => by show (ν9.1 19).toInt + _ ≤ _ + 2 * (ν9.1 32).toInt; omega) (by show _ < (ν9.1 32).toInt; omega) (by show _ < (ν9.1 19).toInt; omega) (hN9.off (by omega)) (hG9.put (Or.inr (by omega))) (hL.add hx4 kk (by omega) eP nd8.2.2.2.2.2.2) (hA9.rb (e := x4.toInt) (n := c.toInt) (RB.A (Or.inr (by omega))) (Int.le_refl _) (Or.inr (by omega))) (hB9.add hx4 (by omega) s3 s1 eC k2' kk.l19 (hL9.nn hx4)) (by show upd (ν9.2.1 27) x4.toNatClampNeg q r1.toNatClampNeg = -1; rw [upd_off (by omega)]; exact hl1)⟩
        · have h1 : f = -1 ∧ x4 = -1 := by
            rcases hL.sg with s | ⟨-, s⟩
            · exact s
            · omega
          have g2 : TR c.toInt 0 0 0 0 0 ν9 (mA1 ν9 23 c.toNatClampNeg q) := TR.put p9.ps q2' rfl rfl
          refine ⟨mi1 rfl rfl q2' (by omega), ih q q _ (by show ((μ.1 8).toInt - (ν9.1 32).toInt).toNat < j; omega) (p9.tr g2 (Or.inr (by omega)) rfl rfl rfl rfl (by omega)) (fun e => absurd e hq) (fun _ => by show (ν9.1 19).toInt + _ ≤ _ + 2 * (ν9.1 32).toInt; omega) (by show _ < (ν9.1 32).toInt; omega) (by show _ < (ν9.1 19).toInt; omega) (hN9.pb (x := q)) (hG9.put (Or.inr (by omega))) (OL.one ((eP.put (Or.inl (by omega))).up (Nat.le_refl _) (by omega) (Int.le_refl _)) (by show _ ≤ (ν9.1 19).toInt; omega) (by rw [row_off rfl]; exact nd8.2.2.2.2.2.2)) (hA9.rb (e := c.toInt) (n := c.toInt) (RB.A (Or.inr (by omega))) (Int.le_refl _) (Or.inr (by omega))) (by
            rcases hB9 with ⟨-, w⟩ | ⟨w, -⟩
            · exact OC.one ((eC.ahead w (by omega)).rb (e := c.toInt) (n := (ν9.1 19).toInt) (RB.A (Or.inr (by omega))) (Int.le_refl _) (Or.inl (by omega))) k2'
            · rw [h1.1] at w; exact absurd w (by decide)) (by rw [row_off rfl]; exact hl1)⟩
  exact key _ (-1) (-1) ν3 (Nat.lt_succ_self _) w5 (fun _ => by rw [q5]; exact hj) (fun e => absurd rfl e) (by omega) (by omega) q6 ((w3.tr q1 (by omega) (Or.inl (by omega))).up (Nat.le_refl _) (Int.le_refl _) (by omega)) OL.nil (by rw [q2]; exact wc.rb q1.rb (Int.le_refl _) (Or.inl (by omega))) (Or.inl ⟨rfl, NS.nil (by omega)⟩) (by obtain ⟨i1, i2, i3⟩ := w3.in; have hc1 := @ic r1; rw [q1.rb 27 (by omega) (by omega) _ (by omega) (by omega)]; exact w4)
theorem st_not (hR : XC X W P 337 [] 1 14 8 0 0 d) (hN : XC X W P 336 [] 1 15 8 0 0 d) : XC X W P 336 [] 1 15 8 0 0 (d + 1) := fun μ T h9 hS hd hh hn hT => by
  have hp := px0 hS
  have h0 := hS.2.2.2.2.1
  have hb := hS.2.2.2.2.2.2.1
  have at0 := hS.at
  obtain ⟨h, rfl⟩ : ∃ h, h9 = h + 1 := ⟨h9 - 1, by omega⟩
  refine me_meth (by omega) rfl (v_not_0 (MC.mono (c_is (by omega) hS) (fun r ν hr => ?_) (fun _ h => h)))
  obtain ⟨rfl, rfl⟩ := hr
  refine ⟨fun hr => ⟨fun h20 => ?_, fun _ => MC.mono (c_line (by omega) hS.1 hS.at.1 hS.at.2) (fun r2 ν2 h2 => ?_) (fun _ h => h)⟩, fun _ => hR _ T (h + 1) hS (by omega) hh hn hT⟩
  · have h20 := ne_i h20
    rw [show (20 : Int32).toInt = 20 from rfl] at h20
    refine MC.mono (t_node (by omega) hS (by omega)) (fun q ν2 h2 => ?_) (fun _ h => h)
    obtain ⟨k1, ⟨k2, k2'⟩, k3, k4, k5, k6⟩ := h2
    have b2 := k1.1.2.2.2.2.2.2.1
    have e2 : (ν2.1 38 + 1).toInt = (ν2.1 38).toInt + 1 := ia1 (by omega)
    have g2 : TR (-1) 0 1 0 0 0 ν2 (mS1 ν2 38 (ν2.1 38 + 1)) := TR.s38 k1.ps e2 (by omega) (by omega)
    have p2 : TR (-1) 0 1 0 0 1 ν (mS1 ν2 38 (ν2.1 38 + 1)) := k1.tr g2 (Or.inl (by decide)) rfl rfl rfl rfl (by omega)
    have e19 : ((mS1 ν2 38 (ν2.1 38 + 1)).1 19).toInt = (ν2.1 19).toInt := rfl
    have e32 : ((mS1 ν2 38 (ν2.1 38 + 1)).1 32).toInt = (ν2.1 32).toInt := rfl
    refine MC.mono (t_next (by omega) p2.ps (by show ¬ srt ν2 = 203; rw [k5, is_t hr]; decide) (fun _ h => hT _ (p2.1.1.tr h))) (fun _ ν3 h3 => ?_) (fun _ h => h)
    obtain ⟨m1, m2, m3⟩ := h3
    have p3 : TR (-1) 0 1 0 0 (-1) ν ν3 := p2.tr m1 (Or.inl (by decide)) rfl rfl rfl rfl (by omega)
    have x3 := p3.px
    have u3 := p3.2
    refine MC.mono (hN ν3 T h p3.ps (by omega) (by omega) (by omega) (fun _ h => hT _ (p3.1.1.tr h))) (fun r4 ν4 h4 => ?_) (fun _ h => h)
    obtain ⟨v1, v2, v3, v4, vc⟩ := h4
    have p4 : TR (-1) 0 1 0 0 (-1) ν ν4 := p3.tr v1 (Or.inl (by decide)) rfl rfl rfl rfl (by omega)
    have at4 := p4.ps.at
    have u4 := p4.2
    have l4 := v1.l19
    have hcq := @ic q
    have b4 := p4.1.2.2.2.2.2.2.1
    have g5 : TR q.toInt 0 0 0 0 0 ν4 (mA1 ν4 22 q.toNatClampNeg r4) := TR.put p4.ps k2' rfl rfl
    have p5 : TR (-1) 0 1 0 0 (-1) ν (mA1 ν4 22 q.toNatClampNeg r4) := p4.tr g5 (Or.inr (by omega)) rfl rfl rfl rfl (by omega)
    have e4 : (ν4.1 38 - 1).toInt = (ν4.1 38).toInt - 1 := by
      rw [ib (by rw [show (1 : Int32).toInt = 1 from rfl]; omega) (by rw [show (1 : Int32).toInt = 1 from rfl]; omega)]; rfl
    have g6 : TR (-1) 0 (-1) 0 0 0 (mA1 ν4 22 q.toNatClampNeg r4) (mS1 (mA1 ν4 22 q.toNatClampNeg r4) 38 (ν4.1 38 - 1)) := TR.s38 p5.ps (by show _ = (ν4.1 38).toInt + _; omega) (by omega) (by omega)
    have nd4 : ND (mS1 (mA1 ν4 22 q.toNatClampNeg r4) 38 (ν4.1 38 - 1)) q.toNatClampNeg 85 r4 (-1) (-1) (-1) (-1) (-1) := (((show ND (mS1 ν2 38 (ν2.1 38 + 1)) q.toNatClampNeg 85 (-1) (-1) (-1) (-1) (-1) (-1) from k6).tr m1 (by omega) (by omega)).tr v1 (by omega) (by omega)).pa
    have gq : G (mS1 (mA1 ν4 22 q.toNatClampNeg r4) 38 (ν4.1 38 - 1)) h (bt (ν3.1 19).toInt (ν4.1 19).toInt) 1 r4 := G.S (v3.put (Or.inl (by omega)))
    have cv6 : CVs (mS1 (mA1 ν4 22 q.toNatClampNeg r4) 38 (ν4.1 38 - 1)) (q.toInt + 1) ((mS1 (mA1 ν4 22 q.toNatClampNeg r4) 38 (ν4.1 38 - 1)).1 19).toInt [r4] := (((CVs.one (LCO.of v3.in.1 vc)).at (by omega)).rb g5.rb (Int.le_refl _) (Or.inl (by omega))).rb g6.rb (Int.le_refl _) (Or.inl (by omega))
    refine ⟨TR.mi p4.ps rfl rfl k2' (by omega), p5.tr g6 (Or.inl (by decide)) rfl rfl rfl rfl (by omega), by show _ < (ν4.1 32).toInt; omega, G.mk k2' (by omega) (by show _ < (ν4.1 19).toInt; omega) nd4 (by decide) ?_ True.intro True.intro True.intro True.intro, nd4.2.2.2.2.2.2, CO.fin' (by omega) cv6 k2' ⟨fun h => Par.fa nd4 (by decide) h, True.intro⟩ (by show _ < (ν4.1 19).toInt; omega)⟩
    exact Kd.of (ν := mS1 (mA1 ν4 22 q.toNatClampNeg r4) 38 (ν4.1 38 - 1)) (i := q) gq (by omega) (by show _ ≤ (ν4.1 19).toInt; omega) k2' (Or.inl (by omega)) v4
  · subst h2
    exact MC.mono (c_first (by omega) hT) (fun _ _ h => h.elim) (fun _ h => h)
theorem st_relation (hC : XC X W P 335 [.int 2] 1 13 7 0 0 d) : XC X W P 337 [] 1 14 8 0 0 (d + 1) := fun μ T h9 hS hd hh hn hT => by
  have hp := px0 hS
  have h0 := hS.2.2.2.2.1
  obtain ⟨h, rfl⟩ : ∃ h, h9 = h + 1 := ⟨h9 - 1, by omega⟩
  refine me_meth (by omega) rfl (v_relation_0 (MC.mono (hC μ T h hS (by omega) (by omega) (by omega) hT) (fun r1 ν1 h1 => ?_) (fun _ h => h)))
  obtain ⟨w1, w2, w3, w4, wc⟩ := h1
  have u1 := w1.2
  have at1 := w1.ps.at
  have l1 := w1.l19
  refine ⟨MI.of (w1.ps.1.g rfl rfl : _ = 6002) at1.1 at1.2, MC.mono (c_in (by omega)) (fun r2 ν2 h2 => ?_) (fun _ h => h)⟩
  obtain ⟨rfl, rfl⟩ := h2
  refine ⟨fun hj => ?_, fun _ => ⟨w1, w2, w3.up (by omega) (Int.le_refl _) (Int.le_refl _), w4, wc⟩⟩
  have hj := bI_t hj
  have hs3 : ¬ srt ν2 = 203 := fun e => by
    have e : ν2.2.1 9 (ν2.1 32).toNatClampNeg = 203 := e
    rw [e] at hj
    exact absurd hj (by decide)
  refine MC.mono (t_node (by omega) w1.ps (by omega)) (fun q ν3 h3 => ?_) (fun _ h => h)
  obtain ⟨q1, ⟨q2, q2'⟩, q3, q4, q5, q6⟩ := h3
  have p3 : TR (-1) 0 0 0 0 1 μ ν3 := w1.tr q1 (Or.inl (by decide)) rfl rfl rfl rfl (by omega)
  have at3 := p3.ps.at
  have hcq := @ic q
  refine ⟨MI.of (p3.ps.1.g rfl rfl : _ = 6002) at3.1 at3.2, TR.mi p3.ps rfl rfl q2' (by omega), ?_⟩
  generalize ν3.2.1 9 (ν3.1 32).toNatClampNeg = tk
  have g3 : TR q.toInt 0 0 0 0 0 ν3 (mA1 ν3 24 q.toNatClampNeg tk) := TR.put p3.ps q2' rfl rfl
  have p4 : TR (-1) 0 0 0 0 1 μ (mA1 ν3 24 q.toNatClampNeg tk) := p3.tr g3 (Or.inr (by omega)) rfl rfl rfl rfl (by omega)
  have nd4 := q6.pc (x := tk)
  have s4 : ¬ srt (mA1 ν3 24 q.toNatClampNeg tk) = 203 := by show ¬ srt ν3 = 203; rw [q5]; exact hs3
  have e19 : ((mA1 ν3 24 q.toNatClampNeg tk).1 19).toInt = (ν3.1 19).toInt := rfl
  have e32 : ((mA1 ν3 24 q.toNatClampNeg tk).1 32).toInt = (ν3.1 32).toInt := rfl
  have w4c : CO (mA1 ν3 24 q.toNatClampNeg tk) (μ.1 19).toInt (ν2.1 19).toInt r1 := (wc.rb q1.rb (Int.le_refl _) (Or.inl (by omega))).rb g3.rb (by omega) (Or.inr (by omega))
  have w4g : G (mA1 ν3 24 q.toNatClampNeg tk) h (bt (μ.1 19).toInt (ν2.1 19).toInt) 1 r1 := (w3.tr q1 (by omega) (Or.inl (by omega))).put (Or.inr (by omega))
  have w4l : (mA1 ν3 24 q.toNatClampNeg tk).2.1 27 = ν3.2.1 27 := row_off rfl
  generalize mA1 ν3 24 q.toNatClampNeg tk = ν4 at *
  refine MC.mono (t_next (by omega) p4.ps s4 (fun _ h => hT _ (p4.1.1.tr h))) (fun _ ν5 h5 => ?_) (fun _ h => h)
  obtain ⟨m1, m2, m3⟩ := h5
  have p5 : TR (-1) 0 0 0 0 (-1) μ ν5 := p4.tr m1 (Or.inl (by decide)) rfl rfl rfl rfl (by omega)
  have x5 := p5.px
  have u5 := p5.2
  refine MC.mono (hC ν5 T h p5.ps (by omega) (by omega) (by omega) (fun _ h => hT _ (p5.1.1.tr h))) (fun r6 ν6 h6 => ?_) (fun _ h => h)
  obtain ⟨v1, v2, v3, v4, vc⟩ := h6
  have p6 : TR (-1) 0 0 0 0 (-1) μ ν6 := p5.tr v1 (Or.inl (by decide)) rfl rfl rfl rfl (by omega)
  have at6 := p6.ps.at
  have u6 := p6.2
  have l6 := v1.l19
  have g6 : TR q.toInt 0 0 0 0 0 ν6 (mA1 ν6 23 q.toNatClampNeg r6) := TR.put p6.ps q2' rfl rfl
  have nd6 := ((nd4.tr m1 (by omega) (by omega)).tr v1 (by omega) (by omega)).pb (x := r6)
  have k1 : G (mA1 ν6 23 q.toNatClampNeg r6) h (bt (μ.1 19).toInt (ν2.1 19).toInt) 1 r1 := ((w4g.tr m1 (by omega) (Or.inl (by omega))).tr v1 (by omega) (Or.inl (by omega))).put (Or.inr (by omega))
  have k2 : G (mA1 ν6 23 q.toNatClampNeg r6) h (bt (ν5.1 19).toInt (ν6.1 19).toInt) 1 r6 := v3.put (Or.inl (by omega))
  have c1 : CO (mA1 ν6 23 q.toNatClampNeg r6) (μ.1 19).toInt q.toInt r1 := by
    rw [q2]
    exact ((w4c.rb m1.rb (by omega) (Or.inl (by omega))).rb v1.rb (by omega) (Or.inl (by omega))).rb g6.rb (by omega) (Or.inr (by omega))
  have c2 : CVs (mA1 ν6 23 q.toNatClampNeg r6) (q.toInt + 1) ((mA1 ν6 23 q.toNatClampNeg r6).1 19).toInt [r6] := ((CVs.one (LCO.of v3.in.1 vc)).at (by omega)).rb g6.rb (Int.le_refl _) (Or.inl (by omega))
  refine ⟨TR.mi p6.ps rfl rfl q2' (by omega), p6.tr g6 (Or.inr (by omega)) rfl rfl rfl rfl (by omega), by show _ < (ν6.1 32).toInt; omega, G.mk q2' (by omega) (by show _ < (ν6.1 19).toInt; omega) nd6 (by decide) ?_ ?_ True.intro True.intro True.intro, nd6.2.2.2.2.2.2, CO.mid q2' (LCO.of w3.in.1 c1) (fun h => Par.fa nd6 (by decide) h) c2 ⟨fun h => Par.fb nd6 (by decide) h, True.intro⟩ (by omega) (by show _ < (ν6.1 19).toInt; omega)⟩
  · refine Kd.of (ν := mA1 ν6 23 q.toNatClampNeg r6) (i := q) k1 (by omega) (by show _ ≤ (ν6.1 19).toInt; omega) q2' (Or.inr (by omega)) ?_
    obtain ⟨i1, i2, i3⟩ := w3.in
    have hc1 := @ic r1
    rw [row_off rfl, v1.rb 27 (by omega) (by omega) _ (by omega) (by omega), m1.rb 27 (by omega) (by omega) _ (by omega) (by omega), w4l]
    exact (q1.rb 27 (by omega) (by omega) _ (by omega) (by omega)).trans w4
  · exact Kd.of (ν := mA1 ν6 23 q.toNatClampNeg r6) (i := q) k2 (by omega) (by show _ ≤ (ν6.1 19).toInt; omega) q2' (Or.inl (by omega)) (by rw [row_off rfl]; exact v4)
theorem st_minus (hC : XC X W P 339 [] 1 8 2 0 0 d) : XC X W P 338 [] 1 9 3 0 0 (d + 1) := fun μ T h9 hS hd hh hn hT => by
  have hp := px0 hS
  have h0 := hS.2.2.2.2.1
  have at0 := hS.at
  obtain ⟨h, rfl⟩ : ∃ h, h9 = h + 1 := ⟨h9 - 1, by omega⟩
  refine me_meth (by omega) rfl (v_minus_0 (MC.mono (c_is (by omega) hS) (fun r ν hr => ?_) (fun _ h => h)))
  obtain ⟨rfl, rfl⟩ := hr
  refine ⟨fun hr => ?_, fun _ => MC.mono (hC _ T h hS (by omega) (by omega) hn hT) (fun _ _ h => XN.up h (Nat.le_succ _)) (fun _ h => h)⟩
  refine MC.mono (t_node (by omega) hS (by omega)) (fun q ν3 h3 => ?_) (fun _ h => h)
  obtain ⟨q1, ⟨q2, q2'⟩, q3, q4, q5, q6⟩ := h3
  have hcq := @ic q
  refine MC.mono (t_next (by omega) q1.ps (by rw [q5, is_t hr]; decide) (fun _ h => hT _ (q1.1.1.tr h))) (fun _ ν5 h5 => ?_) (fun _ h => h)
  obtain ⟨m1, m2, m3⟩ := h5
  have p5 : TR (-1) 0 0 0 0 (-1) ν ν5 := q1.tr m1 (Or.inl (by decide)) rfl rfl rfl rfl (by omega)
  have x5 := p5.px
  have u5 := p5.2
  refine MC.mono (hC ν5 T h p5.ps (by omega) (by omega) (by omega) (fun _ h => hT _ (p5.1.1.tr h))) (fun r6 ν6 h6 => ?_) (fun _ h => h)
  obtain ⟨v1, v2, v3, v4, vc⟩ := h6
  have p6 : TR (-1) 0 0 0 0 (-1) ν ν6 := p5.tr v1 (Or.inl (by decide)) rfl rfl rfl rfl (by omega)
  have at6 := p6.ps.at
  have u6 := p6.2
  have l6 := v1.l19
  have g6 : TR q.toInt 0 0 0 0 0 ν6 (mA1 ν6 22 q.toNatClampNeg r6) := TR.put p6.ps q2' rfl rfl
  have nd6 := ((q6.tr m1 (by omega) (by omega)).tr v1 (by omega) (by omega)).pa (x := r6)
  have k2 : G (mA1 ν6 22 q.toNatClampNeg r6) h (bt (ν5.1 19).toInt (ν6.1 19).toInt) 1 r6 := v3.put (Or.inl (by omega))
  refine ⟨TR.mi p6.ps rfl rfl q2' (by omega), p6.tr g6 (Or.inr (by omega)) rfl rfl rfl rfl (by omega), by show _ < (ν6.1 32).toInt; omega, G.mk q2' (by omega) (by show _ < (ν6.1 19).toInt; omega) nd6 (by decide) ?_ True.intro True.intro True.intro True.intro, nd6.2.2.2.2.2.2, CO.fin' (by omega) (((CVs.one (LCO.of v3.in.1 vc)).at (by omega)).rb g6.rb (Int.le_refl _) (Or.inl (by omega)) : CVs (mA1 ν6 22 q.toNatClampNeg r6) (q.toInt + 1) ((mA1 ν6 22 q.toNatClampNeg r6).1 19).toInt [r6]) q2' ⟨fun h => Par.fa nd6 (by decide) h, True.intro⟩ (by show _ < (ν6.1 19).toInt; omega)⟩
  exact Kd.of (ν := mA1 ν6 22 q.toNatClampNeg r6) (i := q) k2 (by omega) (by show _ ≤ (ν6.1 19).toInt; omega) q2' (Or.inl (by omega)) (by rw [row_off rfl]; exact v4)
end PSD
