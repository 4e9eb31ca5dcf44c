/-! contracts of the reference: CALLs, simple expressions, all expressions -/
/-- a PLACE that was made from lo on is called -/
def CallC (X : ev_X) (W : Nat → Prop) (P : MP) (d : Nat) : Prop := ∀ (μ : MS) (T : MS → Prop) (h : Nat) (p : Int32) (lo : Int), PS μ → psX μ + 20 ≤ d → hiX μ ≤ h → (μ.1 19).toInt ≤ 2 * (μ.1 32).toInt + 30 → lo ≤ (μ.1 19).toInt → 0 ≤ lo → G μ h (bt lo (μ.1 19).toInt) 2 p → CO μ lo (μ.1 19).toInt p → μ.2.1 27 p.toNatClampNeg = -1 → (∀ μ1, kf SPA RPA μ μ1 → T μ1) →
  MC X W true d 330 [.ref P.1, .int p] P μ (fun r μ1 => TR (-1) 0 0 0 0 0 μ μ1 ∧ (μ.1 32).toInt < (μ1.1 32).toInt ∧ G μ1 (h + 1) (bt lo (μ1.1 19).toInt) 17 r ∧ μ1.2.1 27 r.toNatClampNeg = -1 ∧ CO μ1 lo (μ1.1 19).toInt r) T
theorem sK3 {μ : MS} {h : Nat} {S : Nat → Prop} {i : Int32} (hG : G μ h S 1 i) : (fW (μ.2.1 20 i.toNatClampNeg).toNatClampNeg 3).1 = 0 := by
  cases h with
  | zero => exact hG.elim
  | succ h =>
    have h1 := hG.2.2.1
    generalize μ.2.1 20 i.toNatClampNeg = k at h1
    have h2 : k ∈ ([70, 75, 76, 77, 78, 79, 80, 81, 82, 84, 85, 86] : List Int32) := by
      have h3 : ([70, 75, 76, 77, 78, 79, 80, 81, 82, 84, 85, 86] : List Int32).contains k = true := h1
      simpa using h3
    have all : ∀ k ∈ ([70, 75, 76, 77, 78, 79, 80, 81, 82, 84, 85, 86] : List Int32), (fW k.toNatClampNeg 3).1 = 0 := by decide
    exact all k h2
section PSF
variable {X : ev_X} {W : Nat → Prop} {d : Nat} {P : MP}
theorem st_call (hE : XC X W P 332 [] 1 20 12 0 0 d) : CallC X W P (d + 1) := fun μ T h p lo hS hd hh hn hlo hlo0 hG hCp hl0 hT => by
  have hp := px0 hS
  have h0 := hS.2.2.2.2.1
  have at0 := hS.at
  refine me_meth (by omega) rfl (v_call_0 _ (MC.mono (t_node (by omega) hS (by omega)) (fun c μ1 h1 => ?_) (fun _ h => h)))
  obtain ⟨q1, ⟨q2, q2'⟩, q3, q4, q5, q6⟩ := h1
  have hcc := @ic c
  have hG1 := hG.tr q1 (Int.le_refl _) (Or.inl (by omega))
  refine MC.mono (t_open (by omega) q1.ps (by decide) (fun _ h => hT _ (q1.1.1.tr h))) (fun _ μ2 h2 => ?_) (fun _ h => h)
  obtain ⟨m1, m2, m3⟩ := h2
  have p2 : TR (-1) 1 0 0 0 (-1) μ μ2 := q1.tr m1 (Or.inl (by decide)) rfl rfl rfl rfl (by omega)
  have nd2 := q6.tr m1 (by omega) (by omega)
  have hG2 := hG1.tr m1 (by omega) (Or.inl (by omega))
  have hC2 : CO μ2 lo (μ.1 19).toInt p := (hCp.rb q1.rb (Int.le_refl _) (Or.inl (by omega))).rb m1.rb (by omega) (Or.inl (by omega))
  have hb0 := hS.2.2.2.2.2.1.1
  obtain ⟨i1, i2, i3⟩ := hG.in
  have hcp := @ic p
  have lp2 : μ2.2.1 27 p.toNatClampNeg = -1 := (m1.rb 27 (by omega) (by omega) _ (by omega) (by omega)).trans ((q1.rb 27 (by omega) (by omega) _ (by omega) (by omega)).trans hl0)
  have fin : ∀ (f x4 : Int32) (ν : MS), TR (-1) 1 0 0 0 0 μ ν → (μ.1 32).toInt < (ν.1 32).toInt → c.toInt < (ν.1 19).toInt → ND ν c.toNatClampNeg 74 p f (-1) (-1) (-1) (-1) → G ν h (bt lo c.toInt) 2 p → OL 1 h (c.toInt + 1) ν f x4 → CO ν lo c.toInt p → OC ν (c.toInt + 1) (ν.1 19).toInt f x4 → ν.2.1 27 p.toNatClampNeg = -1 →
      MC X W true d 300 [.ref P.1, .int 101] P ν (fun _ μ1 => TR (-1) 0 0 0 0 0 μ μ1 ∧ (μ.1 32).toInt < (μ1.1 32).toInt ∧ G μ1 (h + 1) (bt lo (μ1.1 19).toInt) 17 c ∧ μ1.2.1 27 c.toNatClampNeg = -1 ∧ CO μ1 lo (μ1.1 19).toInt c) T := fun f x4 ν pν ha hlt hN hG hL hA hB hlp => by
    have hb := pν.b37
    refine MC.mono (t_close (by omega) pν.ps (by decide) (by omega) (fun _ h => hT _ (pν.1.1.tr h))) (fun _ κ hk => ?_) (fun _ h => h)
    obtain ⟨n1, n2, n3⟩ := hk
    have nd := hN.tr n1 (by omega) (by omega)
    have g := hG.tr n1 (by omega) (Or.inl (by omega))
    have l := hL.tr n1 (Or.inl (by omega))
    obtain ⟨i1, i2, i3⟩ := hG.in
    have hcp := @ic p
    have lp : κ.2.1 27 p.toNatClampNeg = -1 := (n1.rb 27 (by omega) (by omega) _ (by omega) (by omega)).trans hlp
    exact ⟨pν.tr n1 (Or.inl (by decide)) rfl rfl rfl rfl (by omega), by omega, G.mk q2' (by omega) (by omega) nd (by decide) (Kd.of (ν := κ) (i := c) g (Int.le_refl _) (by omega) q2' (Or.inr (Int.le_refl _)) lp) (l.kid q2' (by omega) (by omega)) True.intro True.intro True.intro, nd.2.2.2.2.2.2, CO.mid (H := [f]) q2' (LCO.of hG.in.1 (hA.rb n1.rb (by omega) (Or.inl (by omega)))) (fun h => Par.fa nd (by decide) h) (by rw [n2]; exact CVs.one (hB.rb n1.rb (Int.le_refl _) (Or.inl (by omega))).l) ⟨fun h => Par.fb nd (by decide) h, True.intro⟩ (by omega) (by omega)⟩
  have key : ∀ (j : Nat) (f x3 x4 : Int32) (ν : MS), ((μ.1 8).toInt - (ν.1 32).toInt).toNat < j → TR (-1) 1 0 0 0 (-1) μ ν → 0 ≤ x4.toInt → (μ.1 32).toInt < (ν.1 32).toInt → c.toInt < (ν.1 19).toInt → ND ν c.toNatClampNeg 74 p f (-1) (-1) (-1) (-1) → G ν h (bt lo c.toInt) 2 p → OL 1 h (c.toInt + 1) ν f x4 → CO ν lo c.toInt p → OC ν (c.toInt + 1) (ν.1 19).toInt f x4 → ν.2.1 27 p.toNatClampNeg = -1 →
      ME X W true d 330 39 [(0, .ref P.1), (1, .int p), (2, .int c), (3, .int x3), (4, .int x4)] [] P ν (fun r μ1 => TR (-1) 0 0 0 0 0 μ μ1 ∧ (μ.1 32).toInt < (μ1.1 32).toInt ∧ G μ1 (h + 1) (bt lo (μ1.1 19).toInt) 17 r ∧ μ1.2.1 27 r.toNatClampNeg = -1 ∧ CO μ1 lo (μ1.1 19).toInt r) T := by
    intro j
    induction j with
    | zero => intro f x3 x4 ν hj; omega
    | succ j ih =>
      intro f x3 x4 ν hj pν hx4 ha hlt hN hG hL hA hB hlp
      have e8 := eq_i (pν.1.1.1 8 rfl)
      have t8 := pν.ps.2.2.1.2
      refine v_call_39 _ _ _ _ (MC.mono (c_is (by omega) pν.ps) (fun r1 ν1 h1 => ?_) (fun _ h => h))
      obtain ⟨rfl, rfl⟩ := h1
      refine ⟨fun _ => fin f x4 ν1 ⟨pν.1, by have := pν.2; omega⟩ ha hlt hN hG hL hA hB hlp, fun h1 => MC.mono (t_next (by omega) pν.ps (by rw [is_t h1]; decide) (fun _ h => hT _ (pν.1.1.tr h))) (fun _ ν2 h2 => ?_) (fun _ h => h)⟩
      obtain ⟨n1, n2, n3⟩ := h2
      have p2 : TR (-1) 1 0 0 0 (-3) μ ν2 := pν.tr n1 (Or.inl (by decide)) rfl rfl rfl rfl (by omega)
      have x2 := p2.px
      have u2 := p2.2
      refine MC.mono (hE ν2 T h p2.ps (by omega) (by omega) (by omega) (fun _ h => hT _ (p2.1.1.tr h))) (fun r3 ν3 h3 => ?_) (fun _ h => h)
      obtain ⟨v1, v2, v3, v4, vc⟩ := h3
      have p3 : TR (-1) 1 0 0 0 (-3) μ ν3 := p2.tr v1 (Or.inl (by decide)) rfl rfl rfl rfl (by omega)
      have at3 := p3.ps.at
      have u3 := p3.2
      have l3 := v1.l19
      have kk : TR (-1) 0 0 0 0 (-2) ν1 ν3 := n1.tr v1 (Or.inl (by decide)) rfl rfl rfl rfl (by omega)
      obtain ⟨s1, s2, s3⟩ := hL.in hx4
      have hc4 := @ic x4
      obtain ⟨i1, i2, i3⟩ := hG.in
      have hcp := @ic p
      have lp : ν3.2.1 27 p.toNatClampNeg = -1 := (kk.rb 27 (by omega) (by omega) _ (by omega) (by omega)).trans hlp
      have g2 : TR x4.toInt 0 0 0 0 0 ν3 (mA1 ν3 27 x4.toNatClampNeg r3) := TR.put p3.ps hx4 rfl rfl
      exact ⟨TR.mi p3.ps rfl rfl hx4 (by omega), ih f r3 r3 _ (by show ((μ.1 8).toInt - (ν3.1 32).toInt).toNat < j; omega) (p3.tr g2 (Or.inr (by omega)) rfl rfl rfl rfl (by omega)) v3.in.1 (by show _ < (ν3.1 32).toInt; omega) (by show _ < (ν3.1 19).toInt; omega) ((hN.tr kk (by omega) (by omega)).off (by omega)) ((hG.tr kk (by omega) (Or.inl (by omega))).put (Or.inr (by omega))) (hL.add hx4 kk (by omega) (v3.up (Nat.le_refl _) (by omega) (Int.le_refl _)) v4) ((hA.rb kk.rb (by omega) (Or.inl (by omega))).rb g2.rb (by omega) (Or.inr (by omega))) ((hB.rb kk.rb (Int.le_refl _) (Or.inl (by omega))).add hx4 s2 s3 s1 (by rw [← n2]; exact vc) v3.in.1 kk.l19 (by rw [kk.rb 27 (by omega) (by omega) _ (by omega) (by omega)]; exact hL.nn hx4)) (by show upd (ν3.2.1 27) x4.toNatClampNeg r3 p.toNatClampNeg = -1; rw [upd_off (by omega)]; exact lp)⟩
  refine MC.mono (c_is (by omega) p2.ps) (fun r1 ν1 hk1 => ?_) (fun _ h => h)
  obtain ⟨rfl, rfl⟩ := hk1
  refine ⟨fun _ => fin (-1) (-1) ν1 ⟨p2.1, by have := p2.2; omega⟩ (by omega) (by omega) nd2 (hG2.up (Nat.le_refl _) (Int.le_refl _) (by omega)) OL.nil (by rw [q2]; exact hC2) (Or.inl ⟨rfl, NS.nil (by omega)⟩) lp2, fun _ => ?_⟩
  have x2 := p2.px
  have u2 := p2.2
  refine MC.mono (hE ν1 T h p2.ps (by omega) (by omega) (by omega) (fun _ h => hT _ (p2.1.1.tr h))) (fun r3 ν3 h3 => ?_) (fun _ h => h)
  obtain ⟨v1, v2, v3, v4, vc⟩ := h3
  have p3 : TR (-1) 1 0 0 0 (-1) μ ν3 := p2.tr v1 (Or.inl (by decide)) rfl rfl rfl rfl (by omega)
  have at3 := p3.ps.at
  have u3 := p3.2
  have l3 := v1.l19
  have g2 : TR c.toInt 0 0 0 0 0 ν3 (mA1 ν3 23 c.toNatClampNeg r3) := TR.put p3.ps q2' rfl rfl
  exact ⟨TR.mi p3.ps rfl rfl q2' (by omega), key _ r3 r3 r3 _ (Nat.lt_succ_self _) (p3.tr g2 (Or.inr (by omega)) rfl rfl rfl rfl (by omega)) v3.in.1 (by show _ < (ν3.1 32).toInt; omega) (by show _ < (ν3.1 19).toInt; omega) ((nd2.tr v1 (by omega) (by omega)).pb (x := r3)) (((hG2.tr v1 (by omega) (Or.inl (by omega))).up (Nat.le_refl _) (Int.le_refl _) (by omega)).put (Or.inr (by omega))) (OL.one ((v3.put (Or.inl (by omega))).up (Nat.le_refl _) (by omega) (Int.le_refl _)) (by show _ ≤ (ν3.1 19).toInt; omega) (by rw [row_off rfl]; exact v4)) (by rw [q2]; exact (hC2.rb v1.rb (by omega) (Or.inl (by omega))).rb g2.rb (by omega) (Or.inr (by omega))) (OC.one ((show CO ν3 (c.toInt + 1) (ν3.1 19).toInt r3 by rw [show c.toInt + 1 = (ν1.1 19).toInt by omega]; exact vc).rb g2.rb (Int.le_refl _) (Or.inl (by omega))) v3.in.1) (by rw [row_off rfl]; exact (v1.rb 27 (by omega) (by omega) _ (by omega) (by omega)).trans lp2)⟩
theorem st_expression (hC : XC X W P 335 [.int 0] 1 19 12 0 0 d) : XC X W P 332 [] 1 20 12 0 0 (d + 1) := fun μ T h hS hd hh hn hT => by
  have hp := px0 hS
  exact me_meth (by omega) rfl (v_expression_0 (hC μ T h hS (by omega) hh hn hT))
theorem st_simple (hE : XC X W P 332 [] 1 20 12 0 0 d) (hY : NodC X W P 312 0 9 0 d) (hP : XC X W P 331 [] 2 7 2 1 1 d) : XC X W P 339 [] 1 8 2 0 0 (d + 1) := fun μ T h9 hS hd hh hn hT => by
  have hp := px0 hS
  have h0 := hS.2.2.2.2.1
  have at0 := hS.at
  have hb0 := hS.2.2.2.2.2.1.1
  obtain ⟨h, rfl⟩ : ∃ h, h9 = h + 1 := ⟨h9 - 1, by omega⟩
  refine me_meth (by omega) rfl (v_simple_0 (MC.mono (t_node (by omega) hS (by omega)) (fun x ν h1 => ?_) (fun _ h => h)))
  obtain ⟨q1, ⟨q2, q2'⟩, q3, q4, q5, q6⟩ := h1
  have hcx := @ic x
  have atν := q1.ps.at
  have mi20 : MI x (ν.2.2 20) := TR.mi q1.ps rfl rfl q2' (by omega)
  -- the kind put, then the token taken
  have kind : ∀ (k : Int32) (R : Int32 → MS → Prop), ¬ srt ν = 203 → (∀ r κ, TR (-1) 0 0 0 0 (-1) μ κ → (κ.1 32).toInt = (μ.1 32).toInt + 1 → (κ.1 19).toInt = (μ.1 19).toInt + 1 → ND κ x.toNatClampNeg k (-1) (-1) (-1) (-1) (-1) (-1) → R r κ) → MC X W true d 294 [.ref P.1] P (mA1 ν 20 x.toNatClampNeg k) R T := fun k R hs hR => by
    have g1 : TR x.toInt 0 0 0 0 0 ν (mA1 ν 20 x.toNatClampNeg k) := TR.put q1.ps q2' rfl rfl
    have p1 : TR (-1) 0 0 0 0 1 μ (mA1 ν 20 x.toNatClampNeg k) := q1.tr g1 (Or.inr (by omega)) rfl rfl rfl rfl (by omega)
    have nd1 := q6.pk (x := k)
    have e19 : ((mA1 ν 20 x.toNatClampNeg k).1 19).toInt = (ν.1 19).toInt := rfl
    have e32 : ((mA1 ν 20 x.toNatClampNeg k).1 32).toInt = (ν.1 32).toInt := rfl
    have s1 : ¬ srt (mA1 ν 20 x.toNatClampNeg k) = 203 := hs
    generalize mA1 ν 20 x.toNatClampNeg k = ν1 at *
    refine MC.mono (t_next (by omega) p1.ps s1 (fun _ h => hT _ (p1.1.1.tr h))) (fun r κ hk => ?_) (fun _ h => h)
    obtain ⟨m1, m2, m3⟩ := hk
    exact hR r κ (p1.tr m1 (Or.inl (by decide)) rfl rfl rfl rfl (by omega)) (by omega) (by omega) (nd1.tr m1 (by omega) (by omega))
  have leaf : ∀ (k : Int32), sK 1 k = true → (∀ f, f < 5 → fW k.toNatClampNeg f = (0, 0)) → ¬ srt ν = 203 → MI x (ν.2.2 20) ∧ MC X W true d 294 [.ref P.1] P (mA1 ν 20 x.toNatClampNeg k) (fun _ κ => XN 0 1 (h + 1) μ x κ) T := fun k hk hf hs => ⟨mi20, kind k _ hs (fun r κ p e1 e2 nd => ⟨⟨p.1, by have := p.2; omega⟩, by omega, G.mk q2' (by omega) (by omega) nd hk (by rw [hf 0 (by decide)]; exact True.intro) (by rw [hf 1 (by decide)]; exact True.intro) (by rw [hf 2 (by decide)]; exact True.intro) (by rw [hf 3 (by decide)]; exact True.intro) (by rw [hf 4 (by decide)]; exact True.intro), nd.2.2.2.2.2.2, CO.fin' (H := []) (by omega) (CVs.nil (by omega)) q2' True.intro (by omega)⟩)⟩
  -- ISTYPE, NARROW
  have two : ∀ (k : Int32), k = 80 ∨ k = 81 → ¬ srt ν = 203 → MI x (ν.2.2 20) ∧ MC X W true d 294 [.ref P.1] P (mA1 ν 20 x.toNatClampNeg k) (fun r14 μ14 => MC X W true d 299 [.ref P.1, .int 100] P μ14 (fun r15 μ15 => MC X W true d 332 [.ref P.1] P μ15 (fun r16 μ16 => (MI x (μ16.2.2 22) ∧ MC X W true d 297 [.ref P.1, .int 106] P (mA1 μ16 22 x.toNatClampNeg r16) (fun r17 μ17 => MC X W true d 312 [.ref P.1] P μ17 (fun r18 μ18 => (MI x (μ18.2.2 23) ∧ MC X W true d 300 [.ref P.1, .int 101] P (mA1 μ18 23 x.toNatClampNeg r18) (fun _ μ19 => XN 0 1 (h + 1) μ x μ19) T)) T) T)) T) T) T := fun k hk hs => ⟨mi20, kind k _ hs (fun _ κ p e1 e2 nd => by
    refine MC.mono (t_open (by omega) p.ps (by decide) (fun _ h => hT _ (p.1.1.tr h))) (fun _ κ1 h1 => ?_) (fun _ h => h)
    obtain ⟨m1, m2, m3⟩ := h1
    have p1 : TR (-1) 1 0 0 0 (-3) μ κ1 := p.tr m1 (Or.inl (by decide)) rfl rfl rfl rfl (by omega)
    have x1 := p1.px
    have u1 := p1.2
    have nd1 := nd.tr m1 (by omega) (by omega)
    refine MC.mono (hE κ1 T h p1.ps (by omega) (by omega) (by omega) (fun _ h => hT _ (p1.1.1.tr h))) (fun r2 κ2 h2 => ?_) (fun _ h => h)
    obtain ⟨v1, v2, v3, v4, vc⟩ := h2
    have p2 : TR (-1) 1 0 0 0 (-3) μ κ2 := p1.tr v1 (Or.inl (by decide)) rfl rfl rfl rfl (by omega)
    have at2 := p2.ps.at
    have u2 := p2.2
    have l2 := v1.l19
    have g3 : TR x.toInt 0 0 0 0 0 κ2 (mA1 κ2 22 x.toNatClampNeg r2) := TR.put p2.ps q2' rfl rfl
    have p3 : TR (-1) 1 0 0 0 (-3) μ (mA1 κ2 22 x.toNatClampNeg r2) := p2.tr g3 (Or.inr (by omega)) rfl rfl rfl rfl (by omega)
    have nd3 := (nd1.tr v1 (by omega) (by omega)).pa (x := r2)
    have ge : G (mA1 κ2 22 x.toNatClampNeg r2) h (bt (κ1.1 19).toInt (κ2.1 19).toInt) 1 r2 := v3.put (Or.inl (by omega))
    have e19 : ((mA1 κ2 22 x.toNatClampNeg r2).1 19).toInt = (κ2.1 19).toInt := rfl
    have e32 : ((mA1 κ2 22 x.toNatClampNeg r2).1 32).toInt = (κ2.1 32).toInt := rfl
    refine ⟨TR.mi p2.ps rfl rfl q2' (by omega), ?_⟩
    have cv3 : CVs (mA1 κ2 22 x.toNatClampNeg r2) (x.toInt + 1) ((mA1 κ2 22 x.toNatClampNeg r2).1 19).toInt [r2] := ((CVs.one (LCO.of v3.in.1 vc)).at (by omega)).rb g3.rb (Int.le_refl _) (Or.inl (by omega))
    have le3 : (mA1 κ2 22 x.toNatClampNeg r2).2.1 27 r2.toNatClampNeg = -1 := by rw [row_off rfl]; exact v4
    obtain ⟨i1, i2, i3⟩ := v3.in
    have hc2 := @ic r2
    generalize mA1 κ2 22 x.toNatClampNeg r2 = κ3 at *
    refine MC.mono (t_expect (by omega) p3.ps (by decide) (fun _ h => hT _ (p3.1.1.tr h))) (fun _ κ4 h4 => ?_) (fun _ h => h)
    obtain ⟨n1, n2, n3⟩ := h4
    have p4 : TR (-1) 1 0 0 0 (-5) μ κ4 := p3.tr n1 (Or.inl (by decide)) rfl rfl rfl rfl (by omega)
    have y4 := tT p4
    have u4 := p4.2
    have nd4 := nd3.tr n1 (by omega) (by omega)
    have ge4 := ge.tr n1 (by omega) (Or.inl (by omega))
    refine MC.mono (hY κ4 T h p4.ps (by omega) (by omega) (by omega) (fun _ h => hT _ (p4.1.1.tr h))) (fun r5 κ5 h5 => ?_) (fun _ h => h)
    obtain ⟨⟨z1, z2, z3, z4, z5⟩, zc⟩ := h5
    have w5 : TR (-1) 0 0 0 0 0 κ4 κ5 := ⟨z1, by omega⟩
    have p5 : TR (-1) 1 0 0 0 (-5) μ κ5 := p4.tr w5 (Or.inl (by decide)) rfl rfl rfl rfl (by omega)
    have at5 := p5.ps.at
    have u5 := p5.2
    have l5 := w5.l19
    have g6 : TR x.toInt 0 0 0 0 0 κ5 (mA1 κ5 23 x.toNatClampNeg r5) := TR.put p5.ps q2' rfl rfl
    have p6 : TR (-1) 1 0 0 0 (-5) μ (mA1 κ5 23 x.toNatClampNeg r5) := p5.tr g6 (Or.inr (by omega)) rfl rfl rfl rfl (by omega)
    have nd6 := (nd4.tr w5 (by omega) (by omega)).pb (x := r5)
    have ge6 : G (mA1 κ5 23 x.toNatClampNeg r5) h (bt (κ1.1 19).toInt (κ2.1 19).toInt) 1 r2 := (ge4.tr w5 (by omega) (Or.inl (by omega))).put (Or.inl (by omega))
    have gt6 : G (mA1 κ5 23 x.toNatClampNeg r5) h (bt (κ4.1 19).toInt (κ5.1 19).toInt) 0 r5 := z4.put (Or.inl (by omega))
    have e19' : ((mA1 κ5 23 x.toNatClampNeg r5).1 19).toInt = (κ5.1 19).toInt := rfl
    have e32' : ((mA1 κ5 23 x.toNatClampNeg r5).1 32).toInt = (κ5.1 32).toInt := rfl
    refine ⟨TR.mi p5.ps rfl rfl q2' (by omega), ?_⟩
    have cv6 : CVs (mA1 κ5 23 x.toNatClampNeg r5) (x.toInt + 1) ((mA1 κ5 23 x.toNatClampNeg r5).1 19).toInt [r5, r2] := ((cv3.st n1.rb (Int.le_refl _) (Or.inl (by omega)) n2).add w5.rb (Int.le_refl _) (Or.inl (by omega)) (by omega) l5 (LCO.of z4.in.1 zc)).rb g6.rb (Int.le_refl _) (Or.inl (by omega))
    have le6 : (mA1 κ5 23 x.toNatClampNeg r5).2.1 27 r2.toNatClampNeg = -1 := by rw [row_off rfl]; exact (w5.rb 27 (by omega) (by omega) _ (by omega) (by omega)).trans ((n1.rb 27 (by omega) (by omega) _ (by omega) (by omega)).trans le3)
    have lt6 : (mA1 κ5 23 x.toNatClampNeg r5).2.1 27 r5.toNatClampNeg = -1 := by rw [row_off rfl]; exact z5
    obtain ⟨j1, j2, j3⟩ := z4.in
    have hc5 := @ic r5
    generalize mA1 κ5 23 x.toNatClampNeg r5 = κ6 at *
    have hb6 := p6.b37
    refine MC.mono (t_close (by omega) p6.ps (by decide) (by omega) (fun _ h => hT _ (p6.1.1.tr h))) (fun _ κ7 h7 => ?_) (fun _ h => h)
    obtain ⟨o1, o2, o3⟩ := h7
    have p7 : TR (-1) 0 0 0 0 0 μ κ7 := p6.tr o1 (Or.inl (by decide)) rfl rfl rfl rfl (by omega)
    have nd7 := nd6.tr o1 (by omega) (by omega)
    have ge7 := ge6.tr o1 (by omega) (Or.inl (by omega))
    have le7 : κ7.2.1 27 r2.toNatClampNeg = -1 := (o1.rb 27 (by omega) (by omega) _ (by omega) (by omega)).trans le6
    have lt7 : κ7.2.1 27 r5.toNatClampNeg = -1 := (o1.rb 27 (by omega) (by omega) _ (by omega) (by omega)).trans lt6
    have gt7 := gt6.tr o1 (by omega) (Or.inl (by omega))
    have F0 : FO (G κ7 h (fun j => bt (μ.1 19).toInt (κ7.1 19).toInt j ∧ j ≠ x.toNatClampNeg)) (κ7.2.1 27) (1, 1) r2 := Kd.of (ν := κ7) (i := x) ge7 (by omega) (by omega) q2' (Or.inl (by omega)) le7
    have F1 : FO (G κ7 h (fun j => bt (μ.1 19).toInt (κ7.1 19).toInt j ∧ j ≠ x.toNatClampNeg)) (κ7.2.1 27) (1, 0) r5 := Kd.of (ν := κ7) (i := x) gt7 (by omega) (by omega) q2' (Or.inl (by omega)) lt7
    have cv7 := cv6.st o1.rb (Int.le_refl _) (Or.inl (by omega)) o2
    have cF : CO κ7 (μ.1 19).toInt (κ7.1 19).toInt x := CO.fin' (by omega) cv7 q2' ⟨fun h => Par.fb nd7 (by rcases hk with rfl | rfl <;> decide) h, fun h => Par.fa nd7 (by rcases hk with rfl | rfl <;> decide) h, True.intro⟩ (by omega)
    refine ⟨p7, by omega, ?_, nd7.2.2.2.2.2.2, cF⟩
    rcases hk with rfl | rfl
    · exact G.mk q2' (by omega) (by omega) nd7 (by decide) F0 F1 True.intro True.intro True.intro
    · exact G.mk q2' (by omega) (by omega) nd7 (by decide) F0 F1 True.intro True.intro True.intro)⟩
  refine ⟨MI.of (q1.ps.1.g rfl rfl : _ = 6002) atν.1 atν.2, fun h3 => ?_, fun h3 => ?_, fun h3 => ?_, fun h3 => ?_, fun h3 => ?_, fun h3 => ?_, fun _ => MC.mono (c_unfit (by omega) q1.ps (fun _ h => hT _ (q1.1.1.tr h))) (fun _ _ h => h.elim) (fun _ h => h)⟩
  · have hs : ¬ srt ν = 203 := fun e => by
      have e : ν.2.1 9 (ν.1 32).toNatClampNeg = 203 := e
      rw [e] at h3
      exact absurd h3 (by decide)
    refine MC.mono (c_is (by omega) q1.ps) (fun r ν1 hr => ?_) (fun _ h => h)
    obtain ⟨rfl, rfl⟩ := hr
    refine ⟨fun _ => MC.mono (c_is (by omega) q1.ps) (fun r ν2 hr => ?_) (fun _ h => h), fun _ => leaf 76 (by decide) (by decide) hs⟩
    obtain ⟨rfl, rfl⟩ := hr
    exact ⟨fun _ => leaf 78 (by decide) (by decide) hs, fun _ => leaf 77 (by decide) (by decide) hs⟩
  · have hs : ¬ srt ν = 203 := fun e => by
      have e : ν.2.1 9 (ν.1 32).toNatClampNeg = 203 := e
      rw [e] at h3
      exact absurd h3 (by decide)
    refine MC.mono (c_is (by omega) q1.ps) (fun r ν1 hr => ?_) (fun _ h => h)
    obtain ⟨rfl, rfl⟩ := hr
    exact ⟨fun _ => two 81 (Or.inr rfl) hs, fun _ => two 80 (Or.inl rfl) hs⟩
  · -- NEW
    have hs : ¬ srt ν = 203 := fun e => by
      have e : ν.2.1 9 (ν.1 32).toNatClampNeg = 203 := e
      rw [e] at h3
      exact absurd h3 (by decide)
    refine ⟨mi20, kind 79 _ hs (fun _ κ p e1 e2 nd => ?_)⟩
    refine MC.mono (t_open (by omega) p.ps (by decide) (fun _ h => hT _ (p.1.1.tr h))) (fun _ κ1 h1 => ?_) (fun _ h => h)
    obtain ⟨m1, m2, m3⟩ := h1
    have p4 : TR (-1) 1 0 0 0 (-3) μ κ1 := p.tr m1 (Or.inl (by decide)) rfl rfl rfl rfl (by omega)
    have y4 := tT p4
    have u4 := p4.2
    have nd4 := nd.tr m1 (by omega) (by omega)
    refine MC.mono (hY κ1 T h p4.ps (by omega) (by omega) (by omega) (fun _ h => hT _ (p4.1.1.tr h))) (fun r5 κ5 h5 => ?_) (fun _ h => h)
    obtain ⟨⟨z1, z2, z3, z4, z5⟩, zc⟩ := h5
    have w5 : TR (-1) 0 0 0 0 0 κ1 κ5 := ⟨z1, by omega⟩
    have p5 : TR (-1) 1 0 0 0 (-3) μ κ5 := p4.tr w5 (Or.inl (by decide)) rfl rfl rfl rfl (by omega)
    have at5 := p5.ps.at
    have u5 := p5.2
    have l5 := w5.l19
    have g6 : TR x.toInt 0 0 0 0 0 κ5 (mA1 κ5 22 x.toNatClampNeg r5) := TR.put p5.ps q2' rfl rfl
    have p6 : TR (-1) 1 0 0 0 (-3) μ (mA1 κ5 22 x.toNatClampNeg r5) := p5.tr g6 (Or.inr (by omega)) rfl rfl rfl rfl (by omega)
    have nd6 := (nd4.tr w5 (by omega) (by omega)).pa (x := r5)
    have gt6 : G (mA1 κ5 22 x.toNatClampNeg r5) h (bt (κ1.1 19).toInt (κ5.1 19).toInt) 0 r5 := z4.put (Or.inl (by omega))
    have e19' : ((mA1 κ5 22 x.toNatClampNeg r5).1 19).toInt = (κ5.1 19).toInt := rfl
    have e32' : ((mA1 κ5 22 x.toNatClampNeg r5).1 32).toInt = (κ5.1 32).toInt := rfl
    refine ⟨TR.mi p5.ps rfl rfl q2' (by omega), ?_⟩
    have cv6 : CVs (mA1 κ5 22 x.toNatClampNeg r5) (x.toInt + 1) ((mA1 κ5 22 x.toNatClampNeg r5).1 19).toInt [r5] := ((CVs.one (LCO.of z4.in.1 zc)).at (by omega)).rb g6.rb (Int.le_refl _) (Or.inl (by omega))
    have lt6 : (mA1 κ5 22 x.toNatClampNeg r5).2.1 27 r5.toNatClampNeg = -1 := by rw [row_off rfl]; exact z5
    obtain ⟨j1, j2, j3⟩ := z4.in
    have hc5 := @ic r5
    generalize mA1 κ5 22 x.toNatClampNeg r5 = κ6 at *
    have hb6 := p6.b37
    refine MC.mono (t_close (by omega) p6.ps (by decide) (by omega) (fun _ h => hT _ (p6.1.1.tr h))) (fun _ κ7 h7 => ?_) (fun _ h => h)
    obtain ⟨o1, o2, o3⟩ := h7
    have p7 : TR (-1) 0 0 0 0 0 μ κ7 := p6.tr o1 (Or.inl (by decide)) rfl rfl rfl rfl (by omega)
    have nd7 := nd6.tr o1 (by omega) (by omega)
    have gt7 := gt6.tr o1 (by omega) (Or.inl (by omega))
    exact ⟨p7, by omega, G.mk q2' (by omega) (by omega) nd7 (by decide) (Kd.of (ν := κ7) (i := x) gt7 (by omega) (by omega) q2' (Or.inl (by omega)) ((o1.rb 27 (by omega) (by omega) _ (by omega) (by omega)).trans lt6)) True.intro True.intro True.intro True.intro, nd7.2.2.2.2.2.2, CO.fin' (by omega) (cv6.st o1.rb (Int.le_refl _) (Or.inl (by omega)) o2) q2' ⟨fun h => Par.fa nd7 (by decide) h, True.intro⟩ (by omega)⟩
  · -- in brackets
    refine MC.mono (t_open (by omega) q1.ps (by decide) (fun _ h => hT _ (q1.1.1.tr h))) (fun _ κ1 h1 => ?_) (fun _ h => h)
    obtain ⟨m1, m2, m3⟩ := h1
    have p1 : TR (-1) 1 0 0 0 (-1) μ κ1 := q1.tr m1 (Or.inl (by decide)) rfl rfl rfl rfl (by omega)
    have x1 := p1.px
    have u1 := p1.2
    refine MC.mono (hE κ1 T (h + 1) p1.ps (by omega) (by omega) (by omega) (fun _ h => hT _ (p1.1.1.tr h))) (fun e κ2 h2 => ?_) (fun _ h => h)
    obtain ⟨v1, v2, v3, v4, vc⟩ := h2
    have p2 : TR (-1) 1 0 0 0 (-1) μ κ2 := p1.tr v1 (Or.inl (by decide)) rfl rfl rfl rfl (by omega)
    have hb2 := p2.b37
    refine MC.mono (t_close (by omega) p2.ps (by decide) (by omega) (fun _ h => hT _ (p2.1.1.tr h))) (fun _ κ3 h3 => ?_) (fun _ h => h)
    obtain ⟨o1, o2, o3⟩ := h3
    have p3 : TR (-1) 0 0 0 0 0 μ κ3 := p2.tr o1 (Or.inl (by decide)) rfl rfl rfl rfl (by omega)
    have g3 := v3.tr o1 (by omega) (Or.inl (by have := m1.l19; omega))
    have gx : NS κ1 (μ.1 19).toInt (κ1.1 19).toInt := NS.one (q6.tr m1 (by omega) (by omega)) (by omega) (by omega) (by decide)
    have c3 : CO κ3 (μ.1 19).toInt (κ3.1 19).toInt e := by
      rw [o2]
      exact (vc.ahead (gx.rb v1.rb (Int.le_refl _) (Or.inl (by omega))) (by omega)).rb o1.rb (Int.le_refl _) (Or.inl (by omega))
    obtain ⟨i1, i2, i3⟩ := g3.in
    have hce := @ic e
    have at3 := p3.ps.at
    have u3 := p3.2
    have n3 : κ3.2.1 27 e.toNatClampNeg = -1 := by rw [o1.rb 27 (by omega) (by omega) _ (by omega) (by omega)]; exact v4
    have mi : ∀ {g : Nat}, rk g = true → rlen g = 16000 → MI e (κ3.2.2 g) := fun hg hr => TR.mi p3.ps hg hr i1 (by omega)
    have put : ∀ y, TR (-1) 0 0 0 0 0 μ (mA1 κ3 25 e.toNatClampNeg y) := fun y => p3.tr (TR.put p3.ps i1 rfl rfl) (Or.inr (by omega)) rfl rfl rfl rfl (by omega)
    have cf : ∀ y, (fW (κ3.2.1 20 e.toNatClampNeg).toNatClampNeg 3).1 = 0 → CO (mA1 κ3 25 e.toNatClampNeg y) (μ.1 19).toInt (κ3.1 19).toInt e := fun y hy j j1 j2 j3 => by
      rw [row_off rfl] at j3
      obtain ⟨m, hm⟩ := c3 j j1 j2 j3
      exact ⟨m, hm.free (f0 := 3) (by decide) hy⟩
    refine ⟨mi rfl rfl, fun hk => ⟨mi rfl rfl, mi rfl rfl, put _, by show _ < (κ3.1 32).toInt; omega, G.same (g3.up (Nat.le_refl _) (by omega) (by show _ ≤ (κ3.1 19).toInt; omega)), n3, cf _ (sK3 g3)⟩, fun hk => ⟨mi rfl rfl, put _, by show _ < (κ3.1 32).toInt; omega, ?_, n3, cf _ (by rw [hk]; decide)⟩⟩
    exact G.free (f := 3) (by decide) (by rw [hk]; decide) (g3.up (Nat.le_refl _) (by omega) (by show _ ≤ (κ3.1 19).toInt; omega))
  · -- a PLACE
    have x1 := q1.px
    refine MC.mono (hP ν T (h + 1) q1.ps (by omega) (by omega) (by omega) (fun _ h => hT _ (q1.1.1.tr h))) (fun r κ hk => ?_) (fun _ h => h)
    obtain ⟨v1, v2, v3, v4, vc⟩ := hk
    have gx : NS ν (μ.1 19).toInt (ν.1 19).toInt := NS.one q6 (by omega) (by omega) (by decide)
    exact ⟨q1.tr v1 (Or.inl (by decide)) rfl rfl rfl rfl (by omega), by omega, (v3.pl).up (Nat.le_refl _) (by omega) (Int.le_refl _), v4, vc.ahead (gx.rb v1.rb (Int.le_refl _) (Or.inl (by omega))) (by omega)⟩
  · -- a number
    have hs : ¬ srt ν = 203 := fun e => by
      have e : ν.2.1 9 (ν.1 32).toNatClampNeg = 203 := e
      rw [e] at h3
      exact absurd h3 (by decide)
    refine ⟨MI.of (q1.ps.1.g rfl rfl : _ = 6002) atν.1 atν.2, TR.mi q1.ps rfl rfl q2' (by omega), ?_⟩
    generalize ν.2.1 10 (ν.1 32).toNatClampNeg = y
    have g1 : TR x.toInt 0 0 0 0 0 ν (mA1 ν 22 x.toNatClampNeg y) := TR.put q1.ps q2' rfl rfl
    have p1 : TR (-1) 0 0 0 0 1 μ (mA1 ν 22 x.toNatClampNeg y) := q1.tr g1 (Or.inr (by omega)) rfl rfl rfl rfl (by omega)
    have nd1 := q6.pa (x := y)
    have e19 : ((mA1 ν 22 x.toNatClampNeg y).1 19).toInt = (ν.1 19).toInt := rfl
    have e32 : ((mA1 ν 22 x.toNatClampNeg y).1 32).toInt = (ν.1 32).toInt := rfl
    have s1 : ¬ srt (mA1 ν 22 x.toNatClampNeg y) = 203 := hs
    generalize mA1 ν 22 x.toNatClampNeg y = ν1 at *
    refine MC.mono (t_next (by omega) p1.ps s1 (fun _ h => hT _ (p1.1.1.tr h))) (fun r κ hk => ?_) (fun _ h => h)
    obtain ⟨m1, m2, m3⟩ := hk
    have nd := nd1.tr m1 (by omega) (by omega)
    exact ⟨p1.tr m1 (Or.inl (by decide)) rfl rfl rfl rfl (by omega), by omega, G.mk q2' (by omega) (by omega) nd (by decide) True.intro True.intro True.intro True.intro True.intro, nd.2.2.2.2.2.2, CO.fin' (H := []) (by omega) (CVs.nil (by omega)) q2' True.intro (by omega)⟩
def ExA (X : ev_X) (W : Nat → Prop) (P : MP) (d : Nat) : Prop := (XC X W P 332 [] 1 20 12 0 0 d ∧ XC X W P 335 [.int 0] 1 19 12 0 0 d ∧ XC X W P 334 [.int 0] 1 18 10 0 0 d ∧ XC X W P 335 [.int 1] 1 17 10 0 0 d ∧ XC X W P 334 [.int 1] 1 16 8 0 0 d ∧ XC X W P 336 [] 1 15 8 0 0 d) ∧
  (XC X W P 337 [] 1 14 8 0 0 d ∧ XC X W P 335 [.int 2] 1 13 7 0 0 d ∧ XC X W P 334 [.int 2] 1 12 5 0 0 d ∧ XC X W P 335 [.int 3] 1 11 5 0 0 d ∧ XC X W P 334 [.int 3] 1 10 3 0 0 d ∧ XC X W P 338 [] 1 9 3 0 0 d) ∧ XC X W P 339 [] 1 8 2 0 0 d ∧ XC X W P 331 [] 2 7 2 1 1 d ∧ CallC X W P d
theorem XC.z {k : Nat} {as : List Value} {s : Nat} {rd rh dn up : Int} (h : 0 < rd) : XC X W P k as s rd rh dn up 0 := fun μ T h hS hd => by have := px0 hS; omega
theorem ex_all : ∀ d : Nat, ExA X W P d
  | 0 => ⟨⟨XC.z (by decide), XC.z (by decide), XC.z (by decide), XC.z (by decide), XC.z (by decide), XC.z (by decide)⟩, ⟨XC.z (by decide), XC.z (by decide), XC.z (by decide), XC.z (by decide), XC.z (by decide), XC.z (by decide)⟩, XC.z (by decide), XC.z (by decide), fun μ T h p lo hS hd => by have := px0 hS; omega⟩
  | d + 1 => by
    obtain ⟨⟨a1, a2, a3, a4, a5, a6⟩, ⟨b1, b2, b3, b4, b5, b6⟩, c1, c2, c3⟩ := ex_all d
    exact ⟨⟨st_expression a2, st_chain (by decide) (by decide) (by decide) (by decide) a3, st_opd0 a4, st_chain (by decide) (by decide) (by decide) (by decide) a5, st_opd1 a6, st_not b1 a6⟩, ⟨st_relation b2, st_chain (by decide) (by decide) (by decide) (by decide) b3, st_opd2 b4, st_chain (by decide) (by decide) (by decide) (by decide) b5, st_opd3 b6, st_minus c1⟩, st_simple a1 (ty_all d).1 c2, st_place a1, st_call a1⟩
end PSF
