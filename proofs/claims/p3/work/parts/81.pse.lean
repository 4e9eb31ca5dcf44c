/-! contracts of the reference: PLACEs, CALLs, simple expressions -/
/-- a free field of any node put -/
theorem G.free {μ : MS} {t f : Nat} {x : Int32} (hf : f < 5) (hw : fW (μ.2.1 20 t).toNatClampNeg f = (0, 0)) : ∀ {h : Nat} {S : Nat → Prop} {s : Nat} {i : Int32}, G μ h S s i → G (mA1 μ (22 + f) t x) h S s i
  | 0, _, _, _, hG => hG.elim
  | h + 1, S, s, i, hG => by
    obtain ⟨g1, g2, g3, g4⟩ := hG
    have e0 : ∀ j, (mA1 μ (22 + f) t x).2.1 20 j = μ.2.1 20 j := fun j => by
      show (bif Nat.beq 20 (22 + f) then upd (μ.2.1 (22 + f)) t x else μ.2.1 20) j = _
      rw [nb_ne (by omega)]; rfl
    have e7 : ∀ j, (mA1 μ (22 + f) t x).2.1 27 j = μ.2.1 27 j := fun j => by
      show (bif Nat.beq 27 (22 + f) then upd (μ.2.1 (22 + f)) t x else μ.2.1 27) j = _
      rw [nb_ne (by omega)]; rfl
    refine ⟨g1, g2, by rw [e0]; exact g3, fun f' hf' => ?_⟩
    rw [e0]
    by_cases hc : f' = f ∧ i.toNatClampNeg = t
    · rw [hc.1, hc.2, hw]; exact True.intro
    · have ev : (mA1 μ (22 + f) t x).2.1 (22 + f') i.toNatClampNeg = μ.2.1 (22 + f') i.toNatClampNeg := by
        show (bif Nat.beq (22 + f') (22 + f) then upd (μ.2.1 (22 + f)) t x else μ.2.1 (22 + f')) i.toNatClampNeg = _
        by_cases e : f' = f
        · subst e
          rw [nb_self]
          exact upd_off (fun h => hc ⟨rfl, h⟩)
        · rw [nb_ne (by omega)]; rfl
      rw [ev]
      exact (g4 f' hf').mono (fun s x hx => G.free hf hw hx) (fun s x _ => e7 _)
theorem G.same {μ : MS} {h g t s : Nat} {S : Nat → Prop} {i : Int32} (hG : G μ h S s i) : G (mA1 μ g t (μ.2.1 g t)) h S s i := by
  have e : ∀ g' j, (mA1 μ g t (μ.2.1 g t)).2.1 g' j = μ.2.1 g' j := fun g' j => by
    show (bif Nat.beq g' g then upd (μ.2.1 g) t (μ.2.1 g t) else μ.2.1 g') j = _
    by_cases e : g' = g
    · subst e
      rw [nb_self]
      show upd (μ.2.1 g') t (μ.2.1 g' t) j = _
      unfold upd
      by_cases e : j = t
      · rw [if_pos e, e]
      · rw [if_neg e]
    · rw [nb_ne e]; rfl
  exact G.mono hG (Nat.le_refl _) (fun _ h => h) (fun g' _ _ j _ => e g' j) (fun j _ _ => e 27 j)
theorem sK70 {k : Int32} (h : sK 2 k = true) : k = 70 := by
  have h : ([70] : List Int32).contains k = true := h
  simpa using h
theorem G.pl {μ : MS} {h : Nat} {S : Nat → Prop} {i : Int32} (hG : G μ h S 2 i) : G μ h S 1 i := by
  cases h with
  | zero => exact hG.elim
  | succ h => exact ⟨hG.1, hG.2.1, by rw [sK70 hG.2.2.1]; decide, hG.2.2.2⟩
theorem G.lp {μ : MS} {h s : Nat} {S : Nat → Prop} {i : Int32} (hG : G μ h S s i) (hk : μ.2.1 20 i.toNatClampNeg = 70) : G μ h S 2 i := by
  cases h with
  | zero => exact hG.elim
  | succ h => exact ⟨hG.1, hG.2.1, by rw [hk]; decide, hG.2.2.2⟩
section PSE
variable {X : ev_X} {W : Nat → Prop} {d : Nat} {P : MP}
theorem st_place (hE : XC X W P 332 [] 1 20 12 0 0 d) : XC X W P 331 [] 2 7 2 1 1 (d + 1) := fun μ T h9 hS hd hh hn hT => by
  have hp := px0 hS
  have h0 := hS.2.2.2.2.1
  have at0 := hS.at
  obtain ⟨h, rfl⟩ : ∃ h, h9 = h + 2 := ⟨h9 - 2, by omega⟩
  refine me_meth (by omega) rfl (v_place_0 (MC.mono (t_node (by omega) hS (by omega)) (fun p μ1 h1 => ?_) (fun _ h => h)))
  obtain ⟨q1, ⟨q2, q2'⟩, q3, q4, q5, q6⟩ := h1
  have hcp := @ic p
  have g1 : TR p.toInt 0 0 0 0 0 μ1 (mA1 μ1 25 p.toNatClampNeg 0) := TR.put q1.ps q2' rfl rfl
  have p1 : TR (-1) 0 0 0 0 1 μ (mA1 μ1 25 p.toNatClampNeg 0) := q1.tr g1 (Or.inr (by omega)) rfl rfl rfl rfl (by omega)
  have nd1 := q6.pd (x := 0)
  have e19 : ((mA1 μ1 25 p.toNatClampNeg 0).1 19).toInt = (μ1.1 19).toInt := rfl
  have e32 : ((mA1 μ1 25 p.toNatClampNeg 0).1 32).toInt = (μ1.1 32).toInt := rfl
  refine ⟨TR.mi q1.ps rfl rfl q2' (by omega), ?_⟩
  generalize mA1 μ1 25 p.toNatClampNeg 0 = μ2 at *
  refine MC.mono (t_name (by omega) p1.ps (fun _ h => hT _ (p1.1.1.tr h))) (fun v μ3 h3 => ?_) (fun _ h => h)
  obtain ⟨m1, m2, m3⟩ := h3
  have p3 : TR (-1) 0 0 0 0 (-1) μ μ3 := p1.tr m1 (Or.inl (by decide)) rfl rfl rfl rfl (by omega)
  have g3 : TR p.toInt 0 0 0 0 0 μ3 (mA1 μ3 22 p.toNatClampNeg v) := TR.put p3.ps q2' rfl rfl
  have p4 : TR (-1) 0 0 0 0 (-1) μ (mA1 μ3 22 p.toNatClampNeg v) := p3.tr g3 (Or.inr (by omega)) rfl rfl rfl rfl (by omega)
  have nd4 := (nd1.tr m1 (by omega) (by omega)).pa (x := v)
  have e19' : ((mA1 μ3 22 p.toNatClampNeg v).1 19).toInt = (μ3.1 19).toInt := rfl
  have e32' : ((mA1 μ3 22 p.toNatClampNeg v).1 32).toInt = (μ3.1 32).toInt := rfl
  refine ⟨TR.mi p3.ps rfl rfl q2' (by omega), ?_⟩
  generalize mA1 μ3 22 p.toNatClampNeg v = μ4 at *
  have key : ∀ (j : Nat) (f x2 x3 : Int32) (ν : MS), ((μ.1 8).toInt - (ν.1 32).toInt).toNat < j → TR (-1) 0 0 0 0 (-1) μ ν → (¬ x3 = 0 → srt ν = 109 ∨ srt ν = 104 ∨ srt ν = 121) → (μ.1 32).toInt < (ν.1 32).toInt → p.toInt < (ν.1 19).toInt → ND ν p.toNatClampNeg 70 v f (-1) 0 (-1) (-1) → OL 16 (h + 1) (p.toInt + 1) ν f x2 → OC ν (p.toInt + 1) (ν.1 19).toInt f x2 →
      ME X W true d 331 61 [(0, .ref P.1), (1, .int p), (2, .int x2), (3, .int x3)] [] P ν (fun r μ1 => XN 1 2 (h + 2) μ r μ1) T := by
    intro j
    induction j with
    | zero => intro f x2 x3 ν hj; omega
    | succ j ih =>
      intro f x2 x3 ν hj pν hx ha hlt hN hL hB
      have e8 := eq_i (pν.1.1.1 8 rfl)
      have t8 := pν.ps.2.2.1.2
      have atν := pν.ps.at
      have u0 := pν.2
      refine v_place_61 _ _ _ ⟨fun _ => ⟨pν, ha, G.mk q2' (by omega) hlt hN (by decide) True.intro (hL.kid q2' (by omega) (by omega)) True.intro True.intro True.intro, hN.2.2.2.2.2.2, CO.fin' (by omega) (CVs.one hB.l) q2' ⟨fun h => Par.fb hN (by decide) h, True.intro⟩ hlt⟩, fun h3 => ?_⟩
      have hx := hx h3
      have s192 : ∀ (x f' : Int32) (κ : MS), TR (-1) 0 0 0 0 (-1) μ κ → (ν.1 32).toInt < (κ.1 32).toInt → p.toInt < (κ.1 19).toInt → ND κ p.toNatClampNeg 70 v f' (-1) 0 (-1) (-1) → OL 16 (h + 1) (p.toInt + 1) κ f' x → OC κ (p.toInt + 1) (κ.1 19).toInt f' x → ME X W true d 331 192 [(0, .ref P.1), (1, .int p), (2, .int x2), (3, .int x3), (4, .int x)] [] P κ (fun r μ1 => XN 1 2 (h + 2) μ r μ1) T := fun x f' κ pκ k32 k19 kN kL kB => by
        have e8' := eq_i (pκ.1.1.1 8 rfl)
        have t8' := pκ.ps.2.2.1.2
        refine v_place_192 _ _ _ _ (MC.mono (c_is (by omega) pκ.ps) (fun r1 κ1 hk => ?_) (fun _ h => h))
        obtain ⟨rfl, rfl⟩ := hk
        have go : ∀ y, (¬ y = 0 → srt κ1 = 109 ∨ srt κ1 = 104 ∨ srt κ1 = 121) → ME X W true d 331 61 [(0, .ref P.1), (1, .int p), (2, .int x), (3, .int y)] [] P κ1 (fun r μ1 => XN 1 2 (h + 2) μ r μ1) T := fun y hy => ih f' x y κ1 (by omega) pκ hy (by omega) k19 kN kL kB
        refine ⟨fun h1 => v_place_222 _ _ _ _ (v_place_228 _ _ _ _ (go 1 (fun _ => Or.inl (is_t h1)))), fun _ => MC.mono (c_is (by omega) pκ.ps) (fun r2 κ2 hk => ?_) (fun _ h => h)⟩
        obtain ⟨rfl, rfl⟩ := hk
        refine ⟨fun h1 => v_place_222 _ _ _ _ (v_place_228 _ _ _ _ (go 1 (fun _ => Or.inr (Or.inl (is_t h1))))), fun _ => MC.mono (c_is (by omega) pκ.ps) (fun r3 κ3 hk => ?_) (fun _ h => h)⟩
        obtain ⟨rfl, rfl⟩ := hk
        exact ⟨fun _ => v_place_228 _ _ _ _ (go 0 (fun h => absurd rfl h)), fun h1 => v_place_222 _ _ _ _ (v_place_228 _ _ _ _ (go 1 (fun _ => Or.inr (Or.inr (is_t h1)))))⟩
      have s169 : ∀ (x : Int32) (κ : MS), TR (-1) 0 0 0 0 0 ν κ → (ν.1 32).toInt < (κ.1 32).toInt → G κ (h + 1) (bt (ν.1 19).toInt (κ.1 19).toInt) 16 x → κ.2.1 27 x.toNatClampNeg = -1 → CO κ (ν.1 19).toInt (κ.1 19).toInt x → ME X W true d 331 169 [(0, .ref P.1), (1, .int p), (2, .int x2), (3, .int x3), (4, .int x)] [] P κ (fun r μ1 => XN 1 2 (h + 2) μ r μ1) T := fun x κ kk k32 kG kn kC => by
        have pκ : TR (-1) 0 0 0 0 (-1) μ κ := pν.tr kk (Or.inl (by decide)) rfl rfl rfl rfl (by omega)
        have uκ := pκ.2
        have atκ := pκ.ps.at
        have lκ := kk.l19
        have hN9 := hN.tr kk (by omega) (by omega)
        have hB9 := hB.rb kk.rb (Int.le_refl _) (Or.inl (by omega))
        refine v_place_169 _ _ _ _ ⟨fun hx2 => ?_, fun hx2 => ?_⟩
        · obtain ⟨s1, s2, s3⟩ := hL.in hx2
          have hc4 := @ic x2
          have g2 : TR x2.toInt 0 0 0 0 0 κ (mA1 κ 27 x2.toNatClampNeg x) := TR.put pκ.ps hx2 rfl rfl
          exact ⟨TR.mi pκ.ps rfl rfl hx2 (by omega), s192 x f _ (pκ.tr g2 (Or.inr (by omega)) rfl rfl rfl rfl (by omega)) (by show _ < (κ.1 32).toInt; omega) (by show _ < (κ.1 19).toInt; omega) (hN9.off (by omega)) (hL.add hx2 kk (by omega) kG kn) (hB9.add hx2 s2 s3 s1 kC kG.in.1 kk.l19 (by rw [kk.rb 27 (by omega) (by omega) _ (by omega) (by omega)]; exact hL.nn hx2))⟩
        · have h1 : f = -1 ∧ x2 = -1 := by
            rcases hL.sg with s | ⟨-, s⟩
            · exact s
            · omega
          have g2 : TR p.toInt 0 0 0 0 0 κ (mA1 κ 23 p.toNatClampNeg x) := TR.put pκ.ps q2' rfl rfl
          exact ⟨TR.mi pκ.ps rfl rfl q2' (by omega), s192 x x _ (pκ.tr g2 (Or.inr (by omega)) rfl rfl rfl rfl (by omega)) (by show _ < (κ.1 32).toInt; omega) (by show _ < (κ.1 19).toInt; omega) (hN9.pb (x := x)) (OL.one ((kG.put (Or.inl (by omega))).up (Nat.le_refl _) (by omega) (Int.le_refl _)) (by show _ ≤ (κ.1 19).toInt; omega) (by rw [row_off rfl]; exact kn)) (by
            rcases hB9 with ⟨-, w⟩ | ⟨w, -⟩
            · exact OC.one ((kC.ahead w (by omega)).rb (e := p.toInt) (n := (κ.1 19).toInt) (RB.A (Or.inr (by omega))) (Int.le_refl _) (Or.inl (by omega))) kG.in.1
            · rw [h1.1] at w; exact absurd w (by decide))⟩
      have body : ∀ (x k : Int32) (κ : MS), TR (-1) 0 0 0 0 1 ν κ → x.toInt = (ν.1 19).toInt → 0 ≤ x.toInt → (κ.1 19).toInt = (ν.1 19).toInt + 1 → (κ.1 32).toInt = (ν.1 32).toInt → srt κ = srt ν → ND κ x.toNatClampNeg k (-1) (-1) (-1) (-1) (-1) (-1) → (k = 71 ∧ srt ν = 109) ∨ (k = 72 ∧ srt ν = 104) ∨ (k = 73 ∧ srt ν = 121) →
          MC X W true d 296 [.ref P.1, .int 109] P κ (fun r4 μ4 => ((r4 = 0 → MC X W true d 296 [.ref P.1, .int 104] P μ4 (fun r5 μ5 => ((r5 = 0 → MC X W true d 294 [.ref P.1] P μ5 (fun r6 μ6 => ME X W true d 331 169 [(0, .ref P.1), (1, .int p), (2, .int x2), (3, .int x3), (4, .int x)] [] P μ6 (fun r μ1 => XN 1 2 (h + 2) μ r μ1) T) T) ∧ (¬ r5 = 0 → MC X W true d 299 [.ref P.1, .int 104] P μ5 (fun r7 μ7 => MC X W true d 332 [.ref P.1] P μ7 (fun r8 μ8 => (MI x (μ8.2.2 22) ∧ MC X W true d 300 [.ref P.1, .int 105] P (mA1 μ8 22 x.toNatClampNeg r8) (fun r9 μ9 => ME X W true d 331 169 [(0, .ref P.1), (1, .int p), (2, .int x2), (3, .int x3), (4, .int x)] [] P μ9 (fun r μ1 => XN 1 2 (h + 2) μ r μ1) T) T)) T) T))) (fun _ => False)) ∧ (¬ r4 = 0 → MC X W true d 294 [.ref P.1] P μ4 (fun r10 μ10 => MC X W true d 298 [.ref P.1] P μ10 (fun r11 μ11 => (MI x (μ11.2.2 22) ∧ ME X W true d 331 169 [(0, .ref P.1), (1, .int p), (2, .int x2), (3, .int x3), (4, .int x)] [] P (mA1 μ11 22 x.toNatClampNeg r11) (fun r μ1 => XN 1 2 (h + 2) μ r μ1) T)) T) T))) (fun _ => False) := fun x k κ kk x1 x0 k19 k32 ks kN hk => by
        have pκ : TR (-1) 0 0 0 0 0 μ κ := pν.tr kk (Or.inl (by decide)) rfl rfl rfl rfl (by omega)
        have hcx := @ic x
        have hs3 : ¬ srt κ = 203 := by
          rw [ks]
          rcases hx with e | e | e <;> rw [e] <;> decide
        refine MC.mono (c_is (by omega) pκ.ps) (fun r1 κ1 hk1 => ?_) (fun _ h => h)
        obtain ⟨rfl, rfl⟩ := hk1
        refine ⟨fun h1 => MC.mono (c_is (by omega) pκ.ps) (fun r2 κ2 hk2 => ?_) (fun _ h => h), fun h1 => ?_⟩
        · obtain ⟨rfl, rfl⟩ := hk2
          refine ⟨fun h2 => ?_, fun h2 => ?_⟩
          · -- HAT
            have hk3 : k = 73 := by
              rcases hk with ⟨-, e⟩ | ⟨-, e⟩ | ⟨e, -⟩
              · exact absurd (ks.trans e) (is_f h1)
              · exact absurd (ks.trans e) (is_f h2)
              · exact e
            subst hk3
            refine MC.mono (t_next (by omega) pκ.ps hs3 (fun _ h => hT _ (pκ.1.1.tr h))) (fun _ κ4 h4 => ?_) (fun _ h => h)
            obtain ⟨m1, m2, m3⟩ := h4
            have nd := kN.tr m1 (by omega) (by omega)
            exact s169 x κ4 (kk.tr m1 (Or.inl (by decide)) rfl rfl rfl rfl (by omega)) (by omega) (G.mk x0 (by omega) (by omega) nd (by decide) True.intro True.intro True.intro True.intro True.intro) nd.2.2.2.2.2.2 (CO.fin' (H := []) (by omega) (CVs.nil (by omega)) x0 True.intro (by omega))
          · -- INDEX
            have hs := is_t h2
            have hk3 : k = 72 := by
              rcases hk with ⟨-, e⟩ | ⟨e, -⟩ | ⟨-, e⟩
              · exact absurd (ks.trans e) (is_f h1)
              · exact e
              · rw [ks, e] at hs; exact absurd hs (by decide)
            subst hk3
            refine MC.mono (t_open (by omega) pκ.ps (by decide) (fun _ h => hT _ (pκ.1.1.tr h))) (fun _ κ4 h4 => ?_) (fun _ h => h)
            obtain ⟨m1, m2, m3⟩ := h4
            have p4 : TR (-1) 1 0 0 0 (-2) μ κ4 := pκ.tr m1 (Or.inl (by decide)) rfl rfl rfl rfl (by omega)
            have x4 := p4.px
            have u4 := p4.2
            refine MC.mono (hE κ4 T h p4.ps (by omega) (by omega) (by omega) (fun _ h => hT _ (p4.1.1.tr h))) (fun r5 κ5 h5 => ?_) (fun _ h => h)
            obtain ⟨v1, v2, v3, v4, vc⟩ := h5
            have p5 : TR (-1) 1 0 0 0 (-2) μ κ5 := p4.tr v1 (Or.inl (by decide)) rfl rfl rfl rfl (by omega)
            have at5 := p5.ps.at
            have u5 := p5.2
            have l5 := v1.l19
            have g6 : TR x.toInt 0 0 0 0 0 κ5 (mA1 κ5 22 x.toNatClampNeg r5) := TR.put p5.ps x0 rfl rfl
            have p6 : TR (-1) 1 0 0 0 (-2) μ (mA1 κ5 22 x.toNatClampNeg r5) := p5.tr g6 (Or.inr (by omega)) rfl rfl rfl rfl (by omega)
            have nd6 := ((kN.tr m1 (by omega) (by omega)).tr v1 (by omega) (by omega)).pa (x := r5)
            have k6 : G (mA1 κ5 22 x.toNatClampNeg r5) h (bt (κ4.1 19).toInt (κ5.1 19).toInt) 1 r5 := v3.put (Or.inl (by omega))
            have kk6 := ((kk.tr m1 (Or.inl (by decide)) rfl rfl rfl rfl (Int.le_refl _)).tr v1 (Or.inl (by decide)) rfl rfl rfl rfl (Int.le_refl _)).tr g6 (Or.inr (by omega)) rfl rfl rfl rfl (Int.le_refl _)
            have e19 : ((mA1 κ5 22 x.toNatClampNeg r5).1 19).toInt = (κ5.1 19).toInt := rfl
            have e32 : ((mA1 κ5 22 x.toNatClampNeg r5).1 32).toInt = (κ5.1 32).toInt := rfl
            refine ⟨TR.mi p5.ps rfl rfl x0 (by omega), ?_⟩
            have cv6 : CVs (mA1 κ5 22 x.toNatClampNeg r5) (x.toInt + 1) ((mA1 κ5 22 x.toNatClampNeg r5).1 19).toInt [r5] := ((CVs.one (LCO.of v3.in.1 vc)).at (by omega)).rb g6.rb (Int.le_refl _) (Or.inl (by omega))
            have l6 : (mA1 κ5 22 x.toNatClampNeg r5).2.1 27 r5.toNatClampNeg = -1 := by rw [row_off rfl]; exact v4
            generalize mA1 κ5 22 x.toNatClampNeg r5 = κ6 at *
            have hb6 := p6.b37
            have hb0 := hS.2.2.2.2.2.1.1
            refine MC.mono (t_close (by omega) p6.ps (by decide) (by omega) (fun _ h => hT _ (p6.1.1.tr h))) (fun _ κ7 h7 => ?_) (fun _ h => h)
            obtain ⟨n1, n2, n3⟩ := h7
            have nd7 := nd6.tr n1 (by omega) (by omega)
            have k7 := k6.tr n1 (by omega) (Or.inl (by omega))
            obtain ⟨i1, i2, i3⟩ := k6.in
            have hc5 := @ic r5
            have l7 : κ7.2.1 27 r5.toNatClampNeg = -1 := (n1.rb 27 (by omega) (by omega) _ (by omega) (by omega)).trans l6
            exact s169 x κ7 (kk6.tr n1 (Or.inl (by decide)) rfl rfl rfl rfl (by omega)) (by omega) (G.mk x0 (by omega) (by omega) nd7 (by decide) (Kd.of (ν := κ7) (i := x) (lo' := (ν.1 19).toInt) k7 (by omega) (by omega) x0 (Or.inl (by omega)) l7) True.intro True.intro True.intro True.intro) nd7.2.2.2.2.2.2 (CO.fin' (by omega) (cv6.st n1.rb (Int.le_refl _) (Or.inl (by omega)) n2) x0 ⟨fun h => Par.fa nd7 (by decide) h, True.intro⟩ (by omega))
        · -- DOT
          have hs := is_t h1
          have hk3 : k = 71 := by
            rcases hk with ⟨e, -⟩ | ⟨-, e⟩ | ⟨-, e⟩
            · exact e
            · rw [ks, e] at hs; exact absurd hs (by decide)
            · rw [ks, e] at hs; exact absurd hs (by decide)
          subst hk3
          refine MC.mono (t_next (by omega) pκ.ps hs3 (fun _ h => hT _ (pκ.1.1.tr h))) (fun _ κ4 h4 => ?_) (fun _ h => h)
          obtain ⟨m1, m2, m3⟩ := h4
          have p4 : TR (-1) 0 0 0 0 (-2) μ κ4 := pκ.tr m1 (Or.inl (by decide)) rfl rfl rfl rfl (by omega)
          refine MC.mono (t_name (by omega) p4.ps (fun _ h => hT _ (p4.1.1.tr h))) (fun r5 κ5 h5 => ?_) (fun _ h => h)
          obtain ⟨n1, n2, n3⟩ := h5
          have p5 : TR (-1) 0 0 0 0 (-4) μ κ5 := p4.tr n1 (Or.inl (by decide)) rfl rfl rfl rfl (by omega)
          have at5 := p5.ps.at
          have u5 := p5.2
          have g6 : TR x.toInt 0 0 0 0 0 κ5 (mA1 κ5 22 x.toNatClampNeg r5) := TR.put p5.ps x0 rfl rfl
          have nd6 := ((kN.tr m1 (by omega) (by omega)).tr n1 (by omega) (by omega)).pa (x := r5)
          have kk6 : TR (-1) 0 0 0 0 0 ν (mA1 κ5 22 x.toNatClampNeg r5) := ((kk.tr m1 (Or.inl (by decide)) rfl rfl rfl rfl (Int.le_refl _)).tr n1 (Or.inl (by decide)) rfl rfl rfl rfl (Int.le_refl _)).tr g6 (Or.inr (by omega)) rfl rfl rfl rfl (by omega)
          exact ⟨TR.mi p5.ps rfl rfl x0 (by omega), s169 x _ kk6 (by show _ < (κ5.1 32).toInt; omega) (G.mk x0 (by omega) (by show _ < (κ5.1 19).toInt; omega) nd6 (by decide) True.intro True.intro True.intro True.intro True.intro) nd6.2.2.2.2.2.2 (CO.fin' (H := []) (by omega) (CVs.nil (by show (κ5.1 19).toInt ≤ _; omega)) x0 True.intro (by show _ < (κ5.1 19).toInt; omega))⟩
      refine MC.mono (c_is (by omega) pν.ps) (fun r1 ν1 hk1 => ?_) (fun _ h => h)
      obtain ⟨rfl, rfl⟩ := hk1
      refine ⟨fun h1 => MC.mono (c_is (by omega) pν.ps) (fun r2 ν2 hk2 => ?_) (fun _ h => h), fun h1 => ?_⟩
      · obtain ⟨rfl, rfl⟩ := hk2
        refine ⟨fun h2 => MC.mono (t_node (by omega) pν.ps (by omega)) (fun x κ hk => ?_) (fun _ h => h), fun h2 => MC.mono (t_node (by omega) pν.ps (by omega)) (fun x κ hk => ?_) (fun _ h => h)⟩
        · obtain ⟨z1, ⟨z2, z2'⟩, z3, z4, z5, z6⟩ := hk
          exact body x 73 κ z1 z2 z2' z3 z4 z5 z6 (Or.inr (Or.inr ⟨rfl, (hx.resolve_left (is_f h1)).resolve_left (is_f h2)⟩))
        · obtain ⟨z1, ⟨z2, z2'⟩, z3, z4, z5, z6⟩ := hk
          exact body x 72 κ z1 z2 z2' z3 z4 z5 z6 (Or.inr (Or.inl ⟨rfl, is_t h2⟩))
      · refine MC.mono (t_node (by omega) pν.ps (by omega)) (fun x κ hk => ?_) (fun _ h => h)
        obtain ⟨z1, ⟨z2, z2'⟩, z3, z4, z5, z6⟩ := hk
        exact body x 71 κ z1 z2 z2' z3 z4 z5 z6 (Or.inl ⟨rfl, is_t h1⟩)
  have start : ∀ x3 : Int32, (¬ x3 = 0 → srt μ4 = 109 ∨ srt μ4 = 104 ∨ srt μ4 = 121) → ME X W true d 331 61 [(0, .ref P.1), (1, .int p), (2, .int (-1)), (3, .int x3)] [] P μ4 (fun r μ1 => XN 1 2 (h + 2) μ r μ1) T := fun x3 hx => key _ (-1) (-1) x3 μ4 (Nat.lt_succ_self _) p4 hx (by omega) (by omega) nd4 OL.nil (Or.inl ⟨rfl, NS.nil (by omega)⟩)
  refine MC.mono (c_is (by omega) p4.ps) (fun r1 ν1 hk1 => ?_) (fun _ h => h)
  obtain ⟨rfl, rfl⟩ := hk1
  refine ⟨fun h1 => v_place_55 _ _ (start 1 (fun _ => Or.inl (is_t h1))), fun _ => MC.mono (c_is (by omega) p4.ps) (fun r2 ν2 hk2 => ?_) (fun _ h => h)⟩
  obtain ⟨rfl, rfl⟩ := hk2
  refine ⟨fun h1 => v_place_55 _ _ (start 1 (fun _ => Or.inr (Or.inl (is_t h1)))), fun _ => MC.mono (c_is (by omega) p4.ps) (fun r3 ν3 hk3 => ?_) (fun _ h => h)⟩
  obtain ⟨rfl, rfl⟩ := hk3
  exact ⟨fun _ => start 0 (fun h => absurd rfl h), fun h1 => v_place_55 _ _ (start 1 (fun _ => Or.inr (Or.inr (is_t h1))))⟩
end PSE
