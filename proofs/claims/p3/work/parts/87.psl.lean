/-! contracts of the reference: declarations -/
theorem ND.p31 {μ : MS} {i : Nat} {k a b c d e n x : Int32} (h : ND μ i k a b c d e n) : ND (mA1 μ 31 i x) i k a b c d e n := h
theorem Ek.g {μ : MS} {k i : Int32} {lo hi : Int} {s h : Nat} (hE : Ek μ k lo hi i) (hk : sK s k = true) (hf : ∀ f, f < 5 → fW k.toNatClampNeg f = (0, 0)) : G μ (h + 1) (bt lo hi) s i := by
  obtain ⟨k1, k2, k3, k4, k5⟩ := hE
  have hc := @ic i
  refine ⟨k1, ⟨by omega, by omega⟩, by rw [k4]; exact hk, fun f hf' => ?_⟩
  rw [k4, hf f hf']
  exact True.intro
theorem NR.ls {μ μ1 : MS} {k r : Int32} {s h : Nat} (hR : NR k μ r μ1) (hk : sK s k = true) (hf : ∀ f, f < 5 → fW k.toNatClampNeg f = (0, 0)) : ∃ m, Lst (G μ1 (h + 1) (bt (μ.1 19).toInt (μ1.1 19).toInt) s) (μ1.2.1 27) m r := by
  obtain ⟨-, -, -, -, m, hm⟩ := hR
  exact ⟨m, hm.mono (fun y hy => hy.g hk hf) (fun _ _ => rfl)⟩
theorem G.dv {μ : MS} {h : Nat} {S : Nat → Prop} {i : Int32} (hG : G μ h S 19 i) : G μ h S 4 i := by
  cases h with
  | zero => exact hG.elim
  | succ h =>
    have h7 : ([7] : List Int32).contains (μ.2.1 20 i.toNatClampNeg) = true := hG.2.2.1
    have h7 : μ.2.1 20 i.toNatClampNeg = 7 := by simpa using h7
    exact ⟨hG.1, hG.2.1, by rw [h7]; decide, hG.2.2.2⟩
/-- a VAR's node is filled -/
def VarC (X : ev_X) (W : Nat → Prop) (P : MP) (d : Nat) : Prop := ∀ (μ : MS) (T : MS → Prop) (h : Nat) (s : Int32), PS μ → psS μ + 11 ≤ d → hiS μ + 1 ≤ h → (μ.1 19).toInt ≤ 2 * (μ.1 32).toInt + 31 → (∀ μ1, kf SPA RPA μ μ1 → T μ1) → 0 ≤ s.toInt → s.toInt + 1 = (μ.1 19).toInt → ¬ srt μ = 203 → ND μ s.toNatClampNeg 7 (-1) (-1) (-1) (-1) (-1) (-1) →
  MC X W true d 307 [.ref P.1, .int s] P μ (fun _ μ1 => TR s.toInt 0 0 0 0 (-2) μ μ1 ∧ G μ1 (h + 1) (bt s.toInt (μ1.1 19).toInt) 19 s ∧ μ1.2.1 27 s.toNatClampNeg = -1 ∧ CO μ1 s.toInt (μ1.1 19).toInt s) T
/-- a PROCEDURE's node is filled -/
def PrC (X : ev_X) (W : Nat → Prop) (P : MP) (d : Nat) : Prop := ∀ (μ : MS) (T : MS → Prop) (h : Nat) (s x2 : Int32), PS μ → psS μ + 20 ≤ d → hiS μ + 12 ≤ h → (μ.1 19).toInt ≤ 2 * (μ.1 32).toInt + 31 → (∀ μ1, kf SPA RPA μ μ1 → T μ1) → 0 ≤ s.toInt → s.toInt + 1 = (μ.1 19).toInt → ¬ srt μ = 203 → ND μ s.toNatClampNeg 3 (-1) (-1) (-1) (-1) (-1) (-1) →
  MC X W true d 308 [.ref P.1, .int s, .int x2] P μ (fun _ μ1 => TR s.toInt 0 0 0 0 (-2) μ μ1 ∧ G μ1 (h + 1) (bt s.toInt (μ1.1 19).toInt) 4 s ∧ μ1.2.1 27 s.toNatClampNeg = -1 ∧ CO μ1 s.toInt (μ1.1 19).toInt s) T
/-- a declaration -/
def DeC (X : ev_X) (W : Nat → Prop) (P : MP) (d : Nat) : Prop := ∀ (μ : MS) (T : MS → Prop) (h : Nat) (x1 : Int32), PS μ → psS μ + 21 ≤ d → hiS μ + 13 ≤ h → (μ.1 19).toInt ≤ 2 * (μ.1 32).toInt + 30 → (∀ μ1, kf SPA RPA μ μ1 → T μ1) → ¬ srt μ = 203 →
  MC X W true d 306 [.ref P.1, .int x1] P μ (fun r μ1 => XN 0 4 h μ r μ1) T
section PSL
variable {X : ev_X} {W : Nat → Prop} {d : Nat} {P : MP}
theorem t_endName {μ : MS} {T : MS → Prop} {x : Int32} (hd : 5 ≤ d) (hS : PS μ) (hT : ∀ μ1, kf SPA RPA μ μ1 → T μ1) : MC X W true d 303 [.ref P.1, .int x] P μ (fun _ μ1 => TR (-1) 0 0 0 0 (-2) μ μ1 ∧ (μ1.1 19).toInt = (μ.1 19).toInt ∧ (μ1.1 32).toInt = (μ.1 32).toInt + 1) T := by
  have at0 := hS.at
  refine me_meth (by omega) rfl (v_endName_0 _ (MC.mono (c_is (by omega) hS) (fun r ν hr => ?_) (fun _ h => h)))
  obtain ⟨rfl, rfl⟩ := hr
  refine ⟨fun h1 => ⟨MI.of (hS.1.g rfl rfl : _ = 6002) at0.1 at0.2, fun _ => t_next (by omega) hS (by rw [is_t h1]; decide) hT, fun _ => MC.mono (c_line (by omega) hS.1 at0.1 at0.2) (fun r3 ν3 h3 => ?_) (fun _ h => h)⟩, fun _ => MC.mono (c_unfit (by omega) hS hT) (fun _ _ h => h.elim) (fun _ h => h)⟩
  subst h3
  exact MC.mono (c_first (by omega) hT) (fun _ _ h => h.elim) (fun _ h => h)
theorem st_variables (hY : NodC X W P 312 0 9 0 d) : VarC X W P (d + 1) := fun μ T h s hS hd hh hn hT s0 s1 hs3 nd0 => by
  have hp := px0 hS
  have h0 := hS.2.2.2.2.1
  have at0 := hS.at
  have hcs := @ic s
  have p0 : TR s.toInt 0 0 0 0 0 μ μ := TR.rf hS
  have lt0 : s.toInt < (μ.1 19).toInt := by omega
  have s9 : s.toInt < 15990 := by omega
  have cv0 : CVs μ (s.toInt + 1) (μ.1 19).toInt [] := CVs.nil (by omega)
  refine me_meth (by omega) rfl (v_variables_0 _ ?_)
  refine MC.mono (t_next (by omega) p0.ps (hs3) (fun _ h => hT _ (p0.1.1.tr h))) (fun v1 κ6 h2 => ?_) (fun _ h => h)
  obtain ⟨q3, m4, a5⟩ := h2
  have p7 : TR (s.toInt) (0) 0 0 0 (-2) μ κ6 := p0.trS q3 (Or.inl (by decide)) rfl rfl rfl rfl (by omega)
  have cv8 : CVs κ6 (s.toInt + 1) ((κ6).1 19).toInt [] := cv0.st q3.rb (Int.le_refl _) (Or.inl (by omega)) m4
  have nd9 := nd0.tr q3 (by have := @ic s; omega) (by omega)
  have lt10 : s.toInt < (κ6.1 19).toInt := by omega
  have x14 := p7.px
  have u15 := p7.2
  have y16 := tT p7
  have z17 := px0 p7.ps
  refine MC.mono (c_nameRow (by omega) p7.ps (by omega) (fun _ h => hT _ (p7.1.1.tr h))) (fun r11 κ12 h13 => ?_) (fun _ h => h)
  have g19 := NR.ls (s := 6) (h := 0) h13.1 (by decide) (by decide)
  have q18 : TR (-1) 0 0 0 0 0 κ6 κ12 := ⟨h13.1.1, by have := h13.1.2.1; omega⟩
  have ne20 : ¬ r11 = -1 := fun e => by have h1 := h13.1.2.2.2.1; have h2 := p7.ps.2.2.2.2.1; rw [← h1, e] at h2; exact absurd h2 (by decide)
  have l22 := q18.l19
  have p23 : TR (s.toInt) (0) 0 0 0 (-2) μ κ12 := p7.trS q18 (Or.inl (by decide)) rfl rfl rfl rfl (by omega)
  have cv24 : CVs κ12 (s.toInt + 1) ((κ12).1 19).toInt [] := cv8.ns q18.rb (Int.le_refl _) (Or.inl (by omega)) l22 (h13.2.1.ns (by decide))
  have nd25 := nd9.tr q18 (by have := @ic s; omega) (by omega)
  have lt26 : s.toInt < (κ12.1 19).toInt := by omega
  have k21 : KL κ12 h s.toInt s 6 r11 := (KL.of g19 (by omega) (Int.le_refl _) s0 (Or.inl (by omega))).up (by omega)
  have g27 : TR s.toInt 0 0 0 0 0 κ12 (mA1 κ12 22 s.toNatClampNeg r11) := TR.put p23.ps s0 rfl rfl
  have e29 : ((mA1 κ12 22 s.toNatClampNeg r11).1 19).toInt = (κ12.1 19).toInt := rfl
  have e30 : ((mA1 κ12 22 s.toNatClampNeg r11).1 32).toInt = (κ12.1 32).toInt := rfl
  have sr32 : srt (mA1 κ12 22 s.toNatClampNeg r11) = srt κ12 := srt_off rfl
  have nd31 := nd25.pa (x := r11)
  have p33 : TR (s.toInt) (0) 0 0 0 (-2) μ (mA1 κ12 22 s.toNatClampNeg r11) := p23.trS g27 (Or.inr (Or.inl rfl)) rfl rfl rfl rfl (by omega)
  have k34 := k21.tr g27 (Or.inr rfl) s0
  have cv35 : CVs (mA1 κ12 22 s.toNatClampNeg r11) (s.toInt + 1) (((mA1 κ12 22 s.toNatClampNeg r11)).1 19).toInt [] := cv24.st g27.rb (Int.le_refl _) (Or.inl (by omega)) rfl
  refine ⟨TR.mi p23.ps rfl rfl s0 (by omega), ?_⟩
  generalize mA1 κ12 22 s.toNatClampNeg r11 = κ28 at *
  have lt36 : s.toInt < (κ28.1 19).toInt := by omega
  refine MC.mono (t_expect (by omega) p33.ps (by decide) (fun _ h => hT _ (p33.1.1.tr h))) (fun v37 κ42 h38 => ?_) (fun _ h => h)
  obtain ⟨q39, m40, a41⟩ := h38
  have p43 : TR (s.toInt) (0) 0 0 0 (-4) μ κ42 := p33.trS q39 (Or.inl (by decide)) rfl rfl rfl rfl (by omega)
  have k44 := k34.tr q39 (Or.inl (by decide)) s0
  have cv45 : CVs κ42 (s.toInt + 1) ((κ42).1 19).toInt [] := cv35.st q39.rb (Int.le_refl _) (Or.inl (by omega)) m40
  have nd46 := nd31.tr q39 (by have := @ic s; omega) (by omega)
  have lt47 : s.toInt < (κ42.1 19).toInt := by omega
  have x51 := p43.px
  have u52 := p43.2
  have y53 := tT p43
  have z54 := px0 p43.ps
  refine MC.mono (hY κ42 T h p43.ps (by omega) (by omega) (by omega) (fun _ h => hT _ (p43.1.1.tr h))) (fun r48 κ49 h50 => ?_) (fun _ h => h)
  obtain ⟨⟨z57, z58, z59, z60, z61⟩, c62⟩ := h50
  have q55 : TR (-1) 0 0 0 0 0 κ42 κ49 := ⟨z57, by omega⟩
  have g56 := z60
  have l63 := q55.l19
  have l64 := q55.l32
  have p65 : TR (s.toInt) (0) 0 0 0 (-4) μ κ49 := p43.trS q55 (Or.inl (by decide)) rfl rfl rfl rfl (by omega)
  have k66 := k44.tr q55 (Or.inl (by decide)) s0
  have cv67 : CVs κ49 (s.toInt + 1) ((κ49).1 19).toInt [r48] := cv45.add q55.rb (Int.le_refl _) (Or.inl (by omega)) (by omega) l63 (LCO.of z60.in.1 c62)
  have nd68 := nd46.tr q55 (by have := @ic s; omega) (by omega)
  have lt69 : s.toInt < (κ49.1 19).toInt := by omega
  have k70 : Kd κ49 h s.toInt s 0 r48 := Kd.of g56 (by omega) (Int.le_refl _) s0 (Or.inl (by omega))
  have g71 : TR s.toInt 0 0 0 0 0 κ49 (mA1 κ49 23 s.toNatClampNeg r48) := TR.put p65.ps s0 rfl rfl
  have e73 : ((mA1 κ49 23 s.toNatClampNeg r48).1 19).toInt = (κ49.1 19).toInt := rfl
  have e74 : ((mA1 κ49 23 s.toNatClampNeg r48).1 32).toInt = (κ49.1 32).toInt := rfl
  have sr76 : srt (mA1 κ49 23 s.toNatClampNeg r48) = srt κ49 := srt_off rfl
  have nd75 := nd68.pb (x := r48)
  have p77 : TR (s.toInt) (0) 0 0 0 (-4) μ (mA1 κ49 23 s.toNatClampNeg r48) := p65.trS g71 (Or.inr (Or.inl rfl)) rfl rfl rfl rfl (by omega)
  have k78 := k66.tr g71 (Or.inr rfl) s0
  have k79 := k70.tr g71 (Or.inr rfl) s0
  have cv80 : CVs (mA1 κ49 23 s.toNatClampNeg r48) (s.toInt + 1) (((mA1 κ49 23 s.toNatClampNeg r48)).1 19).toInt [r48] := cv67.st g71.rb (Int.le_refl _) (Or.inl (by omega)) rfl
  refine ⟨TR.mi p65.ps rfl rfl s0 (by omega), ?_⟩
  generalize mA1 κ49 23 s.toNatClampNeg r48 = κ72 at *
  have lt81 : s.toInt < (κ72.1 19).toInt := by omega
  exact ⟨⟨p77.1, by have := p77.2; omega⟩, G.mk s0 (Int.le_refl _) lt81 nd75 (by decide) (⟨ne20, k78⟩) (k79) True.intro True.intro True.intro, nd75.2.2.2.2.2.2, (CO.fin' (by omega) cv80 s0 ⟨fun h => Par.fb nd75 (by decide) h, True.intro⟩ lt81)⟩
theorem st_procedure (hG : NodC X W P 309 8 10 1 d) (hSt : SL X W P 321 [] 3 19 11 d) (hV : VarC X W P d) : PrC X W P (d + 1) := fun μ T h9 s x2 hS hd hh hn hT s0 s1 hs3 nd0 => by
  have hp := px0 hS
  have h0 := hS.2.2.2.2.1
  have at0 := hS.at
  have hcs := @ic s
  have p0 : TR s.toInt 0 0 0 0 0 μ μ := TR.rf hS
  have lt0 : s.toInt < (μ.1 19).toInt := by omega
  have s9 : s.toInt < 15990 := by omega
  have cv0 : CVs μ (s.toInt + 1) (μ.1 19).toInt [] := CVs.nil (by omega)
  obtain ⟨h, rfl⟩ : ∃ h, h9 = h + 1 := ⟨h9 - 1, by omega⟩
  have key : ∀ (j : Nat) (n0 : Int) (nm sg f x4 : Int32) (ν : MS), s.toInt < n0 → n0 ≤ (ν.1 19).toInt → ((μ.1 8).toInt - (ν.1 32).toInt).toNat < j → TR s.toInt 0 0 0 0 (-2) μ ν → s.toInt < (ν.1 19).toInt → ND ν s.toNatClampNeg 9 nm sg (-1) (-1) (-1) (-1) → G ν h (bt (s.toInt + 1) n0) 8 sg → OL 19 (h + 1) n0 ν f x4 → CO ν (s.toInt + 1) n0 sg → OC ν n0 (ν.1 19).toInt f x4 →
      ME X W true d 308 58 [(0, .ref P.1), (1, .int s), (2, .int x2), (3, .int f), (4, .int x4)] [] P ν (fun _ μ1 => TR s.toInt 0 0 0 0 (-2) μ μ1 ∧ G μ1 (h + 1 + 1) (bt s.toInt (μ1.1 19).toInt) 4 s ∧ μ1.2.1 27 s.toNatClampNeg = -1 ∧ CO μ1 s.toInt (μ1.1 19).toInt s) T := by
    intro j
    induction j with
    | zero => intro n0 nm sg f x4 ν hn1 hn2 hj; omega
    | succ j ih =>
      intro n0 nm sg f x4 ν hn1 hn2 hj pν ltν ndν gν hO cS hB
      have e8 := eq_i (pν.1.1.1 8 rfl)
      have t8 := pν.ps.2.2.1.2
      have at1 := pν.ps.at
      have uν := pν.2
      have xν := pν.px
      refine v_procedure_58 _ _ _ _ ?_
      have cvν : CVs ν (s.toInt + 1) (ν.1 19).toInt [f, sg] := (CVs.one (LCO.of gν.in.1 cS)).add (e := -1) (n := n0) RB.rf (Int.le_refl _) (Or.inl (by omega)) (by omega) hn2 hB.l
      have kν : Kd ν h s.toInt s 8 sg := Kd.of gν (by omega) hn2 s0 (Or.inl (by omega))
      have kO : KL ν (h + 1) s.toInt s 19 f := KL.of hO.lst (by omega) (Int.le_refl _) s0 (Or.inl (by omega))
      refine MC.mono (c_is (by omega) pν.ps) (fun r82 κ83 h84 => ?_) (fun _ h => h)
      obtain ⟨rfl, rfl⟩ := h84
      refine ⟨fun _ => ?_, fun hw => ?_⟩
      · skip
        have g85 : TR s.toInt 0 0 0 0 0 κ83 (mA1 κ83 24 s.toNatClampNeg f) := TR.put pν.ps s0 rfl rfl
        have e87 : ((mA1 κ83 24 s.toNatClampNeg f).1 19).toInt = (κ83.1 19).toInt := rfl
        have e88 : ((mA1 κ83 24 s.toNatClampNeg f).1 32).toInt = (κ83.1 32).toInt := rfl
        have sr90 : srt (mA1 κ83 24 s.toNatClampNeg f) = srt κ83 := srt_off rfl
        have nd89 := ndν.pc (x := f)
        have p91 : TR (s.toInt) (0) 0 0 0 (-2) μ (mA1 κ83 24 s.toNatClampNeg f) := pν.trS g85 (Or.inr (Or.inl rfl)) rfl rfl rfl rfl (by omega)
        have k92 := kν.tr g85 (Or.inr rfl) s0
        have k93 := kO.tr g85 (Or.inr rfl) s0
        have cv94 : CVs (mA1 κ83 24 s.toNatClampNeg f) (s.toInt + 1) (((mA1 κ83 24 s.toNatClampNeg f)).1 19).toInt [f, sg] := cvν.st g85.rb (Int.le_refl _) (Or.inl (by omega)) rfl
        refine ⟨TR.mi pν.ps rfl rfl s0 (by omega), ?_⟩
        generalize mA1 κ83 24 s.toNatClampNeg f = κ86 at *
        have lt95 : s.toInt < (κ86.1 19).toInt := by omega
        refine MC.mono (t_expect (by omega) p91.ps (by decide) (fun _ h => hT _ (p91.1.1.tr h))) (fun v96 κ101 h97 => ?_) (fun _ h => h)
        obtain ⟨q98, m99, a100⟩ := h97
        have p102 : TR (s.toInt) (0) 0 0 0 (-4) μ κ101 := p91.trS q98 (Or.inl (by decide)) rfl rfl rfl rfl (by omega)
        have k103 := k92.tr q98 (Or.inl (by decide)) s0
        have k104 := k93.tr q98 (Or.inl (by decide)) s0
        have cv105 : CVs κ101 (s.toInt + 1) ((κ101).1 19).toInt [f, sg] := cv94.st q98.rb (Int.le_refl _) (Or.inl (by omega)) m99
        have nd106 := nd89.tr q98 (by have := @ic s; omega) (by omega)
        have lt107 : s.toInt < (κ101.1 19).toInt := by omega
        have x111 := p102.px
        have u112 := p102.2
        have y113 := tT p102
        have z114 := px0 p102.ps
        refine MC.mono (hSt κ101 T h p102.ps (by omega) (by omega) (by omega) (fun _ h => hT _ (p102.1.1.tr h))) (fun r108 κ109 h110 => ?_) (fun _ h => h)
        obtain ⟨q115, g116, c117⟩ := h110
        have l118 := q115.l19
        have l119 := q115.l32
        have p120 : TR (s.toInt) (0) 0 0 0 (-4) μ κ109 := p102.trS q115 (Or.inl (by decide)) rfl rfl rfl rfl (by omega)
        have k121 := k103.tr q115 (Or.inl (by decide)) s0
        have k122 := k104.tr q115 (Or.inl (by decide)) s0
        have cv123 : CVs κ109 (s.toInt + 1) ((κ109).1 19).toInt [r108, f, sg] := cv105.add q115.rb (Int.le_refl _) (Or.inl (by omega)) (by omega) l118 (c117)
        have nd124 := nd106.tr q115 (by have := @ic s; omega) (by omega)
        have lt125 : s.toInt < (κ109.1 19).toInt := by omega
        have k126 : KL κ109 h s.toInt s 3 r108 := KL.of g116 (by omega) (Int.le_refl _) s0 (Or.inl (by omega))
        have g127 : TR s.toInt 0 0 0 0 0 κ109 (mA1 κ109 25 s.toNatClampNeg r108) := TR.put p120.ps s0 rfl rfl
        have e129 : ((mA1 κ109 25 s.toNatClampNeg r108).1 19).toInt = (κ109.1 19).toInt := rfl
        have e130 : ((mA1 κ109 25 s.toNatClampNeg r108).1 32).toInt = (κ109.1 32).toInt := rfl
        have sr132 : srt (mA1 κ109 25 s.toNatClampNeg r108) = srt κ109 := srt_off rfl
        have nd131 := nd124.pd (x := r108)
        have p133 : TR (s.toInt) (0) 0 0 0 (-4) μ (mA1 κ109 25 s.toNatClampNeg r108) := p120.trS g127 (Or.inr (Or.inl rfl)) rfl rfl rfl rfl (by omega)
        have k134 := k121.tr g127 (Or.inr rfl) s0
        have k135 := k122.tr g127 (Or.inr rfl) s0
        have k136 := k126.tr g127 (Or.inr rfl) s0
        have cv137 : CVs (mA1 κ109 25 s.toNatClampNeg r108) (s.toInt + 1) (((mA1 κ109 25 s.toNatClampNeg r108)).1 19).toInt [r108, f, sg] := cv123.st g127.rb (Int.le_refl _) (Or.inl (by omega)) rfl
        refine ⟨TR.mi p120.ps rfl rfl s0 (by omega), ?_⟩
        generalize mA1 κ109 25 s.toNatClampNeg r108 = κ128 at *
        have lt138 : s.toInt < (κ128.1 19).toInt := by omega
        refine MC.mono (c_line (by omega) p133.ps.1 p133.ps.at.1 p133.ps.at.2) (fun r139 κ140 h141 => ?_) (fun _ h => h)
        subst h141
        have g142 : TR s.toInt 0 0 0 0 0 κ140 (mA1 κ140 26 s.toNatClampNeg r139) := TR.put p133.ps s0 rfl rfl
        have e144 : ((mA1 κ140 26 s.toNatClampNeg r139).1 19).toInt = (κ140.1 19).toInt := rfl
        have e145 : ((mA1 κ140 26 s.toNatClampNeg r139).1 32).toInt = (κ140.1 32).toInt := rfl
        have sr147 : srt (mA1 κ140 26 s.toNatClampNeg r139) = srt κ140 := srt_off rfl
        have nd146 := nd131.pe (x := r139)
        have p148 : TR (s.toInt) (0) 0 0 0 (-4) μ (mA1 κ140 26 s.toNatClampNeg r139) := p133.trS g142 (Or.inr (Or.inl rfl)) rfl rfl rfl rfl (by omega)
        have k149 := k134.tr g142 (Or.inr rfl) s0
        have k150 := k135.tr g142 (Or.inr rfl) s0
        have k151 := k136.tr g142 (Or.inr rfl) s0
        have cv152 : CVs (mA1 κ140 26 s.toNatClampNeg r139) (s.toInt + 1) (((mA1 κ140 26 s.toNatClampNeg r139)).1 19).toInt [r108, f, sg] := cv137.st g142.rb (Int.le_refl _) (Or.inl (by omega)) rfl
        refine ⟨TR.mi p133.ps rfl rfl s0 (by omega), ?_⟩
        generalize mA1 κ140 26 s.toNatClampNeg r139 = κ143 at *
        have lt153 : s.toInt < (κ143.1 19).toInt := by omega
        refine MC.mono (t_expect (by omega) p148.ps (by decide) (fun _ h => hT _ (p148.1.1.tr h))) (fun v154 κ159 h155 => ?_) (fun _ h => h)
        obtain ⟨q156, m157, a158⟩ := h155
        have p160 : TR (s.toInt) (0) 0 0 0 (-6) μ κ159 := p148.trS q156 (Or.inl (by decide)) rfl rfl rfl rfl (by omega)
        have k161 := k149.tr q156 (Or.inl (by decide)) s0
        have k162 := k150.tr q156 (Or.inl (by decide)) s0
        have k163 := k151.tr q156 (Or.inl (by decide)) s0
        have cv164 : CVs κ159 (s.toInt + 1) ((κ159).1 19).toInt [r108, f, sg] := cv152.st q156.rb (Int.le_refl _) (Or.inl (by omega)) m157
        have nd165 := nd146.tr q156 (by have := @ic s; omega) (by omega)
        have lt166 : s.toInt < (κ159.1 19).toInt := by omega
        refine ⟨TR.mi p160.ps rfl rfl s0 (by omega), ?_⟩
        refine MC.mono (t_endName (by omega) p160.ps (fun _ h => hT _ (p160.1.1.tr h))) (fun v167 κ172 h168 => ?_) (fun _ h => h)
        obtain ⟨q169, m170, a171⟩ := h168
        have p173 : TR (s.toInt) (0) 0 0 0 (-8) μ κ172 := p160.trS q169 (Or.inl (by decide)) rfl rfl rfl rfl (by omega)
        have k174 := k161.tr q169 (Or.inl (by decide)) s0
        have k175 := k162.tr q169 (Or.inl (by decide)) s0
        have k176 := k163.tr q169 (Or.inl (by decide)) s0
        have cv177 : CVs κ172 (s.toInt + 1) ((κ172).1 19).toInt [r108, f, sg] := cv164.st q169.rb (Int.le_refl _) (Or.inl (by omega)) m170
        have nd178 := nd165.tr q169 (by have := @ic s; omega) (by omega)
        have lt179 : s.toInt < (κ172.1 19).toInt := by omega
        exact ⟨⟨p173.1, by have := p173.2; omega⟩, G.mk s0 (Int.le_refl _) lt179 nd178 (by decide) True.intro (Kd.up k174 (Nat.le_succ _)) (k175) (KL.up k176 (Nat.le_succ _)) True.intro, nd178.2.2.2.2.2.2, (CO.fin' (by omega) cv177 s0 ⟨fun h => Par.fd nd178 (by decide) h, fun h => Par.fc nd178 (by decide) h, fun h => Par.fb nd178 (by decide) h, True.intro⟩ lt179)⟩
      · skip
        have hw3 : ¬ srt κ83 = 203 := by rw [is_t hw]; decide
        refine MC.mono (c_line (by omega) pν.ps.1 at1.1 at1.2) (fun r7 ν7 h7 => ?_) (fun _ h => h)
        subst h7
        have g7 : TR (-1) 0 0 0 0 0 ν7 (mS1 ν7 34 r7) := TR.s34 pν.ps
        have p7 : TR s.toInt 0 0 0 0 (-2) μ (mS1 ν7 34 r7) := pν.trS g7 (Or.inl (by decide)) rfl rfl rfl rfl (by omega)
        have e19 : ((mS1 ν7 34 r7).1 19).toInt = (ν7.1 19).toInt := rfl
        have e32 : ((mS1 ν7 34 r7).1 32).toInt = (ν7.1 32).toInt := rfl
        have w7 : ¬ srt (mS1 ν7 34 r7) = 203 := hw3
        refine MC.mono (t_node (by omega) p7.ps (by omega)) (fun l ν8 h8 => ?_) (fun _ h => h)
        obtain ⟨q1, ⟨q2, l0⟩, q3, q4, q5, q6⟩ := h8
        have g8 := g7.tr q1 (Or.inl (by decide)) rfl rfl rfl rfl (Int.le_refl _)
        have p8 : TR s.toInt 0 0 0 0 (-1) μ ν8 := p7.trS q1 (Or.inl (by decide)) rfl rfl rfl rfl (by omega)
        have x8 := p8.px
        have u8 := p8.2
        have z8 := px0 p8.ps
        refine MC.mono (hV ν8 T h l p8.ps (by omega) (by omega) (by omega) (fun _ h => hT _ (p8.1.1.tr h)) l0 (by omega) (by rw [q5]; exact w7) q6) (fun _ ν9 h9 => ?_) (fun _ h => h)
        obtain ⟨v1, v2, v3, vc⟩ := h9
        have l9 := v1.l19
        have hcl := @ic l
        have g9 : TR (-1) 0 0 0 0 0 ν7 ν9 := g8.tr v1 (Or.inr (by omega)) rfl rfl rfl rfl (by omega)
        have p9 : TR s.toInt 0 0 0 0 (-2) μ ν9 := p8.trS v1 (Or.inr (Or.inr (by omega))) rfl rfl rfl rfl (by omega)
        refine MC.mono (t_expect (by omega) p9.ps (by decide) (fun _ h => hT _ (p9.1.1.tr h))) (fun _ ν10 h10 => ?_) (fun _ h => h)
        obtain ⟨m1, m2, m3⟩ := h10
        have g10 : TR (-1) 0 0 0 0 0 ν7 ν10 := g9.tr m1 (Or.inl (by decide)) rfl rfl rfl rfl (by omega)
        have p10 : TR s.toInt 0 0 0 0 (-2) μ ν10 := p9.trS m1 (Or.inl (by decide)) rfl rfl rfl rfl (by omega)
        have eG : G ν10 (h + 1) (bt (ν7.1 19).toInt (ν10.1 19).toInt) 19 l := (v2.tr m1 (Int.le_refl _) (Or.inl (by omega))).up (Nat.le_refl _) (by omega) (by omega)
        have n10 : ν10.2.1 27 l.toNatClampNeg = -1 := by rw [m1.rb 27 (by omega) (by omega) _ (by omega) (by omega)]; exact v3
        have u10 := p10.2
        have at10 := p10.ps.at
        have nd10 := ndν.tr g10 (by omega) (by omega)
        have k10 := gν.tr g10 hn2 (Or.inl (by omega))
        have cS10 := cS.rb g10.rb hn2 (Or.inl (by omega))
        have hB10 := hB.rb g10.rb (Int.le_refl _) (Or.inl (by omega))
        have eC : CO ν10 (ν7.1 19).toInt (ν10.1 19).toInt l := CO.lh (vc.rb m1.rb (Int.le_refl _) (Or.inl (by omega))) (by omega) (by omega)
        have l9' := v1.l32
        refine ⟨fun hx1 => ?_, fun hx1 => ?_⟩
        · rcases hO.sg with ⟨w1, -⟩ | ⟨w1, w2⟩
          · rw [w1] at hx1; exact absurd hx1 (by decide)
          obtain ⟨j1, j2, j3⟩ := hO.in w2
          have hc2 := @ic x4
          have g11 : TR x4.toInt 0 0 0 0 0 ν10 (mA1 ν10 27 x4.toNatClampNeg l) := TR.put p10.ps w2 rfl rfl
          exact ⟨TR.mi p10.ps rfl rfl w2 (by omega), ih n0 nm sg f l _ hn1 (by show _ ≤ (ν10.1 19).toInt; omega) (by show ((μ.1 8).toInt - (ν10.1 32).toInt).toNat < j; omega) (p10.trS g11 (Or.inr (Or.inr (by omega))) rfl rfl rfl rfl (by omega)) (by show _ < (ν10.1 19).toInt; omega) (nd10.off (by omega)) (k10.put (Or.inr (by omega))) (hO.add w2 g10 (by omega) eG n10) (cS10.rb g11.rb (by omega) (Or.inr (by omega))) (hB10.add w2 j2 j3 j1 eC l0 g10.l19 (by rw [g10.rb 27 (by omega) (by omega) _ (by omega) (by omega)]; exact hO.nn w2))⟩
        · have hf : f = -1 := by
            rcases hO.sg with ⟨w1, -⟩ | ⟨w1, -⟩
            · exact w1
            · omega
          refine ih n0 nm sg l l _ hn1 (by omega) (by omega) p10 (by omega) nd10 k10 (OL.one (eG.up (Nat.le_refl _) (by omega) (Int.le_refl _)) (by omega) n10) cS10 ?_
          rcases hB10 with ⟨-, w⟩ | ⟨w, -⟩
          · exact OC.one (eC.ahead w (by omega)) l0
          · rw [hf] at w; exact absurd w (by decide)
  refine me_meth (by omega) rfl (v_procedure_0 _ _ ?_)
  have g180 : TR s.toInt 0 0 0 0 0 μ (mA1 μ 20 s.toNatClampNeg 9) := TR.put p0.ps s0 rfl rfl
  have e182 : ((mA1 μ 20 s.toNatClampNeg 9).1 19).toInt = (μ.1 19).toInt := rfl
  have e183 : ((mA1 μ 20 s.toNatClampNeg 9).1 32).toInt = (μ.1 32).toInt := rfl
  have sr185 : srt (mA1 μ 20 s.toNatClampNeg 9) = srt μ := srt_off rfl
  have nd184 := nd0.pk (x := 9)
  have p186 : TR (s.toInt) (0) 0 0 0 (0) μ (mA1 μ 20 s.toNatClampNeg 9) := p0.trS g180 (Or.inr (Or.inl rfl)) rfl rfl rfl rfl (by omega)
  have cv187 : CVs (mA1 μ 20 s.toNatClampNeg 9) (s.toInt + 1) (((mA1 μ 20 s.toNatClampNeg 9)).1 19).toInt [] := cv0.st g180.rb (Int.le_refl _) (Or.inl (by omega)) rfl
  refine ⟨TR.mi p0.ps rfl rfl s0 (by omega), ?_⟩
  generalize mA1 μ 20 s.toNatClampNeg 9 = κ181 at *
  have lt188 : s.toInt < (κ181.1 19).toInt := by omega
  have hs4 : ¬ srt κ181 = 203 := by rw [sr185]; exact hs3
  refine MC.mono (t_next (by omega) p186.ps (hs4) (fun _ h => hT _ (p186.1.1.tr h))) (fun v189 κ194 h190 => ?_) (fun _ h => h)
  obtain ⟨q191, m192, a193⟩ := h190
  have p195 : TR (s.toInt) (0) 0 0 0 (-2) μ κ194 := p186.trS q191 (Or.inl (by decide)) rfl rfl rfl rfl (by omega)
  have cv196 : CVs κ194 (s.toInt + 1) ((κ194).1 19).toInt [] := cv187.st q191.rb (Int.le_refl _) (Or.inl (by omega)) m192
  have nd197 := nd184.tr q191 (by have := @ic s; omega) (by omega)
  have lt198 : s.toInt < (κ194.1 19).toInt := by omega
  refine MC.mono (c_line (by omega) p195.ps.1 p195.ps.at.1 p195.ps.at.2) (fun r199 κ200 h201 => ?_) (fun _ h => h)
  subst h201
  have g202 : TR s.toInt 0 0 0 0 0 κ200 (mA1 κ200 31 s.toNatClampNeg r199) := TR.put p195.ps s0 rfl rfl
  have e204 : ((mA1 κ200 31 s.toNatClampNeg r199).1 19).toInt = (κ200.1 19).toInt := rfl
  have e205 : ((mA1 κ200 31 s.toNatClampNeg r199).1 32).toInt = (κ200.1 32).toInt := rfl
  have sr207 : srt (mA1 κ200 31 s.toNatClampNeg r199) = srt κ200 := srt_off rfl
  have nd206 := nd197.p31 (x := r199)
  have p208 : TR (s.toInt) (0) 0 0 0 (-2) μ (mA1 κ200 31 s.toNatClampNeg r199) := p195.trS g202 (Or.inr (Or.inl rfl)) rfl rfl rfl rfl (by omega)
  have cv209 : CVs (mA1 κ200 31 s.toNatClampNeg r199) (s.toInt + 1) (((mA1 κ200 31 s.toNatClampNeg r199)).1 19).toInt [] := cv196.st g202.rb (Int.le_refl _) (Or.inl (by omega)) rfl
  refine ⟨TR.mi p195.ps rfl rfl s0 (by omega), ?_⟩
  generalize mA1 κ200 31 s.toNatClampNeg r199 = κ203 at *
  have lt210 : s.toInt < (κ203.1 19).toInt := by omega
  refine MC.mono (t_name (by omega) p208.ps (fun _ h => hT _ (p208.1.1.tr h))) (fun v211 κ216 h212 => ?_) (fun _ h => h)
  obtain ⟨q213, m214, a215⟩ := h212
  have p217 : TR (s.toInt) (0) 0 0 0 (-4) μ κ216 := p208.trS q213 (Or.inl (by decide)) rfl rfl rfl rfl (by omega)
  have cv218 : CVs κ216 (s.toInt + 1) ((κ216).1 19).toInt [] := cv209.st q213.rb (Int.le_refl _) (Or.inl (by omega)) m214
  have nd219 := nd206.tr q213 (by have := @ic s; omega) (by omega)
  have lt220 : s.toInt < (κ216.1 19).toInt := by omega
  have g221 : TR s.toInt 0 0 0 0 0 κ216 (mA1 κ216 22 s.toNatClampNeg v211) := TR.put p217.ps s0 rfl rfl
  have e223 : ((mA1 κ216 22 s.toNatClampNeg v211).1 19).toInt = (κ216.1 19).toInt := rfl
  have e224 : ((mA1 κ216 22 s.toNatClampNeg v211).1 32).toInt = (κ216.1 32).toInt := rfl
  have sr226 : srt (mA1 κ216 22 s.toNatClampNeg v211) = srt κ216 := srt_off rfl
  have nd225 := nd219.pa (x := v211)
  have p227 : TR (s.toInt) (0) 0 0 0 (-4) μ (mA1 κ216 22 s.toNatClampNeg v211) := p217.trS g221 (Or.inr (Or.inl rfl)) rfl rfl rfl rfl (by omega)
  have cv228 : CVs (mA1 κ216 22 s.toNatClampNeg v211) (s.toInt + 1) (((mA1 κ216 22 s.toNatClampNeg v211)).1 19).toInt [] := cv218.st g221.rb (Int.le_refl _) (Or.inl (by omega)) rfl
  refine ⟨TR.mi p217.ps rfl rfl s0 (by omega), ?_⟩
  generalize mA1 κ216 22 s.toNatClampNeg v211 = κ222 at *
  have lt229 : s.toInt < (κ222.1 19).toInt := by omega
  have x233 := p227.px
  have u234 := p227.2
  have y235 := tT p227
  have z236 := px0 p227.ps
  refine MC.mono (hG κ222 T h p227.ps (by omega) (by omega) (by omega) (fun _ h => hT _ (p227.1.1.tr h))) (fun r230 κ231 h232 => ?_) (fun _ h => h)
  obtain ⟨⟨z239, z240, z241, z242, z243⟩, c244⟩ := h232
  have q237 : TR (-1) 0 0 0 0 0 κ222 κ231 := ⟨z239, by omega⟩
  have g238 := z242
  have l245 := q237.l19
  have l246 := q237.l32
  have p247 : TR (s.toInt) (0) 0 0 0 (-4) μ κ231 := p227.trS q237 (Or.inl (by decide)) rfl rfl rfl rfl (by omega)
  have cv248 : CVs κ231 (s.toInt + 1) ((κ231).1 19).toInt [r230] := cv228.add q237.rb (Int.le_refl _) (Or.inl (by omega)) (by omega) l245 (LCO.of z242.in.1 c244)
  have nd249 := nd225.tr q237 (by have := @ic s; omega) (by omega)
  have lt250 : s.toInt < (κ231.1 19).toInt := by omega
  have k251 : Kd κ231 h s.toInt s 8 r230 := Kd.of g238 (by omega) (Int.le_refl _) s0 (Or.inl (by omega))
  have nS : (κ231.1 19).toInt ≤ (κ231.1 19).toInt := Int.le_refl _
  have n0e : ∃ n0 : Int, n0 = (κ231.1 19).toInt := ⟨_, rfl⟩
  obtain ⟨n0, n0e⟩ := n0e
  have ltS : s.toInt < n0 := by omega
  have g252 : TR s.toInt 0 0 0 0 0 κ231 (mA1 κ231 23 s.toNatClampNeg r230) := TR.put p247.ps s0 rfl rfl
  have e254 : ((mA1 κ231 23 s.toNatClampNeg r230).1 19).toInt = (κ231.1 19).toInt := rfl
  have e255 : ((mA1 κ231 23 s.toNatClampNeg r230).1 32).toInt = (κ231.1 32).toInt := rfl
  have sr257 : srt (mA1 κ231 23 s.toNatClampNeg r230) = srt κ231 := srt_off rfl
  have nd256 := nd249.pb (x := r230)
  have p258 : TR (s.toInt) (0) 0 0 0 (-4) μ (mA1 κ231 23 s.toNatClampNeg r230) := p247.trS g252 (Or.inr (Or.inl rfl)) rfl rfl rfl rfl (by omega)
  have k259 := k251.tr g252 (Or.inr rfl) s0
  have cv260 : CVs (mA1 κ231 23 s.toNatClampNeg r230) (s.toInt + 1) (((mA1 κ231 23 s.toNatClampNeg r230)).1 19).toInt [r230] := cv248.st g252.rb (Int.le_refl _) (Or.inl (by omega)) rfl
  have co261 := c244.rb g252.rb (by omega) (Or.inl (by omega))
  have gg262 := g238.tr g252 (by omega) (Or.inl (by omega))
  refine ⟨TR.mi p247.ps rfl rfl s0 (by omega), ?_⟩
  generalize mA1 κ231 23 s.toNatClampNeg r230 = κ253 at *
  have lt263 : s.toInt < (κ253.1 19).toInt := by omega
  refine ⟨fun _ => ?_, fun _ => ?_⟩
  · skip
    refine MC.mono (t_expect (by omega) p258.ps (by decide) (fun _ h => hT _ (p258.1.1.tr h))) (fun v264 κ269 h265 => ?_) (fun _ h => h)
    obtain ⟨q266, m267, a268⟩ := h265
    have p270 : TR (s.toInt) (0) 0 0 0 (-6) μ κ269 := p258.trS q266 (Or.inl (by decide)) rfl rfl rfl rfl (by omega)
    have k271 := k259.tr q266 (Or.inl (by decide)) s0
    have cv272 : CVs κ269 (s.toInt + 1) ((κ269).1 19).toInt [r230] := cv260.st q266.rb (Int.le_refl _) (Or.inl (by omega)) m267
    have co273 := co261.rb q266.rb (by omega) (Or.inl (by omega))
    have gg274 := gg262.tr q266 (by omega) (Or.inl (by omega))
    have nd275 := nd256.tr q266 (by have := @ic s; omega) (by omega)
    have lt276 : s.toInt < (κ269.1 19).toInt := by omega
    exact key _ n0 _ _ (-1) (-1) _ ltS (by omega) (Nat.lt_succ_self _) ⟨p270.1, by have := p270.2; omega⟩ lt276 nd275 (gg274.up (Nat.le_refl _) (by omega) (by omega)) OL.nil (CO.lh co273 (by omega) (by omega)) (Or.inl ⟨rfl, NS.nil (by omega)⟩)
  · skip
    exact ⟨⟨p258.1, by have := p258.2; omega⟩, G.mk s0 (Int.le_refl _) lt263 nd256 (by decide) True.intro (Kd.up k259 (Nat.le_succ _)) ⟨0, rfl⟩ ⟨0, rfl⟩ True.intro, nd256.2.2.2.2.2.2, (CO.fin' (by omega) cv260 s0 ⟨fun h => Par.fb nd256 (by decide) h, True.intro⟩ lt263)⟩
theorem st_declaration (hY : NodC X W P 312 0 9 0 d) (hL : NodC X W P 313 21 14 3 d) (hV : VarC X W P d) (hPr : PrC X W P d) : DeC X W P (d + 1) := fun μ T h9 x1 hS hd hh hn hT hs3 => by
  have hp := px0 hS
  have h0 := hS.2.2.2.2.1
  have at0 := hS.at
  obtain ⟨h, rfl⟩ : ∃ h, h9 = h + 1 := ⟨h9 - 1, by omega⟩
  refine me_meth (by omega) rfl (v_declaration_0 _ (MC.mono (c_line (by omega) hS.1 hS.at.1 hS.at.2) (fun r1 ν h1 => ?_) (fun _ h => h)))
  subst h1
  have g1 : TR (-1) 0 0 0 0 0 ν (mS1 ν 34 r1) := TR.s34 hS
  have e19 : ((mS1 ν 34 r1).1 19).toInt = (ν.1 19).toInt := rfl
  have e32 : ((mS1 ν 34 r1).1 32).toInt = (ν.1 32).toInt := rfl
  refine MC.mono (t_node (by omega) g1.ps (by omega)) (fun s κ hk => ?_) (fun _ h => h)
  obtain ⟨q1, ⟨q2, s0⟩, q3, q4, q5, nd0⟩ := hk
  have hcs := @ic s
  have s9 : s.toInt < 15990 := by omega
  have p0 : TR (-1) 0 0 0 0 1 ν κ := g1.tr q1 (Or.inl (by decide)) rfl rfl rfl rfl (by omega)
  have lt0 : s.toInt < (κ.1 19).toInt := by omega
  have hk3 : ¬ srt κ = 203 := by rw [q5]; exact hs3
  have xκ := p0.px
  have zκ := px0 p0.ps
  have uκ := p0.2
  have cv0 : CVs κ (s.toInt + 1) (κ.1 19).toInt [] := CVs.nil (by omega)
  refine MC.mono (c_is (by omega) p0.ps) (fun r277 κ278 h279 => ?_) (fun _ h => h)
  obtain ⟨rfl, rfl⟩ := h279
  refine ⟨fun hA => ?_, fun hA => ?_⟩
  · skip
    refine MC.mono (c_is (by omega) p0.ps) (fun r280 κ281 h282 => ?_) (fun _ h => h)
    obtain ⟨rfl, rfl⟩ := h282
    refine ⟨fun hB => ?_, fun hB => ?_⟩
    · skip
      refine MC.mono (c_is (by omega) p0.ps) (fun r283 κ284 h285 => ?_) (fun _ h => h)
      obtain ⟨rfl, rfl⟩ := h285
      refine ⟨fun hC => ?_, fun hC => ?_⟩
      · skip
        refine MC.mono (c_is (by omega) p0.ps) (fun r286 κ287 h288 => ?_) (fun _ h => h)
        obtain ⟨rfl, rfl⟩ := h288
        refine ⟨fun hD => ?_, fun hD => ?_⟩
        · skip
          refine MC.mono (hPr κ287 T h s x1 p0.ps (by omega) (by omega) (by omega) (fun _ h => hT _ (p0.1.1.tr h)) s0 (by omega) hk3 nd0) (fun _ ζ hz => ?_) (fun _ h => h)
          obtain ⟨z1, z2, z3, z4⟩ := hz
          have lz := z1.l19
          have pz : TR (-1) 0 0 0 0 0 ν ζ := p0.tr z1 (Or.inr (by omega)) rfl rfl rfl rfl (by omega)
          refine MC.mono (t_expect (by omega) pz.ps (by decide) (fun _ h => hT _ (pz.1.1.tr h))) (fun _ η hη => ?_) (fun _ h => h)
          obtain ⟨m1, m2, m3⟩ := hη
          have lz2 := z1.l32
          exact ⟨pz.tr m1 (Or.inl (by decide)) rfl rfl rfl rfl (by omega), by omega, ((z2).tr m1 (Int.le_refl _) (Or.inl (by omega))).up (Nat.le_refl _) (by omega) (by omega), by rw [m1.rb 27 (by omega) (by omega) _ (by omega) (by omega)]; exact z3, CO.lh (z4.rb m1.rb (Int.le_refl _) (Or.inl (by omega))) (by omega) (by omega)⟩
        · skip
          have g289 : TR s.toInt 0 0 0 0 0 κ287 (mA1 κ287 20 s.toNatClampNeg 8) := TR.put p0.ps s0 rfl rfl
          have e291 : ((mA1 κ287 20 s.toNatClampNeg 8).1 19).toInt = (κ287.1 19).toInt := rfl
          have e292 : ((mA1 κ287 20 s.toNatClampNeg 8).1 32).toInt = (κ287.1 32).toInt := rfl
          have sr294 : srt (mA1 κ287 20 s.toNatClampNeg 8) = srt κ287 := srt_off rfl
          have nd293 := nd0.pk (x := 8)
          have p295 : TR (-1) (0) 0 0 0 (1) ν (mA1 κ287 20 s.toNatClampNeg 8) := p0.trS g289 (Or.inr (Or.inr (by omega))) rfl rfl rfl rfl (by omega)
          have cv296 : CVs (mA1 κ287 20 s.toNatClampNeg 8) (s.toInt + 1) (((mA1 κ287 20 s.toNatClampNeg 8)).1 19).toInt [] := cv0.st g289.rb (Int.le_refl _) (Or.inl (by omega)) rfl
          refine ⟨TR.mi p0.ps rfl rfl s0 (by omega), ?_⟩
          generalize mA1 κ287 20 s.toNatClampNeg 8 = κ290 at *
          have lt297 : s.toInt < (κ290.1 19).toInt := by omega
          have hk4 : ¬ srt κ290 = 203 := by rw [sr294]; exact hk3
          refine MC.mono (t_next (by omega) p295.ps (hk4) (fun _ h => hT _ (p295.1.1.tr h))) (fun v298 κ303 h299 => ?_) (fun _ h => h)
          obtain ⟨q300, m301, a302⟩ := h299
          have p304 : TR (-1) (0) 0 0 0 (-1) ν κ303 := p295.trS q300 (Or.inl (by decide)) rfl rfl rfl rfl (by omega)
          have cv305 : CVs κ303 (s.toInt + 1) ((κ303).1 19).toInt [] := cv296.st q300.rb (Int.le_refl _) (Or.inl (by omega)) m301
          have nd306 := nd293.tr q300 (by have := @ic s; omega) (by omega)
          have lt307 : s.toInt < (κ303.1 19).toInt := by omega
          refine MC.mono (c_line (by omega) p304.ps.1 p304.ps.at.1 p304.ps.at.2) (fun r308 κ309 h310 => ?_) (fun _ h => h)
          subst h310
          have g311 : TR s.toInt 0 0 0 0 0 κ309 (mA1 κ309 31 s.toNatClampNeg r308) := TR.put p304.ps s0 rfl rfl
          have e313 : ((mA1 κ309 31 s.toNatClampNeg r308).1 19).toInt = (κ309.1 19).toInt := rfl
          have e314 : ((mA1 κ309 31 s.toNatClampNeg r308).1 32).toInt = (κ309.1 32).toInt := rfl
          have sr316 : srt (mA1 κ309 31 s.toNatClampNeg r308) = srt κ309 := srt_off rfl
          have nd315 := nd306.p31 (x := r308)
          have p317 : TR (-1) (0) 0 0 0 (-1) ν (mA1 κ309 31 s.toNatClampNeg r308) := p304.trS g311 (Or.inr (Or.inr (by omega))) rfl rfl rfl rfl (by omega)
          have cv318 : CVs (mA1 κ309 31 s.toNatClampNeg r308) (s.toInt + 1) (((mA1 κ309 31 s.toNatClampNeg r308)).1 19).toInt [] := cv305.st g311.rb (Int.le_refl _) (Or.inl (by omega)) rfl
          refine ⟨TR.mi p304.ps rfl rfl s0 (by omega), ?_⟩
          generalize mA1 κ309 31 s.toNatClampNeg r308 = κ312 at *
          have lt319 : s.toInt < (κ312.1 19).toInt := by omega
          refine MC.mono (t_name (by omega) p317.ps (fun _ h => hT _ (p317.1.1.tr h))) (fun v320 κ325 h321 => ?_) (fun _ h => h)
          obtain ⟨q322, m323, a324⟩ := h321
          have p326 : TR (-1) (0) 0 0 0 (-3) ν κ325 := p317.trS q322 (Or.inl (by decide)) rfl rfl rfl rfl (by omega)
          have cv327 : CVs κ325 (s.toInt + 1) ((κ325).1 19).toInt [] := cv318.st q322.rb (Int.le_refl _) (Or.inl (by omega)) m323
          have nd328 := nd315.tr q322 (by have := @ic s; omega) (by omega)
          have lt329 : s.toInt < (κ325.1 19).toInt := by omega
          have g330 : TR s.toInt 0 0 0 0 0 κ325 (mA1 κ325 22 s.toNatClampNeg v320) := TR.put p326.ps s0 rfl rfl
          have e332 : ((mA1 κ325 22 s.toNatClampNeg v320).1 19).toInt = (κ325.1 19).toInt := rfl
          have e333 : ((mA1 κ325 22 s.toNatClampNeg v320).1 32).toInt = (κ325.1 32).toInt := rfl
          have sr335 : srt (mA1 κ325 22 s.toNatClampNeg v320) = srt κ325 := srt_off rfl
          have nd334 := nd328.pa (x := v320)
          have p336 : TR (-1) (0) 0 0 0 (-3) ν (mA1 κ325 22 s.toNatClampNeg v320) := p326.trS g330 (Or.inr (Or.inr (by omega))) rfl rfl rfl rfl (by omega)
          have cv337 : CVs (mA1 κ325 22 s.toNatClampNeg v320) (s.toInt + 1) (((mA1 κ325 22 s.toNatClampNeg v320)).1 19).toInt [] := cv327.st g330.rb (Int.le_refl _) (Or.inl (by omega)) rfl
          refine ⟨TR.mi p326.ps rfl rfl s0 (by omega), ?_⟩
          generalize mA1 κ325 22 s.toNatClampNeg v320 = κ331 at *
          have lt338 : s.toInt < (κ331.1 19).toInt := by omega
          refine MC.mono (t_expect (by omega) p336.ps (by decide) (fun _ h => hT _ (p336.1.1.tr h))) (fun v339 κ344 h340 => ?_) (fun _ h => h)
          obtain ⟨q341, m342, a343⟩ := h340
          have p345 : TR (-1) (0) 0 0 0 (-5) ν κ344 := p336.trS q341 (Or.inl (by decide)) rfl rfl rfl rfl (by omega)
          have cv346 : CVs κ344 (s.toInt + 1) ((κ344).1 19).toInt [] := cv337.st q341.rb (Int.le_refl _) (Or.inl (by omega)) m342
          have nd347 := nd334.tr q341 (by have := @ic s; omega) (by omega)
          have lt348 : s.toInt < (κ344.1 19).toInt := by omega
          exact ⟨⟨p345.1, by have := p345.2; omega⟩, by omega, (G.mk (lo := s.toInt) s0 (Int.le_refl _) lt348 nd347 (by decide) True.intro True.intro True.intro True.intro True.intro : G κ344 (h + 1) (bt s.toInt (κ344.1 19).toInt) 4 s).up (Nat.le_refl _) (by omega) (Int.le_refl _), nd347.2.2.2.2.2.2, (CO.fin' (by omega) cv346 s0 True.intro lt348)⟩
      · skip
        have g349 : TR s.toInt 0 0 0 0 0 κ284 (mA1 κ284 20 s.toNatClampNeg 7) := TR.put p0.ps s0 rfl rfl
        have e351 : ((mA1 κ284 20 s.toNatClampNeg 7).1 19).toInt = (κ284.1 19).toInt := rfl
        have e352 : ((mA1 κ284 20 s.toNatClampNeg 7).1 32).toInt = (κ284.1 32).toInt := rfl
        have sr354 : srt (mA1 κ284 20 s.toNatClampNeg 7) = srt κ284 := srt_off rfl
        have nd353 := nd0.pk (x := 7)
        have p355 : TR (-1) (0) 0 0 0 (1) ν (mA1 κ284 20 s.toNatClampNeg 7) := p0.trS g349 (Or.inr (Or.inr (by omega))) rfl rfl rfl rfl (by omega)
        have cv356 : CVs (mA1 κ284 20 s.toNatClampNeg 7) (s.toInt + 1) (((mA1 κ284 20 s.toNatClampNeg 7)).1 19).toInt [] := cv0.st g349.rb (Int.le_refl _) (Or.inl (by omega)) rfl
        refine ⟨TR.mi p0.ps rfl rfl s0 (by omega), ?_⟩
        generalize mA1 κ284 20 s.toNatClampNeg 7 = κ350 at *
        have lt357 : s.toInt < (κ350.1 19).toInt := by omega
        have hk4 : ¬ srt κ350 = 203 := by rw [sr354]; exact hk3
        have xc := p355.px
        have zc := px0 p355.ps
        refine MC.mono (hV κ350 T h s p355.ps (by omega) (by omega) (by omega) (fun _ h => hT _ (p355.1.1.tr h)) s0 (by omega) hk4 nd353) (fun _ ζ hz => ?_) (fun _ h => h)
        obtain ⟨z1, z2, z3, z4⟩ := hz
        have lz := z1.l19
        have pz : TR (-1) 0 0 0 0 0 ν ζ := p355.tr z1 (Or.inr (by omega)) rfl rfl rfl rfl (by omega)
        refine MC.mono (t_expect (by omega) pz.ps (by decide) (fun _ h => hT _ (pz.1.1.tr h))) (fun _ η hη => ?_) (fun _ h => h)
        obtain ⟨m1, m2, m3⟩ := hη
        have lz2 := z1.l32
        exact ⟨pz.tr m1 (Or.inl (by decide)) rfl rfl rfl rfl (by omega), by omega, ((z2.dv).tr m1 (Int.le_refl _) (Or.inl (by omega))).up (Nat.le_refl _) (by omega) (by omega), by rw [m1.rb 27 (by omega) (by omega) _ (by omega) (by omega)]; exact z3, CO.lh (z4.rb m1.rb (Int.le_refl _) (Or.inl (by omega))) (by omega) (by omega)⟩
    · skip
      refine MC.mono (t_next (by omega) p0.ps (hk3) (fun _ h => hT _ (p0.1.1.tr h))) (fun v358 κ363 h359 => ?_) (fun _ h => h)
      obtain ⟨q360, m361, a362⟩ := h359
      have p364 : TR (-1) (0) 0 0 0 (-1) ν κ363 := p0.trS q360 (Or.inl (by decide)) rfl rfl rfl rfl (by omega)
      have cv365 : CVs κ363 (s.toInt + 1) ((κ363).1 19).toInt [] := cv0.st q360.rb (Int.le_refl _) (Or.inl (by omega)) m361
      have nd366 := nd0.tr q360 (by have := @ic s; omega) (by omega)
      have lt367 : s.toInt < (κ363.1 19).toInt := by omega
      have x371 := p364.px
      have u372 := p364.2
      have y373 := tT p364
      have z374 := px0 p364.ps
      refine MC.mono (c_qname (by omega) p364.ps (by omega) (fun _ h => hT _ (p364.1.1.tr h))) (fun r368 κ369 h370 => ?_) (fun _ h => h)
      obtain ⟨⟨z377, z378, z379, z380, z381⟩, z382, z383⟩ := h370
      have q375 : TR (-1) 0 0 0 0 0 κ363 κ369 := ⟨z377, by omega⟩
      have g376 := z380.up (h' := h) (by omega) (Int.le_refl _) (Int.le_refl _)
      have l384 := q375.l19
      have l385 := q375.l32
      have p386 : TR (-1) (0) 0 0 0 (-1) ν κ369 := p364.trS q375 (Or.inl (by decide)) rfl rfl rfl rfl (by omega)
      have cv387 : CVs κ369 (s.toInt + 1) ((κ369).1 19).toInt [] := cv365.ns q375.rb (Int.le_refl _) (Or.inl (by omega)) l384 z383
      have nd388 := nd366.tr q375 (by have := @ic s; omega) (by omega)
      have lt389 : s.toInt < (κ369.1 19).toInt := by omega
      have k390 : Kd κ369 h s.toInt s 7 r368 := Kd.of g376 (by omega) (Int.le_refl _) s0 (Or.inl (by omega))
      have g391 : TR s.toInt 0 0 0 0 0 κ369 (mA1 κ369 22 s.toNatClampNeg r368) := TR.put p386.ps s0 rfl rfl
      have e393 : ((mA1 κ369 22 s.toNatClampNeg r368).1 19).toInt = (κ369.1 19).toInt := rfl
      have e394 : ((mA1 κ369 22 s.toNatClampNeg r368).1 32).toInt = (κ369.1 32).toInt := rfl
      have sr396 : srt (mA1 κ369 22 s.toNatClampNeg r368) = srt κ369 := srt_off rfl
      have nd395 := nd388.pa (x := r368)
      have p397 : TR (-1) (0) 0 0 0 (-1) ν (mA1 κ369 22 s.toNatClampNeg r368) := p386.trS g391 (Or.inr (Or.inr (by omega))) rfl rfl rfl rfl (by omega)
      have k398 := k390.tr g391 (Or.inr rfl) s0
      have cv399 : CVs (mA1 κ369 22 s.toNatClampNeg r368) (s.toInt + 1) (((mA1 κ369 22 s.toNatClampNeg r368)).1 19).toInt [] := cv387.st g391.rb (Int.le_refl _) (Or.inl (by omega)) rfl
      refine ⟨TR.mi p386.ps rfl rfl s0 (by omega), ?_⟩
      generalize mA1 κ369 22 s.toNatClampNeg r368 = κ392 at *
      have lt400 : s.toInt < (κ392.1 19).toInt := by omega
      refine MC.mono (c_is (by omega) p397.ps) (fun r401 κ402 h403 => ?_) (fun _ h => h)
      obtain ⟨rfl, rfl⟩ := h403
      refine ⟨fun hC => ?_, fun hC => ?_⟩
      · skip
        have g404 : TR s.toInt 0 0 0 0 0 κ402 (mA1 κ402 20 s.toNatClampNeg 6) := TR.put p397.ps s0 rfl rfl
        have e406 : ((mA1 κ402 20 s.toNatClampNeg 6).1 19).toInt = (κ402.1 19).toInt := rfl
        have e407 : ((mA1 κ402 20 s.toNatClampNeg 6).1 32).toInt = (κ402.1 32).toInt := rfl
        have sr409 : srt (mA1 κ402 20 s.toNatClampNeg 6) = srt κ402 := srt_off rfl
        have nd408 := nd395.pk (x := 6)
        have p410 : TR (-1) (0) 0 0 0 (-1) ν (mA1 κ402 20 s.toNatClampNeg 6) := p397.trS g404 (Or.inr (Or.inr (by omega))) rfl rfl rfl rfl (by omega)
        have k411 := k398.tr g404 (Or.inr rfl) s0
        have cv412 : CVs (mA1 κ402 20 s.toNatClampNeg 6) (s.toInt + 1) (((mA1 κ402 20 s.toNatClampNeg 6)).1 19).toInt [] := cv399.st g404.rb (Int.le_refl _) (Or.inl (by omega)) rfl
        refine ⟨TR.mi p397.ps rfl rfl s0 (by omega), ?_⟩
        generalize mA1 κ402 20 s.toNatClampNeg 6 = κ405 at *
        have lt413 : s.toInt < (κ405.1 19).toInt := by omega
        refine MC.mono (c_is (by omega) p410.ps) (fun r414 κ415 h416 => ?_) (fun _ h => h)
        obtain ⟨rfl, rfl⟩ := h416
        refine ⟨fun hD => ?_, fun hD => absurd (sr409.symm.trans (is_t hD)) (is_f hC)⟩
        refine MC.mono (t_expect (by omega) p410.ps (by decide) (fun _ h => hT _ (p410.1.1.tr h))) (fun v417 κ422 h418 => ?_) (fun _ h => h)
        obtain ⟨q419, m420, a421⟩ := h418
        have p423 : TR (-1) (0) 0 0 0 (-3) ν κ422 := p410.trS q419 (Or.inl (by decide)) rfl rfl rfl rfl (by omega)
        have k424 := k411.tr q419 (Or.inl (by decide)) s0
        have cv425 : CVs κ422 (s.toInt + 1) ((κ422).1 19).toInt [] := cv412.st q419.rb (Int.le_refl _) (Or.inl (by omega)) m420
        have nd426 := nd408.tr q419 (by have := @ic s; omega) (by omega)
        have lt427 : s.toInt < (κ422.1 19).toInt := by omega
        have x431 := p423.px
        have u432 := p423.2
        have y433 := tT p423
        have z434 := px0 p423.ps
        refine MC.mono (hL κ422 T h p423.ps (by omega) (by omega) (by omega) (fun _ h => hT _ (p423.1.1.tr h))) (fun r428 κ429 h430 => ?_) (fun _ h => h)
        obtain ⟨⟨z437, z438, z439, z440, z441⟩, c442⟩ := h430
        have q435 : TR (-1) 0 0 0 0 0 κ422 κ429 := ⟨z437, by omega⟩
        have g436 := z440
        have l443 := q435.l19
        have l444 := q435.l32
        have p445 : TR (-1) (0) 0 0 0 (-3) ν κ429 := p423.trS q435 (Or.inl (by decide)) rfl rfl rfl rfl (by omega)
        have k446 := k424.tr q435 (Or.inl (by decide)) s0
        have cv447 : CVs κ429 (s.toInt + 1) ((κ429).1 19).toInt [r428] := cv425.add q435.rb (Int.le_refl _) (Or.inl (by omega)) (by omega) l443 (LCO.of z440.in.1 c442)
        have nd448 := nd426.tr q435 (by have := @ic s; omega) (by omega)
        have lt449 : s.toInt < (κ429.1 19).toInt := by omega
        have k450 : Kd κ429 h s.toInt s 21 r428 := Kd.of g436 (by omega) (Int.le_refl _) s0 (Or.inl (by omega))
        have g451 : TR s.toInt 0 0 0 0 0 κ429 (mA1 κ429 23 s.toNatClampNeg r428) := TR.put p445.ps s0 rfl rfl
        have e453 : ((mA1 κ429 23 s.toNatClampNeg r428).1 19).toInt = (κ429.1 19).toInt := rfl
        have e454 : ((mA1 κ429 23 s.toNatClampNeg r428).1 32).toInt = (κ429.1 32).toInt := rfl
        have sr456 : srt (mA1 κ429 23 s.toNatClampNeg r428) = srt κ429 := srt_off rfl
        have nd455 := nd448.pb (x := r428)
        have p457 : TR (-1) (0) 0 0 0 (-3) ν (mA1 κ429 23 s.toNatClampNeg r428) := p445.trS g451 (Or.inr (Or.inr (by omega))) rfl rfl rfl rfl (by omega)
        have k458 := k446.tr g451 (Or.inr rfl) s0
        have k459 := k450.tr g451 (Or.inr rfl) s0
        have cv460 : CVs (mA1 κ429 23 s.toNatClampNeg r428) (s.toInt + 1) (((mA1 κ429 23 s.toNatClampNeg r428)).1 19).toInt [r428] := cv447.st g451.rb (Int.le_refl _) (Or.inl (by omega)) rfl
        refine ⟨TR.mi p445.ps rfl rfl s0 (by omega), ?_⟩
        generalize mA1 κ429 23 s.toNatClampNeg r428 = κ452 at *
        have lt461 : s.toInt < (κ452.1 19).toInt := by omega
        refine MC.mono (t_expect (by omega) p457.ps (by decide) (fun _ h => hT _ (p457.1.1.tr h))) (fun v462 κ467 h463 => ?_) (fun _ h => h)
        obtain ⟨q464, m465, a466⟩ := h463
        have p468 : TR (-1) (0) 0 0 0 (-5) ν κ467 := p457.trS q464 (Or.inl (by decide)) rfl rfl rfl rfl (by omega)
        have k469 := k458.tr q464 (Or.inl (by decide)) s0
        have k470 := k459.tr q464 (Or.inl (by decide)) s0
        have cv471 : CVs κ467 (s.toInt + 1) ((κ467).1 19).toInt [r428] := cv460.st q464.rb (Int.le_refl _) (Or.inl (by omega)) m465
        have nd472 := nd455.tr q464 (by have := @ic s; omega) (by omega)
        have lt473 : s.toInt < (κ467.1 19).toInt := by omega
        exact ⟨⟨p468.1, by have := p468.2; omega⟩, by omega, (G.mk (lo := s.toInt) s0 (Int.le_refl _) lt473 nd472 (by decide) (k469) (k470) True.intro True.intro True.intro : G κ467 (h + 1) (bt s.toInt (κ467.1 19).toInt) 4 s).up (Nat.le_refl _) (by omega) (Int.le_refl _), nd472.2.2.2.2.2.2, (CO.fin' (by omega) cv471 s0 ⟨fun h => Par.fb nd472 (by decide) h, True.intro⟩ lt473)⟩
      · skip
        have g474 : TR s.toInt 0 0 0 0 0 κ402 (mA1 κ402 20 s.toNatClampNeg 5) := TR.put p397.ps s0 rfl rfl
        have e476 : ((mA1 κ402 20 s.toNatClampNeg 5).1 19).toInt = (κ402.1 19).toInt := rfl
        have e477 : ((mA1 κ402 20 s.toNatClampNeg 5).1 32).toInt = (κ402.1 32).toInt := rfl
        have sr479 : srt (mA1 κ402 20 s.toNatClampNeg 5) = srt κ402 := srt_off rfl
        have nd478 := nd395.pk (x := 5)
        have p480 : TR (-1) (0) 0 0 0 (-1) ν (mA1 κ402 20 s.toNatClampNeg 5) := p397.trS g474 (Or.inr (Or.inr (by omega))) rfl rfl rfl rfl (by omega)
        have k481 := k398.tr g474 (Or.inr rfl) s0
        have cv482 : CVs (mA1 κ402 20 s.toNatClampNeg 5) (s.toInt + 1) (((mA1 κ402 20 s.toNatClampNeg 5)).1 19).toInt [] := cv399.st g474.rb (Int.le_refl _) (Or.inl (by omega)) rfl
        refine ⟨TR.mi p397.ps rfl rfl s0 (by omega), ?_⟩
        generalize mA1 κ402 20 s.toNatClampNeg 5 = κ475 at *
        have lt483 : s.toInt < (κ475.1 19).toInt := by omega
        refine MC.mono (c_is (by omega) p480.ps) (fun r484 κ485 h486 => ?_) (fun _ h => h)
        obtain ⟨rfl, rfl⟩ := h486
        refine ⟨fun hD => absurd (sr479.trans (is_t hC)) (is_f hD), fun hD => ?_⟩
        have hk5 : ¬ srt κ485 = 203 := by rw [is_t hD]; decide
        refine MC.mono (t_next (by omega) p480.ps (hk5) (fun _ h => hT _ (p480.1.1.tr h))) (fun v487 κ492 h488 => ?_) (fun _ h => h)
        obtain ⟨q489, m490, a491⟩ := h488
        have p493 : TR (-1) (0) 0 0 0 (-3) ν κ492 := p480.trS q489 (Or.inl (by decide)) rfl rfl rfl rfl (by omega)
        have k494 := k481.tr q489 (Or.inl (by decide)) s0
        have cv495 : CVs κ492 (s.toInt + 1) ((κ492).1 19).toInt [] := cv482.st q489.rb (Int.le_refl _) (Or.inl (by omega)) m490
        have nd496 := nd478.tr q489 (by have := @ic s; omega) (by omega)
        have lt497 : s.toInt < (κ492.1 19).toInt := by omega
        have x501 := p493.px
        have u502 := p493.2
        have y503 := tT p493
        have z504 := px0 p493.ps
        refine MC.mono (hY κ492 T h p493.ps (by omega) (by omega) (by omega) (fun _ h => hT _ (p493.1.1.tr h))) (fun r498 κ499 h500 => ?_) (fun _ h => h)
        obtain ⟨⟨z507, z508, z509, z510, z511⟩, c512⟩ := h500
        have q505 : TR (-1) 0 0 0 0 0 κ492 κ499 := ⟨z507, by omega⟩
        have g506 := z510
        have l513 := q505.l19
        have l514 := q505.l32
        have p515 : TR (-1) (0) 0 0 0 (-3) ν κ499 := p493.trS q505 (Or.inl (by decide)) rfl rfl rfl rfl (by omega)
        have k516 := k494.tr q505 (Or.inl (by decide)) s0
        have cv517 : CVs κ499 (s.toInt + 1) ((κ499).1 19).toInt [r498] := cv495.add q505.rb (Int.le_refl _) (Or.inl (by omega)) (by omega) l513 (LCO.of z510.in.1 c512)
        have nd518 := nd496.tr q505 (by have := @ic s; omega) (by omega)
        have lt519 : s.toInt < (κ499.1 19).toInt := by omega
        have k520 : Kd κ499 h s.toInt s 0 r498 := Kd.of g506 (by omega) (Int.le_refl _) s0 (Or.inl (by omega))
        have g521 : TR s.toInt 0 0 0 0 0 κ499 (mA1 κ499 23 s.toNatClampNeg r498) := TR.put p515.ps s0 rfl rfl
        have e523 : ((mA1 κ499 23 s.toNatClampNeg r498).1 19).toInt = (κ499.1 19).toInt := rfl
        have e524 : ((mA1 κ499 23 s.toNatClampNeg r498).1 32).toInt = (κ499.1 32).toInt := rfl
        have sr526 : srt (mA1 κ499 23 s.toNatClampNeg r498) = srt κ499 := srt_off rfl
        have nd525 := nd518.pb (x := r498)
        have p527 : TR (-1) (0) 0 0 0 (-3) ν (mA1 κ499 23 s.toNatClampNeg r498) := p515.trS g521 (Or.inr (Or.inr (by omega))) rfl rfl rfl rfl (by omega)
        have k528 := k516.tr g521 (Or.inr rfl) s0
        have k529 := k520.tr g521 (Or.inr rfl) s0
        have cv530 : CVs (mA1 κ499 23 s.toNatClampNeg r498) (s.toInt + 1) (((mA1 κ499 23 s.toNatClampNeg r498)).1 19).toInt [r498] := cv517.st g521.rb (Int.le_refl _) (Or.inl (by omega)) rfl
        refine ⟨TR.mi p515.ps rfl rfl s0 (by omega), ?_⟩
        generalize mA1 κ499 23 s.toNatClampNeg r498 = κ522 at *
        have lt531 : s.toInt < (κ522.1 19).toInt := by omega
        refine MC.mono (t_expect (by omega) p527.ps (by decide) (fun _ h => hT _ (p527.1.1.tr h))) (fun v532 κ537 h533 => ?_) (fun _ h => h)
        obtain ⟨q534, m535, a536⟩ := h533
        have p538 : TR (-1) (0) 0 0 0 (-5) ν κ537 := p527.trS q534 (Or.inl (by decide)) rfl rfl rfl rfl (by omega)
        have k539 := k528.tr q534 (Or.inl (by decide)) s0
        have k540 := k529.tr q534 (Or.inl (by decide)) s0
        have cv541 : CVs κ537 (s.toInt + 1) ((κ537).1 19).toInt [r498] := cv530.st q534.rb (Int.le_refl _) (Or.inl (by omega)) m535
        have nd542 := nd525.tr q534 (by have := @ic s; omega) (by omega)
        have lt543 : s.toInt < (κ537.1 19).toInt := by omega
        exact ⟨⟨p538.1, by have := p538.2; omega⟩, by omega, (G.mk (lo := s.toInt) s0 (Int.le_refl _) lt543 nd542 (by decide) (k539) (k540) True.intro True.intro True.intro : G κ537 (h + 1) (bt s.toInt (κ537.1 19).toInt) 4 s).up (Nat.le_refl _) (by omega) (Int.le_refl _), nd542.2.2.2.2.2.2, (CO.fin' (by omega) cv541 s0 ⟨fun h => Par.fb nd542 (by decide) h, True.intro⟩ lt543)⟩
  · skip
    refine MC.mono (t_next (by omega) p0.ps (hk3) (fun _ h => hT _ (p0.1.1.tr h))) (fun v544 κ549 h545 => ?_) (fun _ h => h)
    obtain ⟨q546, m547, a548⟩ := h545
    have p550 : TR (-1) (0) 0 0 0 (-1) ν κ549 := p0.trS q546 (Or.inl (by decide)) rfl rfl rfl rfl (by omega)
    have cv551 : CVs κ549 (s.toInt + 1) ((κ549).1 19).toInt [] := cv0.st q546.rb (Int.le_refl _) (Or.inl (by omega)) m547
    have nd552 := nd0.tr q546 (by have := @ic s; omega) (by omega)
    have lt553 : s.toInt < (κ549.1 19).toInt := by omega
    refine MC.mono (c_line (by omega) p550.ps.1 p550.ps.at.1 p550.ps.at.2) (fun r554 κ555 h556 => ?_) (fun _ h => h)
    subst h556
    have g557 : TR s.toInt 0 0 0 0 0 κ555 (mA1 κ555 31 s.toNatClampNeg r554) := TR.put p550.ps s0 rfl rfl
    have e559 : ((mA1 κ555 31 s.toNatClampNeg r554).1 19).toInt = (κ555.1 19).toInt := rfl
    have e560 : ((mA1 κ555 31 s.toNatClampNeg r554).1 32).toInt = (κ555.1 32).toInt := rfl
    have sr562 : srt (mA1 κ555 31 s.toNatClampNeg r554) = srt κ555 := srt_off rfl
    have nd561 := nd552.p31 (x := r554)
    have p563 : TR (-1) (0) 0 0 0 (-1) ν (mA1 κ555 31 s.toNatClampNeg r554) := p550.trS g557 (Or.inr (Or.inr (by omega))) rfl rfl rfl rfl (by omega)
    have cv564 : CVs (mA1 κ555 31 s.toNatClampNeg r554) (s.toInt + 1) (((mA1 κ555 31 s.toNatClampNeg r554)).1 19).toInt [] := cv551.st g557.rb (Int.le_refl _) (Or.inl (by omega)) rfl
    refine ⟨TR.mi p550.ps rfl rfl s0 (by omega), ?_⟩
    generalize mA1 κ555 31 s.toNatClampNeg r554 = κ558 at *
    have lt565 : s.toInt < (κ558.1 19).toInt := by omega
    refine MC.mono (t_name (by omega) p563.ps (fun _ h => hT _ (p563.1.1.tr h))) (fun v566 κ571 h567 => ?_) (fun _ h => h)
    obtain ⟨q568, m569, a570⟩ := h567
    have p572 : TR (-1) (0) 0 0 0 (-3) ν κ571 := p563.trS q568 (Or.inl (by decide)) rfl rfl rfl rfl (by omega)
    have cv573 : CVs κ571 (s.toInt + 1) ((κ571).1 19).toInt [] := cv564.st q568.rb (Int.le_refl _) (Or.inl (by omega)) m569
    have nd574 := nd561.tr q568 (by have := @ic s; omega) (by omega)
    have lt575 : s.toInt < (κ571.1 19).toInt := by omega
    have g576 : TR s.toInt 0 0 0 0 0 κ571 (mA1 κ571 22 s.toNatClampNeg v566) := TR.put p572.ps s0 rfl rfl
    have e578 : ((mA1 κ571 22 s.toNatClampNeg v566).1 19).toInt = (κ571.1 19).toInt := rfl
    have e579 : ((mA1 κ571 22 s.toNatClampNeg v566).1 32).toInt = (κ571.1 32).toInt := rfl
    have sr581 : srt (mA1 κ571 22 s.toNatClampNeg v566) = srt κ571 := srt_off rfl
    have nd580 := nd574.pa (x := v566)
    have p582 : TR (-1) (0) 0 0 0 (-3) ν (mA1 κ571 22 s.toNatClampNeg v566) := p572.trS g576 (Or.inr (Or.inr (by omega))) rfl rfl rfl rfl (by omega)
    have cv583 : CVs (mA1 κ571 22 s.toNatClampNeg v566) (s.toInt + 1) (((mA1 κ571 22 s.toNatClampNeg v566)).1 19).toInt [] := cv573.st g576.rb (Int.le_refl _) (Or.inl (by omega)) rfl
    refine ⟨TR.mi p572.ps rfl rfl s0 (by omega), ?_⟩
    generalize mA1 κ571 22 s.toNatClampNeg v566 = κ577 at *
    have lt584 : s.toInt < (κ577.1 19).toInt := by omega
    refine MC.mono (c_is (by omega) p582.ps) (fun r585 κ586 h587 => ?_) (fun _ h => h)
    obtain ⟨rfl, rfl⟩ := h587
    refine ⟨fun hB => ?_, fun hB => ?_⟩
    · skip
      refine MC.mono (c_is (by omega) p582.ps) (fun r588 κ589 h590 => ?_) (fun _ h => h)
      obtain ⟨rfl, rfl⟩ := h590
      refine ⟨fun hC => ?_, fun _ => MC.mono (c_unfit (by omega) p582.ps (fun _ h => hT _ (p582.1.1.tr h))) (fun _ _ h => h.elim) (fun _ h => h)⟩
      have hk5 : ¬ srt κ589 = 203 := by rw [is_t hC]; decide
      refine MC.mono (t_next (by omega) p582.ps (hk5) (fun _ h => hT _ (p582.1.1.tr h))) (fun v591 κ596 h592 => ?_) (fun _ h => h)
      obtain ⟨q593, m594, a595⟩ := h592
      have p597 : TR (-1) (0) 0 0 0 (-5) ν κ596 := p582.trS q593 (Or.inl (by decide)) rfl rfl rfl rfl (by omega)
      have cv598 : CVs κ596 (s.toInt + 1) ((κ596).1 19).toInt [] := cv583.st q593.rb (Int.le_refl _) (Or.inl (by omega)) m594
      have nd599 := nd580.tr q593 (by have := @ic s; omega) (by omega)
      have lt600 : s.toInt < (κ596.1 19).toInt := by omega
      have x604 := p597.px
      have u605 := p597.2
      have y606 := tT p597
      have z607 := px0 p597.ps
      refine MC.mono (hY κ596 T h p597.ps (by omega) (by omega) (by omega) (fun _ h => hT _ (p597.1.1.tr h))) (fun r601 κ602 h603 => ?_) (fun _ h => h)
      obtain ⟨⟨z610, z611, z612, z613, z614⟩, c615⟩ := h603
      have q608 : TR (-1) 0 0 0 0 0 κ596 κ602 := ⟨z610, by omega⟩
      have g609 := z613
      have l616 := q608.l19
      have l617 := q608.l32
      have p618 : TR (-1) (0) 0 0 0 (-5) ν κ602 := p597.trS q608 (Or.inl (by decide)) rfl rfl rfl rfl (by omega)
      have cv619 : CVs κ602 (s.toInt + 1) ((κ602).1 19).toInt [r601] := cv598.add q608.rb (Int.le_refl _) (Or.inl (by omega)) (by omega) l616 (LCO.of z613.in.1 c615)
      have nd620 := nd599.tr q608 (by have := @ic s; omega) (by omega)
      have lt621 : s.toInt < (κ602.1 19).toInt := by omega
      have k622 : Kd κ602 h s.toInt s 0 r601 := Kd.of g609 (by omega) (Int.le_refl _) s0 (Or.inl (by omega))
      have g623 : TR s.toInt 0 0 0 0 0 κ602 (mA1 κ602 23 s.toNatClampNeg r601) := TR.put p618.ps s0 rfl rfl
      have e625 : ((mA1 κ602 23 s.toNatClampNeg r601).1 19).toInt = (κ602.1 19).toInt := rfl
      have e626 : ((mA1 κ602 23 s.toNatClampNeg r601).1 32).toInt = (κ602.1 32).toInt := rfl
      have sr628 : srt (mA1 κ602 23 s.toNatClampNeg r601) = srt κ602 := srt_off rfl
      have nd627 := nd620.pb (x := r601)
      have p629 : TR (-1) (0) 0 0 0 (-5) ν (mA1 κ602 23 s.toNatClampNeg r601) := p618.trS g623 (Or.inr (Or.inr (by omega))) rfl rfl rfl rfl (by omega)
      have k630 := k622.tr g623 (Or.inr rfl) s0
      have cv631 : CVs (mA1 κ602 23 s.toNatClampNeg r601) (s.toInt + 1) (((mA1 κ602 23 s.toNatClampNeg r601)).1 19).toInt [r601] := cv619.st g623.rb (Int.le_refl _) (Or.inl (by omega)) rfl
      refine ⟨TR.mi p618.ps rfl rfl s0 (by omega), ?_⟩
      generalize mA1 κ602 23 s.toNatClampNeg r601 = κ624 at *
      have lt632 : s.toInt < (κ624.1 19).toInt := by omega
      refine MC.mono (t_expect (by omega) p629.ps (by decide) (fun _ h => hT _ (p629.1.1.tr h))) (fun v633 κ638 h634 => ?_) (fun _ h => h)
      obtain ⟨q635, m636, a637⟩ := h634
      have p639 : TR (-1) (0) 0 0 0 (-7) ν κ638 := p629.trS q635 (Or.inl (by decide)) rfl rfl rfl rfl (by omega)
      have k640 := k630.tr q635 (Or.inl (by decide)) s0
      have cv641 : CVs κ638 (s.toInt + 1) ((κ638).1 19).toInt [r601] := cv631.st q635.rb (Int.le_refl _) (Or.inl (by omega)) m636
      have nd642 := nd627.tr q635 (by have := @ic s; omega) (by omega)
      have lt643 : s.toInt < (κ638.1 19).toInt := by omega
      exact ⟨⟨p639.1, by have := p639.2; omega⟩, by omega, (G.mk (lo := s.toInt) s0 (Int.le_refl _) lt643 nd642 (by decide) True.intro (k640) True.intro True.intro True.intro : G κ638 (h + 1) (bt s.toInt (κ638.1 19).toInt) 4 s).up (Nat.le_refl _) (by omega) (Int.le_refl _), nd642.2.2.2.2.2.2, (CO.fin' (by omega) cv641 s0 ⟨fun h => Par.fb nd642 (by decide) h, True.intro⟩ lt643)⟩
    · skip
      have hk5 : ¬ srt κ586 = 203 := by rw [is_t hB]; decide
      have g644 : TR s.toInt 0 0 0 0 0 κ586 (mA1 κ586 20 s.toNatClampNeg 4) := TR.put p582.ps s0 rfl rfl
      have e646 : ((mA1 κ586 20 s.toNatClampNeg 4).1 19).toInt = (κ586.1 19).toInt := rfl
      have e647 : ((mA1 κ586 20 s.toNatClampNeg 4).1 32).toInt = (κ586.1 32).toInt := rfl
      have sr649 : srt (mA1 κ586 20 s.toNatClampNeg 4) = srt κ586 := srt_off rfl
      have nd648 := nd580.pk (x := 4)
      have p650 : TR (-1) (0) 0 0 0 (-3) ν (mA1 κ586 20 s.toNatClampNeg 4) := p582.trS g644 (Or.inr (Or.inr (by omega))) rfl rfl rfl rfl (by omega)
      have cv651 : CVs (mA1 κ586 20 s.toNatClampNeg 4) (s.toInt + 1) (((mA1 κ586 20 s.toNatClampNeg 4)).1 19).toInt [] := cv583.st g644.rb (Int.le_refl _) (Or.inl (by omega)) rfl
      refine ⟨TR.mi p582.ps rfl rfl s0 (by omega), ?_⟩
      generalize mA1 κ586 20 s.toNatClampNeg 4 = κ645 at *
      have lt652 : s.toInt < (κ645.1 19).toInt := by omega
      have hk6 : ¬ srt κ645 = 203 := by rw [sr649]; exact hk5
      refine MC.mono (t_next (by omega) p650.ps (hk6) (fun _ h => hT _ (p650.1.1.tr h))) (fun v653 κ658 h654 => ?_) (fun _ h => h)
      obtain ⟨q655, m656, a657⟩ := h654
      have p659 : TR (-1) (0) 0 0 0 (-5) ν κ658 := p650.trS q655 (Or.inl (by decide)) rfl rfl rfl rfl (by omega)
      have cv660 : CVs κ658 (s.toInt + 1) ((κ658).1 19).toInt [] := cv651.st q655.rb (Int.le_refl _) (Or.inl (by omega)) m656
      have nd661 := nd648.tr q655 (by have := @ic s; omega) (by omega)
      have lt662 : s.toInt < (κ658.1 19).toInt := by omega
      have x666 := p659.px
      have u667 := p659.2
      have y668 := tT p659
      have z669 := px0 p659.ps
      refine MC.mono (hY κ658 T h p659.ps (by omega) (by omega) (by omega) (fun _ h => hT _ (p659.1.1.tr h))) (fun r663 κ664 h665 => ?_) (fun _ h => h)
      obtain ⟨⟨z672, z673, z674, z675, z676⟩, c677⟩ := h665
      have q670 : TR (-1) 0 0 0 0 0 κ658 κ664 := ⟨z672, by omega⟩
      have g671 := z675
      have l678 := q670.l19
      have l679 := q670.l32
      have p680 : TR (-1) (0) 0 0 0 (-5) ν κ664 := p659.trS q670 (Or.inl (by decide)) rfl rfl rfl rfl (by omega)
      have cv681 : CVs κ664 (s.toInt + 1) ((κ664).1 19).toInt [r663] := cv660.add q670.rb (Int.le_refl _) (Or.inl (by omega)) (by omega) l678 (LCO.of z675.in.1 c677)
      have nd682 := nd661.tr q670 (by have := @ic s; omega) (by omega)
      have lt683 : s.toInt < (κ664.1 19).toInt := by omega
      have k684 : Kd κ664 h s.toInt s 0 r663 := Kd.of g671 (by omega) (Int.le_refl _) s0 (Or.inl (by omega))
      have g685 : TR s.toInt 0 0 0 0 0 κ664 (mA1 κ664 23 s.toNatClampNeg r663) := TR.put p680.ps s0 rfl rfl
      have e687 : ((mA1 κ664 23 s.toNatClampNeg r663).1 19).toInt = (κ664.1 19).toInt := rfl
      have e688 : ((mA1 κ664 23 s.toNatClampNeg r663).1 32).toInt = (κ664.1 32).toInt := rfl
      have sr690 : srt (mA1 κ664 23 s.toNatClampNeg r663) = srt κ664 := srt_off rfl
      have nd689 := nd682.pb (x := r663)
      have p691 : TR (-1) (0) 0 0 0 (-5) ν (mA1 κ664 23 s.toNatClampNeg r663) := p680.trS g685 (Or.inr (Or.inr (by omega))) rfl rfl rfl rfl (by omega)
      have k692 := k684.tr g685 (Or.inr rfl) s0
      have cv693 : CVs (mA1 κ664 23 s.toNatClampNeg r663) (s.toInt + 1) (((mA1 κ664 23 s.toNatClampNeg r663)).1 19).toInt [r663] := cv681.st g685.rb (Int.le_refl _) (Or.inl (by omega)) rfl
      refine ⟨TR.mi p680.ps rfl rfl s0 (by omega), ?_⟩
      generalize mA1 κ664 23 s.toNatClampNeg r663 = κ686 at *
      have lt694 : s.toInt < (κ686.1 19).toInt := by omega
      refine MC.mono (t_expect (by omega) p691.ps (by decide) (fun _ h => hT _ (p691.1.1.tr h))) (fun v695 κ700 h696 => ?_) (fun _ h => h)
      obtain ⟨q697, m698, a699⟩ := h696
      have p701 : TR (-1) (0) 0 0 0 (-7) ν κ700 := p691.trS q697 (Or.inl (by decide)) rfl rfl rfl rfl (by omega)
      have k702 := k692.tr q697 (Or.inl (by decide)) s0
      have cv703 : CVs κ700 (s.toInt + 1) ((κ700).1 19).toInt [r663] := cv693.st q697.rb (Int.le_refl _) (Or.inl (by omega)) m698
      have nd704 := nd689.tr q697 (by have := @ic s; omega) (by omega)
      have lt705 : s.toInt < (κ700.1 19).toInt := by omega
      exact ⟨⟨p701.1, by have := p701.2; omega⟩, by omega, (G.mk (lo := s.toInt) s0 (Int.le_refl _) lt705 nd704 (by decide) True.intro (k702) True.intro True.intro True.intro : G κ700 (h + 1) (bt s.toInt (κ700.1 19).toInt) 4 s).up (Nat.le_refl _) (by omega) (Int.le_refl _), nd704.2.2.2.2.2.2, (CO.fin' (by omega) cv703 s0 ⟨fun h => Par.fb nd704 (by decide) h, True.intro⟩ lt705)⟩
end PSL
