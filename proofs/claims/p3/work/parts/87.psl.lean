/-! contracts of the reference: declarations -/
theorem ND.p31 {μ : MS} {i : Nat} {k a b c d e n x : Int32} (h : ND μ i k a b c d e n) : ND (mA1 μ 31 i x) i k a b c d e n := h
theorem Ek.g {μ : MS} {k i : Int32} {lo hi : Int} {s h : Nat} (hE : Ek μ k lo hi i) (hk : sK s k = true) (hf : ∀ f, f < 5 → fW k.toNatClampNeg f = (0, 0)) : G μ (h + 1) (bt lo hi) s i := by
  obtain ⟨k1, k2, k3, k4, k5⟩ := hE
  have hc := @ic i
  refine ⟨k1, ⟨by omega, by omega⟩, by rw [k4]; exact hk, fun f hf' => ?_⟩
  rw [k4, hf f hf']
  exact True.intro
theorem NR.ls {μ μ1 : MS} {k r : Int32} {s h : Nat} (hR : NR k μ r μ1) (hk : sK s k = true) (hf : ∀ f, f < 5 → fW k.toNatClampNeg f = (0, 0)) : ∃ m, Lst (G μ1 (h + 1) (bt (μ.1 19).toInt (μ1.1 19).toInt) s) (μ1.2.1 27) m r := by
  obtain ⟨-, -, -, -, m, hm⟩ := hR
  exact ⟨m, hm.mono (fun y hy => hy.g hk hf) (fun _ _ => rfl)⟩
theorem G.dv {μ : MS} {h : Nat} {S : Nat → Prop} {i : Int32} (hG : G μ h S 19 i) : G μ h S 4 i := by
  cases h with
  | zero => exact hG.elim
  | succ h =>
    have h7 : ([7] : List Int32).contains (μ.2.1 20 i.toNatClampNeg) = true := hG.2.2.1
    have h7 : μ.2.1 20 i.toNatClampNeg = 7 := by simpa using h7
    exact ⟨hG.1, hG.2.1, by rw [h7]; decide, hG.2.2.2⟩
/-- a VAR's node is filled -/
def VarC (X : ev_X) (W : Nat → Prop) (P : MP) (d : Nat) : Prop := ∀ (μ : MS) (T : MS → Prop) (h : Nat) (s : Int32), PS μ → psS μ + 11 ≤ d → hiS μ + 1 ≤ h → (μ.1 19).toInt ≤ 2 * (μ.1 32).toInt + 31 → (∀ μ1, kf SPA RPA μ μ1 → T μ1) → 0 ≤ s.toInt → s.toInt + 1 = (μ.1 19).toInt → ¬ srt μ = 203 → ND μ s.toNatClampNeg 7 (-1) (-1) (-1) (-1) (-1) (-1) →
  MC X W true d 307 [.ref P.1, .int s] P μ (fun _ μ1 => TR s.toInt 0 0 0 0 (-2) μ μ1 ∧ G μ1 (h + 1) (bt s.toInt (μ1.1 19).toInt) 19 s ∧ μ1.2.1 27 s.toNatClampNeg = -1 ∧ CO μ1 s.toInt (μ1.1 19).toInt s) T
/-- a PROCEDURE's node is filled -/
def PrC (X : ev_X) (W : Nat → Prop) (P : MP) (d : Nat) : Prop := ∀ (μ : MS) (T : MS → Prop) (h : Nat) (s x2 : Int32), PS μ → psS μ + 20 ≤ d → hiS μ + 12 ≤ h → (μ.1 19).toInt ≤ 2 * (μ.1 32).toInt + 31 → (∀ μ1, kf SPA RPA μ μ1 → T μ1) → 0 ≤ s.toInt → s.toInt + 1 = (μ.1 19).toInt → ¬ srt μ = 203 → ND μ s.toNatClampNeg 3 (-1) (-1) (-1) (-1) (-1) (-1) →
  MC X W true d 308 [.ref P.1, .int s, .int x2] P μ (fun _ μ1 => TR s.toInt 0 0 0 0 (-2) μ μ1 ∧ G μ1 (h + 1) (bt s.toInt (μ1.1 19).toInt) 4 s ∧ μ1.2.1 27 s.toNatClampNeg = -1 ∧ CO μ1 s.toInt (μ1.1 19).toInt s) T
/-- a declaration -/
def DeC (X : ev_X) (W : Nat → Prop) (P : MP) (d : Nat) : Prop := ∀ (μ : MS) (T : MS → Prop) (h : Nat) (x1 : Int32), PS μ → psS μ + 21 ≤ d → hiS μ + 13 ≤ h → (μ.1 19).toInt ≤ 2 * (μ.1 32).toInt + 30 → (∀ μ1, kf SPA RPA μ μ1 → T μ1) → ¬ srt μ = 203 →
  MC X W true d 306 [.ref P.1, .int x1] P μ (fun r μ1 => XN 0 4 h μ r μ1) T
section PSL
variable {X : ev_X} {W : Nat → Prop} {d : Nat} {P : MP}
theorem t_endName {μ : MS} {T : MS → Prop} {x : Int32} (hd : 5 ≤ d) (hS : PS μ) (hT : ∀ μ1, kf SPA RPA μ μ1 → T μ1) : MC X W true d 303 [.ref P.1, .int x] P μ (fun _ μ1 => TR (-1) 0 0 0 0 (-2) μ μ1 ∧ (μ1.1 19).toInt = (μ.1 19).toInt ∧ (μ1.1 32).toInt = (μ.1 32).toInt + 1) T := by
  have at0 := hS.at
  refine me_meth (by omega) rfl (v_endName_0 _ (MC.mono (c_is (by omega) hS) (fun r ν hr => ?_) (fun _ h => h)))
  obtain ⟨rfl, rfl⟩ := hr
  refine ⟨fun h1 => ⟨MI.of (hS.1.g rfl rfl : _ = 6002) at0.1 at0.2, fun _ => t_next (by omega) hS (by rw [is_t h1]; decide) hT, fun _ => MC.mono (c_line (by omega) hS.1 at0.1 at0.2) (fun r3 ν3 h3 => ?_) (fun _ h => h)⟩, fun _ => MC.mono (c_unfit (by omega) hS hT) (fun _ _ h => h.elim) (fun _ h => h)⟩
  subst h3
  exact MC.mono (c_first (by omega) hT) (fun _ _ h => h.elim) (fun _ h => h)
theorem st_variables (hY : NodC X W P 312 0 9 0 d) : VarC X W P (d + 1) := fun μ T h s hS hd hh hn hT s0 s1 hs3 nd0 => by
  have hp := px0 hS
  have h0 := hS.2.2.2.2.1
  have at0 := hS.at
  have hcs := @ic s
  have p0 : TR s.toInt 0 0 0 0 0 μ μ := TR.rf hS
  have lt0 : s.toInt < (μ.1 19).toInt := by omega
  have s9 : s.toInt < 15990 := by omega
  have cv0 : CVs μ (s.toInt + 1) (μ.1 19).toInt [] := CVs.nil (by omega)
  refine me_meth (by omega) rfl (v_variables_0 _ ?_)
  refine MC.mono (t_next (by omega) p0.ps (hs3) (fun _ h => hT _ (p0.1.1.tr h))) (fun v1 κ6 h2 => ?_) (fun _ h => h)
  obtain ⟨q3, m4, a5⟩ := h2
  have p7 : TR (s.toInt) (0) 0 0 0 (-2) μ κ6 := p0.trS q3 (Or.inl (by decide)) rfl rfl rfl rfl (by omega)
  have cv8 : CVs κ6 (s.toInt + 1) ((κ6).1 19).toInt [] := cv0.st q3.rb (Int.le_refl _) (Or.inl (by omega)) m4
  have nd9 := nd0.tr q3 (by have := @ic s; omega) (by omega)
  have lt10 : s.toInt < (κ6.1 19).toInt := by omega
  have x14 := p7.px
  have u15 := p7.2
  have y16 := tT p7
  have z17 := px0 p7.ps
  refine MC.mono (c_nameRow (by omega) p7.ps (by omega) (fun _ h => hT _ (p7.1.1.tr h))) (fun r11 κ12 h13 => ?_) (fun _ h => h)
  have g19 := NR.ls (s := 6) (h := 0) h13.1 (by decide) (by decide)
  have q18 : TR (-1) 0 0 0 0 0 κ6 κ12 := ⟨h13.1.1, by have := h13.1.2.1; omega⟩
  have ne20 : ¬ r11 = -1 := fun e => by have h1 := h13.1.2.2.2.1; have h2 := p7.ps.2.2.2.2.1; rw [← h1, e] at h2; exact absurd h2 (by decide)
  have l22 := q18.l19
  have p23 : TR (s.toInt) (0) 0 0 0 (-2) μ κ12 := p7.trS q18 (Or.inl (by decide)) rfl rfl rfl rfl (by omega)
  have cv24 : CVs κ12 (s.toInt + 1) ((κ12).1 19).toInt [] := cv8.ns q18.rb (Int.le_refl _) (Or.inl (by omega)) l22 (h13.2.1.ns (by decide))
  have nd25 := nd9.tr q18 (by have := @ic s; omega) (by omega)
  have lt26 : s.toInt < (κ12.1 19).toInt := by omega
  have k21 : KL κ12 h s.toInt s 6 r11 := (KL.of g19 (by omega) (Int.le_refl _) s0 (Or.inl (by omega))).up (by omega)
  have g27 : TR s.toInt 0 0 0 0 0 κ12 (mA1 κ12 22 s.toNatClampNeg r11) := TR.put p23.ps s0 rfl rfl
  have e29 : ((mA1 κ12 22 s.toNatClampNeg r11).1 19).toInt = (κ12.1 19).toInt := rfl
  have e30 : ((mA1 κ12 22 s.toNatClampNeg r11).1 32).toInt = (κ12.1 32).toInt := rfl
  have sr32 : srt (mA1 κ12 22 s.toNatClampNeg r11) = srt κ12 := srt_off rfl
  have nd31 := nd25.pa (x := r11)
  have p33 : TR (s.toInt) (0) 0 0 0 (-2) μ (mA1 κ12 22 s.toNatClampNeg r11) := p23.trS g27 (Or.inr (Or.inl rfl)) rfl rfl rfl rfl (by omega)
  have k34 := k21.tr g27 (Or.inr rfl) s0
  have cv35 : CVs (mA1 κ12 22 s.toNatClampNeg r11) (s.toInt + 1) (((mA1 κ12 22 s.toNatClampNeg r11)).1 19).toInt [] := cv24.st g27.rb (Int.le_refl _) (Or.inl (by omega)) rfl
  refine ⟨TR.mi p23.ps rfl rfl s0 (by omega), ?_⟩
  generalize mA1 κ12 22 s.toNatClampNeg r11 = κ28 at *
  have lt36 : s.toInt < (κ28.1 19).toInt := by omega
  refine MC.mono (t_expect (by omega) p33.ps (by decide) (fun _ h => hT _ (p33.1.1.tr h))) (fun v37 κ42 h38 => ?_) (fun _ h => h)
  obtain ⟨q39, m40, a41⟩ := h38
  have p43 : TR (s.toInt) (0) 0 0 0 (-4) μ κ42 := p33.trS q39 (Or.inl (by decide)) rfl rfl rfl rfl (by omega)
  have k44 := k34.tr q39 (Or.inl (by decide)) s0
  have cv45 : CVs κ42 (s.toInt + 1) ((κ42).1 19).toInt [] := cv35.st q39.rb (Int.le_refl _) (Or.inl (by omega)) m40
  have nd46 := nd31.tr q39 (by have := @ic s; omega) (by omega)
  have lt47 : s.toInt < (κ42.1 19).toInt := by omega
  have x51 := p43.px
  have u52 := p43.2
  have y53 := tT p43
  have z54 := px0 p43.ps
  refine MC.mono (hY κ42 T h p43.ps (by omega) (by omega) (by omega) (fun _ h => hT _ (p43.1.1.tr h))) (fun r48 κ49 h50 => ?_) (fun _ h => h)
  obtain ⟨⟨z57, z58, z59, z60, z61⟩, c62⟩ := h50
  have q55 : TR (-1) 0 0 0 0 0 κ42 κ49 := ⟨z57, by omega⟩
  have g56 := z60
  have l63 := q55.l19
  have l64 := q55.l32
  have p65 : TR (s.toInt) (0) 0 0 0 (-4) μ κ49 := p43.trS q55 (Or.inl (by decide)) rfl rfl rfl rfl (by omega)
  have k66 := k44.tr q55 (Or.inl (by decide)) s0
  have cv67 : CVs κ49 (s.toInt + 1) ((κ49).1 19).toInt [r48] := cv45.add q55.rb (Int.le_refl _) (Or.inl (by omega)) (by omega) l63 (LCO.of z60.in.1 c62)
  have nd68 := nd46.tr q55 (by have := @ic s; omega) (by omega)
  have lt69 : s.toInt < (κ49.1 19).toInt := by omega
  have k70 : Kd κ49 h s.toInt s 0 r48 := Kd.of g56 (by omega) (Int.le_refl _) s0 (Or.inl (by omega)) z61
  have g71 : TR s.toInt 0 0 0 0 0 κ49 (mA1 κ49 23 s.toNatClampNeg r48) := TR.put p65.ps s0 rfl rfl
  have e73 : ((mA1 κ49 23 s.toNatClampNeg r48).1 19).toInt = (κ49.1 19).toInt := rfl
  have e74 : ((mA1 κ49 23 s.toNatClampNeg r48).1 32).toInt = (κ49.1 32).toInt := rfl
  have sr76 : srt (mA1 κ49 23 s.toNatClampNeg r48) = srt κ49 := srt_off rfl
  have nd75 := nd68.pb (x := r48)
  have p77 : TR (s.toInt) (0) 0 0 0 (-4) μ (mA1 κ49 23 s.toNatClampNeg r48) := p65.trS g71 (Or.inr (Or.inl rfl)) rfl rfl rfl rfl (by omega)
  have k78 := k66.tr g71 (Or.inr rfl) s0
  have k79 := k70.tr g71 (Or.inr rfl) s0
  have cv80 : CVs (mA1 κ49 23 s.toNatClampNeg r48) (s.toInt + 1) (((mA1 κ49 23 s.toNatClampNeg r48)).1 19).toInt [r48] := cv67.st g71.rb (Int.le_refl _) (Or.inl (by omega)) rfl
  refine ⟨TR.mi p65.ps rfl rfl s0 (by omega), ?_⟩
  generalize mA1 κ49 23 s.toNatClampNeg r48 = κ72 at *
  have lt81 : s.toInt < (κ72.1 19).toInt := by omega
  exact ⟨⟨p77.1, by have := p77.2; omega⟩, G.mk s0 (Int.le_refl _) lt81 nd75 (by decide) (⟨ne20, k78⟩) (k79) True.intro True.intro True.intro, nd75.2.2.2.2.2.2, (CO.fin' (by omega) cv80 s0 ⟨fun h => Par.fb nd75 (by decide) h, True.intro⟩ lt81)⟩
theorem st_procedure (hG : NodC X W P 309 8 10 1 d) (hSt : SL X W P 321 [] 3 19 11 d) (hV : VarC X W P d) : PrC X W P (d + 1) := fun μ T h9 s x2 hS hd hh hn hT s0 s1 hs3 nd0 => by
  have hp := px0 hS
  have h0 := hS.2.2.2.2.1
  have at0 := hS.at
  have hcs := @ic s
  have p0 : TR s.toInt 0 0 0 0 0 μ μ := TR.rf hS
  have lt0 : s.toInt < (μ.1 19).toInt := by omega
  have s9 : s.toInt < 15990 := by omega
  have cv0 : CVs μ (s.toInt + 1) (μ.1 19).toInt [] := CVs.nil (by omega)
  obtain ⟨h, rfl⟩ : ∃ h, h9 = h + 1 := ⟨h9 - 1, by omega⟩
  have key : ∀ (j : Nat) (n0 : Int) (nm sg f x4 : Int32) (ν : MS), s.toInt < n0 → n0 ≤ (ν.1 19).toInt → ((μ.1 8).toInt - (ν.1 32).toInt).toNat < j → TR s.toInt 0 0 0 0 (-2) μ ν → s.toInt < (ν.1 19).toInt → ND ν s.toNatClampNeg 9 nm sg (-1) (-1) (-1) (-1) → G ν h (bt (s.toInt + 1) n0) 8 sg → ν.2.1 27 sg.toNatClampNeg = -1 → OL 19 (h + 1) n0 ν f x4 → CO ν (s.toInt + 1) n0 sg → OC ν n0 (ν.1 19).toInt f x4 →
      ME X W true d 308 58 [(0, .ref P.1), (1, .int s), (2, .int x2), (3, .int f), (4, .int x4)] [] P ν (fun _ μ1 => TR s.toInt 0 0 0 0 (-2) μ μ1 ∧ G μ1 (h + 1 + 1) (bt s.toInt (μ1.1 19).toInt) 4 s ∧ μ1.2.1 27 s.toNatClampNeg = -1 ∧ CO μ1 s.toInt (μ1.1 19).toInt s) T := by
    intro j
    induction j with
    | zero => intro n0 nm sg f x4 ν hn1 hn2 hj; omega
    | succ j ih =>
      intro n0 nm sg f x4 ν hn1 hn2 hj pν ltν ndν gν lkν hO cS hB
      have e8 := eq_i (pν.1.1.1 8 rfl)
      have t8 := pν.ps.2.2.1.2
      have at1 := pν.ps.at
      have uν := pν.2
      have xν := pν.px
      refine v_procedure_58 _ _ _ _ ?_
      have cvν : CVs ν (s.toInt + 1) (ν.1 19).toInt [f, sg] := (CVs.one (LCO.of gν.in.1 cS)).add (e := -1) (n := n0) RB.rf (Int.le_refl _) (Or.inl (by omega)) (by omega) hn2 hB.l
      have kν : Kd ν h s.toInt s 8 sg := Kd.of gν (by omega) hn2 s0 (Or.inl (by omega)) lkν
      have kO : KL ν (h + 1) s.toInt s 19 f := KL.of hO.lst (by omega) (Int.le_refl _) s0 (Or.inl (by omega))
      refine MC.mono (c_is (by omega) pν.ps) (fun r82 κ83 h84 => ?_) (fun _ h => h)
      obtain ⟨rfl, rfl⟩ := h84
      refine ⟨fun _ => ?_, fun hw => ?_⟩
      · skip
        have g85 : TR s.toInt 0 0 0 0 0 κ83 (mA1 κ83 24 s.toNatClampNeg f) := TR.put pν.ps s0 rfl rfl
        have e87 : ((mA1 κ83 24 s.toNatClampNeg f).1 19).toInt = (κ83.1 19).toInt := rfl
        have e88 : ((mA1 κ83 24 s.toNatClampNeg f).1 32).toInt = (κ83.1 32).toInt := rfl
        have sr90 : srt (mA1 κ83 24 s.toNatClampNeg f) = srt κ83 := srt_off rfl
        have nd89 := ndν.pc (x := f)
        have p91 : TR (s.toInt) (0) 0 0 0 (-2) μ (mA1 κ83 24 s.toNatClampNeg f) := pν.trS g85 (Or.inr (Or.inl rfl)) rfl rfl rfl rfl (by omega)
        have k92 := kν.tr g85 (Or.inr rfl) s0
        have k93 := kO.tr g85 (Or.inr rfl) s0
        have cv94 : CVs (mA1 κ83 24 s.toNatClampNeg f) (s.toInt + 1) (((mA1 κ83 24 s.toNatClampNeg f)).1 19).toInt [f, sg] := cvν.st g85.rb (Int.le_refl _) (Or.inl (by omega)) rfl
        refine ⟨TR.mi pν.ps rfl rfl s0 (by omega), ?_⟩
        generalize mA1 κ83 24 s.toNatClampNeg f = κ86 at *
        have lt95 : s.toInt < (κ86.1 19).toInt := by omega
        refine MC.mono (t_expect (by omega) p91.ps (by decide) (fun _ h => hT _ (p91.1.1.tr h))) (fun v96 κ101 h97 => ?_) (fun _ h => h)
        obtain ⟨q98, m99, a100⟩ := h97
        have p102 : TR (s.toInt) (0) 0 0 0 (-4) μ κ101 := p91.trS q98 (Or.inl (by decide)) rfl rfl rfl rfl (by omega)
        have k103 := k92.tr q98 (Or.inl (by decide)) s0
        have k104 := k93.tr q98 (Or.inl (by decide)) s0
        have cv105 : CVs κ101 (s.toInt + 1) ((κ101).1 19).toInt [f, sg] := cv94.st q98.rb (Int.le_refl _) (Or.inl (by omega)) m99
        have nd106 := nd89.tr q98 (by have := @ic s; omega) (by omega)
        have lt107 : s.toInt < (κ101.1 19).toInt := by omega
        have x111 := p102.px
        have u112 := p102.2
        have y113 := tT p102
        have z114 := px0 p102.ps
        refine MC.mono (hSt κ101 T h p102.ps (by omega) (by omega) (by omega) (fun _ h => hT _ (p102.1.1.tr h))) (fun r108 κ109 h110 => ?_) (fun _ h => h)
        obtain ⟨q115, g116, c117⟩ := h110
        have l118 := q115.l19
        have l119 := q115.l32
        have p120 : TR (s.toInt) (0) 0 0 0 (-4) μ κ109 := p102.trS q115 (Or.inl (by decide)) rfl rfl rfl rfl (by omega)
        have k121 := k103.tr q115 (Or.inl (by decide)) s0
        have k122 := k104.tr q115 (Or.inl (by decide)) s0
        have cv123 : CVs κ109 (s.toInt + 1) ((κ109).1 19).toInt [r108, f, sg] := cv105.add q115.rb (Int.le_refl _) (Or.inl (by omega)) (by omega) l118 (c117)
        have nd124 := nd106.tr q115 (by have := @ic s; omega) (by omega)
        have lt125 : s.toInt < (κ109.1 19).toInt := by omega
        have k126 : KL κ109 h s.toInt s 3 r108 := KL.of g116 (by omega) (Int.le_refl _) s0 (Or.inl (by omega))
        have g127 : TR s.toInt 0 0 0 0 0 κ109 (mA1 κ109 25 s.toNatClampNeg r108) := TR.put p120.ps s0 rfl rfl
        have e129 : ((mA1 κ109 25 s.toNatClampNeg r108).1 19).toInt = (κ109.1 19).toInt := rfl
        have e130 : ((mA1 κ109 25 s.toNatClampNeg r108).1 32).toInt = (κ109.1 32).toInt := rfl
        have sr132 : srt (mA1 κ109 25 s.toNatClampNeg r108) = srt κ109 := srt_off rfl
        have nd131 := nd124.pd (x := r108)
        have p133 : TR (s.toInt) (0) 0 0 0 (-4) μ (mA1 κ109 25 s.toNatClampNeg r108) := p120.trS g127 (Or.inr (Or.inl rfl)) rfl rfl rfl rfl (by omega)
        have k134 := k121.tr g127 (Or.inr rfl) s0
        have k135 := k122.tr g127 (Or.inr rfl) s0
        have k136 := k126.tr g127 (Or.inr rfl) s0
        have cv137 : CVs (mA1 κ109 25 s.toNatClampNeg r108) (s.toInt + 1) (((mA1 κ109 25 s.toNatClampNeg r108)).1 19).toInt [r108, f, sg] := cv123.st g127.rb (Int.le_refl _) (Or.inl (by omega)) rfl
        refine ⟨TR.mi p120.ps rfl rfl s0 (by omega), ?_⟩
        generalize mA1 κ109 25 s.toNatClampNeg r108 = κ128 at *
        have lt138 : s.toInt < (κ128.1 19).toInt := by omega
        refine MC.mono (c_line (by omega) p133.ps.1 p133.ps.at.1 p133.ps.at.2) (fun r139 κ140 h141 => ?_) (fun _ h => h)
        subst h141
        have g142 : TR s.toInt 0 0 0 0 0 κ140 (mA1 κ140 26 s.toNatClampNeg r139) := TR.put p133.ps s0 rfl rfl
        have e144 : ((mA1 κ140 26 s.toNatClampNeg r139).1 19).toInt = (κ140.1 19).toInt := rfl
        have e145 : ((mA1 κ140 26 s.toNatClampNeg r139).1 32).toInt = (κ140.1 32).toInt := rfl
        have sr147 : srt (mA1 κ140 26 s.toNatClampNeg r139) = srt κ140 := srt_off rfl
        have nd146 := nd131.pe (x := r139)
        have p148 : TR (s.toInt) (0) 0 0 0 (-4) μ (mA1 κ140 26 s.toNatClampNeg r139) := p133.trS g142 (Or.inr (Or.inl rfl)) rfl rfl rfl rfl (by omega)
        have k149 := k134.tr g142 (Or.inr rfl) s0
        have k150 := k135.tr g142 (Or.inr rfl) s0
        have k151 := k136.tr g142 (Or.inr rfl) s0
        have cv152 : CVs (mA1 κ140 26 s.toNatClampNeg r139) (s.toInt + 1) (((mA1 κ140 26 s.toNatClampNeg r139)).1 19).toInt [r108, f, sg] := cv137.st g142.rb (Int.le_refl _) (Or.inl (by omega)) rfl
        refine ⟨TR.mi p133.ps rfl rfl s0 (by omega), ?_⟩
        generalize mA1 κ140 26 s.toNatClampNeg r139 = κ143 at *
        have lt153 : s.toInt < (κ143.1 19).toInt := by omega
        refine MC.mono (t_expect (by omega) p148.ps (by decide) (fun _ h => hT _ (p148.1.1.tr h))) (fun v154 κ159 h155 => ?_) (fun _ h => h)
        obtain ⟨q156, m157, a158⟩ := h155
        have p160 : TR (s.toInt) (0) 0 0 0 (-6) μ κ159 := p148.trS q156 (Or.inl (by decide)) rfl rfl rfl rfl (by omega)
        have k161 := k149.tr q156 (Or.inl (by decide)) s0
        have k162 := k150.tr q156 (Or.inl (by decide)) s0
        have k163 := k151.tr q156 (Or.inl (by decide)) s0
        have cv164 : CVs κ159 (s.toInt + 1) ((κ159).1 19).toInt [r108, f, sg] := cv152.st q156.rb (Int.le_refl _) (Or.inl (by omega)) m157
        have nd165 := nd146.tr q156 (by have := @ic s; omega) (by omega)
        have lt166 : s.toInt < (κ159.1 19).toInt := by omega
        refine ⟨TR.mi p160.ps rfl rfl s0 (by omega), ?_⟩
        refine MC.mono (t_endName (by omega) p160.ps (fun _ h => hT _ (p160.1.1.tr h))) (fun v167 κ172 h168 => ?_) (fun _ h => h)
        obtain ⟨q169, m170, a171⟩ := h168
        have p173 : TR (s.toInt) (0) 0 0 0 (-8) μ κ172 := p160.trS q169 (Or.inl (by decide)) rfl rfl rfl rfl (by omega)
        have k174 := k161.tr q169 (Or.inl (by decide)) s0
        have k175 := k162.tr q169 (Or.inl (by decide)) s0
        have k176 := k163.tr q169 (Or.inl (by decide)) s0
        have cv177 : CVs κ172 (s.toInt + 1) ((κ172).1 19).toInt [r108, f, sg] := cv164.st q169.rb (Int.le_refl _) (Or.inl (by omega)) m170
        have nd178 := nd165.tr q169 (by have := @ic s; omega) (by omega)
        have lt179 : s.toInt < (κ172.1 19).toInt := by omega
        exact ⟨⟨p173.1, by have := p173.2; omega⟩, G.mk s0 (Int.le_refl _) lt179 nd178 (by decide) True.intro (Kd.up k174 (Nat.le_succ _)) (k175) (KL.up k176 (Nat.le_succ _)) True.intro, nd178.2.2.2.2.2.2, (CO.fin' (by omega) cv177 s0 ⟨fun h => Par.fd nd178 (by decide) h, fun h => Par.fc nd178 (by decide) h, fun h => Par.fb nd178 (by decide) h, True.intro⟩ lt179)⟩
      · skip
        have hw3 : ¬ srt κ83 = 203 := by rw [is_t hw]; decide
        refine MC.mono (c_line (by omega) pν.ps.1 at1.1 at1.2) (fun r7 ν7 h7 => ?_) (fun _ h => h)
        subst h7
        have g7 : TR (-1) 0 0 0 0 0 ν7 (mS1 ν7 34 r7) := TR.s34 pν.ps
        have p7 : TR s.toInt 0 0 0 0 (-2) μ (mS1 ν7 34 r7) := pν.trS g7 (Or.inl (by decide)) rfl rfl rfl rfl (by omega)
        have e19 : ((mS1 ν7 34 r7).1 19).toInt = (ν7.1 19).toInt := rfl
        have e32 : ((mS1 ν7 34 r7).1 32).toInt = (ν7.1 32).toInt := rfl
        have w7 : ¬ srt (mS1 ν7 34 r7) = 203 := hw3
        refine MC.mono (t_node (by omega) p7.ps (by omega)) (fun l ν8 h8 => ?_) (fun _ h => h)
        obtain ⟨q1, ⟨q2, l0⟩, q3, q4, q5, q6⟩ := h8
        have g8 := g7.tr q1 (Or.inl (by decide)) rfl rfl rfl rfl (Int.le_refl _)
        have p8 : TR s.toInt 0 0 0 0 (-1) μ ν8 := p7.trS q1 (Or.inl (by decide)) rfl rfl rfl rfl (by omega)
        have x8 := p8.px
        have u8 := p8.2
        have z8 := px0 p8.ps
        refine MC.mono (hV ν8 T h l p8.ps (by omega) (by omega) (by omega) (fun _ h => hT _ (p8.1.1.tr h)) l0 (by omega) (by rw [q5]; exact w7) q6) (fun _ ν9 h9 => ?_) (fun _ h => h)
        obtain ⟨v1, v2, v3, vc⟩ := h9
        have l9 := v1.l19
        have hcl := @ic l
        have g9 : TR (-1) 0 0 0 0 0 ν7 ν9 := g8.tr v1 (Or.inr (by omega)) rfl rfl rfl rfl (by omega)
        have p9 : TR s.toInt 0 0 0 0 (-2) μ ν9 := p8.trS v1 (Or.inr (Or.inr (by omega))) rfl rfl rfl rfl (by omega)
        refine MC.mono (t_expect (by omega) p9.ps (by decide) (fun _ h => hT _ (p9.1.1.tr h))) (fun _ ν10 h10 => ?_) (fun _ h => h)
        obtain ⟨m1, m2, m3⟩ := h10
        have g10 : TR (-1) 0 0 0 0 0 ν7 ν10 := g9.tr m1 (Or.inl (by decide)) rfl rfl rfl rfl (by omega)
        have p10 : TR s.toInt 0 0 0 0 (-2) μ ν10 := p9.trS m1 (Or.inl (by decide)) rfl rfl rfl rfl (by omega)
        have eG : G ν10 (h + 1) (bt (ν7.1 19).toInt (ν10.1 19).toInt) 19 l := (v2.tr m1 (Int.le_refl _) (Or.inl (by omega))).up (Nat.le_refl _) (by omega) (by omega)
        have n10 : ν10.2.1 27 l.toNatClampNeg = -1 := by rw [m1.rb 27 (by omega) (by omega) _ (by omega) (by omega)]; exact v3
        have u10 := p10.2
        have at10 := p10.ps.at
        have nd10 := ndν.tr g10 (by omega) (by omega)
        have k10 := gν.tr g10 hn2 (Or.inl (by omega))
        have lk10 := G.lk gν g10 hn2 (Or.inl (by omega)) lkν
        have cS10 := cS.rb g10.rb hn2 (Or.inl (by omega))
        have hB10 := hB.rb g10.rb (Int.le_refl _) (Or.inl (by omega))
        have eC : CO ν10 (ν7.1 19).toInt (ν10.1 19).toInt l := CO.lh (vc.rb m1.rb (Int.le_refl _) (Or.inl (by omega))) (by omega) (by omega)
        have l9' := v1.l32
        refine ⟨fun hx1 => ?_, fun hx1 => ?_⟩
        · rcases hO.sg with ⟨w1, -⟩ | ⟨w1, w2⟩
          · rw [w1] at hx1; exact absurd hx1 (by decide)
          obtain ⟨j1, j2, j3⟩ := hO.in w2
          have hc2 := @ic x4
          have g11 : TR x4.toInt 0 0 0 0 0 ν10 (mA1 ν10 27 x4.toNatClampNeg l) := TR.put p10.ps w2 rfl rfl
          exact ⟨TR.mi p10.ps rfl rfl w2 (by omega), ih n0 nm sg f l _ hn1 (by show _ ≤ (ν10.1 19).toInt; omega) (by show ((μ.1 8).toInt - (ν10.1 32).toInt).toNat < j; omega) (p10.trS g11 (Or.inr (Or.inr (by omega))) rfl rfl rfl rfl (by omega)) (by show _ < (ν10.1 19).toInt; omega) (nd10.off (by omega)) (k10.put (Or.inr (by omega))) (G.lk k10 g11 (by omega) (Or.inr (by omega)) lk10) (hO.add w2 g10 (by omega) eG n10) (cS10.rb g11.rb (by omega) (Or.inr (by omega))) (hB10.add w2 j2 j3 j1 eC l0 g10.l19 (by rw [g10.rb 27 (by omega) (by omega) _ (by omega) (by omega)]; exact hO.nn w2))⟩
        · have hf : f = -1 := by
            rcases hO.sg with ⟨w1, -⟩ | ⟨w1, -⟩
            · exact w1
            · omega
          refine ih n0 nm sg l l _ hn1 (by omega) (by omega) p10 (by omega) nd10 k10 lk10 (OL.one (eG.up (Nat.le_refl _) (by omega) (Int.le_refl _)) (by omega) n10) cS10 ?_
          rcases hB10 with ⟨-, w⟩ | ⟨w, -⟩
          · exact OC.one (eC.ahead w (by omega)) l0
          · rw [hf] at w; exact absurd w (by decide)
  refine me_meth (by omega) rfl (v_procedure_0 _ _ ?_)
  have g180 : TR s.toInt 0 0 0 0 0 μ (mA1 μ 20 s.toNatClampNeg 9) := TR.put p0.ps s0 rfl rfl
  have e182 : ((mA1 μ 20 s.toNatClampNeg 9).1 19).toInt = (μ.1 19).toInt := rfl
  have e183 : ((mA1 μ 20 s.toNatClampNeg 9).1 32).toInt = (μ.1 32).toInt := rfl
  have sr185 : srt (mA1 μ 20 s.toNatClampNeg 9) = srt μ := srt_off rfl
  have nd184 := nd0.pk (x := 9)
  have p186 : TR (s.toInt) (0) 0 0 0 (0) μ (mA1 μ 20 s.toNatClampNeg 9) := p0.trS g180 (Or.inr (Or.inl rfl)) rfl rfl rfl rfl (by omega)
  have cv187 : CVs (mA1 μ 20 s.toNatClampNeg 9) (s.toInt + 1) (((mA1 μ 20 s.toNatClampNeg 9)).1 19).toInt [] := cv0.st g180.rb (Int.le_refl _) (Or.inl (by omega)) rfl
  refine ⟨TR.mi p0.ps rfl rfl s0 (by omega), ?_⟩
  generalize mA1 μ 20 s.toNatClampNeg 9 = κ181 at *
  have lt188 : s.toInt < (κ181.1 19).toInt := by omega
  have hs4 : ¬ srt κ181 = 203 := by rw [sr185]; exact hs3
  refine MC.mono (t_next (by omega) p186.ps (hs4) (fun _ h => hT _ (p186.1.1.tr h))) (fun v189 κ194 h190 => ?_) (fun _ h => h)
  obtain ⟨q191, m192, a193⟩ := h190
  have p195 : TR (s.toInt) (0) 0 0 0 (-2) μ κ194 := p186.trS q191 (Or.inl (by decide)) rfl rfl rfl rfl (by omega)
  have cv196 : CVs κ194 (s.toInt + 1) ((κ194).1 19).toInt [] := cv187.st q191.rb (Int.le_refl _) (Or.inl (by omega)) m192
  have nd197 := nd184.tr q191 (by have := @ic s; omega) (by omega)
  have lt198 : s.toInt < (κ194.1 19).toInt := by omega
  refine MC.mono (c_line (by omega) p195.ps.1 p195.ps.at.1 p195.ps.at.2) (fun r199 κ200 h201 => ?_) (fun _ h => h)
  subst h201
  have g202 : TR s.toInt 0 0 0 0 0 κ200 (mA1 κ200 31 s.toNatClampNeg r199) := TR.put p195.ps s0 rfl rfl
  have e204 : ((mA1 κ200 31 s.toNatClampNeg r199).1 19).toInt = (κ200.1 19).toInt := rfl
  have e205 : ((mA1 κ200 31 s.toNatClampNeg r199).1 32).toInt = (κ200.1 32).toInt := rfl
  have sr207 : srt (mA1 κ200 31 s.toNatClampNeg r199) = srt κ200 := srt_off rfl
  have nd206 := nd197.p31 (x := r199)
  have p208 : TR (s.toInt) (0) 0 0 0 (-2) μ (mA1 κ200 31 s.toNatClampNeg r199) := p195.trS g202 (Or.inr (Or.inl rfl)) rfl rfl rfl rfl (by omega)
  have cv209 : CVs (mA1 κ200 31 s.toNatClampNeg r199) (s.toInt + 1) (((mA1 κ200 31 s.toNatClampNeg r199)).1 19).toInt [] := cv196.st g202.rb (Int.le_refl _) (Or.inl (by omega)) rfl
  refine ⟨TR.mi p195.ps rfl rfl s0 (by omega), ?_⟩
  generalize mA1 κ200 31 s.toNatClampNeg r199 = κ203 at *
  have lt210 : s.toInt < (κ203.1 19).toInt := by omega
  refine MC.mono (t_name (by omega) p208.ps (fun _ h => hT _ (p208.1.1.tr h))) (fun v211 κ216 h212 => ?_) (fun _ h => h)
  obtain ⟨q213, m214, a215⟩ := h212
  have p217 : TR (s.toInt) (0) 0 0 0 (-4) μ κ216 := p208.trS q213 (Or.inl (by decide)) rfl rfl rfl rfl (by omega)
  have cv218 : CVs κ216 (s.toInt + 1) ((κ216).1 19).toInt [] := cv209.st q213.rb (Int.le_refl _) (Or.inl (by omega)) m214
  have nd219 := nd206.tr q213 (by have := @ic s; omega) (by omega)
  have lt220 : s.toInt < (κ216.1 19).toInt := by omega
  have g221 : TR s.toInt 0 0 0 0 0 κ216 (mA1 κ216 22 s.toNatClampNeg v211) := TR.put p217.ps s0 rfl rfl
  have e223 : ((mA1 κ216 22 s.toNatClampNeg v211).1 19).toInt = (κ216.1 19).toInt := rfl
  have e224 : ((mA1 κ216 22 s.toNatClampNeg v211).1 32).toInt = (κ216.1 32).toInt := rfl
  have sr226 : srt (mA1 κ216 22 s.toNatClampNeg v211) = srt κ216 := srt_off rfl
  have nd225 := nd219.pa (x := v211)
  have p227 : TR (s.toInt) (0) 0 0 0 (-4) μ (mA1 κ216 22 s.toNatClampNeg v211) := p217.trS g221 (Or.inr (Or.inl rfl)) rfl rfl rfl rfl (by omega)
  have cv228 : CVs (mA1 κ216 22 s.toNatClampNeg v211) (s.toInt + 1) (((mA1 κ216 22 s.toNatClampNeg v211)).1 19).toInt [] := cv218.st g221.rb (Int.le_refl _) (Or.inl (by omega)) rfl
  refine ⟨TR.mi p217.ps rfl rfl s0 (by omega), ?_⟩
  generalize mA1 κ216 22 s.toNatClampNeg v211 = κ222 at *
  have lt229 : s.toInt < (κ222.1 19).toInt := by omega
  have x233 := p227.px
  have u234 := p227.2
  have y235 := tT p227
  have z236 := px0 p227.ps
  refine MC.mono (hG κ222 T h p227.ps (by omega) (by omega) (by omega) (fun _ h => hT _ (p227.1.1.tr h))) (fun r230 κ231 h232 => ?_) (fun _ h => h)
  obtain ⟨⟨z239, z240, z241, z242, z243⟩, c244⟩ := h232
  have q237 : TR (-1) 0 0 0 0 0 κ222 κ231 := ⟨z239, by omega⟩
  have g238 := z242
  have l245 := q237.l19
  have l246 := q237.l32
  have p247 : TR (s.toInt) (0) 0 0 0 (-4) μ κ231 := p227.trS q237 (Or.inl (by decide)) rfl rfl rfl rfl (by omega)
  have cv248 : CVs κ231 (s.toInt + 1) ((κ231).1 19).toInt [r230] := cv228.add q237.rb (Int.le_refl _) (Or.inl (by omega)) (by omega) l245 (LCO.of z242.in.1 c244)
  have nd249 := nd225.tr q237 (by have := @ic s; omega) (by omega)
  have lt250 : s.toInt < (κ231.1 19).toInt := by omega
  have k251 : Kd κ231 h s.toInt s 8 r230 := Kd.of g238 (by omega) (Int.le_refl _) s0 (Or.inl (by omega)) z243
  have nS : (κ231.1 19).toInt ≤ (κ231.1 19).toInt := Int.le_refl _
  have n0e : ∃ n0 : Int, n0 = (κ231.1 19).toInt := ⟨_, rfl⟩
  obtain ⟨n0, n0e⟩ := n0e
  have ltS : s.toInt < n0 := by omega
  have g252 : TR s.toInt 0 0 0 0 0 κ231 (mA1 κ231 23 s.toNatClampNeg r230) := TR.put p247.ps s0 rfl rfl
  have e254 : ((mA1 κ231 23 s.toNatClampNeg r230).1 19).toInt = (κ231.1 19).toInt := rfl
  have e255 : ((mA1 κ231 23 s.toNatClampNeg r230).1 32).toInt = (κ231.1 32).toInt := rfl
  have sr257 : srt (mA1 κ231 23 s.toNatClampNeg r230) = srt κ231 := srt_off rfl
  have nd256 := nd249.pb (x := r230)
  have p258 : TR (s.toInt) (0) 0 0 0 (-4) μ (mA1 κ231 23 s.toNatClampNeg r230) := p247.trS g252 (Or.inr (Or.inl rfl)) rfl rfl rfl rfl (by omega)
  have k259 := k251.tr g252 (Or.inr rfl) s0
  have cv260 : CVs (mA1 κ231 23 s.toNatClampNeg r230) (s.toInt + 1) (((mA1 κ231 23 s.toNatClampNeg r230)).1 19).toInt [r230] := cv248.st g252.rb (Int.le_refl _) (Or.inl (by omega)) rfl
  have co261 := c244.rb g252.rb (by omega) (Or.inl (by omega))
  have lk263 := G.lk g238 g252 (by omega) (Or.inl (by omega)) z243
  have gg262 := g238.tr g252 (by omega) (Or.inl (by omega))
  refine ⟨TR.mi p247.ps rfl rfl s0 (by omega), ?_⟩
  generalize mA1 κ231 23 s.toNatClampNeg r230 = κ253 at *
  have lt264 : s.toInt < (κ253.1 19).toInt := by omega
  refine ⟨fun _ => ?_, fun _ => ?_⟩
  · skip
    refine MC.mono (t_expect (by omega) p258.ps (by decide) (fun _ h => hT _ (p258.1.1.tr h))) (fun v265 κ270 h266 => ?_) (fun _ h => h)
    obtain ⟨q267, m268, a269⟩ := h266
    have p271 : TR (s.toInt) (0) 0 0 0 (-6) μ κ270 := p258.trS q267 (Or.inl (by decide)) rfl rfl rfl rfl (by omega)
    have k272 := k259.tr q267 (Or.inl (by decide)) s0
    have cv273 : CVs κ270 (s.toInt + 1) ((κ270).1 19).toInt [r230] := cv260.st q267.rb (Int.le_refl _) (Or.inl (by omega)) m268
    have co274 := co261.rb q267.rb (by omega) (Or.inl (by omega))
    have lk276 := G.lk gg262 q267 (by omega) (Or.inl (by omega)) lk263
    have gg275 := gg262.tr q267 (by omega) (Or.inl (by omega))
    have nd277 := nd256.tr q267 (by have := @ic s; omega) (by omega)
    have lt278 : s.toInt < (κ270.1 19).toInt := by omega
    exact key _ n0 _ _ (-1) (-1) _ ltS (by omega) (Nat.lt_succ_self _) ⟨p271.1, by have := p271.2; omega⟩ lt278 nd277 (gg275.up (Nat.le_refl _) (by omega) (by omega)) lk276 OL.nil (CO.lh co274 (by omega) (by omega)) (Or.inl ⟨rfl, NS.nil (by omega)⟩)
  · skip
    exact ⟨⟨p258.1, by have := p258.2; omega⟩, G.mk s0 (Int.le_refl _) lt264 nd256 (by decide) True.intro (Kd.up k259 (Nat.le_succ _)) ⟨0, rfl⟩ ⟨0, rfl⟩ True.intro, nd256.2.2.2.2.2.2, (CO.fin' (by omega) cv260 s0 ⟨fun h => Par.fb nd256 (by decide) h, True.intro⟩ lt264)⟩
theorem st_declaration (hY : NodC X W P 312 0 9 0 d) (hL : NodC X W P 313 21 14 3 d) (hV : VarC X W P d) (hPr : PrC X W P d) : DeC X W P (d + 1) := fun μ T h9 x1 hS hd hh hn hT hs3 => by
  have hp := px0 hS
  have h0 := hS.2.2.2.2.1
  have at0 := hS.at
  obtain ⟨h, rfl⟩ : ∃ h, h9 = h + 1 := ⟨h9 - 1, by omega⟩
  refine me_meth (by omega) rfl (v_declaration_0 _ (MC.mono (c_line (by omega) hS.1 hS.at.1 hS.at.2) (fun r1 ν h1 => ?_) (fun _ h => h)))
  subst h1
  have g1 : TR (-1) 0 0 0 0 0 ν (mS1 ν 34 r1) := TR.s34 hS
  have e19 : ((mS1 ν 34 r1).1 19).toInt = (ν.1 19).toInt := rfl
  have e32 : ((mS1 ν 34 r1).1 32).toInt = (ν.1 32).toInt := rfl
  refine MC.mono (t_node (by omega) g1.ps (by omega)) (fun s κ hk => ?_) (fun _ h => h)
  obtain ⟨q1, ⟨q2, s0⟩, q3, q4, q5, nd0⟩ := hk
  have hcs := @ic s
  have s9 : s.toInt < 15990 := by omega
  have p0 : TR (-1) 0 0 0 0 1 ν κ := g1.tr q1 (Or.inl (by decide)) rfl rfl rfl rfl (by omega)
  have lt0 : s.toInt < (κ.1 19).toInt := by omega
  have hk3 : ¬ srt κ = 203 := by rw [q5]; exact hs3
  have xκ := p0.px
  have zκ := px0 p0.ps
  have uκ := p0.2
  have cv0 : CVs κ (s.toInt + 1) (κ.1 19).toInt [] := CVs.nil (by omega)
  refine MC.mono (c_is (by omega) p0.ps) (fun r279 κ280 h281 => ?_) (fun _ h => h)
  obtain ⟨rfl, rfl⟩ := h281
  refine ⟨fun hA => ?_, fun hA => ?_⟩
  · skip
    refine MC.mono (c_is (by omega) p0.ps) (fun r282 κ283 h284 => ?_) (fun _ h => h)
    obtain ⟨rfl, rfl⟩ := h284
    refine ⟨fun hB => ?_, fun hB => ?_⟩
    · skip
      refine MC.mono (c_is (by omega) p0.ps) (fun r285 κ286 h287 => ?_) (fun _ h => h)
      obtain ⟨rfl, rfl⟩ := h287
      refine ⟨fun hC => ?_, fun hC => ?_⟩
      · skip
        refine MC.mono (c_is (by omega) p0.ps) (fun r288 κ289 h290 => ?_) (fun _ h => h)
        obtain ⟨rfl, rfl⟩ := h290
        refine ⟨fun hD => ?_, fun hD => ?_⟩
        · skip
          refine MC.mono (hPr κ289 T h s x1 p0.ps (by omega) (by omega) (by omega) (fun _ h => hT _ (p0.1.1.tr h)) s0 (by omega) hk3 nd0) (fun _ ζ hz => ?_) (fun _ h => h)
          obtain ⟨z1, z2, z3, z4⟩ := hz
          have lz := z1.l19
          have pz : TR (-1) 0 0 0 0 0 ν ζ := p0.tr z1 (Or.inr (by omega)) rfl rfl rfl rfl (by omega)
          refine MC.mono (t_expect (by omega) pz.ps (by decide) (fun _ h => hT _ (pz.1.1.tr h))) (fun _ η hη => ?_) (fun _ h => h)
          obtain ⟨m1, m2, m3⟩ := hη
          have lz2 := z1.l32
          exact ⟨pz.tr m1 (Or.inl (by decide)) rfl rfl rfl rfl (by omega), by omega, ((z2).tr m1 (Int.le_refl _) (Or.inl (by omega))).up (Nat.le_refl _) (by omega) (by omega), by rw [m1.rb 27 (by omega) (by omega) _ (by omega) (by omega)]; exact z3, CO.lh (z4.rb m1.rb (Int.le_refl _) (Or.inl (by omega))) (by omega) (by omega)⟩
        · skip
          have g291 : TR s.toInt 0 0 0 0 0 κ289 (mA1 κ289 20 s.toNatClampNeg 8) := TR.put p0.ps s0 rfl rfl
          have e293 : ((mA1 κ289 20 s.toNatClampNeg 8).1 19).toInt = (κ289.1 19).toInt := rfl
          have e294 : ((mA1 κ289 20 s.toNatClampNeg 8).1 32).toInt = (κ289.1 32).toInt := rfl
          have sr296 : srt (mA1 κ289 20 s.toNatClampNeg 8) = srt κ289 := srt_off rfl
          have nd295 := nd0.pk (x := 8)
          have p297 : TR (-1) (0) 0 0 0 (1) ν (mA1 κ289 20 s.toNatClampNeg 8) := p0.trS g291 (Or.inr (Or.inr (by omega))) rfl rfl rfl rfl (by omega)
          have cv298 : CVs (mA1 κ289 20 s.toNatClampNeg 8) (s.toInt + 1) (((mA1 κ289 20 s.toNatClampNeg 8)).1 19).toInt [] := cv0.st g291.rb (Int.le_refl _) (Or.inl (by omega)) rfl
          refine ⟨TR.mi p0.ps rfl rfl s0 (by omega), ?_⟩
          generalize mA1 κ289 20 s.toNatClampNeg 8 = κ292 at *
          have lt299 : s.toInt < (κ292.1 19).toInt := by omega
          have hk4 : ¬ srt κ292 = 203 := by rw [sr296]; exact hk3
          refine MC.mono (t_next (by omega) p297.ps (hk4) (fun _ h => hT _ (p297.1.1.tr h))) (fun v300 κ305 h301 => ?_) (fun _ h => h)
          obtain ⟨q302, m303, a304⟩ := h301
          have p306 : TR (-1) (0) 0 0 0 (-1) ν κ305 := p297.trS q302 (Or.inl (by decide)) rfl rfl rfl rfl (by omega)
          have cv307 : CVs κ305 (s.toInt + 1) ((κ305).1 19).toInt [] := cv298.st q302.rb (Int.le_refl _) (Or.inl (by omega)) m303
          have nd308 := nd295.tr q302 (by have := @ic s; omega) (by omega)
          have lt309 : s.toInt < (κ305.1 19).toInt := by omega
          refine MC.mono (c_line (by omega) p306.ps.1 p306.ps.at.1 p306.ps.at.2) (fun r310 κ311 h312 => ?_) (fun _ h => h)
          subst h312
          have g313 : TR s.toInt 0 0 0 0 0 κ311 (mA1 κ311 31 s.toNatClampNeg r310) := TR.put p306.ps s0 rfl rfl
          have e315 : ((mA1 κ311 31 s.toNatClampNeg r310).1 19).toInt = (κ311.1 19).toInt := rfl
          have e316 : ((mA1 κ311 31 s.toNatClampNeg r310).1 32).toInt = (κ311.1 32).toInt := rfl
          have sr318 : srt (mA1 κ311 31 s.toNatClampNeg r310) = srt κ311 := srt_off rfl
          have nd317 := nd308.p31 (x := r310)
          have p319 : TR (-1) (0) 0 0 0 (-1) ν (mA1 κ311 31 s.toNatClampNeg r310) := p306.trS g313 (Or.inr (Or.inr (by omega))) rfl rfl rfl rfl (by omega)
          have cv320 : CVs (mA1 κ311 31 s.toNatClampNeg r310) (s.toInt + 1) (((mA1 κ311 31 s.toNatClampNeg r310)).1 19).toInt [] := cv307.st g313.rb (Int.le_refl _) (Or.inl (by omega)) rfl
          refine ⟨TR.mi p306.ps rfl rfl s0 (by omega), ?_⟩
          generalize mA1 κ311 31 s.toNatClampNeg r310 = κ314 at *
          have lt321 : s.toInt < (κ314.1 19).toInt := by omega
          refine MC.mono (t_name (by omega) p319.ps (fun _ h => hT _ (p319.1.1.tr h))) (fun v322 κ327 h323 => ?_) (fun _ h => h)
          obtain ⟨q324, m325, a326⟩ := h323
          have p328 : TR (-1) (0) 0 0 0 (-3) ν κ327 := p319.trS q324 (Or.inl (by decide)) rfl rfl rfl rfl (by omega)
          have cv329 : CVs κ327 (s.toInt + 1) ((κ327).1 19).toInt [] := cv320.st q324.rb (Int.le_refl _) (Or.inl (by omega)) m325
          have nd330 := nd317.tr q324 (by have := @ic s; omega) (by omega)
          have lt331 : s.toInt < (κ327.1 19).toInt := by omega
          have g332 : TR s.toInt 0 0 0 0 0 κ327 (mA1 κ327 22 s.toNatClampNeg v322) := TR.put p328.ps s0 rfl rfl
          have e334 : ((mA1 κ327 22 s.toNatClampNeg v322).1 19).toInt = (κ327.1 19).toInt := rfl
          have e335 : ((mA1 κ327 22 s.toNatClampNeg v322).1 32).toInt = (κ327.1 32).toInt := rfl
          have sr337 : srt (mA1 κ327 22 s.toNatClampNeg v322) = srt κ327 := srt_off rfl
          have nd336 := nd330.pa (x := v322)
          have p338 : TR (-1) (0) 0 0 0 (-3) ν (mA1 κ327 22 s.toNatClampNeg v322) := p328.trS g332 (Or.inr (Or.inr (by omega))) rfl rfl rfl rfl (by omega)
          have cv339 : CVs (mA1 κ327 22 s.toNatClampNeg v322) (s.toInt + 1) (((mA1 κ327 22 s.toNatClampNeg v322)).1 19).toInt [] := cv329.st g332.rb (Int.le_refl _) (Or.inl (by omega)) rfl
          refine ⟨TR.mi p328.ps rfl rfl s0 (by omega), ?_⟩
          generalize mA1 κ327 22 s.toNatClampNeg v322 = κ333 at *
          have lt340 : s.toInt < (κ333.1 19).toInt := by omega
          refine MC.mono (t_expect (by omega) p338.ps (by decide) (fun _ h => hT _ (p338.1.1.tr h))) (fun v341 κ346 h342 => ?_) (fun _ h => h)
          obtain ⟨q343, m344, a345⟩ := h342
          have p347 : TR (-1) (0) 0 0 0 (-5) ν κ346 := p338.trS q343 (Or.inl (by decide)) rfl rfl rfl rfl (by omega)
          have cv348 : CVs κ346 (s.toInt + 1) ((κ346).1 19).toInt [] := cv339.st q343.rb (Int.le_refl _) (Or.inl (by omega)) m344
          have nd349 := nd336.tr q343 (by have := @ic s; omega) (by omega)
          have lt350 : s.toInt < (κ346.1 19).toInt := by omega
          exact ⟨⟨p347.1, by have := p347.2; omega⟩, by omega, (G.mk (lo := s.toInt) s0 (Int.le_refl _) lt350 nd349 (by decide) True.intro True.intro True.intro True.intro True.intro : G κ346 (h + 1) (bt s.toInt (κ346.1 19).toInt) 4 s).up (Nat.le_refl _) (by omega) (Int.le_refl _), nd349.2.2.2.2.2.2, (CO.fin' (by omega) cv348 s0 True.intro lt350)⟩
      · skip
        have g351 : TR s.toInt 0 0 0 0 0 κ286 (mA1 κ286 20 s.toNatClampNeg 7) := TR.put p0.ps s0 rfl rfl
        have e353 : ((mA1 κ286 20 s.toNatClampNeg 7).1 19).toInt = (κ286.1 19).toInt := rfl
        have e354 : ((mA1 κ286 20 s.toNatClampNeg 7).1 32).toInt = (κ286.1 32).toInt := rfl
        have sr356 : srt (mA1 κ286 20 s.toNatClampNeg 7) = srt κ286 := srt_off rfl
        have nd355 := nd0.pk (x := 7)
        have p357 : TR (-1) (0) 0 0 0 (1) ν (mA1 κ286 20 s.toNatClampNeg 7) := p0.trS g351 (Or.inr (Or.inr (by omega))) rfl rfl rfl rfl (by omega)
        have cv358 : CVs (mA1 κ286 20 s.toNatClampNeg 7) (s.toInt + 1) (((mA1 κ286 20 s.toNatClampNeg 7)).1 19).toInt [] := cv0.st g351.rb (Int.le_refl _) (Or.inl (by omega)) rfl
        refine ⟨TR.mi p0.ps rfl rfl s0 (by omega), ?_⟩
        generalize mA1 κ286 20 s.toNatClampNeg 7 = κ352 at *
        have lt359 : s.toInt < (κ352.1 19).toInt := by omega
        have hk4 : ¬ srt κ352 = 203 := by rw [sr356]; exact hk3
        have xc := p357.px
        have zc := px0 p357.ps
        refine MC.mono (hV κ352 T h s p357.ps (by omega) (by omega) (by omega) (fun _ h => hT _ (p357.1.1.tr h)) s0 (by omega) hk4 nd355) (fun _ ζ hz => ?_) (fun _ h => h)
        obtain ⟨z1, z2, z3, z4⟩ := hz
        have lz := z1.l19
        have pz : TR (-1) 0 0 0 0 0 ν ζ := p357.tr z1 (Or.inr (by omega)) rfl rfl rfl rfl (by omega)
        refine MC.mono (t_expect (by omega) pz.ps (by decide) (fun _ h => hT _ (pz.1.1.tr h))) (fun _ η hη => ?_) (fun _ h => h)
        obtain ⟨m1, m2, m3⟩ := hη
        have lz2 := z1.l32
        exact ⟨pz.tr m1 (Or.inl (by decide)) rfl rfl rfl rfl (by omega), by omega, ((z2.dv).tr m1 (Int.le_refl _) (Or.inl (by omega))).up (Nat.le_refl _) (by omega) (by omega), by rw [m1.rb 27 (by omega) (by omega) _ (by omega) (by omega)]; exact z3, CO.lh (z4.rb m1.rb (Int.le_refl _) (Or.inl (by omega))) (by omega) (by omega)⟩
    · skip
      refine MC.mono (t_next (by omega) p0.ps (hk3) (fun _ h => hT _ (p0.1.1.tr h))) (fun v360 κ365 h361 => ?_) (fun _ h => h)
      obtain ⟨q362, m363, a364⟩ := h361
      have p366 : TR (-1) (0) 0 0 0 (-1) ν κ365 := p0.trS q362 (Or.inl (by decide)) rfl rfl rfl rfl (by omega)
      have cv367 : CVs κ365 (s.toInt + 1) ((κ365).1 19).toInt [] := cv0.st q362.rb (Int.le_refl _) (Or.inl (by omega)) m363
      have nd368 := nd0.tr q362 (by have := @ic s; omega) (by omega)
      have lt369 : s.toInt < (κ365.1 19).toInt := by omega
      have x373 := p366.px
      have u374 := p366.2
      have y375 := tT p366
      have z376 := px0 p366.ps
      refine MC.mono (c_qname (by omega) p366.ps (by omega) (fun _ h => hT _ (p366.1.1.tr h))) (fun r370 κ371 h372 => ?_) (fun _ h => h)
      obtain ⟨⟨z379, z380, z381, z382, z383⟩, z384, z385⟩ := h372
      have q377 : TR (-1) 0 0 0 0 0 κ365 κ371 := ⟨z379, by omega⟩
      have g378 := z382.up (h' := h) (by omega) (Int.le_refl _) (Int.le_refl _)
      have l386 := q377.l19
      have l387 := q377.l32
      have p388 : TR (-1) (0) 0 0 0 (-1) ν κ371 := p366.trS q377 (Or.inl (by decide)) rfl rfl rfl rfl (by omega)
      have cv389 : CVs κ371 (s.toInt + 1) ((κ371).1 19).toInt [] := cv367.ns q377.rb (Int.le_refl _) (Or.inl (by omega)) l386 z385
      have nd390 := nd368.tr q377 (by have := @ic s; omega) (by omega)
      have lt391 : s.toInt < (κ371.1 19).toInt := by omega
      have k392 : Kd κ371 h s.toInt s 7 r370 := Kd.of g378 (by omega) (Int.le_refl _) s0 (Or.inl (by omega)) z383
      have g393 : TR s.toInt 0 0 0 0 0 κ371 (mA1 κ371 22 s.toNatClampNeg r370) := TR.put p388.ps s0 rfl rfl
      have e395 : ((mA1 κ371 22 s.toNatClampNeg r370).1 19).toInt = (κ371.1 19).toInt := rfl
      have e396 : ((mA1 κ371 22 s.toNatClampNeg r370).1 32).toInt = (κ371.1 32).toInt := rfl
      have sr398 : srt (mA1 κ371 22 s.toNatClampNeg r370) = srt κ371 := srt_off rfl
      have nd397 := nd390.pa (x := r370)
      have p399 : TR (-1) (0) 0 0 0 (-1) ν (mA1 κ371 22 s.toNatClampNeg r370) := p388.trS g393 (Or.inr (Or.inr (by omega))) rfl rfl rfl rfl (by omega)
      have k400 := k392.tr g393 (Or.inr rfl) s0
      have cv401 : CVs (mA1 κ371 22 s.toNatClampNeg r370) (s.toInt + 1) (((mA1 κ371 22 s.toNatClampNeg r370)).1 19).toInt [] := cv389.st g393.rb (Int.le_refl _) (Or.inl (by omega)) rfl
      refine ⟨TR.mi p388.ps rfl rfl s0 (by omega), ?_⟩
      generalize mA1 κ371 22 s.toNatClampNeg r370 = κ394 at *
      have lt402 : s.toInt < (κ394.1 19).toInt := by omega
      refine MC.mono (c_is (by omega) p399.ps) (fun r403 κ404 h405 => ?_) (fun _ h => h)
      obtain ⟨rfl, rfl⟩ := h405
      refine ⟨fun hC => ?_, fun hC => ?_⟩
      · skip
        have g406 : TR s.toInt 0 0 0 0 0 κ404 (mA1 κ404 20 s.toNatClampNeg 6) := TR.put p399.ps s0 rfl rfl
        have e408 : ((mA1 κ404 20 s.toNatClampNeg 6).1 19).toInt = (κ404.1 19).toInt := rfl
        have e409 : ((mA1 κ404 20 s.toNatClampNeg 6).1 32).toInt = (κ404.1 32).toInt := rfl
        have sr411 : srt (mA1 κ404 20 s.toNatClampNeg 6) = srt κ404 := srt_off rfl
        have nd410 := nd397.pk (x := 6)
        have p412 : TR (-1) (0) 0 0 0 (-1) ν (mA1 κ404 20 s.toNatClampNeg 6) := p399.trS g406 (Or.inr (Or.inr (by omega))) rfl rfl rfl rfl (by omega)
        have k413 := k400.tr g406 (Or.inr rfl) s0
        have cv414 : CVs (mA1 κ404 20 s.toNatClampNeg 6) (s.toInt + 1) (((mA1 κ404 20 s.toNatClampNeg 6)).1 19).toInt [] := cv401.st g406.rb (Int.le_refl _) (Or.inl (by omega)) rfl
        refine ⟨TR.mi p399.ps rfl rfl s0 (by omega), ?_⟩
        generalize mA1 κ404 20 s.toNatClampNeg 6 = κ407 at *
        have lt415 : s.toInt < (κ407.1 19).toInt := by omega
        refine MC.mono (c_is (by omega) p412.ps) (fun r416 κ417 h418 => ?_) (fun _ h => h)
        obtain ⟨rfl, rfl⟩ := h418
        refine ⟨fun hD => ?_, fun hD => absurd (sr411.symm.trans (is_t hD)) (is_f hC)⟩
        refine MC.mono (t_expect (by omega) p412.ps (by decide) (fun _ h => hT _ (p412.1.1.tr h))) (fun v419 κ424 h420 => ?_) (fun _ h => h)
        obtain ⟨q421, m422, a423⟩ := h420
        have p425 : TR (-1) (0) 0 0 0 (-3) ν κ424 := p412.trS q421 (Or.inl (by decide)) rfl rfl rfl rfl (by omega)
        have k426 := k413.tr q421 (Or.inl (by decide)) s0
        have cv427 : CVs κ424 (s.toInt + 1) ((κ424).1 19).toInt [] := cv414.st q421.rb (Int.le_refl _) (Or.inl (by omega)) m422
        have nd428 := nd410.tr q421 (by have := @ic s; omega) (by omega)
        have lt429 : s.toInt < (κ424.1 19).toInt := by omega
        have x433 := p425.px
        have u434 := p425.2
        have y435 := tT p425
        have z436 := px0 p425.ps
        refine MC.mono (hL κ424 T h p425.ps (by omega) (by omega) (by omega) (fun _ h => hT _ (p425.1.1.tr h))) (fun r430 κ431 h432 => ?_) (fun _ h => h)
        obtain ⟨⟨z439, z440, z441, z442, z443⟩, c444⟩ := h432
        have q437 : TR (-1) 0 0 0 0 0 κ424 κ431 := ⟨z439, by omega⟩
        have g438 := z442
        have l445 := q437.l19
        have l446 := q437.l32
        have p447 : TR (-1) (0) 0 0 0 (-3) ν κ431 := p425.trS q437 (Or.inl (by decide)) rfl rfl rfl rfl (by omega)
        have k448 := k426.tr q437 (Or.inl (by decide)) s0
        have cv449 : CVs κ431 (s.toInt + 1) ((κ431).1 19).toInt [r430] := cv427.add q437.rb (Int.le_refl _) (Or.inl (by omega)) (by omega) l445 (LCO.of z442.in.1 c444)
        have nd450 := nd428.tr q437 (by have := @ic s; omega) (by omega)
        have lt451 : s.toInt < (κ431.1 19).toInt := by omega
        have k452 : Kd κ431 h s.toInt s 21 r430 := Kd.of g438 (by omega) (Int.le_refl _) s0 (Or.inl (by omega)) z443
        have g453 : TR s.toInt 0 0 0 0 0 κ431 (mA1 κ431 23 s.toNatClampNeg r430) := TR.put p447.ps s0 rfl rfl
        have e455 : ((mA1 κ431 23 s.toNatClampNeg r430).1 19).toInt = (κ431.1 19).toInt := rfl
        have e456 : ((mA1 κ431 23 s.toNatClampNeg r430).1 32).toInt = (κ431.1 32).toInt := rfl
        have sr458 : srt (mA1 κ431 23 s.toNatClampNeg r430) = srt κ431 := srt_off rfl
        have nd457 := nd450.pb (x := r430)
        have p459 : TR (-1) (0) 0 0 0 (-3) ν (mA1 κ431 23 s.toNatClampNeg r430) := p447.trS g453 (Or.inr (Or.inr (by omega))) rfl rfl rfl rfl (by omega)
        have k460 := k448.tr g453 (Or.inr rfl) s0
        have k461 := k452.tr g453 (Or.inr rfl) s0
        have cv462 : CVs (mA1 κ431 23 s.toNatClampNeg r430) (s.toInt + 1) (((mA1 κ431 23 s.toNatClampNeg r430)).1 19).toInt [r430] := cv449.st g453.rb (Int.le_refl _) (Or.inl (by omega)) rfl
        refine ⟨TR.mi p447.ps rfl rfl s0 (by omega), ?_⟩
        generalize mA1 κ431 23 s.toNatClampNeg r430 = κ454 at *
        have lt463 : s.toInt < (κ454.1 19).toInt := by omega
        refine MC.mono (t_expect (by omega) p459.ps (by decide) (fun _ h => hT _ (p459.1.1.tr h))) (fun v464 κ469 h465 => ?_) (fun _ h => h)
        obtain ⟨q466, m467, a468⟩ := h465
        have p470 : TR (-1) (0) 0 0 0 (-5) ν κ469 := p459.trS q466 (Or.inl (by decide)) rfl rfl rfl rfl (by omega)
        have k471 := k460.tr q466 (Or.inl (by decide)) s0
        have k472 := k461.tr q466 (Or.inl (by decide)) s0
        have cv473 : CVs κ469 (s.toInt + 1) ((κ469).1 19).toInt [r430] := cv462.st q466.rb (Int.le_refl _) (Or.inl (by omega)) m467
        have nd474 := nd457.tr q466 (by have := @ic s; omega) (by omega)
        have lt475 : s.toInt < (κ469.1 19).toInt := by omega
        exact ⟨⟨p470.1, by have := p470.2; omega⟩, by omega, (G.mk (lo := s.toInt) s0 (Int.le_refl _) lt475 nd474 (by decide) (k471) (k472) True.intro True.intro True.intro : G κ469 (h + 1) (bt s.toInt (κ469.1 19).toInt) 4 s).up (Nat.le_refl _) (by omega) (Int.le_refl _), nd474.2.2.2.2.2.2, (CO.fin' (by omega) cv473 s0 ⟨fun h => Par.fb nd474 (by decide) h, True.intro⟩ lt475)⟩
      · skip
        have g476 : TR s.toInt 0 0 0 0 0 κ404 (mA1 κ404 20 s.toNatClampNeg 5) := TR.put p399.ps s0 rfl rfl
        have e478 : ((mA1 κ404 20 s.toNatClampNeg 5).1 19).toInt = (κ404.1 19).toInt := rfl
        have e479 : ((mA1 κ404 20 s.toNatClampNeg 5).1 32).toInt = (κ404.1 32).toInt := rfl
        have sr481 : srt (mA1 κ404 20 s.toNatClampNeg 5) = srt κ404 := srt_off rfl
        have nd480 := nd397.pk (x := 5)
        have p482 : TR (-1) (0) 0 0 0 (-1) ν (mA1 κ404 20 s.toNatClampNeg 5) := p399.trS g476 (Or.inr (Or.inr (by omega))) rfl rfl rfl rfl (by omega)
        have k483 := k400.tr g476 (Or.inr rfl) s0
        have cv484 : CVs (mA1 κ404 20 s.toNatClampNeg 5) (s.toInt + 1) (((mA1 κ404 20 s.toNatClampNeg 5)).1 19).toInt [] := cv401.st g476.rb (Int.le_refl _) (Or.inl (by omega)) rfl
        refine ⟨TR.mi p399.ps rfl rfl s0 (by omega), ?_⟩
        generalize mA1 κ404 20 s.toNatClampNeg 5 = κ477 at *
        have lt485 : s.toInt < (κ477.1 19).toInt := by omega
        refine MC.mono (c_is (by omega) p482.ps) (fun r486 κ487 h488 => ?_) (fun _ h => h)
        obtain ⟨rfl, rfl⟩ := h488
        refine ⟨fun hD => absurd (sr481.trans (is_t hC)) (is_f hD), fun hD => ?_⟩
        have hk5 : ¬ srt κ487 = 203 := by rw [is_t hD]; decide
        refine MC.mono (t_next (by omega) p482.ps (hk5) (fun _ h => hT _ (p482.1.1.tr h))) (fun v489 κ494 h490 => ?_) (fun _ h => h)
        obtain ⟨q491, m492, a493⟩ := h490
        have p495 : TR (-1) (0) 0 0 0 (-3) ν κ494 := p482.trS q491 (Or.inl (by decide)) rfl rfl rfl rfl (by omega)
        have k496 := k483.tr q491 (Or.inl (by decide)) s0
        have cv497 : CVs κ494 (s.toInt + 1) ((κ494).1 19).toInt [] := cv484.st q491.rb (Int.le_refl _) (Or.inl (by omega)) m492
        have nd498 := nd480.tr q491 (by have := @ic s; omega) (by omega)
        have lt499 : s.toInt < (κ494.1 19).toInt := by omega
        have x503 := p495.px
        have u504 := p495.2
        have y505 := tT p495
        have z506 := px0 p495.ps
        refine MC.mono (hY κ494 T h p495.ps (by omega) (by omega) (by omega) (fun _ h => hT _ (p495.1.1.tr h))) (fun r500 κ501 h502 => ?_) (fun _ h => h)
        obtain ⟨⟨z509, z510, z511, z512, z513⟩, c514⟩ := h502
        have q507 : TR (-1) 0 0 0 0 0 κ494 κ501 := ⟨z509, by omega⟩
        have g508 := z512
        have l515 := q507.l19
        have l516 := q507.l32
        have p517 : TR (-1) (0) 0 0 0 (-3) ν κ501 := p495.trS q507 (Or.inl (by decide)) rfl rfl rfl rfl (by omega)
        have k518 := k496.tr q507 (Or.inl (by decide)) s0
        have cv519 : CVs κ501 (s.toInt + 1) ((κ501).1 19).toInt [r500] := cv497.add q507.rb (Int.le_refl _) (Or.inl (by omega)) (by omega) l515 (LCO.of z512.in.1 c514)
        have nd520 := nd498.tr q507 (by have := @ic s; omega) (by omega)
        have lt521 : s.toInt < (κ501.1 19).toInt := by omega
        have k522 : Kd κ501 h s.toInt s 0 r500 := Kd.of g508 (by omega) (Int.le_refl _) s0 (Or.inl (by omega)) z513
        have g523 : TR s.toInt 0 0 0 0 0 κ501 (mA1 κ501 23 s.toNatClampNeg r500) := TR.put p517.ps s0 rfl rfl
        have e525 : ((mA1 κ501 23 s.toNatClampNeg r500).1 19).toInt = (κ501.1 19).toInt := rfl
        have e526 : ((mA1 κ501 23 s.toNatClampNeg r500).1 32).toInt = (κ501.1 32).toInt := rfl
        have sr528 : srt (mA1 κ501 23 s.toNatClampNeg r500) = srt κ501 := srt_off rfl
        have nd527 := nd520.pb (x := r500)
        have p529 : TR (-1) (0) 0 0 0 (-3) ν (mA1 κ501 23 s.toNatClampNeg r500) := p517.trS g523 (Or.inr (Or.inr (by omega))) rfl rfl rfl rfl (by omega)
        have k530 := k518.tr g523 (Or.inr rfl) s0
        have k531 := k522.tr g523 (Or.inr rfl) s0
        have cv532 : CVs (mA1 κ501 23 s.toNatClampNeg r500) (s.toInt + 1) (((mA1 κ501 23 s.toNatClampNeg r500)).1 19).toInt [r500] := cv519.st g523.rb (Int.le_refl _) (Or.inl (by omega)) rfl
        refine ⟨TR.mi p517.ps rfl rfl s0 (by omega), ?_⟩
        generalize mA1 κ501 23 s.toNatClampNeg r500 = κ524 at *
        have lt533 : s.toInt < (κ524.1 19).toInt := by omega
        refine MC.mono (t_expect (by omega) p529.ps (by decide) (fun _ h => hT _ (p529.1.1.tr h))) (fun v534 κ539 h535 => ?_) (fun _ h => h)
        obtain ⟨q536, m537, a538⟩ := h535
        have p540 : TR (-1) (0) 0 0 0 (-5) ν κ539 := p529.trS q536 (Or.inl (by decide)) rfl rfl rfl rfl (by omega)
        have k541 := k530.tr q536 (Or.inl (by decide)) s0
        have k542 := k531.tr q536 (Or.inl (by decide)) s0
        have cv543 : CVs κ539 (s.toInt + 1) ((κ539).1 19).toInt [r500] := cv532.st q536.rb (Int.le_refl _) (Or.inl (by omega)) m537
        have nd544 := nd527.tr q536 (by have := @ic s; omega) (by omega)
        have lt545 : s.toInt < (κ539.1 19).toInt := by omega
        exact ⟨⟨p540.1, by have := p540.2; omega⟩, by omega, (G.mk (lo := s.toInt) s0 (Int.le_refl _) lt545 nd544 (by decide) (k541) (k542) True.intro True.intro True.intro : G κ539 (h + 1) (bt s.toInt (κ539.1 19).toInt) 4 s).up (Nat.le_refl _) (by omega) (Int.le_refl _), nd544.2.2.2.2.2.2, (CO.fin' (by omega) cv543 s0 ⟨fun h => Par.fb nd544 (by decide) h, True.intro⟩ lt545)⟩
  · skip
    refine MC.mono (t_next (by omega) p0.ps (hk3) (fun _ h => hT _ (p0.1.1.tr h))) (fun v546 κ551 h547 => ?_) (fun _ h => h)
    obtain ⟨q548, m549, a550⟩ := h547
    have p552 : TR (-1) (0) 0 0 0 (-1) ν κ551 := p0.trS q548 (Or.inl (by decide)) rfl rfl rfl rfl (by omega)
    have cv553 : CVs κ551 (s.toInt + 1) ((κ551).1 19).toInt [] := cv0.st q548.rb (Int.le_refl _) (Or.inl (by omega)) m549
    have nd554 := nd0.tr q548 (by have := @ic s; omega) (by omega)
    have lt555 : s.toInt < (κ551.1 19).toInt := by omega
    refine MC.mono (c_line (by omega) p552.ps.1 p552.ps.at.1 p552.ps.at.2) (fun r556 κ557 h558 => ?_) (fun _ h => h)
    subst h558
    have g559 : TR s.toInt 0 0 0 0 0 κ557 (mA1 κ557 31 s.toNatClampNeg r556) := TR.put p552.ps s0 rfl rfl
    have e561 : ((mA1 κ557 31 s.toNatClampNeg r556).1 19).toInt = (κ557.1 19).toInt := rfl
    have e562 : ((mA1 κ557 31 s.toNatClampNeg r556).1 32).toInt = (κ557.1 32).toInt := rfl
    have sr564 : srt (mA1 κ557 31 s.toNatClampNeg r556) = srt κ557 := srt_off rfl
    have nd563 := nd554.p31 (x := r556)
    have p565 : TR (-1) (0) 0 0 0 (-1) ν (mA1 κ557 31 s.toNatClampNeg r556) := p552.trS g559 (Or.inr (Or.inr (by omega))) rfl rfl rfl rfl (by omega)
    have cv566 : CVs (mA1 κ557 31 s.toNatClampNeg r556) (s.toInt + 1) (((mA1 κ557 31 s.toNatClampNeg r556)).1 19).toInt [] := cv553.st g559.rb (Int.le_refl _) (Or.inl (by omega)) rfl
    refine ⟨TR.mi p552.ps rfl rfl s0 (by omega), ?_⟩
    generalize mA1 κ557 31 s.toNatClampNeg r556 = κ560 at *
    have lt567 : s.toInt < (κ560.1 19).toInt := by omega
    refine MC.mono (t_name (by omega) p565.ps (fun _ h => hT _ (p565.1.1.tr h))) (fun v568 κ573 h569 => ?_) (fun _ h => h)
    obtain ⟨q570, m571, a572⟩ := h569
    have p574 : TR (-1) (0) 0 0 0 (-3) ν κ573 := p565.trS q570 (Or.inl (by decide)) rfl rfl rfl rfl (by omega)
    have cv575 : CVs κ573 (s.toInt + 1) ((κ573).1 19).toInt [] := cv566.st q570.rb (Int.le_refl _) (Or.inl (by omega)) m571
    have nd576 := nd563.tr q570 (by have := @ic s; omega) (by omega)
    have lt577 : s.toInt < (κ573.1 19).toInt := by omega
    have g578 : TR s.toInt 0 0 0 0 0 κ573 (mA1 κ573 22 s.toNatClampNeg v568) := TR.put p574.ps s0 rfl rfl
    have e580 : ((mA1 κ573 22 s.toNatClampNeg v568).1 19).toInt = (κ573.1 19).toInt := rfl
    have e581 : ((mA1 κ573 22 s.toNatClampNeg v568).1 32).toInt = (κ573.1 32).toInt := rfl
    have sr583 : srt (mA1 κ573 22 s.toNatClampNeg v568) = srt κ573 := srt_off rfl
    have nd582 := nd576.pa (x := v568)
    have p584 : TR (-1) (0) 0 0 0 (-3) ν (mA1 κ573 22 s.toNatClampNeg v568) := p574.trS g578 (Or.inr (Or.inr (by omega))) rfl rfl rfl rfl (by omega)
    have cv585 : CVs (mA1 κ573 22 s.toNatClampNeg v568) (s.toInt + 1) (((mA1 κ573 22 s.toNatClampNeg v568)).1 19).toInt [] := cv575.st g578.rb (Int.le_refl _) (Or.inl (by omega)) rfl
    refine ⟨TR.mi p574.ps rfl rfl s0 (by omega), ?_⟩
    generalize mA1 κ573 22 s.toNatClampNeg v568 = κ579 at *
    have lt586 : s.toInt < (κ579.1 19).toInt := by omega
    refine MC.mono (c_is (by omega) p584.ps) (fun r587 κ588 h589 => ?_) (fun _ h => h)
    obtain ⟨rfl, rfl⟩ := h589
    refine ⟨fun hB => ?_, fun hB => ?_⟩
    · skip
      refine MC.mono (c_is (by omega) p584.ps) (fun r590 κ591 h592 => ?_) (fun _ h => h)
      obtain ⟨rfl, rfl⟩ := h592
      refine ⟨fun hC => ?_, fun _ => MC.mono (c_unfit (by omega) p584.ps (fun _ h => hT _ (p584.1.1.tr h))) (fun _ _ h => h.elim) (fun _ h => h)⟩
      have hk5 : ¬ srt κ591 = 203 := by rw [is_t hC]; decide
      refine MC.mono (t_next (by omega) p584.ps (hk5) (fun _ h => hT _ (p584.1.1.tr h))) (fun v593 κ598 h594 => ?_) (fun _ h => h)
      obtain ⟨q595, m596, a597⟩ := h594
      have p599 : TR (-1) (0) 0 0 0 (-5) ν κ598 := p584.trS q595 (Or.inl (by decide)) rfl rfl rfl rfl (by omega)
      have cv600 : CVs κ598 (s.toInt + 1) ((κ598).1 19).toInt [] := cv585.st q595.rb (Int.le_refl _) (Or.inl (by omega)) m596
      have nd601 := nd582.tr q595 (by have := @ic s; omega) (by omega)
      have lt602 : s.toInt < (κ598.1 19).toInt := by omega
      have x606 := p599.px
      have u607 := p599.2
      have y608 := tT p599
      have z609 := px0 p599.ps
      refine MC.mono (hY κ598 T h p599.ps (by omega) (by omega) (by omega) (fun _ h => hT _ (p599.1.1.tr h))) (fun r603 κ604 h605 => ?_) (fun _ h => h)
      obtain ⟨⟨z612, z613, z614, z615, z616⟩, c617⟩ := h605
      have q610 : TR (-1) 0 0 0 0 0 κ598 κ604 := ⟨z612, by omega⟩
      have g611 := z615
      have l618 := q610.l19
      have l619 := q610.l32
      have p620 : TR (-1) (0) 0 0 0 (-5) ν κ604 := p599.trS q610 (Or.inl (by decide)) rfl rfl rfl rfl (by omega)
      have cv621 : CVs κ604 (s.toInt + 1) ((κ604).1 19).toInt [r603] := cv600.add q610.rb (Int.le_refl _) (Or.inl (by omega)) (by omega) l618 (LCO.of z615.in.1 c617)
      have nd622 := nd601.tr q610 (by have := @ic s; omega) (by omega)
      have lt623 : s.toInt < (κ604.1 19).toInt := by omega
      have k624 : Kd κ604 h s.toInt s 0 r603 := Kd.of g611 (by omega) (Int.le_refl _) s0 (Or.inl (by omega)) z616
      have g625 : TR s.toInt 0 0 0 0 0 κ604 (mA1 κ604 23 s.toNatClampNeg r603) := TR.put p620.ps s0 rfl rfl
      have e627 : ((mA1 κ604 23 s.toNatClampNeg r603).1 19).toInt = (κ604.1 19).toInt := rfl
      have e628 : ((mA1 κ604 23 s.toNatClampNeg r603).1 32).toInt = (κ604.1 32).toInt := rfl
      have sr630 : srt (mA1 κ604 23 s.toNatClampNeg r603) = srt κ604 := srt_off rfl
      have nd629 := nd622.pb (x := r603)
      have p631 : TR (-1) (0) 0 0 0 (-5) ν (mA1 κ604 23 s.toNatClampNeg r603) := p620.trS g625 (Or.inr (Or.inr (by omega))) rfl rfl rfl rfl (by omega)
      have k632 := k624.tr g625 (Or.inr rfl) s0
      have cv633 : CVs (mA1 κ604 23 s.toNatClampNeg r603) (s.toInt + 1) (((mA1 κ604 23 s.toNatClampNeg r603)).1 19).toInt [r603] := cv621.st g625.rb (Int.le_refl _) (Or.inl (by omega)) rfl
      refine ⟨TR.mi p620.ps rfl rfl s0 (by omega), ?_⟩
      generalize mA1 κ604 23 s.toNatClampNeg r603 = κ626 at *
      have lt634 : s.toInt < (κ626.1 19).toInt := by omega
      refine MC.mono (t_expect (by omega) p631.ps (by decide) (fun _ h => hT _ (p631.1.1.tr h))) (fun v635 κ640 h636 => ?_) (fun _ h => h)
      obtain ⟨q637, m638, a639⟩ := h636
      have p641 : TR (-1) (0) 0 0 0 (-7) ν κ640 := p631.trS q637 (Or.inl (by decide)) rfl rfl rfl rfl (by omega)
      have k642 := k632.tr q637 (Or.inl (by decide)) s0
      have cv643 : CVs κ640 (s.toInt + 1) ((κ640).1 19).toInt [r603] := cv633.st q637.rb (Int.le_refl _) (Or.inl (by omega)) m638
      have nd644 := nd629.tr q637 (by have := @ic s; omega) (by omega)
      have lt645 : s.toInt < (κ640.1 19).toInt := by omega
      exact ⟨⟨p641.1, by have := p641.2; omega⟩, by omega, (G.mk (lo := s.toInt) s0 (Int.le_refl _) lt645 nd644 (by decide) True.intro (k642) True.intro True.intro True.intro : G κ640 (h + 1) (bt s.toInt (κ640.1 19).toInt) 4 s).up (Nat.le_refl _) (by omega) (Int.le_refl _), nd644.2.2.2.2.2.2, (CO.fin' (by omega) cv643 s0 ⟨fun h => Par.fb nd644 (by decide) h, True.intro⟩ lt645)⟩
    · skip
      have hk5 : ¬ srt κ588 = 203 := by rw [is_t hB]; decide
      have g646 : TR s.toInt 0 0 0 0 0 κ588 (mA1 κ588 20 s.toNatClampNeg 4) := TR.put p584.ps s0 rfl rfl
      have e648 : ((mA1 κ588 20 s.toNatClampNeg 4).1 19).toInt = (κ588.1 19).toInt := rfl
      have e649 : ((mA1 κ588 20 s.toNatClampNeg 4).1 32).toInt = (κ588.1 32).toInt := rfl
      have sr651 : srt (mA1 κ588 20 s.toNatClampNeg 4) = srt κ588 := srt_off rfl
      have nd650 := nd582.pk (x := 4)
      have p652 : TR (-1) (0) 0 0 0 (-3) ν (mA1 κ588 20 s.toNatClampNeg 4) := p584.trS g646 (Or.inr (Or.inr (by omega))) rfl rfl rfl rfl (by omega)
      have cv653 : CVs (mA1 κ588 20 s.toNatClampNeg 4) (s.toInt + 1) (((mA1 κ588 20 s.toNatClampNeg 4)).1 19).toInt [] := cv585.st g646.rb (Int.le_refl _) (Or.inl (by omega)) rfl
      refine ⟨TR.mi p584.ps rfl rfl s0 (by omega), ?_⟩
      generalize mA1 κ588 20 s.toNatClampNeg 4 = κ647 at *
      have lt654 : s.toInt < (κ647.1 19).toInt := by omega
      have hk6 : ¬ srt κ647 = 203 := by rw [sr651]; exact hk5
      refine MC.mono (t_next (by omega) p652.ps (hk6) (fun _ h => hT _ (p652.1.1.tr h))) (fun v655 κ660 h656 => ?_) (fun _ h => h)
      obtain ⟨q657, m658, a659⟩ := h656
      have p661 : TR (-1) (0) 0 0 0 (-5) ν κ660 := p652.trS q657 (Or.inl (by decide)) rfl rfl rfl rfl (by omega)
      have cv662 : CVs κ660 (s.toInt + 1) ((κ660).1 19).toInt [] := cv653.st q657.rb (Int.le_refl _) (Or.inl (by omega)) m658
      have nd663 := nd650.tr q657 (by have := @ic s; omega) (by omega)
      have lt664 : s.toInt < (κ660.1 19).toInt := by omega
      have x668 := p661.px
      have u669 := p661.2
      have y670 := tT p661
      have z671 := px0 p661.ps
      refine MC.mono (hY κ660 T h p661.ps (by omega) (by omega) (by omega) (fun _ h => hT _ (p661.1.1.tr h))) (fun r665 κ666 h667 => ?_) (fun _ h => h)
      obtain ⟨⟨z674, z675, z676, z677, z678⟩, c679⟩ := h667
      have q672 : TR (-1) 0 0 0 0 0 κ660 κ666 := ⟨z674, by omega⟩
      have g673 := z677
      have l680 := q672.l19
      have l681 := q672.l32
      have p682 : TR (-1) (0) 0 0 0 (-5) ν κ666 := p661.trS q672 (Or.inl (by decide)) rfl rfl rfl rfl (by omega)
      have cv683 : CVs κ666 (s.toInt + 1) ((κ666).1 19).toInt [r665] := cv662.add q672.rb (Int.le_refl _) (Or.inl (by omega)) (by omega) l680 (LCO.of z677.in.1 c679)
      have nd684 := nd663.tr q672 (by have := @ic s; omega) (by omega)
      have lt685 : s.toInt < (κ666.1 19).toInt := by omega
      have k686 : Kd κ666 h s.toInt s 0 r665 := Kd.of g673 (by omega) (Int.le_refl _) s0 (Or.inl (by omega)) z678
      have g687 : TR s.toInt 0 0 0 0 0 κ666 (mA1 κ666 23 s.toNatClampNeg r665) := TR.put p682.ps s0 rfl rfl
      have e689 : ((mA1 κ666 23 s.toNatClampNeg r665).1 19).toInt = (κ666.1 19).toInt := rfl
      have e690 : ((mA1 κ666 23 s.toNatClampNeg r665).1 32).toInt = (κ666.1 32).toInt := rfl
      have sr692 : srt (mA1 κ666 23 s.toNatClampNeg r665) = srt κ666 := srt_off rfl
      have nd691 := nd684.pb (x := r665)
      have p693 : TR (-1) (0) 0 0 0 (-5) ν (mA1 κ666 23 s.toNatClampNeg r665) := p682.trS g687 (Or.inr (Or.inr (by omega))) rfl rfl rfl rfl (by omega)
      have k694 := k686.tr g687 (Or.inr rfl) s0
      have cv695 : CVs (mA1 κ666 23 s.toNatClampNeg r665) (s.toInt + 1) (((mA1 κ666 23 s.toNatClampNeg r665)).1 19).toInt [r665] := cv683.st g687.rb (Int.le_refl _) (Or.inl (by omega)) rfl
      refine ⟨TR.mi p682.ps rfl rfl s0 (by omega), ?_⟩
      generalize mA1 κ666 23 s.toNatClampNeg r665 = κ688 at *
      have lt696 : s.toInt < (κ688.1 19).toInt := by omega
      refine MC.mono (t_expect (by omega) p693.ps (by decide) (fun _ h => hT _ (p693.1.1.tr h))) (fun v697 κ702 h698 => ?_) (fun _ h => h)
      obtain ⟨q699, m700, a701⟩ := h698
      have p703 : TR (-1) (0) 0 0 0 (-7) ν κ702 := p693.trS q699 (Or.inl (by decide)) rfl rfl rfl rfl (by omega)
      have k704 := k694.tr q699 (Or.inl (by decide)) s0
      have cv705 : CVs κ702 (s.toInt + 1) ((κ702).1 19).toInt [r665] := cv695.st q699.rb (Int.le_refl _) (Or.inl (by omega)) m700
      have nd706 := nd691.tr q699 (by have := @ic s; omega) (by omega)
      have lt707 : s.toInt < (κ702.1 19).toInt := by omega
      exact ⟨⟨p703.1, by have := p703.2; omega⟩, by omega, (G.mk (lo := s.toInt) s0 (Int.le_refl _) lt707 nd706 (by decide) True.intro (k704) True.intro True.intro True.intro : G κ702 (h + 1) (bt s.toInt (κ702.1 19).toInt) 4 s).up (Nat.le_refl _) (by omega) (Int.le_refl _), nd706.2.2.2.2.2.2, (CO.fin' (by omega) cv705 s0 ⟨fun h => Par.fb nd706 (by decide) h, True.intro⟩ lt707)⟩
end PSL
