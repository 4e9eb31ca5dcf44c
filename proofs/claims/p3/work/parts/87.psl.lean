/-! contracts of the reference: declarations -/
theorem ND.p31 {μ : MS} {i : Nat} {k a b c d e n x : Int32} (h : ND μ i k a b c d e n) : ND (mA1 μ 31 i x) i k a b c d e n := h
theorem Ek.g {μ : MS} {k i : Int32} {lo hi : Int} {s h : Nat} (hE : Ek μ k lo hi i) (hk : sK s k = true) (hf : ∀ f, f < 5 → fW k.toNatClampNeg f = (0, 0)) : G μ (h + 1) (bt lo hi) s i := by
  obtain ⟨k1, k2, k3, k4, k5⟩ := hE
  have hc := @ic i
  refine ⟨k1, ⟨by omega, by omega⟩, by rw [k4]; exact hk, fun f hf' => ?_⟩
  rw [k4, hf f hf']
  exact True.intro
theorem NR.ls {μ μ1 : MS} {k r : Int32} {s h : Nat} (hR : NR k μ r μ1) (hk : sK s k = true) (hf : ∀ f, f < 5 → fW k.toNatClampNeg f = (0, 0)) : ∃ m, Lst (G μ1 (h + 1) (bt (μ.1 19).toInt (μ1.1 19).toInt) s) (μ1.2.1 27) m r := by
  obtain ⟨-, -, -, -, m, hm⟩ := hR
  exact ⟨m, hm.mono (fun y hy => hy.g hk hf) (fun _ _ => rfl)⟩
theorem G.dv {μ : MS} {h : Nat} {S : Nat → Prop} {i : Int32} (hG : G μ h S 19 i) : G μ h S 4 i := by
  cases h with
  | zero => exact hG.elim
  | succ h =>
    have h7 : ([7] : List Int32).contains (μ.2.1 20 i.toNatClampNeg) = true := hG.2.2.1
    have h7 : μ.2.1 20 i.toNatClampNeg = 7 := by simpa using h7
    exact ⟨hG.1, hG.2.1, by rw [h7]; decide, hG.2.2.2⟩
/-- a VAR's node is filled -/
def VarC (X : ev_X) (W : Nat → Prop) (P : MP) (d : Nat) : Prop := ∀ (μ : MS) (T : MS → Prop) (h : Nat) (s : Int32), PS μ → psS μ + 11 ≤ d → hiS μ + 1 ≤ h → (μ.1 19).toInt ≤ 2 * (μ.1 32).toInt + 31 → (∀ μ1, kf SPA RPA μ μ1 → T μ1) → 0 ≤ s.toInt → s.toInt + 1 = (μ.1 19).toInt → ¬ srt μ = 203 → ND μ s.toNatClampNeg 7 (-1) (-1) (-1) (-1) (-1) (-1) →
  MC X W true d 307 [.ref P.1, .int s] P μ (fun _ μ1 => TR s.toInt 0 0 0 0 (-2) μ μ1 ∧ G μ1 (h + 1) (bt s.toInt (μ1.1 19).toInt) 19 s ∧ μ1.2.1 27 s.toNatClampNeg = -1) T
/-- a PROCEDURE's node is filled -/
def PrC (X : ev_X) (W : Nat → Prop) (P : MP) (d : Nat) : Prop := ∀ (μ : MS) (T : MS → Prop) (h : Nat) (s x2 : Int32), PS μ → psS μ + 20 ≤ d → hiS μ + 12 ≤ h → (μ.1 19).toInt ≤ 2 * (μ.1 32).toInt + 31 → (∀ μ1, kf SPA RPA μ μ1 → T μ1) → 0 ≤ s.toInt → s.toInt + 1 = (μ.1 19).toInt → ¬ srt μ = 203 → ND μ s.toNatClampNeg 3 (-1) (-1) (-1) (-1) (-1) (-1) →
  MC X W true d 308 [.ref P.1, .int s, .int x2] P μ (fun _ μ1 => TR s.toInt 0 0 0 0 (-2) μ μ1 ∧ G μ1 (h + 1) (bt s.toInt (μ1.1 19).toInt) 4 s ∧ μ1.2.1 27 s.toNatClampNeg = -1) T
/-- a declaration -/
def DeC (X : ev_X) (W : Nat → Prop) (P : MP) (d : Nat) : Prop := ∀ (μ : MS) (T : MS → Prop) (h : Nat) (x1 : Int32), PS μ → psS μ + 21 ≤ d → hiS μ + 13 ≤ h → (μ.1 19).toInt ≤ 2 * (μ.1 32).toInt + 30 → (∀ μ1, kf SPA RPA μ μ1 → T μ1) → ¬ srt μ = 203 →
  MC X W true d 306 [.ref P.1, .int x1] P μ (fun r μ1 => XN 0 4 h μ r μ1) T
section PSL
variable {X : ev_X} {W : Nat → Prop} {d : Nat} {P : MP}
theorem t_endName {μ : MS} {T : MS → Prop} {x : Int32} (hd : 5 ≤ d) (hS : PS μ) (hT : ∀ μ1, kf SPA RPA μ μ1 → T μ1) : MC X W true d 303 [.ref P.1, .int x] P μ (fun _ μ1 => TR (-1) 0 0 0 0 (-2) μ μ1 ∧ (μ1.1 19).toInt = (μ.1 19).toInt ∧ (μ1.1 32).toInt = (μ.1 32).toInt + 1) T := by
  have at0 := hS.at
  refine me_meth (by omega) rfl (v_endName_0 _ (MC.mono (c_is (by omega) hS) (fun r ν hr => ?_) (fun _ h => h)))
  obtain ⟨rfl, rfl⟩ := hr
  refine ⟨fun h1 => ⟨MI.of (hS.1.g rfl rfl : _ = 6002) at0.1 at0.2, fun _ => t_next (by omega) hS (by rw [is_t h1]; decide) hT, fun _ => MC.mono (c_line (by omega) hS.1 at0.1 at0.2) (fun r3 ν3 h3 => ?_) (fun _ h => h)⟩, fun _ => MC.mono (c_unfit (by omega) hS hT) (fun _ _ h => h.elim) (fun _ h => h)⟩
  subst h3
  exact MC.mono (c_first (by omega) hT) (fun _ _ h => h.elim) (fun _ h => h)
theorem st_variables (hY : NodC X W P 312 0 9 0 d) : VarC X W P (d + 1) := fun μ T h s hS hd hh hn hT s0 s1 hs3 nd0 => by
  have hp := px0 hS
  have h0 := hS.2.2.2.2.1
  have at0 := hS.at
  have hcs := @ic s
  have p0 : TR s.toInt 0 0 0 0 0 μ μ := TR.rf hS
  have lt0 : s.toInt < (μ.1 19).toInt := by omega
  have s9 : s.toInt < 15990 := by omega
  refine me_meth (by omega) rfl (v_variables_0 _ ?_)
  refine MC.mono (t_next (by omega) p0.ps (hs3) (fun _ h => hT _ (p0.1.1.tr h))) (fun v1 κ6 h2 => ?_) (fun _ h => h)
  obtain ⟨q3, m4, a5⟩ := h2
  have p7 : TR (s.toInt) (0) 0 0 0 (-2) μ κ6 := p0.trS q3 (Or.inl (by decide)) rfl rfl rfl rfl (by omega)
  have nd8 := nd0.tr q3 (by have := @ic s; omega) (by omega)
  have lt9 : s.toInt < (κ6.1 19).toInt := by omega
  have x13 := p7.px
  have u14 := p7.2
  have y15 := tT p7
  have z16 := px0 p7.ps
  refine MC.mono (c_nameRow (by omega) p7.ps (by omega) (fun _ h => hT _ (p7.1.1.tr h))) (fun r10 κ11 h12 => ?_) (fun _ h => h)
  have g18 := NR.ls (s := 6) (h := 0) h12 (by decide) (by decide)
  have q17 : TR (-1) 0 0 0 0 0 κ6 κ11 := ⟨h12.1, by have := h12.2.1; omega⟩
  have ne19 : ¬ r10 = -1 := fun e => by have h1 := h12.2.2.2.1; have h2 := p7.ps.2.2.2.2.1; rw [← h1, e] at h2; exact absurd h2 (by decide)
  have l21 := q17.l19
  have p22 : TR (s.toInt) (0) 0 0 0 (-2) μ κ11 := p7.trS q17 (Or.inl (by decide)) rfl rfl rfl rfl (by omega)
  have nd23 := nd8.tr q17 (by have := @ic s; omega) (by omega)
  have lt24 : s.toInt < (κ11.1 19).toInt := by omega
  have k20 : KL κ11 h s.toInt s 6 r10 := (KL.of g18 (by omega) (Int.le_refl _) s0 (Or.inl (by omega))).up (by omega)
  have g25 : TR s.toInt 0 0 0 0 0 κ11 (mA1 κ11 22 s.toNatClampNeg r10) := TR.put p22.ps s0 rfl rfl
  have e27 : ((mA1 κ11 22 s.toNatClampNeg r10).1 19).toInt = (κ11.1 19).toInt := rfl
  have e28 : ((mA1 κ11 22 s.toNatClampNeg r10).1 32).toInt = (κ11.1 32).toInt := rfl
  have sr30 : srt (mA1 κ11 22 s.toNatClampNeg r10) = srt κ11 := srt_off rfl
  have nd29 := nd23.pa (x := r10)
  have p31 : TR (s.toInt) (0) 0 0 0 (-2) μ (mA1 κ11 22 s.toNatClampNeg r10) := p22.trS g25 (Or.inr (Or.inl rfl)) rfl rfl rfl rfl (by omega)
  have k32 := k20.tr g25 (Or.inr rfl) s0
  refine ⟨TR.mi p22.ps rfl rfl s0 (by omega), ?_⟩
  generalize mA1 κ11 22 s.toNatClampNeg r10 = κ26 at *
  have lt33 : s.toInt < (κ26.1 19).toInt := by omega
  refine MC.mono (t_expect (by omega) p31.ps (by decide) (fun _ h => hT _ (p31.1.1.tr h))) (fun v34 κ39 h35 => ?_) (fun _ h => h)
  obtain ⟨q36, m37, a38⟩ := h35
  have p40 : TR (s.toInt) (0) 0 0 0 (-4) μ κ39 := p31.trS q36 (Or.inl (by decide)) rfl rfl rfl rfl (by omega)
  have k41 := k32.tr q36 (Or.inl (by decide)) s0
  have nd42 := nd29.tr q36 (by have := @ic s; omega) (by omega)
  have lt43 : s.toInt < (κ39.1 19).toInt := by omega
  have x47 := p40.px
  have u48 := p40.2
  have y49 := tT p40
  have z50 := px0 p40.ps
  refine MC.mono (hY κ39 T h p40.ps (by omega) (by omega) (by omega) (fun _ h => hT _ (p40.1.1.tr h))) (fun r44 κ45 h46 => ?_) (fun _ h => h)
  obtain ⟨z53, z54, z55, z56, z57⟩ := h46
  have q51 : TR (-1) 0 0 0 0 0 κ39 κ45 := ⟨z53, by omega⟩
  have g52 := z56
  have l58 := q51.l19
  have l59 := q51.l32
  have p60 : TR (s.toInt) (0) 0 0 0 (-4) μ κ45 := p40.trS q51 (Or.inl (by decide)) rfl rfl rfl rfl (by omega)
  have k61 := k41.tr q51 (Or.inl (by decide)) s0
  have nd62 := nd42.tr q51 (by have := @ic s; omega) (by omega)
  have lt63 : s.toInt < (κ45.1 19).toInt := by omega
  have k64 : Kd κ45 h s.toInt s 0 r44 := Kd.of g52 (by omega) (Int.le_refl _) s0 (Or.inl (by omega))
  have g65 : TR s.toInt 0 0 0 0 0 κ45 (mA1 κ45 23 s.toNatClampNeg r44) := TR.put p60.ps s0 rfl rfl
  have e67 : ((mA1 κ45 23 s.toNatClampNeg r44).1 19).toInt = (κ45.1 19).toInt := rfl
  have e68 : ((mA1 κ45 23 s.toNatClampNeg r44).1 32).toInt = (κ45.1 32).toInt := rfl
  have sr70 : srt (mA1 κ45 23 s.toNatClampNeg r44) = srt κ45 := srt_off rfl
  have nd69 := nd62.pb (x := r44)
  have p71 : TR (s.toInt) (0) 0 0 0 (-4) μ (mA1 κ45 23 s.toNatClampNeg r44) := p60.trS g65 (Or.inr (Or.inl rfl)) rfl rfl rfl rfl (by omega)
  have k72 := k61.tr g65 (Or.inr rfl) s0
  have k73 := k64.tr g65 (Or.inr rfl) s0
  refine ⟨TR.mi p60.ps rfl rfl s0 (by omega), ?_⟩
  generalize mA1 κ45 23 s.toNatClampNeg r44 = κ66 at *
  have lt74 : s.toInt < (κ66.1 19).toInt := by omega
  exact ⟨⟨p71.1, by have := p71.2; omega⟩, G.mk s0 (Int.le_refl _) lt74 nd69 (by decide) (⟨ne19, k72⟩) (k73) True.intro True.intro True.intro, nd69.2.2.2.2.2.2⟩
theorem st_procedure (hG : NodC X W P 309 8 10 1 d) (hSt : SL X W P 321 [] 3 19 11 d) (hV : VarC X W P d) : PrC X W P (d + 1) := fun μ T h9 s x2 hS hd hh hn hT s0 s1 hs3 nd0 => by
  have hp := px0 hS
  have h0 := hS.2.2.2.2.1
  have at0 := hS.at
  have hcs := @ic s
  have p0 : TR s.toInt 0 0 0 0 0 μ μ := TR.rf hS
  have lt0 : s.toInt < (μ.1 19).toInt := by omega
  have s9 : s.toInt < 15990 := by omega
  obtain ⟨h, rfl⟩ : ∃ h, h9 = h + 1 := ⟨h9 - 1, by omega⟩
  have key : ∀ (j : Nat) (n0 : Int) (nm sg f x4 : Int32) (ν : MS), s.toInt < n0 → n0 ≤ (ν.1 19).toInt → ((μ.1 8).toInt - (ν.1 32).toInt).toNat < j → TR s.toInt 0 0 0 0 (-2) μ ν → s.toInt < (ν.1 19).toInt → ND ν s.toNatClampNeg 9 nm sg (-1) (-1) (-1) (-1) → G ν h (bt (s.toInt + 1) n0) 8 sg → OL 19 (h + 1) n0 ν f x4 →
      ME X W true d 308 58 [(0, .ref P.1), (1, .int s), (2, .int x2), (3, .int f), (4, .int x4)] [] P ν (fun _ μ1 => TR s.toInt 0 0 0 0 (-2) μ μ1 ∧ G μ1 (h + 1 + 1) (bt s.toInt (μ1.1 19).toInt) 4 s ∧ μ1.2.1 27 s.toNatClampNeg = -1) T := by
    intro j
    induction j with
    | zero => intro n0 nm sg f x4 ν hn1 hn2 hj; omega
    | succ j ih =>
      intro n0 nm sg f x4 ν hn1 hn2 hj pν ltν ndν gν hO
      have e8 := eq_i (pν.1.1.1 8 rfl)
      have t8 := pν.ps.2.2.1.2
      have at1 := pν.ps.at
      have uν := pν.2
      have xν := pν.px
      refine v_procedure_58 _ _ _ _ ?_
      have kν : Kd ν h s.toInt s 8 sg := Kd.of gν (by omega) hn2 s0 (Or.inl (by omega))
      have kO : KL ν (h + 1) s.toInt s 19 f := KL.of hO.lst (by omega) (Int.le_refl _) s0 (Or.inl (by omega))
      refine MC.mono (c_is (by omega) pν.ps) (fun r75 κ76 h77 => ?_) (fun _ h => h)
      obtain ⟨rfl, rfl⟩ := h77
      refine ⟨fun _ => ?_, fun hw => ?_⟩
      · skip
        have g78 : TR s.toInt 0 0 0 0 0 κ76 (mA1 κ76 24 s.toNatClampNeg f) := TR.put pν.ps s0 rfl rfl
        have e80 : ((mA1 κ76 24 s.toNatClampNeg f).1 19).toInt = (κ76.1 19).toInt := rfl
        have e81 : ((mA1 κ76 24 s.toNatClampNeg f).1 32).toInt = (κ76.1 32).toInt := rfl
        have sr83 : srt (mA1 κ76 24 s.toNatClampNeg f) = srt κ76 := srt_off rfl
        have nd82 := ndν.pc (x := f)
        have p84 : TR (s.toInt) (0) 0 0 0 (-2) μ (mA1 κ76 24 s.toNatClampNeg f) := pν.trS g78 (Or.inr (Or.inl rfl)) rfl rfl rfl rfl (by omega)
        have k85 := kν.tr g78 (Or.inr rfl) s0
        have k86 := kO.tr g78 (Or.inr rfl) s0
        refine ⟨TR.mi pν.ps rfl rfl s0 (by omega), ?_⟩
        generalize mA1 κ76 24 s.toNatClampNeg f = κ79 at *
        have lt87 : s.toInt < (κ79.1 19).toInt := by omega
        refine MC.mono (t_expect (by omega) p84.ps (by decide) (fun _ h => hT _ (p84.1.1.tr h))) (fun v88 κ93 h89 => ?_) (fun _ h => h)
        obtain ⟨q90, m91, a92⟩ := h89
        have p94 : TR (s.toInt) (0) 0 0 0 (-4) μ κ93 := p84.trS q90 (Or.inl (by decide)) rfl rfl rfl rfl (by omega)
        have k95 := k85.tr q90 (Or.inl (by decide)) s0
        have k96 := k86.tr q90 (Or.inl (by decide)) s0
        have nd97 := nd82.tr q90 (by have := @ic s; omega) (by omega)
        have lt98 : s.toInt < (κ93.1 19).toInt := by omega
        have x102 := p94.px
        have u103 := p94.2
        have y104 := tT p94
        have z105 := px0 p94.ps
        refine MC.mono (hSt κ93 T h p94.ps (by omega) (by omega) (by omega) (fun _ h => hT _ (p94.1.1.tr h))) (fun r99 κ100 h101 => ?_) (fun _ h => h)
        obtain ⟨q106, g107⟩ := h101
        have l108 := q106.l19
        have l109 := q106.l32
        have p110 : TR (s.toInt) (0) 0 0 0 (-4) μ κ100 := p94.trS q106 (Or.inl (by decide)) rfl rfl rfl rfl (by omega)
        have k111 := k95.tr q106 (Or.inl (by decide)) s0
        have k112 := k96.tr q106 (Or.inl (by decide)) s0
        have nd113 := nd97.tr q106 (by have := @ic s; omega) (by omega)
        have lt114 : s.toInt < (κ100.1 19).toInt := by omega
        have k115 : KL κ100 h s.toInt s 3 r99 := KL.of g107 (by omega) (Int.le_refl _) s0 (Or.inl (by omega))
        have g116 : TR s.toInt 0 0 0 0 0 κ100 (mA1 κ100 25 s.toNatClampNeg r99) := TR.put p110.ps s0 rfl rfl
        have e118 : ((mA1 κ100 25 s.toNatClampNeg r99).1 19).toInt = (κ100.1 19).toInt := rfl
        have e119 : ((mA1 κ100 25 s.toNatClampNeg r99).1 32).toInt = (κ100.1 32).toInt := rfl
        have sr121 : srt (mA1 κ100 25 s.toNatClampNeg r99) = srt κ100 := srt_off rfl
        have nd120 := nd113.pd (x := r99)
        have p122 : TR (s.toInt) (0) 0 0 0 (-4) μ (mA1 κ100 25 s.toNatClampNeg r99) := p110.trS g116 (Or.inr (Or.inl rfl)) rfl rfl rfl rfl (by omega)
        have k123 := k111.tr g116 (Or.inr rfl) s0
        have k124 := k112.tr g116 (Or.inr rfl) s0
        have k125 := k115.tr g116 (Or.inr rfl) s0
        refine ⟨TR.mi p110.ps rfl rfl s0 (by omega), ?_⟩
        generalize mA1 κ100 25 s.toNatClampNeg r99 = κ117 at *
        have lt126 : s.toInt < (κ117.1 19).toInt := by omega
        refine MC.mono (c_line (by omega) p122.ps.1 p122.ps.at.1 p122.ps.at.2) (fun r127 κ128 h129 => ?_) (fun _ h => h)
        subst h129
        have g130 : TR s.toInt 0 0 0 0 0 κ128 (mA1 κ128 26 s.toNatClampNeg r127) := TR.put p122.ps s0 rfl rfl
        have e132 : ((mA1 κ128 26 s.toNatClampNeg r127).1 19).toInt = (κ128.1 19).toInt := rfl
        have e133 : ((mA1 κ128 26 s.toNatClampNeg r127).1 32).toInt = (κ128.1 32).toInt := rfl
        have sr135 : srt (mA1 κ128 26 s.toNatClampNeg r127) = srt κ128 := srt_off rfl
        have nd134 := nd120.pe (x := r127)
        have p136 : TR (s.toInt) (0) 0 0 0 (-4) μ (mA1 κ128 26 s.toNatClampNeg r127) := p122.trS g130 (Or.inr (Or.inl rfl)) rfl rfl rfl rfl (by omega)
        have k137 := k123.tr g130 (Or.inr rfl) s0
        have k138 := k124.tr g130 (Or.inr rfl) s0
        have k139 := k125.tr g130 (Or.inr rfl) s0
        refine ⟨TR.mi p122.ps rfl rfl s0 (by omega), ?_⟩
        generalize mA1 κ128 26 s.toNatClampNeg r127 = κ131 at *
        have lt140 : s.toInt < (κ131.1 19).toInt := by omega
        refine MC.mono (t_expect (by omega) p136.ps (by decide) (fun _ h => hT _ (p136.1.1.tr h))) (fun v141 κ146 h142 => ?_) (fun _ h => h)
        obtain ⟨q143, m144, a145⟩ := h142
        have p147 : TR (s.toInt) (0) 0 0 0 (-6) μ κ146 := p136.trS q143 (Or.inl (by decide)) rfl rfl rfl rfl (by omega)
        have k148 := k137.tr q143 (Or.inl (by decide)) s0
        have k149 := k138.tr q143 (Or.inl (by decide)) s0
        have k150 := k139.tr q143 (Or.inl (by decide)) s0
        have nd151 := nd134.tr q143 (by have := @ic s; omega) (by omega)
        have lt152 : s.toInt < (κ146.1 19).toInt := by omega
        refine ⟨TR.mi p147.ps rfl rfl s0 (by omega), ?_⟩
        refine MC.mono (t_endName (by omega) p147.ps (fun _ h => hT _ (p147.1.1.tr h))) (fun v153 κ158 h154 => ?_) (fun _ h => h)
        obtain ⟨q155, m156, a157⟩ := h154
        have p159 : TR (s.toInt) (0) 0 0 0 (-8) μ κ158 := p147.trS q155 (Or.inl (by decide)) rfl rfl rfl rfl (by omega)
        have k160 := k148.tr q155 (Or.inl (by decide)) s0
        have k161 := k149.tr q155 (Or.inl (by decide)) s0
        have k162 := k150.tr q155 (Or.inl (by decide)) s0
        have nd163 := nd151.tr q155 (by have := @ic s; omega) (by omega)
        have lt164 : s.toInt < (κ158.1 19).toInt := by omega
        exact ⟨⟨p159.1, by have := p159.2; omega⟩, G.mk s0 (Int.le_refl _) lt164 nd163 (by decide) True.intro (Kd.up k160 (Nat.le_succ _)) (k161) (KL.up k162 (Nat.le_succ _)) True.intro, nd163.2.2.2.2.2.2⟩
      · skip
        have hw3 : ¬ srt κ76 = 203 := by rw [is_t hw]; decide
        refine MC.mono (c_line (by omega) pν.ps.1 at1.1 at1.2) (fun r7 ν7 h7 => ?_) (fun _ h => h)
        subst h7
        have g7 : TR (-1) 0 0 0 0 0 ν7 (mS1 ν7 34 r7) := TR.s34 pν.ps
        have p7 : TR s.toInt 0 0 0 0 (-2) μ (mS1 ν7 34 r7) := pν.trS g7 (Or.inl (by decide)) rfl rfl rfl rfl (by omega)
        have e19 : ((mS1 ν7 34 r7).1 19).toInt = (ν7.1 19).toInt := rfl
        have e32 : ((mS1 ν7 34 r7).1 32).toInt = (ν7.1 32).toInt := rfl
        have w7 : ¬ srt (mS1 ν7 34 r7) = 203 := hw3
        refine MC.mono (t_node (by omega) p7.ps (by omega)) (fun l ν8 h8 => ?_) (fun _ h => h)
        obtain ⟨q1, ⟨q2, l0⟩, q3, q4, q5, q6⟩ := h8
        have g8 := g7.tr q1 (Or.inl (by decide)) rfl rfl rfl rfl (Int.le_refl _)
        have p8 : TR s.toInt 0 0 0 0 (-1) μ ν8 := p7.trS q1 (Or.inl (by decide)) rfl rfl rfl rfl (by omega)
        have x8 := p8.px
        have u8 := p8.2
        have z8 := px0 p8.ps
        refine MC.mono (hV ν8 T h l p8.ps (by omega) (by omega) (by omega) (fun _ h => hT _ (p8.1.1.tr h)) l0 (by omega) (by rw [q5]; exact w7) q6) (fun _ ν9 h9 => ?_) (fun _ h => h)
        obtain ⟨v1, v2, v3⟩ := h9
        have l9 := v1.l19
        have hcl := @ic l
        have g9 : TR (-1) 0 0 0 0 0 ν7 ν9 := g8.tr v1 (Or.inr (by omega)) rfl rfl rfl rfl (by omega)
        have p9 : TR s.toInt 0 0 0 0 (-2) μ ν9 := p8.trS v1 (Or.inr (Or.inr (by omega))) rfl rfl rfl rfl (by omega)
        refine MC.mono (t_expect (by omega) p9.ps (by decide) (fun _ h => hT _ (p9.1.1.tr h))) (fun _ ν10 h10 => ?_) (fun _ h => h)
        obtain ⟨m1, m2, m3⟩ := h10
        have g10 : TR (-1) 0 0 0 0 0 ν7 ν10 := g9.tr m1 (Or.inl (by decide)) rfl rfl rfl rfl (by omega)
        have p10 : TR s.toInt 0 0 0 0 (-2) μ ν10 := p9.trS m1 (Or.inl (by decide)) rfl rfl rfl rfl (by omega)
        have eG : G ν10 (h + 1) (bt (ν7.1 19).toInt (ν10.1 19).toInt) 19 l := (v2.tr m1 (Int.le_refl _) (Or.inl (by omega))).up (Nat.le_refl _) (by omega) (by omega)
        have n10 : ν10.2.1 27 l.toNatClampNeg = -1 := by rw [m1.rb 27 (by omega) (by omega) _ (by omega) (by omega)]; exact v3
        have u10 := p10.2
        have at10 := p10.ps.at
        have nd10 := ndν.tr g10 (by omega) (by omega)
        have k10 := gν.tr g10 hn2 (Or.inl (by omega))
        have l9' := v1.l32
        refine ⟨fun hx1 => ?_, fun hx1 => ?_⟩
        · rcases hO.sg with ⟨w1, -⟩ | ⟨w1, w2⟩
          · rw [w1] at hx1; exact absurd hx1 (by decide)
          obtain ⟨j1, j2, j3⟩ := hO.in w2
          have hc2 := @ic x4
          have g11 : TR x4.toInt 0 0 0 0 0 ν10 (mA1 ν10 27 x4.toNatClampNeg l) := TR.put p10.ps w2 rfl rfl
          exact ⟨TR.mi p10.ps rfl rfl w2 (by omega), ih n0 nm sg f l _ hn1 (by show _ ≤ (ν10.1 19).toInt; omega) (by show ((μ.1 8).toInt - (ν10.1 32).toInt).toNat < j; omega) (p10.trS g11 (Or.inr (Or.inr (by omega))) rfl rfl rfl rfl (by omega)) (by show _ < (ν10.1 19).toInt; omega) (nd10.off (by omega)) (k10.put (Or.inr (by omega))) (hO.add w2 g10 (by omega) eG n10)⟩
        · have hf : f = -1 := by
            rcases hO.sg with ⟨w1, -⟩ | ⟨w1, -⟩
            · exact w1
            · omega
          exact ih n0 nm sg l l _ hn1 (by omega) (by omega) p10 (by omega) nd10 k10 (OL.one (eG.up (Nat.le_refl _) (by omega) (Int.le_refl _)) (by omega) n10)
  refine me_meth (by omega) rfl (v_procedure_0 _ _ ?_)
  have g165 : TR s.toInt 0 0 0 0 0 μ (mA1 μ 20 s.toNatClampNeg 9) := TR.put p0.ps s0 rfl rfl
  have e167 : ((mA1 μ 20 s.toNatClampNeg 9).1 19).toInt = (μ.1 19).toInt := rfl
  have e168 : ((mA1 μ 20 s.toNatClampNeg 9).1 32).toInt = (μ.1 32).toInt := rfl
  have sr170 : srt (mA1 μ 20 s.toNatClampNeg 9) = srt μ := srt_off rfl
  have nd169 := nd0.pk (x := 9)
  have p171 : TR (s.toInt) (0) 0 0 0 (0) μ (mA1 μ 20 s.toNatClampNeg 9) := p0.trS g165 (Or.inr (Or.inl rfl)) rfl rfl rfl rfl (by omega)
  refine ⟨TR.mi p0.ps rfl rfl s0 (by omega), ?_⟩
  generalize mA1 μ 20 s.toNatClampNeg 9 = κ166 at *
  have lt172 : s.toInt < (κ166.1 19).toInt := by omega
  have hs4 : ¬ srt κ166 = 203 := by rw [sr170]; exact hs3
  refine MC.mono (t_next (by omega) p171.ps (hs4) (fun _ h => hT _ (p171.1.1.tr h))) (fun v173 κ178 h174 => ?_) (fun _ h => h)
  obtain ⟨q175, m176, a177⟩ := h174
  have p179 : TR (s.toInt) (0) 0 0 0 (-2) μ κ178 := p171.trS q175 (Or.inl (by decide)) rfl rfl rfl rfl (by omega)
  have nd180 := nd169.tr q175 (by have := @ic s; omega) (by omega)
  have lt181 : s.toInt < (κ178.1 19).toInt := by omega
  refine MC.mono (c_line (by omega) p179.ps.1 p179.ps.at.1 p179.ps.at.2) (fun r182 κ183 h184 => ?_) (fun _ h => h)
  subst h184
  have g185 : TR s.toInt 0 0 0 0 0 κ183 (mA1 κ183 31 s.toNatClampNeg r182) := TR.put p179.ps s0 rfl rfl
  have e187 : ((mA1 κ183 31 s.toNatClampNeg r182).1 19).toInt = (κ183.1 19).toInt := rfl
  have e188 : ((mA1 κ183 31 s.toNatClampNeg r182).1 32).toInt = (κ183.1 32).toInt := rfl
  have sr190 : srt (mA1 κ183 31 s.toNatClampNeg r182) = srt κ183 := srt_off rfl
  have nd189 := nd180.p31 (x := r182)
  have p191 : TR (s.toInt) (0) 0 0 0 (-2) μ (mA1 κ183 31 s.toNatClampNeg r182) := p179.trS g185 (Or.inr (Or.inl rfl)) rfl rfl rfl rfl (by omega)
  refine ⟨TR.mi p179.ps rfl rfl s0 (by omega), ?_⟩
  generalize mA1 κ183 31 s.toNatClampNeg r182 = κ186 at *
  have lt192 : s.toInt < (κ186.1 19).toInt := by omega
  refine MC.mono (t_name (by omega) p191.ps (fun _ h => hT _ (p191.1.1.tr h))) (fun v193 κ198 h194 => ?_) (fun _ h => h)
  obtain ⟨q195, m196, a197⟩ := h194
  have p199 : TR (s.toInt) (0) 0 0 0 (-4) μ κ198 := p191.trS q195 (Or.inl (by decide)) rfl rfl rfl rfl (by omega)
  have nd200 := nd189.tr q195 (by have := @ic s; omega) (by omega)
  have lt201 : s.toInt < (κ198.1 19).toInt := by omega
  have g202 : TR s.toInt 0 0 0 0 0 κ198 (mA1 κ198 22 s.toNatClampNeg v193) := TR.put p199.ps s0 rfl rfl
  have e204 : ((mA1 κ198 22 s.toNatClampNeg v193).1 19).toInt = (κ198.1 19).toInt := rfl
  have e205 : ((mA1 κ198 22 s.toNatClampNeg v193).1 32).toInt = (κ198.1 32).toInt := rfl
  have sr207 : srt (mA1 κ198 22 s.toNatClampNeg v193) = srt κ198 := srt_off rfl
  have nd206 := nd200.pa (x := v193)
  have p208 : TR (s.toInt) (0) 0 0 0 (-4) μ (mA1 κ198 22 s.toNatClampNeg v193) := p199.trS g202 (Or.inr (Or.inl rfl)) rfl rfl rfl rfl (by omega)
  refine ⟨TR.mi p199.ps rfl rfl s0 (by omega), ?_⟩
  generalize mA1 κ198 22 s.toNatClampNeg v193 = κ203 at *
  have lt209 : s.toInt < (κ203.1 19).toInt := by omega
  have x213 := p208.px
  have u214 := p208.2
  have y215 := tT p208
  have z216 := px0 p208.ps
  refine MC.mono (hG κ203 T h p208.ps (by omega) (by omega) (by omega) (fun _ h => hT _ (p208.1.1.tr h))) (fun r210 κ211 h212 => ?_) (fun _ h => h)
  obtain ⟨z219, z220, z221, z222, z223⟩ := h212
  have q217 : TR (-1) 0 0 0 0 0 κ203 κ211 := ⟨z219, by omega⟩
  have g218 := z222
  have l224 := q217.l19
  have l225 := q217.l32
  have p226 : TR (s.toInt) (0) 0 0 0 (-4) μ κ211 := p208.trS q217 (Or.inl (by decide)) rfl rfl rfl rfl (by omega)
  have nd227 := nd206.tr q217 (by have := @ic s; omega) (by omega)
  have lt228 : s.toInt < (κ211.1 19).toInt := by omega
  have k229 : Kd κ211 h s.toInt s 8 r210 := Kd.of g218 (by omega) (Int.le_refl _) s0 (Or.inl (by omega))
  have nS : (κ211.1 19).toInt ≤ (κ211.1 19).toInt := Int.le_refl _
  have n0e : ∃ n0 : Int, n0 = (κ211.1 19).toInt := ⟨_, rfl⟩
  obtain ⟨n0, n0e⟩ := n0e
  have ltS : s.toInt < n0 := by omega
  have g230 : TR s.toInt 0 0 0 0 0 κ211 (mA1 κ211 23 s.toNatClampNeg r210) := TR.put p226.ps s0 rfl rfl
  have e232 : ((mA1 κ211 23 s.toNatClampNeg r210).1 19).toInt = (κ211.1 19).toInt := rfl
  have e233 : ((mA1 κ211 23 s.toNatClampNeg r210).1 32).toInt = (κ211.1 32).toInt := rfl
  have sr235 : srt (mA1 κ211 23 s.toNatClampNeg r210) = srt κ211 := srt_off rfl
  have nd234 := nd227.pb (x := r210)
  have p236 : TR (s.toInt) (0) 0 0 0 (-4) μ (mA1 κ211 23 s.toNatClampNeg r210) := p226.trS g230 (Or.inr (Or.inl rfl)) rfl rfl rfl rfl (by omega)
  have k237 := k229.tr g230 (Or.inr rfl) s0
  have gg238 := g218.tr g230 (by omega) (Or.inl (by omega))
  refine ⟨TR.mi p226.ps rfl rfl s0 (by omega), ?_⟩
  generalize mA1 κ211 23 s.toNatClampNeg r210 = κ231 at *
  have lt239 : s.toInt < (κ231.1 19).toInt := by omega
  refine ⟨fun _ => ?_, fun _ => ?_⟩
  · skip
    refine MC.mono (t_expect (by omega) p236.ps (by decide) (fun _ h => hT _ (p236.1.1.tr h))) (fun v240 κ245 h241 => ?_) (fun _ h => h)
    obtain ⟨q242, m243, a244⟩ := h241
    have p246 : TR (s.toInt) (0) 0 0 0 (-6) μ κ245 := p236.trS q242 (Or.inl (by decide)) rfl rfl rfl rfl (by omega)
    have k247 := k237.tr q242 (Or.inl (by decide)) s0
    have gg248 := gg238.tr q242 (by omega) (Or.inl (by omega))
    have nd249 := nd234.tr q242 (by have := @ic s; omega) (by omega)
    have lt250 : s.toInt < (κ245.1 19).toInt := by omega
    exact key _ n0 _ _ (-1) (-1) _ ltS (by omega) (Nat.lt_succ_self _) ⟨p246.1, by have := p246.2; omega⟩ lt250 nd249 (gg248.up (Nat.le_refl _) (by omega) (by omega)) OL.nil
  · skip
    exact ⟨⟨p236.1, by have := p236.2; omega⟩, G.mk s0 (Int.le_refl _) lt239 nd234 (by decide) True.intro (Kd.up k237 (Nat.le_succ _)) ⟨0, rfl⟩ ⟨0, rfl⟩ True.intro, nd234.2.2.2.2.2.2⟩
theorem st_declaration (hY : NodC X W P 312 0 9 0 d) (hL : NodC X W P 313 21 14 3 d) (hV : VarC X W P d) (hPr : PrC X W P d) : DeC X W P (d + 1) := fun μ T h9 x1 hS hd hh hn hT hs3 => by
  have hp := px0 hS
  have h0 := hS.2.2.2.2.1
  have at0 := hS.at
  obtain ⟨h, rfl⟩ : ∃ h, h9 = h + 1 := ⟨h9 - 1, by omega⟩
  refine me_meth (by omega) rfl (v_declaration_0 _ (MC.mono (c_line (by omega) hS.1 hS.at.1 hS.at.2) (fun r1 ν h1 => ?_) (fun _ h => h)))
  subst h1
  have g1 : TR (-1) 0 0 0 0 0 ν (mS1 ν 34 r1) := TR.s34 hS
  have e19 : ((mS1 ν 34 r1).1 19).toInt = (ν.1 19).toInt := rfl
  have e32 : ((mS1 ν 34 r1).1 32).toInt = (ν.1 32).toInt := rfl
  refine MC.mono (t_node (by omega) g1.ps (by omega)) (fun s κ hk => ?_) (fun _ h => h)
  obtain ⟨q1, ⟨q2, s0⟩, q3, q4, q5, nd0⟩ := hk
  have hcs := @ic s
  have s9 : s.toInt < 15990 := by omega
  have p0 : TR (-1) 0 0 0 0 1 ν κ := g1.tr q1 (Or.inl (by decide)) rfl rfl rfl rfl (by omega)
  have lt0 : s.toInt < (κ.1 19).toInt := by omega
  have hk3 : ¬ srt κ = 203 := by rw [q5]; exact hs3
  have xκ := p0.px
  have zκ := px0 p0.ps
  have uκ := p0.2
  refine MC.mono (c_is (by omega) p0.ps) (fun r251 κ252 h253 => ?_) (fun _ h => h)
  obtain ⟨rfl, rfl⟩ := h253
  refine ⟨fun hA => ?_, fun hA => ?_⟩
  · skip
    refine MC.mono (c_is (by omega) p0.ps) (fun r254 κ255 h256 => ?_) (fun _ h => h)
    obtain ⟨rfl, rfl⟩ := h256
    refine ⟨fun hB => ?_, fun hB => ?_⟩
    · skip
      refine MC.mono (c_is (by omega) p0.ps) (fun r257 κ258 h259 => ?_) (fun _ h => h)
      obtain ⟨rfl, rfl⟩ := h259
      refine ⟨fun hC => ?_, fun hC => ?_⟩
      · skip
        refine MC.mono (c_is (by omega) p0.ps) (fun r260 κ261 h262 => ?_) (fun _ h => h)
        obtain ⟨rfl, rfl⟩ := h262
        refine ⟨fun hD => ?_, fun hD => ?_⟩
        · skip
          refine MC.mono (hPr κ261 T h s x1 p0.ps (by omega) (by omega) (by omega) (fun _ h => hT _ (p0.1.1.tr h)) s0 (by omega) hk3 nd0) (fun _ ζ hz => ?_) (fun _ h => h)
          obtain ⟨z1, z2, z3⟩ := hz
          have lz := z1.l19
          have pz : TR (-1) 0 0 0 0 0 ν ζ := p0.tr z1 (Or.inr (by omega)) rfl rfl rfl rfl (by omega)
          refine MC.mono (t_expect (by omega) pz.ps (by decide) (fun _ h => hT _ (pz.1.1.tr h))) (fun _ η hη => ?_) (fun _ h => h)
          obtain ⟨m1, m2, m3⟩ := hη
          have lz2 := z1.l32
          exact ⟨pz.tr m1 (Or.inl (by decide)) rfl rfl rfl rfl (by omega), by omega, ((z2).tr m1 (Int.le_refl _) (Or.inl (by omega))).up (Nat.le_refl _) (by omega) (by omega), by rw [m1.rb 27 (by omega) (by omega) _ (by omega) (by omega)]; exact z3⟩
        · skip
          have g263 : TR s.toInt 0 0 0 0 0 κ261 (mA1 κ261 20 s.toNatClampNeg 8) := TR.put p0.ps s0 rfl rfl
          have e265 : ((mA1 κ261 20 s.toNatClampNeg 8).1 19).toInt = (κ261.1 19).toInt := rfl
          have e266 : ((mA1 κ261 20 s.toNatClampNeg 8).1 32).toInt = (κ261.1 32).toInt := rfl
          have sr268 : srt (mA1 κ261 20 s.toNatClampNeg 8) = srt κ261 := srt_off rfl
          have nd267 := nd0.pk (x := 8)
          have p269 : TR (-1) (0) 0 0 0 (1) ν (mA1 κ261 20 s.toNatClampNeg 8) := p0.trS g263 (Or.inr (Or.inr (by omega))) rfl rfl rfl rfl (by omega)
          refine ⟨TR.mi p0.ps rfl rfl s0 (by omega), ?_⟩
          generalize mA1 κ261 20 s.toNatClampNeg 8 = κ264 at *
          have lt270 : s.toInt < (κ264.1 19).toInt := by omega
          have hk4 : ¬ srt κ264 = 203 := by rw [sr268]; exact hk3
          refine MC.mono (t_next (by omega) p269.ps (hk4) (fun _ h => hT _ (p269.1.1.tr h))) (fun v271 κ276 h272 => ?_) (fun _ h => h)
          obtain ⟨q273, m274, a275⟩ := h272
          have p277 : TR (-1) (0) 0 0 0 (-1) ν κ276 := p269.trS q273 (Or.inl (by decide)) rfl rfl rfl rfl (by omega)
          have nd278 := nd267.tr q273 (by have := @ic s; omega) (by omega)
          have lt279 : s.toInt < (κ276.1 19).toInt := by omega
          refine MC.mono (c_line (by omega) p277.ps.1 p277.ps.at.1 p277.ps.at.2) (fun r280 κ281 h282 => ?_) (fun _ h => h)
          subst h282
          have g283 : TR s.toInt 0 0 0 0 0 κ281 (mA1 κ281 31 s.toNatClampNeg r280) := TR.put p277.ps s0 rfl rfl
          have e285 : ((mA1 κ281 31 s.toNatClampNeg r280).1 19).toInt = (κ281.1 19).toInt := rfl
          have e286 : ((mA1 κ281 31 s.toNatClampNeg r280).1 32).toInt = (κ281.1 32).toInt := rfl
          have sr288 : srt (mA1 κ281 31 s.toNatClampNeg r280) = srt κ281 := srt_off rfl
          have nd287 := nd278.p31 (x := r280)
          have p289 : TR (-1) (0) 0 0 0 (-1) ν (mA1 κ281 31 s.toNatClampNeg r280) := p277.trS g283 (Or.inr (Or.inr (by omega))) rfl rfl rfl rfl (by omega)
          refine ⟨TR.mi p277.ps rfl rfl s0 (by omega), ?_⟩
          generalize mA1 κ281 31 s.toNatClampNeg r280 = κ284 at *
          have lt290 : s.toInt < (κ284.1 19).toInt := by omega
          refine MC.mono (t_name (by omega) p289.ps (fun _ h => hT _ (p289.1.1.tr h))) (fun v291 κ296 h292 => ?_) (fun _ h => h)
          obtain ⟨q293, m294, a295⟩ := h292
          have p297 : TR (-1) (0) 0 0 0 (-3) ν κ296 := p289.trS q293 (Or.inl (by decide)) rfl rfl rfl rfl (by omega)
          have nd298 := nd287.tr q293 (by have := @ic s; omega) (by omega)
          have lt299 : s.toInt < (κ296.1 19).toInt := by omega
          have g300 : TR s.toInt 0 0 0 0 0 κ296 (mA1 κ296 22 s.toNatClampNeg v291) := TR.put p297.ps s0 rfl rfl
          have e302 : ((mA1 κ296 22 s.toNatClampNeg v291).1 19).toInt = (κ296.1 19).toInt := rfl
          have e303 : ((mA1 κ296 22 s.toNatClampNeg v291).1 32).toInt = (κ296.1 32).toInt := rfl
          have sr305 : srt (mA1 κ296 22 s.toNatClampNeg v291) = srt κ296 := srt_off rfl
          have nd304 := nd298.pa (x := v291)
          have p306 : TR (-1) (0) 0 0 0 (-3) ν (mA1 κ296 22 s.toNatClampNeg v291) := p297.trS g300 (Or.inr (Or.inr (by omega))) rfl rfl rfl rfl (by omega)
          refine ⟨TR.mi p297.ps rfl rfl s0 (by omega), ?_⟩
          generalize mA1 κ296 22 s.toNatClampNeg v291 = κ301 at *
          have lt307 : s.toInt < (κ301.1 19).toInt := by omega
          refine MC.mono (t_expect (by omega) p306.ps (by decide) (fun _ h => hT _ (p306.1.1.tr h))) (fun v308 κ313 h309 => ?_) (fun _ h => h)
          obtain ⟨q310, m311, a312⟩ := h309
          have p314 : TR (-1) (0) 0 0 0 (-5) ν κ313 := p306.trS q310 (Or.inl (by decide)) rfl rfl rfl rfl (by omega)
          have nd315 := nd304.tr q310 (by have := @ic s; omega) (by omega)
          have lt316 : s.toInt < (κ313.1 19).toInt := by omega
          exact ⟨⟨p314.1, by have := p314.2; omega⟩, by omega, (G.mk (lo := s.toInt) s0 (Int.le_refl _) lt316 nd315 (by decide) True.intro True.intro True.intro True.intro True.intro : G κ313 (h + 1) (bt s.toInt (κ313.1 19).toInt) 4 s).up (Nat.le_refl _) (by omega) (Int.le_refl _), nd315.2.2.2.2.2.2⟩
      · skip
        have g317 : TR s.toInt 0 0 0 0 0 κ258 (mA1 κ258 20 s.toNatClampNeg 7) := TR.put p0.ps s0 rfl rfl
        have e319 : ((mA1 κ258 20 s.toNatClampNeg 7).1 19).toInt = (κ258.1 19).toInt := rfl
        have e320 : ((mA1 κ258 20 s.toNatClampNeg 7).1 32).toInt = (κ258.1 32).toInt := rfl
        have sr322 : srt (mA1 κ258 20 s.toNatClampNeg 7) = srt κ258 := srt_off rfl
        have nd321 := nd0.pk (x := 7)
        have p323 : TR (-1) (0) 0 0 0 (1) ν (mA1 κ258 20 s.toNatClampNeg 7) := p0.trS g317 (Or.inr (Or.inr (by omega))) rfl rfl rfl rfl (by omega)
        refine ⟨TR.mi p0.ps rfl rfl s0 (by omega), ?_⟩
        generalize mA1 κ258 20 s.toNatClampNeg 7 = κ318 at *
        have lt324 : s.toInt < (κ318.1 19).toInt := by omega
        have hk4 : ¬ srt κ318 = 203 := by rw [sr322]; exact hk3
        have xc := p323.px
        have zc := px0 p323.ps
        refine MC.mono (hV κ318 T h s p323.ps (by omega) (by omega) (by omega) (fun _ h => hT _ (p323.1.1.tr h)) s0 (by omega) hk4 nd321) (fun _ ζ hz => ?_) (fun _ h => h)
        obtain ⟨z1, z2, z3⟩ := hz
        have lz := z1.l19
        have pz : TR (-1) 0 0 0 0 0 ν ζ := p323.tr z1 (Or.inr (by omega)) rfl rfl rfl rfl (by omega)
        refine MC.mono (t_expect (by omega) pz.ps (by decide) (fun _ h => hT _ (pz.1.1.tr h))) (fun _ η hη => ?_) (fun _ h => h)
        obtain ⟨m1, m2, m3⟩ := hη
        have lz2 := z1.l32
        exact ⟨pz.tr m1 (Or.inl (by decide)) rfl rfl rfl rfl (by omega), by omega, ((z2.dv).tr m1 (Int.le_refl _) (Or.inl (by omega))).up (Nat.le_refl _) (by omega) (by omega), by rw [m1.rb 27 (by omega) (by omega) _ (by omega) (by omega)]; exact z3⟩
    · skip
      refine MC.mono (t_next (by omega) p0.ps (hk3) (fun _ h => hT _ (p0.1.1.tr h))) (fun v325 κ330 h326 => ?_) (fun _ h => h)
      obtain ⟨q327, m328, a329⟩ := h326
      have p331 : TR (-1) (0) 0 0 0 (-1) ν κ330 := p0.trS q327 (Or.inl (by decide)) rfl rfl rfl rfl (by omega)
      have nd332 := nd0.tr q327 (by have := @ic s; omega) (by omega)
      have lt333 : s.toInt < (κ330.1 19).toInt := by omega
      have x337 := p331.px
      have u338 := p331.2
      have y339 := tT p331
      have z340 := px0 p331.ps
      refine MC.mono (c_qname (by omega) p331.ps (by omega) (fun _ h => hT _ (p331.1.1.tr h))) (fun r334 κ335 h336 => ?_) (fun _ h => h)
      obtain ⟨⟨z343, z344, z345, z346, z347⟩, z348⟩ := h336
      have q341 : TR (-1) 0 0 0 0 0 κ330 κ335 := ⟨z343, by omega⟩
      have g342 := z346.up (h' := h) (by omega) (Int.le_refl _) (Int.le_refl _)
      have l349 := q341.l19
      have l350 := q341.l32
      have p351 : TR (-1) (0) 0 0 0 (-1) ν κ335 := p331.trS q341 (Or.inl (by decide)) rfl rfl rfl rfl (by omega)
      have nd352 := nd332.tr q341 (by have := @ic s; omega) (by omega)
      have lt353 : s.toInt < (κ335.1 19).toInt := by omega
      have k354 : Kd κ335 h s.toInt s 7 r334 := Kd.of g342 (by omega) (Int.le_refl _) s0 (Or.inl (by omega))
      have g355 : TR s.toInt 0 0 0 0 0 κ335 (mA1 κ335 22 s.toNatClampNeg r334) := TR.put p351.ps s0 rfl rfl
      have e357 : ((mA1 κ335 22 s.toNatClampNeg r334).1 19).toInt = (κ335.1 19).toInt := rfl
      have e358 : ((mA1 κ335 22 s.toNatClampNeg r334).1 32).toInt = (κ335.1 32).toInt := rfl
      have sr360 : srt (mA1 κ335 22 s.toNatClampNeg r334) = srt κ335 := srt_off rfl
      have nd359 := nd352.pa (x := r334)
      have p361 : TR (-1) (0) 0 0 0 (-1) ν (mA1 κ335 22 s.toNatClampNeg r334) := p351.trS g355 (Or.inr (Or.inr (by omega))) rfl rfl rfl rfl (by omega)
      have k362 := k354.tr g355 (Or.inr rfl) s0
      refine ⟨TR.mi p351.ps rfl rfl s0 (by omega), ?_⟩
      generalize mA1 κ335 22 s.toNatClampNeg r334 = κ356 at *
      have lt363 : s.toInt < (κ356.1 19).toInt := by omega
      refine MC.mono (c_is (by omega) p361.ps) (fun r364 κ365 h366 => ?_) (fun _ h => h)
      obtain ⟨rfl, rfl⟩ := h366
      refine ⟨fun hC => ?_, fun hC => ?_⟩
      · skip
        have g367 : TR s.toInt 0 0 0 0 0 κ365 (mA1 κ365 20 s.toNatClampNeg 6) := TR.put p361.ps s0 rfl rfl
        have e369 : ((mA1 κ365 20 s.toNatClampNeg 6).1 19).toInt = (κ365.1 19).toInt := rfl
        have e370 : ((mA1 κ365 20 s.toNatClampNeg 6).1 32).toInt = (κ365.1 32).toInt := rfl
        have sr372 : srt (mA1 κ365 20 s.toNatClampNeg 6) = srt κ365 := srt_off rfl
        have nd371 := nd359.pk (x := 6)
        have p373 : TR (-1) (0) 0 0 0 (-1) ν (mA1 κ365 20 s.toNatClampNeg 6) := p361.trS g367 (Or.inr (Or.inr (by omega))) rfl rfl rfl rfl (by omega)
        have k374 := k362.tr g367 (Or.inr rfl) s0
        refine ⟨TR.mi p361.ps rfl rfl s0 (by omega), ?_⟩
        generalize mA1 κ365 20 s.toNatClampNeg 6 = κ368 at *
        have lt375 : s.toInt < (κ368.1 19).toInt := by omega
        refine MC.mono (c_is (by omega) p373.ps) (fun r376 κ377 h378 => ?_) (fun _ h => h)
        obtain ⟨rfl, rfl⟩ := h378
        refine ⟨fun hD => ?_, fun hD => absurd (sr372.symm.trans (is_t hD)) (is_f hC)⟩
        refine MC.mono (t_expect (by omega) p373.ps (by decide) (fun _ h => hT _ (p373.1.1.tr h))) (fun v379 κ384 h380 => ?_) (fun _ h => h)
        obtain ⟨q381, m382, a383⟩ := h380
        have p385 : TR (-1) (0) 0 0 0 (-3) ν κ384 := p373.trS q381 (Or.inl (by decide)) rfl rfl rfl rfl (by omega)
        have k386 := k374.tr q381 (Or.inl (by decide)) s0
        have nd387 := nd371.tr q381 (by have := @ic s; omega) (by omega)
        have lt388 : s.toInt < (κ384.1 19).toInt := by omega
        have x392 := p385.px
        have u393 := p385.2
        have y394 := tT p385
        have z395 := px0 p385.ps
        refine MC.mono (hL κ384 T h p385.ps (by omega) (by omega) (by omega) (fun _ h => hT _ (p385.1.1.tr h))) (fun r389 κ390 h391 => ?_) (fun _ h => h)
        obtain ⟨z398, z399, z400, z401, z402⟩ := h391
        have q396 : TR (-1) 0 0 0 0 0 κ384 κ390 := ⟨z398, by omega⟩
        have g397 := z401
        have l403 := q396.l19
        have l404 := q396.l32
        have p405 : TR (-1) (0) 0 0 0 (-3) ν κ390 := p385.trS q396 (Or.inl (by decide)) rfl rfl rfl rfl (by omega)
        have k406 := k386.tr q396 (Or.inl (by decide)) s0
        have nd407 := nd387.tr q396 (by have := @ic s; omega) (by omega)
        have lt408 : s.toInt < (κ390.1 19).toInt := by omega
        have k409 : Kd κ390 h s.toInt s 21 r389 := Kd.of g397 (by omega) (Int.le_refl _) s0 (Or.inl (by omega))
        have g410 : TR s.toInt 0 0 0 0 0 κ390 (mA1 κ390 23 s.toNatClampNeg r389) := TR.put p405.ps s0 rfl rfl
        have e412 : ((mA1 κ390 23 s.toNatClampNeg r389).1 19).toInt = (κ390.1 19).toInt := rfl
        have e413 : ((mA1 κ390 23 s.toNatClampNeg r389).1 32).toInt = (κ390.1 32).toInt := rfl
        have sr415 : srt (mA1 κ390 23 s.toNatClampNeg r389) = srt κ390 := srt_off rfl
        have nd414 := nd407.pb (x := r389)
        have p416 : TR (-1) (0) 0 0 0 (-3) ν (mA1 κ390 23 s.toNatClampNeg r389) := p405.trS g410 (Or.inr (Or.inr (by omega))) rfl rfl rfl rfl (by omega)
        have k417 := k406.tr g410 (Or.inr rfl) s0
        have k418 := k409.tr g410 (Or.inr rfl) s0
        refine ⟨TR.mi p405.ps rfl rfl s0 (by omega), ?_⟩
        generalize mA1 κ390 23 s.toNatClampNeg r389 = κ411 at *
        have lt419 : s.toInt < (κ411.1 19).toInt := by omega
        refine MC.mono (t_expect (by omega) p416.ps (by decide) (fun _ h => hT _ (p416.1.1.tr h))) (fun v420 κ425 h421 => ?_) (fun _ h => h)
        obtain ⟨q422, m423, a424⟩ := h421
        have p426 : TR (-1) (0) 0 0 0 (-5) ν κ425 := p416.trS q422 (Or.inl (by decide)) rfl rfl rfl rfl (by omega)
        have k427 := k417.tr q422 (Or.inl (by decide)) s0
        have k428 := k418.tr q422 (Or.inl (by decide)) s0
        have nd429 := nd414.tr q422 (by have := @ic s; omega) (by omega)
        have lt430 : s.toInt < (κ425.1 19).toInt := by omega
        exact ⟨⟨p426.1, by have := p426.2; omega⟩, by omega, (G.mk (lo := s.toInt) s0 (Int.le_refl _) lt430 nd429 (by decide) (k427) (k428) True.intro True.intro True.intro : G κ425 (h + 1) (bt s.toInt (κ425.1 19).toInt) 4 s).up (Nat.le_refl _) (by omega) (Int.le_refl _), nd429.2.2.2.2.2.2⟩
      · skip
        have g431 : TR s.toInt 0 0 0 0 0 κ365 (mA1 κ365 20 s.toNatClampNeg 5) := TR.put p361.ps s0 rfl rfl
        have e433 : ((mA1 κ365 20 s.toNatClampNeg 5).1 19).toInt = (κ365.1 19).toInt := rfl
        have e434 : ((mA1 κ365 20 s.toNatClampNeg 5).1 32).toInt = (κ365.1 32).toInt := rfl
        have sr436 : srt (mA1 κ365 20 s.toNatClampNeg 5) = srt κ365 := srt_off rfl
        have nd435 := nd359.pk (x := 5)
        have p437 : TR (-1) (0) 0 0 0 (-1) ν (mA1 κ365 20 s.toNatClampNeg 5) := p361.trS g431 (Or.inr (Or.inr (by omega))) rfl rfl rfl rfl (by omega)
        have k438 := k362.tr g431 (Or.inr rfl) s0
        refine ⟨TR.mi p361.ps rfl rfl s0 (by omega), ?_⟩
        generalize mA1 κ365 20 s.toNatClampNeg 5 = κ432 at *
        have lt439 : s.toInt < (κ432.1 19).toInt := by omega
        refine MC.mono (c_is (by omega) p437.ps) (fun r440 κ441 h442 => ?_) (fun _ h => h)
        obtain ⟨rfl, rfl⟩ := h442
        refine ⟨fun hD => absurd (sr436.trans (is_t hC)) (is_f hD), fun hD => ?_⟩
        have hk5 : ¬ srt κ441 = 203 := by rw [is_t hD]; decide
        refine MC.mono (t_next (by omega) p437.ps (hk5) (fun _ h => hT _ (p437.1.1.tr h))) (fun v443 κ448 h444 => ?_) (fun _ h => h)
        obtain ⟨q445, m446, a447⟩ := h444
        have p449 : TR (-1) (0) 0 0 0 (-3) ν κ448 := p437.trS q445 (Or.inl (by decide)) rfl rfl rfl rfl (by omega)
        have k450 := k438.tr q445 (Or.inl (by decide)) s0
        have nd451 := nd435.tr q445 (by have := @ic s; omega) (by omega)
        have lt452 : s.toInt < (κ448.1 19).toInt := by omega
        have x456 := p449.px
        have u457 := p449.2
        have y458 := tT p449
        have z459 := px0 p449.ps
        refine MC.mono (hY κ448 T h p449.ps (by omega) (by omega) (by omega) (fun _ h => hT _ (p449.1.1.tr h))) (fun r453 κ454 h455 => ?_) (fun _ h => h)
        obtain ⟨z462, z463, z464, z465, z466⟩ := h455
        have q460 : TR (-1) 0 0 0 0 0 κ448 κ454 := ⟨z462, by omega⟩
        have g461 := z465
        have l467 := q460.l19
        have l468 := q460.l32
        have p469 : TR (-1) (0) 0 0 0 (-3) ν κ454 := p449.trS q460 (Or.inl (by decide)) rfl rfl rfl rfl (by omega)
        have k470 := k450.tr q460 (Or.inl (by decide)) s0
        have nd471 := nd451.tr q460 (by have := @ic s; omega) (by omega)
        have lt472 : s.toInt < (κ454.1 19).toInt := by omega
        have k473 : Kd κ454 h s.toInt s 0 r453 := Kd.of g461 (by omega) (Int.le_refl _) s0 (Or.inl (by omega))
        have g474 : TR s.toInt 0 0 0 0 0 κ454 (mA1 κ454 23 s.toNatClampNeg r453) := TR.put p469.ps s0 rfl rfl
        have e476 : ((mA1 κ454 23 s.toNatClampNeg r453).1 19).toInt = (κ454.1 19).toInt := rfl
        have e477 : ((mA1 κ454 23 s.toNatClampNeg r453).1 32).toInt = (κ454.1 32).toInt := rfl
        have sr479 : srt (mA1 κ454 23 s.toNatClampNeg r453) = srt κ454 := srt_off rfl
        have nd478 := nd471.pb (x := r453)
        have p480 : TR (-1) (0) 0 0 0 (-3) ν (mA1 κ454 23 s.toNatClampNeg r453) := p469.trS g474 (Or.inr (Or.inr (by omega))) rfl rfl rfl rfl (by omega)
        have k481 := k470.tr g474 (Or.inr rfl) s0
        have k482 := k473.tr g474 (Or.inr rfl) s0
        refine ⟨TR.mi p469.ps rfl rfl s0 (by omega), ?_⟩
        generalize mA1 κ454 23 s.toNatClampNeg r453 = κ475 at *
        have lt483 : s.toInt < (κ475.1 19).toInt := by omega
        refine MC.mono (t_expect (by omega) p480.ps (by decide) (fun _ h => hT _ (p480.1.1.tr h))) (fun v484 κ489 h485 => ?_) (fun _ h => h)
        obtain ⟨q486, m487, a488⟩ := h485
        have p490 : TR (-1) (0) 0 0 0 (-5) ν κ489 := p480.trS q486 (Or.inl (by decide)) rfl rfl rfl rfl (by omega)
        have k491 := k481.tr q486 (Or.inl (by decide)) s0
        have k492 := k482.tr q486 (Or.inl (by decide)) s0
        have nd493 := nd478.tr q486 (by have := @ic s; omega) (by omega)
        have lt494 : s.toInt < (κ489.1 19).toInt := by omega
        exact ⟨⟨p490.1, by have := p490.2; omega⟩, by omega, (G.mk (lo := s.toInt) s0 (Int.le_refl _) lt494 nd493 (by decide) (k491) (k492) True.intro True.intro True.intro : G κ489 (h + 1) (bt s.toInt (κ489.1 19).toInt) 4 s).up (Nat.le_refl _) (by omega) (Int.le_refl _), nd493.2.2.2.2.2.2⟩
  · skip
    refine MC.mono (t_next (by omega) p0.ps (hk3) (fun _ h => hT _ (p0.1.1.tr h))) (fun v495 κ500 h496 => ?_) (fun _ h => h)
    obtain ⟨q497, m498, a499⟩ := h496
    have p501 : TR (-1) (0) 0 0 0 (-1) ν κ500 := p0.trS q497 (Or.inl (by decide)) rfl rfl rfl rfl (by omega)
    have nd502 := nd0.tr q497 (by have := @ic s; omega) (by omega)
    have lt503 : s.toInt < (κ500.1 19).toInt := by omega
    refine MC.mono (c_line (by omega) p501.ps.1 p501.ps.at.1 p501.ps.at.2) (fun r504 κ505 h506 => ?_) (fun _ h => h)
    subst h506
    have g507 : TR s.toInt 0 0 0 0 0 κ505 (mA1 κ505 31 s.toNatClampNeg r504) := TR.put p501.ps s0 rfl rfl
    have e509 : ((mA1 κ505 31 s.toNatClampNeg r504).1 19).toInt = (κ505.1 19).toInt := rfl
    have e510 : ((mA1 κ505 31 s.toNatClampNeg r504).1 32).toInt = (κ505.1 32).toInt := rfl
    have sr512 : srt (mA1 κ505 31 s.toNatClampNeg r504) = srt κ505 := srt_off rfl
    have nd511 := nd502.p31 (x := r504)
    have p513 : TR (-1) (0) 0 0 0 (-1) ν (mA1 κ505 31 s.toNatClampNeg r504) := p501.trS g507 (Or.inr (Or.inr (by omega))) rfl rfl rfl rfl (by omega)
    refine ⟨TR.mi p501.ps rfl rfl s0 (by omega), ?_⟩
    generalize mA1 κ505 31 s.toNatClampNeg r504 = κ508 at *
    have lt514 : s.toInt < (κ508.1 19).toInt := by omega
    refine MC.mono (t_name (by omega) p513.ps (fun _ h => hT _ (p513.1.1.tr h))) (fun v515 κ520 h516 => ?_) (fun _ h => h)
    obtain ⟨q517, m518, a519⟩ := h516
    have p521 : TR (-1) (0) 0 0 0 (-3) ν κ520 := p513.trS q517 (Or.inl (by decide)) rfl rfl rfl rfl (by omega)
    have nd522 := nd511.tr q517 (by have := @ic s; omega) (by omega)
    have lt523 : s.toInt < (κ520.1 19).toInt := by omega
    have g524 : TR s.toInt 0 0 0 0 0 κ520 (mA1 κ520 22 s.toNatClampNeg v515) := TR.put p521.ps s0 rfl rfl
    have e526 : ((mA1 κ520 22 s.toNatClampNeg v515).1 19).toInt = (κ520.1 19).toInt := rfl
    have e527 : ((mA1 κ520 22 s.toNatClampNeg v515).1 32).toInt = (κ520.1 32).toInt := rfl
    have sr529 : srt (mA1 κ520 22 s.toNatClampNeg v515) = srt κ520 := srt_off rfl
    have nd528 := nd522.pa (x := v515)
    have p530 : TR (-1) (0) 0 0 0 (-3) ν (mA1 κ520 22 s.toNatClampNeg v515) := p521.trS g524 (Or.inr (Or.inr (by omega))) rfl rfl rfl rfl (by omega)
    refine ⟨TR.mi p521.ps rfl rfl s0 (by omega), ?_⟩
    generalize mA1 κ520 22 s.toNatClampNeg v515 = κ525 at *
    have lt531 : s.toInt < (κ525.1 19).toInt := by omega
    refine MC.mono (c_is (by omega) p530.ps) (fun r532 κ533 h534 => ?_) (fun _ h => h)
    obtain ⟨rfl, rfl⟩ := h534
    refine ⟨fun hB => ?_, fun hB => ?_⟩
    · skip
      refine MC.mono (c_is (by omega) p530.ps) (fun r535 κ536 h537 => ?_) (fun _ h => h)
      obtain ⟨rfl, rfl⟩ := h537
      refine ⟨fun hC => ?_, fun _ => MC.mono (c_unfit (by omega) p530.ps (fun _ h => hT _ (p530.1.1.tr h))) (fun _ _ h => h.elim) (fun _ h => h)⟩
      have hk5 : ¬ srt κ536 = 203 := by rw [is_t hC]; decide
      refine MC.mono (t_next (by omega) p530.ps (hk5) (fun _ h => hT _ (p530.1.1.tr h))) (fun v538 κ543 h539 => ?_) (fun _ h => h)
      obtain ⟨q540, m541, a542⟩ := h539
      have p544 : TR (-1) (0) 0 0 0 (-5) ν κ543 := p530.trS q540 (Or.inl (by decide)) rfl rfl rfl rfl (by omega)
      have nd545 := nd528.tr q540 (by have := @ic s; omega) (by omega)
      have lt546 : s.toInt < (κ543.1 19).toInt := by omega
      have x550 := p544.px
      have u551 := p544.2
      have y552 := tT p544
      have z553 := px0 p544.ps
      refine MC.mono (hY κ543 T h p544.ps (by omega) (by omega) (by omega) (fun _ h => hT _ (p544.1.1.tr h))) (fun r547 κ548 h549 => ?_) (fun _ h => h)
      obtain ⟨z556, z557, z558, z559, z560⟩ := h549
      have q554 : TR (-1) 0 0 0 0 0 κ543 κ548 := ⟨z556, by omega⟩
      have g555 := z559
      have l561 := q554.l19
      have l562 := q554.l32
      have p563 : TR (-1) (0) 0 0 0 (-5) ν κ548 := p544.trS q554 (Or.inl (by decide)) rfl rfl rfl rfl (by omega)
      have nd564 := nd545.tr q554 (by have := @ic s; omega) (by omega)
      have lt565 : s.toInt < (κ548.1 19).toInt := by omega
      have k566 : Kd κ548 h s.toInt s 0 r547 := Kd.of g555 (by omega) (Int.le_refl _) s0 (Or.inl (by omega))
      have g567 : TR s.toInt 0 0 0 0 0 κ548 (mA1 κ548 23 s.toNatClampNeg r547) := TR.put p563.ps s0 rfl rfl
      have e569 : ((mA1 κ548 23 s.toNatClampNeg r547).1 19).toInt = (κ548.1 19).toInt := rfl
      have e570 : ((mA1 κ548 23 s.toNatClampNeg r547).1 32).toInt = (κ548.1 32).toInt := rfl
      have sr572 : srt (mA1 κ548 23 s.toNatClampNeg r547) = srt κ548 := srt_off rfl
      have nd571 := nd564.pb (x := r547)
      have p573 : TR (-1) (0) 0 0 0 (-5) ν (mA1 κ548 23 s.toNatClampNeg r547) := p563.trS g567 (Or.inr (Or.inr (by omega))) rfl rfl rfl rfl (by omega)
      have k574 := k566.tr g567 (Or.inr rfl) s0
      refine ⟨TR.mi p563.ps rfl rfl s0 (by omega), ?_⟩
      generalize mA1 κ548 23 s.toNatClampNeg r547 = κ568 at *
      have lt575 : s.toInt < (κ568.1 19).toInt := by omega
      refine MC.mono (t_expect (by omega) p573.ps (by decide) (fun _ h => hT _ (p573.1.1.tr h))) (fun v576 κ581 h577 => ?_) (fun _ h => h)
      obtain ⟨q578, m579, a580⟩ := h577
      have p582 : TR (-1) (0) 0 0 0 (-7) ν κ581 := p573.trS q578 (Or.inl (by decide)) rfl rfl rfl rfl (by omega)
      have k583 := k574.tr q578 (Or.inl (by decide)) s0
      have nd584 := nd571.tr q578 (by have := @ic s; omega) (by omega)
      have lt585 : s.toInt < (κ581.1 19).toInt := by omega
      exact ⟨⟨p582.1, by have := p582.2; omega⟩, by omega, (G.mk (lo := s.toInt) s0 (Int.le_refl _) lt585 nd584 (by decide) True.intro (k583) True.intro True.intro True.intro : G κ581 (h + 1) (bt s.toInt (κ581.1 19).toInt) 4 s).up (Nat.le_refl _) (by omega) (Int.le_refl _), nd584.2.2.2.2.2.2⟩
    · skip
      have hk5 : ¬ srt κ533 = 203 := by rw [is_t hB]; decide
      have g586 : TR s.toInt 0 0 0 0 0 κ533 (mA1 κ533 20 s.toNatClampNeg 4) := TR.put p530.ps s0 rfl rfl
      have e588 : ((mA1 κ533 20 s.toNatClampNeg 4).1 19).toInt = (κ533.1 19).toInt := rfl
      have e589 : ((mA1 κ533 20 s.toNatClampNeg 4).1 32).toInt = (κ533.1 32).toInt := rfl
      have sr591 : srt (mA1 κ533 20 s.toNatClampNeg 4) = srt κ533 := srt_off rfl
      have nd590 := nd528.pk (x := 4)
      have p592 : TR (-1) (0) 0 0 0 (-3) ν (mA1 κ533 20 s.toNatClampNeg 4) := p530.trS g586 (Or.inr (Or.inr (by omega))) rfl rfl rfl rfl (by omega)
      refine ⟨TR.mi p530.ps rfl rfl s0 (by omega), ?_⟩
      generalize mA1 κ533 20 s.toNatClampNeg 4 = κ587 at *
      have lt593 : s.toInt < (κ587.1 19).toInt := by omega
      have hk6 : ¬ srt κ587 = 203 := by rw [sr591]; exact hk5
      refine MC.mono (t_next (by omega) p592.ps (hk6) (fun _ h => hT _ (p592.1.1.tr h))) (fun v594 κ599 h595 => ?_) (fun _ h => h)
      obtain ⟨q596, m597, a598⟩ := h595
      have p600 : TR (-1) (0) 0 0 0 (-5) ν κ599 := p592.trS q596 (Or.inl (by decide)) rfl rfl rfl rfl (by omega)
      have nd601 := nd590.tr q596 (by have := @ic s; omega) (by omega)
      have lt602 : s.toInt < (κ599.1 19).toInt := by omega
      have x606 := p600.px
      have u607 := p600.2
      have y608 := tT p600
      have z609 := px0 p600.ps
      refine MC.mono (hY κ599 T h p600.ps (by omega) (by omega) (by omega) (fun _ h => hT _ (p600.1.1.tr h))) (fun r603 κ604 h605 => ?_) (fun _ h => h)
      obtain ⟨z612, z613, z614, z615, z616⟩ := h605
      have q610 : TR (-1) 0 0 0 0 0 κ599 κ604 := ⟨z612, by omega⟩
      have g611 := z615
      have l617 := q610.l19
      have l618 := q610.l32
      have p619 : TR (-1) (0) 0 0 0 (-5) ν κ604 := p600.trS q610 (Or.inl (by decide)) rfl rfl rfl rfl (by omega)
      have nd620 := nd601.tr q610 (by have := @ic s; omega) (by omega)
      have lt621 : s.toInt < (κ604.1 19).toInt := by omega
      have k622 : Kd κ604 h s.toInt s 0 r603 := Kd.of g611 (by omega) (Int.le_refl _) s0 (Or.inl (by omega))
      have g623 : TR s.toInt 0 0 0 0 0 κ604 (mA1 κ604 23 s.toNatClampNeg r603) := TR.put p619.ps s0 rfl rfl
      have e625 : ((mA1 κ604 23 s.toNatClampNeg r603).1 19).toInt = (κ604.1 19).toInt := rfl
      have e626 : ((mA1 κ604 23 s.toNatClampNeg r603).1 32).toInt = (κ604.1 32).toInt := rfl
      have sr628 : srt (mA1 κ604 23 s.toNatClampNeg r603) = srt κ604 := srt_off rfl
      have nd627 := nd620.pb (x := r603)
      have p629 : TR (-1) (0) 0 0 0 (-5) ν (mA1 κ604 23 s.toNatClampNeg r603) := p619.trS g623 (Or.inr (Or.inr (by omega))) rfl rfl rfl rfl (by omega)
      have k630 := k622.tr g623 (Or.inr rfl) s0
      refine ⟨TR.mi p619.ps rfl rfl s0 (by omega), ?_⟩
      generalize mA1 κ604 23 s.toNatClampNeg r603 = κ624 at *
      have lt631 : s.toInt < (κ624.1 19).toInt := by omega
      refine MC.mono (t_expect (by omega) p629.ps (by decide) (fun _ h => hT _ (p629.1.1.tr h))) (fun v632 κ637 h633 => ?_) (fun _ h => h)
      obtain ⟨q634, m635, a636⟩ := h633
      have p638 : TR (-1) (0) 0 0 0 (-7) ν κ637 := p629.trS q634 (Or.inl (by decide)) rfl rfl rfl rfl (by omega)
      have k639 := k630.tr q634 (Or.inl (by decide)) s0
      have nd640 := nd627.tr q634 (by have := @ic s; omega) (by omega)
      have lt641 : s.toInt < (κ637.1 19).toInt := by omega
      exact ⟨⟨p638.1, by have := p638.2; omega⟩, by omega, (G.mk (lo := s.toInt) s0 (Int.le_refl _) lt641 nd640 (by decide) True.intro (k639) True.intro True.intro True.intro : G κ637 (h + 1) (bt s.toInt (κ637.1 19).toInt) 4 s).up (Nat.le_refl _) (by omega) (Int.le_refl _), nd640.2.2.2.2.2.2⟩
end PSL
