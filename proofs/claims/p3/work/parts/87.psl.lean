/-! contracts of the reference: declarations -/
theorem ND.p31 {μ : MS} {i : Nat} {k a b c d e n x : Int32} (h : ND μ i k a b c d e n) : ND (mA1 μ 31 i x) i k a b c d e n := h
theorem Ek.g {μ : MS} {k i : Int32} {lo hi : Int} {s h : Nat} (hE : Ek μ k lo hi i) (hk : sK s k = true) (hf : ∀ f, f < 5 → fW k.toNatClampNeg f = (0, 0)) : G μ (h + 1) (bt lo hi) s i := by
  obtain ⟨k1, k2, k3, k4, k5⟩ := hE
  have hc := @ic i
  refine ⟨k1, ⟨by omega, by omega⟩, by rw [k4]; exact hk, fun f hf' => ?_⟩
  rw [k4, hf f hf']
  exact True.intro
theorem NR.ls {μ μ1 : MS} {k r : Int32} {s h : Nat} (hR : NR k μ r μ1) (hk : sK s k = true) (hf : ∀ f, f < 5 → fW k.toNatClampNeg f = (0, 0)) : ∃ m, Lst (G μ1 (h + 1) (bt (μ.1 19).toInt (μ1.1 19).toInt) s) (μ1.2.1 27) m r := by
  obtain ⟨-, -, -, -, m, hm⟩ := hR
  exact ⟨m, hm.mono (fun y hy => hy.g hk hf) (fun _ _ => rfl)⟩
theorem G.dv {μ : MS} {h : Nat} {S : Nat → Prop} {i : Int32} (hG : G μ h S 19 i) : G μ h S 4 i := by
  cases h with
  | zero => exact hG.elim
  | succ h =>
    have h7 : ([7] : List Int32).contains (μ.2.1 20 i.toNatClampNeg) = true := hG.2.2.1
    have h7 : μ.2.1 20 i.toNatClampNeg = 7 := by simpa using h7
    exact ⟨hG.1, hG.2.1, by rw [h7]; decide, hG.2.2.2⟩
/-- a VAR's node is filled -/
def VarC (X : ev_X) (W : Nat → Prop) (P : MP) (d : Nat) : Prop := ∀ (μ : MS) (T : MS → Prop) (h : Nat) (s : Int32), PS μ → psS μ + 11 ≤ d → hiS μ + 1 ≤ h → (μ.1 19).toInt ≤ 2 * (μ.1 32).toInt + 31 → (∀ μ1, kf SPA RPA μ μ1 → T μ1) → 0 ≤ s.toInt → s.toInt + 1 = (μ.1 19).toInt → ¬ srt μ = 203 → ND μ s.toNatClampNeg 7 (-1) (-1) (-1) (-1) (-1) (-1) →
  MC X W true d 307 [.ref P.1, .int s] P μ (fun _ μ1 => TR s.toInt 0 0 0 0 (-2) μ μ1 ∧ G μ1 (h + 1) (bt s.toInt (μ1.1 19).toInt) 19 s ∧ μ1.2.1 27 s.toNatClampNeg = -1) T
/-- a PROCEDURE's node is filled -/
def PrC (X : ev_X) (W : Nat → Prop) (P : MP) (d : Nat) : Prop := ∀ (μ : MS) (T : MS → Prop) (h : Nat) (s x2 : Int32), PS μ → psS μ + 20 ≤ d → hiS μ + 12 ≤ h → (μ.1 19).toInt ≤ 2 * (μ.1 32).toInt + 31 → (∀ μ1, kf SPA RPA μ μ1 → T μ1) → 0 ≤ s.toInt → s.toInt + 1 = (μ.1 19).toInt → ¬ srt μ = 203 → ND μ s.toNatClampNeg 3 (-1) (-1) (-1) (-1) (-1) (-1) →
  MC X W true d 308 [.ref P.1, .int s, .int x2] P μ (fun _ μ1 => TR s.toInt 0 0 0 0 (-2) μ μ1 ∧ G μ1 (h + 1) (bt s.toInt (μ1.1 19).toInt) 4 s ∧ μ1.2.1 27 s.toNatClampNeg = -1) T
/-- a declaration -/
def DeC (X : ev_X) (W : Nat → Prop) (P : MP) (d : Nat) : Prop := ∀ (μ : MS) (T : MS → Prop) (h : Nat) (x1 : Int32), PS μ → psS μ + 21 ≤ d → hiS μ + 13 ≤ h → (μ.1 19).toInt ≤ 2 * (μ.1 32).toInt + 30 → (∀ μ1, kf SPA RPA μ μ1 → T μ1) → ¬ srt μ = 203 →
  MC X W true d 306 [.ref P.1, .int x1] P μ (fun r μ1 => XN 0 4 h μ r μ1) T
section PSL
variable {X : ev_X} {W : Nat → Prop} {d : Nat} {P : MP}
theorem t_endName {μ : MS} {T : MS → Prop} {x : Int32} (hd : 5 ≤ d) (hS : PS μ) (hT : ∀ μ1, kf SPA RPA μ μ1 → T μ1) : MC X W true d 303 [.ref P.1, .int x] P μ (fun _ μ1 => TR (-1) 0 0 0 0 (-2) μ μ1 ∧ (μ1.1 19).toInt = (μ.1 19).toInt ∧ (μ1.1 32).toInt = (μ.1 32).toInt + 1) T := by
  have at0 := hS.at
  refine me_meth (by omega) rfl (v_endName_0 _ (MC.mono (c_is (by omega) hS) (fun r ν hr => ?_) (fun _ h => h)))
  obtain ⟨rfl, rfl⟩ := hr
  refine ⟨fun h1 => ⟨MI.of (hS.1.g rfl rfl : _ = 6002) at0.1 at0.2, fun _ => t_next (by omega) hS (by rw [is_t h1]; decide) hT, fun _ => MC.mono (c_line (by omega) hS.1 at0.1 at0.2) (fun r3 ν3 h3 => ?_) (fun _ h => h)⟩, fun _ => MC.mono (c_unfit (by omega) hS hT) (fun _ _ h => h.elim) (fun _ h => h)⟩
  subst h3
  exact MC.mono (c_first (by omega) hT) (fun _ _ h => h.elim) (fun _ h => h)
theorem st_variables (hY : NodC X W P 312 0 9 0 d) : VarC X W P (d + 1) := fun μ T h s hS hd hh hn hT s0 s1 hs3 nd0 => by
  have hp := px0 hS
  have h0 := hS.2.2.2.2.1
  have at0 := hS.at
  have hcs := @ic s
  have p0 : TR s.toInt 0 0 0 0 0 μ μ := TR.rf hS
  have lt0 : s.toInt < (μ.1 19).toInt := by omega
  have s9 : s.toInt < 15990 := by omega
  refine me_meth (by omega) rfl (v_variables_0 _ ?_)
  refine MC.mono (t_next (by omega) p0.ps (hs3) (fun _ h => hT _ (p0.1.1.tr h))) (fun v1 κ6 h2 => ?_) (fun _ h => h)
  obtain ⟨q3, m4, a5⟩ := h2
  have p7 : TR (s.toInt) (0) 0 0 0 (-2) μ κ6 := p0.trS q3 (Or.inl (by decide)) rfl rfl rfl rfl (by omega)
  have nd8 := nd0.tr q3 (by have := @ic s; omega) (by omega)
  have lt9 : s.toInt < (κ6.1 19).toInt := by omega
  have x13 := p7.px
  have u14 := p7.2
  have y15 := tT p7
  have z16 := px0 p7.ps
  refine MC.mono (c_nameRow (by omega) p7.ps (by omega) (fun _ h => hT _ (p7.1.1.tr h))) (fun r10 κ11 h12 => ?_) (fun _ h => h)
  have g18 := NR.ls (s := 6) (h := 0) h12 (by decide) (by decide)
  have q17 : TR (-1) 0 0 0 0 0 κ6 κ11 := ⟨h12.1, by have := h12.2.1; omega⟩
  have ne19 : ¬ r10 = -1 := fun e => by have h1 := h12.2.2.2.1; have h2 := p7.ps.2.2.2.2.1; rw [← h1, e] at h2; exact absurd h2 (by decide)
  have l21 := q17.l19
  have p22 : TR (s.toInt) (0) 0 0 0 (-2) μ κ11 := p7.trS q17 (Or.inl (by decide)) rfl rfl rfl rfl (by omega)
  have nd23 := nd8.tr q17 (by have := @ic s; omega) (by omega)
  have lt24 : s.toInt < (κ11.1 19).toInt := by omega
  have k20 : KL κ11 h s.toInt s 6 r10 := (KL.of g18 (by omega) (Int.le_refl _) s0 (Or.inl (by omega))).up (by omega)
  have g25 : TR s.toInt 0 0 0 0 0 κ11 (mA1 κ11 22 s.toNatClampNeg r10) := TR.put p22.ps s0 rfl rfl
  have e27 : ((mA1 κ11 22 s.toNatClampNeg r10).1 19).toInt = (κ11.1 19).toInt := rfl
  have e28 : ((mA1 κ11 22 s.toNatClampNeg r10).1 32).toInt = (κ11.1 32).toInt := rfl
  have sr30 : srt (mA1 κ11 22 s.toNatClampNeg r10) = srt κ11 := rfl
  have nd29 := nd23.pa (x := r10)
  have p31 : TR (s.toInt) (0) 0 0 0 (-2) μ (mA1 κ11 22 s.toNatClampNeg r10) := p22.trS g25 (Or.inr (Or.inl rfl)) rfl rfl rfl rfl (by omega)
  have k32 := k20.tr g25 (Or.inr rfl) s0
  refine ⟨TR.mi p22.ps rfl rfl s0 (by omega), ?_⟩
  generalize mA1 κ11 22 s.toNatClampNeg r10 = κ26 at *
  have lt33 : s.toInt < (κ26.1 19).toInt := by omega
  refine MC.mono (t_expect (by omega) p31.ps (by decide) (fun _ h => hT _ (p31.1.1.tr h))) (fun v34 κ39 h35 => ?_) (fun _ h => h)
  obtain ⟨q36, m37, a38⟩ := h35
  have p40 : TR (s.toInt) (0) 0 0 0 (-4) μ κ39 := p31.trS q36 (Or.inl (by decide)) rfl rfl rfl rfl (by omega)
  have k41 := k32.tr q36 (Or.inl (by decide)) s0
  have nd42 := nd29.tr q36 (by have := @ic s; omega) (by omega)
  have lt43 : s.toInt < (κ39.1 19).toInt := by omega
  have x47 := p40.px
  have u48 := p40.2
  have y49 := tT p40
  have z50 := px0 p40.ps
  refine MC.mono (hY κ39 T h p40.ps (by omega) (by omega) (by omega) (fun _ h => hT _ (p40.1.1.tr h))) (fun r44 κ45 h46 => ?_) (fun _ h => h)
  obtain ⟨z53, z54, z55, z56, z57⟩ := h46
  have q51 : TR (-1) 0 0 0 0 0 κ39 κ45 := ⟨z53, by omega⟩
  have g52 := z56
  have l58 := q51.l19
  have p59 : TR (s.toInt) (0) 0 0 0 (-4) μ κ45 := p40.trS q51 (Or.inl (by decide)) rfl rfl rfl rfl (by omega)
  have k60 := k41.tr q51 (Or.inl (by decide)) s0
  have nd61 := nd42.tr q51 (by have := @ic s; omega) (by omega)
  have lt62 : s.toInt < (κ45.1 19).toInt := by omega
  have k63 : Kd κ45 h s.toInt s 0 r44 := Kd.of g52 (by omega) (Int.le_refl _) s0 (Or.inl (by omega))
  have g64 : TR s.toInt 0 0 0 0 0 κ45 (mA1 κ45 23 s.toNatClampNeg r44) := TR.put p59.ps s0 rfl rfl
  have e66 : ((mA1 κ45 23 s.toNatClampNeg r44).1 19).toInt = (κ45.1 19).toInt := rfl
  have e67 : ((mA1 κ45 23 s.toNatClampNeg r44).1 32).toInt = (κ45.1 32).toInt := rfl
  have sr69 : srt (mA1 κ45 23 s.toNatClampNeg r44) = srt κ45 := rfl
  have nd68 := nd61.pb (x := r44)
  have p70 : TR (s.toInt) (0) 0 0 0 (-4) μ (mA1 κ45 23 s.toNatClampNeg r44) := p59.trS g64 (Or.inr (Or.inl rfl)) rfl rfl rfl rfl (by omega)
  have k71 := k60.tr g64 (Or.inr rfl) s0
  have k72 := k63.tr g64 (Or.inr rfl) s0
  refine ⟨TR.mi p59.ps rfl rfl s0 (by omega), ?_⟩
  generalize mA1 κ45 23 s.toNatClampNeg r44 = κ65 at *
  have lt73 : s.toInt < (κ65.1 19).toInt := by omega
  exact ⟨⟨p70.1, by have := p70.2; omega⟩, G.mk s0 (Int.le_refl _) lt73 nd68 (by decide) (⟨ne19, k71⟩) (k72) True.intro True.intro True.intro, nd68.2.2.2.2.2.2⟩
theorem st_procedure (hG : NodC X W P 309 8 10 1 d) (hSt : SL X W P 321 [] 3 19 11 d) (hV : VarC X W P d) : PrC X W P (d + 1) := fun μ T h9 s x2 hS hd hh hn hT s0 s1 hs3 nd0 => by
  have hp := px0 hS
  have h0 := hS.2.2.2.2.1
  have at0 := hS.at
  have hcs := @ic s
  have p0 : TR s.toInt 0 0 0 0 0 μ μ := TR.rf hS
  have lt0 : s.toInt < (μ.1 19).toInt := by omega
  have s9 : s.toInt < 15990 := by omega
  obtain ⟨h, rfl⟩ : ∃ h, h9 = h + 1 := ⟨h9 - 1, by omega⟩
  have key : ∀ (j : Nat) (n0 : Int) (nm sg f x4 : Int32) (ν : MS), s.toInt < n0 → n0 ≤ (ν.1 19).toInt → ((μ.1 8).toInt - (ν.1 32).toInt).toNat < j → TR s.toInt 0 0 0 0 0 μ ν → s.toInt < (ν.1 19).toInt → ND ν s.toNatClampNeg 9 nm sg (-1) (-1) (-1) (-1) → G ν h (bt (s.toInt + 1) n0) 8 sg → OL 19 (h + 1) n0 ν f x4 →
      ME X W true d 308 58 [(0, .ref P.1), (1, .int s), (2, .int x2), (3, .int f), (4, .int x4)] [] P ν (fun _ μ1 => TR s.toInt 0 0 0 0 (-2) μ μ1 ∧ G μ1 (h + 1 + 1) (bt s.toInt (μ1.1 19).toInt) 4 s ∧ μ1.2.1 27 s.toNatClampNeg = -1) T := by
    intro j
    induction j with
    | zero => intro n0 nm sg f x4 ν hn1 hn2 hj; omega
    | succ j ih =>
      intro n0 nm sg f x4 ν hn1 hn2 hj pν ltν ndν gν hO
      have e8 := eq_i (pν.1.1.1 8 rfl)
      have t8 := pν.ps.2.2.1.2
      have at1 := pν.ps.at
      have uν := pν.2
      have xν := pν.px
      refine v_procedure_58 _ _ _ _ ?_
      have kν : Kd ν h s.toInt s 8 sg := Kd.of gν (by omega) hn2 s0 (Or.inl (by omega))
      have kO : KL ν (h + 1) s.toInt s 19 f := KL.of hO.lst (by omega) (Int.le_refl _) s0 (Or.inl (by omega))
      refine MC.mono (c_is (by omega) pν.ps) (fun r74 κ75 h76 => ?_) (fun _ h => h)
      obtain ⟨rfl, rfl⟩ := h76
      refine ⟨fun _ => ?_, fun hw => ?_⟩
      · skip
        have g77 : TR s.toInt 0 0 0 0 0 κ75 (mA1 κ75 24 s.toNatClampNeg f) := TR.put pν.ps s0 rfl rfl
        have e79 : ((mA1 κ75 24 s.toNatClampNeg f).1 19).toInt = (κ75.1 19).toInt := rfl
        have e80 : ((mA1 κ75 24 s.toNatClampNeg f).1 32).toInt = (κ75.1 32).toInt := rfl
        have sr82 : srt (mA1 κ75 24 s.toNatClampNeg f) = srt κ75 := rfl
        have nd81 := ndν.pc (x := f)
        have p83 : TR (s.toInt) (0) 0 0 0 (0) μ (mA1 κ75 24 s.toNatClampNeg f) := pν.trS g77 (Or.inr (Or.inl rfl)) rfl rfl rfl rfl (by omega)
        have k84 := kν.tr g77 (Or.inr rfl) s0
        have k85 := kO.tr g77 (Or.inr rfl) s0
        refine ⟨TR.mi pν.ps rfl rfl s0 (by omega), ?_⟩
        generalize mA1 κ75 24 s.toNatClampNeg f = κ78 at *
        have lt86 : s.toInt < (κ78.1 19).toInt := by omega
        refine MC.mono (t_expect (by omega) p83.ps (by decide) (fun _ h => hT _ (p83.1.1.tr h))) (fun v87 κ92 h88 => ?_) (fun _ h => h)
        obtain ⟨q89, m90, a91⟩ := h88
        have p93 : TR (s.toInt) (0) 0 0 0 (-2) μ κ92 := p83.trS q89 (Or.inl (by decide)) rfl rfl rfl rfl (by omega)
        have k94 := k84.tr q89 (Or.inl (by decide)) s0
        have k95 := k85.tr q89 (Or.inl (by decide)) s0
        have nd96 := nd81.tr q89 (by have := @ic s; omega) (by omega)
        have lt97 : s.toInt < (κ92.1 19).toInt := by omega
        have x101 := p93.px
        have u102 := p93.2
        have y103 := tT p93
        have z104 := px0 p93.ps
        refine MC.mono (hSt κ92 T h p93.ps (by omega) (by omega) (by omega) (fun _ h => hT _ (p93.1.1.tr h))) (fun r98 κ99 h100 => ?_) (fun _ h => h)
        obtain ⟨q105, g106⟩ := h100
        have l107 := q105.l19
        have p108 : TR (s.toInt) (0) 0 0 0 (-2) μ κ99 := p93.trS q105 (Or.inl (by decide)) rfl rfl rfl rfl (by omega)
        have k109 := k94.tr q105 (Or.inl (by decide)) s0
        have k110 := k95.tr q105 (Or.inl (by decide)) s0
        have nd111 := nd96.tr q105 (by have := @ic s; omega) (by omega)
        have lt112 : s.toInt < (κ99.1 19).toInt := by omega
        have k113 : KL κ99 h s.toInt s 3 r98 := KL.of g106 (by omega) (Int.le_refl _) s0 (Or.inl (by omega))
        have g114 : TR s.toInt 0 0 0 0 0 κ99 (mA1 κ99 25 s.toNatClampNeg r98) := TR.put p108.ps s0 rfl rfl
        have e116 : ((mA1 κ99 25 s.toNatClampNeg r98).1 19).toInt = (κ99.1 19).toInt := rfl
        have e117 : ((mA1 κ99 25 s.toNatClampNeg r98).1 32).toInt = (κ99.1 32).toInt := rfl
        have sr119 : srt (mA1 κ99 25 s.toNatClampNeg r98) = srt κ99 := rfl
        have nd118 := nd111.pd (x := r98)
        have p120 : TR (s.toInt) (0) 0 0 0 (-2) μ (mA1 κ99 25 s.toNatClampNeg r98) := p108.trS g114 (Or.inr (Or.inl rfl)) rfl rfl rfl rfl (by omega)
        have k121 := k109.tr g114 (Or.inr rfl) s0
        have k122 := k110.tr g114 (Or.inr rfl) s0
        have k123 := k113.tr g114 (Or.inr rfl) s0
        refine ⟨TR.mi p108.ps rfl rfl s0 (by omega), ?_⟩
        generalize mA1 κ99 25 s.toNatClampNeg r98 = κ115 at *
        have lt124 : s.toInt < (κ115.1 19).toInt := by omega
        refine MC.mono (c_line (by omega) p120.ps.1 p120.ps.at.1 p120.ps.at.2) (fun r125 κ126 h127 => ?_) (fun _ h => h)
        subst h127
        have g128 : TR s.toInt 0 0 0 0 0 κ126 (mA1 κ126 26 s.toNatClampNeg r125) := TR.put p120.ps s0 rfl rfl
        have e130 : ((mA1 κ126 26 s.toNatClampNeg r125).1 19).toInt = (κ126.1 19).toInt := rfl
        have e131 : ((mA1 κ126 26 s.toNatClampNeg r125).1 32).toInt = (κ126.1 32).toInt := rfl
        have sr133 : srt (mA1 κ126 26 s.toNatClampNeg r125) = srt κ126 := rfl
        have nd132 := nd118.pe (x := r125)
        have p134 : TR (s.toInt) (0) 0 0 0 (-2) μ (mA1 κ126 26 s.toNatClampNeg r125) := p120.trS g128 (Or.inr (Or.inl rfl)) rfl rfl rfl rfl (by omega)
        have k135 := k121.tr g128 (Or.inr rfl) s0
        have k136 := k122.tr g128 (Or.inr rfl) s0
        have k137 := k123.tr g128 (Or.inr rfl) s0
        refine ⟨TR.mi p120.ps rfl rfl s0 (by omega), ?_⟩
        generalize mA1 κ126 26 s.toNatClampNeg r125 = κ129 at *
        have lt138 : s.toInt < (κ129.1 19).toInt := by omega
        refine MC.mono (t_expect (by omega) p134.ps (by decide) (fun _ h => hT _ (p134.1.1.tr h))) (fun v139 κ144 h140 => ?_) (fun _ h => h)
        obtain ⟨q141, m142, a143⟩ := h140
        have p145 : TR (s.toInt) (0) 0 0 0 (-4) μ κ144 := p134.trS q141 (Or.inl (by decide)) rfl rfl rfl rfl (by omega)
        have k146 := k135.tr q141 (Or.inl (by decide)) s0
        have k147 := k136.tr q141 (Or.inl (by decide)) s0
        have k148 := k137.tr q141 (Or.inl (by decide)) s0
        have nd149 := nd132.tr q141 (by have := @ic s; omega) (by omega)
        have lt150 : s.toInt < (κ144.1 19).toInt := by omega
        refine ⟨TR.mi p145.ps rfl rfl s0 (by omega), ?_⟩
        refine MC.mono (t_endName (by omega) p145.ps (fun _ h => hT _ (p145.1.1.tr h))) (fun v151 κ156 h152 => ?_) (fun _ h => h)
        obtain ⟨q153, m154, a155⟩ := h152
        have p157 : TR (s.toInt) (0) 0 0 0 (-6) μ κ156 := p145.trS q153 (Or.inl (by decide)) rfl rfl rfl rfl (by omega)
        have k158 := k146.tr q153 (Or.inl (by decide)) s0
        have k159 := k147.tr q153 (Or.inl (by decide)) s0
        have k160 := k148.tr q153 (Or.inl (by decide)) s0
        have nd161 := nd149.tr q153 (by have := @ic s; omega) (by omega)
        have lt162 : s.toInt < (κ156.1 19).toInt := by omega
        exact ⟨⟨p157.1, by have := p157.2; omega⟩, G.mk s0 (Int.le_refl _) lt162 nd161 (by decide) True.intro (Kd.up k158 (Nat.le_succ _)) (k159) (KL.up k160 (Nat.le_succ _)) True.intro, nd161.2.2.2.2.2.2⟩
      · skip
        have hw3 : ¬ srt κ75 = 203 := by rw [is_t hw]; decide
        refine MC.mono (c_line (by omega) pν.ps.1 at1.1 at1.2) (fun r7 ν7 h7 => ?_) (fun _ h => h)
        subst h7
        have g7 : TR (-1) 0 0 0 0 0 ν7 (mS1 ν7 34 r7) := TR.s34 pν.ps
        have p7 : TR s.toInt 0 0 0 0 0 μ (mS1 ν7 34 r7) := pν.trS g7 (Or.inl (by decide)) rfl rfl rfl rfl (by omega)
        have e19 : ((mS1 ν7 34 r7).1 19).toInt = (ν7.1 19).toInt := rfl
        have e32 : ((mS1 ν7 34 r7).1 32).toInt = (ν7.1 32).toInt := rfl
        have w7 : ¬ srt (mS1 ν7 34 r7) = 203 := hw3
        refine MC.mono (t_node (by omega) p7.ps (by omega)) (fun l ν8 h8 => ?_) (fun _ h => h)
        obtain ⟨q1, ⟨q2, l0⟩, q3, q4, q5, q6⟩ := h8
        have g8 := g7.tr q1 (Or.inl (by decide)) rfl rfl rfl rfl (Int.le_refl _)
        have p8 : TR s.toInt 0 0 0 0 1 μ ν8 := p7.trS q1 (Or.inl (by decide)) rfl rfl rfl rfl (by omega)
        have x8 := p8.px
        have u8 := p8.2
        have z8 := px0 p8.ps
        refine MC.mono (hV ν8 T h l p8.ps (by omega) (by omega) (by omega) (fun _ h => hT _ (p8.1.1.tr h)) l0 (by omega) (by rw [q5]; exact w7) q6) (fun _ ν9 h9 => ?_) (fun _ h => h)
        obtain ⟨v1, v2, v3⟩ := h9
        have l9 := v1.l19
        have hcl := @ic l
        have g9 : TR (-1) 0 0 0 0 0 ν7 ν9 := g8.tr v1 (Or.inr (by omega)) rfl rfl rfl rfl (by omega)
        have p9 : TR s.toInt 0 0 0 0 0 μ ν9 := p8.trS v1 (Or.inr (Or.inr (by omega))) rfl rfl rfl rfl (by omega)
        refine MC.mono (t_expect (by omega) p9.ps (by decide) (fun _ h => hT _ (p9.1.1.tr h))) (fun _ ν10 h10 => ?_) (fun _ h => h)
        obtain ⟨m1, m2, m3⟩ := h10
        have g10 : TR (-1) 0 0 0 0 0 ν7 ν10 := g9.tr m1 (Or.inl (by decide)) rfl rfl rfl rfl (by omega)
        have p10 : TR s.toInt 0 0 0 0 0 μ ν10 := p9.trS m1 (Or.inl (by decide)) rfl rfl rfl rfl (by omega)
        have eG : G ν10 (h + 1) (bt (ν7.1 19).toInt (ν10.1 19).toInt) 19 l := (v2.tr m1 (Int.le_refl _) (Or.inl (by omega))).up (Nat.le_refl _) (by omega) (by omega)
        have n10 : ν10.2.1 27 l.toNatClampNeg = -1 := by rw [m1.rb 27 (by omega) (by omega) _ (by omega) (by omega)]; exact v3
        have u10 := p10.2
        have at10 := p10.ps.at
        have nd10 := ndν.tr g10 (by omega) (by omega)
        have k10 := gν.tr g10 hn2 (Or.inl (by omega))
        have l9' := v1.l32
        refine ⟨fun hx1 => ?_, fun hx1 => ?_⟩
        · rcases hO.sg with ⟨w1, -⟩ | ⟨w1, w2⟩
          · rw [w1] at hx1; exact absurd hx1 (by decide)
          obtain ⟨j1, j2, j3⟩ := hO.in w2
          have hc2 := @ic x4
          have g11 : TR x4.toInt 0 0 0 0 0 ν10 (mA1 ν10 27 x4.toNatClampNeg l) := TR.put p10.ps w2 rfl rfl
          exact ⟨TR.mi p10.ps rfl rfl w2 (by omega), ih n0 nm sg f l _ hn1 (by show _ ≤ (ν10.1 19).toInt; omega) (by show ((μ.1 8).toInt - (ν10.1 32).toInt).toNat < j; omega) (p10.trS g11 (Or.inr (Or.inr (by omega))) rfl rfl rfl rfl (by omega)) (by show _ < (ν10.1 19).toInt; omega) (nd10.off (by omega)) (k10.put (Or.inr (by omega))) (hO.add w2 g10 (by omega) eG n10)⟩
        · have hf : f = -1 := by
            rcases hO.sg with ⟨w1, -⟩ | ⟨w1, -⟩
            · exact w1
            · omega
          exact ih n0 nm sg l l _ hn1 (by omega) (by omega) p10 (by omega) nd10 k10 (OL.one (eG.up (Nat.le_refl _) (by omega) (Int.le_refl _)) (by omega) n10)
  refine me_meth (by omega) rfl (v_procedure_0 _ _ ?_)
  have g163 : TR s.toInt 0 0 0 0 0 μ (mA1 μ 20 s.toNatClampNeg 9) := TR.put p0.ps s0 rfl rfl
  have e165 : ((mA1 μ 20 s.toNatClampNeg 9).1 19).toInt = (μ.1 19).toInt := rfl
  have e166 : ((mA1 μ 20 s.toNatClampNeg 9).1 32).toInt = (μ.1 32).toInt := rfl
  have sr168 : srt (mA1 μ 20 s.toNatClampNeg 9) = srt μ := rfl
  have nd167 := nd0.pk (x := 9)
  have p169 : TR (s.toInt) (0) 0 0 0 (0) μ (mA1 μ 20 s.toNatClampNeg 9) := p0.trS g163 (Or.inr (Or.inl rfl)) rfl rfl rfl rfl (by omega)
  refine ⟨TR.mi p0.ps rfl rfl s0 (by omega), ?_⟩
  generalize mA1 μ 20 s.toNatClampNeg 9 = κ164 at *
  have lt170 : s.toInt < (κ164.1 19).toInt := by omega
  have hs4 : ¬ srt κ164 = 203 := by rw [sr168]; exact hs3
  refine MC.mono (t_next (by omega) p169.ps (hs4) (fun _ h => hT _ (p169.1.1.tr h))) (fun v171 κ176 h172 => ?_) (fun _ h => h)
  obtain ⟨q173, m174, a175⟩ := h172
  have p177 : TR (s.toInt) (0) 0 0 0 (-2) μ κ176 := p169.trS q173 (Or.inl (by decide)) rfl rfl rfl rfl (by omega)
  have nd178 := nd167.tr q173 (by have := @ic s; omega) (by omega)
  have lt179 : s.toInt < (κ176.1 19).toInt := by omega
  refine MC.mono (c_line (by omega) p177.ps.1 p177.ps.at.1 p177.ps.at.2) (fun r180 κ181 h182 => ?_) (fun _ h => h)
  subst h182
  have g183 : TR s.toInt 0 0 0 0 0 κ181 (mA1 κ181 31 s.toNatClampNeg r180) := TR.put p177.ps s0 rfl rfl
  have e185 : ((mA1 κ181 31 s.toNatClampNeg r180).1 19).toInt = (κ181.1 19).toInt := rfl
  have e186 : ((mA1 κ181 31 s.toNatClampNeg r180).1 32).toInt = (κ181.1 32).toInt := rfl
  have sr188 : srt (mA1 κ181 31 s.toNatClampNeg r180) = srt κ181 := rfl
  have nd187 := nd178.p31 (x := r180)
  have p189 : TR (s.toInt) (0) 0 0 0 (-2) μ (mA1 κ181 31 s.toNatClampNeg r180) := p177.trS g183 (Or.inr (Or.inl rfl)) rfl rfl rfl rfl (by omega)
  refine ⟨TR.mi p177.ps rfl rfl s0 (by omega), ?_⟩
  generalize mA1 κ181 31 s.toNatClampNeg r180 = κ184 at *
  have lt190 : s.toInt < (κ184.1 19).toInt := by omega
  refine MC.mono (t_name (by omega) p189.ps (fun _ h => hT _ (p189.1.1.tr h))) (fun v191 κ196 h192 => ?_) (fun _ h => h)
  obtain ⟨q193, m194, a195⟩ := h192
  have p197 : TR (s.toInt) (0) 0 0 0 (-4) μ κ196 := p189.trS q193 (Or.inl (by decide)) rfl rfl rfl rfl (by omega)
  have nd198 := nd187.tr q193 (by have := @ic s; omega) (by omega)
  have lt199 : s.toInt < (κ196.1 19).toInt := by omega
  have g200 : TR s.toInt 0 0 0 0 0 κ196 (mA1 κ196 22 s.toNatClampNeg v191) := TR.put p197.ps s0 rfl rfl
  have e202 : ((mA1 κ196 22 s.toNatClampNeg v191).1 19).toInt = (κ196.1 19).toInt := rfl
  have e203 : ((mA1 κ196 22 s.toNatClampNeg v191).1 32).toInt = (κ196.1 32).toInt := rfl
  have sr205 : srt (mA1 κ196 22 s.toNatClampNeg v191) = srt κ196 := rfl
  have nd204 := nd198.pa (x := v191)
  have p206 : TR (s.toInt) (0) 0 0 0 (-4) μ (mA1 κ196 22 s.toNatClampNeg v191) := p197.trS g200 (Or.inr (Or.inl rfl)) rfl rfl rfl rfl (by omega)
  refine ⟨TR.mi p197.ps rfl rfl s0 (by omega), ?_⟩
  generalize mA1 κ196 22 s.toNatClampNeg v191 = κ201 at *
  have lt207 : s.toInt < (κ201.1 19).toInt := by omega
  have x211 := p206.px
  have u212 := p206.2
  have y213 := tT p206
  have z214 := px0 p206.ps
  refine MC.mono (hG κ201 T h p206.ps (by omega) (by omega) (by omega) (fun _ h => hT _ (p206.1.1.tr h))) (fun r208 κ209 h210 => ?_) (fun _ h => h)
  obtain ⟨z217, z218, z219, z220, z221⟩ := h210
  have q215 : TR (-1) 0 0 0 0 0 κ201 κ209 := ⟨z217, by omega⟩
  have g216 := z220
  have l222 := q215.l19
  have p223 : TR (s.toInt) (0) 0 0 0 (-4) μ κ209 := p206.trS q215 (Or.inl (by decide)) rfl rfl rfl rfl (by omega)
  have nd224 := nd204.tr q215 (by have := @ic s; omega) (by omega)
  have lt225 : s.toInt < (κ209.1 19).toInt := by omega
  have k226 : Kd κ209 h s.toInt s 8 r208 := Kd.of g216 (by omega) (Int.le_refl _) s0 (Or.inl (by omega))
  have nS : (κ209.1 19).toInt ≤ (κ209.1 19).toInt := Int.le_refl _
  have n0e : ∃ n0 : Int, n0 = (κ209.1 19).toInt := ⟨_, rfl⟩
  obtain ⟨n0, n0e⟩ := n0e
  have ltS : s.toInt < n0 := by omega
  have g227 : TR s.toInt 0 0 0 0 0 κ209 (mA1 κ209 23 s.toNatClampNeg r208) := TR.put p223.ps s0 rfl rfl
  have e229 : ((mA1 κ209 23 s.toNatClampNeg r208).1 19).toInt = (κ209.1 19).toInt := rfl
  have e230 : ((mA1 κ209 23 s.toNatClampNeg r208).1 32).toInt = (κ209.1 32).toInt := rfl
  have sr232 : srt (mA1 κ209 23 s.toNatClampNeg r208) = srt κ209 := rfl
  have nd231 := nd224.pb (x := r208)
  have p233 : TR (s.toInt) (0) 0 0 0 (-4) μ (mA1 κ209 23 s.toNatClampNeg r208) := p223.trS g227 (Or.inr (Or.inl rfl)) rfl rfl rfl rfl (by omega)
  have k234 := k226.tr g227 (Or.inr rfl) s0
  have gg235 := g216.tr g227 (by omega) (Or.inl (by omega))
  refine ⟨TR.mi p223.ps rfl rfl s0 (by omega), ?_⟩
  generalize mA1 κ209 23 s.toNatClampNeg r208 = κ228 at *
  have lt236 : s.toInt < (κ228.1 19).toInt := by omega
  refine ⟨fun _ => ?_, fun _ => ?_⟩
  · skip
    refine MC.mono (t_expect (by omega) p233.ps (by decide) (fun _ h => hT _ (p233.1.1.tr h))) (fun v237 κ242 h238 => ?_) (fun _ h => h)
    obtain ⟨q239, m240, a241⟩ := h238
    have p243 : TR (s.toInt) (0) 0 0 0 (-6) μ κ242 := p233.trS q239 (Or.inl (by decide)) rfl rfl rfl rfl (by omega)
    have k244 := k234.tr q239 (Or.inl (by decide)) s0
    have gg245 := gg235.tr q239 (by omega) (Or.inl (by omega))
    have nd246 := nd231.tr q239 (by have := @ic s; omega) (by omega)
    have lt247 : s.toInt < (κ242.1 19).toInt := by omega
    exact key _ n0 _ _ (-1) (-1) _ ltS (by omega) (Nat.lt_succ_self _) ⟨p243.1, by have := p243.2; omega⟩ lt247 nd246 (gg245.up (Nat.le_refl _) (by omega) (by omega)) OL.nil
  · skip
    exact ⟨⟨p233.1, by have := p233.2; omega⟩, G.mk s0 (Int.le_refl _) lt236 nd231 (by decide) True.intro (Kd.up k234 (Nat.le_succ _)) KL.nil KL.nil True.intro, nd231.2.2.2.2.2.2⟩
theorem st_declaration (hY : NodC X W P 312 0 9 0 d) (hL : NodC X W P 313 21 14 3 d) (hV : VarC X W P d) (hPr : PrC X W P d) : DeC X W P (d + 1) := fun μ T h9 x1 hS hd hh hn hT hs3 => by
  have hp := px0 hS
  have h0 := hS.2.2.2.2.1
  have at0 := hS.at
  obtain ⟨h, rfl⟩ : ∃ h, h9 = h + 1 := ⟨h9 - 1, by omega⟩
  refine me_meth (by omega) rfl (v_declaration_0 _ (MC.mono (c_line (by omega) hS.1 hS.at.1 hS.at.2) (fun r1 ν h1 => ?_) (fun _ h => h)))
  subst h1
  have g1 : TR (-1) 0 0 0 0 0 ν (mS1 ν 34 r1) := TR.s34 hS
  have e19 : ((mS1 ν 34 r1).1 19).toInt = (ν.1 19).toInt := rfl
  have e32 : ((mS1 ν 34 r1).1 32).toInt = (ν.1 32).toInt := rfl
  refine MC.mono (t_node (by omega) g1.ps (by omega)) (fun s κ hk => ?_) (fun _ h => h)
  obtain ⟨q1, ⟨q2, s0⟩, q3, q4, q5, nd0⟩ := hk
  have hcs := @ic s
  have s9 : s.toInt < 15990 := by omega
  have p0 : TR (-1) 0 0 0 0 1 ν κ := g1.tr q1 (Or.inl (by decide)) rfl rfl rfl rfl (by omega)
  have lt0 : s.toInt < (κ.1 19).toInt := by omega
  have hk3 : ¬ srt κ = 203 := by rw [q5]; exact hs3
  have xκ := p0.px
  have zκ := px0 p0.ps
  have uκ := p0.2
  refine MC.mono (c_is (by omega) p0.ps) (fun r248 κ249 h250 => ?_) (fun _ h => h)
  obtain ⟨rfl, rfl⟩ := h250
  refine ⟨fun hA => ?_, fun hA => ?_⟩
  · skip
    refine MC.mono (c_is (by omega) p0.ps) (fun r251 κ252 h253 => ?_) (fun _ h => h)
    obtain ⟨rfl, rfl⟩ := h253
    refine ⟨fun hB => ?_, fun hB => ?_⟩
    · skip
      refine MC.mono (c_is (by omega) p0.ps) (fun r254 κ255 h256 => ?_) (fun _ h => h)
      obtain ⟨rfl, rfl⟩ := h256
      refine ⟨fun hC => ?_, fun hC => ?_⟩
      · skip
        refine MC.mono (c_is (by omega) p0.ps) (fun r257 κ258 h259 => ?_) (fun _ h => h)
        obtain ⟨rfl, rfl⟩ := h259
        refine ⟨fun hD => ?_, fun hD => ?_⟩
        · skip
          refine MC.mono (hPr κ258 T h s x1 p0.ps (by omega) (by omega) (by omega) (fun _ h => hT _ (p0.1.1.tr h)) s0 (by omega) hk3 nd0) (fun _ ζ hz => ?_) (fun _ h => h)
          obtain ⟨z1, z2, z3⟩ := hz
          have lz := z1.l19
          have pz : TR (-1) 0 0 0 0 0 ν ζ := p0.tr z1 (Or.inr (by omega)) rfl rfl rfl rfl (by omega)
          refine MC.mono (t_expect (by omega) pz.ps (by decide) (fun _ h => hT _ (pz.1.1.tr h))) (fun _ η hη => ?_) (fun _ h => h)
          obtain ⟨m1, m2, m3⟩ := hη
          have lz2 := z1.l32
          exact ⟨pz.tr m1 (Or.inl (by decide)) rfl rfl rfl rfl (by omega), by omega, ((z2).tr m1 (Int.le_refl _) (Or.inl (by omega))).up (Nat.le_refl _) (by omega) (by omega), by rw [m1.rb 27 (by omega) (by omega) _ (by omega) (by omega)]; exact z3⟩
        · skip
          have g260 : TR s.toInt 0 0 0 0 0 κ258 (mA1 κ258 20 s.toNatClampNeg 8) := TR.put p0.ps s0 rfl rfl
          have e262 : ((mA1 κ258 20 s.toNatClampNeg 8).1 19).toInt = (κ258.1 19).toInt := rfl
          have e263 : ((mA1 κ258 20 s.toNatClampNeg 8).1 32).toInt = (κ258.1 32).toInt := rfl
          have sr265 : srt (mA1 κ258 20 s.toNatClampNeg 8) = srt κ258 := rfl
          have nd264 := nd0.pk (x := 8)
          have p266 : TR (-1) (0) 0 0 0 (1) ν (mA1 κ258 20 s.toNatClampNeg 8) := p0.trS g260 (Or.inr (Or.inr (by omega))) rfl rfl rfl rfl (by omega)
          refine ⟨TR.mi p0.ps rfl rfl s0 (by omega), ?_⟩
          generalize mA1 κ258 20 s.toNatClampNeg 8 = κ261 at *
          have lt267 : s.toInt < (κ261.1 19).toInt := by omega
          have hk4 : ¬ srt κ261 = 203 := by rw [sr265]; exact hk3
          refine MC.mono (t_next (by omega) p266.ps (hk4) (fun _ h => hT _ (p266.1.1.tr h))) (fun v268 κ273 h269 => ?_) (fun _ h => h)
          obtain ⟨q270, m271, a272⟩ := h269
          have p274 : TR (-1) (0) 0 0 0 (-1) ν κ273 := p266.trS q270 (Or.inl (by decide)) rfl rfl rfl rfl (by omega)
          have nd275 := nd264.tr q270 (by have := @ic s; omega) (by omega)
          have lt276 : s.toInt < (κ273.1 19).toInt := by omega
          refine MC.mono (c_line (by omega) p274.ps.1 p274.ps.at.1 p274.ps.at.2) (fun r277 κ278 h279 => ?_) (fun _ h => h)
          subst h279
          have g280 : TR s.toInt 0 0 0 0 0 κ278 (mA1 κ278 31 s.toNatClampNeg r277) := TR.put p274.ps s0 rfl rfl
          have e282 : ((mA1 κ278 31 s.toNatClampNeg r277).1 19).toInt = (κ278.1 19).toInt := rfl
          have e283 : ((mA1 κ278 31 s.toNatClampNeg r277).1 32).toInt = (κ278.1 32).toInt := rfl
          have sr285 : srt (mA1 κ278 31 s.toNatClampNeg r277) = srt κ278 := rfl
          have nd284 := nd275.p31 (x := r277)
          have p286 : TR (-1) (0) 0 0 0 (-1) ν (mA1 κ278 31 s.toNatClampNeg r277) := p274.trS g280 (Or.inr (Or.inr (by omega))) rfl rfl rfl rfl (by omega)
          refine ⟨TR.mi p274.ps rfl rfl s0 (by omega), ?_⟩
          generalize mA1 κ278 31 s.toNatClampNeg r277 = κ281 at *
          have lt287 : s.toInt < (κ281.1 19).toInt := by omega
          refine MC.mono (t_name (by omega) p286.ps (fun _ h => hT _ (p286.1.1.tr h))) (fun v288 κ293 h289 => ?_) (fun _ h => h)
          obtain ⟨q290, m291, a292⟩ := h289
          have p294 : TR (-1) (0) 0 0 0 (-3) ν κ293 := p286.trS q290 (Or.inl (by decide)) rfl rfl rfl rfl (by omega)
          have nd295 := nd284.tr q290 (by have := @ic s; omega) (by omega)
          have lt296 : s.toInt < (κ293.1 19).toInt := by omega
          have g297 : TR s.toInt 0 0 0 0 0 κ293 (mA1 κ293 22 s.toNatClampNeg v288) := TR.put p294.ps s0 rfl rfl
          have e299 : ((mA1 κ293 22 s.toNatClampNeg v288).1 19).toInt = (κ293.1 19).toInt := rfl
          have e300 : ((mA1 κ293 22 s.toNatClampNeg v288).1 32).toInt = (κ293.1 32).toInt := rfl
          have sr302 : srt (mA1 κ293 22 s.toNatClampNeg v288) = srt κ293 := rfl
          have nd301 := nd295.pa (x := v288)
          have p303 : TR (-1) (0) 0 0 0 (-3) ν (mA1 κ293 22 s.toNatClampNeg v288) := p294.trS g297 (Or.inr (Or.inr (by omega))) rfl rfl rfl rfl (by omega)
          refine ⟨TR.mi p294.ps rfl rfl s0 (by omega), ?_⟩
          generalize mA1 κ293 22 s.toNatClampNeg v288 = κ298 at *
          have lt304 : s.toInt < (κ298.1 19).toInt := by omega
          refine MC.mono (t_expect (by omega) p303.ps (by decide) (fun _ h => hT _ (p303.1.1.tr h))) (fun v305 κ310 h306 => ?_) (fun _ h => h)
          obtain ⟨q307, m308, a309⟩ := h306
          have p311 : TR (-1) (0) 0 0 0 (-5) ν κ310 := p303.trS q307 (Or.inl (by decide)) rfl rfl rfl rfl (by omega)
          have nd312 := nd301.tr q307 (by have := @ic s; omega) (by omega)
          have lt313 : s.toInt < (κ310.1 19).toInt := by omega
          exact ⟨⟨p311.1, by have := p311.2; omega⟩, by omega, (G.mk (lo := s.toInt) s0 (Int.le_refl _) lt313 nd312 (by decide) True.intro True.intro True.intro True.intro True.intro : G κ310 (h + 1) (bt s.toInt (κ310.1 19).toInt) 4 s).up (Nat.le_refl _) (by omega) (Int.le_refl _), nd312.2.2.2.2.2.2⟩
      · skip
        have g314 : TR s.toInt 0 0 0 0 0 κ255 (mA1 κ255 20 s.toNatClampNeg 7) := TR.put p0.ps s0 rfl rfl
        have e316 : ((mA1 κ255 20 s.toNatClampNeg 7).1 19).toInt = (κ255.1 19).toInt := rfl
        have e317 : ((mA1 κ255 20 s.toNatClampNeg 7).1 32).toInt = (κ255.1 32).toInt := rfl
        have sr319 : srt (mA1 κ255 20 s.toNatClampNeg 7) = srt κ255 := rfl
        have nd318 := nd0.pk (x := 7)
        have p320 : TR (-1) (0) 0 0 0 (1) ν (mA1 κ255 20 s.toNatClampNeg 7) := p0.trS g314 (Or.inr (Or.inr (by omega))) rfl rfl rfl rfl (by omega)
        refine ⟨TR.mi p0.ps rfl rfl s0 (by omega), ?_⟩
        generalize mA1 κ255 20 s.toNatClampNeg 7 = κ315 at *
        have lt321 : s.toInt < (κ315.1 19).toInt := by omega
        have hk4 : ¬ srt κ315 = 203 := by rw [sr319]; exact hk3
        have xc := p320.px
        have zc := px0 p320.ps
        refine MC.mono (hV κ315 T h s p320.ps (by omega) (by omega) (by omega) (fun _ h => hT _ (p320.1.1.tr h)) s0 (by omega) hk4 nd318) (fun _ ζ hz => ?_) (fun _ h => h)
        obtain ⟨z1, z2, z3⟩ := hz
        have lz := z1.l19
        have pz : TR (-1) 0 0 0 0 0 ν ζ := p320.tr z1 (Or.inr (by omega)) rfl rfl rfl rfl (by omega)
        refine MC.mono (t_expect (by omega) pz.ps (by decide) (fun _ h => hT _ (pz.1.1.tr h))) (fun _ η hη => ?_) (fun _ h => h)
        obtain ⟨m1, m2, m3⟩ := hη
        have lz2 := z1.l32
        exact ⟨pz.tr m1 (Or.inl (by decide)) rfl rfl rfl rfl (by omega), by omega, ((z2.dv).tr m1 (Int.le_refl _) (Or.inl (by omega))).up (Nat.le_refl _) (by omega) (by omega), by rw [m1.rb 27 (by omega) (by omega) _ (by omega) (by omega)]; exact z3⟩
    · skip
      refine MC.mono (t_next (by omega) p0.ps (hk3) (fun _ h => hT _ (p0.1.1.tr h))) (fun v322 κ327 h323 => ?_) (fun _ h => h)
      obtain ⟨q324, m325, a326⟩ := h323
      have p328 : TR (-1) (0) 0 0 0 (-1) ν κ327 := p0.trS q324 (Or.inl (by decide)) rfl rfl rfl rfl (by omega)
      have nd329 := nd0.tr q324 (by have := @ic s; omega) (by omega)
      have lt330 : s.toInt < (κ327.1 19).toInt := by omega
      have x334 := p328.px
      have u335 := p328.2
      have y336 := tT p328
      have z337 := px0 p328.ps
      refine MC.mono (c_qname (by omega) p328.ps (by omega) (fun _ h => hT _ (p328.1.1.tr h))) (fun r331 κ332 h333 => ?_) (fun _ h => h)
      obtain ⟨⟨z340, z341, z342, z343, z344⟩, z345⟩ := h333
      have q338 : TR (-1) 0 0 0 0 0 κ327 κ332 := ⟨z340, by omega⟩
      have g339 := z343.up (h' := h) (by omega) (Int.le_refl _) (Int.le_refl _)
      have l346 := q338.l19
      have p347 : TR (-1) (0) 0 0 0 (-1) ν κ332 := p328.trS q338 (Or.inl (by decide)) rfl rfl rfl rfl (by omega)
      have nd348 := nd329.tr q338 (by have := @ic s; omega) (by omega)
      have lt349 : s.toInt < (κ332.1 19).toInt := by omega
      have k350 : Kd κ332 h s.toInt s 7 r331 := Kd.of g339 (by omega) (Int.le_refl _) s0 (Or.inl (by omega))
      have g351 : TR s.toInt 0 0 0 0 0 κ332 (mA1 κ332 22 s.toNatClampNeg r331) := TR.put p347.ps s0 rfl rfl
      have e353 : ((mA1 κ332 22 s.toNatClampNeg r331).1 19).toInt = (κ332.1 19).toInt := rfl
      have e354 : ((mA1 κ332 22 s.toNatClampNeg r331).1 32).toInt = (κ332.1 32).toInt := rfl
      have sr356 : srt (mA1 κ332 22 s.toNatClampNeg r331) = srt κ332 := rfl
      have nd355 := nd348.pa (x := r331)
      have p357 : TR (-1) (0) 0 0 0 (-1) ν (mA1 κ332 22 s.toNatClampNeg r331) := p347.trS g351 (Or.inr (Or.inr (by omega))) rfl rfl rfl rfl (by omega)
      have k358 := k350.tr g351 (Or.inr rfl) s0
      refine ⟨TR.mi p347.ps rfl rfl s0 (by omega), ?_⟩
      generalize mA1 κ332 22 s.toNatClampNeg r331 = κ352 at *
      have lt359 : s.toInt < (κ352.1 19).toInt := by omega
      refine MC.mono (c_is (by omega) p357.ps) (fun r360 κ361 h362 => ?_) (fun _ h => h)
      obtain ⟨rfl, rfl⟩ := h362
      refine ⟨fun hC => ?_, fun hC => ?_⟩
      · skip
        have g363 : TR s.toInt 0 0 0 0 0 κ361 (mA1 κ361 20 s.toNatClampNeg 6) := TR.put p357.ps s0 rfl rfl
        have e365 : ((mA1 κ361 20 s.toNatClampNeg 6).1 19).toInt = (κ361.1 19).toInt := rfl
        have e366 : ((mA1 κ361 20 s.toNatClampNeg 6).1 32).toInt = (κ361.1 32).toInt := rfl
        have sr368 : srt (mA1 κ361 20 s.toNatClampNeg 6) = srt κ361 := rfl
        have nd367 := nd355.pk (x := 6)
        have p369 : TR (-1) (0) 0 0 0 (-1) ν (mA1 κ361 20 s.toNatClampNeg 6) := p357.trS g363 (Or.inr (Or.inr (by omega))) rfl rfl rfl rfl (by omega)
        have k370 := k358.tr g363 (Or.inr rfl) s0
        refine ⟨TR.mi p357.ps rfl rfl s0 (by omega), ?_⟩
        generalize mA1 κ361 20 s.toNatClampNeg 6 = κ364 at *
        have lt371 : s.toInt < (κ364.1 19).toInt := by omega
        refine MC.mono (c_is (by omega) p369.ps) (fun r372 κ373 h374 => ?_) (fun _ h => h)
        obtain ⟨rfl, rfl⟩ := h374
        refine ⟨fun hD => ?_, fun hD => absurd (sr368.symm.trans (is_t hD)) (is_f hC)⟩
        refine MC.mono (t_expect (by omega) p369.ps (by decide) (fun _ h => hT _ (p369.1.1.tr h))) (fun v375 κ380 h376 => ?_) (fun _ h => h)
        obtain ⟨q377, m378, a379⟩ := h376
        have p381 : TR (-1) (0) 0 0 0 (-3) ν κ380 := p369.trS q377 (Or.inl (by decide)) rfl rfl rfl rfl (by omega)
        have k382 := k370.tr q377 (Or.inl (by decide)) s0
        have nd383 := nd367.tr q377 (by have := @ic s; omega) (by omega)
        have lt384 : s.toInt < (κ380.1 19).toInt := by omega
        have x388 := p381.px
        have u389 := p381.2
        have y390 := tT p381
        have z391 := px0 p381.ps
        refine MC.mono (hL κ380 T h p381.ps (by omega) (by omega) (by omega) (fun _ h => hT _ (p381.1.1.tr h))) (fun r385 κ386 h387 => ?_) (fun _ h => h)
        obtain ⟨z394, z395, z396, z397, z398⟩ := h387
        have q392 : TR (-1) 0 0 0 0 0 κ380 κ386 := ⟨z394, by omega⟩
        have g393 := z397
        have l399 := q392.l19
        have p400 : TR (-1) (0) 0 0 0 (-3) ν κ386 := p381.trS q392 (Or.inl (by decide)) rfl rfl rfl rfl (by omega)
        have k401 := k382.tr q392 (Or.inl (by decide)) s0
        have nd402 := nd383.tr q392 (by have := @ic s; omega) (by omega)
        have lt403 : s.toInt < (κ386.1 19).toInt := by omega
        have k404 : Kd κ386 h s.toInt s 21 r385 := Kd.of g393 (by omega) (Int.le_refl _) s0 (Or.inl (by omega))
        have g405 : TR s.toInt 0 0 0 0 0 κ386 (mA1 κ386 23 s.toNatClampNeg r385) := TR.put p400.ps s0 rfl rfl
        have e407 : ((mA1 κ386 23 s.toNatClampNeg r385).1 19).toInt = (κ386.1 19).toInt := rfl
        have e408 : ((mA1 κ386 23 s.toNatClampNeg r385).1 32).toInt = (κ386.1 32).toInt := rfl
        have sr410 : srt (mA1 κ386 23 s.toNatClampNeg r385) = srt κ386 := rfl
        have nd409 := nd402.pb (x := r385)
        have p411 : TR (-1) (0) 0 0 0 (-3) ν (mA1 κ386 23 s.toNatClampNeg r385) := p400.trS g405 (Or.inr (Or.inr (by omega))) rfl rfl rfl rfl (by omega)
        have k412 := k401.tr g405 (Or.inr rfl) s0
        have k413 := k404.tr g405 (Or.inr rfl) s0
        refine ⟨TR.mi p400.ps rfl rfl s0 (by omega), ?_⟩
        generalize mA1 κ386 23 s.toNatClampNeg r385 = κ406 at *
        have lt414 : s.toInt < (κ406.1 19).toInt := by omega
        refine MC.mono (t_expect (by omega) p411.ps (by decide) (fun _ h => hT _ (p411.1.1.tr h))) (fun v415 κ420 h416 => ?_) (fun _ h => h)
        obtain ⟨q417, m418, a419⟩ := h416
        have p421 : TR (-1) (0) 0 0 0 (-5) ν κ420 := p411.trS q417 (Or.inl (by decide)) rfl rfl rfl rfl (by omega)
        have k422 := k412.tr q417 (Or.inl (by decide)) s0
        have k423 := k413.tr q417 (Or.inl (by decide)) s0
        have nd424 := nd409.tr q417 (by have := @ic s; omega) (by omega)
        have lt425 : s.toInt < (κ420.1 19).toInt := by omega
        exact ⟨⟨p421.1, by have := p421.2; omega⟩, by omega, (G.mk (lo := s.toInt) s0 (Int.le_refl _) lt425 nd424 (by decide) (k422) (k423) True.intro True.intro True.intro : G κ420 (h + 1) (bt s.toInt (κ420.1 19).toInt) 4 s).up (Nat.le_refl _) (by omega) (Int.le_refl _), nd424.2.2.2.2.2.2⟩
      · skip
        have g426 : TR s.toInt 0 0 0 0 0 κ361 (mA1 κ361 20 s.toNatClampNeg 5) := TR.put p357.ps s0 rfl rfl
        have e428 : ((mA1 κ361 20 s.toNatClampNeg 5).1 19).toInt = (κ361.1 19).toInt := rfl
        have e429 : ((mA1 κ361 20 s.toNatClampNeg 5).1 32).toInt = (κ361.1 32).toInt := rfl
        have sr431 : srt (mA1 κ361 20 s.toNatClampNeg 5) = srt κ361 := rfl
        have nd430 := nd355.pk (x := 5)
        have p432 : TR (-1) (0) 0 0 0 (-1) ν (mA1 κ361 20 s.toNatClampNeg 5) := p357.trS g426 (Or.inr (Or.inr (by omega))) rfl rfl rfl rfl (by omega)
        have k433 := k358.tr g426 (Or.inr rfl) s0
        refine ⟨TR.mi p357.ps rfl rfl s0 (by omega), ?_⟩
        generalize mA1 κ361 20 s.toNatClampNeg 5 = κ427 at *
        have lt434 : s.toInt < (κ427.1 19).toInt := by omega
        refine MC.mono (c_is (by omega) p432.ps) (fun r435 κ436 h437 => ?_) (fun _ h => h)
        obtain ⟨rfl, rfl⟩ := h437
        refine ⟨fun hD => absurd (sr431.trans (is_t hC)) (is_f hD), fun hD => ?_⟩
        have hk5 : ¬ srt κ436 = 203 := by rw [is_t hD]; decide
        refine MC.mono (t_next (by omega) p432.ps (hk5) (fun _ h => hT _ (p432.1.1.tr h))) (fun v438 κ443 h439 => ?_) (fun _ h => h)
        obtain ⟨q440, m441, a442⟩ := h439
        have p444 : TR (-1) (0) 0 0 0 (-3) ν κ443 := p432.trS q440 (Or.inl (by decide)) rfl rfl rfl rfl (by omega)
        have k445 := k433.tr q440 (Or.inl (by decide)) s0
        have nd446 := nd430.tr q440 (by have := @ic s; omega) (by omega)
        have lt447 : s.toInt < (κ443.1 19).toInt := by omega
        have x451 := p444.px
        have u452 := p444.2
        have y453 := tT p444
        have z454 := px0 p444.ps
        refine MC.mono (hY κ443 T h p444.ps (by omega) (by omega) (by omega) (fun _ h => hT _ (p444.1.1.tr h))) (fun r448 κ449 h450 => ?_) (fun _ h => h)
        obtain ⟨z457, z458, z459, z460, z461⟩ := h450
        have q455 : TR (-1) 0 0 0 0 0 κ443 κ449 := ⟨z457, by omega⟩
        have g456 := z460
        have l462 := q455.l19
        have p463 : TR (-1) (0) 0 0 0 (-3) ν κ449 := p444.trS q455 (Or.inl (by decide)) rfl rfl rfl rfl (by omega)
        have k464 := k445.tr q455 (Or.inl (by decide)) s0
        have nd465 := nd446.tr q455 (by have := @ic s; omega) (by omega)
        have lt466 : s.toInt < (κ449.1 19).toInt := by omega
        have k467 : Kd κ449 h s.toInt s 0 r448 := Kd.of g456 (by omega) (Int.le_refl _) s0 (Or.inl (by omega))
        have g468 : TR s.toInt 0 0 0 0 0 κ449 (mA1 κ449 23 s.toNatClampNeg r448) := TR.put p463.ps s0 rfl rfl
        have e470 : ((mA1 κ449 23 s.toNatClampNeg r448).1 19).toInt = (κ449.1 19).toInt := rfl
        have e471 : ((mA1 κ449 23 s.toNatClampNeg r448).1 32).toInt = (κ449.1 32).toInt := rfl
        have sr473 : srt (mA1 κ449 23 s.toNatClampNeg r448) = srt κ449 := rfl
        have nd472 := nd465.pb (x := r448)
        have p474 : TR (-1) (0) 0 0 0 (-3) ν (mA1 κ449 23 s.toNatClampNeg r448) := p463.trS g468 (Or.inr (Or.inr (by omega))) rfl rfl rfl rfl (by omega)
        have k475 := k464.tr g468 (Or.inr rfl) s0
        have k476 := k467.tr g468 (Or.inr rfl) s0
        refine ⟨TR.mi p463.ps rfl rfl s0 (by omega), ?_⟩
        generalize mA1 κ449 23 s.toNatClampNeg r448 = κ469 at *
        have lt477 : s.toInt < (κ469.1 19).toInt := by omega
        refine MC.mono (t_expect (by omega) p474.ps (by decide) (fun _ h => hT _ (p474.1.1.tr h))) (fun v478 κ483 h479 => ?_) (fun _ h => h)
        obtain ⟨q480, m481, a482⟩ := h479
        have p484 : TR (-1) (0) 0 0 0 (-5) ν κ483 := p474.trS q480 (Or.inl (by decide)) rfl rfl rfl rfl (by omega)
        have k485 := k475.tr q480 (Or.inl (by decide)) s0
        have k486 := k476.tr q480 (Or.inl (by decide)) s0
        have nd487 := nd472.tr q480 (by have := @ic s; omega) (by omega)
        have lt488 : s.toInt < (κ483.1 19).toInt := by omega
        exact ⟨⟨p484.1, by have := p484.2; omega⟩, by omega, (G.mk (lo := s.toInt) s0 (Int.le_refl _) lt488 nd487 (by decide) (k485) (k486) True.intro True.intro True.intro : G κ483 (h + 1) (bt s.toInt (κ483.1 19).toInt) 4 s).up (Nat.le_refl _) (by omega) (Int.le_refl _), nd487.2.2.2.2.2.2⟩
  · skip
    refine MC.mono (t_next (by omega) p0.ps (hk3) (fun _ h => hT _ (p0.1.1.tr h))) (fun v489 κ494 h490 => ?_) (fun _ h => h)
    obtain ⟨q491, m492, a493⟩ := h490
    have p495 : TR (-1) (0) 0 0 0 (-1) ν κ494 := p0.trS q491 (Or.inl (by decide)) rfl rfl rfl rfl (by omega)
    have nd496 := nd0.tr q491 (by have := @ic s; omega) (by omega)
    have lt497 : s.toInt < (κ494.1 19).toInt := by omega
    refine MC.mono (c_line (by omega) p495.ps.1 p495.ps.at.1 p495.ps.at.2) (fun r498 κ499 h500 => ?_) (fun _ h => h)
    subst h500
    have g501 : TR s.toInt 0 0 0 0 0 κ499 (mA1 κ499 31 s.toNatClampNeg r498) := TR.put p495.ps s0 rfl rfl
    have e503 : ((mA1 κ499 31 s.toNatClampNeg r498).1 19).toInt = (κ499.1 19).toInt := rfl
    have e504 : ((mA1 κ499 31 s.toNatClampNeg r498).1 32).toInt = (κ499.1 32).toInt := rfl
    have sr506 : srt (mA1 κ499 31 s.toNatClampNeg r498) = srt κ499 := rfl
    have nd505 := nd496.p31 (x := r498)
    have p507 : TR (-1) (0) 0 0 0 (-1) ν (mA1 κ499 31 s.toNatClampNeg r498) := p495.trS g501 (Or.inr (Or.inr (by omega))) rfl rfl rfl rfl (by omega)
    refine ⟨TR.mi p495.ps rfl rfl s0 (by omega), ?_⟩
    generalize mA1 κ499 31 s.toNatClampNeg r498 = κ502 at *
    have lt508 : s.toInt < (κ502.1 19).toInt := by omega
    refine MC.mono (t_name (by omega) p507.ps (fun _ h => hT _ (p507.1.1.tr h))) (fun v509 κ514 h510 => ?_) (fun _ h => h)
    obtain ⟨q511, m512, a513⟩ := h510
    have p515 : TR (-1) (0) 0 0 0 (-3) ν κ514 := p507.trS q511 (Or.inl (by decide)) rfl rfl rfl rfl (by omega)
    have nd516 := nd505.tr q511 (by have := @ic s; omega) (by omega)
    have lt517 : s.toInt < (κ514.1 19).toInt := by omega
    have g518 : TR s.toInt 0 0 0 0 0 κ514 (mA1 κ514 22 s.toNatClampNeg v509) := TR.put p515.ps s0 rfl rfl
    have e520 : ((mA1 κ514 22 s.toNatClampNeg v509).1 19).toInt = (κ514.1 19).toInt := rfl
    have e521 : ((mA1 κ514 22 s.toNatClampNeg v509).1 32).toInt = (κ514.1 32).toInt := rfl
    have sr523 : srt (mA1 κ514 22 s.toNatClampNeg v509) = srt κ514 := rfl
    have nd522 := nd516.pa (x := v509)
    have p524 : TR (-1) (0) 0 0 0 (-3) ν (mA1 κ514 22 s.toNatClampNeg v509) := p515.trS g518 (Or.inr (Or.inr (by omega))) rfl rfl rfl rfl (by omega)
    refine ⟨TR.mi p515.ps rfl rfl s0 (by omega), ?_⟩
    generalize mA1 κ514 22 s.toNatClampNeg v509 = κ519 at *
    have lt525 : s.toInt < (κ519.1 19).toInt := by omega
    refine MC.mono (c_is (by omega) p524.ps) (fun r526 κ527 h528 => ?_) (fun _ h => h)
    obtain ⟨rfl, rfl⟩ := h528
    refine ⟨fun hB => ?_, fun hB => ?_⟩
    · skip
      refine MC.mono (c_is (by omega) p524.ps) (fun r529 κ530 h531 => ?_) (fun _ h => h)
      obtain ⟨rfl, rfl⟩ := h531
      refine ⟨fun hC => ?_, fun _ => MC.mono (c_unfit (by omega) p524.ps (fun _ h => hT _ (p524.1.1.tr h))) (fun _ _ h => h.elim) (fun _ h => h)⟩
      have hk5 : ¬ srt κ530 = 203 := by rw [is_t hC]; decide
      refine MC.mono (t_next (by omega) p524.ps (hk5) (fun _ h => hT _ (p524.1.1.tr h))) (fun v532 κ537 h533 => ?_) (fun _ h => h)
      obtain ⟨q534, m535, a536⟩ := h533
      have p538 : TR (-1) (0) 0 0 0 (-5) ν κ537 := p524.trS q534 (Or.inl (by decide)) rfl rfl rfl rfl (by omega)
      have nd539 := nd522.tr q534 (by have := @ic s; omega) (by omega)
      have lt540 : s.toInt < (κ537.1 19).toInt := by omega
      have x544 := p538.px
      have u545 := p538.2
      have y546 := tT p538
      have z547 := px0 p538.ps
      refine MC.mono (hY κ537 T h p538.ps (by omega) (by omega) (by omega) (fun _ h => hT _ (p538.1.1.tr h))) (fun r541 κ542 h543 => ?_) (fun _ h => h)
      obtain ⟨z550, z551, z552, z553, z554⟩ := h543
      have q548 : TR (-1) 0 0 0 0 0 κ537 κ542 := ⟨z550, by omega⟩
      have g549 := z553
      have l555 := q548.l19
      have p556 : TR (-1) (0) 0 0 0 (-5) ν κ542 := p538.trS q548 (Or.inl (by decide)) rfl rfl rfl rfl (by omega)
      have nd557 := nd539.tr q548 (by have := @ic s; omega) (by omega)
      have lt558 : s.toInt < (κ542.1 19).toInt := by omega
      have k559 : Kd κ542 h s.toInt s 0 r541 := Kd.of g549 (by omega) (Int.le_refl _) s0 (Or.inl (by omega))
      have g560 : TR s.toInt 0 0 0 0 0 κ542 (mA1 κ542 23 s.toNatClampNeg r541) := TR.put p556.ps s0 rfl rfl
      have e562 : ((mA1 κ542 23 s.toNatClampNeg r541).1 19).toInt = (κ542.1 19).toInt := rfl
      have e563 : ((mA1 κ542 23 s.toNatClampNeg r541).1 32).toInt = (κ542.1 32).toInt := rfl
      have sr565 : srt (mA1 κ542 23 s.toNatClampNeg r541) = srt κ542 := rfl
      have nd564 := nd557.pb (x := r541)
      have p566 : TR (-1) (0) 0 0 0 (-5) ν (mA1 κ542 23 s.toNatClampNeg r541) := p556.trS g560 (Or.inr (Or.inr (by omega))) rfl rfl rfl rfl (by omega)
      have k567 := k559.tr g560 (Or.inr rfl) s0
      refine ⟨TR.mi p556.ps rfl rfl s0 (by omega), ?_⟩
      generalize mA1 κ542 23 s.toNatClampNeg r541 = κ561 at *
      have lt568 : s.toInt < (κ561.1 19).toInt := by omega
      refine MC.mono (t_expect (by omega) p566.ps (by decide) (fun _ h => hT _ (p566.1.1.tr h))) (fun v569 κ574 h570 => ?_) (fun _ h => h)
      obtain ⟨q571, m572, a573⟩ := h570
      have p575 : TR (-1) (0) 0 0 0 (-7) ν κ574 := p566.trS q571 (Or.inl (by decide)) rfl rfl rfl rfl (by omega)
      have k576 := k567.tr q571 (Or.inl (by decide)) s0
      have nd577 := nd564.tr q571 (by have := @ic s; omega) (by omega)
      have lt578 : s.toInt < (κ574.1 19).toInt := by omega
      exact ⟨⟨p575.1, by have := p575.2; omega⟩, by omega, (G.mk (lo := s.toInt) s0 (Int.le_refl _) lt578 nd577 (by decide) True.intro (k576) True.intro True.intro True.intro : G κ574 (h + 1) (bt s.toInt (κ574.1 19).toInt) 4 s).up (Nat.le_refl _) (by omega) (Int.le_refl _), nd577.2.2.2.2.2.2⟩
    · skip
      have hk5 : ¬ srt κ527 = 203 := by rw [is_t hB]; decide
      have g579 : TR s.toInt 0 0 0 0 0 κ527 (mA1 κ527 20 s.toNatClampNeg 4) := TR.put p524.ps s0 rfl rfl
      have e581 : ((mA1 κ527 20 s.toNatClampNeg 4).1 19).toInt = (κ527.1 19).toInt := rfl
      have e582 : ((mA1 κ527 20 s.toNatClampNeg 4).1 32).toInt = (κ527.1 32).toInt := rfl
      have sr584 : srt (mA1 κ527 20 s.toNatClampNeg 4) = srt κ527 := rfl
      have nd583 := nd522.pk (x := 4)
      have p585 : TR (-1) (0) 0 0 0 (-3) ν (mA1 κ527 20 s.toNatClampNeg 4) := p524.trS g579 (Or.inr (Or.inr (by omega))) rfl rfl rfl rfl (by omega)
      refine ⟨TR.mi p524.ps rfl rfl s0 (by omega), ?_⟩
      generalize mA1 κ527 20 s.toNatClampNeg 4 = κ580 at *
      have lt586 : s.toInt < (κ580.1 19).toInt := by omega
      have hk6 : ¬ srt κ580 = 203 := by rw [sr584]; exact hk5
      refine MC.mono (t_next (by omega) p585.ps (hk6) (fun _ h => hT _ (p585.1.1.tr h))) (fun v587 κ592 h588 => ?_) (fun _ h => h)
      obtain ⟨q589, m590, a591⟩ := h588
      have p593 : TR (-1) (0) 0 0 0 (-5) ν κ592 := p585.trS q589 (Or.inl (by decide)) rfl rfl rfl rfl (by omega)
      have nd594 := nd583.tr q589 (by have := @ic s; omega) (by omega)
      have lt595 : s.toInt < (κ592.1 19).toInt := by omega
      have x599 := p593.px
      have u600 := p593.2
      have y601 := tT p593
      have z602 := px0 p593.ps
      refine MC.mono (hY κ592 T h p593.ps (by omega) (by omega) (by omega) (fun _ h => hT _ (p593.1.1.tr h))) (fun r596 κ597 h598 => ?_) (fun _ h => h)
      obtain ⟨z605, z606, z607, z608, z609⟩ := h598
      have q603 : TR (-1) 0 0 0 0 0 κ592 κ597 := ⟨z605, by omega⟩
      have g604 := z608
      have l610 := q603.l19
      have p611 : TR (-1) (0) 0 0 0 (-5) ν κ597 := p593.trS q603 (Or.inl (by decide)) rfl rfl rfl rfl (by omega)
      have nd612 := nd594.tr q603 (by have := @ic s; omega) (by omega)
      have lt613 : s.toInt < (κ597.1 19).toInt := by omega
      have k614 : Kd κ597 h s.toInt s 0 r596 := Kd.of g604 (by omega) (Int.le_refl _) s0 (Or.inl (by omega))
      have g615 : TR s.toInt 0 0 0 0 0 κ597 (mA1 κ597 23 s.toNatClampNeg r596) := TR.put p611.ps s0 rfl rfl
      have e617 : ((mA1 κ597 23 s.toNatClampNeg r596).1 19).toInt = (κ597.1 19).toInt := rfl
      have e618 : ((mA1 κ597 23 s.toNatClampNeg r596).1 32).toInt = (κ597.1 32).toInt := rfl
      have sr620 : srt (mA1 κ597 23 s.toNatClampNeg r596) = srt κ597 := rfl
      have nd619 := nd612.pb (x := r596)
      have p621 : TR (-1) (0) 0 0 0 (-5) ν (mA1 κ597 23 s.toNatClampNeg r596) := p611.trS g615 (Or.inr (Or.inr (by omega))) rfl rfl rfl rfl (by omega)
      have k622 := k614.tr g615 (Or.inr rfl) s0
      refine ⟨TR.mi p611.ps rfl rfl s0 (by omega), ?_⟩
      generalize mA1 κ597 23 s.toNatClampNeg r596 = κ616 at *
      have lt623 : s.toInt < (κ616.1 19).toInt := by omega
      refine MC.mono (t_expect (by omega) p621.ps (by decide) (fun _ h => hT _ (p621.1.1.tr h))) (fun v624 κ629 h625 => ?_) (fun _ h => h)
      obtain ⟨q626, m627, a628⟩ := h625
      have p630 : TR (-1) (0) 0 0 0 (-7) ν κ629 := p621.trS q626 (Or.inl (by decide)) rfl rfl rfl rfl (by omega)
      have k631 := k622.tr q626 (Or.inl (by decide)) s0
      have nd632 := nd619.tr q626 (by have := @ic s; omega) (by omega)
      have lt633 : s.toInt < (κ629.1 19).toInt := by omega
      exact ⟨⟨p630.1, by have := p630.2; omega⟩, by omega, (G.mk (lo := s.toInt) s0 (Int.le_refl _) lt633 nd632 (by decide) True.intro (k631) True.intro True.intro True.intro : G κ629 (h + 1) (bt s.toInt (κ629.1 19).toInt) 4 s).up (Nat.le_refl _) (by omega) (Int.le_refl _), nd632.2.2.2.2.2.2⟩
end PSL
