/-! contracts of the reference: declarations -/
theorem ND.p31 {μ : MS} {i : Nat} {k a b c d e n x : Int32} (h : ND μ i k a b c d e n) : ND (mA1 μ 31 i x) i k a b c d e n := h
theorem Ek.g {μ : MS} {k i : Int32} {lo hi : Int} {s h : Nat} (hE : Ek μ k lo hi i) (hk : sK s k = true) (hf : ∀ f, f < 5 → fW k.toNatClampNeg f = (0, 0)) : G μ (h + 1) (bt lo hi) s i := by
  obtain ⟨k1, k2, k3, k4, k5⟩ := hE
  have hc := @ic i
  refine ⟨k1, ⟨by omega, by omega⟩, by rw [k4]; exact hk, fun f hf' => ?_⟩
  rw [k4, hf f hf']
  exact True.intro
theorem NR.ls {μ μ1 : MS} {k r : Int32} {s h : Nat} (hR : NR k μ r μ1) (hk : sK s k = true) (hf : ∀ f, f < 5 → fW k.toNatClampNeg f = (0, 0)) : ∃ m, Lst (G μ1 (h + 1) (bt (μ.1 19).toInt (μ1.1 19).toInt) s) (μ1.2.1 27) m r := by
  obtain ⟨-, -, -, -, m, hm⟩ := hR
  exact ⟨m, hm.mono (fun y hy => hy.g hk hf) (fun _ _ => rfl)⟩
theorem G.dv {μ : MS} {h : Nat} {S : Nat → Prop} {i : Int32} (hG : G μ h S 19 i) : G μ h S 4 i := by
  cases h with
  | zero => exact hG.elim
  | succ h =>
    have h7 : ([7] : List Int32).contains (μ.2.1 20 i.toNatClampNeg) = true := hG.2.2.1
    have h7 : μ.2.1 20 i.toNatClampNeg = 7 := by simpa using h7
    exact ⟨hG.1, hG.2.1, by rw [h7]; decide, hG.2.2.2⟩
/-- what the spans and weights of a node of a sort are, by the nesting that is left -/
def BdK (n s h : Nat) (lo : Int) (μ : MS) (r : Int32) (μ1 : MS) : Prop := ∀ K : Nat, (K : Int) + (μ.1 40).toInt = 20 → ∃ w : Nat, 2 * (w : Int) + (μ.1 32).toInt ≤ (μ1.1 32).toInt ∧ PK μ1 h K n s lo (μ1.1 19).toInt w r
/-- a VAR's node is filled -/
def VarC (X : ev_X) (W : Nat → Prop) (P : MP) (d : Nat) : Prop := ∀ (μ : MS) (T : MS → Prop) (h : Nat) (s : Int32), PS μ → psS μ + 11 ≤ d → hiS μ + 1 ≤ h → (μ.1 19).toInt ≤ 2 * (μ.1 32).toInt + 31 → (∀ μ1, kf SPA RPA μ μ1 → T μ1) → 0 ≤ s.toInt → s.toInt + 1 = (μ.1 19).toInt → ¬ srt μ = 203 → ND μ s.toNatClampNeg 7 (-1) (-1) (-1) (-1) (-1) (-1) →
  MC X W true d 307 [.ref P.1, .int s] P μ (fun _ μ1 => TR s.toInt 0 0 0 0 (-2) μ μ1 ∧ G μ1 (h + 1) (bt s.toInt (μ1.1 19).toInt) 19 s ∧ μ1.2.1 27 s.toNatClampNeg = -1 ∧ CO μ1 s.toInt (μ1.1 19).toInt s ∧ BdK 1 19 h s.toInt μ s μ1) T
/-- a PROCEDURE's node is filled -/
def PrC (X : ev_X) (W : Nat → Prop) (P : MP) (d : Nat) : Prop := ∀ (μ : MS) (T : MS → Prop) (h : Nat) (s x2 : Int32), PS μ → psS μ + 20 ≤ d → hiS μ + 12 ≤ h → (μ.1 19).toInt ≤ 2 * (μ.1 32).toInt + 31 → (∀ μ1, kf SPA RPA μ μ1 → T μ1) → 0 ≤ s.toInt → s.toInt + 1 = (μ.1 19).toInt → ¬ srt μ = 203 → ND μ s.toNatClampNeg 3 (-1) (-1) (-1) (-1) (-1) (-1) →
  MC X W true d 308 [.ref P.1, .int s, .int x2] P μ (fun _ μ1 => TR s.toInt 0 0 0 0 (-2) μ μ1 ∧ G μ1 (h + 1) (bt s.toInt (μ1.1 19).toInt) 4 s ∧ μ1.2.1 27 s.toNatClampNeg = -1 ∧ CO μ1 s.toInt (μ1.1 19).toInt s ∧ BdK 2 4 h s.toInt μ s μ1) T
/-- a declaration -/
def DeC (X : ev_X) (W : Nat → Prop) (P : MP) (d : Nat) : Prop := ∀ (μ : MS) (T : MS → Prop) (h : Nat) (x1 : Int32), PS μ → psS μ + 21 ≤ d → hiS μ + 13 ≤ h → (μ.1 19).toInt ≤ 2 * (μ.1 32).toInt + 30 → (∀ μ1, kf SPA RPA μ μ1 → T μ1) → ¬ srt μ = 203 →
  MC X W true d 306 [.ref P.1, .int x1] P μ (fun r μ1 => XN 0 4 h μ r μ1 ∧ BdK 2 4 h (μ.1 19).toInt μ r μ1) T
section PSL
variable {X : ev_X} {W : Nat → Prop} {d : Nat} {P : MP}
theorem t_endName {μ : MS} {T : MS → Prop} {x : Int32} (hd : 5 ≤ d) (hS : PS μ) (hT : ∀ μ1, kf SPA RPA μ μ1 → T μ1) : MC X W true d 303 [.ref P.1, .int x] P μ (fun _ μ1 => TR (-1) 0 0 0 0 (-2) μ μ1 ∧ (μ1.1 19).toInt = (μ.1 19).toInt ∧ (μ1.1 32).toInt = (μ.1 32).toInt + 1) T := by
  have at0 := hS.at
  refine me_meth (by omega) rfl (v_endName_0 _ (MC.mono (c_is (by omega) hS) (fun r ν hr => ?_) (fun _ h => h)))
  obtain ⟨rfl, rfl⟩ := hr
  refine ⟨fun h1 => ⟨MI.of (hS.1.g rfl rfl : _ = 6002) at0.1 at0.2, fun _ => t_next (by omega) hS (by rw [is_t h1]; decide) hT, fun _ => MC.mono (c_line (by omega) hS.1 at0.1 at0.2) (fun r3 ν3 h3 => ?_) (fun _ h => h)⟩, fun _ => MC.mono (c_unfit (by omega) hS hT) (fun _ _ h => h.elim) (fun _ h => h)⟩
  subst h3
  exact MC.mono (c_first (by omega) hT) (fun _ _ h => h.elim) (fun _ h => h)
theorem st_variables (hY : NodC X W P 312 0 9 0 d) : VarC X W P (d + 1) := fun μ T h s hS hd hh hn hT s0 s1 hs3 nd0 => by
  have hp := px0 hS
  have h0 := hS.2.2.2.2.1
  have at0 := hS.at
  have hcs := @ic s
  have p0 : TR s.toInt 0 0 0 0 0 μ μ := TR.rf hS
  have lt0 : s.toInt < (μ.1 19).toInt := by omega
  have s9 : s.toInt < 15990 := by omega
  have cv0 : CVs μ (s.toInt + 1) (μ.1 19).toInt [] := CVs.nil (by omega)
  obtain ⟨K, hK⟩ : ∃ K : Nat, (K : Int) + (μ.1 40).toInt = 20 := ⟨(20 - (μ.1 40).toInt).toNat, by have := hS.2.2.2.2.2.2.2.2; omega⟩
  refine me_meth (by omega) rfl (v_variables_0 _ ?_)
  obtain ⟨A1, hA2⟩ : ∃ A : Int, A = (μ.1 19).toInt := ⟨_, rfl⟩
  refine MC.mono (t_next (by omega) p0.ps (hs3) (fun _ h => hT _ (p0.1.1.tr h))) (fun v3 κ8 h4 => ?_) (fun _ h => h)
  obtain ⟨q5, m6, a7⟩ := h4
  have p9 : TR (s.toInt) (0) 0 0 0 (-2) μ κ8 := p0.trS q5 (Or.inl (by decide)) rfl rfl rfl rfl (by omega)
  have cv10 : CVs κ8 (s.toInt + 1) ((κ8).1 19).toInt [] := cv0.st q5.rb (Int.le_refl _) (Or.inl (by omega)) m6
  have nd11 := nd0.tr q5 (by have := @ic s; omega) (by omega)
  have lt12 : s.toInt < (κ8.1 19).toInt := by omega
  have x16 := p9.px
  have u17 := p9.2
  have y18 := tT p9
  have z19 := px0 p9.ps
  refine MC.mono (c_nameRowQ (by omega) p9.ps (by omega) (fun _ h => hT _ (p9.1.1.tr h))) (fun r13 κ14 h20 => ?_) (fun _ h => h)
  have h15 := h20.1
  have g22 := NR.ls (s := 6) (h := 0) h15.1 (by decide) (by decide)
  have q21 : TR (-1) 0 0 0 0 0 κ8 κ14 := ⟨h15.1.1, by have := h15.1.2.1; omega⟩
  have ne23 : ¬ r13 = -1 := fun e => by have h1 := h15.1.2.2.2.1; have h2 := p9.ps.2.2.2.2.1; rw [← h1, e] at h2; exact absurd h2 (by decide)
  have l25 := q21.l19
  have p26 : TR (s.toInt) (0) 0 0 0 (-2) μ κ14 := p9.trS q21 (Or.inl (by decide)) rfl rfl rfl rfl (by omega)
  have cv27 : CVs κ14 (s.toInt + 1) ((κ14).1 19).toInt [] := cv10.ns q21.rb (Int.le_refl _) (Or.inl (by omega)) l25 (h15.2.1.ns (by decide))
  have nd28 := nd11.tr q21 (by have := @ic s; omega) (by omega)
  have lt29 : s.toInt < (κ14.1 19).toInt := by omega
  have k24 : KL κ14 h s.toInt s 6 r13 := (KL.of g22 (by omega) (Int.le_refl _) s0 (Or.inl (by omega))).up (by omega)
  obtain ⟨v30, hv31, b32⟩ := NQ.lk (h := h) (K := K) (n := 0) (s := 6) h20 (by omega) (by decide) (by decide) (by decide)
  obtain ⟨A33, hA34⟩ : ∃ A : Int, A = (κ14.1 19).toInt := ⟨_, rfl⟩
  have b35 : FK κ14 (h) K 1 (4, 6) A1 A33 v30 r13 := FK.at (by omega) (by omega) (FK.ne ne23 (FK.ls (by omega) (by decide) b32))
  have g36 : TR s.toInt 0 0 0 0 0 κ14 (mA1 κ14 22 s.toNatClampNeg r13) := TR.put p26.ps s0 rfl rfl
  have e38 : ((mA1 κ14 22 s.toNatClampNeg r13).1 19).toInt = (κ14.1 19).toInt := rfl
  have e39 : ((mA1 κ14 22 s.toNatClampNeg r13).1 32).toInt = (κ14.1 32).toInt := rfl
  have sr41 : srt (mA1 κ14 22 s.toNatClampNeg r13) = srt κ14 := srt_off rfl
  have nd40 := nd28.pa (x := r13)
  have p42 : TR (s.toInt) (0) 0 0 0 (-2) μ (mA1 κ14 22 s.toNatClampNeg r13) := p26.trS g36 (Or.inr (Or.inl rfl)) rfl rfl rfl rfl (by omega)
  have k43 := k24.tr g36 (Or.inr rfl) s0
  have cv44 : CVs (mA1 κ14 22 s.toNatClampNeg r13) (s.toInt + 1) (((mA1 κ14 22 s.toNatClampNeg r13)).1 19).toInt [] := cv27.st g36.rb (Int.le_refl _) (Or.inl (by omega)) rfl
  have b45 := FK.tr b35 g36 (by omega) (by omega)
  refine ⟨TR.mi p26.ps rfl rfl s0 (by omega), ?_⟩
  generalize mA1 κ14 22 s.toNatClampNeg r13 = κ37 at *
  have lt46 : s.toInt < (κ37.1 19).toInt := by omega
  refine MC.mono (t_expect (by omega) p42.ps (by decide) (fun _ h => hT _ (p42.1.1.tr h))) (fun v47 κ52 h48 => ?_) (fun _ h => h)
  obtain ⟨q49, m50, a51⟩ := h48
  have p53 : TR (s.toInt) (0) 0 0 0 (-4) μ κ52 := p42.trS q49 (Or.inl (by decide)) rfl rfl rfl rfl (by omega)
  have k54 := k43.tr q49 (Or.inl (by decide)) s0
  have cv55 : CVs κ52 (s.toInt + 1) ((κ52).1 19).toInt [] := cv44.st q49.rb (Int.le_refl _) (Or.inl (by omega)) m50
  have b56 := FK.tr b45 q49 (by omega) (by omega)
  have nd57 := nd40.tr q49 (by have := @ic s; omega) (by omega)
  have lt58 : s.toInt < (κ52.1 19).toInt := by omega
  have x62 := p53.px
  have u63 := p53.2
  have y64 := tT p53
  have z65 := px0 p53.ps
  refine MC.mono (hY κ52 T h p53.ps (by omega) (by omega) (by omega) (fun _ h => hT _ (p53.1.1.tr h))) (fun r59 κ60 h61 => ?_) (fun _ h => h)
  obtain ⟨⟨z68, z69, z70, z71, z72⟩, c73⟩ := h61
  have q66 : TR (-1) 0 0 0 0 0 κ52 κ60 := ⟨z68, by omega⟩
  have g67 := z71
  have l74 := q66.l19
  have l75 := q66.l32
  have p76 : TR (s.toInt) (0) 0 0 0 (-4) μ κ60 := p53.trS q66 (Or.inl (by decide)) rfl rfl rfl rfl (by omega)
  have k77 := k54.tr q66 (Or.inl (by decide)) s0
  have cv78 : CVs κ60 (s.toInt + 1) ((κ60).1 19).toInt [r59] := cv55.add q66.rb (Int.le_refl _) (Or.inl (by omega)) (by omega) l74 (LCO.of z71.in.1 c73)
  have b79 := FK.tr b56 q66 (by omega) (by omega)
  have nd80 := nd57.tr q66 (by have := @ic s; omega) (by omega)
  have lt81 : s.toInt < (κ60.1 19).toInt := by omega
  have k82 : Kd κ60 h s.toInt s 0 r59 := Kd.of g67 (by omega) (Int.le_refl _) s0 (Or.inl (by omega)) z72
  obtain ⟨A83, hA84⟩ : ∃ A : Int, A = (κ60.1 19).toInt := ⟨_, rfl⟩
  have b85 : FK κ60 (h) K 1 (1, 0) A33 A83 0 r59 := FK.one (by omega) (g67.up (Nat.le_refl _) (by omega) (by omega)) z72 (by decide) (by decide)
  have g86 : TR s.toInt 0 0 0 0 0 κ60 (mA1 κ60 23 s.toNatClampNeg r59) := TR.put p76.ps s0 rfl rfl
  have e88 : ((mA1 κ60 23 s.toNatClampNeg r59).1 19).toInt = (κ60.1 19).toInt := rfl
  have e89 : ((mA1 κ60 23 s.toNatClampNeg r59).1 32).toInt = (κ60.1 32).toInt := rfl
  have sr91 : srt (mA1 κ60 23 s.toNatClampNeg r59) = srt κ60 := srt_off rfl
  have nd90 := nd80.pb (x := r59)
  have p92 : TR (s.toInt) (0) 0 0 0 (-4) μ (mA1 κ60 23 s.toNatClampNeg r59) := p76.trS g86 (Or.inr (Or.inl rfl)) rfl rfl rfl rfl (by omega)
  have k93 := k77.tr g86 (Or.inr rfl) s0
  have k94 := k82.tr g86 (Or.inr rfl) s0
  have cv95 : CVs (mA1 κ60 23 s.toNatClampNeg r59) (s.toInt + 1) (((mA1 κ60 23 s.toNatClampNeg r59)).1 19).toInt [r59] := cv78.st g86.rb (Int.le_refl _) (Or.inl (by omega)) rfl
  have b96 := FK.tr b79 g86 (by omega) (by omega)
  have b97 := FK.tr b85 g86 (by omega) (by omega)
  refine ⟨TR.mi p76.ps rfl rfl s0 (by omega), ?_⟩
  generalize mA1 κ60 23 s.toNatClampNeg r59 = κ87 at *
  have lt98 : s.toInt < (κ87.1 19).toInt := by omega
  exact ⟨⟨p92.1, by have := p92.2; omega⟩, G.mk s0 (Int.le_refl _) lt98 nd90 (by decide) (⟨ne23, k93⟩) (k94) True.intro True.intro True.intro, nd90.2.2.2.2.2.2, (CO.fin' (by omega) cv95 s0 ⟨fun h => Par.fb nd90 (by decide) h, True.intro⟩ lt98), (fun K9 hK9 => by obtain rfl : K9 = K := (by omega); exact ⟨v30 + 0 + 0 + 0 + 0 + 0, by omega, PK.mk (c0 := A1) (v0 := v30) (v1 := 0) (v2 := 0) (v3 := 0) (v4 := 0) nd90 s0 (by omega) (by omega) (by omega) (by decide) (by have e : ow (7 : Int32) = 0 := (by decide); omega) ((FK.up (by omega) b96)) ((FK.up (by omega) b97)) (FK.fr (Int.le_refl _)) (FK.fr (Int.le_refl _)) (FK.fr (Int.le_refl _))⟩)⟩
theorem st_procedure (hG : SigC X W P d) (hSt : SL X W P 321 [] 3 19 11 d) (hV : VarC X W P d) : PrC X W P (d + 1) := fun μ T h9 s x2 hS hd hh hn hT s0 s1 hs3 nd0 => by
  have hp := px0 hS
  have h0 := hS.2.2.2.2.1
  have at0 := hS.at
  have hcs := @ic s
  have p0 : TR s.toInt 0 0 0 0 0 μ μ := TR.rf hS
  have lt0 : s.toInt < (μ.1 19).toInt := by omega
  have s9 : s.toInt < 15990 := by omega
  have cv0 : CVs μ (s.toInt + 1) (μ.1 19).toInt [] := CVs.nil (by omega)
  obtain ⟨K, hK⟩ : ∃ K : Nat, (K : Int) + (μ.1 40).toInt = 20 := ⟨(20 - (μ.1 40).toInt).toNat, by have := hS.2.2.2.2.2.2.2.2; omega⟩
  obtain ⟨h, rfl⟩ : ∃ h, h9 = h + 1 := ⟨h9 - 1, by omega⟩
  have key : ∀ (j : Nat) (n0 t0 Aσ : Int) (vσ : Nat) (nm sg f x4 : Int32) (ν : MS), s.toInt < n0 → n0 ≤ (ν.1 19).toInt → ((μ.1 8).toInt - (ν.1 32).toInt).toNat < j → TR s.toInt 0 0 0 0 (-2) μ ν → s.toInt < (ν.1 19).toInt → ND ν s.toNatClampNeg 9 nm sg (-1) (-1) (-1) (-1) → G ν h (bt (s.toInt + 1) n0) 8 sg → ν.2.1 27 sg.toNatClampNeg = -1 → OL 19 (h + 1) n0 ν f x4 → CO ν (s.toInt + 1) n0 sg → OC ν n0 (ν.1 19).toInt f x4 → s.toInt + 1 ≤ Aσ → FK ν h K 2 (1, 8) Aσ n0 vσ sg → 2 * (vσ : Int) + 2 + (μ.1 32).toInt ≤ t0 → OWs t0 n0 ν (h + 1) K 1 19 f x4 →
      ME X W true d 308 58 [(0, .ref P.1), (1, .int s), (2, .int x2), (3, .int f), (4, .int x4)] [] P ν (fun _ μ1 => TR s.toInt 0 0 0 0 (-2) μ μ1 ∧ G μ1 (h + 1 + 1) (bt s.toInt (μ1.1 19).toInt) 4 s ∧ μ1.2.1 27 s.toNatClampNeg = -1 ∧ CO μ1 s.toInt (μ1.1 19).toInt s ∧ BdK 2 4 (h + 1) s.toInt μ s μ1) T := by
    intro j
    induction j with
    | zero => intro n0 t0 Aσ vσ nm sg f x4 ν hn1 hn2 hj; omega
    | succ j ih =>
      intro n0 t0 Aσ vσ nm sg f x4 ν hn1 hn2 hj pν ltν ndν gν lkν hO cS hB hAσ bσ ht0 hW
      have e8 := eq_i (pν.1.1.1 8 rfl)
      have t8 := pν.ps.2.2.1.2
      have at1 := pν.ps.at
      have uν := pν.2
      have xν := pν.px
      refine v_procedure_58 _ _ _ _ ?_
      have cvν : CVs ν (s.toInt + 1) (ν.1 19).toInt [f, sg] := (CVs.one (LCO.of gν.in.1 cS)).add (e := -1) (n := n0) RB.rf (Int.le_refl _) (Or.inl (by omega)) (by omega) hn2 hB.l
      have kν : Kd ν h s.toInt s 8 sg := Kd.of gν (by omega) hn2 s0 (Or.inl (by omega)) lkν
      have kO : KL ν (h + 1) s.toInt s 19 f := KL.of hO.lst (by omega) (Int.le_refl _) s0 (Or.inl (by omega))
      refine MC.mono (c_is (by omega) pν.ps) (fun r99 κ100 h101 => ?_) (fun _ h => h)
      obtain ⟨rfl, rfl⟩ := h101
      refine ⟨fun _ => ?_, fun hw => ?_⟩
      · skip
        obtain ⟨uL, huL, oL⟩ := hW
        obtain ⟨A102, hA103⟩ : ∃ A : Int, A = (κ100.1 19).toInt := ⟨_, rfl⟩
        have b104 : FK κ100 (h + 1) K 2 (3, 19) n0 A102 uL f := FK.at rfl (by omega) (FK.ls oL.le (by decide) oL.done)
        have g105 : TR s.toInt 0 0 0 0 0 κ100 (mA1 κ100 24 s.toNatClampNeg f) := TR.put pν.ps s0 rfl rfl
        have e107 : ((mA1 κ100 24 s.toNatClampNeg f).1 19).toInt = (κ100.1 19).toInt := rfl
        have e108 : ((mA1 κ100 24 s.toNatClampNeg f).1 32).toInt = (κ100.1 32).toInt := rfl
        have sr110 : srt (mA1 κ100 24 s.toNatClampNeg f) = srt κ100 := srt_off rfl
        have nd109 := ndν.pc (x := f)
        have p111 : TR (s.toInt) (0) 0 0 0 (-2) μ (mA1 κ100 24 s.toNatClampNeg f) := pν.trS g105 (Or.inr (Or.inl rfl)) rfl rfl rfl rfl (by omega)
        have k112 := kν.tr g105 (Or.inr rfl) s0
        have k113 := kO.tr g105 (Or.inr rfl) s0
        have cv114 : CVs (mA1 κ100 24 s.toNatClampNeg f) (s.toInt + 1) (((mA1 κ100 24 s.toNatClampNeg f)).1 19).toInt [f, sg] := cvν.st g105.rb (Int.le_refl _) (Or.inl (by omega)) rfl
        have b115 := FK.tr bσ g105 (by omega) (by omega)
        have b116 := FK.tr b104 g105 (by omega) (by omega)
        refine ⟨TR.mi pν.ps rfl rfl s0 (by omega), ?_⟩
        generalize mA1 κ100 24 s.toNatClampNeg f = κ106 at *
        have lt117 : s.toInt < (κ106.1 19).toInt := by omega
        refine MC.mono (t_expect (by omega) p111.ps (by decide) (fun _ h => hT _ (p111.1.1.tr h))) (fun v118 κ123 h119 => ?_) (fun _ h => h)
        obtain ⟨q120, m121, a122⟩ := h119
        have p124 : TR (s.toInt) (0) 0 0 0 (-4) μ κ123 := p111.trS q120 (Or.inl (by decide)) rfl rfl rfl rfl (by omega)
        have k125 := k112.tr q120 (Or.inl (by decide)) s0
        have k126 := k113.tr q120 (Or.inl (by decide)) s0
        have cv127 : CVs κ123 (s.toInt + 1) ((κ123).1 19).toInt [f, sg] := cv114.st q120.rb (Int.le_refl _) (Or.inl (by omega)) m121
        have b128 := FK.tr b115 q120 (by omega) (by omega)
        have b129 := FK.tr b116 q120 (by omega) (by omega)
        have nd130 := nd109.tr q120 (by have := @ic s; omega) (by omega)
        have lt131 : s.toInt < (κ123.1 19).toInt := by omega
        have x135 := p124.px
        have u136 := p124.2
        have y137 := tT p124
        have z138 := px0 p124.ps
        refine MC.mono (hSt κ123 T h p124.ps (by omega) (by omega) (by omega) (fun _ h => hT _ (p124.1.1.tr h))) (fun r132 κ133 h134 => ?_) (fun _ h => h)
        obtain ⟨q139, g140, c141, hb142⟩ := h134
        obtain ⟨v143, hv144, b145⟩ := hb142 K (by have y40 := p124.1.2.2.2.2.2.2.2.2.1; omega)
        have l146 := q139.l19
        have l147 := q139.l32
        have p148 : TR (s.toInt) (0) 0 0 0 (-4) μ κ133 := p124.trS q139 (Or.inl (by decide)) rfl rfl rfl rfl (by omega)
        have k149 := k125.tr q139 (Or.inl (by decide)) s0
        have k150 := k126.tr q139 (Or.inl (by decide)) s0
        have cv151 : CVs κ133 (s.toInt + 1) ((κ133).1 19).toInt [r132, f, sg] := cv127.add q139.rb (Int.le_refl _) (Or.inl (by omega)) (by omega) l146 (c141)
        have b152 := FK.tr b128 q139 (by omega) (by omega)
        have b153 := FK.tr b129 q139 (by omega) (by omega)
        have nd154 := nd130.tr q139 (by have := @ic s; omega) (by omega)
        have lt155 : s.toInt < (κ133.1 19).toInt := by omega
        have k156 : KL κ133 h s.toInt s 3 r132 := KL.of g140 (by omega) (Int.le_refl _) s0 (Or.inl (by omega))
        obtain ⟨A157, hA158⟩ : ∃ A : Int, A = (κ133.1 19).toInt := ⟨_, rfl⟩
        have b159 : FK κ133 (h) K 2 (3, 3) A102 A157 v143 r132 := FK.at (by omega) (by omega) b145.b3
        have g160 : TR s.toInt 0 0 0 0 0 κ133 (mA1 κ133 25 s.toNatClampNeg r132) := TR.put p148.ps s0 rfl rfl
        have e162 : ((mA1 κ133 25 s.toNatClampNeg r132).1 19).toInt = (κ133.1 19).toInt := rfl
        have e163 : ((mA1 κ133 25 s.toNatClampNeg r132).1 32).toInt = (κ133.1 32).toInt := rfl
        have sr165 : srt (mA1 κ133 25 s.toNatClampNeg r132) = srt κ133 := srt_off rfl
        have nd164 := nd154.pd (x := r132)
        have p166 : TR (s.toInt) (0) 0 0 0 (-4) μ (mA1 κ133 25 s.toNatClampNeg r132) := p148.trS g160 (Or.inr (Or.inl rfl)) rfl rfl rfl rfl (by omega)
        have k167 := k149.tr g160 (Or.inr rfl) s0
        have k168 := k150.tr g160 (Or.inr rfl) s0
        have k169 := k156.tr g160 (Or.inr rfl) s0
        have cv170 : CVs (mA1 κ133 25 s.toNatClampNeg r132) (s.toInt + 1) (((mA1 κ133 25 s.toNatClampNeg r132)).1 19).toInt [r132, f, sg] := cv151.st g160.rb (Int.le_refl _) (Or.inl (by omega)) rfl
        have b171 := FK.tr b152 g160 (by omega) (by omega)
        have b172 := FK.tr b153 g160 (by omega) (by omega)
        have b173 := FK.tr b159 g160 (by omega) (by omega)
        refine ⟨TR.mi p148.ps rfl rfl s0 (by omega), ?_⟩
        generalize mA1 κ133 25 s.toNatClampNeg r132 = κ161 at *
        have lt174 : s.toInt < (κ161.1 19).toInt := by omega
        refine MC.mono (c_line (by omega) p166.ps.1 p166.ps.at.1 p166.ps.at.2) (fun r175 κ176 h177 => ?_) (fun _ h => h)
        subst h177
        have g178 : TR s.toInt 0 0 0 0 0 κ176 (mA1 κ176 26 s.toNatClampNeg r175) := TR.put p166.ps s0 rfl rfl
        have e180 : ((mA1 κ176 26 s.toNatClampNeg r175).1 19).toInt = (κ176.1 19).toInt := rfl
        have e181 : ((mA1 κ176 26 s.toNatClampNeg r175).1 32).toInt = (κ176.1 32).toInt := rfl
        have sr183 : srt (mA1 κ176 26 s.toNatClampNeg r175) = srt κ176 := srt_off rfl
        have nd182 := nd164.pe (x := r175)
        have p184 : TR (s.toInt) (0) 0 0 0 (-4) μ (mA1 κ176 26 s.toNatClampNeg r175) := p166.trS g178 (Or.inr (Or.inl rfl)) rfl rfl rfl rfl (by omega)
        have k185 := k167.tr g178 (Or.inr rfl) s0
        have k186 := k168.tr g178 (Or.inr rfl) s0
        have k187 := k169.tr g178 (Or.inr rfl) s0
        have cv188 : CVs (mA1 κ176 26 s.toNatClampNeg r175) (s.toInt + 1) (((mA1 κ176 26 s.toNatClampNeg r175)).1 19).toInt [r132, f, sg] := cv170.st g178.rb (Int.le_refl _) (Or.inl (by omega)) rfl
        have b189 := FK.tr b171 g178 (by omega) (by omega)
        have b190 := FK.tr b172 g178 (by omega) (by omega)
        have b191 := FK.tr b173 g178 (by omega) (by omega)
        refine ⟨TR.mi p166.ps rfl rfl s0 (by omega), ?_⟩
        generalize mA1 κ176 26 s.toNatClampNeg r175 = κ179 at *
        have lt192 : s.toInt < (κ179.1 19).toInt := by omega
        refine MC.mono (t_expect (by omega) p184.ps (by decide) (fun _ h => hT _ (p184.1.1.tr h))) (fun v193 κ198 h194 => ?_) (fun _ h => h)
        obtain ⟨q195, m196, a197⟩ := h194
        have p199 : TR (s.toInt) (0) 0 0 0 (-6) μ κ198 := p184.trS q195 (Or.inl (by decide)) rfl rfl rfl rfl (by omega)
        have k200 := k185.tr q195 (Or.inl (by decide)) s0
        have k201 := k186.tr q195 (Or.inl (by decide)) s0
        have k202 := k187.tr q195 (Or.inl (by decide)) s0
        have cv203 : CVs κ198 (s.toInt + 1) ((κ198).1 19).toInt [r132, f, sg] := cv188.st q195.rb (Int.le_refl _) (Or.inl (by omega)) m196
        have b204 := FK.tr b189 q195 (by omega) (by omega)
        have b205 := FK.tr b190 q195 (by omega) (by omega)
        have b206 := FK.tr b191 q195 (by omega) (by omega)
        have nd207 := nd182.tr q195 (by have := @ic s; omega) (by omega)
        have lt208 : s.toInt < (κ198.1 19).toInt := by omega
        refine ⟨TR.mi p199.ps rfl rfl s0 (by omega), ?_⟩
        refine MC.mono (t_endName (by omega) p199.ps (fun _ h => hT _ (p199.1.1.tr h))) (fun v209 κ214 h210 => ?_) (fun _ h => h)
        obtain ⟨q211, m212, a213⟩ := h210
        have p215 : TR (s.toInt) (0) 0 0 0 (-8) μ κ214 := p199.trS q211 (Or.inl (by decide)) rfl rfl rfl rfl (by omega)
        have k216 := k200.tr q211 (Or.inl (by decide)) s0
        have k217 := k201.tr q211 (Or.inl (by decide)) s0
        have k218 := k202.tr q211 (Or.inl (by decide)) s0
        have cv219 : CVs κ214 (s.toInt + 1) ((κ214).1 19).toInt [r132, f, sg] := cv203.st q211.rb (Int.le_refl _) (Or.inl (by omega)) m212
        have b220 := FK.tr b204 q211 (by omega) (by omega)
        have b221 := FK.tr b205 q211 (by omega) (by omega)
        have b222 := FK.tr b206 q211 (by omega) (by omega)
        have nd223 := nd207.tr q211 (by have := @ic s; omega) (by omega)
        have lt224 : s.toInt < (κ214.1 19).toInt := by omega
        exact ⟨⟨p215.1, by have := p215.2; omega⟩, G.mk s0 (Int.le_refl _) lt224 nd223 (by decide) True.intro (Kd.up k216 (Nat.le_succ _)) (k217) (KL.up k218 (Nat.le_succ _)) True.intro, nd223.2.2.2.2.2.2, (CO.fin' (by omega) cv219 s0 ⟨fun h => Par.fd nd223 (by decide) h, fun h => Par.fc nd223 (by decide) h, fun h => Par.fb nd223 (by decide) h, True.intro⟩ lt224), (fun K9 hK9 => by obtain rfl : K9 = K := (by omega); exact ⟨0 + vσ + uL + v143 + 0 + 1, by omega, PK.mk (c0 := Aσ) (v0 := 0) (v1 := vσ) (v2 := uL) (v3 := v143) (v4 := 0) nd223 s0 (by omega) (by omega) (by omega) (by decide) (by have e : ow (9 : Int32) = 1 := (by decide); omega) (FK.fr (Int.le_refl _)) ((FK.up (by omega) b220)) ((FK.up (by omega) b221)) ((FK.up (by omega) b222)) (FK.fr (Int.le_refl _))⟩)⟩
      · skip
        have hw3 : ¬ srt κ100 = 203 := by rw [is_t hw]; decide
        refine MC.mono (c_line (by omega) pν.ps.1 at1.1 at1.2) (fun r7 ν7 h7 => ?_) (fun _ h => h)
        subst h7
        have g7 : TR (-1) 0 0 0 0 0 ν7 (mS1 ν7 34 r7) := TR.s34 pν.ps
        have p7 : TR s.toInt 0 0 0 0 (-2) μ (mS1 ν7 34 r7) := pν.trS g7 (Or.inl (by decide)) rfl rfl rfl rfl (by omega)
        have e19 : ((mS1 ν7 34 r7).1 19).toInt = (ν7.1 19).toInt := rfl
        have e32 : ((mS1 ν7 34 r7).1 32).toInt = (ν7.1 32).toInt := rfl
        have w7 : ¬ srt (mS1 ν7 34 r7) = 203 := hw3
        refine MC.mono (t_node (by omega) p7.ps (by omega)) (fun l ν8 h8 => ?_) (fun _ h => h)
        obtain ⟨q1, ⟨q2, l0⟩, q3, q4, q5, q6⟩ := h8
        have g8 := g7.tr q1 (Or.inl (by decide)) rfl rfl rfl rfl (Int.le_refl _)
        have p8 : TR s.toInt 0 0 0 0 (-1) μ ν8 := p7.trS q1 (Or.inl (by decide)) rfl rfl rfl rfl (by omega)
        have x8 := p8.px
        have u8 := p8.2
        have z8 := px0 p8.ps
        refine MC.mono (hV ν8 T h l p8.ps (by omega) (by omega) (by omega) (fun _ h => hT _ (p8.1.1.tr h)) l0 (by omega) (by rw [q5]; exact w7) q6) (fun _ ν9 h9 => ?_) (fun _ h => h)
        obtain ⟨v1, v2, v3, vc, vb⟩ := h9
        obtain ⟨wV, wV1, wV2⟩ := vb K (by have y40 := p8.1.2.2.2.2.2.2.2.2.1; omega)
        have l9 := v1.l19
        have hcl := @ic l
        have g9 : TR (-1) 0 0 0 0 0 ν7 ν9 := g8.tr v1 (Or.inr (by omega)) rfl rfl rfl rfl (by omega)
        have p9 : TR s.toInt 0 0 0 0 (-2) μ ν9 := p8.trS v1 (Or.inr (Or.inr (by omega))) rfl rfl rfl rfl (by omega)
        refine MC.mono (t_expect (by omega) p9.ps (by decide) (fun _ h => hT _ (p9.1.1.tr h))) (fun _ ν10 h10 => ?_) (fun _ h => h)
        obtain ⟨m1, m2, m3⟩ := h10
        have g10 : TR (-1) 0 0 0 0 0 ν7 ν10 := g9.tr m1 (Or.inl (by decide)) rfl rfl rfl rfl (by omega)
        have p10 : TR s.toInt 0 0 0 0 (-2) μ ν10 := p9.trS m1 (Or.inl (by decide)) rfl rfl rfl rfl (by omega)
        have eG : G ν10 (h + 1) (bt (ν7.1 19).toInt (ν10.1 19).toInt) 19 l := (v2.tr m1 (Int.le_refl _) (Or.inl (by omega))).up (Nat.le_refl _) (by omega) (by omega)
        have n10 : ν10.2.1 27 l.toNatClampNeg = -1 := by rw [m1.rb 27 (by omega) (by omega) _ (by omega) (by omega)]; exact v3
        have eW10 : PK ν10 (h + 1) K 1 19 (ν7.1 19).toInt (ν10.1 19).toInt wV l := PK.wd (by omega) (by omega) (Nat.le_refl _) ((PK.up (Nat.le_succ _) (Nat.le_refl _) wV2).tr m1 (by omega) (by omega))
        have bσ10 := FK.tr bσ g10 hn2 (by omega)
        have u10 := p10.2
        have t8' := q1.l32
        have t9' := v1.l32
        have at10 := p10.ps.at
        have nd10 := ndν.tr g10 (by omega) (by omega)
        have k10 := gν.tr g10 hn2 (Or.inl (by omega))
        have lk10 := G.lk gν g10 hn2 (Or.inl (by omega)) lkν
        have cS10 := cS.rb g10.rb hn2 (Or.inl (by omega))
        have hB10 := hB.rb g10.rb (Int.le_refl _) (Or.inl (by omega))
        have eC : CO ν10 (ν7.1 19).toInt (ν10.1 19).toInt l := CO.lh (vc.rb m1.rb (Int.le_refl _) (Or.inl (by omega))) (by omega) (by omega)
        have l9' := v1.l32
        refine ⟨fun hx1 => ?_, fun hx1 => ?_⟩
        · rcases hO.sg with ⟨w1, -⟩ | ⟨w1, w2⟩
          · rw [w1] at hx1; exact absurd hx1 (by decide)
          obtain ⟨j1, j2, j3⟩ := hO.in w2
          have hc2 := @ic x4
          have g11 : TR x4.toInt 0 0 0 0 0 ν10 (mA1 ν10 27 x4.toNatClampNeg l) := TR.put p10.ps w2 rfl rfl
          exact ⟨TR.mi p10.ps rfl rfl w2 (by omega), ih n0 t0 Aσ vσ nm sg f l _ hn1 (by show _ ≤ (ν10.1 19).toInt; omega) (by show ((μ.1 8).toInt - (ν10.1 32).toInt).toNat < j; omega) (p10.trS g11 (Or.inr (Or.inr (by omega))) rfl rfl rfl rfl (by omega)) (by show _ < (ν10.1 19).toInt; omega) (nd10.off (by omega)) (k10.put (Or.inr (by omega))) (G.lk k10 g11 (by omega) (Or.inr (by omega)) lk10) (hO.add w2 g10 (by omega) eG n10) (cS10.rb g11.rb (by omega) (Or.inr (by omega))) (hB10.add w2 j2 j3 j1 eC l0 g10.l19 (by rw [g10.rb 27 (by omega) (by omega) _ (by omega) (by omega)]; exact hO.nn w2)) hAσ (FK.tr bσ10 g11 (by omega) (by omega)) ht0 (hW.add w2 g10 (by omega) (by omega) eW10 n10)⟩
        · have hf : f = -1 := by
            rcases hO.sg with ⟨w1, -⟩ | ⟨w1, -⟩
            · exact w1
            · omega
          refine ih n0 t0 Aσ vσ nm sg l l _ hn1 (by omega) (by omega) p10 (by omega) nd10 k10 lk10 (OL.one (eG.up (Nat.le_refl _) (by omega) (Int.le_refl _)) (by omega) n10) cS10 ?_ hAσ bσ10 ht0 (OWs.one eW10 (by omega) (by obtain ⟨uW, uW1, -⟩ := hW; omega) n10)
          rcases hB10 with ⟨-, w⟩ | ⟨w, -⟩
          · exact OC.one (eC.ahead w (by omega)) l0
          · rw [hf] at w; exact absurd w (by decide)
  refine me_meth (by omega) rfl (v_procedure_0 _ _ ?_)
  obtain ⟨A225, hA226⟩ : ∃ A : Int, A = (μ.1 19).toInt := ⟨_, rfl⟩
  have g227 : TR s.toInt 0 0 0 0 0 μ (mA1 μ 20 s.toNatClampNeg 9) := TR.put p0.ps s0 rfl rfl
  have e229 : ((mA1 μ 20 s.toNatClampNeg 9).1 19).toInt = (μ.1 19).toInt := rfl
  have e230 : ((mA1 μ 20 s.toNatClampNeg 9).1 32).toInt = (μ.1 32).toInt := rfl
  have sr232 : srt (mA1 μ 20 s.toNatClampNeg 9) = srt μ := srt_off rfl
  have nd231 := nd0.pk (x := 9)
  have p233 : TR (s.toInt) (0) 0 0 0 (0) μ (mA1 μ 20 s.toNatClampNeg 9) := p0.trS g227 (Or.inr (Or.inl rfl)) rfl rfl rfl rfl (by omega)
  have cv234 : CVs (mA1 μ 20 s.toNatClampNeg 9) (s.toInt + 1) (((mA1 μ 20 s.toNatClampNeg 9)).1 19).toInt [] := cv0.st g227.rb (Int.le_refl _) (Or.inl (by omega)) rfl
  refine ⟨TR.mi p0.ps rfl rfl s0 (by omega), ?_⟩
  generalize mA1 μ 20 s.toNatClampNeg 9 = κ228 at *
  have lt235 : s.toInt < (κ228.1 19).toInt := by omega
  have hs4 : ¬ srt κ228 = 203 := by rw [sr232]; exact hs3
  refine MC.mono (t_next (by omega) p233.ps (hs4) (fun _ h => hT _ (p233.1.1.tr h))) (fun v236 κ241 h237 => ?_) (fun _ h => h)
  obtain ⟨q238, m239, a240⟩ := h237
  have p242 : TR (s.toInt) (0) 0 0 0 (-2) μ κ241 := p233.trS q238 (Or.inl (by decide)) rfl rfl rfl rfl (by omega)
  have cv243 : CVs κ241 (s.toInt + 1) ((κ241).1 19).toInt [] := cv234.st q238.rb (Int.le_refl _) (Or.inl (by omega)) m239
  have nd244 := nd231.tr q238 (by have := @ic s; omega) (by omega)
  have lt245 : s.toInt < (κ241.1 19).toInt := by omega
  refine MC.mono (c_line (by omega) p242.ps.1 p242.ps.at.1 p242.ps.at.2) (fun r246 κ247 h248 => ?_) (fun _ h => h)
  subst h248
  have g249 : TR s.toInt 0 0 0 0 0 κ247 (mA1 κ247 31 s.toNatClampNeg r246) := TR.put p242.ps s0 rfl rfl
  have e251 : ((mA1 κ247 31 s.toNatClampNeg r246).1 19).toInt = (κ247.1 19).toInt := rfl
  have e252 : ((mA1 κ247 31 s.toNatClampNeg r246).1 32).toInt = (κ247.1 32).toInt := rfl
  have sr254 : srt (mA1 κ247 31 s.toNatClampNeg r246) = srt κ247 := srt_off rfl
  have nd253 := nd244.p31 (x := r246)
  have p255 : TR (s.toInt) (0) 0 0 0 (-2) μ (mA1 κ247 31 s.toNatClampNeg r246) := p242.trS g249 (Or.inr (Or.inl rfl)) rfl rfl rfl rfl (by omega)
  have cv256 : CVs (mA1 κ247 31 s.toNatClampNeg r246) (s.toInt + 1) (((mA1 κ247 31 s.toNatClampNeg r246)).1 19).toInt [] := cv243.st g249.rb (Int.le_refl _) (Or.inl (by omega)) rfl
  refine ⟨TR.mi p242.ps rfl rfl s0 (by omega), ?_⟩
  generalize mA1 κ247 31 s.toNatClampNeg r246 = κ250 at *
  have lt257 : s.toInt < (κ250.1 19).toInt := by omega
  refine MC.mono (t_name (by omega) p255.ps (fun _ h => hT _ (p255.1.1.tr h))) (fun v258 κ263 h259 => ?_) (fun _ h => h)
  obtain ⟨q260, m261, a262⟩ := h259
  have p264 : TR (s.toInt) (0) 0 0 0 (-4) μ κ263 := p255.trS q260 (Or.inl (by decide)) rfl rfl rfl rfl (by omega)
  have cv265 : CVs κ263 (s.toInt + 1) ((κ263).1 19).toInt [] := cv256.st q260.rb (Int.le_refl _) (Or.inl (by omega)) m261
  have nd266 := nd253.tr q260 (by have := @ic s; omega) (by omega)
  have lt267 : s.toInt < (κ263.1 19).toInt := by omega
  have g268 : TR s.toInt 0 0 0 0 0 κ263 (mA1 κ263 22 s.toNatClampNeg v258) := TR.put p264.ps s0 rfl rfl
  have e270 : ((mA1 κ263 22 s.toNatClampNeg v258).1 19).toInt = (κ263.1 19).toInt := rfl
  have e271 : ((mA1 κ263 22 s.toNatClampNeg v258).1 32).toInt = (κ263.1 32).toInt := rfl
  have sr273 : srt (mA1 κ263 22 s.toNatClampNeg v258) = srt κ263 := srt_off rfl
  have nd272 := nd266.pa (x := v258)
  have p274 : TR (s.toInt) (0) 0 0 0 (-4) μ (mA1 κ263 22 s.toNatClampNeg v258) := p264.trS g268 (Or.inr (Or.inl rfl)) rfl rfl rfl rfl (by omega)
  have cv275 : CVs (mA1 κ263 22 s.toNatClampNeg v258) (s.toInt + 1) (((mA1 κ263 22 s.toNatClampNeg v258)).1 19).toInt [] := cv265.st g268.rb (Int.le_refl _) (Or.inl (by omega)) rfl
  refine ⟨TR.mi p264.ps rfl rfl s0 (by omega), ?_⟩
  generalize mA1 κ263 22 s.toNatClampNeg v258 = κ269 at *
  have lt276 : s.toInt < (κ269.1 19).toInt := by omega
  have x280 := p274.px
  have u281 := p274.2
  have y282 := tT p274
  have z283 := px0 p274.ps
  refine MC.mono (hG κ269 T h p274.ps (by omega) (by omega) (by omega) (fun _ h => hT _ (p274.1.1.tr h))) (fun r277 κ278 h279 => ?_) (fun _ h => h)
  obtain ⟨⟨⟨z286, z287, z288, z289, z290⟩, c291⟩, v292, hv293, lF294⟩ := h279
  have q284 : TR (-1) 0 0 0 0 0 κ269 κ278 := ⟨z286, by omega⟩
  have g285 := z289
  have l295 := q284.l19
  have l296 := q284.l32
  have p297 : TR (s.toInt) (0) 0 0 0 (-4) μ κ278 := p274.trS q284 (Or.inl (by decide)) rfl rfl rfl rfl (by omega)
  have cv298 : CVs κ278 (s.toInt + 1) ((κ278).1 19).toInt [r277] := cv275.add q284.rb (Int.le_refl _) (Or.inl (by omega)) (by omega) l295 (LCO.of z289.in.1 c291)
  have nd299 := nd272.tr q284 (by have := @ic s; omega) (by omega)
  have lt300 : s.toInt < (κ278.1 19).toInt := by omega
  have k301 : Kd κ278 h s.toInt s 8 r277 := Kd.of g285 (by omega) (Int.le_refl _) s0 (Or.inl (by omega)) z290
  obtain ⟨A302, hA303⟩ : ∃ A : Int, A = (κ278.1 19).toInt := ⟨_, rfl⟩
  have b304 : FK κ278 (h) K 2 (1, 8) A225 A302 v292 r277 := FK.sg (by omega) (g285.up (Nat.le_refl _) (by omega) (by omega)) z290 (by omega) (by omega) (Nat.le_refl _) lF294
  have nS : (κ278.1 19).toInt ≤ (κ278.1 19).toInt := Int.le_refl _
  have n0e : ∃ n0 : Int, n0 = (κ278.1 19).toInt := ⟨_, rfl⟩
  obtain ⟨n0, n0e⟩ := n0e
  have ltS : s.toInt < n0 := by omega
  have g305 : TR s.toInt 0 0 0 0 0 κ278 (mA1 κ278 23 s.toNatClampNeg r277) := TR.put p297.ps s0 rfl rfl
  have e307 : ((mA1 κ278 23 s.toNatClampNeg r277).1 19).toInt = (κ278.1 19).toInt := rfl
  have e308 : ((mA1 κ278 23 s.toNatClampNeg r277).1 32).toInt = (κ278.1 32).toInt := rfl
  have sr310 : srt (mA1 κ278 23 s.toNatClampNeg r277) = srt κ278 := srt_off rfl
  have nd309 := nd299.pb (x := r277)
  have p311 : TR (s.toInt) (0) 0 0 0 (-4) μ (mA1 κ278 23 s.toNatClampNeg r277) := p297.trS g305 (Or.inr (Or.inl rfl)) rfl rfl rfl rfl (by omega)
  have k312 := k301.tr g305 (Or.inr rfl) s0
  have cv313 : CVs (mA1 κ278 23 s.toNatClampNeg r277) (s.toInt + 1) (((mA1 κ278 23 s.toNatClampNeg r277)).1 19).toInt [r277] := cv298.st g305.rb (Int.le_refl _) (Or.inl (by omega)) rfl
  have b314 := FK.tr b304 g305 (by omega) (by omega)
  have co315 := c291.rb g305.rb (by omega) (Or.inl (by omega))
  have lk317 := G.lk g285 g305 (by omega) (Or.inl (by omega)) z290
  have gg316 := g285.tr g305 (by omega) (Or.inl (by omega))
  refine ⟨TR.mi p297.ps rfl rfl s0 (by omega), ?_⟩
  generalize mA1 κ278 23 s.toNatClampNeg r277 = κ306 at *
  have lt318 : s.toInt < (κ306.1 19).toInt := by omega
  refine ⟨fun _ => ?_, fun _ => ?_⟩
  · skip
    refine MC.mono (t_expect (by omega) p311.ps (by decide) (fun _ h => hT _ (p311.1.1.tr h))) (fun v319 κ324 h320 => ?_) (fun _ h => h)
    obtain ⟨q321, m322, a323⟩ := h320
    have p325 : TR (s.toInt) (0) 0 0 0 (-6) μ κ324 := p311.trS q321 (Or.inl (by decide)) rfl rfl rfl rfl (by omega)
    have k326 := k312.tr q321 (Or.inl (by decide)) s0
    have cv327 : CVs κ324 (s.toInt + 1) ((κ324).1 19).toInt [r277] := cv313.st q321.rb (Int.le_refl _) (Or.inl (by omega)) m322
    have b328 := FK.tr b314 q321 (by omega) (by omega)
    have co329 := co315.rb q321.rb (by omega) (Or.inl (by omega))
    have lk331 := G.lk gg316 q321 (by omega) (Or.inl (by omega)) lk317
    have gg330 := gg316.tr q321 (by omega) (Or.inl (by omega))
    have nd332 := nd309.tr q321 (by have := @ic s; omega) (by omega)
    have lt333 : s.toInt < (κ324.1 19).toInt := by omega
    exact key _ n0 (κ324.1 32).toInt A225 v292 _ _ (-1) (-1) _ ltS (by omega) (Nat.lt_succ_self _) ⟨p325.1, by have := p325.2; omega⟩ lt333 nd332 (gg330.up (Nat.le_refl _) (by omega) (by omega)) lk331 OL.nil (CO.lh co329 (by omega) (by omega)) (Or.inl ⟨rfl, NS.nil (by omega)⟩) (by omega) (FK.at rfl (by omega) b328) (by omega) (OWs.nil (Int.le_refl _) (by omega))
  · skip
    exact ⟨⟨p311.1, by have := p311.2; omega⟩, G.mk s0 (Int.le_refl _) lt318 nd309 (by decide) True.intro (Kd.up k312 (Nat.le_succ _)) ⟨0, rfl⟩ ⟨0, rfl⟩ True.intro, nd309.2.2.2.2.2.2, (CO.fin' (by omega) cv313 s0 ⟨fun h => Par.fb nd309 (by decide) h, True.intro⟩ lt318), (fun K9 hK9 => by obtain rfl : K9 = K := (by omega); exact ⟨0 + v292 + 0 + 0 + 0 + 1, by omega, PK.mk (c0 := A225) (v0 := 0) (v1 := v292) (v2 := 0) (v3 := 0) (v4 := 0) nd309 s0 (by omega) (by omega) (by omega) (by decide) (by have e : ow (9 : Int32) = 1 := (by decide); omega) (FK.fr (Int.le_refl _)) ((FK.up (by omega) b314)) (FK.ls (Int.le_refl _) (by decide) ⟨0, rfl, Int.le_refl _⟩) (FK.st (Int.le_refl _) (BT.nil (Int.le_refl _))) (FK.fr (Int.le_refl _))⟩)⟩
theorem st_declaration (hY : NodC X W P 312 0 9 0 d) (hL : NodC X W P 313 21 14 3 d) (hV : VarC X W P d) (hPr : PrC X W P d) : DeC X W P (d + 1) := fun μ T h9 x1 hS hd hh hn hT hs3 => by
  have hp := px0 hS
  have h0 := hS.2.2.2.2.1
  have at0 := hS.at
  obtain ⟨h, rfl⟩ : ∃ h, h9 = h + 1 := ⟨h9 - 1, by omega⟩
  refine me_meth (by omega) rfl (v_declaration_0 _ (MC.mono (c_line (by omega) hS.1 hS.at.1 hS.at.2) (fun r1 ν h1 => ?_) (fun _ h => h)))
  subst h1
  have g1 : TR (-1) 0 0 0 0 0 ν (mS1 ν 34 r1) := TR.s34 hS
  have e19 : ((mS1 ν 34 r1).1 19).toInt = (ν.1 19).toInt := rfl
  have e32 : ((mS1 ν 34 r1).1 32).toInt = (ν.1 32).toInt := rfl
  refine MC.mono (t_node (by omega) g1.ps (by omega)) (fun s κ hk => ?_) (fun _ h => h)
  obtain ⟨q1, ⟨q2, s0⟩, q3, q4, q5, nd0⟩ := hk
  have hcs := @ic s
  have s9 : s.toInt < 15990 := by omega
  have p0 : TR (-1) 0 0 0 0 1 ν κ := g1.tr q1 (Or.inl (by decide)) rfl rfl rfl rfl (by omega)
  have lt0 : s.toInt < (κ.1 19).toInt := by omega
  have hk3 : ¬ srt κ = 203 := by rw [q5]; exact hs3
  have xκ := p0.px
  have zκ := px0 p0.ps
  have uκ := p0.2
  have cv0 : CVs κ (s.toInt + 1) (κ.1 19).toInt [] := CVs.nil (by omega)
  obtain ⟨K, hK⟩ : ∃ K : Nat, (K : Int) + (ν.1 40).toInt = 20 := ⟨(20 - (ν.1 40).toInt).toNat, by have := g1.ps.2.2.2.2.2.2.2.2; have := hS.2.2.2.2.2.2.2.2; omega⟩
  obtain ⟨A334, hA335⟩ : ∃ A : Int, A = (κ.1 19).toInt := ⟨_, rfl⟩
  refine MC.mono (c_is (by omega) p0.ps) (fun r336 κ337 h338 => ?_) (fun _ h => h)
  obtain ⟨rfl, rfl⟩ := h338
  refine ⟨fun hA => ?_, fun hA => ?_⟩
  · skip
    refine MC.mono (c_is (by omega) p0.ps) (fun r339 κ340 h341 => ?_) (fun _ h => h)
    obtain ⟨rfl, rfl⟩ := h341
    refine ⟨fun hB => ?_, fun hB => ?_⟩
    · skip
      refine MC.mono (c_is (by omega) p0.ps) (fun r342 κ343 h344 => ?_) (fun _ h => h)
      obtain ⟨rfl, rfl⟩ := h344
      refine ⟨fun hC => ?_, fun hC => ?_⟩
      · skip
        refine MC.mono (c_is (by omega) p0.ps) (fun r345 κ346 h347 => ?_) (fun _ h => h)
        obtain ⟨rfl, rfl⟩ := h347
        refine ⟨fun hD => ?_, fun hD => ?_⟩
        · skip
          refine MC.mono (hPr κ346 T h s x1 p0.ps (by omega) (by omega) (by omega) (fun _ h => hT _ (p0.1.1.tr h)) s0 (by omega) hk3 nd0) (fun _ ζ hz => ?_) (fun _ h => h)
          obtain ⟨z1, z2, z3, z4, z5⟩ := hz
          have lz := z1.l19
          have pz : TR (-1) 0 0 0 0 0 ν ζ := p0.tr z1 (Or.inr (by omega)) rfl rfl rfl rfl (by omega)
          refine MC.mono (t_expect (by omega) pz.ps (by decide) (fun _ h => hT _ (pz.1.1.tr h))) (fun _ η hη => ?_) (fun _ h => h)
          obtain ⟨m1, m2, m3⟩ := hη
          have lz2 := z1.l32
          have y40 := p0.1.2.2.2.2.2.2.2.2.1
          exact ⟨⟨pz.tr m1 (Or.inl (by decide)) rfl rfl rfl rfl (by omega), by omega, ((z2).tr m1 (Int.le_refl _) (Or.inl (by omega))).up (Nat.le_refl _) (by omega) (by omega), by rw [m1.rb 27 (by omega) (by omega) _ (by omega) (by omega)]; exact z3, CO.lh (z4.rb m1.rb (Int.le_refl _) (Or.inl (by omega))) (by omega) (by omega)⟩, fun K9 hK9 => by obtain ⟨w9, y1, y2⟩ := z5 K9 (by omega); exact ⟨w9, by omega, PK.wd (by omega) (by omega) (Nat.le_refl _) ((PK.up (Nat.le_succ _) (by decide) y2).tr m1 (by omega) (by omega))⟩⟩
        · skip
          have g348 : TR s.toInt 0 0 0 0 0 κ346 (mA1 κ346 20 s.toNatClampNeg 8) := TR.put p0.ps s0 rfl rfl
          have e350 : ((mA1 κ346 20 s.toNatClampNeg 8).1 19).toInt = (κ346.1 19).toInt := rfl
          have e351 : ((mA1 κ346 20 s.toNatClampNeg 8).1 32).toInt = (κ346.1 32).toInt := rfl
          have sr353 : srt (mA1 κ346 20 s.toNatClampNeg 8) = srt κ346 := srt_off rfl
          have nd352 := nd0.pk (x := 8)
          have p354 : TR (-1) (0) 0 0 0 (1) ν (mA1 κ346 20 s.toNatClampNeg 8) := p0.trS g348 (Or.inr (Or.inr (by omega))) rfl rfl rfl rfl (by omega)
          have cv355 : CVs (mA1 κ346 20 s.toNatClampNeg 8) (s.toInt + 1) (((mA1 κ346 20 s.toNatClampNeg 8)).1 19).toInt [] := cv0.st g348.rb (Int.le_refl _) (Or.inl (by omega)) rfl
          refine ⟨TR.mi p0.ps rfl rfl s0 (by omega), ?_⟩
          generalize mA1 κ346 20 s.toNatClampNeg 8 = κ349 at *
          have lt356 : s.toInt < (κ349.1 19).toInt := by omega
          have hk4 : ¬ srt κ349 = 203 := by rw [sr353]; exact hk3
          refine MC.mono (t_next (by omega) p354.ps (hk4) (fun _ h => hT _ (p354.1.1.tr h))) (fun v357 κ362 h358 => ?_) (fun _ h => h)
          obtain ⟨q359, m360, a361⟩ := h358
          have p363 : TR (-1) (0) 0 0 0 (-1) ν κ362 := p354.trS q359 (Or.inl (by decide)) rfl rfl rfl rfl (by omega)
          have cv364 : CVs κ362 (s.toInt + 1) ((κ362).1 19).toInt [] := cv355.st q359.rb (Int.le_refl _) (Or.inl (by omega)) m360
          have nd365 := nd352.tr q359 (by have := @ic s; omega) (by omega)
          have lt366 : s.toInt < (κ362.1 19).toInt := by omega
          refine MC.mono (c_line (by omega) p363.ps.1 p363.ps.at.1 p363.ps.at.2) (fun r367 κ368 h369 => ?_) (fun _ h => h)
          subst h369
          have g370 : TR s.toInt 0 0 0 0 0 κ368 (mA1 κ368 31 s.toNatClampNeg r367) := TR.put p363.ps s0 rfl rfl
          have e372 : ((mA1 κ368 31 s.toNatClampNeg r367).1 19).toInt = (κ368.1 19).toInt := rfl
          have e373 : ((mA1 κ368 31 s.toNatClampNeg r367).1 32).toInt = (κ368.1 32).toInt := rfl
          have sr375 : srt (mA1 κ368 31 s.toNatClampNeg r367) = srt κ368 := srt_off rfl
          have nd374 := nd365.p31 (x := r367)
          have p376 : TR (-1) (0) 0 0 0 (-1) ν (mA1 κ368 31 s.toNatClampNeg r367) := p363.trS g370 (Or.inr (Or.inr (by omega))) rfl rfl rfl rfl (by omega)
          have cv377 : CVs (mA1 κ368 31 s.toNatClampNeg r367) (s.toInt + 1) (((mA1 κ368 31 s.toNatClampNeg r367)).1 19).toInt [] := cv364.st g370.rb (Int.le_refl _) (Or.inl (by omega)) rfl
          refine ⟨TR.mi p363.ps rfl rfl s0 (by omega), ?_⟩
          generalize mA1 κ368 31 s.toNatClampNeg r367 = κ371 at *
          have lt378 : s.toInt < (κ371.1 19).toInt := by omega
          refine MC.mono (t_name (by omega) p376.ps (fun _ h => hT _ (p376.1.1.tr h))) (fun v379 κ384 h380 => ?_) (fun _ h => h)
          obtain ⟨q381, m382, a383⟩ := h380
          have p385 : TR (-1) (0) 0 0 0 (-3) ν κ384 := p376.trS q381 (Or.inl (by decide)) rfl rfl rfl rfl (by omega)
          have cv386 : CVs κ384 (s.toInt + 1) ((κ384).1 19).toInt [] := cv377.st q381.rb (Int.le_refl _) (Or.inl (by omega)) m382
          have nd387 := nd374.tr q381 (by have := @ic s; omega) (by omega)
          have lt388 : s.toInt < (κ384.1 19).toInt := by omega
          have g389 : TR s.toInt 0 0 0 0 0 κ384 (mA1 κ384 22 s.toNatClampNeg v379) := TR.put p385.ps s0 rfl rfl
          have e391 : ((mA1 κ384 22 s.toNatClampNeg v379).1 19).toInt = (κ384.1 19).toInt := rfl
          have e392 : ((mA1 κ384 22 s.toNatClampNeg v379).1 32).toInt = (κ384.1 32).toInt := rfl
          have sr394 : srt (mA1 κ384 22 s.toNatClampNeg v379) = srt κ384 := srt_off rfl
          have nd393 := nd387.pa (x := v379)
          have p395 : TR (-1) (0) 0 0 0 (-3) ν (mA1 κ384 22 s.toNatClampNeg v379) := p385.trS g389 (Or.inr (Or.inr (by omega))) rfl rfl rfl rfl (by omega)
          have cv396 : CVs (mA1 κ384 22 s.toNatClampNeg v379) (s.toInt + 1) (((mA1 κ384 22 s.toNatClampNeg v379)).1 19).toInt [] := cv386.st g389.rb (Int.le_refl _) (Or.inl (by omega)) rfl
          refine ⟨TR.mi p385.ps rfl rfl s0 (by omega), ?_⟩
          generalize mA1 κ384 22 s.toNatClampNeg v379 = κ390 at *
          have lt397 : s.toInt < (κ390.1 19).toInt := by omega
          refine MC.mono (t_expect (by omega) p395.ps (by decide) (fun _ h => hT _ (p395.1.1.tr h))) (fun v398 κ403 h399 => ?_) (fun _ h => h)
          obtain ⟨q400, m401, a402⟩ := h399
          have p404 : TR (-1) (0) 0 0 0 (-5) ν κ403 := p395.trS q400 (Or.inl (by decide)) rfl rfl rfl rfl (by omega)
          have cv405 : CVs κ403 (s.toInt + 1) ((κ403).1 19).toInt [] := cv396.st q400.rb (Int.le_refl _) (Or.inl (by omega)) m401
          have nd406 := nd393.tr q400 (by have := @ic s; omega) (by omega)
          have lt407 : s.toInt < (κ403.1 19).toInt := by omega
          exact ⟨⟨⟨p404.1, by have := p404.2; omega⟩, by omega, (G.mk (lo := s.toInt) s0 (Int.le_refl _) lt407 nd406 (by decide) True.intro True.intro True.intro True.intro True.intro : G κ403 (h + 1) (bt s.toInt (κ403.1 19).toInt) 4 s).up (Nat.le_refl _) (by omega) (Int.le_refl _), nd406.2.2.2.2.2.2, (CO.fin' (by omega) cv405 s0 True.intro lt407)⟩, (fun K9 hK9 => by obtain rfl : K9 = K := (by omega); exact ⟨0 + 0 + 0 + 0 + 0 + 1, by omega, PK.mk (c0 := A334) (v0 := 0) (v1 := 0) (v2 := 0) (v3 := 0) (v4 := 0) nd406 s0 (by omega) (by omega) (by omega) (by decide) (by have e : ow (8 : Int32) = 1 := (by decide); omega) (FK.fr (Int.le_refl _)) (FK.fr (Int.le_refl _)) (FK.fr (Int.le_refl _)) (FK.fr (Int.le_refl _)) (FK.fr (Int.le_refl _))⟩)⟩
      · skip
        have g408 : TR s.toInt 0 0 0 0 0 κ343 (mA1 κ343 20 s.toNatClampNeg 7) := TR.put p0.ps s0 rfl rfl
        have e410 : ((mA1 κ343 20 s.toNatClampNeg 7).1 19).toInt = (κ343.1 19).toInt := rfl
        have e411 : ((mA1 κ343 20 s.toNatClampNeg 7).1 32).toInt = (κ343.1 32).toInt := rfl
        have sr413 : srt (mA1 κ343 20 s.toNatClampNeg 7) = srt κ343 := srt_off rfl
        have nd412 := nd0.pk (x := 7)
        have p414 : TR (-1) (0) 0 0 0 (1) ν (mA1 κ343 20 s.toNatClampNeg 7) := p0.trS g408 (Or.inr (Or.inr (by omega))) rfl rfl rfl rfl (by omega)
        have cv415 : CVs (mA1 κ343 20 s.toNatClampNeg 7) (s.toInt + 1) (((mA1 κ343 20 s.toNatClampNeg 7)).1 19).toInt [] := cv0.st g408.rb (Int.le_refl _) (Or.inl (by omega)) rfl
        refine ⟨TR.mi p0.ps rfl rfl s0 (by omega), ?_⟩
        generalize mA1 κ343 20 s.toNatClampNeg 7 = κ409 at *
        have lt416 : s.toInt < (κ409.1 19).toInt := by omega
        have hk4 : ¬ srt κ409 = 203 := by rw [sr413]; exact hk3
        have xc := p414.px
        have zc := px0 p414.ps
        refine MC.mono (hV κ409 T h s p414.ps (by omega) (by omega) (by omega) (fun _ h => hT _ (p414.1.1.tr h)) s0 (by omega) hk4 nd412) (fun _ ζ hz => ?_) (fun _ h => h)
        obtain ⟨z1, z2, z3, z4, z5⟩ := hz
        have lz := z1.l19
        have pz : TR (-1) 0 0 0 0 0 ν ζ := p414.tr z1 (Or.inr (by omega)) rfl rfl rfl rfl (by omega)
        refine MC.mono (t_expect (by omega) pz.ps (by decide) (fun _ h => hT _ (pz.1.1.tr h))) (fun _ η hη => ?_) (fun _ h => h)
        obtain ⟨m1, m2, m3⟩ := hη
        have lz2 := z1.l32
        have y40 := p414.1.2.2.2.2.2.2.2.2.1
        exact ⟨⟨pz.tr m1 (Or.inl (by decide)) rfl rfl rfl rfl (by omega), by omega, ((z2.dv).tr m1 (Int.le_refl _) (Or.inl (by omega))).up (Nat.le_refl _) (by omega) (by omega), by rw [m1.rb 27 (by omega) (by omega) _ (by omega) (by omega)]; exact z3, CO.lh (z4.rb m1.rb (Int.le_refl _) (Or.inl (by omega))) (by omega) (by omega)⟩, fun K9 hK9 => by obtain ⟨w9, y1, y2⟩ := z5 K9 (by omega); exact ⟨w9, by omega, PK.wd (by omega) (by omega) (Nat.le_refl _) ((PK.up (Nat.le_succ _) (by decide) (PK.srt (G.dv z2).2.2.1 y2)).tr m1 (by omega) (by omega))⟩⟩
    · skip
      refine MC.mono (t_next (by omega) p0.ps (hk3) (fun _ h => hT _ (p0.1.1.tr h))) (fun v417 κ422 h418 => ?_) (fun _ h => h)
      obtain ⟨q419, m420, a421⟩ := h418
      have p423 : TR (-1) (0) 0 0 0 (-1) ν κ422 := p0.trS q419 (Or.inl (by decide)) rfl rfl rfl rfl (by omega)
      have cv424 : CVs κ422 (s.toInt + 1) ((κ422).1 19).toInt [] := cv0.st q419.rb (Int.le_refl _) (Or.inl (by omega)) m420
      have nd425 := nd0.tr q419 (by have := @ic s; omega) (by omega)
      have lt426 : s.toInt < (κ422.1 19).toInt := by omega
      have x430 := p423.px
      have u431 := p423.2
      have y432 := tT p423
      have z433 := px0 p423.ps
      refine MC.mono (c_qname (by omega) p423.ps (by omega) (fun _ h => hT _ (p423.1.1.tr h))) (fun r427 κ428 h429 => ?_) (fun _ h => h)
      obtain ⟨⟨z436, z437, z438, z439, z440⟩, z441, z442⟩ := h429
      have q434 : TR (-1) 0 0 0 0 0 κ422 κ428 := ⟨z436, by omega⟩
      have g435 := z439.up (h' := h) (by omega) (Int.le_refl _) (Int.le_refl _)
      have l443 := q434.l19
      have l444 := q434.l32
      have p445 : TR (-1) (0) 0 0 0 (-1) ν κ428 := p423.trS q434 (Or.inl (by decide)) rfl rfl rfl rfl (by omega)
      have cv446 : CVs κ428 (s.toInt + 1) ((κ428).1 19).toInt [] := cv424.ns q434.rb (Int.le_refl _) (Or.inl (by omega)) l443 z442
      have nd447 := nd425.tr q434 (by have := @ic s; omega) (by omega)
      have lt448 : s.toInt < (κ428.1 19).toInt := by omega
      have k449 : Kd κ428 h s.toInt s 7 r427 := Kd.of g435 (by omega) (Int.le_refl _) s0 (Or.inl (by omega)) z440
      obtain ⟨A450, hA451⟩ : ∃ A : Int, A = (κ428.1 19).toInt := ⟨_, rfl⟩
      have b452 : FK κ428 (h) K 2 (1, 7) A334 A450 0 r427 := FK.one (by omega) (g435.up (Nat.le_refl _) (by omega) (by omega)) z440 (by decide) (by decide)
      have g453 : TR s.toInt 0 0 0 0 0 κ428 (mA1 κ428 22 s.toNatClampNeg r427) := TR.put p445.ps s0 rfl rfl
      have e455 : ((mA1 κ428 22 s.toNatClampNeg r427).1 19).toInt = (κ428.1 19).toInt := rfl
      have e456 : ((mA1 κ428 22 s.toNatClampNeg r427).1 32).toInt = (κ428.1 32).toInt := rfl
      have sr458 : srt (mA1 κ428 22 s.toNatClampNeg r427) = srt κ428 := srt_off rfl
      have nd457 := nd447.pa (x := r427)
      have p459 : TR (-1) (0) 0 0 0 (-1) ν (mA1 κ428 22 s.toNatClampNeg r427) := p445.trS g453 (Or.inr (Or.inr (by omega))) rfl rfl rfl rfl (by omega)
      have k460 := k449.tr g453 (Or.inr rfl) s0
      have cv461 : CVs (mA1 κ428 22 s.toNatClampNeg r427) (s.toInt + 1) (((mA1 κ428 22 s.toNatClampNeg r427)).1 19).toInt [] := cv446.st g453.rb (Int.le_refl _) (Or.inl (by omega)) rfl
      have b462 := FK.tr b452 g453 (by omega) (by omega)
      refine ⟨TR.mi p445.ps rfl rfl s0 (by omega), ?_⟩
      generalize mA1 κ428 22 s.toNatClampNeg r427 = κ454 at *
      have lt463 : s.toInt < (κ454.1 19).toInt := by omega
      refine MC.mono (c_is (by omega) p459.ps) (fun r464 κ465 h466 => ?_) (fun _ h => h)
      obtain ⟨rfl, rfl⟩ := h466
      refine ⟨fun hC => ?_, fun hC => ?_⟩
      · skip
        have g467 : TR s.toInt 0 0 0 0 0 κ465 (mA1 κ465 20 s.toNatClampNeg 6) := TR.put p459.ps s0 rfl rfl
        have e469 : ((mA1 κ465 20 s.toNatClampNeg 6).1 19).toInt = (κ465.1 19).toInt := rfl
        have e470 : ((mA1 κ465 20 s.toNatClampNeg 6).1 32).toInt = (κ465.1 32).toInt := rfl
        have sr472 : srt (mA1 κ465 20 s.toNatClampNeg 6) = srt κ465 := srt_off rfl
        have nd471 := nd457.pk (x := 6)
        have p473 : TR (-1) (0) 0 0 0 (-1) ν (mA1 κ465 20 s.toNatClampNeg 6) := p459.trS g467 (Or.inr (Or.inr (by omega))) rfl rfl rfl rfl (by omega)
        have k474 := k460.tr g467 (Or.inr rfl) s0
        have cv475 : CVs (mA1 κ465 20 s.toNatClampNeg 6) (s.toInt + 1) (((mA1 κ465 20 s.toNatClampNeg 6)).1 19).toInt [] := cv461.st g467.rb (Int.le_refl _) (Or.inl (by omega)) rfl
        have b476 := FK.tr b462 g467 (by omega) (by omega)
        refine ⟨TR.mi p459.ps rfl rfl s0 (by omega), ?_⟩
        generalize mA1 κ465 20 s.toNatClampNeg 6 = κ468 at *
        have lt477 : s.toInt < (κ468.1 19).toInt := by omega
        refine MC.mono (c_is (by omega) p473.ps) (fun r478 κ479 h480 => ?_) (fun _ h => h)
        obtain ⟨rfl, rfl⟩ := h480
        refine ⟨fun hD => ?_, fun hD => absurd (sr472.symm.trans (is_t hD)) (is_f hC)⟩
        refine MC.mono (t_expect (by omega) p473.ps (by decide) (fun _ h => hT _ (p473.1.1.tr h))) (fun v481 κ486 h482 => ?_) (fun _ h => h)
        obtain ⟨q483, m484, a485⟩ := h482
        have p487 : TR (-1) (0) 0 0 0 (-3) ν κ486 := p473.trS q483 (Or.inl (by decide)) rfl rfl rfl rfl (by omega)
        have k488 := k474.tr q483 (Or.inl (by decide)) s0
        have cv489 : CVs κ486 (s.toInt + 1) ((κ486).1 19).toInt [] := cv475.st q483.rb (Int.le_refl _) (Or.inl (by omega)) m484
        have b490 := FK.tr b476 q483 (by omega) (by omega)
        have nd491 := nd471.tr q483 (by have := @ic s; omega) (by omega)
        have lt492 : s.toInt < (κ486.1 19).toInt := by omega
        have x496 := p487.px
        have u497 := p487.2
        have y498 := tT p487
        have z499 := px0 p487.ps
        refine MC.mono (hL κ486 T h p487.ps (by omega) (by omega) (by omega) (fun _ h => hT _ (p487.1.1.tr h))) (fun r493 κ494 h495 => ?_) (fun _ h => h)
        obtain ⟨⟨z502, z503, z504, z505, z506⟩, c507⟩ := h495
        have q500 : TR (-1) 0 0 0 0 0 κ486 κ494 := ⟨z502, by omega⟩
        have g501 := z505
        have l508 := q500.l19
        have l509 := q500.l32
        have p510 : TR (-1) (0) 0 0 0 (-3) ν κ494 := p487.trS q500 (Or.inl (by decide)) rfl rfl rfl rfl (by omega)
        have k511 := k488.tr q500 (Or.inl (by decide)) s0
        have cv512 : CVs κ494 (s.toInt + 1) ((κ494).1 19).toInt [r493] := cv489.add q500.rb (Int.le_refl _) (Or.inl (by omega)) (by omega) l508 (LCO.of z505.in.1 c507)
        have b513 := FK.tr b490 q500 (by omega) (by omega)
        have nd514 := nd491.tr q500 (by have := @ic s; omega) (by omega)
        have lt515 : s.toInt < (κ494.1 19).toInt := by omega
        have k516 : Kd κ494 h s.toInt s 21 r493 := Kd.of g501 (by omega) (Int.le_refl _) s0 (Or.inl (by omega)) z506
        obtain ⟨A517, hA518⟩ : ∃ A : Int, A = (κ494.1 19).toInt := ⟨_, rfl⟩
        have b519 : FK κ494 (h) K 2 (1, 21) A450 A517 0 r493 := FK.one (by omega) (g501.up (Nat.le_refl _) (by omega) (by omega)) z506 (by decide) (by decide)
        have g520 : TR s.toInt 0 0 0 0 0 κ494 (mA1 κ494 23 s.toNatClampNeg r493) := TR.put p510.ps s0 rfl rfl
        have e522 : ((mA1 κ494 23 s.toNatClampNeg r493).1 19).toInt = (κ494.1 19).toInt := rfl
        have e523 : ((mA1 κ494 23 s.toNatClampNeg r493).1 32).toInt = (κ494.1 32).toInt := rfl
        have sr525 : srt (mA1 κ494 23 s.toNatClampNeg r493) = srt κ494 := srt_off rfl
        have nd524 := nd514.pb (x := r493)
        have p526 : TR (-1) (0) 0 0 0 (-3) ν (mA1 κ494 23 s.toNatClampNeg r493) := p510.trS g520 (Or.inr (Or.inr (by omega))) rfl rfl rfl rfl (by omega)
        have k527 := k511.tr g520 (Or.inr rfl) s0
        have k528 := k516.tr g520 (Or.inr rfl) s0
        have cv529 : CVs (mA1 κ494 23 s.toNatClampNeg r493) (s.toInt + 1) (((mA1 κ494 23 s.toNatClampNeg r493)).1 19).toInt [r493] := cv512.st g520.rb (Int.le_refl _) (Or.inl (by omega)) rfl
        have b530 := FK.tr b513 g520 (by omega) (by omega)
        have b531 := FK.tr b519 g520 (by omega) (by omega)
        refine ⟨TR.mi p510.ps rfl rfl s0 (by omega), ?_⟩
        generalize mA1 κ494 23 s.toNatClampNeg r493 = κ521 at *
        have lt532 : s.toInt < (κ521.1 19).toInt := by omega
        refine MC.mono (t_expect (by omega) p526.ps (by decide) (fun _ h => hT _ (p526.1.1.tr h))) (fun v533 κ538 h534 => ?_) (fun _ h => h)
        obtain ⟨q535, m536, a537⟩ := h534
        have p539 : TR (-1) (0) 0 0 0 (-5) ν κ538 := p526.trS q535 (Or.inl (by decide)) rfl rfl rfl rfl (by omega)
        have k540 := k527.tr q535 (Or.inl (by decide)) s0
        have k541 := k528.tr q535 (Or.inl (by decide)) s0
        have cv542 : CVs κ538 (s.toInt + 1) ((κ538).1 19).toInt [r493] := cv529.st q535.rb (Int.le_refl _) (Or.inl (by omega)) m536
        have b543 := FK.tr b530 q535 (by omega) (by omega)
        have b544 := FK.tr b531 q535 (by omega) (by omega)
        have nd545 := nd524.tr q535 (by have := @ic s; omega) (by omega)
        have lt546 : s.toInt < (κ538.1 19).toInt := by omega
        exact ⟨⟨⟨p539.1, by have := p539.2; omega⟩, by omega, (G.mk (lo := s.toInt) s0 (Int.le_refl _) lt546 nd545 (by decide) (k540) (k541) True.intro True.intro True.intro : G κ538 (h + 1) (bt s.toInt (κ538.1 19).toInt) 4 s).up (Nat.le_refl _) (by omega) (Int.le_refl _), nd545.2.2.2.2.2.2, (CO.fin' (by omega) cv542 s0 ⟨fun h => Par.fb nd545 (by decide) h, True.intro⟩ lt546)⟩, (fun K9 hK9 => by obtain rfl : K9 = K := (by omega); exact ⟨0 + 0 + 0 + 0 + 0 + 0, by omega, PK.mk (c0 := A334) (v0 := 0) (v1 := 0) (v2 := 0) (v3 := 0) (v4 := 0) nd545 s0 (by omega) (by omega) (by omega) (by decide) (by have e : ow (6 : Int32) = 0 := (by decide); omega) ((FK.up (by omega) b543)) ((FK.up (by omega) b544)) (FK.fr (Int.le_refl _)) (FK.fr (Int.le_refl _)) (FK.fr (Int.le_refl _))⟩)⟩
      · skip
        have g547 : TR s.toInt 0 0 0 0 0 κ465 (mA1 κ465 20 s.toNatClampNeg 5) := TR.put p459.ps s0 rfl rfl
        have e549 : ((mA1 κ465 20 s.toNatClampNeg 5).1 19).toInt = (κ465.1 19).toInt := rfl
        have e550 : ((mA1 κ465 20 s.toNatClampNeg 5).1 32).toInt = (κ465.1 32).toInt := rfl
        have sr552 : srt (mA1 κ465 20 s.toNatClampNeg 5) = srt κ465 := srt_off rfl
        have nd551 := nd457.pk (x := 5)
        have p553 : TR (-1) (0) 0 0 0 (-1) ν (mA1 κ465 20 s.toNatClampNeg 5) := p459.trS g547 (Or.inr (Or.inr (by omega))) rfl rfl rfl rfl (by omega)
        have k554 := k460.tr g547 (Or.inr rfl) s0
        have cv555 : CVs (mA1 κ465 20 s.toNatClampNeg 5) (s.toInt + 1) (((mA1 κ465 20 s.toNatClampNeg 5)).1 19).toInt [] := cv461.st g547.rb (Int.le_refl _) (Or.inl (by omega)) rfl
        have b556 := FK.tr b462 g547 (by omega) (by omega)
        refine ⟨TR.mi p459.ps rfl rfl s0 (by omega), ?_⟩
        generalize mA1 κ465 20 s.toNatClampNeg 5 = κ548 at *
        have lt557 : s.toInt < (κ548.1 19).toInt := by omega
        refine MC.mono (c_is (by omega) p553.ps) (fun r558 κ559 h560 => ?_) (fun _ h => h)
        obtain ⟨rfl, rfl⟩ := h560
        refine ⟨fun hD => absurd (sr552.trans (is_t hC)) (is_f hD), fun hD => ?_⟩
        have hk5 : ¬ srt κ559 = 203 := by rw [is_t hD]; decide
        refine MC.mono (t_next (by omega) p553.ps (hk5) (fun _ h => hT _ (p553.1.1.tr h))) (fun v561 κ566 h562 => ?_) (fun _ h => h)
        obtain ⟨q563, m564, a565⟩ := h562
        have p567 : TR (-1) (0) 0 0 0 (-3) ν κ566 := p553.trS q563 (Or.inl (by decide)) rfl rfl rfl rfl (by omega)
        have k568 := k554.tr q563 (Or.inl (by decide)) s0
        have cv569 : CVs κ566 (s.toInt + 1) ((κ566).1 19).toInt [] := cv555.st q563.rb (Int.le_refl _) (Or.inl (by omega)) m564
        have b570 := FK.tr b556 q563 (by omega) (by omega)
        have nd571 := nd551.tr q563 (by have := @ic s; omega) (by omega)
        have lt572 : s.toInt < (κ566.1 19).toInt := by omega
        have x576 := p567.px
        have u577 := p567.2
        have y578 := tT p567
        have z579 := px0 p567.ps
        refine MC.mono (hY κ566 T h p567.ps (by omega) (by omega) (by omega) (fun _ h => hT _ (p567.1.1.tr h))) (fun r573 κ574 h575 => ?_) (fun _ h => h)
        obtain ⟨⟨z582, z583, z584, z585, z586⟩, c587⟩ := h575
        have q580 : TR (-1) 0 0 0 0 0 κ566 κ574 := ⟨z582, by omega⟩
        have g581 := z585
        have l588 := q580.l19
        have l589 := q580.l32
        have p590 : TR (-1) (0) 0 0 0 (-3) ν κ574 := p567.trS q580 (Or.inl (by decide)) rfl rfl rfl rfl (by omega)
        have k591 := k568.tr q580 (Or.inl (by decide)) s0
        have cv592 : CVs κ574 (s.toInt + 1) ((κ574).1 19).toInt [r573] := cv569.add q580.rb (Int.le_refl _) (Or.inl (by omega)) (by omega) l588 (LCO.of z585.in.1 c587)
        have b593 := FK.tr b570 q580 (by omega) (by omega)
        have nd594 := nd571.tr q580 (by have := @ic s; omega) (by omega)
        have lt595 : s.toInt < (κ574.1 19).toInt := by omega
        have k596 : Kd κ574 h s.toInt s 0 r573 := Kd.of g581 (by omega) (Int.le_refl _) s0 (Or.inl (by omega)) z586
        obtain ⟨A597, hA598⟩ : ∃ A : Int, A = (κ574.1 19).toInt := ⟨_, rfl⟩
        have b599 : FK κ574 (h) K 2 (1, 0) A450 A597 0 r573 := FK.one (by omega) (g581.up (Nat.le_refl _) (by omega) (by omega)) z586 (by decide) (by decide)
        have g600 : TR s.toInt 0 0 0 0 0 κ574 (mA1 κ574 23 s.toNatClampNeg r573) := TR.put p590.ps s0 rfl rfl
        have e602 : ((mA1 κ574 23 s.toNatClampNeg r573).1 19).toInt = (κ574.1 19).toInt := rfl
        have e603 : ((mA1 κ574 23 s.toNatClampNeg r573).1 32).toInt = (κ574.1 32).toInt := rfl
        have sr605 : srt (mA1 κ574 23 s.toNatClampNeg r573) = srt κ574 := srt_off rfl
        have nd604 := nd594.pb (x := r573)
        have p606 : TR (-1) (0) 0 0 0 (-3) ν (mA1 κ574 23 s.toNatClampNeg r573) := p590.trS g600 (Or.inr (Or.inr (by omega))) rfl rfl rfl rfl (by omega)
        have k607 := k591.tr g600 (Or.inr rfl) s0
        have k608 := k596.tr g600 (Or.inr rfl) s0
        have cv609 : CVs (mA1 κ574 23 s.toNatClampNeg r573) (s.toInt + 1) (((mA1 κ574 23 s.toNatClampNeg r573)).1 19).toInt [r573] := cv592.st g600.rb (Int.le_refl _) (Or.inl (by omega)) rfl
        have b610 := FK.tr b593 g600 (by omega) (by omega)
        have b611 := FK.tr b599 g600 (by omega) (by omega)
        refine ⟨TR.mi p590.ps rfl rfl s0 (by omega), ?_⟩
        generalize mA1 κ574 23 s.toNatClampNeg r573 = κ601 at *
        have lt612 : s.toInt < (κ601.1 19).toInt := by omega
        refine MC.mono (t_expect (by omega) p606.ps (by decide) (fun _ h => hT _ (p606.1.1.tr h))) (fun v613 κ618 h614 => ?_) (fun _ h => h)
        obtain ⟨q615, m616, a617⟩ := h614
        have p619 : TR (-1) (0) 0 0 0 (-5) ν κ618 := p606.trS q615 (Or.inl (by decide)) rfl rfl rfl rfl (by omega)
        have k620 := k607.tr q615 (Or.inl (by decide)) s0
        have k621 := k608.tr q615 (Or.inl (by decide)) s0
        have cv622 : CVs κ618 (s.toInt + 1) ((κ618).1 19).toInt [r573] := cv609.st q615.rb (Int.le_refl _) (Or.inl (by omega)) m616
        have b623 := FK.tr b610 q615 (by omega) (by omega)
        have b624 := FK.tr b611 q615 (by omega) (by omega)
        have nd625 := nd604.tr q615 (by have := @ic s; omega) (by omega)
        have lt626 : s.toInt < (κ618.1 19).toInt := by omega
        exact ⟨⟨⟨p619.1, by have := p619.2; omega⟩, by omega, (G.mk (lo := s.toInt) s0 (Int.le_refl _) lt626 nd625 (by decide) (k620) (k621) True.intro True.intro True.intro : G κ618 (h + 1) (bt s.toInt (κ618.1 19).toInt) 4 s).up (Nat.le_refl _) (by omega) (Int.le_refl _), nd625.2.2.2.2.2.2, (CO.fin' (by omega) cv622 s0 ⟨fun h => Par.fb nd625 (by decide) h, True.intro⟩ lt626)⟩, (fun K9 hK9 => by obtain rfl : K9 = K := (by omega); exact ⟨0 + 0 + 0 + 0 + 0 + 0, by omega, PK.mk (c0 := A334) (v0 := 0) (v1 := 0) (v2 := 0) (v3 := 0) (v4 := 0) nd625 s0 (by omega) (by omega) (by omega) (by decide) (by have e : ow (5 : Int32) = 0 := (by decide); omega) ((FK.up (by omega) b623)) ((FK.up (by omega) b624)) (FK.fr (Int.le_refl _)) (FK.fr (Int.le_refl _)) (FK.fr (Int.le_refl _))⟩)⟩
  · skip
    refine MC.mono (t_next (by omega) p0.ps (hk3) (fun _ h => hT _ (p0.1.1.tr h))) (fun v627 κ632 h628 => ?_) (fun _ h => h)
    obtain ⟨q629, m630, a631⟩ := h628
    have p633 : TR (-1) (0) 0 0 0 (-1) ν κ632 := p0.trS q629 (Or.inl (by decide)) rfl rfl rfl rfl (by omega)
    have cv634 : CVs κ632 (s.toInt + 1) ((κ632).1 19).toInt [] := cv0.st q629.rb (Int.le_refl _) (Or.inl (by omega)) m630
    have nd635 := nd0.tr q629 (by have := @ic s; omega) (by omega)
    have lt636 : s.toInt < (κ632.1 19).toInt := by omega
    refine MC.mono (c_line (by omega) p633.ps.1 p633.ps.at.1 p633.ps.at.2) (fun r637 κ638 h639 => ?_) (fun _ h => h)
    subst h639
    have g640 : TR s.toInt 0 0 0 0 0 κ638 (mA1 κ638 31 s.toNatClampNeg r637) := TR.put p633.ps s0 rfl rfl
    have e642 : ((mA1 κ638 31 s.toNatClampNeg r637).1 19).toInt = (κ638.1 19).toInt := rfl
    have e643 : ((mA1 κ638 31 s.toNatClampNeg r637).1 32).toInt = (κ638.1 32).toInt := rfl
    have sr645 : srt (mA1 κ638 31 s.toNatClampNeg r637) = srt κ638 := srt_off rfl
    have nd644 := nd635.p31 (x := r637)
    have p646 : TR (-1) (0) 0 0 0 (-1) ν (mA1 κ638 31 s.toNatClampNeg r637) := p633.trS g640 (Or.inr (Or.inr (by omega))) rfl rfl rfl rfl (by omega)
    have cv647 : CVs (mA1 κ638 31 s.toNatClampNeg r637) (s.toInt + 1) (((mA1 κ638 31 s.toNatClampNeg r637)).1 19).toInt [] := cv634.st g640.rb (Int.le_refl _) (Or.inl (by omega)) rfl
    refine ⟨TR.mi p633.ps rfl rfl s0 (by omega), ?_⟩
    generalize mA1 κ638 31 s.toNatClampNeg r637 = κ641 at *
    have lt648 : s.toInt < (κ641.1 19).toInt := by omega
    refine MC.mono (t_name (by omega) p646.ps (fun _ h => hT _ (p646.1.1.tr h))) (fun v649 κ654 h650 => ?_) (fun _ h => h)
    obtain ⟨q651, m652, a653⟩ := h650
    have p655 : TR (-1) (0) 0 0 0 (-3) ν κ654 := p646.trS q651 (Or.inl (by decide)) rfl rfl rfl rfl (by omega)
    have cv656 : CVs κ654 (s.toInt + 1) ((κ654).1 19).toInt [] := cv647.st q651.rb (Int.le_refl _) (Or.inl (by omega)) m652
    have nd657 := nd644.tr q651 (by have := @ic s; omega) (by omega)
    have lt658 : s.toInt < (κ654.1 19).toInt := by omega
    have g659 : TR s.toInt 0 0 0 0 0 κ654 (mA1 κ654 22 s.toNatClampNeg v649) := TR.put p655.ps s0 rfl rfl
    have e661 : ((mA1 κ654 22 s.toNatClampNeg v649).1 19).toInt = (κ654.1 19).toInt := rfl
    have e662 : ((mA1 κ654 22 s.toNatClampNeg v649).1 32).toInt = (κ654.1 32).toInt := rfl
    have sr664 : srt (mA1 κ654 22 s.toNatClampNeg v649) = srt κ654 := srt_off rfl
    have nd663 := nd657.pa (x := v649)
    have p665 : TR (-1) (0) 0 0 0 (-3) ν (mA1 κ654 22 s.toNatClampNeg v649) := p655.trS g659 (Or.inr (Or.inr (by omega))) rfl rfl rfl rfl (by omega)
    have cv666 : CVs (mA1 κ654 22 s.toNatClampNeg v649) (s.toInt + 1) (((mA1 κ654 22 s.toNatClampNeg v649)).1 19).toInt [] := cv656.st g659.rb (Int.le_refl _) (Or.inl (by omega)) rfl
    refine ⟨TR.mi p655.ps rfl rfl s0 (by omega), ?_⟩
    generalize mA1 κ654 22 s.toNatClampNeg v649 = κ660 at *
    have lt667 : s.toInt < (κ660.1 19).toInt := by omega
    refine MC.mono (c_is (by omega) p665.ps) (fun r668 κ669 h670 => ?_) (fun _ h => h)
    obtain ⟨rfl, rfl⟩ := h670
    refine ⟨fun hB => ?_, fun hB => ?_⟩
    · skip
      refine MC.mono (c_is (by omega) p665.ps) (fun r671 κ672 h673 => ?_) (fun _ h => h)
      obtain ⟨rfl, rfl⟩ := h673
      refine ⟨fun hC => ?_, fun _ => MC.mono (c_unfit (by omega) p665.ps (fun _ h => hT _ (p665.1.1.tr h))) (fun _ _ h => h.elim) (fun _ h => h)⟩
      have hk5 : ¬ srt κ672 = 203 := by rw [is_t hC]; decide
      refine MC.mono (t_next (by omega) p665.ps (hk5) (fun _ h => hT _ (p665.1.1.tr h))) (fun v674 κ679 h675 => ?_) (fun _ h => h)
      obtain ⟨q676, m677, a678⟩ := h675
      have p680 : TR (-1) (0) 0 0 0 (-5) ν κ679 := p665.trS q676 (Or.inl (by decide)) rfl rfl rfl rfl (by omega)
      have cv681 : CVs κ679 (s.toInt + 1) ((κ679).1 19).toInt [] := cv666.st q676.rb (Int.le_refl _) (Or.inl (by omega)) m677
      have nd682 := nd663.tr q676 (by have := @ic s; omega) (by omega)
      have lt683 : s.toInt < (κ679.1 19).toInt := by omega
      have x687 := p680.px
      have u688 := p680.2
      have y689 := tT p680
      have z690 := px0 p680.ps
      refine MC.mono (hY κ679 T h p680.ps (by omega) (by omega) (by omega) (fun _ h => hT _ (p680.1.1.tr h))) (fun r684 κ685 h686 => ?_) (fun _ h => h)
      obtain ⟨⟨z693, z694, z695, z696, z697⟩, c698⟩ := h686
      have q691 : TR (-1) 0 0 0 0 0 κ679 κ685 := ⟨z693, by omega⟩
      have g692 := z696
      have l699 := q691.l19
      have l700 := q691.l32
      have p701 : TR (-1) (0) 0 0 0 (-5) ν κ685 := p680.trS q691 (Or.inl (by decide)) rfl rfl rfl rfl (by omega)
      have cv702 : CVs κ685 (s.toInt + 1) ((κ685).1 19).toInt [r684] := cv681.add q691.rb (Int.le_refl _) (Or.inl (by omega)) (by omega) l699 (LCO.of z696.in.1 c698)
      have nd703 := nd682.tr q691 (by have := @ic s; omega) (by omega)
      have lt704 : s.toInt < (κ685.1 19).toInt := by omega
      have k705 : Kd κ685 h s.toInt s 0 r684 := Kd.of g692 (by omega) (Int.le_refl _) s0 (Or.inl (by omega)) z697
      obtain ⟨A706, hA707⟩ : ∃ A : Int, A = (κ685.1 19).toInt := ⟨_, rfl⟩
      have b708 : FK κ685 (h) K 2 (1, 0) A334 A706 0 r684 := FK.one (by omega) (g692.up (Nat.le_refl _) (by omega) (by omega)) z697 (by decide) (by decide)
      have g709 : TR s.toInt 0 0 0 0 0 κ685 (mA1 κ685 23 s.toNatClampNeg r684) := TR.put p701.ps s0 rfl rfl
      have e711 : ((mA1 κ685 23 s.toNatClampNeg r684).1 19).toInt = (κ685.1 19).toInt := rfl
      have e712 : ((mA1 κ685 23 s.toNatClampNeg r684).1 32).toInt = (κ685.1 32).toInt := rfl
      have sr714 : srt (mA1 κ685 23 s.toNatClampNeg r684) = srt κ685 := srt_off rfl
      have nd713 := nd703.pb (x := r684)
      have p715 : TR (-1) (0) 0 0 0 (-5) ν (mA1 κ685 23 s.toNatClampNeg r684) := p701.trS g709 (Or.inr (Or.inr (by omega))) rfl rfl rfl rfl (by omega)
      have k716 := k705.tr g709 (Or.inr rfl) s0
      have cv717 : CVs (mA1 κ685 23 s.toNatClampNeg r684) (s.toInt + 1) (((mA1 κ685 23 s.toNatClampNeg r684)).1 19).toInt [r684] := cv702.st g709.rb (Int.le_refl _) (Or.inl (by omega)) rfl
      have b718 := FK.tr b708 g709 (by omega) (by omega)
      refine ⟨TR.mi p701.ps rfl rfl s0 (by omega), ?_⟩
      generalize mA1 κ685 23 s.toNatClampNeg r684 = κ710 at *
      have lt719 : s.toInt < (κ710.1 19).toInt := by omega
      refine MC.mono (t_expect (by omega) p715.ps (by decide) (fun _ h => hT _ (p715.1.1.tr h))) (fun v720 κ725 h721 => ?_) (fun _ h => h)
      obtain ⟨q722, m723, a724⟩ := h721
      have p726 : TR (-1) (0) 0 0 0 (-7) ν κ725 := p715.trS q722 (Or.inl (by decide)) rfl rfl rfl rfl (by omega)
      have k727 := k716.tr q722 (Or.inl (by decide)) s0
      have cv728 : CVs κ725 (s.toInt + 1) ((κ725).1 19).toInt [r684] := cv717.st q722.rb (Int.le_refl _) (Or.inl (by omega)) m723
      have b729 := FK.tr b718 q722 (by omega) (by omega)
      have nd730 := nd713.tr q722 (by have := @ic s; omega) (by omega)
      have lt731 : s.toInt < (κ725.1 19).toInt := by omega
      exact ⟨⟨⟨p726.1, by have := p726.2; omega⟩, by omega, (G.mk (lo := s.toInt) s0 (Int.le_refl _) lt731 nd730 (by decide) True.intro (k727) True.intro True.intro True.intro : G κ725 (h + 1) (bt s.toInt (κ725.1 19).toInt) 4 s).up (Nat.le_refl _) (by omega) (Int.le_refl _), nd730.2.2.2.2.2.2, (CO.fin' (by omega) cv728 s0 ⟨fun h => Par.fb nd730 (by decide) h, True.intro⟩ lt731)⟩, (fun K9 hK9 => by obtain rfl : K9 = K := (by omega); exact ⟨0 + 0 + 0 + 0 + 0 + 1, by omega, PK.mk (c0 := A334) (v0 := 0) (v1 := 0) (v2 := 0) (v3 := 0) (v4 := 0) nd730 s0 (by omega) (by omega) (by omega) (by decide) (by have e : ow (3 : Int32) = 1 := (by decide); omega) (FK.fr (Int.le_refl _)) ((FK.up (by omega) b729)) (FK.fr (Int.le_refl _)) (FK.fr (Int.le_refl _)) (FK.fr (Int.le_refl _))⟩)⟩
    · skip
      have hk5 : ¬ srt κ669 = 203 := by rw [is_t hB]; decide
      have g732 : TR s.toInt 0 0 0 0 0 κ669 (mA1 κ669 20 s.toNatClampNeg 4) := TR.put p665.ps s0 rfl rfl
      have e734 : ((mA1 κ669 20 s.toNatClampNeg 4).1 19).toInt = (κ669.1 19).toInt := rfl
      have e735 : ((mA1 κ669 20 s.toNatClampNeg 4).1 32).toInt = (κ669.1 32).toInt := rfl
      have sr737 : srt (mA1 κ669 20 s.toNatClampNeg 4) = srt κ669 := srt_off rfl
      have nd736 := nd663.pk (x := 4)
      have p738 : TR (-1) (0) 0 0 0 (-3) ν (mA1 κ669 20 s.toNatClampNeg 4) := p665.trS g732 (Or.inr (Or.inr (by omega))) rfl rfl rfl rfl (by omega)
      have cv739 : CVs (mA1 κ669 20 s.toNatClampNeg 4) (s.toInt + 1) (((mA1 κ669 20 s.toNatClampNeg 4)).1 19).toInt [] := cv666.st g732.rb (Int.le_refl _) (Or.inl (by omega)) rfl
      refine ⟨TR.mi p665.ps rfl rfl s0 (by omega), ?_⟩
      generalize mA1 κ669 20 s.toNatClampNeg 4 = κ733 at *
      have lt740 : s.toInt < (κ733.1 19).toInt := by omega
      have hk6 : ¬ srt κ733 = 203 := by rw [sr737]; exact hk5
      refine MC.mono (t_next (by omega) p738.ps (hk6) (fun _ h => hT _ (p738.1.1.tr h))) (fun v741 κ746 h742 => ?_) (fun _ h => h)
      obtain ⟨q743, m744, a745⟩ := h742
      have p747 : TR (-1) (0) 0 0 0 (-5) ν κ746 := p738.trS q743 (Or.inl (by decide)) rfl rfl rfl rfl (by omega)
      have cv748 : CVs κ746 (s.toInt + 1) ((κ746).1 19).toInt [] := cv739.st q743.rb (Int.le_refl _) (Or.inl (by omega)) m744
      have nd749 := nd736.tr q743 (by have := @ic s; omega) (by omega)
      have lt750 : s.toInt < (κ746.1 19).toInt := by omega
      have x754 := p747.px
      have u755 := p747.2
      have y756 := tT p747
      have z757 := px0 p747.ps
      refine MC.mono (hY κ746 T h p747.ps (by omega) (by omega) (by omega) (fun _ h => hT _ (p747.1.1.tr h))) (fun r751 κ752 h753 => ?_) (fun _ h => h)
      obtain ⟨⟨z760, z761, z762, z763, z764⟩, c765⟩ := h753
      have q758 : TR (-1) 0 0 0 0 0 κ746 κ752 := ⟨z760, by omega⟩
      have g759 := z763
      have l766 := q758.l19
      have l767 := q758.l32
      have p768 : TR (-1) (0) 0 0 0 (-5) ν κ752 := p747.trS q758 (Or.inl (by decide)) rfl rfl rfl rfl (by omega)
      have cv769 : CVs κ752 (s.toInt + 1) ((κ752).1 19).toInt [r751] := cv748.add q758.rb (Int.le_refl _) (Or.inl (by omega)) (by omega) l766 (LCO.of z763.in.1 c765)
      have nd770 := nd749.tr q758 (by have := @ic s; omega) (by omega)
      have lt771 : s.toInt < (κ752.1 19).toInt := by omega
      have k772 : Kd κ752 h s.toInt s 0 r751 := Kd.of g759 (by omega) (Int.le_refl _) s0 (Or.inl (by omega)) z764
      obtain ⟨A773, hA774⟩ : ∃ A : Int, A = (κ752.1 19).toInt := ⟨_, rfl⟩
      have b775 : FK κ752 (h) K 2 (1, 0) A334 A773 0 r751 := FK.one (by omega) (g759.up (Nat.le_refl _) (by omega) (by omega)) z764 (by decide) (by decide)
      have g776 : TR s.toInt 0 0 0 0 0 κ752 (mA1 κ752 23 s.toNatClampNeg r751) := TR.put p768.ps s0 rfl rfl
      have e778 : ((mA1 κ752 23 s.toNatClampNeg r751).1 19).toInt = (κ752.1 19).toInt := rfl
      have e779 : ((mA1 κ752 23 s.toNatClampNeg r751).1 32).toInt = (κ752.1 32).toInt := rfl
      have sr781 : srt (mA1 κ752 23 s.toNatClampNeg r751) = srt κ752 := srt_off rfl
      have nd780 := nd770.pb (x := r751)
      have p782 : TR (-1) (0) 0 0 0 (-5) ν (mA1 κ752 23 s.toNatClampNeg r751) := p768.trS g776 (Or.inr (Or.inr (by omega))) rfl rfl rfl rfl (by omega)
      have k783 := k772.tr g776 (Or.inr rfl) s0
      have cv784 : CVs (mA1 κ752 23 s.toNatClampNeg r751) (s.toInt + 1) (((mA1 κ752 23 s.toNatClampNeg r751)).1 19).toInt [r751] := cv769.st g776.rb (Int.le_refl _) (Or.inl (by omega)) rfl
      have b785 := FK.tr b775 g776 (by omega) (by omega)
      refine ⟨TR.mi p768.ps rfl rfl s0 (by omega), ?_⟩
      generalize mA1 κ752 23 s.toNatClampNeg r751 = κ777 at *
      have lt786 : s.toInt < (κ777.1 19).toInt := by omega
      refine MC.mono (t_expect (by omega) p782.ps (by decide) (fun _ h => hT _ (p782.1.1.tr h))) (fun v787 κ792 h788 => ?_) (fun _ h => h)
      obtain ⟨q789, m790, a791⟩ := h788
      have p793 : TR (-1) (0) 0 0 0 (-7) ν κ792 := p782.trS q789 (Or.inl (by decide)) rfl rfl rfl rfl (by omega)
      have k794 := k783.tr q789 (Or.inl (by decide)) s0
      have cv795 : CVs κ792 (s.toInt + 1) ((κ792).1 19).toInt [r751] := cv784.st q789.rb (Int.le_refl _) (Or.inl (by omega)) m790
      have b796 := FK.tr b785 q789 (by omega) (by omega)
      have nd797 := nd780.tr q789 (by have := @ic s; omega) (by omega)
      have lt798 : s.toInt < (κ792.1 19).toInt := by omega
      exact ⟨⟨⟨p793.1, by have := p793.2; omega⟩, by omega, (G.mk (lo := s.toInt) s0 (Int.le_refl _) lt798 nd797 (by decide) True.intro (k794) True.intro True.intro True.intro : G κ792 (h + 1) (bt s.toInt (κ792.1 19).toInt) 4 s).up (Nat.le_refl _) (by omega) (Int.le_refl _), nd797.2.2.2.2.2.2, (CO.fin' (by omega) cv795 s0 ⟨fun h => Par.fb nd797 (by decide) h, True.intro⟩ lt798)⟩, (fun K9 hK9 => by obtain rfl : K9 = K := (by omega); exact ⟨0 + 0 + 0 + 0 + 0 + 1, by omega, PK.mk (c0 := A334) (v0 := 0) (v1 := 0) (v2 := 0) (v3 := 0) (v4 := 0) nd797 s0 (by omega) (by omega) (by omega) (by decide) (by have e : ow (4 : Int32) = 1 := (by decide); omega) (FK.fr (Int.le_refl _)) ((FK.up (by omega) b796)) (FK.fr (Int.le_refl _)) (FK.fr (Int.le_refl _)) (FK.fr (Int.le_refl _))⟩)⟩
end PSL
