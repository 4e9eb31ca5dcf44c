/-! contracts of the reference: units, the whole text -/
/-- a list whose nodes lie between two counts -/
def LB (ν : MS) (h s : Nat) (lo hi : Int) (x : Int32) : Prop := ∃ m, Lst (G ν h (bt lo hi) s) (ν.2.1 27) m x
theorem LB.tr {r b n t s' δ lo hi : Int} {ν ν1 : MS} {h s : Nat} {x : Int32} (hL : LB ν h s lo hi x) (q : TR r b n t s' δ ν ν1) (hn : hi ≤ (ν.1 19).toInt) (hr : r < lo ∨ hi ≤ r) : LB ν1 h s lo hi x := by
  obtain ⟨m, hm⟩ := hL
  refine ⟨m, hm.mono (fun y hy => hy.tr q hn hr) (fun y hy => ?_)⟩
  obtain ⟨-, k2, k3⟩ := hy.in
  exact q.rb 27 (by omega) (by omega) _ (by omega) (by omega)
theorem LB.nil {ν : MS} {h s : Nat} {lo hi : Int} : LB ν h s lo hi (-1) := ⟨0, rfl⟩
/-- the slots and rows of the parser and of its units -/
abbrev SPU : List Nat := [17, 18, 19, 32, 33, 34, 37, 38, 39, 40, 41]
abbrev RPU : List Nat := [20, 21, 22, 23, 24, 25, 26, 27, 28, 29, 30, 31, 42]
/-- a unit more -/
def UnP (h : Nat) (μ μ1 : MS) : Prop := kf SPA RPU μ μ1 ∧ PS μ1 ∧ ((μ.1 19).toInt ≤ (μ1.1 19).toInt ∧ (μ.1 32).toInt < (μ1.1 32).toInt ∧ (μ1.1 19).toInt + 2 * (μ.1 32).toInt ≤ (μ.1 19).toInt + 2 * (μ1.1 32).toInt) ∧ RB (-1) (μ.1 19).toInt μ μ1 ∧ ((μ1.1 37).toInt = (μ.1 37).toInt ∧ (μ1.1 38).toInt = (μ.1 38).toInt ∧ (μ1.1 39).toInt = (μ.1 39).toInt ∧ (μ1.1 40).toInt = (μ.1 40).toInt) ∧ NC μ μ1 ∧
  ∃ u, G μ1 h (bt (μ.1 19).toInt (μ1.1 19).toInt) 20 u ∧ μ1.2.1 42 = upd (μ.2.1 42) (μ.1 41).toNatClampNeg u ∧ CO μ1 (μ.1 19).toInt (μ1.1 19).toInt u
def UnC (X : ev_X) (W : Nat → Prop) (P : MP) (d : Nat) : Prop := ∀ (μ : MS) (T : MS → Prop) (h : Nat), PS μ → psS μ + 22 ≤ d → hiS μ + 14 ≤ h → (μ.1 19).toInt ≤ 2 * (μ.1 32).toInt + 30 → (∀ μ1, kf SPA RPU μ μ1 → T μ1) → ¬ srt μ = 203 → 0 ≤ (μ.1 41).toInt → (μ.1 41).toInt < 14 →
  MC X W true d 302 [.ref P.1] P μ (fun _ μ1 => UnP h μ μ1) T
section PSM
variable {X : ev_X} {W : Nat → Prop} {d : Nat} {P : MP}
theorem un_98 (hD : DeC X W P d) (hSt : SL X W P 321 [] 3 19 11 d) {κ : MS} {T : MS → Prop} {h : Nat} {s md : Int32} {R : MS → Prop} (pκ : PS κ) (hd : psS κ + 22 ≤ (d : Int) + 1) (hh : hiS κ + 14 ≤ (h : Int) + 1) (hn : (κ.1 19).toInt ≤ 2 * (κ.1 32).toInt + 29) (hTκ : ∀ μ1, kf SPA RPA κ μ1 → T μ1) (s0 : 0 ≤ s.toInt) (s9 : s.toInt < 15990) (s1 : s.toInt + 1 = (κ.1 19).toInt)
    (out : ∀ ζ : MS, TR s.toInt 0 0 0 0 0 κ ζ → G ζ (h + 1) (bt s.toInt (ζ.1 19).toInt) 20 s → CO ζ s.toInt (ζ.1 19).toInt s → R ζ) : ∀ (nm im e : Int32) (ζ : MS), TR s.toInt 0 0 0 0 0 κ ζ → s.toInt < (ζ.1 19).toInt → ND ζ s.toNatClampNeg 1 nm im (-1) (-1) e (-1) → LB ζ h 5 (s.toInt + 1) (ζ.1 19).toInt im → NS ζ (s.toInt + 1) (ζ.1 19).toInt → ME X W true d 302 98 [(0, .ref P.1), (1, .int md), (2, .int s)] [] P ζ (fun _ μ1 => R μ1) T := by
  have hp := px0 pκ
  have h0 := pκ.2.2.2.2.1
  have at0 := pκ.at
  have hcs := @ic s
  have s207 : ∀ (nm im f st e x4 : Int32) (ζ : MS), TR s.toInt 0 0 0 0 0 κ ζ → s.toInt < (ζ.1 19).toInt → ND ζ s.toNatClampNeg 1 nm im f st e (-1) → KL ζ h s.toInt s 5 im → KL ζ h s.toInt s 4 f → KL ζ h s.toInt s 3 st → CVs ζ (s.toInt + 1) (ζ.1 19).toInt [st, f] → ME X W true d 302 207 [(0, .ref P.1), (1, .int md), (2, .int s), (3, .int f), (4, .int x4)] [] P ζ (fun _ μ1 => R μ1) T := fun nm im f st e x4 ζ p1 lt1 nd1 k1 k2 k3 cv1 => by
    refine v_parseUnit_207 _ _ _ _ ?_
    refine MC.mono (t_expect (by omega) p1.ps (by decide) (fun _ h => hTκ _ (p1.1.1.tr h))) (fun v708 κ713 h709 => ?_) (fun _ h => h)
    obtain ⟨q710, m711, a712⟩ := h709
    have p714 : TR (s.toInt) (0) 0 0 0 (-2) κ κ713 := p1.trS q710 (Or.inl (by decide)) rfl rfl rfl rfl (by omega)
    have k715 := k1.tr q710 (Or.inl (by decide)) s0
    have k716 := k2.tr q710 (Or.inl (by decide)) s0
    have k717 := k3.tr q710 (Or.inl (by decide)) s0
    have cv718 : CVs κ713 (s.toInt + 1) ((κ713).1 19).toInt [st, f] := cv1.st q710.rb (Int.le_refl _) (Or.inl (by omega)) m711
    have nd719 := nd1.tr q710 (by have := @ic s; omega) (by omega)
    have lt720 : s.toInt < (κ713.1 19).toInt := by omega
    refine ⟨TR.mi p714.ps rfl rfl s0 (by omega), ?_⟩
    refine MC.mono (t_endName (by omega) p714.ps (fun _ h => hTκ _ (p714.1.1.tr h))) (fun v721 κ726 h722 => ?_) (fun _ h => h)
    obtain ⟨q723, m724, a725⟩ := h722
    have p727 : TR (s.toInt) (0) 0 0 0 (-4) κ κ726 := p714.trS q723 (Or.inl (by decide)) rfl rfl rfl rfl (by omega)
    have k728 := k715.tr q723 (Or.inl (by decide)) s0
    have k729 := k716.tr q723 (Or.inl (by decide)) s0
    have k730 := k717.tr q723 (Or.inl (by decide)) s0
    have cv731 : CVs κ726 (s.toInt + 1) ((κ726).1 19).toInt [st, f] := cv718.st q723.rb (Int.le_refl _) (Or.inl (by omega)) m724
    have nd732 := nd719.tr q723 (by have := @ic s; omega) (by omega)
    have lt733 : s.toInt < (κ726.1 19).toInt := by omega
    refine MC.mono (t_expect (by omega) p727.ps (by decide) (fun _ h => hTκ _ (p727.1.1.tr h))) (fun v734 κ739 h735 => ?_) (fun _ h => h)
    obtain ⟨q736, m737, a738⟩ := h735
    have p740 : TR (s.toInt) (0) 0 0 0 (-6) κ κ739 := p727.trS q736 (Or.inl (by decide)) rfl rfl rfl rfl (by omega)
    have k741 := k728.tr q736 (Or.inl (by decide)) s0
    have k742 := k729.tr q736 (Or.inl (by decide)) s0
    have k743 := k730.tr q736 (Or.inl (by decide)) s0
    have cv744 : CVs κ739 (s.toInt + 1) ((κ739).1 19).toInt [st, f] := cv731.st q736.rb (Int.le_refl _) (Or.inl (by omega)) m737
    have nd745 := nd732.tr q736 (by have := @ic s; omega) (by omega)
    have lt746 : s.toInt < (κ739.1 19).toInt := by omega
    exact out _ ⟨p740.1, by have := p740.2; omega⟩ (G.mk s0 (Int.le_refl _) lt746 nd745 (by decide) True.intro (k741) (k742) (k743) True.intro) (CO.fin' rfl cv744 s0 ⟨fun h => Par.fd nd745 (by decide) h, fun h => Par.fc nd745 (by decide) h, True.intro⟩ lt746)
  have key : ∀ (j : Nat) (n0 : Int) (nm im e f x4 : Int32) (ζ : MS), s.toInt < n0 → n0 ≤ (ζ.1 19).toInt → ((κ.1 8).toInt - (ζ.1 32).toInt).toNat < j → TR s.toInt 0 0 0 0 0 κ ζ → s.toInt < (ζ.1 19).toInt → ND ζ s.toNatClampNeg 1 nm im (-1) (-1) e (-1) → LB ζ h 5 (s.toInt + 1) n0 im → OL 4 h n0 ζ f x4 → NS ζ (s.toInt + 1) n0 → OC ζ n0 (ζ.1 19).toInt f x4 → ME X W true d 302 103 [(0, .ref P.1), (1, .int md), (2, .int s), (3, .int f), (4, .int x4)] [] P ζ (fun _ μ1 => R μ1) T := by
    intro j
    induction j with
    | zero => intro n0 nm im e f x4 ζ hn1 hn2 hj; omega
    | succ j ih =>
      intro n0 nm im e f x4 ζ hn1 hn2 hj pζ ltζ ndζ gζ hO cI hB
      have e8 := eq_i (pζ.1.1.1 8 rfl)
      have t8 := pζ.ps.2.2.1.2
      have at1 := pζ.ps.at
      have uζ := pζ.2
      have xζ := pζ.px
      -- a declaration more
      have more : ¬ srt ζ = 203 → ME X W true d 302 148 [(0, .ref P.1), (1, .int md), (2, .int s), (3, .int f), (4, .int x4)] [] P ζ (fun _ μ1 => R μ1) T := fun h3 => by
        refine v_parseUnit_148 _ _ _ _ (MC.mono (hD ζ T h md pζ.ps (by omega) (by omega) (by omega) (fun _ h => hTκ _ (pζ.1.1.tr h)) h3) (fun r ζ1 h1 => ?_) (fun _ h => h))
        obtain ⟨v1, v2, v3, v4, vc⟩ := h1
        have p1 : TR s.toInt 0 0 0 0 0 κ ζ1 := pζ.trS v1 (Or.inl (by decide)) rfl rfl rfl rfl (by omega)
        have l1 := v1.l19
        have at2 := p1.ps.at
        have u2 := p1.2
        have nd1 := ndζ.tr v1 (by omega) (by omega)
        have gg1 := gζ.tr v1 hn2 (Or.inl (by omega))
        have cI1 := cI.rb v1.rb hn2 (Or.inl (by omega))
        have hB1 := hB.rb v1.rb (Int.le_refl _) (Or.inl (by omega))
        refine ⟨fun hx1 => ?_, fun hx1 => ?_⟩
        · rcases hO.sg with ⟨w1, -⟩ | ⟨w1, w2⟩
          · rw [w1] at hx1; exact absurd hx1 (by decide)
          obtain ⟨j1, j2, j3⟩ := hO.in w2
          have hc2 := @ic x4
          have g9 : TR x4.toInt 0 0 0 0 0 ζ1 (mA1 ζ1 27 x4.toNatClampNeg r) := TR.put p1.ps w2 rfl rfl
          exact ⟨TR.mi p1.ps rfl rfl w2 (by omega), v_parseUnit_174 _ _ _ _ _ (ih n0 nm im e f r _ hn1 (by show _ ≤ (ζ1.1 19).toInt; omega) (by show ((κ.1 8).toInt - (ζ1.1 32).toInt).toNat < j; omega) (p1.trS g9 (Or.inr (Or.inr (by omega))) rfl rfl rfl rfl (by omega)) (by show _ < (ζ1.1 19).toInt; omega) (nd1.off (by omega)) (gg1.tr g9 (by omega) (Or.inr (by omega))) (hO.add w2 v1 (by omega) v3 v4) (cI1.rb g9.rb (by omega) (Or.inr (by omega))) (hB1.add w2 j2 j3 j1 vc v3.in.1 v1.l19 (by rw [v1.rb 27 (by omega) (by omega) _ (by omega) (by omega)]; exact hO.nn w2)))⟩
        · have hf : f = -1 := by
            rcases hO.sg with ⟨w1, -⟩ | ⟨w1, -⟩
            · exact w1
            · omega
          refine v_parseUnit_174 _ _ _ _ _ (ih n0 nm im e r r _ hn1 (by omega) (by omega) p1 (by omega) nd1 gg1 (OL.one (v3.up (Nat.le_refl _) (by omega) (Int.le_refl _)) (by omega) v4) cI1 ?_)
          rcases hB1 with ⟨-, w⟩ | ⟨w, -⟩
          · exact OC.one (vc.ahead w (by omega)) v3.in.1
          · rw [hf] at w; exact absurd w (by decide)
      refine v_parseUnit_103 _ _ _ _ (MC.mono (c_is (by omega) pζ.ps) (fun r1 ζ1 h1 => ?_) (fun _ h => h))
      obtain ⟨rfl, rfl⟩ := h1
      refine ⟨fun h1 => more (by rw [is_t h1]; decide), fun _ => MC.mono (c_is (by omega) pζ.ps) (fun r1 ζ1 h1 => ?_) (fun _ h => h)⟩
      obtain ⟨rfl, rfl⟩ := h1
      refine ⟨fun h1 => more (by rw [is_t h1]; decide), fun _ => MC.mono (c_is (by omega) pζ.ps) (fun r1 ζ1 h1 => ?_) (fun _ h => h)⟩
      obtain ⟨rfl, rfl⟩ := h1
      refine ⟨fun h1 => more (by rw [is_t h1]; decide), fun _ => MC.mono (c_is (by omega) pζ.ps) (fun r1 ζ1 h1 => ?_) (fun _ h => h)⟩
      obtain ⟨rfl, rfl⟩ := h1
      refine ⟨fun h1 => more (by rw [is_t h1]; decide), fun _ => MC.mono (c_is (by omega) pζ.ps) (fun r1 ζ9 h1 => ?_) (fun _ h => h)⟩
      obtain ⟨rfl, rfl⟩ := h1
      refine ⟨fun _ => ?_, fun h1 => more (by rw [is_t h1]; decide)⟩
      have kI : KL ζ9 h s.toInt s 5 im := KL.of gζ (by omega) hn2 s0 (Or.inl (by omega))
      have kO : KL ζ9 h s.toInt s 4 f := KL.of hO.lst (by omega) (Int.le_refl _) s0 (Or.inl (by omega))
      have cv9 : CVs ζ9 (s.toInt + 1) (ζ9.1 19).toInt [f] := ((CVs.nil (Int.le_refl _) : CVs ζ9 (s.toInt + 1) (s.toInt + 1) []).ns (e := -1) (n := s.toInt + 1) RB.rf (Int.le_refl _) (Or.inl (by omega)) (by omega) cI).add (e := -1) (n := n0) RB.rf (Int.le_refl _) (Or.inl (by omega)) (by omega) hn2 hB.l
      have g747 : TR s.toInt 0 0 0 0 0 ζ9 (mA1 ζ9 24 s.toNatClampNeg f) := TR.put pζ.ps s0 rfl rfl
      have e749 : ((mA1 ζ9 24 s.toNatClampNeg f).1 19).toInt = (ζ9.1 19).toInt := rfl
      have e750 : ((mA1 ζ9 24 s.toNatClampNeg f).1 32).toInt = (ζ9.1 32).toInt := rfl
      have sr752 : srt (mA1 ζ9 24 s.toNatClampNeg f) = srt ζ9 := srt_off rfl
      have nd751 := ndζ.pc (x := f)
      have p753 : TR (s.toInt) (0) 0 0 0 (0) κ (mA1 ζ9 24 s.toNatClampNeg f) := pζ.trS g747 (Or.inr (Or.inl rfl)) rfl rfl rfl rfl (by omega)
      have k754 := kI.tr g747 (Or.inr rfl) s0
      have k755 := kO.tr g747 (Or.inr rfl) s0
      have cv756 : CVs (mA1 ζ9 24 s.toNatClampNeg f) (s.toInt + 1) (((mA1 ζ9 24 s.toNatClampNeg f)).1 19).toInt [f] := cv9.st g747.rb (Int.le_refl _) (Or.inl (by omega)) rfl
      refine ⟨TR.mi pζ.ps rfl rfl s0 (by omega), ?_⟩
      generalize mA1 ζ9 24 s.toNatClampNeg f = κ748 at *
      have lt757 : s.toInt < (κ748.1 19).toInt := by omega
      refine ⟨fun _ => ?_, fun _ => ?_⟩
      · skip
        exact s207 _ _ _ _ _ _ _ p753 lt757 nd751 k754 k755 KL.nil (cv756.more _)
      · skip
        refine MC.mono (t_expect (by omega) p753.ps (by decide) (fun _ h => hTκ _ (p753.1.1.tr h))) (fun v758 κ763 h759 => ?_) (fun _ h => h)
        obtain ⟨q760, m761, a762⟩ := h759
        have p764 : TR (s.toInt) (0) 0 0 0 (-2) κ κ763 := p753.trS q760 (Or.inl (by decide)) rfl rfl rfl rfl (by omega)
        have k765 := k754.tr q760 (Or.inl (by decide)) s0
        have k766 := k755.tr q760 (Or.inl (by decide)) s0
        have cv767 : CVs κ763 (s.toInt + 1) ((κ763).1 19).toInt [f] := cv756.st q760.rb (Int.le_refl _) (Or.inl (by omega)) m761
        have nd768 := nd751.tr q760 (by have := @ic s; omega) (by omega)
        have lt769 : s.toInt < (κ763.1 19).toInt := by omega
        have x773 := p764.px
        have u774 := p764.2
        have y775 := tT p764
        have z776 := px0 p764.ps
        refine MC.mono (hSt κ763 T h p764.ps (by omega) (by omega) (by omega) (fun _ h => hTκ _ (p764.1.1.tr h))) (fun r770 κ771 h772 => ?_) (fun _ h => h)
        obtain ⟨q777, g778, c779⟩ := h772
        have l780 := q777.l19
        have l781 := q777.l32
        have p782 : TR (s.toInt) (0) 0 0 0 (-2) κ κ771 := p764.trS q777 (Or.inl (by decide)) rfl rfl rfl rfl (by omega)
        have k783 := k765.tr q777 (Or.inl (by decide)) s0
        have k784 := k766.tr q777 (Or.inl (by decide)) s0
        have cv785 : CVs κ771 (s.toInt + 1) ((κ771).1 19).toInt [r770, f] := cv767.add q777.rb (Int.le_refl _) (Or.inl (by omega)) (by omega) l780 (c779)
        have nd786 := nd768.tr q777 (by have := @ic s; omega) (by omega)
        have lt787 : s.toInt < (κ771.1 19).toInt := by omega
        have k788 : KL κ771 h s.toInt s 3 r770 := KL.of g778 (by omega) (Int.le_refl _) s0 (Or.inl (by omega))
        have g789 : TR s.toInt 0 0 0 0 0 κ771 (mA1 κ771 25 s.toNatClampNeg r770) := TR.put p782.ps s0 rfl rfl
        have e791 : ((mA1 κ771 25 s.toNatClampNeg r770).1 19).toInt = (κ771.1 19).toInt := rfl
        have e792 : ((mA1 κ771 25 s.toNatClampNeg r770).1 32).toInt = (κ771.1 32).toInt := rfl
        have sr794 : srt (mA1 κ771 25 s.toNatClampNeg r770) = srt κ771 := srt_off rfl
        have nd793 := nd786.pd (x := r770)
        have p795 : TR (s.toInt) (0) 0 0 0 (-2) κ (mA1 κ771 25 s.toNatClampNeg r770) := p782.trS g789 (Or.inr (Or.inl rfl)) rfl rfl rfl rfl (by omega)
        have k796 := k783.tr g789 (Or.inr rfl) s0
        have k797 := k784.tr g789 (Or.inr rfl) s0
        have k798 := k788.tr g789 (Or.inr rfl) s0
        have cv799 : CVs (mA1 κ771 25 s.toNatClampNeg r770) (s.toInt + 1) (((mA1 κ771 25 s.toNatClampNeg r770)).1 19).toInt [r770, f] := cv785.st g789.rb (Int.le_refl _) (Or.inl (by omega)) rfl
        refine ⟨TR.mi p782.ps rfl rfl s0 (by omega), ?_⟩
        generalize mA1 κ771 25 s.toNatClampNeg r770 = κ790 at *
        have lt800 : s.toInt < (κ790.1 19).toInt := by omega
        exact s207 _ _ _ _ _ _ _ ⟨p795.1, by have := p795.2; omega⟩ lt800 nd793 k796 k797 k798 cv799
  exact fun nm im e ζ p1 lt1 nd1 l1 n1 => v_parseUnit_98 _ _ (key _ _ nm im e (-1) (-1) ζ lt1 (Int.le_refl _) (Nat.lt_succ_self _) p1 lt1 nd1 l1 OL.nil n1 (Or.inl ⟨rfl, NS.nil (Int.le_refl _)⟩))
theorem st_unit (hD : DeC X W P d) (hSt : SL X W P 321 [] 3 19 11 d) : UnC X W P (d + 1) := fun μ T h9 hS hd hh hn hT hs3 hu0 hu1 => by
  have hp := px0 hS
  have h0 := hS.2.2.2.2.1
  have at0 := hS.at
  obtain ⟨h, rfl⟩ : ∃ h, h9 = h + 1 := ⟨h9 - 1, by omega⟩
  refine me_meth (by omega) rfl (v_parseUnit_0 (MC.mono (c_is (by omega) hS) (fun md ν hr => ?_) (fun _ h => h)))
  obtain ⟨hmd, rfl⟩ := hr
  have hT1 : ∀ μ1, kf SPA RPA ν μ1 → T μ1 := fun _ h => hT _ (h.up rfl rfl)
  refine MC.mono (t_next (by omega) hS hs3 hT1) (fun _ ν1 h1 => ?_) (fun _ h => h)
  obtain ⟨m1, m2, m3⟩ := h1
  refine MC.mono (c_line (by omega) m1.ps.1 m1.ps.at.1 m1.ps.at.2) (fun r2 ν2 h2 => ?_) (fun _ h => h)
  subst h2
  have g2 : TR (-1) 0 0 0 0 (-2) ν (mS1 ν2 34 r2) := m1.tr (TR.s34 m1.ps) (Or.inl (by decide)) rfl rfl rfl rfl (by omega)
  have e19 : ((mS1 ν2 34 r2).1 19).toInt = (ν2.1 19).toInt := rfl
  have e32 : ((mS1 ν2 34 r2).1 32).toInt = (ν2.1 32).toInt := rfl
  have u2 := g2.2
  refine MC.mono (t_node (by omega) g2.ps (by omega)) (fun s ν4 h4 => ?_) (fun _ h => h)
  obtain ⟨q1, ⟨q2, s0⟩, q3, q4, q5, q6⟩ := h4
  have g4 : TR (-1) 0 0 0 0 (-1) ν ν4 := g2.tr q1 (Or.inl (by decide)) rfl rfl rfl rfl (by omega)
  have hcs := @ic s
  have s9 : s.toInt < 15990 := by omega
  have x4 := g4.px
  have e41 : ν4.1 41 = ν.1 41 := g4.1.1.1 41 rfl
  have e42 : ν4.2.1 42 = ν.2.1 42 := g4.1.1.2.1 42 rfl
  have l42 : ν4.2.2 42 = 14 := g4.ps.1.g rfl rfl
  have r4 := g4.rb
  have c4 := g4.1.2.2.2.2.2.2.2.2.2
  have b4 := g4.1.2.2.2.2.2
  refine ⟨MI.of l42 (by rw [e41]; exact hu0) (by rw [e41]; exact hu1), ?_⟩
  -- the row of units
  have pκ : PS (mA1 ν4 42 (ν4.1 41).toNatClampNeg s) := g4.ps.kf (s := []) (r := [42]) (kf.rf.A rfl) rfl rfl rfl rfl rfl rfl rfl rfl
  have kκ : kf SPA RPU ν (mA1 ν4 42 (ν4.1 41).toNatClampNeg s) := (g4.1.1.up rfl rfl).A rfl
  have rκ : RB (-1) (ν.1 19).toInt ν (mA1 ν4 42 (ν4.1 41).toNatClampNeg s) := r4.tr (fun g h1 h2 i _ _ => by
    show (bif Nat.beq g 42 then _ else ν4.2.1 g) i = _
    rw [nb_ne (by omega)]; rfl)
  have r29 : (mA1 ν4 42 (ν4.1 41).toNatClampNeg s).2.1 29 = ν4.2.1 29 := row_off rfl
  have cκ : NC ν (mA1 ν4 42 (ν4.1 41).toNatClampNeg s) := fun j hj => by rw [r29]; exact c4 j hj
  have nd0 : ND (mA1 ν4 42 (ν4.1 41).toNatClampNeg s) s.toNatClampNeg 1 (-1) (-1) (-1) (-1) (-1) (-1) := ND.rb (ex := -1) (n := (ν4.1 19).toInt) q6 (fun g h1 h2 i _ _ => by rw [row_off (nb_ne (by omega))]) (by omega) (by omega)
  have w42 : (mA1 ν4 42 (ν4.1 41).toNatClampNeg s).2.1 42 = upd (ν.2.1 42) (ν.1 41).toNatClampNeg s := by
    show upd (ν4.2.1 42) (ν4.1 41).toNatClampNeg s = _
    rw [e41, e42]
  have f19 : ((mA1 ν4 42 (ν4.1 41).toNatClampNeg s).1 19).toInt = (ν4.1 19).toInt := rfl
  have f32 : ((mA1 ν4 42 (ν4.1 41).toNatClampNeg s).1 32).toInt = (ν4.1 32).toInt := rfl
  have bκ : ((mA1 ν4 42 (ν4.1 41).toNatClampNeg s).1 37).toInt = (ν.1 37).toInt + 0 ∧ ((mA1 ν4 42 (ν4.1 41).toNatClampNeg s).1 38).toInt = (ν.1 38).toInt + 0 ∧ ((mA1 ν4 42 (ν4.1 41).toNatClampNeg s).1 39).toInt = (ν.1 39).toInt + 0 ∧ ((mA1 ν4 42 (ν4.1 41).toNatClampNeg s).1 40).toInt = (ν.1 40).toInt + 0 := ⟨b4.1, b4.2.1, b4.2.2.1, b4.2.2.2.1⟩
  have e33 : (mA1 ν4 42 (ν4.1 41).toNatClampNeg s).1 33 = ν.1 33 := g4.1.1.1 33 rfl
  have xκ : psS (mA1 ν4 42 (ν4.1 41).toNatClampNeg s) = psS ν4 ∧ hiS (mA1 ν4 42 (ν4.1 41).toNatClampNeg s) = hiS ν4 := by unfold psS hiS psX hiX; exact ⟨rfl, rfl⟩
  have miκ : MI s (ν4.2.2 26) := TR.mi g4.ps rfl rfl s0 (by omega)
  generalize mA1 ν4 42 (ν4.1 41).toNatClampNeg s = κ at *
  have u4 := g4.2
  have l4 := g4.l19
  have hTκ : ∀ μ1, kf SPA RPA κ μ1 → T μ1 := fun _ h => hT _ (kκ.tr (h.up rfl rfl))
  have p0 : TR s.toInt 0 0 0 0 0 κ κ := TR.rf pκ
  have lt0 : s.toInt < (κ.1 19).toInt := by omega
  -- from the unit's node on to what is asked
  have out : ∀ ζ : MS, TR s.toInt 0 0 0 0 0 κ ζ → G ζ (h + 1) (bt s.toInt (ζ.1 19).toInt) 20 s → CO ζ s.toInt (ζ.1 19).toInt s → UnP (h + 1) ν ζ := fun ζ z1 z2 z3 => by
    obtain ⟨⟨a1, a2, a3, a4, a5, a6, a7, a8, a9, a10⟩, a11⟩ := z1
    have eN : NS ζ (ν.1 19).toInt s.toInt := NS.nil (by omega)
    refine ⟨kκ.tr (a1.up rfl rfl), a2, ⟨by omega, by omega, by omega⟩, rκ.tr (fun g g1 g2 i g3 g4 => a5 g g1 g2 i (by omega) (by omega)), ⟨by omega, by omega, by omega, by omega⟩, cκ.tr a10 e33 (by omega), s, z2.up (Nat.le_refl _) (by omega) (Int.le_refl _), by rw [a1.2.1 42 rfl]; exact w42, ?_⟩
    exact z3.ahead eN (by omega)
  have s98 := un_98 (md := md) hD hSt pκ (by omega) (by omega) (by omega) hTκ s0 s9 (by omega) out
  refine ⟨fun _ => ⟨miκ, ?_⟩, fun _ => ⟨miκ, ?_⟩⟩
  · skip
    have g801 : TR s.toInt 0 0 0 0 0 κ (mA1 κ 26 s.toNatClampNeg 0) := TR.put p0.ps s0 rfl rfl
    have e803 : ((mA1 κ 26 s.toNatClampNeg 0).1 19).toInt = (κ.1 19).toInt := rfl
    have e804 : ((mA1 κ 26 s.toNatClampNeg 0).1 32).toInt = (κ.1 32).toInt := rfl
    have sr806 : srt (mA1 κ 26 s.toNatClampNeg 0) = srt κ := srt_off rfl
    have nd805 := nd0.pe (x := 0)
    have p807 : TR (s.toInt) (0) 0 0 0 (0) κ (mA1 κ 26 s.toNatClampNeg 0) := p0.trS g801 (Or.inr (Or.inl rfl)) rfl rfl rfl rfl (by omega)
    generalize mA1 κ 26 s.toNatClampNeg 0 = κ802 at *
    have lt808 : s.toInt < (κ802.1 19).toInt := by omega
    refine MC.mono (t_name (by omega) p807.ps (fun _ h => hTκ _ (p807.1.1.tr h))) (fun v809 κ814 h810 => ?_) (fun _ h => h)
    obtain ⟨q811, m812, a813⟩ := h810
    have p815 : TR (s.toInt) (0) 0 0 0 (-2) κ κ814 := p807.trS q811 (Or.inl (by decide)) rfl rfl rfl rfl (by omega)
    have nd816 := nd805.tr q811 (by have := @ic s; omega) (by omega)
    have lt817 : s.toInt < (κ814.1 19).toInt := by omega
    have g818 : TR s.toInt 0 0 0 0 0 κ814 (mA1 κ814 22 s.toNatClampNeg v809) := TR.put p815.ps s0 rfl rfl
    have e820 : ((mA1 κ814 22 s.toNatClampNeg v809).1 19).toInt = (κ814.1 19).toInt := rfl
    have e821 : ((mA1 κ814 22 s.toNatClampNeg v809).1 32).toInt = (κ814.1 32).toInt := rfl
    have sr823 : srt (mA1 κ814 22 s.toNatClampNeg v809) = srt κ814 := srt_off rfl
    have nd822 := nd816.pa (x := v809)
    have p824 : TR (s.toInt) (0) 0 0 0 (-2) κ (mA1 κ814 22 s.toNatClampNeg v809) := p815.trS g818 (Or.inr (Or.inl rfl)) rfl rfl rfl rfl (by omega)
    refine ⟨TR.mi p815.ps rfl rfl s0 (by omega), ?_⟩
    generalize mA1 κ814 22 s.toNatClampNeg v809 = κ819 at *
    have lt825 : s.toInt < (κ819.1 19).toInt := by omega
    refine MC.mono (t_expect (by omega) p824.ps (by decide) (fun _ h => hTκ _ (p824.1.1.tr h))) (fun v826 κ831 h827 => ?_) (fun _ h => h)
    obtain ⟨q828, m829, a830⟩ := h827
    have p832 : TR (s.toInt) (0) 0 0 0 (-4) κ κ831 := p824.trS q828 (Or.inl (by decide)) rfl rfl rfl rfl (by omega)
    have nd833 := nd822.tr q828 (by have := @ic s; omega) (by omega)
    have lt834 : s.toInt < (κ831.1 19).toInt := by omega
    refine MC.mono (c_is (by omega) p832.ps) (fun r835 κ836 h837 => ?_) (fun _ h => h)
    obtain ⟨rfl, rfl⟩ := h837
    refine ⟨fun _ => ?_, fun hw => ?_⟩
    · skip
      exact s98 _ _ _ _ ⟨p832.1, by have := p832.2; omega⟩ lt834 nd833 LB.nil (NS.nil (by omega))
    · skip
      have hw3 : ¬ srt κ836 = 203 := by rw [is_t hw]; decide
      refine MC.mono (t_next (by omega) p832.ps (hw3) (fun _ h => hTκ _ (p832.1.1.tr h))) (fun v838 κ843 h839 => ?_) (fun _ h => h)
      obtain ⟨q840, m841, a842⟩ := h839
      have p844 : TR (s.toInt) (0) 0 0 0 (-6) κ κ843 := p832.trS q840 (Or.inl (by decide)) rfl rfl rfl rfl (by omega)
      have nd845 := nd833.tr q840 (by have := @ic s; omega) (by omega)
      have lt846 : s.toInt < (κ843.1 19).toInt := by omega
      have x850 := p844.px
      have u851 := p844.2
      have y852 := tT p844
      have z853 := px0 p844.ps
      refine MC.mono (c_nameRow (by omega) p844.ps (by omega) (fun _ h => hTκ _ (p844.1.1.tr h))) (fun r847 κ848 h849 => ?_) (fun _ h => h)
      have g855 : LB κ848 h 5 (κ843.1 19).toInt (κ848.1 19).toInt r847 := by obtain ⟨m, hm⟩ := NR.ls (s := 5) (h := 0) h849.1 (by decide) (by decide); exact ⟨m, hm.mono (fun y hy => hy.up (by omega) (Int.le_refl _) (Int.le_refl _)) (fun _ _ => rfl)⟩
      have q854 : TR (-1) 0 0 0 0 0 κ843 κ848 := ⟨h849.1.1, by have := h849.1.2.1; omega⟩
      have nI := h849.2.1.ns (by decide)
      have l856 := q854.l19
      have p857 : TR (s.toInt) (0) 0 0 0 (-6) κ κ848 := p844.trS q854 (Or.inl (by decide)) rfl rfl rfl rfl (by omega)
      have nd858 := nd845.tr q854 (by have := @ic s; omega) (by omega)
      have lt859 : s.toInt < (κ848.1 19).toInt := by omega
      have gP : TR s.toInt 0 0 0 0 0 κ848 (mA1 κ848 23 s.toNatClampNeg r847) := TR.put p857.ps s0 rfl rfl
      have g860 := g855.tr gP (by omega) (Or.inl (by omega))
      have nI2 := nI.rb gP.rb (Int.le_refl _) (Or.inl (by omega))
      have g861 : TR s.toInt 0 0 0 0 0 κ848 (mA1 κ848 23 s.toNatClampNeg r847) := TR.put p857.ps s0 rfl rfl
      have e863 : ((mA1 κ848 23 s.toNatClampNeg r847).1 19).toInt = (κ848.1 19).toInt := rfl
      have e864 : ((mA1 κ848 23 s.toNatClampNeg r847).1 32).toInt = (κ848.1 32).toInt := rfl
      have sr866 : srt (mA1 κ848 23 s.toNatClampNeg r847) = srt κ848 := srt_off rfl
      have nd865 := nd858.pb (x := r847)
      have p867 : TR (s.toInt) (0) 0 0 0 (-6) κ (mA1 κ848 23 s.toNatClampNeg r847) := p857.trS g861 (Or.inr (Or.inl rfl)) rfl rfl rfl rfl (by omega)
      refine ⟨TR.mi p857.ps rfl rfl s0 (by omega), ?_⟩
      generalize mA1 κ848 23 s.toNatClampNeg r847 = κ862 at *
      have lt868 : s.toInt < (κ862.1 19).toInt := by omega
      have lE : s.toInt + 1 ≤ (κ843.1 19).toInt := by omega
      refine MC.mono (t_expect (by omega) p867.ps (by decide) (fun _ h => hTκ _ (p867.1.1.tr h))) (fun v869 κ874 h870 => ?_) (fun _ h => h)
      obtain ⟨q871, m872, a873⟩ := h870
      have p875 : TR (s.toInt) (0) 0 0 0 (-8) κ κ874 := p867.trS q871 (Or.inl (by decide)) rfl rfl rfl rfl (by omega)
      have nd876 := nd865.tr q871 (by have := @ic s; omega) (by omega)
      have lt877 : s.toInt < (κ874.1 19).toInt := by omega
      have g9 := g860.tr q871 (by omega) (Or.inl (by omega))
      obtain ⟨m9, hm9⟩ := g9
      have nI3 : NS κ874 (s.toInt + 1) (κ874.1 19).toInt := fun j j1 j2 => (nI2.rb q871.rb (by omega) (Or.inl (by omega))) j (by omega) (by omega)
      exact s98 _ _ _ _ ⟨p875.1, by have := p875.2; omega⟩ lt877 nd876 ⟨m9, hm9.mono (fun y hy => hy.up (Nat.le_refl _) (by omega) (by omega)) (fun _ _ => rfl)⟩ nI3
  · skip
    have g878 : TR s.toInt 0 0 0 0 0 κ (mA1 κ 26 s.toNatClampNeg 1) := TR.put p0.ps s0 rfl rfl
    have e880 : ((mA1 κ 26 s.toNatClampNeg 1).1 19).toInt = (κ.1 19).toInt := rfl
    have e881 : ((mA1 κ 26 s.toNatClampNeg 1).1 32).toInt = (κ.1 32).toInt := rfl
    have sr883 : srt (mA1 κ 26 s.toNatClampNeg 1) = srt κ := srt_off rfl
    have nd882 := nd0.pe (x := 1)
    have p884 : TR (s.toInt) (0) 0 0 0 (0) κ (mA1 κ 26 s.toNatClampNeg 1) := p0.trS g878 (Or.inr (Or.inl rfl)) rfl rfl rfl rfl (by omega)
    generalize mA1 κ 26 s.toNatClampNeg 1 = κ879 at *
    have lt885 : s.toInt < (κ879.1 19).toInt := by omega
    refine MC.mono (t_name (by omega) p884.ps (fun _ h => hTκ _ (p884.1.1.tr h))) (fun v886 κ891 h887 => ?_) (fun _ h => h)
    obtain ⟨q888, m889, a890⟩ := h887
    have p892 : TR (s.toInt) (0) 0 0 0 (-2) κ κ891 := p884.trS q888 (Or.inl (by decide)) rfl rfl rfl rfl (by omega)
    have nd893 := nd882.tr q888 (by have := @ic s; omega) (by omega)
    have lt894 : s.toInt < (κ891.1 19).toInt := by omega
    have g895 : TR s.toInt 0 0 0 0 0 κ891 (mA1 κ891 22 s.toNatClampNeg v886) := TR.put p892.ps s0 rfl rfl
    have e897 : ((mA1 κ891 22 s.toNatClampNeg v886).1 19).toInt = (κ891.1 19).toInt := rfl
    have e898 : ((mA1 κ891 22 s.toNatClampNeg v886).1 32).toInt = (κ891.1 32).toInt := rfl
    have sr900 : srt (mA1 κ891 22 s.toNatClampNeg v886) = srt κ891 := srt_off rfl
    have nd899 := nd893.pa (x := v886)
    have p901 : TR (s.toInt) (0) 0 0 0 (-2) κ (mA1 κ891 22 s.toNatClampNeg v886) := p892.trS g895 (Or.inr (Or.inl rfl)) rfl rfl rfl rfl (by omega)
    refine ⟨TR.mi p892.ps rfl rfl s0 (by omega), ?_⟩
    generalize mA1 κ891 22 s.toNatClampNeg v886 = κ896 at *
    have lt902 : s.toInt < (κ896.1 19).toInt := by omega
    refine MC.mono (t_expect (by omega) p901.ps (by decide) (fun _ h => hTκ _ (p901.1.1.tr h))) (fun v903 κ908 h904 => ?_) (fun _ h => h)
    obtain ⟨q905, m906, a907⟩ := h904
    have p909 : TR (s.toInt) (0) 0 0 0 (-4) κ κ908 := p901.trS q905 (Or.inl (by decide)) rfl rfl rfl rfl (by omega)
    have nd910 := nd899.tr q905 (by have := @ic s; omega) (by omega)
    have lt911 : s.toInt < (κ908.1 19).toInt := by omega
    refine MC.mono (c_is (by omega) p909.ps) (fun r912 κ913 h914 => ?_) (fun _ h => h)
    obtain ⟨rfl, rfl⟩ := h914
    refine ⟨fun _ => ?_, fun hw => ?_⟩
    · skip
      exact s98 _ _ _ _ ⟨p909.1, by have := p909.2; omega⟩ lt911 nd910 LB.nil (NS.nil (by omega))
    · skip
      have hw3 : ¬ srt κ913 = 203 := by rw [is_t hw]; decide
      refine MC.mono (t_next (by omega) p909.ps (hw3) (fun _ h => hTκ _ (p909.1.1.tr h))) (fun v915 κ920 h916 => ?_) (fun _ h => h)
      obtain ⟨q917, m918, a919⟩ := h916
      have p921 : TR (s.toInt) (0) 0 0 0 (-6) κ κ920 := p909.trS q917 (Or.inl (by decide)) rfl rfl rfl rfl (by omega)
      have nd922 := nd910.tr q917 (by have := @ic s; omega) (by omega)
      have lt923 : s.toInt < (κ920.1 19).toInt := by omega
      have x927 := p921.px
      have u928 := p921.2
      have y929 := tT p921
      have z930 := px0 p921.ps
      refine MC.mono (c_nameRow (by omega) p921.ps (by omega) (fun _ h => hTκ _ (p921.1.1.tr h))) (fun r924 κ925 h926 => ?_) (fun _ h => h)
      have g932 : LB κ925 h 5 (κ920.1 19).toInt (κ925.1 19).toInt r924 := by obtain ⟨m, hm⟩ := NR.ls (s := 5) (h := 0) h926.1 (by decide) (by decide); exact ⟨m, hm.mono (fun y hy => hy.up (by omega) (Int.le_refl _) (Int.le_refl _)) (fun _ _ => rfl)⟩
      have q931 : TR (-1) 0 0 0 0 0 κ920 κ925 := ⟨h926.1.1, by have := h926.1.2.1; omega⟩
      have nI := h926.2.1.ns (by decide)
      have l933 := q931.l19
      have p934 : TR (s.toInt) (0) 0 0 0 (-6) κ κ925 := p921.trS q931 (Or.inl (by decide)) rfl rfl rfl rfl (by omega)
      have nd935 := nd922.tr q931 (by have := @ic s; omega) (by omega)
      have lt936 : s.toInt < (κ925.1 19).toInt := by omega
      have gP : TR s.toInt 0 0 0 0 0 κ925 (mA1 κ925 23 s.toNatClampNeg r924) := TR.put p934.ps s0 rfl rfl
      have g937 := g932.tr gP (by omega) (Or.inl (by omega))
      have nI2 := nI.rb gP.rb (Int.le_refl _) (Or.inl (by omega))
      have g938 : TR s.toInt 0 0 0 0 0 κ925 (mA1 κ925 23 s.toNatClampNeg r924) := TR.put p934.ps s0 rfl rfl
      have e940 : ((mA1 κ925 23 s.toNatClampNeg r924).1 19).toInt = (κ925.1 19).toInt := rfl
      have e941 : ((mA1 κ925 23 s.toNatClampNeg r924).1 32).toInt = (κ925.1 32).toInt := rfl
      have sr943 : srt (mA1 κ925 23 s.toNatClampNeg r924) = srt κ925 := srt_off rfl
      have nd942 := nd935.pb (x := r924)
      have p944 : TR (s.toInt) (0) 0 0 0 (-6) κ (mA1 κ925 23 s.toNatClampNeg r924) := p934.trS g938 (Or.inr (Or.inl rfl)) rfl rfl rfl rfl (by omega)
      refine ⟨TR.mi p934.ps rfl rfl s0 (by omega), ?_⟩
      generalize mA1 κ925 23 s.toNatClampNeg r924 = κ939 at *
      have lt945 : s.toInt < (κ939.1 19).toInt := by omega
      have lE : s.toInt + 1 ≤ (κ920.1 19).toInt := by omega
      refine MC.mono (t_expect (by omega) p944.ps (by decide) (fun _ h => hTκ _ (p944.1.1.tr h))) (fun v946 κ951 h947 => ?_) (fun _ h => h)
      obtain ⟨q948, m949, a950⟩ := h947
      have p952 : TR (s.toInt) (0) 0 0 0 (-8) κ κ951 := p944.trS q948 (Or.inl (by decide)) rfl rfl rfl rfl (by omega)
      have nd953 := nd942.tr q948 (by have := @ic s; omega) (by omega)
      have lt954 : s.toInt < (κ951.1 19).toInt := by omega
      have g9 := g937.tr q948 (by omega) (Or.inl (by omega))
      obtain ⟨m9, hm9⟩ := g9
      have nI3 : NS κ951 (s.toInt + 1) (κ951.1 19).toInt := fun j j1 j2 => (nI2.rb q948.rb (by omega) (Or.inl (by omega))) j (by omega) (by omega)
      exact s98 _ _ _ _ ⟨p952.1, by have := p952.2; omega⟩ lt954 nd953 ⟨m9, hm9.mono (fun y hy => hy.up (Nat.le_refl _) (by omega) (by omega)) (fun _ _ => rfl)⟩ nI3
end PSM
