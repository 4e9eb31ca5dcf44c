/-! contracts of the reference: units, the whole text -/
/-- a list whose nodes lie between two counts -/
def LB (ν : MS) (h s : Nat) (lo hi : Int) (x : Int32) : Prop := ∃ m, Lst (G ν h (bt lo hi) s) (ν.2.1 27) m x
theorem LB.tr {r b n t s' δ lo hi : Int} {ν ν1 : MS} {h s : Nat} {x : Int32} (hL : LB ν h s lo hi x) (q : TR r b n t s' δ ν ν1) (hn : hi ≤ (ν.1 19).toInt) (hr : r < lo ∨ hi ≤ r) : LB ν1 h s lo hi x := by
  obtain ⟨m, hm⟩ := hL
  refine ⟨m, hm.mono (fun y hy => hy.tr q hn hr) (fun y hy => ?_)⟩
  obtain ⟨-, k2, k3⟩ := hy.in
  exact q.rb 27 (by omega) (by omega) _ (by omega) (by omega)
theorem LB.nil {ν : MS} {h s : Nat} {lo hi : Int} : LB ν h s lo hi (-1) := ⟨0, rfl⟩
/-- the slots and rows of the parser and of its units -/
abbrev SPU : List Nat := [17, 18, 19, 32, 33, 34, 37, 38, 39, 40, 41]
abbrev RPU : List Nat := [20, 21, 22, 23, 24, 25, 26, 27, 28, 29, 30, 31, 42]
/-- a unit more -/
def UnP (h : Nat) (μ μ1 : MS) : Prop := kf SPA RPU μ μ1 ∧ PS μ1 ∧ ((μ.1 19).toInt ≤ (μ1.1 19).toInt ∧ (μ.1 32).toInt < (μ1.1 32).toInt ∧ (μ1.1 19).toInt + 2 * (μ.1 32).toInt ≤ (μ.1 19).toInt + 2 * (μ1.1 32).toInt) ∧ RB (-1) (μ.1 19).toInt μ μ1 ∧ ((μ1.1 37).toInt = (μ.1 37).toInt ∧ (μ1.1 38).toInt = (μ.1 38).toInt ∧ (μ1.1 39).toInt = (μ.1 39).toInt ∧ (μ1.1 40).toInt = (μ.1 40).toInt) ∧ NC μ μ1 ∧
  ∃ u, G μ1 h (bt (μ.1 19).toInt (μ1.1 19).toInt) 20 u ∧ μ1.2.1 42 = upd (μ.2.1 42) (μ.1 41).toNatClampNeg u ∧ CO μ1 (μ.1 19).toInt (μ1.1 19).toInt u
def UnC (X : ev_X) (W : Nat → Prop) (P : MP) (d : Nat) : Prop := ∀ (μ : MS) (T : MS → Prop) (h : Nat), PS μ → psS μ + 22 ≤ d → hiS μ + 14 ≤ h → (μ.1 19).toInt ≤ 2 * (μ.1 32).toInt + 30 → (∀ μ1, kf SPA RPU μ μ1 → T μ1) → ¬ srt μ = 203 → 0 ≤ (μ.1 41).toInt → (μ.1 41).toInt < 14 →
  MC X W true d 302 [.ref P.1] P μ (fun _ μ1 => UnP h μ μ1) T
section PSM
variable {X : ev_X} {W : Nat → Prop} {d : Nat} {P : MP}
theorem un_98 (hD : DeC X W P d) (hSt : SL X W P 321 [] 3 19 11 d) {κ : MS} {T : MS → Prop} {h : Nat} {s md : Int32} {R : MS → Prop} (pκ : PS κ) (hd : psS κ + 22 ≤ (d : Int) + 1) (hh : hiS κ + 14 ≤ (h : Int) + 1) (hn : (κ.1 19).toInt ≤ 2 * (κ.1 32).toInt + 29) (hTκ : ∀ μ1, kf SPA RPA κ μ1 → T μ1) (s0 : 0 ≤ s.toInt) (s9 : s.toInt < 15990) (s1 : s.toInt + 1 = (κ.1 19).toInt)
    (out : ∀ ζ : MS, TR s.toInt 0 0 0 0 0 κ ζ → G ζ (h + 1) (bt s.toInt (ζ.1 19).toInt) 20 s → CO ζ s.toInt (ζ.1 19).toInt s → R ζ) : ∀ (nm im e : Int32) (ζ : MS), TR s.toInt 0 0 0 0 0 κ ζ → s.toInt < (ζ.1 19).toInt → ND ζ s.toNatClampNeg 1 nm im (-1) (-1) e (-1) → LB ζ h 5 (s.toInt + 1) (ζ.1 19).toInt im → NS ζ (s.toInt + 1) (ζ.1 19).toInt → ME X W true d 302 98 [(0, .ref P.1), (1, .int md), (2, .int s)] [] P ζ (fun _ μ1 => R μ1) T := by
  have hp := px0 pκ
  have h0 := pκ.2.2.2.2.1
  have at0 := pκ.at
  have hcs := @ic s
  have s207 : ∀ (nm im f st e x4 : Int32) (ζ : MS), TR s.toInt 0 0 0 0 0 κ ζ → s.toInt < (ζ.1 19).toInt → ND ζ s.toNatClampNeg 1 nm im f st e (-1) → KL ζ h s.toInt s 5 im → KL ζ h s.toInt s 4 f → KL ζ h s.toInt s 3 st → CVs ζ (s.toInt + 1) (ζ.1 19).toInt [st, f] → ME X W true d 302 207 [(0, .ref P.1), (1, .int md), (2, .int s), (3, .int f), (4, .int x4)] [] P ζ (fun _ μ1 => R μ1) T := fun nm im f st e x4 ζ p1 lt1 nd1 k1 k2 k3 cv1 => by
    refine v_parseUnit_207 _ _ _ _ ?_
    refine MC.mono (t_expect (by omega) p1.ps (by decide) (fun _ h => hTκ _ (p1.1.1.tr h))) (fun v706 κ711 h707 => ?_) (fun _ h => h)
    obtain ⟨q708, m709, a710⟩ := h707
    have p712 : TR (s.toInt) (0) 0 0 0 (-2) κ κ711 := p1.trS q708 (Or.inl (by decide)) rfl rfl rfl rfl (by omega)
    have k713 := k1.tr q708 (Or.inl (by decide)) s0
    have k714 := k2.tr q708 (Or.inl (by decide)) s0
    have k715 := k3.tr q708 (Or.inl (by decide)) s0
    have cv716 : CVs κ711 (s.toInt + 1) ((κ711).1 19).toInt [st, f] := cv1.st q708.rb (Int.le_refl _) (Or.inl (by omega)) m709
    have nd717 := nd1.tr q708 (by have := @ic s; omega) (by omega)
    have lt718 : s.toInt < (κ711.1 19).toInt := by omega
    refine ⟨TR.mi p712.ps rfl rfl s0 (by omega), ?_⟩
    refine MC.mono (t_endName (by omega) p712.ps (fun _ h => hTκ _ (p712.1.1.tr h))) (fun v719 κ724 h720 => ?_) (fun _ h => h)
    obtain ⟨q721, m722, a723⟩ := h720
    have p725 : TR (s.toInt) (0) 0 0 0 (-4) κ κ724 := p712.trS q721 (Or.inl (by decide)) rfl rfl rfl rfl (by omega)
    have k726 := k713.tr q721 (Or.inl (by decide)) s0
    have k727 := k714.tr q721 (Or.inl (by decide)) s0
    have k728 := k715.tr q721 (Or.inl (by decide)) s0
    have cv729 : CVs κ724 (s.toInt + 1) ((κ724).1 19).toInt [st, f] := cv716.st q721.rb (Int.le_refl _) (Or.inl (by omega)) m722
    have nd730 := nd717.tr q721 (by have := @ic s; omega) (by omega)
    have lt731 : s.toInt < (κ724.1 19).toInt := by omega
    refine MC.mono (t_expect (by omega) p725.ps (by decide) (fun _ h => hTκ _ (p725.1.1.tr h))) (fun v732 κ737 h733 => ?_) (fun _ h => h)
    obtain ⟨q734, m735, a736⟩ := h733
    have p738 : TR (s.toInt) (0) 0 0 0 (-6) κ κ737 := p725.trS q734 (Or.inl (by decide)) rfl rfl rfl rfl (by omega)
    have k739 := k726.tr q734 (Or.inl (by decide)) s0
    have k740 := k727.tr q734 (Or.inl (by decide)) s0
    have k741 := k728.tr q734 (Or.inl (by decide)) s0
    have cv742 : CVs κ737 (s.toInt + 1) ((κ737).1 19).toInt [st, f] := cv729.st q734.rb (Int.le_refl _) (Or.inl (by omega)) m735
    have nd743 := nd730.tr q734 (by have := @ic s; omega) (by omega)
    have lt744 : s.toInt < (κ737.1 19).toInt := by omega
    exact out _ ⟨p738.1, by have := p738.2; omega⟩ (G.mk s0 (Int.le_refl _) lt744 nd743 (by decide) True.intro (k739) (k740) (k741) True.intro) (CO.fin' rfl cv742 s0 ⟨fun h => Par.fd nd743 (by decide) h, fun h => Par.fc nd743 (by decide) h, True.intro⟩ lt744)
  have key : ∀ (j : Nat) (n0 : Int) (nm im e f x4 : Int32) (ζ : MS), s.toInt < n0 → n0 ≤ (ζ.1 19).toInt → ((κ.1 8).toInt - (ζ.1 32).toInt).toNat < j → TR s.toInt 0 0 0 0 0 κ ζ → s.toInt < (ζ.1 19).toInt → ND ζ s.toNatClampNeg 1 nm im (-1) (-1) e (-1) → LB ζ h 5 (s.toInt + 1) n0 im → OL 4 h n0 ζ f x4 → NS ζ (s.toInt + 1) n0 → OC ζ n0 (ζ.1 19).toInt f x4 → ME X W true d 302 103 [(0, .ref P.1), (1, .int md), (2, .int s), (3, .int f), (4, .int x4)] [] P ζ (fun _ μ1 => R μ1) T := by
    intro j
    induction j with
    | zero => intro n0 nm im e f x4 ζ hn1 hn2 hj; omega
    | succ j ih =>
      intro n0 nm im e f x4 ζ hn1 hn2 hj pζ ltζ ndζ gζ hO cI hB
      have e8 := eq_i (pζ.1.1.1 8 rfl)
      have t8 := pζ.ps.2.2.1.2
      have at1 := pζ.ps.at
      have uζ := pζ.2
      have xζ := pζ.px
      -- a declaration more
      have more : ¬ srt ζ = 203 → ME X W true d 302 148 [(0, .ref P.1), (1, .int md), (2, .int s), (3, .int f), (4, .int x4)] [] P ζ (fun _ μ1 => R μ1) T := fun h3 => by
        refine v_parseUnit_148 _ _ _ _ (MC.mono (hD ζ T h md pζ.ps (by omega) (by omega) (by omega) (fun _ h => hTκ _ (pζ.1.1.tr h)) h3) (fun r ζ1 h1 => ?_) (fun _ h => h))
        obtain ⟨v1, v2, v3, v4, vc⟩ := h1
        have p1 : TR s.toInt 0 0 0 0 0 κ ζ1 := pζ.trS v1 (Or.inl (by decide)) rfl rfl rfl rfl (by omega)
        have l1 := v1.l19
        have at2 := p1.ps.at
        have u2 := p1.2
        have nd1 := ndζ.tr v1 (by omega) (by omega)
        have gg1 := gζ.tr v1 hn2 (Or.inl (by omega))
        have cI1 := cI.rb v1.rb hn2 (Or.inl (by omega))
        have hB1 := hB.rb v1.rb (Int.le_refl _) (Or.inl (by omega))
        refine ⟨fun hx1 => ?_, fun hx1 => ?_⟩
        · rcases hO.sg with ⟨w1, -⟩ | ⟨w1, w2⟩
          · rw [w1] at hx1; exact absurd hx1 (by decide)
          obtain ⟨j1, j2, j3⟩ := hO.in w2
          have hc2 := @ic x4
          have g9 : TR x4.toInt 0 0 0 0 0 ζ1 (mA1 ζ1 27 x4.toNatClampNeg r) := TR.put p1.ps w2 rfl rfl
          exact ⟨TR.mi p1.ps rfl rfl w2 (by omega), v_parseUnit_174 _ _ _ _ _ (ih n0 nm im e f r _ hn1 (by show _ ≤ (ζ1.1 19).toInt; omega) (by show ((κ.1 8).toInt - (ζ1.1 32).toInt).toNat < j; omega) (p1.trS g9 (Or.inr (Or.inr (by omega))) rfl rfl rfl rfl (by omega)) (by show _ < (ζ1.1 19).toInt; omega) (nd1.off (by omega)) (gg1.tr g9 (by omega) (Or.inr (by omega))) (hO.add w2 v1 (by omega) v3 v4) (cI1.rb g9.rb (by omega) (Or.inr (by omega))) (hB1.add w2 j2 j3 j1 vc v3.in.1 v1.l19 (by rw [v1.rb 27 (by omega) (by omega) _ (by omega) (by omega)]; exact hO.nn w2)))⟩
        · have hf : f = -1 := by
            rcases hO.sg with ⟨w1, -⟩ | ⟨w1, -⟩
            · exact w1
            · omega
          refine v_parseUnit_174 _ _ _ _ _ (ih n0 nm im e r r _ hn1 (by omega) (by omega) p1 (by omega) nd1 gg1 (OL.one (v3.up (Nat.le_refl _) (by omega) (Int.le_refl _)) (by omega) v4) cI1 ?_)
          rcases hB1 with ⟨-, w⟩ | ⟨w, -⟩
          · exact OC.one (vc.ahead w (by omega)) v3.in.1
          · rw [hf] at w; exact absurd w (by decide)
      refine v_parseUnit_103 _ _ _ _ (MC.mono (c_is (by omega) pζ.ps) (fun r1 ζ1 h1 => ?_) (fun _ h => h))
      obtain ⟨rfl, rfl⟩ := h1
      refine ⟨fun h1 => more (by rw [is_t h1]; decide), fun _ => MC.mono (c_is (by omega) pζ.ps) (fun r1 ζ1 h1 => ?_) (fun _ h => h)⟩
      obtain ⟨rfl, rfl⟩ := h1
      refine ⟨fun h1 => more (by rw [is_t h1]; decide), fun _ => MC.mono (c_is (by omega) pζ.ps) (fun r1 ζ1 h1 => ?_) (fun _ h => h)⟩
      obtain ⟨rfl, rfl⟩ := h1
      refine ⟨fun h1 => more (by rw [is_t h1]; decide), fun _ => MC.mono (c_is (by omega) pζ.ps) (fun r1 ζ1 h1 => ?_) (fun _ h => h)⟩
      obtain ⟨rfl, rfl⟩ := h1
      refine ⟨fun h1 => more (by rw [is_t h1]; decide), fun _ => MC.mono (c_is (by omega) pζ.ps) (fun r1 ζ9 h1 => ?_) (fun _ h => h)⟩
      obtain ⟨rfl, rfl⟩ := h1
      refine ⟨fun _ => ?_, fun h1 => more (by rw [is_t h1]; decide)⟩
      have kI : KL ζ9 h s.toInt s 5 im := KL.of gζ (by omega) hn2 s0 (Or.inl (by omega))
      have kO : KL ζ9 h s.toInt s 4 f := KL.of hO.lst (by omega) (Int.le_refl _) s0 (Or.inl (by omega))
      have cv9 : CVs ζ9 (s.toInt + 1) (ζ9.1 19).toInt [f] := ((CVs.nil (Int.le_refl _) : CVs ζ9 (s.toInt + 1) (s.toInt + 1) []).ns (e := -1) (n := s.toInt + 1) RB.rf (Int.le_refl _) (Or.inl (by omega)) (by omega) cI).add (e := -1) (n := n0) RB.rf (Int.le_refl _) (Or.inl (by omega)) (by omega) hn2 hB.l
      have g745 : TR s.toInt 0 0 0 0 0 ζ9 (mA1 ζ9 24 s.toNatClampNeg f) := TR.put pζ.ps s0 rfl rfl
      have e747 : ((mA1 ζ9 24 s.toNatClampNeg f).1 19).toInt = (ζ9.1 19).toInt := rfl
      have e748 : ((mA1 ζ9 24 s.toNatClampNeg f).1 32).toInt = (ζ9.1 32).toInt := rfl
      have sr750 : srt (mA1 ζ9 24 s.toNatClampNeg f) = srt ζ9 := srt_off rfl
      have nd749 := ndζ.pc (x := f)
      have p751 : TR (s.toInt) (0) 0 0 0 (0) κ (mA1 ζ9 24 s.toNatClampNeg f) := pζ.trS g745 (Or.inr (Or.inl rfl)) rfl rfl rfl rfl (by omega)
      have k752 := kI.tr g745 (Or.inr rfl) s0
      have k753 := kO.tr g745 (Or.inr rfl) s0
      have cv754 : CVs (mA1 ζ9 24 s.toNatClampNeg f) (s.toInt + 1) (((mA1 ζ9 24 s.toNatClampNeg f)).1 19).toInt [f] := cv9.st g745.rb (Int.le_refl _) (Or.inl (by omega)) rfl
      refine ⟨TR.mi pζ.ps rfl rfl s0 (by omega), ?_⟩
      generalize mA1 ζ9 24 s.toNatClampNeg f = κ746 at *
      have lt755 : s.toInt < (κ746.1 19).toInt := by omega
      refine ⟨fun _ => ?_, fun _ => ?_⟩
      · skip
        exact s207 _ _ _ _ _ _ _ p751 lt755 nd749 k752 k753 KL.nil (cv754.more _)
      · skip
        refine MC.mono (t_expect (by omega) p751.ps (by decide) (fun _ h => hTκ _ (p751.1.1.tr h))) (fun v756 κ761 h757 => ?_) (fun _ h => h)
        obtain ⟨q758, m759, a760⟩ := h757
        have p762 : TR (s.toInt) (0) 0 0 0 (-2) κ κ761 := p751.trS q758 (Or.inl (by decide)) rfl rfl rfl rfl (by omega)
        have k763 := k752.tr q758 (Or.inl (by decide)) s0
        have k764 := k753.tr q758 (Or.inl (by decide)) s0
        have cv765 : CVs κ761 (s.toInt + 1) ((κ761).1 19).toInt [f] := cv754.st q758.rb (Int.le_refl _) (Or.inl (by omega)) m759
        have nd766 := nd749.tr q758 (by have := @ic s; omega) (by omega)
        have lt767 : s.toInt < (κ761.1 19).toInt := by omega
        have x771 := p762.px
        have u772 := p762.2
        have y773 := tT p762
        have z774 := px0 p762.ps
        refine MC.mono (hSt κ761 T h p762.ps (by omega) (by omega) (by omega) (fun _ h => hTκ _ (p762.1.1.tr h))) (fun r768 κ769 h770 => ?_) (fun _ h => h)
        obtain ⟨q775, g776, c777⟩ := h770
        have l778 := q775.l19
        have l779 := q775.l32
        have p780 : TR (s.toInt) (0) 0 0 0 (-2) κ κ769 := p762.trS q775 (Or.inl (by decide)) rfl rfl rfl rfl (by omega)
        have k781 := k763.tr q775 (Or.inl (by decide)) s0
        have k782 := k764.tr q775 (Or.inl (by decide)) s0
        have cv783 : CVs κ769 (s.toInt + 1) ((κ769).1 19).toInt [r768, f] := cv765.add q775.rb (Int.le_refl _) (Or.inl (by omega)) (by omega) l778 (c777)
        have nd784 := nd766.tr q775 (by have := @ic s; omega) (by omega)
        have lt785 : s.toInt < (κ769.1 19).toInt := by omega
        have k786 : KL κ769 h s.toInt s 3 r768 := KL.of g776 (by omega) (Int.le_refl _) s0 (Or.inl (by omega))
        have g787 : TR s.toInt 0 0 0 0 0 κ769 (mA1 κ769 25 s.toNatClampNeg r768) := TR.put p780.ps s0 rfl rfl
        have e789 : ((mA1 κ769 25 s.toNatClampNeg r768).1 19).toInt = (κ769.1 19).toInt := rfl
        have e790 : ((mA1 κ769 25 s.toNatClampNeg r768).1 32).toInt = (κ769.1 32).toInt := rfl
        have sr792 : srt (mA1 κ769 25 s.toNatClampNeg r768) = srt κ769 := srt_off rfl
        have nd791 := nd784.pd (x := r768)
        have p793 : TR (s.toInt) (0) 0 0 0 (-2) κ (mA1 κ769 25 s.toNatClampNeg r768) := p780.trS g787 (Or.inr (Or.inl rfl)) rfl rfl rfl rfl (by omega)
        have k794 := k781.tr g787 (Or.inr rfl) s0
        have k795 := k782.tr g787 (Or.inr rfl) s0
        have k796 := k786.tr g787 (Or.inr rfl) s0
        have cv797 : CVs (mA1 κ769 25 s.toNatClampNeg r768) (s.toInt + 1) (((mA1 κ769 25 s.toNatClampNeg r768)).1 19).toInt [r768, f] := cv783.st g787.rb (Int.le_refl _) (Or.inl (by omega)) rfl
        refine ⟨TR.mi p780.ps rfl rfl s0 (by omega), ?_⟩
        generalize mA1 κ769 25 s.toNatClampNeg r768 = κ788 at *
        have lt798 : s.toInt < (κ788.1 19).toInt := by omega
        exact s207 _ _ _ _ _ _ _ ⟨p793.1, by have := p793.2; omega⟩ lt798 nd791 k794 k795 k796 cv797
  exact fun nm im e ζ p1 lt1 nd1 l1 n1 => v_parseUnit_98 _ _ (key _ _ nm im e (-1) (-1) ζ lt1 (Int.le_refl _) (Nat.lt_succ_self _) p1 lt1 nd1 l1 OL.nil n1 (Or.inl ⟨rfl, NS.nil (Int.le_refl _)⟩))
theorem st_unit (hD : DeC X W P d) (hSt : SL X W P 321 [] 3 19 11 d) : UnC X W P (d + 1) := fun μ T h9 hS hd hh hn hT hs3 hu0 hu1 => by
  have hp := px0 hS
  have h0 := hS.2.2.2.2.1
  have at0 := hS.at
  obtain ⟨h, rfl⟩ : ∃ h, h9 = h + 1 := ⟨h9 - 1, by omega⟩
  refine me_meth (by omega) rfl (v_parseUnit_0 (MC.mono (c_is (by omega) hS) (fun md ν hr => ?_) (fun _ h => h)))
  obtain ⟨hmd, rfl⟩ := hr
  have hT1 : ∀ μ1, kf SPA RPA ν μ1 → T μ1 := fun _ h => hT _ (h.up rfl rfl)
  refine MC.mono (t_next (by omega) hS hs3 hT1) (fun _ ν1 h1 => ?_) (fun _ h => h)
  obtain ⟨m1, m2, m3⟩ := h1
  refine MC.mono (c_line (by omega) m1.ps.1 m1.ps.at.1 m1.ps.at.2) (fun r2 ν2 h2 => ?_) (fun _ h => h)
  subst h2
  have g2 : TR (-1) 0 0 0 0 (-2) ν (mS1 ν2 34 r2) := m1.tr (TR.s34 m1.ps) (Or.inl (by decide)) rfl rfl rfl rfl (by omega)
  have e19 : ((mS1 ν2 34 r2).1 19).toInt = (ν2.1 19).toInt := rfl
  have e32 : ((mS1 ν2 34 r2).1 32).toInt = (ν2.1 32).toInt := rfl
  have u2 := g2.2
  refine MC.mono (t_node (by omega) g2.ps (by omega)) (fun s ν4 h4 => ?_) (fun _ h => h)
  obtain ⟨q1, ⟨q2, s0⟩, q3, q4, q5, q6⟩ := h4
  have g4 : TR (-1) 0 0 0 0 (-1) ν ν4 := g2.tr q1 (Or.inl (by decide)) rfl rfl rfl rfl (by omega)
  have hcs := @ic s
  have s9 : s.toInt < 15990 := by omega
  have x4 := g4.px
  have e41 : ν4.1 41 = ν.1 41 := g4.1.1.1 41 rfl
  have e42 : ν4.2.1 42 = ν.2.1 42 := g4.1.1.2.1 42 rfl
  have l42 : ν4.2.2 42 = 14 := g4.ps.1.g rfl rfl
  have r4 := g4.rb
  have c4 := g4.1.2.2.2.2.2.2.2.2.2
  have b4 := g4.1.2.2.2.2.2
  refine ⟨MI.of l42 (by rw [e41]; exact hu0) (by rw [e41]; exact hu1), ?_⟩
  -- the row of units
  have pκ : PS (mA1 ν4 42 (ν4.1 41).toNatClampNeg s) := g4.ps.kf (s := []) (r := [42]) (kf.rf.A rfl) rfl rfl rfl rfl rfl rfl rfl rfl
  have kκ : kf SPA RPU ν (mA1 ν4 42 (ν4.1 41).toNatClampNeg s) := (g4.1.1.up rfl rfl).A rfl
  have rκ : RB (-1) (ν.1 19).toInt ν (mA1 ν4 42 (ν4.1 41).toNatClampNeg s) := r4.tr (fun g h1 h2 i _ _ => by
    show (bif Nat.beq g 42 then _ else ν4.2.1 g) i = _
    rw [nb_ne (by omega)]; rfl)
  have r29 : (mA1 ν4 42 (ν4.1 41).toNatClampNeg s).2.1 29 = ν4.2.1 29 := row_off rfl
  have cκ : NC ν (mA1 ν4 42 (ν4.1 41).toNatClampNeg s) := fun j hj => by rw [r29]; exact c4 j hj
  have nd0 : ND (mA1 ν4 42 (ν4.1 41).toNatClampNeg s) s.toNatClampNeg 1 (-1) (-1) (-1) (-1) (-1) (-1) := ND.rb (ex := -1) (n := (ν4.1 19).toInt) q6 (fun g h1 h2 i _ _ => by rw [row_off (nb_ne (by omega))]) (by omega) (by omega)
  have w42 : (mA1 ν4 42 (ν4.1 41).toNatClampNeg s).2.1 42 = upd (ν.2.1 42) (ν.1 41).toNatClampNeg s := by
    show upd (ν4.2.1 42) (ν4.1 41).toNatClampNeg s = _
    rw [e41, e42]
  have f19 : ((mA1 ν4 42 (ν4.1 41).toNatClampNeg s).1 19).toInt = (ν4.1 19).toInt := rfl
  have f32 : ((mA1 ν4 42 (ν4.1 41).toNatClampNeg s).1 32).toInt = (ν4.1 32).toInt := rfl
  have bκ : ((mA1 ν4 42 (ν4.1 41).toNatClampNeg s).1 37).toInt = (ν.1 37).toInt + 0 ∧ ((mA1 ν4 42 (ν4.1 41).toNatClampNeg s).1 38).toInt = (ν.1 38).toInt + 0 ∧ ((mA1 ν4 42 (ν4.1 41).toNatClampNeg s).1 39).toInt = (ν.1 39).toInt + 0 ∧ ((mA1 ν4 42 (ν4.1 41).toNatClampNeg s).1 40).toInt = (ν.1 40).toInt + 0 := ⟨b4.1, b4.2.1, b4.2.2.1, b4.2.2.2.1⟩
  have e33 : (mA1 ν4 42 (ν4.1 41).toNatClampNeg s).1 33 = ν.1 33 := g4.1.1.1 33 rfl
  have xκ : psS (mA1 ν4 42 (ν4.1 41).toNatClampNeg s) = psS ν4 ∧ hiS (mA1 ν4 42 (ν4.1 41).toNatClampNeg s) = hiS ν4 := by unfold psS hiS psX hiX; exact ⟨rfl, rfl⟩
  have miκ : MI s (ν4.2.2 26) := TR.mi g4.ps rfl rfl s0 (by omega)
  generalize mA1 ν4 42 (ν4.1 41).toNatClampNeg s = κ at *
  have u4 := g4.2
  have l4 := g4.l19
  have hTκ : ∀ μ1, kf SPA RPA κ μ1 → T μ1 := fun _ h => hT _ (kκ.tr (h.up rfl rfl))
  have p0 : TR s.toInt 0 0 0 0 0 κ κ := TR.rf pκ
  have lt0 : s.toInt < (κ.1 19).toInt := by omega
  -- from the unit's node on to what is asked
  have out : ∀ ζ : MS, TR s.toInt 0 0 0 0 0 κ ζ → G ζ (h + 1) (bt s.toInt (ζ.1 19).toInt) 20 s → CO ζ s.toInt (ζ.1 19).toInt s → UnP (h + 1) ν ζ := fun ζ z1 z2 z3 => by
    obtain ⟨⟨a1, a2, a3, a4, a5, a6, a7, a8, a9, a10⟩, a11⟩ := z1
    have eN : NS ζ (ν.1 19).toInt s.toInt := NS.nil (by omega)
    refine ⟨kκ.tr (a1.up rfl rfl), a2, ⟨by omega, by omega, by omega⟩, rκ.tr (fun g g1 g2 i g3 g4 => a5 g g1 g2 i (by omega) (by omega)), ⟨by omega, by omega, by omega, by omega⟩, cκ.tr a10 e33 (by omega), s, z2.up (Nat.le_refl _) (by omega) (Int.le_refl _), by rw [a1.2.1 42 rfl]; exact w42, ?_⟩
    exact z3.ahead eN (by omega)
  have s98 := un_98 (md := md) hD hSt pκ (by omega) (by omega) (by omega) hTκ s0 s9 (by omega) out
  refine ⟨fun _ => ⟨miκ, ?_⟩, fun _ => ⟨miκ, ?_⟩⟩
  · skip
    have g799 : TR s.toInt 0 0 0 0 0 κ (mA1 κ 26 s.toNatClampNeg 0) := TR.put p0.ps s0 rfl rfl
    have e801 : ((mA1 κ 26 s.toNatClampNeg 0).1 19).toInt = (κ.1 19).toInt := rfl
    have e802 : ((mA1 κ 26 s.toNatClampNeg 0).1 32).toInt = (κ.1 32).toInt := rfl
    have sr804 : srt (mA1 κ 26 s.toNatClampNeg 0) = srt κ := srt_off rfl
    have nd803 := nd0.pe (x := 0)
    have p805 : TR (s.toInt) (0) 0 0 0 (0) κ (mA1 κ 26 s.toNatClampNeg 0) := p0.trS g799 (Or.inr (Or.inl rfl)) rfl rfl rfl rfl (by omega)
    generalize mA1 κ 26 s.toNatClampNeg 0 = κ800 at *
    have lt806 : s.toInt < (κ800.1 19).toInt := by omega
    refine MC.mono (t_name (by omega) p805.ps (fun _ h => hTκ _ (p805.1.1.tr h))) (fun v807 κ812 h808 => ?_) (fun _ h => h)
    obtain ⟨q809, m810, a811⟩ := h808
    have p813 : TR (s.toInt) (0) 0 0 0 (-2) κ κ812 := p805.trS q809 (Or.inl (by decide)) rfl rfl rfl rfl (by omega)
    have nd814 := nd803.tr q809 (by have := @ic s; omega) (by omega)
    have lt815 : s.toInt < (κ812.1 19).toInt := by omega
    have g816 : TR s.toInt 0 0 0 0 0 κ812 (mA1 κ812 22 s.toNatClampNeg v807) := TR.put p813.ps s0 rfl rfl
    have e818 : ((mA1 κ812 22 s.toNatClampNeg v807).1 19).toInt = (κ812.1 19).toInt := rfl
    have e819 : ((mA1 κ812 22 s.toNatClampNeg v807).1 32).toInt = (κ812.1 32).toInt := rfl
    have sr821 : srt (mA1 κ812 22 s.toNatClampNeg v807) = srt κ812 := srt_off rfl
    have nd820 := nd814.pa (x := v807)
    have p822 : TR (s.toInt) (0) 0 0 0 (-2) κ (mA1 κ812 22 s.toNatClampNeg v807) := p813.trS g816 (Or.inr (Or.inl rfl)) rfl rfl rfl rfl (by omega)
    refine ⟨TR.mi p813.ps rfl rfl s0 (by omega), ?_⟩
    generalize mA1 κ812 22 s.toNatClampNeg v807 = κ817 at *
    have lt823 : s.toInt < (κ817.1 19).toInt := by omega
    refine MC.mono (t_expect (by omega) p822.ps (by decide) (fun _ h => hTκ _ (p822.1.1.tr h))) (fun v824 κ829 h825 => ?_) (fun _ h => h)
    obtain ⟨q826, m827, a828⟩ := h825
    have p830 : TR (s.toInt) (0) 0 0 0 (-4) κ κ829 := p822.trS q826 (Or.inl (by decide)) rfl rfl rfl rfl (by omega)
    have nd831 := nd820.tr q826 (by have := @ic s; omega) (by omega)
    have lt832 : s.toInt < (κ829.1 19).toInt := by omega
    refine MC.mono (c_is (by omega) p830.ps) (fun r833 κ834 h835 => ?_) (fun _ h => h)
    obtain ⟨rfl, rfl⟩ := h835
    refine ⟨fun _ => ?_, fun hw => ?_⟩
    · skip
      exact s98 _ _ _ _ ⟨p830.1, by have := p830.2; omega⟩ lt832 nd831 LB.nil (NS.nil (by omega))
    · skip
      have hw3 : ¬ srt κ834 = 203 := by rw [is_t hw]; decide
      refine MC.mono (t_next (by omega) p830.ps (hw3) (fun _ h => hTκ _ (p830.1.1.tr h))) (fun v836 κ841 h837 => ?_) (fun _ h => h)
      obtain ⟨q838, m839, a840⟩ := h837
      have p842 : TR (s.toInt) (0) 0 0 0 (-6) κ κ841 := p830.trS q838 (Or.inl (by decide)) rfl rfl rfl rfl (by omega)
      have nd843 := nd831.tr q838 (by have := @ic s; omega) (by omega)
      have lt844 : s.toInt < (κ841.1 19).toInt := by omega
      have x848 := p842.px
      have u849 := p842.2
      have y850 := tT p842
      have z851 := px0 p842.ps
      refine MC.mono (c_nameRow (by omega) p842.ps (by omega) (fun _ h => hTκ _ (p842.1.1.tr h))) (fun r845 κ846 h847 => ?_) (fun _ h => h)
      have g853 : LB κ846 h 5 (κ841.1 19).toInt (κ846.1 19).toInt r845 := by obtain ⟨m, hm⟩ := NR.ls (s := 5) (h := 0) h847.1 (by decide) (by decide); exact ⟨m, hm.mono (fun y hy => hy.up (by omega) (Int.le_refl _) (Int.le_refl _)) (fun _ _ => rfl)⟩
      have q852 : TR (-1) 0 0 0 0 0 κ841 κ846 := ⟨h847.1.1, by have := h847.1.2.1; omega⟩
      have nI := h847.2.1.ns (by decide)
      have l854 := q852.l19
      have p855 : TR (s.toInt) (0) 0 0 0 (-6) κ κ846 := p842.trS q852 (Or.inl (by decide)) rfl rfl rfl rfl (by omega)
      have nd856 := nd843.tr q852 (by have := @ic s; omega) (by omega)
      have lt857 : s.toInt < (κ846.1 19).toInt := by omega
      have gP : TR s.toInt 0 0 0 0 0 κ846 (mA1 κ846 23 s.toNatClampNeg r845) := TR.put p855.ps s0 rfl rfl
      have g858 := g853.tr gP (by omega) (Or.inl (by omega))
      have nI2 := nI.rb gP.rb (Int.le_refl _) (Or.inl (by omega))
      have g859 : TR s.toInt 0 0 0 0 0 κ846 (mA1 κ846 23 s.toNatClampNeg r845) := TR.put p855.ps s0 rfl rfl
      have e861 : ((mA1 κ846 23 s.toNatClampNeg r845).1 19).toInt = (κ846.1 19).toInt := rfl
      have e862 : ((mA1 κ846 23 s.toNatClampNeg r845).1 32).toInt = (κ846.1 32).toInt := rfl
      have sr864 : srt (mA1 κ846 23 s.toNatClampNeg r845) = srt κ846 := srt_off rfl
      have nd863 := nd856.pb (x := r845)
      have p865 : TR (s.toInt) (0) 0 0 0 (-6) κ (mA1 κ846 23 s.toNatClampNeg r845) := p855.trS g859 (Or.inr (Or.inl rfl)) rfl rfl rfl rfl (by omega)
      refine ⟨TR.mi p855.ps rfl rfl s0 (by omega), ?_⟩
      generalize mA1 κ846 23 s.toNatClampNeg r845 = κ860 at *
      have lt866 : s.toInt < (κ860.1 19).toInt := by omega
      have lE : s.toInt + 1 ≤ (κ841.1 19).toInt := by omega
      refine MC.mono (t_expect (by omega) p865.ps (by decide) (fun _ h => hTκ _ (p865.1.1.tr h))) (fun v867 κ872 h868 => ?_) (fun _ h => h)
      obtain ⟨q869, m870, a871⟩ := h868
      have p873 : TR (s.toInt) (0) 0 0 0 (-8) κ κ872 := p865.trS q869 (Or.inl (by decide)) rfl rfl rfl rfl (by omega)
      have nd874 := nd863.tr q869 (by have := @ic s; omega) (by omega)
      have lt875 : s.toInt < (κ872.1 19).toInt := by omega
      have g9 := g858.tr q869 (by omega) (Or.inl (by omega))
      obtain ⟨m9, hm9⟩ := g9
      have nI3 : NS κ872 (s.toInt + 1) (κ872.1 19).toInt := fun j j1 j2 => (nI2.rb q869.rb (by omega) (Or.inl (by omega))) j (by omega) (by omega)
      exact s98 _ _ _ _ ⟨p873.1, by have := p873.2; omega⟩ lt875 nd874 ⟨m9, hm9.mono (fun y hy => hy.up (Nat.le_refl _) (by omega) (by omega)) (fun _ _ => rfl)⟩ nI3
  · skip
    have g876 : TR s.toInt 0 0 0 0 0 κ (mA1 κ 26 s.toNatClampNeg 1) := TR.put p0.ps s0 rfl rfl
    have e878 : ((mA1 κ 26 s.toNatClampNeg 1).1 19).toInt = (κ.1 19).toInt := rfl
    have e879 : ((mA1 κ 26 s.toNatClampNeg 1).1 32).toInt = (κ.1 32).toInt := rfl
    have sr881 : srt (mA1 κ 26 s.toNatClampNeg 1) = srt κ := srt_off rfl
    have nd880 := nd0.pe (x := 1)
    have p882 : TR (s.toInt) (0) 0 0 0 (0) κ (mA1 κ 26 s.toNatClampNeg 1) := p0.trS g876 (Or.inr (Or.inl rfl)) rfl rfl rfl rfl (by omega)
    generalize mA1 κ 26 s.toNatClampNeg 1 = κ877 at *
    have lt883 : s.toInt < (κ877.1 19).toInt := by omega
    refine MC.mono (t_name (by omega) p882.ps (fun _ h => hTκ _ (p882.1.1.tr h))) (fun v884 κ889 h885 => ?_) (fun _ h => h)
    obtain ⟨q886, m887, a888⟩ := h885
    have p890 : TR (s.toInt) (0) 0 0 0 (-2) κ κ889 := p882.trS q886 (Or.inl (by decide)) rfl rfl rfl rfl (by omega)
    have nd891 := nd880.tr q886 (by have := @ic s; omega) (by omega)
    have lt892 : s.toInt < (κ889.1 19).toInt := by omega
    have g893 : TR s.toInt 0 0 0 0 0 κ889 (mA1 κ889 22 s.toNatClampNeg v884) := TR.put p890.ps s0 rfl rfl
    have e895 : ((mA1 κ889 22 s.toNatClampNeg v884).1 19).toInt = (κ889.1 19).toInt := rfl
    have e896 : ((mA1 κ889 22 s.toNatClampNeg v884).1 32).toInt = (κ889.1 32).toInt := rfl
    have sr898 : srt (mA1 κ889 22 s.toNatClampNeg v884) = srt κ889 := srt_off rfl
    have nd897 := nd891.pa (x := v884)
    have p899 : TR (s.toInt) (0) 0 0 0 (-2) κ (mA1 κ889 22 s.toNatClampNeg v884) := p890.trS g893 (Or.inr (Or.inl rfl)) rfl rfl rfl rfl (by omega)
    refine ⟨TR.mi p890.ps rfl rfl s0 (by omega), ?_⟩
    generalize mA1 κ889 22 s.toNatClampNeg v884 = κ894 at *
    have lt900 : s.toInt < (κ894.1 19).toInt := by omega
    refine MC.mono (t_expect (by omega) p899.ps (by decide) (fun _ h => hTκ _ (p899.1.1.tr h))) (fun v901 κ906 h902 => ?_) (fun _ h => h)
    obtain ⟨q903, m904, a905⟩ := h902
    have p907 : TR (s.toInt) (0) 0 0 0 (-4) κ κ906 := p899.trS q903 (Or.inl (by decide)) rfl rfl rfl rfl (by omega)
    have nd908 := nd897.tr q903 (by have := @ic s; omega) (by omega)
    have lt909 : s.toInt < (κ906.1 19).toInt := by omega
    refine MC.mono (c_is (by omega) p907.ps) (fun r910 κ911 h912 => ?_) (fun _ h => h)
    obtain ⟨rfl, rfl⟩ := h912
    refine ⟨fun _ => ?_, fun hw => ?_⟩
    · skip
      exact s98 _ _ _ _ ⟨p907.1, by have := p907.2; omega⟩ lt909 nd908 LB.nil (NS.nil (by omega))
    · skip
      have hw3 : ¬ srt κ911 = 203 := by rw [is_t hw]; decide
      refine MC.mono (t_next (by omega) p907.ps (hw3) (fun _ h => hTκ _ (p907.1.1.tr h))) (fun v913 κ918 h914 => ?_) (fun _ h => h)
      obtain ⟨q915, m916, a917⟩ := h914
      have p919 : TR (s.toInt) (0) 0 0 0 (-6) κ κ918 := p907.trS q915 (Or.inl (by decide)) rfl rfl rfl rfl (by omega)
      have nd920 := nd908.tr q915 (by have := @ic s; omega) (by omega)
      have lt921 : s.toInt < (κ918.1 19).toInt := by omega
      have x925 := p919.px
      have u926 := p919.2
      have y927 := tT p919
      have z928 := px0 p919.ps
      refine MC.mono (c_nameRow (by omega) p919.ps (by omega) (fun _ h => hTκ _ (p919.1.1.tr h))) (fun r922 κ923 h924 => ?_) (fun _ h => h)
      have g930 : LB κ923 h 5 (κ918.1 19).toInt (κ923.1 19).toInt r922 := by obtain ⟨m, hm⟩ := NR.ls (s := 5) (h := 0) h924.1 (by decide) (by decide); exact ⟨m, hm.mono (fun y hy => hy.up (by omega) (Int.le_refl _) (Int.le_refl _)) (fun _ _ => rfl)⟩
      have q929 : TR (-1) 0 0 0 0 0 κ918 κ923 := ⟨h924.1.1, by have := h924.1.2.1; omega⟩
      have nI := h924.2.1.ns (by decide)
      have l931 := q929.l19
      have p932 : TR (s.toInt) (0) 0 0 0 (-6) κ κ923 := p919.trS q929 (Or.inl (by decide)) rfl rfl rfl rfl (by omega)
      have nd933 := nd920.tr q929 (by have := @ic s; omega) (by omega)
      have lt934 : s.toInt < (κ923.1 19).toInt := by omega
      have gP : TR s.toInt 0 0 0 0 0 κ923 (mA1 κ923 23 s.toNatClampNeg r922) := TR.put p932.ps s0 rfl rfl
      have g935 := g930.tr gP (by omega) (Or.inl (by omega))
      have nI2 := nI.rb gP.rb (Int.le_refl _) (Or.inl (by omega))
      have g936 : TR s.toInt 0 0 0 0 0 κ923 (mA1 κ923 23 s.toNatClampNeg r922) := TR.put p932.ps s0 rfl rfl
      have e938 : ((mA1 κ923 23 s.toNatClampNeg r922).1 19).toInt = (κ923.1 19).toInt := rfl
      have e939 : ((mA1 κ923 23 s.toNatClampNeg r922).1 32).toInt = (κ923.1 32).toInt := rfl
      have sr941 : srt (mA1 κ923 23 s.toNatClampNeg r922) = srt κ923 := srt_off rfl
      have nd940 := nd933.pb (x := r922)
      have p942 : TR (s.toInt) (0) 0 0 0 (-6) κ (mA1 κ923 23 s.toNatClampNeg r922) := p932.trS g936 (Or.inr (Or.inl rfl)) rfl rfl rfl rfl (by omega)
      refine ⟨TR.mi p932.ps rfl rfl s0 (by omega), ?_⟩
      generalize mA1 κ923 23 s.toNatClampNeg r922 = κ937 at *
      have lt943 : s.toInt < (κ937.1 19).toInt := by omega
      have lE : s.toInt + 1 ≤ (κ918.1 19).toInt := by omega
      refine MC.mono (t_expect (by omega) p942.ps (by decide) (fun _ h => hTκ _ (p942.1.1.tr h))) (fun v944 κ949 h945 => ?_) (fun _ h => h)
      obtain ⟨q946, m947, a948⟩ := h945
      have p950 : TR (s.toInt) (0) 0 0 0 (-8) κ κ949 := p942.trS q946 (Or.inl (by decide)) rfl rfl rfl rfl (by omega)
      have nd951 := nd940.tr q946 (by have := @ic s; omega) (by omega)
      have lt952 : s.toInt < (κ949.1 19).toInt := by omega
      have g9 := g935.tr q946 (by omega) (Or.inl (by omega))
      obtain ⟨m9, hm9⟩ := g9
      have nI3 : NS κ949 (s.toInt + 1) (κ949.1 19).toInt := fun j j1 j2 => (nI2.rb q946.rb (by omega) (Or.inl (by omega))) j (by omega) (by omega)
      exact s98 _ _ _ _ ⟨p950.1, by have := p950.2; omega⟩ lt952 nd951 ⟨m9, hm9.mono (fun y hy => hy.up (Nat.le_refl _) (by omega) (by omega)) (fun _ _ => rfl)⟩ nI3
end PSM
