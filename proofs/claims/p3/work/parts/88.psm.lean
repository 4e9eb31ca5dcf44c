/-! contracts of the reference: units, the whole text -/
/-- a list whose nodes lie between two counts -/
def LB (ν : MS) (h s : Nat) (lo hi : Int) (x : Int32) : Prop := ∃ m, Lst (G ν h (bt lo hi) s) (ν.2.1 27) m x
theorem LB.tr {r b n t s' δ lo hi : Int} {ν ν1 : MS} {h s : Nat} {x : Int32} (hL : LB ν h s lo hi x) (q : TR r b n t s' δ ν ν1) (hn : hi ≤ (ν.1 19).toInt) (hr : r < lo ∨ hi ≤ r) : LB ν1 h s lo hi x := by
  obtain ⟨m, hm⟩ := hL
  refine ⟨m, hm.mono (fun y hy => hy.tr q hn hr) (fun y hy => ?_)⟩
  obtain ⟨-, k2, k3⟩ := hy.in
  exact q.rb 27 (by omega) (by omega) _ (by omega) (by omega)
theorem LB.nil {ν : MS} {h s : Nat} {lo hi : Int} : LB ν h s lo hi (-1) := ⟨0, rfl⟩
/-- the slots and rows of the parser and of its units -/
abbrev SPU : List Nat := [17, 18, 19, 32, 33, 34, 37, 38, 39, 40, 41]
abbrev RPU : List Nat := [20, 21, 22, 23, 24, 25, 26, 27, 28, 29, 30, 31, 42]
/-- a unit more -/
def UnP (h : Nat) (μ μ1 : MS) : Prop := kf SPA RPU μ μ1 ∧ PS μ1 ∧ ((μ.1 19).toInt ≤ (μ1.1 19).toInt ∧ (μ.1 32).toInt < (μ1.1 32).toInt ∧ (μ1.1 19).toInt + 2 * (μ.1 32).toInt ≤ (μ.1 19).toInt + 2 * (μ1.1 32).toInt) ∧ RB (-1) (μ.1 19).toInt μ μ1 ∧ ((μ1.1 37).toInt = (μ.1 37).toInt ∧ (μ1.1 38).toInt = (μ.1 38).toInt ∧ (μ1.1 39).toInt = (μ.1 39).toInt ∧ (μ1.1 40).toInt = (μ.1 40).toInt) ∧ NC μ μ1 ∧
  ∃ u, G μ1 h (bt (μ.1 19).toInt (μ1.1 19).toInt) 20 u ∧ μ1.2.1 42 = upd (μ.2.1 42) (μ.1 41).toNatClampNeg u
def UnC (X : ev_X) (W : Nat → Prop) (P : MP) (d : Nat) : Prop := ∀ (μ : MS) (T : MS → Prop) (h : Nat), PS μ → psS μ + 22 ≤ d → hiS μ + 14 ≤ h → (μ.1 19).toInt ≤ 2 * (μ.1 32).toInt + 30 → (∀ μ1, kf SPA RPU μ μ1 → T μ1) → ¬ srt μ = 203 → 0 ≤ (μ.1 41).toInt → (μ.1 41).toInt < 14 →
  MC X W true d 302 [.ref P.1] P μ (fun _ μ1 => UnP h μ μ1) T
section PSM
variable {X : ev_X} {W : Nat → Prop} {d : Nat} {P : MP}
theorem un_98 (hD : DeC X W P d) (hSt : SL X W P 321 [] 3 19 11 d) {κ : MS} {T : MS → Prop} {h : Nat} {s md : Int32} {R : MS → Prop} (pκ : PS κ) (hd : psS κ + 22 ≤ (d : Int) + 1) (hh : hiS κ + 14 ≤ (h : Int) + 1) (hn : (κ.1 19).toInt ≤ 2 * (κ.1 32).toInt + 29) (hTκ : ∀ μ1, kf SPA RPA κ μ1 → T μ1) (s0 : 0 ≤ s.toInt) (s9 : s.toInt < 15990) (s1 : s.toInt + 1 = (κ.1 19).toInt)
    (out : ∀ ζ : MS, TR s.toInt 0 0 0 0 0 κ ζ → G ζ (h + 1) (bt s.toInt (ζ.1 19).toInt) 20 s → R ζ) : ∀ (nm im e : Int32) (ζ : MS), TR s.toInt 0 0 0 0 0 κ ζ → s.toInt < (ζ.1 19).toInt → ND ζ s.toNatClampNeg 1 nm im (-1) (-1) e (-1) → LB ζ h 5 (s.toInt + 1) (ζ.1 19).toInt im → ME X W true d 302 98 [(0, .ref P.1), (1, .int md), (2, .int s)] [] P ζ (fun _ μ1 => R μ1) T := by
  have hp := px0 pκ
  have h0 := pκ.2.2.2.2.1
  have at0 := pκ.at
  have hcs := @ic s
  have s207 : ∀ (nm im f st e x4 : Int32) (ζ : MS), TR s.toInt 0 0 0 0 0 κ ζ → s.toInt < (ζ.1 19).toInt → ND ζ s.toNatClampNeg 1 nm im f st e (-1) → KL ζ h s.toInt s 5 im → KL ζ h s.toInt s 4 f → KL ζ h s.toInt s 3 st → ME X W true d 302 207 [(0, .ref P.1), (1, .int md), (2, .int s), (3, .int f), (4, .int x4)] [] P ζ (fun _ μ1 => R μ1) T := fun nm im f st e x4 ζ p1 lt1 nd1 k1 k2 k3 => by
    refine v_parseUnit_207 _ _ _ _ ?_
    refine MC.mono (t_expect (by omega) p1.ps (by decide) (fun _ h => hTκ _ (p1.1.1.tr h))) (fun v642 κ647 h643 => ?_) (fun _ h => h)
    obtain ⟨q644, m645, a646⟩ := h643
    have p648 : TR (s.toInt) (0) 0 0 0 (-2) κ κ647 := p1.trS q644 (Or.inl (by decide)) rfl rfl rfl rfl (by omega)
    have k649 := k1.tr q644 (Or.inl (by decide)) s0
    have k650 := k2.tr q644 (Or.inl (by decide)) s0
    have k651 := k3.tr q644 (Or.inl (by decide)) s0
    have nd652 := nd1.tr q644 (by have := @ic s; omega) (by omega)
    have lt653 : s.toInt < (κ647.1 19).toInt := by omega
    refine ⟨TR.mi p648.ps rfl rfl s0 (by omega), ?_⟩
    refine MC.mono (t_endName (by omega) p648.ps (fun _ h => hTκ _ (p648.1.1.tr h))) (fun v654 κ659 h655 => ?_) (fun _ h => h)
    obtain ⟨q656, m657, a658⟩ := h655
    have p660 : TR (s.toInt) (0) 0 0 0 (-4) κ κ659 := p648.trS q656 (Or.inl (by decide)) rfl rfl rfl rfl (by omega)
    have k661 := k649.tr q656 (Or.inl (by decide)) s0
    have k662 := k650.tr q656 (Or.inl (by decide)) s0
    have k663 := k651.tr q656 (Or.inl (by decide)) s0
    have nd664 := nd652.tr q656 (by have := @ic s; omega) (by omega)
    have lt665 : s.toInt < (κ659.1 19).toInt := by omega
    refine MC.mono (t_expect (by omega) p660.ps (by decide) (fun _ h => hTκ _ (p660.1.1.tr h))) (fun v666 κ671 h667 => ?_) (fun _ h => h)
    obtain ⟨q668, m669, a670⟩ := h667
    have p672 : TR (s.toInt) (0) 0 0 0 (-6) κ κ671 := p660.trS q668 (Or.inl (by decide)) rfl rfl rfl rfl (by omega)
    have k673 := k661.tr q668 (Or.inl (by decide)) s0
    have k674 := k662.tr q668 (Or.inl (by decide)) s0
    have k675 := k663.tr q668 (Or.inl (by decide)) s0
    have nd676 := nd664.tr q668 (by have := @ic s; omega) (by omega)
    have lt677 : s.toInt < (κ671.1 19).toInt := by omega
    exact out _ ⟨p672.1, by have := p672.2; omega⟩ (G.mk s0 (Int.le_refl _) lt677 nd676 (by decide) True.intro (k673) (k674) (k675) True.intro)
  have key : ∀ (j : Nat) (n0 : Int) (nm im e f x4 : Int32) (ζ : MS), s.toInt < n0 → n0 ≤ (ζ.1 19).toInt → ((κ.1 8).toInt - (ζ.1 32).toInt).toNat < j → TR s.toInt 0 0 0 0 0 κ ζ → s.toInt < (ζ.1 19).toInt → ND ζ s.toNatClampNeg 1 nm im (-1) (-1) e (-1) → LB ζ h 5 (s.toInt + 1) n0 im → OL 4 h n0 ζ f x4 → ME X W true d 302 103 [(0, .ref P.1), (1, .int md), (2, .int s), (3, .int f), (4, .int x4)] [] P ζ (fun _ μ1 => R μ1) T := by
    intro j
    induction j with
    | zero => intro n0 nm im e f x4 ζ hn1 hn2 hj; omega
    | succ j ih =>
      intro n0 nm im e f x4 ζ hn1 hn2 hj pζ ltζ ndζ gζ hO
      have e8 := eq_i (pζ.1.1.1 8 rfl)
      have t8 := pζ.ps.2.2.1.2
      have at1 := pζ.ps.at
      have uζ := pζ.2
      have xζ := pζ.px
      -- a declaration more
      have more : ¬ srt ζ = 203 → ME X W true d 302 148 [(0, .ref P.1), (1, .int md), (2, .int s), (3, .int f), (4, .int x4)] [] P ζ (fun _ μ1 => R μ1) T := fun h3 => by
        refine v_parseUnit_148 _ _ _ _ (MC.mono (hD ζ T h md pζ.ps (by omega) (by omega) (by omega) (fun _ h => hTκ _ (pζ.1.1.tr h)) h3) (fun r ζ1 h1 => ?_) (fun _ h => h))
        obtain ⟨v1, v2, v3, v4⟩ := h1
        have p1 : TR s.toInt 0 0 0 0 0 κ ζ1 := pζ.trS v1 (Or.inl (by decide)) rfl rfl rfl rfl (by omega)
        have l1 := v1.l19
        have at2 := p1.ps.at
        have u2 := p1.2
        have nd1 := ndζ.tr v1 (by omega) (by omega)
        have gg1 := gζ.tr v1 hn2 (Or.inl (by omega))
        refine ⟨fun hx1 => ?_, fun hx1 => ?_⟩
        · rcases hO.sg with ⟨w1, -⟩ | ⟨w1, w2⟩
          · rw [w1] at hx1; exact absurd hx1 (by decide)
          obtain ⟨j1, j2, j3⟩ := hO.in w2
          have hc2 := @ic x4
          have g9 : TR x4.toInt 0 0 0 0 0 ζ1 (mA1 ζ1 27 x4.toNatClampNeg r) := TR.put p1.ps w2 rfl rfl
          exact ⟨TR.mi p1.ps rfl rfl w2 (by omega), v_parseUnit_174 _ _ _ _ _ (ih n0 nm im e f r _ hn1 (by show _ ≤ (ζ1.1 19).toInt; omega) (by show ((κ.1 8).toInt - (ζ1.1 32).toInt).toNat < j; omega) (p1.trS g9 (Or.inr (Or.inr (by omega))) rfl rfl rfl rfl (by omega)) (by show _ < (ζ1.1 19).toInt; omega) (nd1.off (by omega)) (gg1.tr g9 (by omega) (Or.inr (by omega))) (hO.add w2 v1 (by omega) v3 v4))⟩
        · have hf : f = -1 := by
            rcases hO.sg with ⟨w1, -⟩ | ⟨w1, -⟩
            · exact w1
            · omega
          exact v_parseUnit_174 _ _ _ _ _ (ih n0 nm im e r r _ hn1 (by omega) (by omega) p1 (by omega) nd1 gg1 (OL.one (v3.up (Nat.le_refl _) (by omega) (Int.le_refl _)) (by omega) v4))
      refine v_parseUnit_103 _ _ _ _ (MC.mono (c_is (by omega) pζ.ps) (fun r1 ζ1 h1 => ?_) (fun _ h => h))
      obtain ⟨rfl, rfl⟩ := h1
      refine ⟨fun h1 => more (by rw [is_t h1]; decide), fun _ => MC.mono (c_is (by omega) pζ.ps) (fun r1 ζ1 h1 => ?_) (fun _ h => h)⟩
      obtain ⟨rfl, rfl⟩ := h1
      refine ⟨fun h1 => more (by rw [is_t h1]; decide), fun _ => MC.mono (c_is (by omega) pζ.ps) (fun r1 ζ1 h1 => ?_) (fun _ h => h)⟩
      obtain ⟨rfl, rfl⟩ := h1
      refine ⟨fun h1 => more (by rw [is_t h1]; decide), fun _ => MC.mono (c_is (by omega) pζ.ps) (fun r1 ζ1 h1 => ?_) (fun _ h => h)⟩
      obtain ⟨rfl, rfl⟩ := h1
      refine ⟨fun h1 => more (by rw [is_t h1]; decide), fun _ => MC.mono (c_is (by omega) pζ.ps) (fun r1 ζ9 h1 => ?_) (fun _ h => h)⟩
      obtain ⟨rfl, rfl⟩ := h1
      refine ⟨fun _ => ?_, fun h1 => more (by rw [is_t h1]; decide)⟩
      have kI : KL ζ9 h s.toInt s 5 im := KL.of gζ (by omega) hn2 s0 (Or.inl (by omega))
      have kO : KL ζ9 h s.toInt s 4 f := KL.of hO.lst (by omega) (Int.le_refl _) s0 (Or.inl (by omega))
      have g678 : TR s.toInt 0 0 0 0 0 ζ9 (mA1 ζ9 24 s.toNatClampNeg f) := TR.put pζ.ps s0 rfl rfl
      have e680 : ((mA1 ζ9 24 s.toNatClampNeg f).1 19).toInt = (ζ9.1 19).toInt := rfl
      have e681 : ((mA1 ζ9 24 s.toNatClampNeg f).1 32).toInt = (ζ9.1 32).toInt := rfl
      have sr683 : srt (mA1 ζ9 24 s.toNatClampNeg f) = srt ζ9 := srt_off rfl
      have nd682 := ndζ.pc (x := f)
      have p684 : TR (s.toInt) (0) 0 0 0 (0) κ (mA1 ζ9 24 s.toNatClampNeg f) := pζ.trS g678 (Or.inr (Or.inl rfl)) rfl rfl rfl rfl (by omega)
      have k685 := kI.tr g678 (Or.inr rfl) s0
      have k686 := kO.tr g678 (Or.inr rfl) s0
      refine ⟨TR.mi pζ.ps rfl rfl s0 (by omega), ?_⟩
      generalize mA1 ζ9 24 s.toNatClampNeg f = κ679 at *
      have lt687 : s.toInt < (κ679.1 19).toInt := by omega
      refine ⟨fun _ => ?_, fun _ => ?_⟩
      · skip
        exact s207 _ _ _ _ _ _ _ p684 lt687 nd682 k685 k686 KL.nil
      · skip
        refine MC.mono (t_expect (by omega) p684.ps (by decide) (fun _ h => hTκ _ (p684.1.1.tr h))) (fun v688 κ693 h689 => ?_) (fun _ h => h)
        obtain ⟨q690, m691, a692⟩ := h689
        have p694 : TR (s.toInt) (0) 0 0 0 (-2) κ κ693 := p684.trS q690 (Or.inl (by decide)) rfl rfl rfl rfl (by omega)
        have k695 := k685.tr q690 (Or.inl (by decide)) s0
        have k696 := k686.tr q690 (Or.inl (by decide)) s0
        have nd697 := nd682.tr q690 (by have := @ic s; omega) (by omega)
        have lt698 : s.toInt < (κ693.1 19).toInt := by omega
        have x702 := p694.px
        have u703 := p694.2
        have y704 := tT p694
        have z705 := px0 p694.ps
        refine MC.mono (hSt κ693 T h p694.ps (by omega) (by omega) (by omega) (fun _ h => hTκ _ (p694.1.1.tr h))) (fun r699 κ700 h701 => ?_) (fun _ h => h)
        obtain ⟨q706, g707⟩ := h701
        have l708 := q706.l19
        have l709 := q706.l32
        have p710 : TR (s.toInt) (0) 0 0 0 (-2) κ κ700 := p694.trS q706 (Or.inl (by decide)) rfl rfl rfl rfl (by omega)
        have k711 := k695.tr q706 (Or.inl (by decide)) s0
        have k712 := k696.tr q706 (Or.inl (by decide)) s0
        have nd713 := nd697.tr q706 (by have := @ic s; omega) (by omega)
        have lt714 : s.toInt < (κ700.1 19).toInt := by omega
        have k715 : KL κ700 h s.toInt s 3 r699 := KL.of g707 (by omega) (Int.le_refl _) s0 (Or.inl (by omega))
        have g716 : TR s.toInt 0 0 0 0 0 κ700 (mA1 κ700 25 s.toNatClampNeg r699) := TR.put p710.ps s0 rfl rfl
        have e718 : ((mA1 κ700 25 s.toNatClampNeg r699).1 19).toInt = (κ700.1 19).toInt := rfl
        have e719 : ((mA1 κ700 25 s.toNatClampNeg r699).1 32).toInt = (κ700.1 32).toInt := rfl
        have sr721 : srt (mA1 κ700 25 s.toNatClampNeg r699) = srt κ700 := srt_off rfl
        have nd720 := nd713.pd (x := r699)
        have p722 : TR (s.toInt) (0) 0 0 0 (-2) κ (mA1 κ700 25 s.toNatClampNeg r699) := p710.trS g716 (Or.inr (Or.inl rfl)) rfl rfl rfl rfl (by omega)
        have k723 := k711.tr g716 (Or.inr rfl) s0
        have k724 := k712.tr g716 (Or.inr rfl) s0
        have k725 := k715.tr g716 (Or.inr rfl) s0
        refine ⟨TR.mi p710.ps rfl rfl s0 (by omega), ?_⟩
        generalize mA1 κ700 25 s.toNatClampNeg r699 = κ717 at *
        have lt726 : s.toInt < (κ717.1 19).toInt := by omega
        exact s207 _ _ _ _ _ _ _ ⟨p722.1, by have := p722.2; omega⟩ lt726 nd720 k723 k724 k725
  exact fun nm im e ζ p1 lt1 nd1 l1 => v_parseUnit_98 _ _ (key _ _ nm im e (-1) (-1) ζ lt1 (Int.le_refl _) (Nat.lt_succ_self _) p1 lt1 nd1 l1 OL.nil)
theorem st_unit (hD : DeC X W P d) (hSt : SL X W P 321 [] 3 19 11 d) : UnC X W P (d + 1) := fun μ T h9 hS hd hh hn hT hs3 hu0 hu1 => by
  have hp := px0 hS
  have h0 := hS.2.2.2.2.1
  have at0 := hS.at
  obtain ⟨h, rfl⟩ : ∃ h, h9 = h + 1 := ⟨h9 - 1, by omega⟩
  refine me_meth (by omega) rfl (v_parseUnit_0 (MC.mono (c_is (by omega) hS) (fun md ν hr => ?_) (fun _ h => h)))
  obtain ⟨hmd, rfl⟩ := hr
  have hT1 : ∀ μ1, kf SPA RPA ν μ1 → T μ1 := fun _ h => hT _ (h.up rfl rfl)
  refine MC.mono (t_next (by omega) hS hs3 hT1) (fun _ ν1 h1 => ?_) (fun _ h => h)
  obtain ⟨m1, m2, m3⟩ := h1
  refine MC.mono (c_line (by omega) m1.ps.1 m1.ps.at.1 m1.ps.at.2) (fun r2 ν2 h2 => ?_) (fun _ h => h)
  subst h2
  have g2 : TR (-1) 0 0 0 0 (-2) ν (mS1 ν2 34 r2) := m1.tr (TR.s34 m1.ps) (Or.inl (by decide)) rfl rfl rfl rfl (by omega)
  have e19 : ((mS1 ν2 34 r2).1 19).toInt = (ν2.1 19).toInt := rfl
  have e32 : ((mS1 ν2 34 r2).1 32).toInt = (ν2.1 32).toInt := rfl
  have u2 := g2.2
  refine MC.mono (t_node (by omega) g2.ps (by omega)) (fun s ν4 h4 => ?_) (fun _ h => h)
  obtain ⟨q1, ⟨q2, s0⟩, q3, q4, q5, q6⟩ := h4
  have g4 : TR (-1) 0 0 0 0 (-1) ν ν4 := g2.tr q1 (Or.inl (by decide)) rfl rfl rfl rfl (by omega)
  have hcs := @ic s
  have s9 : s.toInt < 15990 := by omega
  have x4 := g4.px
  have e41 : ν4.1 41 = ν.1 41 := g4.1.1.1 41 rfl
  have e42 : ν4.2.1 42 = ν.2.1 42 := g4.1.1.2.1 42 rfl
  have l42 : ν4.2.2 42 = 14 := g4.ps.1.g rfl rfl
  have r4 := g4.rb
  have c4 := g4.1.2.2.2.2.2.2.2.2.2
  have b4 := g4.1.2.2.2.2.2
  refine ⟨MI.of l42 (by rw [e41]; exact hu0) (by rw [e41]; exact hu1), ?_⟩
  -- the row of units
  have pκ : PS (mA1 ν4 42 (ν4.1 41).toNatClampNeg s) := g4.ps.kf (s := []) (r := [42]) (kf.rf.A rfl) rfl rfl rfl rfl rfl rfl rfl rfl
  have kκ : kf SPA RPU ν (mA1 ν4 42 (ν4.1 41).toNatClampNeg s) := (g4.1.1.up rfl rfl).A rfl
  have rκ : RB (-1) (ν.1 19).toInt ν (mA1 ν4 42 (ν4.1 41).toNatClampNeg s) := r4.tr (fun g h1 h2 i _ _ => by
    show (bif Nat.beq g 42 then _ else ν4.2.1 g) i = _
    rw [nb_ne (by omega)]; rfl)
  have r29 : (mA1 ν4 42 (ν4.1 41).toNatClampNeg s).2.1 29 = ν4.2.1 29 := row_off rfl
  have cκ : NC ν (mA1 ν4 42 (ν4.1 41).toNatClampNeg s) := fun j hj => by rw [r29]; exact c4 j hj
  have nd0 : ND (mA1 ν4 42 (ν4.1 41).toNatClampNeg s) s.toNatClampNeg 1 (-1) (-1) (-1) (-1) (-1) (-1) := ND.rb (ex := -1) (n := (ν4.1 19).toInt) q6 (fun g h1 h2 i _ _ => by rw [row_off (nb_ne (by omega))]) (by omega) (by omega)
  have w42 : (mA1 ν4 42 (ν4.1 41).toNatClampNeg s).2.1 42 = upd (ν.2.1 42) (ν.1 41).toNatClampNeg s := by
    show upd (ν4.2.1 42) (ν4.1 41).toNatClampNeg s = _
    rw [e41, e42]
  have f19 : ((mA1 ν4 42 (ν4.1 41).toNatClampNeg s).1 19).toInt = (ν4.1 19).toInt := rfl
  have f32 : ((mA1 ν4 42 (ν4.1 41).toNatClampNeg s).1 32).toInt = (ν4.1 32).toInt := rfl
  have bκ : ((mA1 ν4 42 (ν4.1 41).toNatClampNeg s).1 37).toInt = (ν.1 37).toInt + 0 ∧ ((mA1 ν4 42 (ν4.1 41).toNatClampNeg s).1 38).toInt = (ν.1 38).toInt + 0 ∧ ((mA1 ν4 42 (ν4.1 41).toNatClampNeg s).1 39).toInt = (ν.1 39).toInt + 0 ∧ ((mA1 ν4 42 (ν4.1 41).toNatClampNeg s).1 40).toInt = (ν.1 40).toInt + 0 := ⟨b4.1, b4.2.1, b4.2.2.1, b4.2.2.2.1⟩
  have e33 : (mA1 ν4 42 (ν4.1 41).toNatClampNeg s).1 33 = ν.1 33 := g4.1.1.1 33 rfl
  have xκ : psS (mA1 ν4 42 (ν4.1 41).toNatClampNeg s) = psS ν4 ∧ hiS (mA1 ν4 42 (ν4.1 41).toNatClampNeg s) = hiS ν4 := by unfold psS hiS psX hiX; exact ⟨rfl, rfl⟩
  have miκ : MI s (ν4.2.2 26) := TR.mi g4.ps rfl rfl s0 (by omega)
  generalize mA1 ν4 42 (ν4.1 41).toNatClampNeg s = κ at *
  have u4 := g4.2
  have l4 := g4.l19
  have hTκ : ∀ μ1, kf SPA RPA κ μ1 → T μ1 := fun _ h => hT _ (kκ.tr (h.up rfl rfl))
  have p0 : TR s.toInt 0 0 0 0 0 κ κ := TR.rf pκ
  have lt0 : s.toInt < (κ.1 19).toInt := by omega
  -- from the unit's node on to what is asked
  have out : ∀ ζ : MS, TR s.toInt 0 0 0 0 0 κ ζ → G ζ (h + 1) (bt s.toInt (ζ.1 19).toInt) 20 s → UnP (h + 1) ν ζ := fun ζ z1 z2 => by
    obtain ⟨⟨a1, a2, a3, a4, a5, a6, a7, a8, a9, a10⟩, a11⟩ := z1
    exact ⟨kκ.tr (a1.up rfl rfl), a2, ⟨by omega, by omega, by omega⟩, rκ.tr (fun g g1 g2 i g3 g4 => a5 g g1 g2 i (by omega) (by omega)), ⟨by omega, by omega, by omega, by omega⟩, cκ.tr a10 e33 (by omega), s, z2.up (Nat.le_refl _) (by omega) (Int.le_refl _), by rw [a1.2.1 42 rfl]; exact w42⟩
  have s98 := un_98 (md := md) hD hSt pκ (by omega) (by omega) (by omega) hTκ s0 s9 (by omega) out
  refine ⟨fun _ => ⟨miκ, ?_⟩, fun _ => ⟨miκ, ?_⟩⟩
  · skip
    have g727 : TR s.toInt 0 0 0 0 0 κ (mA1 κ 26 s.toNatClampNeg 0) := TR.put p0.ps s0 rfl rfl
    have e729 : ((mA1 κ 26 s.toNatClampNeg 0).1 19).toInt = (κ.1 19).toInt := rfl
    have e730 : ((mA1 κ 26 s.toNatClampNeg 0).1 32).toInt = (κ.1 32).toInt := rfl
    have sr732 : srt (mA1 κ 26 s.toNatClampNeg 0) = srt κ := srt_off rfl
    have nd731 := nd0.pe (x := 0)
    have p733 : TR (s.toInt) (0) 0 0 0 (0) κ (mA1 κ 26 s.toNatClampNeg 0) := p0.trS g727 (Or.inr (Or.inl rfl)) rfl rfl rfl rfl (by omega)
    generalize mA1 κ 26 s.toNatClampNeg 0 = κ728 at *
    have lt734 : s.toInt < (κ728.1 19).toInt := by omega
    refine MC.mono (t_name (by omega) p733.ps (fun _ h => hTκ _ (p733.1.1.tr h))) (fun v735 κ740 h736 => ?_) (fun _ h => h)
    obtain ⟨q737, m738, a739⟩ := h736
    have p741 : TR (s.toInt) (0) 0 0 0 (-2) κ κ740 := p733.trS q737 (Or.inl (by decide)) rfl rfl rfl rfl (by omega)
    have nd742 := nd731.tr q737 (by have := @ic s; omega) (by omega)
    have lt743 : s.toInt < (κ740.1 19).toInt := by omega
    have g744 : TR s.toInt 0 0 0 0 0 κ740 (mA1 κ740 22 s.toNatClampNeg v735) := TR.put p741.ps s0 rfl rfl
    have e746 : ((mA1 κ740 22 s.toNatClampNeg v735).1 19).toInt = (κ740.1 19).toInt := rfl
    have e747 : ((mA1 κ740 22 s.toNatClampNeg v735).1 32).toInt = (κ740.1 32).toInt := rfl
    have sr749 : srt (mA1 κ740 22 s.toNatClampNeg v735) = srt κ740 := srt_off rfl
    have nd748 := nd742.pa (x := v735)
    have p750 : TR (s.toInt) (0) 0 0 0 (-2) κ (mA1 κ740 22 s.toNatClampNeg v735) := p741.trS g744 (Or.inr (Or.inl rfl)) rfl rfl rfl rfl (by omega)
    refine ⟨TR.mi p741.ps rfl rfl s0 (by omega), ?_⟩
    generalize mA1 κ740 22 s.toNatClampNeg v735 = κ745 at *
    have lt751 : s.toInt < (κ745.1 19).toInt := by omega
    refine MC.mono (t_expect (by omega) p750.ps (by decide) (fun _ h => hTκ _ (p750.1.1.tr h))) (fun v752 κ757 h753 => ?_) (fun _ h => h)
    obtain ⟨q754, m755, a756⟩ := h753
    have p758 : TR (s.toInt) (0) 0 0 0 (-4) κ κ757 := p750.trS q754 (Or.inl (by decide)) rfl rfl rfl rfl (by omega)
    have nd759 := nd748.tr q754 (by have := @ic s; omega) (by omega)
    have lt760 : s.toInt < (κ757.1 19).toInt := by omega
    refine MC.mono (c_is (by omega) p758.ps) (fun r761 κ762 h763 => ?_) (fun _ h => h)
    obtain ⟨rfl, rfl⟩ := h763
    refine ⟨fun _ => ?_, fun hw => ?_⟩
    · skip
      exact s98 _ _ _ _ ⟨p758.1, by have := p758.2; omega⟩ lt760 nd759 LB.nil
    · skip
      have hw3 : ¬ srt κ762 = 203 := by rw [is_t hw]; decide
      refine MC.mono (t_next (by omega) p758.ps (hw3) (fun _ h => hTκ _ (p758.1.1.tr h))) (fun v764 κ769 h765 => ?_) (fun _ h => h)
      obtain ⟨q766, m767, a768⟩ := h765
      have p770 : TR (s.toInt) (0) 0 0 0 (-6) κ κ769 := p758.trS q766 (Or.inl (by decide)) rfl rfl rfl rfl (by omega)
      have nd771 := nd759.tr q766 (by have := @ic s; omega) (by omega)
      have lt772 : s.toInt < (κ769.1 19).toInt := by omega
      have x776 := p770.px
      have u777 := p770.2
      have y778 := tT p770
      have z779 := px0 p770.ps
      refine MC.mono (c_nameRow (by omega) p770.ps (by omega) (fun _ h => hTκ _ (p770.1.1.tr h))) (fun r773 κ774 h775 => ?_) (fun _ h => h)
      have g781 : LB κ774 h 5 (κ769.1 19).toInt (κ774.1 19).toInt r773 := by obtain ⟨m, hm⟩ := NR.ls (s := 5) (h := 0) h775 (by decide) (by decide); exact ⟨m, hm.mono (fun y hy => hy.up (by omega) (Int.le_refl _) (Int.le_refl _)) (fun _ _ => rfl)⟩
      have q780 : TR (-1) 0 0 0 0 0 κ769 κ774 := ⟨h775.1, by have := h775.2.1; omega⟩
      have l782 := q780.l19
      have p783 : TR (s.toInt) (0) 0 0 0 (-6) κ κ774 := p770.trS q780 (Or.inl (by decide)) rfl rfl rfl rfl (by omega)
      have nd784 := nd771.tr q780 (by have := @ic s; omega) (by omega)
      have lt785 : s.toInt < (κ774.1 19).toInt := by omega
      have gP : TR s.toInt 0 0 0 0 0 κ774 (mA1 κ774 23 s.toNatClampNeg r773) := TR.put p783.ps s0 rfl rfl
      have g786 := g781.tr gP (by omega) (Or.inl (by omega))
      have g787 : TR s.toInt 0 0 0 0 0 κ774 (mA1 κ774 23 s.toNatClampNeg r773) := TR.put p783.ps s0 rfl rfl
      have e789 : ((mA1 κ774 23 s.toNatClampNeg r773).1 19).toInt = (κ774.1 19).toInt := rfl
      have e790 : ((mA1 κ774 23 s.toNatClampNeg r773).1 32).toInt = (κ774.1 32).toInt := rfl
      have sr792 : srt (mA1 κ774 23 s.toNatClampNeg r773) = srt κ774 := srt_off rfl
      have nd791 := nd784.pb (x := r773)
      have p793 : TR (s.toInt) (0) 0 0 0 (-6) κ (mA1 κ774 23 s.toNatClampNeg r773) := p783.trS g787 (Or.inr (Or.inl rfl)) rfl rfl rfl rfl (by omega)
      refine ⟨TR.mi p783.ps rfl rfl s0 (by omega), ?_⟩
      generalize mA1 κ774 23 s.toNatClampNeg r773 = κ788 at *
      have lt794 : s.toInt < (κ788.1 19).toInt := by omega
      have lE : s.toInt + 1 ≤ (κ769.1 19).toInt := by omega
      refine MC.mono (t_expect (by omega) p793.ps (by decide) (fun _ h => hTκ _ (p793.1.1.tr h))) (fun v795 κ800 h796 => ?_) (fun _ h => h)
      obtain ⟨q797, m798, a799⟩ := h796
      have p801 : TR (s.toInt) (0) 0 0 0 (-8) κ κ800 := p793.trS q797 (Or.inl (by decide)) rfl rfl rfl rfl (by omega)
      have nd802 := nd791.tr q797 (by have := @ic s; omega) (by omega)
      have lt803 : s.toInt < (κ800.1 19).toInt := by omega
      have g9 := g786.tr q797 (by omega) (Or.inl (by omega))
      obtain ⟨m9, hm9⟩ := g9
      exact s98 _ _ _ _ ⟨p801.1, by have := p801.2; omega⟩ lt803 nd802 ⟨m9, hm9.mono (fun y hy => hy.up (Nat.le_refl _) (by omega) (by omega)) (fun _ _ => rfl)⟩
  · skip
    have g804 : TR s.toInt 0 0 0 0 0 κ (mA1 κ 26 s.toNatClampNeg 1) := TR.put p0.ps s0 rfl rfl
    have e806 : ((mA1 κ 26 s.toNatClampNeg 1).1 19).toInt = (κ.1 19).toInt := rfl
    have e807 : ((mA1 κ 26 s.toNatClampNeg 1).1 32).toInt = (κ.1 32).toInt := rfl
    have sr809 : srt (mA1 κ 26 s.toNatClampNeg 1) = srt κ := srt_off rfl
    have nd808 := nd0.pe (x := 1)
    have p810 : TR (s.toInt) (0) 0 0 0 (0) κ (mA1 κ 26 s.toNatClampNeg 1) := p0.trS g804 (Or.inr (Or.inl rfl)) rfl rfl rfl rfl (by omega)
    generalize mA1 κ 26 s.toNatClampNeg 1 = κ805 at *
    have lt811 : s.toInt < (κ805.1 19).toInt := by omega
    refine MC.mono (t_name (by omega) p810.ps (fun _ h => hTκ _ (p810.1.1.tr h))) (fun v812 κ817 h813 => ?_) (fun _ h => h)
    obtain ⟨q814, m815, a816⟩ := h813
    have p818 : TR (s.toInt) (0) 0 0 0 (-2) κ κ817 := p810.trS q814 (Or.inl (by decide)) rfl rfl rfl rfl (by omega)
    have nd819 := nd808.tr q814 (by have := @ic s; omega) (by omega)
    have lt820 : s.toInt < (κ817.1 19).toInt := by omega
    have g821 : TR s.toInt 0 0 0 0 0 κ817 (mA1 κ817 22 s.toNatClampNeg v812) := TR.put p818.ps s0 rfl rfl
    have e823 : ((mA1 κ817 22 s.toNatClampNeg v812).1 19).toInt = (κ817.1 19).toInt := rfl
    have e824 : ((mA1 κ817 22 s.toNatClampNeg v812).1 32).toInt = (κ817.1 32).toInt := rfl
    have sr826 : srt (mA1 κ817 22 s.toNatClampNeg v812) = srt κ817 := srt_off rfl
    have nd825 := nd819.pa (x := v812)
    have p827 : TR (s.toInt) (0) 0 0 0 (-2) κ (mA1 κ817 22 s.toNatClampNeg v812) := p818.trS g821 (Or.inr (Or.inl rfl)) rfl rfl rfl rfl (by omega)
    refine ⟨TR.mi p818.ps rfl rfl s0 (by omega), ?_⟩
    generalize mA1 κ817 22 s.toNatClampNeg v812 = κ822 at *
    have lt828 : s.toInt < (κ822.1 19).toInt := by omega
    refine MC.mono (t_expect (by omega) p827.ps (by decide) (fun _ h => hTκ _ (p827.1.1.tr h))) (fun v829 κ834 h830 => ?_) (fun _ h => h)
    obtain ⟨q831, m832, a833⟩ := h830
    have p835 : TR (s.toInt) (0) 0 0 0 (-4) κ κ834 := p827.trS q831 (Or.inl (by decide)) rfl rfl rfl rfl (by omega)
    have nd836 := nd825.tr q831 (by have := @ic s; omega) (by omega)
    have lt837 : s.toInt < (κ834.1 19).toInt := by omega
    refine MC.mono (c_is (by omega) p835.ps) (fun r838 κ839 h840 => ?_) (fun _ h => h)
    obtain ⟨rfl, rfl⟩ := h840
    refine ⟨fun _ => ?_, fun hw => ?_⟩
    · skip
      exact s98 _ _ _ _ ⟨p835.1, by have := p835.2; omega⟩ lt837 nd836 LB.nil
    · skip
      have hw3 : ¬ srt κ839 = 203 := by rw [is_t hw]; decide
      refine MC.mono (t_next (by omega) p835.ps (hw3) (fun _ h => hTκ _ (p835.1.1.tr h))) (fun v841 κ846 h842 => ?_) (fun _ h => h)
      obtain ⟨q843, m844, a845⟩ := h842
      have p847 : TR (s.toInt) (0) 0 0 0 (-6) κ κ846 := p835.trS q843 (Or.inl (by decide)) rfl rfl rfl rfl (by omega)
      have nd848 := nd836.tr q843 (by have := @ic s; omega) (by omega)
      have lt849 : s.toInt < (κ846.1 19).toInt := by omega
      have x853 := p847.px
      have u854 := p847.2
      have y855 := tT p847
      have z856 := px0 p847.ps
      refine MC.mono (c_nameRow (by omega) p847.ps (by omega) (fun _ h => hTκ _ (p847.1.1.tr h))) (fun r850 κ851 h852 => ?_) (fun _ h => h)
      have g858 : LB κ851 h 5 (κ846.1 19).toInt (κ851.1 19).toInt r850 := by obtain ⟨m, hm⟩ := NR.ls (s := 5) (h := 0) h852 (by decide) (by decide); exact ⟨m, hm.mono (fun y hy => hy.up (by omega) (Int.le_refl _) (Int.le_refl _)) (fun _ _ => rfl)⟩
      have q857 : TR (-1) 0 0 0 0 0 κ846 κ851 := ⟨h852.1, by have := h852.2.1; omega⟩
      have l859 := q857.l19
      have p860 : TR (s.toInt) (0) 0 0 0 (-6) κ κ851 := p847.trS q857 (Or.inl (by decide)) rfl rfl rfl rfl (by omega)
      have nd861 := nd848.tr q857 (by have := @ic s; omega) (by omega)
      have lt862 : s.toInt < (κ851.1 19).toInt := by omega
      have gP : TR s.toInt 0 0 0 0 0 κ851 (mA1 κ851 23 s.toNatClampNeg r850) := TR.put p860.ps s0 rfl rfl
      have g863 := g858.tr gP (by omega) (Or.inl (by omega))
      have g864 : TR s.toInt 0 0 0 0 0 κ851 (mA1 κ851 23 s.toNatClampNeg r850) := TR.put p860.ps s0 rfl rfl
      have e866 : ((mA1 κ851 23 s.toNatClampNeg r850).1 19).toInt = (κ851.1 19).toInt := rfl
      have e867 : ((mA1 κ851 23 s.toNatClampNeg r850).1 32).toInt = (κ851.1 32).toInt := rfl
      have sr869 : srt (mA1 κ851 23 s.toNatClampNeg r850) = srt κ851 := srt_off rfl
      have nd868 := nd861.pb (x := r850)
      have p870 : TR (s.toInt) (0) 0 0 0 (-6) κ (mA1 κ851 23 s.toNatClampNeg r850) := p860.trS g864 (Or.inr (Or.inl rfl)) rfl rfl rfl rfl (by omega)
      refine ⟨TR.mi p860.ps rfl rfl s0 (by omega), ?_⟩
      generalize mA1 κ851 23 s.toNatClampNeg r850 = κ865 at *
      have lt871 : s.toInt < (κ865.1 19).toInt := by omega
      have lE : s.toInt + 1 ≤ (κ846.1 19).toInt := by omega
      refine MC.mono (t_expect (by omega) p870.ps (by decide) (fun _ h => hTκ _ (p870.1.1.tr h))) (fun v872 κ877 h873 => ?_) (fun _ h => h)
      obtain ⟨q874, m875, a876⟩ := h873
      have p878 : TR (s.toInt) (0) 0 0 0 (-8) κ κ877 := p870.trS q874 (Or.inl (by decide)) rfl rfl rfl rfl (by omega)
      have nd879 := nd868.tr q874 (by have := @ic s; omega) (by omega)
      have lt880 : s.toInt < (κ877.1 19).toInt := by omega
      have g9 := g863.tr q874 (by omega) (Or.inl (by omega))
      obtain ⟨m9, hm9⟩ := g9
      exact s98 _ _ _ _ ⟨p878.1, by have := p878.2; omega⟩ lt880 nd879 ⟨m9, hm9.mono (fun y hy => hy.up (Nat.le_refl _) (by omega) (by omega)) (fun _ _ => rfl)⟩
end PSM
