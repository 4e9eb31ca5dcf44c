/-! contracts of the reference: units, the whole text -/
/-- a list whose nodes lie between two counts -/
def LB (ν : MS) (h s : Nat) (lo hi : Int) (x : Int32) : Prop := ∃ m, Lst (G ν h (bt lo hi) s) (ν.2.1 27) m x
theorem LB.tr {r b n t s' δ lo hi : Int} {ν ν1 : MS} {h s : Nat} {x : Int32} (hL : LB ν h s lo hi x) (q : TR r b n t s' δ ν ν1) (hn : hi ≤ (ν.1 19).toInt) (hr : r < lo ∨ hi ≤ r) : LB ν1 h s lo hi x := by
  obtain ⟨m, hm⟩ := hL
  refine ⟨m, hm.mono (fun y hy => hy.tr q hn hr) (fun y hy => ?_)⟩
  obtain ⟨-, k2, k3⟩ := hy.in
  exact q.rb 27 (by omega) (by omega) _ (by omega) (by omega)
theorem LB.nil {ν : MS} {h s : Nat} {lo hi : Int} : LB ν h s lo hi (-1) := ⟨0, rfl⟩
/-- the slots and rows of the parser and of its units -/
abbrev SPU : List Nat := [17, 18, 19, 32, 33, 34, 37, 38, 39, 40, 41]
abbrev RPU : List Nat := [20, 21, 22, 23, 24, 25, 26, 27, 28, 29, 30, 31, 42]
/-- a unit more -/
def UnP (h : Nat) (μ μ1 : MS) : Prop := kf SPA RPU μ μ1 ∧ PS μ1 ∧ ((μ.1 19).toInt ≤ (μ1.1 19).toInt ∧ (μ.1 32).toInt < (μ1.1 32).toInt ∧ (μ1.1 19).toInt + 2 * (μ.1 32).toInt ≤ (μ.1 19).toInt + 2 * (μ1.1 32).toInt) ∧ RB (-1) (μ.1 19).toInt μ μ1 ∧ ((μ1.1 37).toInt = (μ.1 37).toInt ∧ (μ1.1 38).toInt = (μ.1 38).toInt ∧ (μ1.1 39).toInt = (μ.1 39).toInt ∧ (μ1.1 40).toInt = (μ.1 40).toInt) ∧ NC μ μ1 ∧
  ∃ u, G μ1 h (bt (μ.1 19).toInt (μ1.1 19).toInt) 20 u ∧ μ1.2.1 42 = upd (μ.2.1 42) (μ.1 41).toNatClampNeg u
def UnC (X : ev_X) (W : Nat → Prop) (P : MP) (d : Nat) : Prop := ∀ (μ : MS) (T : MS → Prop) (h : Nat), PS μ → psS μ + 22 ≤ d → hiS μ + 14 ≤ h → (μ.1 19).toInt ≤ 2 * (μ.1 32).toInt + 30 → (∀ μ1, kf SPA RPU μ μ1 → T μ1) → ¬ srt μ = 203 → 0 ≤ (μ.1 41).toInt → (μ.1 41).toInt < 14 →
  MC X W true d 302 [.ref P.1] P μ (fun _ μ1 => UnP h μ μ1) T
section PSM
variable {X : ev_X} {W : Nat → Prop} {d : Nat} {P : MP}
theorem st_unit (hD : DeC X W P d) (hSt : SL X W P 321 [] 3 19 11 d) : UnC X W P (d + 1) := fun μ T h9 hS hd hh hn hT hs3 hu0 hu1 => by
  have hp := px0 hS
  have h0 := hS.2.2.2.2.1
  have at0 := hS.at
  obtain ⟨h, rfl⟩ : ∃ h, h9 = h + 1 := ⟨h9 - 1, by omega⟩
  refine me_meth (by omega) rfl (v_parseUnit_0 (MC.mono (c_is (by omega) hS) (fun md ν hr => ?_) (fun _ h => h)))
  obtain ⟨hmd, rfl⟩ := hr
  have hT1 : ∀ μ1, kf SPA RPA ν μ1 → T μ1 := fun _ h => hT _ (h.up rfl rfl)
  refine MC.mono (t_next (by omega) hS hs3 hT1) (fun _ ν1 h1 => ?_) (fun _ h => h)
  obtain ⟨m1, m2, m3⟩ := h1
  refine MC.mono (c_line (by omega) m1.ps.1 m1.ps.at.1 m1.ps.at.2) (fun r2 ν2 h2 => ?_) (fun _ h => h)
  subst h2
  have g2 : TR (-1) 0 0 0 0 (-2) ν (mS1 ν2 34 r2) := m1.tr (TR.s34 m1.ps) (Or.inl (by decide)) rfl rfl rfl rfl (by omega)
  have e19 : ((mS1 ν2 34 r2).1 19).toInt = (ν2.1 19).toInt := rfl
  have e32 : ((mS1 ν2 34 r2).1 32).toInt = (ν2.1 32).toInt := rfl
  have u2 := g2.2
  refine MC.mono (t_node (by omega) g2.ps (by omega)) (fun s ν4 h4 => ?_) (fun _ h => h)
  obtain ⟨q1, ⟨q2, s0⟩, q3, q4, q5, q6⟩ := h4
  have g4 : TR (-1) 0 0 0 0 (-1) ν ν4 := g2.tr q1 (Or.inl (by decide)) rfl rfl rfl rfl (by omega)
  have hcs := @ic s
  have s9 : s.toInt < 15990 := by omega
  have x4 := g4.px
  have e41 : ν4.1 41 = ν.1 41 := g4.1.1.1 41 rfl
  have e42 : ν4.2.1 42 = ν.2.1 42 := g4.1.1.2.1 42 rfl
  have l42 : ν4.2.2 42 = 14 := g4.ps.1.g rfl rfl
  have r4 := g4.rb
  have c4 := g4.1.2.2.2.2.2.2.2.2.2
  have b4 := g4.1.2.2.2.2.2
  refine ⟨MI.of l42 (by rw [e41]; exact hu0) (by rw [e41]; exact hu1), ?_⟩
  -- the row of units
  have pκ : PS (mA1 ν4 42 (ν4.1 41).toNatClampNeg s) := g4.ps.kf (s := []) (r := [42]) (kf.rf.A rfl) rfl rfl rfl rfl rfl rfl rfl rfl
  have kκ : kf SPA RPU ν (mA1 ν4 42 (ν4.1 41).toNatClampNeg s) := (g4.1.1.up rfl rfl).A rfl
  have rκ : RB (-1) (ν.1 19).toInt ν (mA1 ν4 42 (ν4.1 41).toNatClampNeg s) := r4.tr (fun g h1 h2 i _ _ => by
    show (bif Nat.beq g 42 then _ else ν4.2.1 g) i = _
    rw [nb_ne (by omega)]; rfl)
  have cκ : NC ν (mA1 ν4 42 (ν4.1 41).toNatClampNeg s) := c4
  have nd0 : ND (mA1 ν4 42 (ν4.1 41).toNatClampNeg s) s.toNatClampNeg 1 (-1) (-1) (-1) (-1) (-1) (-1) := q6
  have w42 : (mA1 ν4 42 (ν4.1 41).toNatClampNeg s).2.1 42 = upd (ν.2.1 42) (ν.1 41).toNatClampNeg s := by
    show upd (ν4.2.1 42) (ν4.1 41).toNatClampNeg s = _
    rw [e41, e42]
  have f19 : ((mA1 ν4 42 (ν4.1 41).toNatClampNeg s).1 19).toInt = (ν4.1 19).toInt := rfl
  have f32 : ((mA1 ν4 42 (ν4.1 41).toNatClampNeg s).1 32).toInt = (ν4.1 32).toInt := rfl
  have bκ : ((mA1 ν4 42 (ν4.1 41).toNatClampNeg s).1 37).toInt = (ν.1 37).toInt + 0 ∧ ((mA1 ν4 42 (ν4.1 41).toNatClampNeg s).1 38).toInt = (ν.1 38).toInt + 0 ∧ ((mA1 ν4 42 (ν4.1 41).toNatClampNeg s).1 39).toInt = (ν.1 39).toInt + 0 ∧ ((mA1 ν4 42 (ν4.1 41).toNatClampNeg s).1 40).toInt = (ν.1 40).toInt + 0 := ⟨b4.1, b4.2.1, b4.2.2.1, b4.2.2.2.1⟩
  have e33 : (mA1 ν4 42 (ν4.1 41).toNatClampNeg s).1 33 = ν.1 33 := g4.1.1.1 33 rfl
  have xκ : psS (mA1 ν4 42 (ν4.1 41).toNatClampNeg s) = psS ν4 ∧ hiS (mA1 ν4 42 (ν4.1 41).toNatClampNeg s) = hiS ν4 := ⟨rfl, rfl⟩
  have miκ : MI s (ν4.2.2 26) := TR.mi g4.ps rfl rfl s0 (by omega)
  generalize mA1 ν4 42 (ν4.1 41).toNatClampNeg s = κ at *
  have u4 := g4.2
  have l4 := g4.l19
  have hTκ : ∀ μ1, kf SPA RPA κ μ1 → T μ1 := fun _ h => hT _ (kκ.tr (h.up rfl rfl))
  have p0 : TR s.toInt 0 0 0 0 0 κ κ := TR.rf pκ
  have lt0 : s.toInt < (κ.1 19).toInt := by omega
  -- from the unit's node on to what is asked
  have out : ∀ ζ : MS, TR s.toInt 0 0 0 0 0 κ ζ → G ζ (h + 1) (bt s.toInt (ζ.1 19).toInt) 20 s → UnP (h + 1) ν ζ := fun ζ z1 z2 => by
    obtain ⟨⟨a1, a2, a3, a4, a5, a6, a7, a8, a9, a10⟩, a11⟩ := z1
    exact ⟨kκ.tr (a1.up rfl rfl), a2, ⟨by omega, by omega, by omega⟩, rκ.tr (fun g g1 g2 i g3 g4 => a5 g g1 g2 i (by omega) (by omega)), ⟨by omega, by omega, by omega, by omega⟩, cκ.tr a10 e33 (by omega), s, z2.up (Nat.le_refl _) (by omega) (Int.le_refl _), by rw [a1.2.1 42 rfl]; exact w42⟩
  have s207 : ∀ (nm im f st e x4 : Int32) (ζ : MS), TR s.toInt 0 0 0 0 0 κ ζ → s.toInt < (ζ.1 19).toInt → ND ζ s.toNatClampNeg 1 nm im f st e (-1) → KL ζ h s.toInt s 5 im → KL ζ h s.toInt s 4 f → KL ζ h s.toInt s 3 st → ME X W true d 302 207 [(0, .ref P.1), (1, .int md), (2, .int s), (3, .int f), (4, .int x4)] [] P ζ (fun _ μ1 => UnP (h + 1) ν μ1) T := fun nm im f st e x4 ζ p1 lt1 nd1 k1 k2 k3 => by
    refine v_parseUnit_207 _ _ _ _ ?_
    refine MC.mono (t_expect (by omega) p1.ps (by decide) (fun _ h => hTκ _ (p1.1.1.tr h))) (fun v634 κ639 h635 => ?_) (fun _ h => h)
    obtain ⟨q636, m637, a638⟩ := h635
    have p640 : TR (s.toInt) (0) 0 0 0 (-2) κ κ639 := p1.trS q636 (Or.inl (by decide)) rfl rfl rfl rfl (by omega)
    have k641 := k1.tr q636 (Or.inl (by decide)) s0
    have k642 := k2.tr q636 (Or.inl (by decide)) s0
    have k643 := k3.tr q636 (Or.inl (by decide)) s0
    have nd644 := nd1.tr q636 (by have := @ic s; omega) (by omega)
    have lt645 : s.toInt < (κ639.1 19).toInt := by omega
    refine ⟨TR.mi p640.ps rfl rfl s0 (by omega), ?_⟩
    refine MC.mono (t_endName (by omega) p640.ps (fun _ h => hTκ _ (p640.1.1.tr h))) (fun v646 κ651 h647 => ?_) (fun _ h => h)
    obtain ⟨q648, m649, a650⟩ := h647
    have p652 : TR (s.toInt) (0) 0 0 0 (-4) κ κ651 := p640.trS q648 (Or.inl (by decide)) rfl rfl rfl rfl (by omega)
    have k653 := k641.tr q648 (Or.inl (by decide)) s0
    have k654 := k642.tr q648 (Or.inl (by decide)) s0
    have k655 := k643.tr q648 (Or.inl (by decide)) s0
    have nd656 := nd644.tr q648 (by have := @ic s; omega) (by omega)
    have lt657 : s.toInt < (κ651.1 19).toInt := by omega
    refine MC.mono (t_expect (by omega) p652.ps (by decide) (fun _ h => hTκ _ (p652.1.1.tr h))) (fun v658 κ663 h659 => ?_) (fun _ h => h)
    obtain ⟨q660, m661, a662⟩ := h659
    have p664 : TR (s.toInt) (0) 0 0 0 (-6) κ κ663 := p652.trS q660 (Or.inl (by decide)) rfl rfl rfl rfl (by omega)
    have k665 := k653.tr q660 (Or.inl (by decide)) s0
    have k666 := k654.tr q660 (Or.inl (by decide)) s0
    have k667 := k655.tr q660 (Or.inl (by decide)) s0
    have nd668 := nd656.tr q660 (by have := @ic s; omega) (by omega)
    have lt669 : s.toInt < (κ663.1 19).toInt := by omega
    exact out _ ⟨p664.1, by have := p664.2; omega⟩ (G.mk s0 (Int.le_refl _) lt669 nd668 (by decide) True.intro (k665) (k666) (k667) True.intro)
  have key : ∀ (j : Nat) (n0 : Int) (nm im e f x4 : Int32) (ζ : MS), s.toInt < n0 → n0 ≤ (ζ.1 19).toInt → ((κ.1 8).toInt - (ζ.1 32).toInt).toNat < j → TR s.toInt 0 0 0 0 0 κ ζ → s.toInt < (ζ.1 19).toInt → ND ζ s.toNatClampNeg 1 nm im (-1) (-1) e (-1) → LB ζ h 5 (s.toInt + 1) n0 im → OL 4 h n0 ζ f x4 → ME X W true d 302 103 [(0, .ref P.1), (1, .int md), (2, .int s), (3, .int f), (4, .int x4)] [] P ζ (fun _ μ1 => UnP (h + 1) ν μ1) T := by
    intro j
    induction j with
    | zero => intro n0 nm im e f x4 ζ hn1 hn2 hj; omega
    | succ j ih =>
      intro n0 nm im e f x4 ζ hn1 hn2 hj pζ ltζ ndζ gζ hO
      have e8 := eq_i (pζ.1.1.1 8 rfl)
      have t8 := pζ.ps.2.2.1.2
      have at1 := pζ.ps.at
      have uζ := pζ.2
      have xζ := pζ.px
      -- a declaration more
      have more : ¬ srt ζ = 203 → ME X W true d 302 148 [(0, .ref P.1), (1, .int md), (2, .int s), (3, .int f), (4, .int x4)] [] P ζ (fun _ μ1 => UnP (h + 1) ν μ1) T := fun h3 => by
        refine v_parseUnit_148 _ _ _ _ (MC.mono (hD ζ T h md pζ.ps (by omega) (by omega) (by omega) (fun _ h => hTκ _ (pζ.1.1.tr h)) h3) (fun r ζ1 h1 => ?_) (fun _ h => h))
        obtain ⟨v1, v2, v3, v4⟩ := h1
        have p1 : TR s.toInt 0 0 0 0 0 κ ζ1 := pζ.trS v1 (Or.inl (by decide)) rfl rfl rfl rfl (by omega)
        have l1 := v1.l19
        have at2 := p1.ps.at
        have u2 := p1.2
        have nd1 := ndζ.tr v1 (by omega) (by omega)
        have gg1 := gζ.tr v1 hn2 (Or.inl (by omega))
        refine ⟨fun hx1 => ?_, fun hx1 => ?_⟩
        · rcases hO.sg with ⟨w1, -⟩ | ⟨w1, w2⟩
          · rw [w1] at hx1; exact absurd hx1 (by decide)
          obtain ⟨j1, j2, j3⟩ := hO.in w2
          have hc2 := @ic x4
          have g9 : TR x4.toInt 0 0 0 0 0 ζ1 (mA1 ζ1 27 x4.toNatClampNeg r) := TR.put p1.ps w2 rfl rfl
          exact ⟨TR.mi p1.ps rfl rfl w2 (by omega), v_parseUnit_174 _ _ _ _ _ (ih n0 nm im e f r _ hn1 (by show _ ≤ (ζ1.1 19).toInt; omega) (by show ((κ.1 8).toInt - (ζ1.1 32).toInt).toNat < j; omega) (p1.trS g9 (Or.inr (Or.inr (by omega))) rfl rfl rfl rfl (by omega)) (by show _ < (ζ1.1 19).toInt; omega) (nd1.off (by omega)) (gg1.tr g9 (by omega) (Or.inr (by omega))) (hO.add w2 v1 (by omega) v3 v4))⟩
        · have hf : f = -1 := by
            rcases hO.sg with ⟨w1, -⟩ | ⟨w1, -⟩
            · exact w1
            · omega
          exact v_parseUnit_174 _ _ _ _ _ (ih n0 nm im e r r _ hn1 (by omega) (by omega) p1 (by omega) nd1 gg1 (OL.one (v3.up (Nat.le_refl _) (by omega) (Int.le_refl _)) (by omega) v4))
      refine v_parseUnit_103 _ _ _ _ (MC.mono (c_is (by omega) pζ.ps) (fun r1 ζ1 h1 => ?_) (fun _ h => h))
      obtain ⟨rfl, rfl⟩ := h1
      refine ⟨fun h1 => more (by rw [is_t h1]; decide), fun _ => MC.mono (c_is (by omega) pζ.ps) (fun r1 ζ1 h1 => ?_) (fun _ h => h)⟩
      obtain ⟨rfl, rfl⟩ := h1
      refine ⟨fun h1 => more (by rw [is_t h1]; decide), fun _ => MC.mono (c_is (by omega) pζ.ps) (fun r1 ζ1 h1 => ?_) (fun _ h => h)⟩
      obtain ⟨rfl, rfl⟩ := h1
      refine ⟨fun h1 => more (by rw [is_t h1]; decide), fun _ => MC.mono (c_is (by omega) pζ.ps) (fun r1 ζ1 h1 => ?_) (fun _ h => h)⟩
      obtain ⟨rfl, rfl⟩ := h1
      refine ⟨fun h1 => more (by rw [is_t h1]; decide), fun _ => MC.mono (c_is (by omega) pζ.ps) (fun r1 ζ9 h1 => ?_) (fun _ h => h)⟩
      obtain ⟨rfl, rfl⟩ := h1
      refine ⟨fun _ => ?_, fun h1 => more (by rw [is_t h1]; decide)⟩
      have kI : KL ζ9 h s.toInt s 5 im := KL.of gζ (by omega) hn2 s0 (Or.inl (by omega))
      have kO : KL ζ9 h s.toInt s 4 f := KL.of hO.lst (by omega) (Int.le_refl _) s0 (Or.inl (by omega))
      have g670 : TR s.toInt 0 0 0 0 0 ζ9 (mA1 ζ9 24 s.toNatClampNeg f) := TR.put pζ.ps s0 rfl rfl
      have e672 : ((mA1 ζ9 24 s.toNatClampNeg f).1 19).toInt = (ζ9.1 19).toInt := rfl
      have e673 : ((mA1 ζ9 24 s.toNatClampNeg f).1 32).toInt = (ζ9.1 32).toInt := rfl
      have sr675 : srt (mA1 ζ9 24 s.toNatClampNeg f) = srt ζ9 := rfl
      have nd674 := ndζ.pc (x := f)
      have p676 : TR (s.toInt) (0) 0 0 0 (0) κ (mA1 ζ9 24 s.toNatClampNeg f) := pζ.trS g670 (Or.inr (Or.inl rfl)) rfl rfl rfl rfl (by omega)
      have k677 := kI.tr g670 (Or.inr rfl) s0
      have k678 := kO.tr g670 (Or.inr rfl) s0
      refine ⟨TR.mi pζ.ps rfl rfl s0 (by omega), ?_⟩
      generalize mA1 ζ9 24 s.toNatClampNeg f = κ671 at *
      have lt679 : s.toInt < (κ671.1 19).toInt := by omega
      refine ⟨fun _ => ?_, fun _ => ?_⟩
      · skip
        exact s207 _ _ _ _ _ _ _ p676 lt679 nd674 k677 k678 KL.nil
      · skip
        refine MC.mono (t_expect (by omega) p676.ps (by decide) (fun _ h => hTκ _ (p676.1.1.tr h))) (fun v680 κ685 h681 => ?_) (fun _ h => h)
        obtain ⟨q682, m683, a684⟩ := h681
        have p686 : TR (s.toInt) (0) 0 0 0 (-2) κ κ685 := p676.trS q682 (Or.inl (by decide)) rfl rfl rfl rfl (by omega)
        have k687 := k677.tr q682 (Or.inl (by decide)) s0
        have k688 := k678.tr q682 (Or.inl (by decide)) s0
        have nd689 := nd674.tr q682 (by have := @ic s; omega) (by omega)
        have lt690 : s.toInt < (κ685.1 19).toInt := by omega
        have x694 := p686.px
        have u695 := p686.2
        have y696 := tT p686
        have z697 := px0 p686.ps
        refine MC.mono (hSt κ685 T h p686.ps (by omega) (by omega) (by omega) (fun _ h => hTκ _ (p686.1.1.tr h))) (fun r691 κ692 h693 => ?_) (fun _ h => h)
        obtain ⟨q698, g699⟩ := h693
        have l700 := q698.l19
        have p701 : TR (s.toInt) (0) 0 0 0 (-2) κ κ692 := p686.trS q698 (Or.inl (by decide)) rfl rfl rfl rfl (by omega)
        have k702 := k687.tr q698 (Or.inl (by decide)) s0
        have k703 := k688.tr q698 (Or.inl (by decide)) s0
        have nd704 := nd689.tr q698 (by have := @ic s; omega) (by omega)
        have lt705 : s.toInt < (κ692.1 19).toInt := by omega
        have k706 : KL κ692 h s.toInt s 3 r691 := KL.of g699 (by omega) (Int.le_refl _) s0 (Or.inl (by omega))
        have g707 : TR s.toInt 0 0 0 0 0 κ692 (mA1 κ692 25 s.toNatClampNeg r691) := TR.put p701.ps s0 rfl rfl
        have e709 : ((mA1 κ692 25 s.toNatClampNeg r691).1 19).toInt = (κ692.1 19).toInt := rfl
        have e710 : ((mA1 κ692 25 s.toNatClampNeg r691).1 32).toInt = (κ692.1 32).toInt := rfl
        have sr712 : srt (mA1 κ692 25 s.toNatClampNeg r691) = srt κ692 := rfl
        have nd711 := nd704.pd (x := r691)
        have p713 : TR (s.toInt) (0) 0 0 0 (-2) κ (mA1 κ692 25 s.toNatClampNeg r691) := p701.trS g707 (Or.inr (Or.inl rfl)) rfl rfl rfl rfl (by omega)
        have k714 := k702.tr g707 (Or.inr rfl) s0
        have k715 := k703.tr g707 (Or.inr rfl) s0
        have k716 := k706.tr g707 (Or.inr rfl) s0
        refine ⟨TR.mi p701.ps rfl rfl s0 (by omega), ?_⟩
        generalize mA1 κ692 25 s.toNatClampNeg r691 = κ708 at *
        have lt717 : s.toInt < (κ708.1 19).toInt := by omega
        exact s207 _ _ _ _ _ _ _ ⟨p713.1, by have := p713.2; omega⟩ lt717 nd711 k714 k715 k716
  have s98 : ∀ (nm im e : Int32) (ζ : MS), TR s.toInt 0 0 0 0 0 κ ζ → s.toInt < (ζ.1 19).toInt → ND ζ s.toNatClampNeg 1 nm im (-1) (-1) e (-1) → LB ζ h 5 (s.toInt + 1) (ζ.1 19).toInt im → ME X W true d 302 98 [(0, .ref P.1), (1, .int md), (2, .int s)] [] P ζ (fun _ μ1 => UnP (h + 1) ν μ1) T := fun nm im e ζ p1 lt1 nd1 l1 =>
    v_parseUnit_98 _ _ (key _ _ nm im e (-1) (-1) ζ lt1 (Int.le_refl _) (Nat.lt_succ_self _) p1 lt1 nd1 l1 OL.nil)
  refine ⟨fun _ => ⟨miκ, ?_⟩, fun _ => ⟨miκ, ?_⟩⟩
  · skip
    have g718 : TR s.toInt 0 0 0 0 0 κ (mA1 κ 26 s.toNatClampNeg 0) := TR.put p0.ps s0 rfl rfl
    have e720 : ((mA1 κ 26 s.toNatClampNeg 0).1 19).toInt = (κ.1 19).toInt := rfl
    have e721 : ((mA1 κ 26 s.toNatClampNeg 0).1 32).toInt = (κ.1 32).toInt := rfl
    have sr723 : srt (mA1 κ 26 s.toNatClampNeg 0) = srt κ := rfl
    have nd722 := nd0.pe (x := 0)
    have p724 : TR (s.toInt) (0) 0 0 0 (0) κ (mA1 κ 26 s.toNatClampNeg 0) := p0.trS g718 (Or.inr (Or.inl rfl)) rfl rfl rfl rfl (by omega)
    generalize mA1 κ 26 s.toNatClampNeg 0 = κ719 at *
    have lt725 : s.toInt < (κ719.1 19).toInt := by omega
    refine MC.mono (t_name (by omega) p724.ps (fun _ h => hTκ _ (p724.1.1.tr h))) (fun v726 κ731 h727 => ?_) (fun _ h => h)
    obtain ⟨q728, m729, a730⟩ := h727
    have p732 : TR (s.toInt) (0) 0 0 0 (-2) κ κ731 := p724.trS q728 (Or.inl (by decide)) rfl rfl rfl rfl (by omega)
    have nd733 := nd722.tr q728 (by have := @ic s; omega) (by omega)
    have lt734 : s.toInt < (κ731.1 19).toInt := by omega
    have g735 : TR s.toInt 0 0 0 0 0 κ731 (mA1 κ731 22 s.toNatClampNeg v726) := TR.put p732.ps s0 rfl rfl
    have e737 : ((mA1 κ731 22 s.toNatClampNeg v726).1 19).toInt = (κ731.1 19).toInt := rfl
    have e738 : ((mA1 κ731 22 s.toNatClampNeg v726).1 32).toInt = (κ731.1 32).toInt := rfl
    have sr740 : srt (mA1 κ731 22 s.toNatClampNeg v726) = srt κ731 := rfl
    have nd739 := nd733.pa (x := v726)
    have p741 : TR (s.toInt) (0) 0 0 0 (-2) κ (mA1 κ731 22 s.toNatClampNeg v726) := p732.trS g735 (Or.inr (Or.inl rfl)) rfl rfl rfl rfl (by omega)
    refine ⟨TR.mi p732.ps rfl rfl s0 (by omega), ?_⟩
    generalize mA1 κ731 22 s.toNatClampNeg v726 = κ736 at *
    have lt742 : s.toInt < (κ736.1 19).toInt := by omega
    refine MC.mono (t_expect (by omega) p741.ps (by decide) (fun _ h => hTκ _ (p741.1.1.tr h))) (fun v743 κ748 h744 => ?_) (fun _ h => h)
    obtain ⟨q745, m746, a747⟩ := h744
    have p749 : TR (s.toInt) (0) 0 0 0 (-4) κ κ748 := p741.trS q745 (Or.inl (by decide)) rfl rfl rfl rfl (by omega)
    have nd750 := nd739.tr q745 (by have := @ic s; omega) (by omega)
    have lt751 : s.toInt < (κ748.1 19).toInt := by omega
    refine MC.mono (c_is (by omega) p749.ps) (fun r752 κ753 h754 => ?_) (fun _ h => h)
    obtain ⟨rfl, rfl⟩ := h754
    refine ⟨fun _ => ?_, fun hw => ?_⟩
    · skip
      exact s98 _ _ _ _ ⟨p749.1, by have := p749.2; omega⟩ lt751 nd750 LB.nil
    · skip
      have hw3 : ¬ srt κ753 = 203 := by rw [is_t hw]; decide
      refine MC.mono (t_next (by omega) p749.ps (hw3) (fun _ h => hTκ _ (p749.1.1.tr h))) (fun v755 κ760 h756 => ?_) (fun _ h => h)
      obtain ⟨q757, m758, a759⟩ := h756
      have p761 : TR (s.toInt) (0) 0 0 0 (-6) κ κ760 := p749.trS q757 (Or.inl (by decide)) rfl rfl rfl rfl (by omega)
      have nd762 := nd750.tr q757 (by have := @ic s; omega) (by omega)
      have lt763 : s.toInt < (κ760.1 19).toInt := by omega
      have x767 := p761.px
      have u768 := p761.2
      have y769 := tT p761
      have z770 := px0 p761.ps
      refine MC.mono (c_nameRow (by omega) p761.ps (by omega) (fun _ h => hTκ _ (p761.1.1.tr h))) (fun r764 κ765 h766 => ?_) (fun _ h => h)
      have g772 : LB κ765 h 5 (κ760.1 19).toInt (κ765.1 19).toInt r764 := by obtain ⟨m, hm⟩ := NR.ls (s := 5) (h := 0) h766 (by decide) (by decide); exact ⟨m, hm.mono (fun y hy => hy.up (by omega) (Int.le_refl _) (Int.le_refl _)) (fun _ _ => rfl)⟩
      have q771 : TR (-1) 0 0 0 0 0 κ760 κ765 := ⟨h766.1, by have := h766.2.1; omega⟩
      have l773 := q771.l19
      have p774 : TR (s.toInt) (0) 0 0 0 (-6) κ κ765 := p761.trS q771 (Or.inl (by decide)) rfl rfl rfl rfl (by omega)
      have nd775 := nd762.tr q771 (by have := @ic s; omega) (by omega)
      have lt776 : s.toInt < (κ765.1 19).toInt := by omega
      have gP : TR s.toInt 0 0 0 0 0 κ765 (mA1 κ765 23 s.toNatClampNeg r764) := TR.put p774.ps s0 rfl rfl
      have g777 := g772.tr gP (by omega) (Or.inl (by omega))
      have g778 : TR s.toInt 0 0 0 0 0 κ765 (mA1 κ765 23 s.toNatClampNeg r764) := TR.put p774.ps s0 rfl rfl
      have e780 : ((mA1 κ765 23 s.toNatClampNeg r764).1 19).toInt = (κ765.1 19).toInt := rfl
      have e781 : ((mA1 κ765 23 s.toNatClampNeg r764).1 32).toInt = (κ765.1 32).toInt := rfl
      have sr783 : srt (mA1 κ765 23 s.toNatClampNeg r764) = srt κ765 := rfl
      have nd782 := nd775.pb (x := r764)
      have p784 : TR (s.toInt) (0) 0 0 0 (-6) κ (mA1 κ765 23 s.toNatClampNeg r764) := p774.trS g778 (Or.inr (Or.inl rfl)) rfl rfl rfl rfl (by omega)
      refine ⟨TR.mi p774.ps rfl rfl s0 (by omega), ?_⟩
      generalize mA1 κ765 23 s.toNatClampNeg r764 = κ779 at *
      have lt785 : s.toInt < (κ779.1 19).toInt := by omega
      have lE : s.toInt + 1 ≤ (κ760.1 19).toInt := by omega
      refine MC.mono (t_expect (by omega) p784.ps (by decide) (fun _ h => hTκ _ (p784.1.1.tr h))) (fun v786 κ791 h787 => ?_) (fun _ h => h)
      obtain ⟨q788, m789, a790⟩ := h787
      have p792 : TR (s.toInt) (0) 0 0 0 (-8) κ κ791 := p784.trS q788 (Or.inl (by decide)) rfl rfl rfl rfl (by omega)
      have nd793 := nd782.tr q788 (by have := @ic s; omega) (by omega)
      have lt794 : s.toInt < (κ791.1 19).toInt := by omega
      have g9 := g777.tr q788 (by omega) (Or.inl (by omega))
      obtain ⟨m9, hm9⟩ := g9
      exact s98 _ _ _ _ ⟨p792.1, by have := p792.2; omega⟩ lt794 nd793 ⟨m9, hm9.mono (fun y hy => hy.up (Nat.le_refl _) (by omega) (by omega)) (fun _ _ => rfl)⟩
  · skip
    have g795 : TR s.toInt 0 0 0 0 0 κ (mA1 κ 26 s.toNatClampNeg 1) := TR.put p0.ps s0 rfl rfl
    have e797 : ((mA1 κ 26 s.toNatClampNeg 1).1 19).toInt = (κ.1 19).toInt := rfl
    have e798 : ((mA1 κ 26 s.toNatClampNeg 1).1 32).toInt = (κ.1 32).toInt := rfl
    have sr800 : srt (mA1 κ 26 s.toNatClampNeg 1) = srt κ := rfl
    have nd799 := nd0.pe (x := 1)
    have p801 : TR (s.toInt) (0) 0 0 0 (0) κ (mA1 κ 26 s.toNatClampNeg 1) := p0.trS g795 (Or.inr (Or.inl rfl)) rfl rfl rfl rfl (by omega)
    generalize mA1 κ 26 s.toNatClampNeg 1 = κ796 at *
    have lt802 : s.toInt < (κ796.1 19).toInt := by omega
    refine MC.mono (t_name (by omega) p801.ps (fun _ h => hTκ _ (p801.1.1.tr h))) (fun v803 κ808 h804 => ?_) (fun _ h => h)
    obtain ⟨q805, m806, a807⟩ := h804
    have p809 : TR (s.toInt) (0) 0 0 0 (-2) κ κ808 := p801.trS q805 (Or.inl (by decide)) rfl rfl rfl rfl (by omega)
    have nd810 := nd799.tr q805 (by have := @ic s; omega) (by omega)
    have lt811 : s.toInt < (κ808.1 19).toInt := by omega
    have g812 : TR s.toInt 0 0 0 0 0 κ808 (mA1 κ808 22 s.toNatClampNeg v803) := TR.put p809.ps s0 rfl rfl
    have e814 : ((mA1 κ808 22 s.toNatClampNeg v803).1 19).toInt = (κ808.1 19).toInt := rfl
    have e815 : ((mA1 κ808 22 s.toNatClampNeg v803).1 32).toInt = (κ808.1 32).toInt := rfl
    have sr817 : srt (mA1 κ808 22 s.toNatClampNeg v803) = srt κ808 := rfl
    have nd816 := nd810.pa (x := v803)
    have p818 : TR (s.toInt) (0) 0 0 0 (-2) κ (mA1 κ808 22 s.toNatClampNeg v803) := p809.trS g812 (Or.inr (Or.inl rfl)) rfl rfl rfl rfl (by omega)
    refine ⟨TR.mi p809.ps rfl rfl s0 (by omega), ?_⟩
    generalize mA1 κ808 22 s.toNatClampNeg v803 = κ813 at *
    have lt819 : s.toInt < (κ813.1 19).toInt := by omega
    refine MC.mono (t_expect (by omega) p818.ps (by decide) (fun _ h => hTκ _ (p818.1.1.tr h))) (fun v820 κ825 h821 => ?_) (fun _ h => h)
    obtain ⟨q822, m823, a824⟩ := h821
    have p826 : TR (s.toInt) (0) 0 0 0 (-4) κ κ825 := p818.trS q822 (Or.inl (by decide)) rfl rfl rfl rfl (by omega)
    have nd827 := nd816.tr q822 (by have := @ic s; omega) (by omega)
    have lt828 : s.toInt < (κ825.1 19).toInt := by omega
    refine MC.mono (c_is (by omega) p826.ps) (fun r829 κ830 h831 => ?_) (fun _ h => h)
    obtain ⟨rfl, rfl⟩ := h831
    refine ⟨fun _ => ?_, fun hw => ?_⟩
    · skip
      exact s98 _ _ _ _ ⟨p826.1, by have := p826.2; omega⟩ lt828 nd827 LB.nil
    · skip
      have hw3 : ¬ srt κ830 = 203 := by rw [is_t hw]; decide
      refine MC.mono (t_next (by omega) p826.ps (hw3) (fun _ h => hTκ _ (p826.1.1.tr h))) (fun v832 κ837 h833 => ?_) (fun _ h => h)
      obtain ⟨q834, m835, a836⟩ := h833
      have p838 : TR (s.toInt) (0) 0 0 0 (-6) κ κ837 := p826.trS q834 (Or.inl (by decide)) rfl rfl rfl rfl (by omega)
      have nd839 := nd827.tr q834 (by have := @ic s; omega) (by omega)
      have lt840 : s.toInt < (κ837.1 19).toInt := by omega
      have x844 := p838.px
      have u845 := p838.2
      have y846 := tT p838
      have z847 := px0 p838.ps
      refine MC.mono (c_nameRow (by omega) p838.ps (by omega) (fun _ h => hTκ _ (p838.1.1.tr h))) (fun r841 κ842 h843 => ?_) (fun _ h => h)
      have g849 : LB κ842 h 5 (κ837.1 19).toInt (κ842.1 19).toInt r841 := by obtain ⟨m, hm⟩ := NR.ls (s := 5) (h := 0) h843 (by decide) (by decide); exact ⟨m, hm.mono (fun y hy => hy.up (by omega) (Int.le_refl _) (Int.le_refl _)) (fun _ _ => rfl)⟩
      have q848 : TR (-1) 0 0 0 0 0 κ837 κ842 := ⟨h843.1, by have := h843.2.1; omega⟩
      have l850 := q848.l19
      have p851 : TR (s.toInt) (0) 0 0 0 (-6) κ κ842 := p838.trS q848 (Or.inl (by decide)) rfl rfl rfl rfl (by omega)
      have nd852 := nd839.tr q848 (by have := @ic s; omega) (by omega)
      have lt853 : s.toInt < (κ842.1 19).toInt := by omega
      have gP : TR s.toInt 0 0 0 0 0 κ842 (mA1 κ842 23 s.toNatClampNeg r841) := TR.put p851.ps s0 rfl rfl
      have g854 := g849.tr gP (by omega) (Or.inl (by omega))
      have g855 : TR s.toInt 0 0 0 0 0 κ842 (mA1 κ842 23 s.toNatClampNeg r841) := TR.put p851.ps s0 rfl rfl
      have e857 : ((mA1 κ842 23 s.toNatClampNeg r841).1 19).toInt = (κ842.1 19).toInt := rfl
      have e858 : ((mA1 κ842 23 s.toNatClampNeg r841).1 32).toInt = (κ842.1 32).toInt := rfl
      have sr860 : srt (mA1 κ842 23 s.toNatClampNeg r841) = srt κ842 := rfl
      have nd859 := nd852.pb (x := r841)
      have p861 : TR (s.toInt) (0) 0 0 0 (-6) κ (mA1 κ842 23 s.toNatClampNeg r841) := p851.trS g855 (Or.inr (Or.inl rfl)) rfl rfl rfl rfl (by omega)
      refine ⟨TR.mi p851.ps rfl rfl s0 (by omega), ?_⟩
      generalize mA1 κ842 23 s.toNatClampNeg r841 = κ856 at *
      have lt862 : s.toInt < (κ856.1 19).toInt := by omega
      have lE : s.toInt + 1 ≤ (κ837.1 19).toInt := by omega
      refine MC.mono (t_expect (by omega) p861.ps (by decide) (fun _ h => hTκ _ (p861.1.1.tr h))) (fun v863 κ868 h864 => ?_) (fun _ h => h)
      obtain ⟨q865, m866, a867⟩ := h864
      have p869 : TR (s.toInt) (0) 0 0 0 (-8) κ κ868 := p861.trS q865 (Or.inl (by decide)) rfl rfl rfl rfl (by omega)
      have nd870 := nd859.tr q865 (by have := @ic s; omega) (by omega)
      have lt871 : s.toInt < (κ868.1 19).toInt := by omega
      have g9 := g854.tr q865 (by omega) (Or.inl (by omega))
      obtain ⟨m9, hm9⟩ := g9
      exact s98 _ _ _ _ ⟨p869.1, by have := p869.2; omega⟩ lt871 nd870 ⟨m9, hm9.mono (fun y hy => hy.up (Nat.le_refl _) (by omega) (by omega)) (fun _ _ => rfl)⟩
end PSM
