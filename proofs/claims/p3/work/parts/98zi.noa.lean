/-! contracts of the reference: what is above an OBJECT type as a unit sees it -/
/-- up, step by step: what is above with all seen, or what is alike -/
def Sbn (ζ : MS) (ρ : Nat → Int32) : Nat → Int32 → Int32 → Prop
  | 0, a, y => a = y
  | n + 1, a, y => Ob ζ a ∧ ∃ b, (b = waV ζ ρ a ∨ Alk ζ a b) ∧ Sbn ζ ρ n b y
def Sb (ζ : MS) (ρ : Nat → Int32) (a y : Int32) : Prop := ∃ n, Sbn ζ ρ n a y
/-- a row of declarations of a unit -/
def DlO (μ ζ : MS) (w : Nat) (x : Int32) : Prop := ∃ m, Lst (DcO μ w) (ζ.2.1 27) m x
section NNAI
variable {X : ev_X} {W : Nat → Prop} {d : Nat} {P : MP} {μ ν ν0 ν1 κ ζ : MS} {T : MS → Prop} {x y p q a b s t r e : Int32} {ρ : Nat → Int32} {w c : Nat}
theorem Sbn.trans : ∀ {n m : Nat} {a b y : Int32}, Sbn ζ ρ n a b → Sbn ζ ρ m b y → Sbn ζ ρ (n + m) a y
  | 0, m, a, b, y, h, g => by
    have h : a = b := h
    rw [h, Nat.zero_add]; exact g
  | n + 1, m, a, b, y, h, g => by
    obtain ⟨h1, z, h2, h3⟩ := h
    rw [show n + 1 + m = (n + m) + 1 by omega]
    exact ⟨h1, z, h2, Sbn.trans h3 g⟩
theorem Sb.trans (h : Sb ζ ρ a b) (g : Sb ζ ρ b y) : Sb ζ ρ a y := by
  obtain ⟨n, h⟩ := h
  obtain ⟨m, g⟩ := g
  exact ⟨n + m, h.trans g⟩
theorem Sb.rf : Sb ζ ρ a a := ⟨0, rfl⟩
theorem Sb.wa (h : Ob ζ a) : Sb ζ ρ a (waV ζ ρ a) := ⟨1, h, _, Or.inl rfl, rfl⟩
theorem Sb.alk (h : Ob ζ a) (g : Alk ζ a b) : Sb ζ ρ a b := ⟨1, h, _, Or.inr g, rfl⟩
theorem El.sb : ∀ {n : Nat}, El μ ζ ρ t n → Sb ζ ρ t (waF ζ ρ t n)
  | 0, _ => Sb.rf
  | n + 1, h => Sb.trans (El.sb (fun i hi => h i (by omega))) (Sb.wa (h n (by omega)).2)
theorem Lst.dc {E : Int32 → Prop} {nx : Nat → Int32} {hd : Int32} (h0 : ∀ y, E y → 0 ≤ y.toInt) : ∀ {m k : Nat} {x : Int32}, Lst E nx m x → Onl nx k hd x → Lst (fun e => ∃ k, Onl nx k hd e ∧ 0 ≤ e.toInt) nx m x
  | 0, _, _, h, _ => h
  | m + 1, k, x, h, g => by
    rcases h with h | ⟨h1, h2⟩
    · exact Or.inl h
    · exact Or.inr ⟨⟨k, g, h0 _ h1⟩, Lst.dc h0 h2 (g.snoc (h0 _ h1))⟩
theorem TB.dl (hB : TB μ ζ) (hw : (w : Int) < (μ.1 41).toInt) : DlO μ ζ w (ζ.2.1 24 (μ.2.1 42 w).toNatClampNeg) := by
  have hg := hB.g hw
  obtain ⟨hP, hR, hz⟩ := hB
  have r20 : ζ.2.1 20 = μ.2.1 20 := hR.1.2.1 20 rfl
  have r27 : ζ.2.1 27 = μ.2.1 27 := hR.1.2.1 27 rfl
  obtain ⟨⟨c, hc⟩, -⟩ := hR.2.2.2.2.2 hz
  obtain ⟨-, -, f2, -⟩ := hc w hw
  have f2' : μ.2.1 20 (μ.2.1 42 w).toNatClampNeg = 1 := by rw [← r20]; exact f2
  have r24 : ζ.2.1 24 (μ.2.1 42 w).toNatClampNeg = μ.2.1 24 (μ.2.1 42 w).toNatClampNeg := (hR.2.2.1 2 _ (by omega)).resolve_right (fun h => by rw [f2'] at h; exact absurd h.1 (by decide))
  obtain ⟨g1, g2, g3, g4⟩ := hg
  have gl := g4 2 (by omega)
  rw [f2] at gl
  obtain ⟨m2, gl⟩ : ∃ m2, Lst (G ζ 399 (fun j => (j : Int) < (ζ.1 19).toInt ∧ j ≠ (μ.2.1 42 w).toNatClampNeg) 4) (ζ.2.1 27) m2 (ζ.2.1 24 (μ.2.1 42 w).toNatClampNeg) := gl
  rw [r27, r24] at gl
  rw [r24]
  unfold DlO
  rw [r27]
  exact ⟨m2, (Lst.dc (fun y hy => hy.in.1) gl (k := 0) rfl).mono (fun e he => ⟨hw, he⟩) (fun _ _ => rfl)⟩
/-- what above answers -/
def AbR (μ ζ : MS) (ρ : Nat → Int32) (t : Int32) (ν0 : MS) (r : Int32) (ν1 : MS) : Prop := (TF ζ ν1 ∧ JK ζ ν1 ∧ kf PFs PFr ν0 ν1) ∧ (r = -1 ∨ (RT μ ζ r ∧ Sb ζ ρ t r))
/-- where above stands -/
def AbI (μ ζ : MS) (ρ : Nat → Int32) (t : Int32) (ν0 ν : MS) (x4 : Int32) : Prop := (TF ζ ν ∧ JK ζ ν ∧ kf PFs PFr ν0 ν) ∧ (x4 = -1 ∨ (RT μ ζ x4 ∧ Sb ζ ρ t x4))
theorem ab_row (hZ : TZ μ ζ) (h72 : ν0.2.1 72 = ρ) (hR : RvO μ ζ ρ) (hd : 10 ≤ d) {u x5 : Int32} (hu : 0 ≤ u.toInt ∧ u.toInt < (μ.1 41).toInt) (ht : RT μ ζ t) (next : ∀ (x3 x4 : Int32) (ν : MS), AbI μ ζ ρ t ν0 ν x4 → ME X W true d 388 115 [(0, .ref P.1), (1, .int u), (2, .int t), (3, .int x3), (4, .int x4), (5, .int (x5 + 1))] [] P ν (AbR μ ζ ρ t ν0) T) : ∀ (m : Nat) (x3 x4 x6 : Int32) (ν : MS), Lst (DcO μ w) (ζ.2.1 27) m x6 → AbI μ ζ ρ t ν0 ν x4 → ME X W true d 388 138 [(0, .ref P.1), (1, .int u), (2, .int t), (3, .int x3), (4, .int x4), (5, .int x5), (6, .int x6)] [] P ν (AbR μ ζ ρ t ν0) T := by
  have hB := hZ.1
  have fin : ∀ (x3 x4 x6 : Int32) (ν : MS), x6 = -1 → AbI μ ζ ρ t ν0 ν x4 → ME X W true d 388 138 [(0, .ref P.1), (1, .int u), (2, .int t), (3, .int x3), (4, .int x4), (5, .int x5), (6, .int x6)] [] P ν (AbR μ ζ ρ t ν0) T := fun x3 x4 x6 ν e hI => by
    subst e
    exact v_above_138 _ _ _ _ _ _ ⟨fun _ => next x3 x4 ν hI, fun h => absurd h (by decide)⟩
  intro m
  induction m with
  | zero => intro x3 x4 x6 ν hL hI; exact fin x3 x4 x6 ν hL hI
  | succ m ih =>
    intro x3 x4 x6 ν hL hI
    rcases hL with hL | ⟨hx, hL⟩
    · exact fin x3 x4 x6 ν hL hI
    have dcn := hB.dc hx
    have m6 : ∀ {κ : MS} {g : Nat}, TF ζ κ → rk g = true → rlen g = 16000 → MI x6 (κ.2.2 g) := fun hF hg hr => MI.of ((hF.1.2.2).g hg hr) dcn.1.1 (by have := dcn.1.2; have := hB.n16; omega)
    have skip : ∀ (x3 x4 : Int32) (κ : MS), AbI μ ζ ρ t ν0 κ x4 → ME X W true d 388 226 [(0, .ref P.1), (1, .int u), (2, .int t), (3, .int x3), (4, .int x4), (5, .int x5), (6, .int x6)] [] P κ (AbR μ ζ ρ t ν0) T := fun x3 x4 κ hκ => by
      refine v_above_226 _ _ _ _ _ _ ⟨m6 hκ.1.1 rfl rfl, ?_⟩
      rw [hκ.1.1.row (g := 27) rfl]
      exact ih x3 x4 _ κ hL hκ
    obtain ⟨⟨hF, hK, hk⟩, h4⟩ := hI
    have hI : AbI μ ζ ρ t ν0 ν x4 := ⟨⟨hF, hK, hk⟩, h4⟩
    refine v_above_138 _ _ _ _ _ _ ⟨fun h => by have := dcn.1.1; omega, fun _ => ⟨m6 hF rfl rfl, fun _ => skip x3 x4 ν hI, fun k5 => ?_⟩⟩
    rw [hF.row (g := 20) rfl] at k5
    refine MC.mono (c_opaqueOf hB hF (by omega) hx (Or.inl k5)) (fun r1 κ hκ => ?_) (fun _ h => h)
    have e1 := hκ.1.symm
    subst e1
    refine ⟨fun _ => skip x3 x4 ν hI, fun _ => MC.mono (c_sees hB hF (by omega) hu.1 hu.2 dcn.1.1 dcn.1.2) (fun r2 κ2 hκ2 => ?_) (fun _ h => h)⟩
    have e2 := hκ2.1.symm
    subst e2
    refine ⟨fun _ => ⟨m6 hF rfl rfl, ?_⟩, fun _ => skip x3 x4 ν hI⟩
    have hn : Nd ζ 0 (ζ.2.1 23 x6.toNatClampNeg) := dcn.2.2.1 (fun h => by rw [k5] at h; exact absurd h (by decide)) (fun h => by rw [k5] at h; exact absurd h (by decide))
    rw [hF.row (g := 23) rfl]
    refine MC.mono (c_real hB hF (by omega) hn) (fun r3 κ3 hκ3 => ?_) (fun _ h => h)
    obtain ⟨e3, f3, g3⟩ := hκ3
    have e3 := e3.symm
    subst e3
    refine MC.mono (c_placeIn hZ hF hK (by rw [hk.2.1 72 rfl]; exact h72) hR (by omega) ht g3.tq) (fun r4 κ4 hκ4 => ?_) (fun _ h => h)
    obtain ⟨⟨a1, a2, a3⟩, a4⟩ := hκ4
    have hk4 := hk.tr a3
    have take : 0 < r4.toInt → ME X W true d 388 210 [(0, .ref P.1), (1, .int u), (2, .int t), (3, .int x3), (4, .int x4), (5, .int x5), (6, .int x6), (7, .int r4)] [] P κ4 (AbR μ ζ ρ t ν0) T := fun hr => by
      refine v_above_210 _ _ _ _ _ _ _ ⟨m6 a1 rfl rfl, ?_⟩
      rw [a1.row (g := 23) rfl]
      refine MC.mono (c_real hB a1 (by omega) hn) (fun r5 κ5 hκ5 => ?_) (fun _ h => h)
      obtain ⟨e5, f5, g5⟩ := hκ5
      have e5 := e5.symm
      subst e5
      refine skip r4 r5 κ4 ⟨⟨a1, a2, hk4⟩, Or.inr ⟨g5, ?_⟩⟩
      obtain ⟨-, b2, b3⟩ := a4.resolve_left (fun e => by rw [e] at hr; exact absurd hr (by decide))
      rw [f5, ← f3]
      exact b2.sb.trans (Sb.alk (b2 _ (Nat.le_refl _)).2 b3)
    exact ⟨fun _ => skip x3 x4 κ4 ⟨⟨a1, a2, hk4⟩, h4⟩, fun hr => ⟨fun _ => take hr, fun _ => ⟨fun _ => skip x3 x4 κ4 ⟨⟨a1, a2, hk4⟩, h4⟩, fun _ => take hr⟩⟩⟩
theorem ab_115 (hZ : TZ μ ζ) (h72 : ν0.2.1 72 = ρ) (hR : RvO μ ζ ρ) (hd : 10 ≤ d) {u : Int32} (hu : 0 ≤ u.toInt ∧ u.toInt < (μ.1 41).toInt) (ht : RT μ ζ t) : ∀ (n : Nat) (x3 x4 x5 : Int32) (ν : MS), 0 ≤ x5.toInt → (μ.1 41).toInt - x5.toInt ≤ n → AbI μ ζ ρ t ν0 ν x4 → ME X W true d 388 115 [(0, .ref P.1), (1, .int u), (2, .int t), (3, .int x3), (4, .int x4), (5, .int x5)] [] P ν (AbR μ ζ ρ t ν0) T := by
  have hB := hZ.1
  intro n
  induction n with
  | zero =>
    intro x3 x4 x5 ν h0 hn hI
    have e41 := eq_i ((hI.1.1.1.1 41 rfl).trans (hB.2.1.1.1 41 rfl))
    exact v_above_115 _ _ _ _ _ ⟨fun _ => hI, fun h => by omega⟩
  | succ n ih =>
    intro x3 x4 x5 ν h0 hn hI
    have hF := hI.1.1
    have e41 := eq_i ((hF.1.1 41 rfl).trans (hB.2.1.1.1 41 rfl))
    have i5 := @ic x5
    have h13 := hB.2.1.2.1.1.2.1.2.1
    have r42 : ν.2.1 42 = μ.2.1 42 := (hF.row rfl).trans (hB.2.1.1.2.1 42 rfl)
    refine v_above_115 _ _ _ _ _ ⟨fun _ => hI, fun h => ?_⟩
    have hw : ((x5.toNatClampNeg : Nat) : Int) < (μ.1 41).toInt := by omega
    obtain ⟨⟨b1, b2⟩, -⟩ := hB.im hw
    have e5 : (x5 + 1).toInt = x5.toInt + 1 := ia1 (by omega)
    refine ⟨MI.of ((hF.1.2.2).g rfl rfl : _ = 14) h0 (by omega), ?_, ?_⟩
    · rw [r42]; exact MI.of ((hF.1.2.2).g rfl rfl : _ = 16000) b1 (by have := hB.n16; omega)
    rw [r42, hF.k24 (Or.inl rfl) (sfx_of (hB.u1 hw) rfl)]
    obtain ⟨m, hm⟩ := hB.dl hw
    exact ab_row hZ h72 hR hd hu ht (fun x3 x4 κ hκ => ih x3 x4 (x5 + 1) κ (by omega) (by omega) hκ) m x3 x4 _ ν hm hI
theorem c_above (hZ : TZ μ ζ) (hF : TF ζ ν) (hK : JK ζ ν) (h72 : ν.2.1 72 = ρ) (hR : RvO μ ζ ρ) (hd : 11 ≤ d) {u : Int32} (hu : 0 ≤ u.toInt ∧ u.toInt < (μ.1 41).toInt) (ht : RT μ ζ t) : MC X W true d 388 [.ref P.1, .int u, .int t] P ν (AbR μ ζ ρ t ν) T := by
  have hB := hZ.1
  have r20 : ν.2.1 20 = ζ.2.1 20 := hF.row rfl
  have r23 : ν.2.1 23 = ζ.2.1 23 := hF.row rfl
  have m20 : MI t (ν.2.2 20) := ht.mi hB hF rfl rfl
  have m72 : MI t (ν.2.2 72) := ht.mi hB hF rfl rfl
  have m23 : ∀ {κ : MS}, TF ζ κ → MI t (κ.2.2 23) := fun hF => ht.mi hB hF rfl rfl
  have rest : ζ.2.1 20 t.toNatClampNeg = 4 → ME X W true (d - 1) 388 76 [(0, .ref P.1), (1, .int u), (2, .int t)] [] P ν (AbR μ ζ ρ t ν) T := fun k4 => by
    have hk : Dk μ ζ t := ht.resolve_left (fun h => by
      have hk : ([20, 21, 22, 23, 24, 25, 26, 27, 28, 29, 30, 31, 32] : List Int32).contains (ζ.2.1 20 t.toNatClampNeg) = true := h.1.kind
      rw [k4] at hk; exact absurd hk (by decide))
    have hn := hk.2.2.2.1
    refine v_above_76 _ _ ⟨m23 hF, ?_⟩
    rw [r23]
    refine MC.mono (c_real hB hF (by omega) hn) (fun r1 κ hκ => ?_) (fun _ h => h)
    obtain ⟨e1, f1, g1⟩ := hκ
    have e1 := e1.symm
    subst e1
    refine MC.mono (c_placeIn hZ hF hK h72 hR (by omega) ht g1.tq) (fun r2 κ2 hκ2 => ?_) (fun _ h => h)
    obtain ⟨⟨a1, a2, a3⟩, a4⟩ := hκ2
    refine ⟨fun _ => v_above_112 _ _ _ _ (ab_115 hZ h72 hR (by omega) hu ht (μ.1 41).toInt.toNat r2 (-1) 0 κ2 (by decide) (by show _ - (0 : Int) ≤ _; omega) ⟨⟨a1, a2, a3⟩, Or.inl rfl⟩), fun hr => ⟨m23 a1, ?_⟩⟩
    rw [a1.row (g := 23) rfl]
    refine MC.mono (c_real hB a1 (by omega) hn) (fun r3 κ3 hκ3 => ?_) (fun _ h => h)
    obtain ⟨e3, f3, g3⟩ := hκ3
    have e3 := e3.symm
    subst e3
    obtain ⟨-, b2, b3⟩ := a4.resolve_left (fun e => by rw [e] at hr; exact absurd hr (by decide))
    refine v_above_112 _ _ _ _ (ab_115 hZ h72 hR (by omega) hu ht (μ.1 41).toInt.toNat r2 r3 0 κ2 (by decide) (by show _ - (0 : Int) ≤ _; omega) ⟨⟨a1, a2, a3⟩, Or.inr ⟨g3, ?_⟩⟩)
    rw [f3, ← f1]
    exact b2.sb.trans (Sb.alk (b2 _ (Nat.le_refl _)).2 b3)
  refine me_meth (by omega) rfl (v_above_0 _ _ ⟨m20, fun k => ⟨m20, fun k4 => ⟨m72, fun h0 => rest (by rw [← r20]; exact k4), fun h0 => ⟨m72, ?_⟩⟩, fun _ => ⟨⟨hF, hK, kf.rf⟩, Or.inl rfl⟩⟩, fun k => ?_⟩)
  · rw [r20] at k4
    rw [h72] at h0 ⊢
    obtain ⟨⟨⟨i0, i1⟩, -⟩, n1, n2⟩ := hR.lv hB ht h0
    refine MC.mono (c_sees hB hF (by omega) hu.1 hu.2 i0 i1) (fun r1 κ hκ => ?_) (fun _ h => h)
    have e1 := hκ.1.symm
    subst e1
    refine ⟨fun _ => rest k4, fun _ => ⟨m72, ?_, ?_⟩⟩
    · rw [h72]; exact MI.of ((hF.1.2.2).g rfl rfl : _ = 16000) i0 (by have := hB.n16; omega)
    rw [h72, r23]
    refine MC.mono (c_super hF (by omega) (n1.mi hB hF rfl rfl)) (fun r2 κ hk => ?_) (fun _ h => h)
    obtain ⟨e1, e2⟩ := hk
    have e1 := e1.symm
    subst e1
    rw [e2]
    refine MC.mono (c_real hB hF (by omega) (sup_nd hZ n1 n2)) (fun r3 κ hk => ?_) (fun _ h => h)
    obtain ⟨e1, e2, e3⟩ := hk
    have e1 := e1.symm
    subst e1
    refine ⟨⟨hF, hK, kf.rf⟩, Or.inr ⟨e3, ?_⟩⟩
    have ew : waV ζ ρ t = r3 := by
      unfold waV
      rw [if_neg (fun h => by rw [k4] at h; exact absurd h (by decide)), if_pos ⟨k4, h0⟩]
      exact e2.symm
    rw [← ew]
    exact Sb.wa (Or.inr (Or.inr k4))
  · rw [r20] at k
    have n1 := rt_32 ht k
    refine MC.mono (c_super hF (by omega) (n1.mi hB hF rfl rfl)) (fun r2 κ hk => ?_) (fun _ h => h)
    obtain ⟨e1, e2⟩ := hk
    have e1 := e1.symm
    subst e1
    rw [e2]
    refine MC.mono (c_real hB hF (by omega) (sup_nd hZ n1 k)) (fun r3 κ hk => ?_) (fun _ h => h)
    obtain ⟨e1, e2, e3⟩ := hk
    have e1 := e1.symm
    subst e1
    refine ⟨⟨hF, hK, kf.rf⟩, Or.inr ⟨e3, ?_⟩⟩
    have ew : waV ζ ρ t = r3 := by
      unfold waV
      rw [if_pos k]
      exact e2.symm
    rw [← ew]
    exact Sb.wa (Or.inr (Or.inl k))
end NNAI
