/-! contracts of the reference: declarations told, so far; TYPEs and EXCEPTIONs -/
/-- all that was told so far, in units below n, by nodes below B -/
def DI (μ : MS) (n B : Int) (ν : MS) : Prop := NE n ν ∧ kf [17, 18, 43, 52, 56, 59, 60] [28, 44, 45, 46, 47, 48, 49, 50, 51, 53, 54, 55, 57, 58, 61] μ ν ∧ ((∀ s : Nat, (s : Int) < (ν.1 43).toInt → SyF μ B ν s) ∧ (∀ p : Nat, 1 ≤ p → (p : Int) ≤ (ν.1 56).toInt → PrF μ B ν p) ∧ ∀ k : Nat, (k : Int) < (ν.1 60).toInt → TyF μ ν k) ∧ NI ν ∧ ((0 ≤ (ν.1 52).toInt ∧ 0 ≤ (ν.1 56).toInt ∧ 0 ≤ (ν.1 60).toInt) ∧ (ν.1 52).toInt ≤ (ν.1 43).toInt ∧ (ν.1 56).toInt ≤ (ν.1 43).toInt ∧ (ν.1 60).toInt ≤ (ν.1 43).toInt) ∧ ∀ w : Nat, (w : Int) < n → ν.2.1 51 w = if μ.2.1 26 (μ.2.1 42 w).toNatClampNeg = 1 then 1 else 0
/-- a name of a unit's VAR -/
def NmV (ν : MS) (t : Int32) (lo hi : Int) (x : Int32) : Prop := (0 ≤ x.toInt ∧ lo ≤ x.toInt ∧ x.toInt < hi) ∧ ν.2.1 20 x.toNatClampNeg = 10 ∧ VX ν 0 t (ν.2.1 28 x.toNatClampNeg) ∧ ∃ s : Nat, (s : Int) < (ν.1 43).toInt ∧ ν.2.1 45 s = 7 ∧ ν.2.1 46 s = x ∧ ν.2.1 47 s = ν.2.1 28 x.toNatClampNeg
/-- a declaration, told -/
def DeP (ν : MS) (lo hi : Int) (x : Int32) : Prop := (0 ≤ x.toInt ∧ lo ≤ x.toInt ∧ x.toInt < hi) ∧ (ν.2.1 20 x.toNatClampNeg = 9 → 1 ≤ (ν.2.1 28 x.toNatClampNeg).toInt ∧ (ν.2.1 28 x.toNatClampNeg).toInt ≤ (ν.1 56).toInt) ∧ (ν.2.1 20 x.toNatClampNeg = 7 → ∃ (c0 c1 : Int) (m : Nat), (x.toInt < c0 ∧ c1 ≤ hi) ∧ WL (fun lo hi _ y => NmV ν (ν.2.1 23 x.toNatClampNeg) lo hi y) (ν.2.1 27) m c0 c1 0 (ν.2.1 22 x.toNatClampNeg))
section NNH
variable {X : ev_X} {W : Nat → Prop} {d : Nat} {P : MP} {μ ν κ : MS} {B B' n lo hi : Int} {C C' : Nat → Prop} {T : MS → Prop} {x : Int32}
theorem DF.row (h : DF C ν κ) {g : Nat} (hg : ([28, 44, 45, 46, 47, 48, 49, 50, 51, 53, 54, 55, 57, 58, 61] : List Nat).contains g = false) : κ.2.1 g = ν.2.1 g := h.1.2.1 g hg
theorem DI.row (h : DI μ n B ν) {g : Nat} (hg : ([28, 44, 45, 46, 47, 48, 49, 50, 51, 53, 54, 55, 57, 58, 61] : List Nat).contains g = false) : ν.2.1 g = μ.2.1 g := h.2.1.2.1 g hg
theorem NmV.df {t : Int32} (h : NmV ν t lo hi x) (hN : DF C ν κ) (hS : ∀ j, bt lo hi j → ¬ C j) : NmV κ t lo hi x := by
  obtain ⟨⟨a1, a2, a3⟩, a4, a5, s, s1, s2, s3, s4⟩ := h
  have hc := @ic x
  refine ⟨⟨a1, a2, a3⟩, by rw [hN.row (g := 20) rfl]; exact a4, ?_⟩
  rw [(hN.2.2.2.2.2.2.2 x.toNatClampNeg).resolve_left (hS _ ⟨by omega, by omega⟩)]
  obtain ⟨-, b2, b3, b4⟩ := hN.2.2.2.1 s s1
  exact ⟨a5.df hN, s, by have := hN.2.2.1.1; omega, b2.trans s2, b3.trans s3, b4.trans s4⟩
theorem DeP.df (h : DeP ν lo hi x) (hN : DF C ν κ) (hS : ∀ j, bt lo hi j → ¬ C j) : DeP κ lo hi x := by
  obtain ⟨⟨a1, a2, a3⟩, a4, a5⟩ := h
  have hc := @ic x
  refine ⟨⟨a1, a2, a3⟩, fun e => ?_, fun e => ?_⟩
  · rw [hN.row (g := 20) rfl] at e
    rw [(hN.2.2.2.2.2.2.2 x.toNatClampNeg).resolve_left (hS _ ⟨by omega, by omega⟩)]
    obtain ⟨w1, w2⟩ := a4 e
    have := hN.2.2.1.2.2.1
    exact ⟨w1, by omega⟩
  · rw [hN.row (g := 20) rfl] at e
    obtain ⟨c0, c1, m, ⟨q1, q2⟩, f⟩ := a5 e
    refine ⟨c0, c1, m, ⟨q1, q2⟩, ?_⟩
    rw [hN.row (g := 23) rfl, hN.row (g := 22) rfl]
    exact WL.cg (lo := c0) (fun lo' hi' v y k1 k2 hy => ⟨hy.df hN (fun j hj => hS j ⟨by have := hj.1; omega, by have := hj.2; omega⟩), by rw [hN.row (g := 27) rfl]⟩) (Int.le_refl _) f
theorem DI.go (h : DI μ n B ν) (hN : DF C ν κ) (hC : ∀ j : Nat, C j → B ≤ (j : Int)) (hB : B ≤ B') (hE : NE n κ) (hI : NI κ) (h51 : κ.2.1 51 = ν.2.1 51)
    (hS : ∀ s : Nat, (ν.1 43).toInt ≤ s → (s : Int) < (κ.1 43).toInt → SyF μ B' κ s) (hP : ∀ p : Nat, 1 ≤ p → (p : Int) ≤ (κ.1 56).toInt → (κ.2.1 58 p = ν.2.1 58 p ∧ (p : Int) ≤ (ν.1 56).toInt) ∨ PrF μ B' κ p) (hT : ∀ k : Nat, (ν.1 60).toInt ≤ k → (k : Int) < (κ.1 60).toInt → TyF μ κ k) (hc : (κ.1 52).toInt ≤ (κ.1 43).toInt ∧ (κ.1 56).toInt ≤ (κ.1 43).toInt ∧ (κ.1 60).toInt ≤ (κ.1 43).toInt) : DI μ n B' κ := by
  obtain ⟨h1, h2, ⟨h3, h4, h5⟩, h6, ⟨⟨h7, h8, h9⟩, -⟩, h10⟩ := h
  obtain ⟨c1, c2, c3, c4⟩ := hN.2.2.1
  refine ⟨hE, h2.tr hN.1, ⟨fun s hs => ?_, fun p p1 p2 => ?_, fun k hk => ?_⟩, hI, ⟨⟨by omega, by omega, by omega⟩, hc⟩, fun w hw => by rw [h51]; exact h10 w hw⟩
  · by_cases c : (s : Int) < (ν.1 43).toInt
    · exact ((h3 s c).df c hN hC).up hB
    · exact hS s (by omega) hs
  · rcases hP p p1 p2 with ⟨e1, e2⟩ | e
    · exact ((h4 p p1 e2).df e2 hN hC e1).up hB
    · exact e
  · by_cases c : (k : Int) < (ν.1 60).toInt
    · exact (h5 k c).df c hN
    · exact hT k (by omega) hk
/-- symbols of units and where IMPORTs lead, with one more -/
theorem TlP.ne {u a k e w : Int32} (h : TlP u a k e w ν κ) (hE : NE n ν) (u0 : 0 ≤ u.toInt) (u1 : u.toInt < n) (h43 : (ν.1 43).toInt < 3200) (h2 : k = 2 → w.toInt < n ∧ (w.toInt < 0 → ¬ κ.1 17 = 0)) : NE n κ := by
  obtain ⟨e1, ⟨⟨s0, s1⟩, hn, hw⟩, hI⟩ := hE
  obtain ⟨k1, k2, k3, ⟨k4, k5, k6⟩, k7, k8, k9⟩ := h
  have hc := @ic (ν.1 43)
  have hcu := @ic u
  refine ⟨e1.to k1, ⟨⟨by omega, by omega⟩, hn, fun i hi => ?_⟩, fun s hs h45 => ?_⟩
  · obtain ⟨w1, w2, w3⟩ := hw i hi
    rw [k1.2.1 48 rfl, k1.2.1 50 rfl]
    refine ⟨w1, ?_, w3⟩
    by_cases c : i = u.toNatClampNeg
    · rw [c, k8]; exact Int.le_refl _
    · rw [k9 i c]; omega
  · by_cases c : s = (ν.1 43).toNatClampNeg
    · rw [c, k4] at h45
      rw [c, k6]
      exact h2 h45
    · obtain ⟨q1, q2, q3, q4⟩ := k7 s c
      rw [q2] at h45
      rw [q4]
      obtain ⟨i1, i2⟩ := hI s (by omega) h45
      exact ⟨i1, fun e => k2 (i2 e)⟩
theorem NI.kf {s r : List Nat} (h : NI ν) (hk : kf s r ν κ) (h1 : r.contains 20 = false) (h2 : r.contains 28 = false) (h3 : s.contains 52 = false) (h4 : s.contains 19 = false) : NI κ := by
  unfold NI nK at h ⊢
  rw [hk.2.1 20 h1, hk.2.1 28 h2, hk.1 52 h3, hk.1 19 h4]
  exact h
/-- an EXCEPTION, or an IMPORT -/
theorem DI.sy {u a k e w : Int32} (h : DI μ n B ν) (hT : TlP u a k e w ν κ) (u0 : 0 ≤ u.toInt) (u1 : u.toInt < n) (h43 : (ν.1 43).toInt < 3200) (hk : k = 8 ∨ (k = 2 ∧ w.toInt < n ∧ (w.toInt < 0 → ¬ κ.1 17 = 0))) (hB : B ≤ B') : DI μ n B' κ := by
  have h0 := h.1.2.1.1.1
  have hd := hT.df (C := fun _ => False) h0
  obtain ⟨-, -, -, -, ⟨-, q1, q2, q3⟩, -⟩ := id h
  have e52 := eq_i (hT.1.1 52 rfl)
  have e56 := eq_i (hT.1.1 56 rfl)
  have e60 := eq_i (hT.1.1 60 rfl)
  have e43 := hT.2.2.1
  have hc := @ic (ν.1 43)
  refine h.go hd (fun _ h => h.elim) hB (hT.ne h.1 u0 u1 h43 (fun e2 => ?_)) (h.2.2.2.1.kf hT.1 rfl rfl rfl rfl) (hT.1.2.1 51 rfl) (fun s s1 s2 => ?_) (fun p p1 p2 => Or.inl ⟨by rw [hT.1.2.1 58 rfl], by omega⟩) (fun k k1 k2 => by omega) ⟨by omega, by omega, by omega⟩
  · rcases hk with hk | hk
    · rw [hk] at e2; exact absurd e2 (by decide)
    · exact hk.2
  · have es : s = (ν.1 43).toNatClampNeg := by omega
    rw [es]
    rcases hk with hk | ⟨hk, -⟩
    · exact Or.inr (Or.inl (hT.2.2.2.1.1.trans hk))
    · exact Or.inl (hT.2.2.2.1.1.trans hk)
/-- a TYPE -/
theorem DI.ty {u a k e : Int32} (h : DI μ n B ν) (hT : TlP u a k e (ν.1 60) ν κ) (u0 : 0 ≤ u.toInt) (u1 : u.toInt < n) (h43 : (ν.1 43).toInt < 3200) (hk : k = 3 ∨ k = 4) (he : ∃ w, DcO μ w e) (ek : μ.2.1 20 e.toNatClampNeg = k) (hB : B ≤ B') : DI μ n B' (mS1 (mA1 κ 61 (κ.1 60).toNatClampNeg e) 60 (κ.1 60 + 1)) ∧ DF (fun _ => False) ν (mS1 (mA1 κ 61 (κ.1 60).toNatClampNeg e) 60 (κ.1 60 + 1)) := by
  have h0 := h.1.2.1.1.1
  have hd := hT.df (C := fun _ => False) h0
  obtain ⟨-, -, -, -, ⟨⟨q4, q5, q6⟩, q1, q2, q3⟩, -⟩ := id h
  have e52 := eq_i (hT.1.1 52 rfl)
  have e56 := eq_i (hT.1.1 56 rfl)
  have e60' : κ.1 60 = ν.1 60 := hT.1.1 60 rfl
  have e60 := eq_i e60'
  have e43 := hT.2.2.1
  have hc := @ic (ν.1 43)
  have hc6 := @ic (κ.1 60)
  have hc7 := @ic (ν.1 60)
  have ei : (κ.1 60 + 1).toInt = (κ.1 60).toInt + 1 := ia1 (by omega)
  have k2 : kf [60] [61] κ (mS1 (mA1 κ 61 (κ.1 60).toNatClampNeg e) 60 (κ.1 60 + 1)) := (kf.rf.A rfl).S rfl
  have a61 : (mS1 (mA1 κ 61 (κ.1 60).toNatClampNeg e) 60 (κ.1 60 + 1)).2.1 61 (κ.1 60).toNatClampNeg = e := upd_at
  have b61 : ∀ i : Nat, i ≠ (κ.1 60).toNatClampNeg → (mS1 (mA1 κ 61 (κ.1 60).toNatClampNeg e) 60 (κ.1 60 + 1)).2.1 61 i = κ.2.1 61 i := fun i hi => upd_off hi
  have z60 : ((mS1 (mA1 κ 61 (κ.1 60).toNatClampNeg e) 60 (κ.1 60 + 1)).1 60).toInt = (κ.1 60).toInt + 1 := ei
  generalize mS1 (mA1 κ 61 (κ.1 60).toNatClampNeg e) 60 (κ.1 60 + 1) = ζ at *
  have z52 := eq_i (k2.1 52 rfl)
  have z56 := eq_i (k2.1 56 rfl)
  have z43 := eq_i (k2.1 43 rfl)
  have d2 : DF (fun _ => False) κ ζ := ⟨k2.up rfl rfl, fun e => by rw [k2.1 17 rfl]; exact e, ⟨by omega, by omega, by omega, by omega⟩, fun s _ => ⟨by rw [k2.2.1 44 rfl], by rw [k2.2.1 45 rfl], by rw [k2.2.1 46 rfl], by rw [k2.2.1 47 rfl]⟩, fun v _ => ⟨by rw [k2.2.1 53 rfl], by rw [k2.2.1 54 rfl]⟩, fun i hi => b61 i (by omega), fun p _ => by rw [k2.2.1 57 rfl], fun j => Or.inr (by rw [k2.2.1 28 rfl])⟩
  have hE : NE n κ := hT.ne h.1 u0 u1 h43 (fun e2 => by rcases hk with hk | hk <;> rw [hk] at e2 <;> exact absurd e2 (by decide))
  have hE2 : NE n ζ := by
    refine ⟨hE.1.to k2, ?_, fun s hs h45 => ?_⟩
    · unfold US
      rw [k2.1 43 rfl, k2.2.1 48 rfl, k2.2.1 49 rfl, k2.2.1 50 rfl]
      exact hE.2.1
    · rw [k2.1 43 rfl] at hs
      rw [k2.2.1 45 rfl] at h45
      rw [k2.2.1 47 rfl, k2.1 17 rfl]
      exact hE.2.2 s hs h45
  refine ⟨h.go (hd.tr d2) (fun _ h => h.elim) hB hE2 ((h.2.2.2.1.kf hT.1 rfl rfl rfl rfl).kf k2 rfl rfl rfl rfl) ((k2.2.1 51 rfl).trans (hT.1.2.1 51 rfl)) (fun s s1 s2 => ?_) (fun p p1 p2 => Or.inl ⟨by rw [k2.2.1 58 rfl, hT.1.2.1 58 rfl], by omega⟩) (fun k k1 k2 => ?_) ⟨by omega, by omega, by omega⟩, hd.tr d2⟩
  · have es : s = (ν.1 43).toNatClampNeg := by omega
    obtain ⟨t1, t2, t3⟩ := hT.2.2.2.1
    unfold SyF
    rw [es, k2.2.1 45 rfl, k2.2.1 46 rfl, k2.2.1 47 rfl, t1, t2, t3]
    refine Or.inr (Or.inr (Or.inl ⟨hk, he, ek, ⟨by omega, by omega⟩, ?_⟩))
    rw [← e60']
    exact a61
  · have es : k = (κ.1 60).toNatClampNeg := by omega
    unfold TyF
    rw [es, a61, ek]
    exact ⟨he, hk⟩
end NNH
