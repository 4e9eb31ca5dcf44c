/-! contracts of the reference: one unit more; its IMPORTs and declarations told -/
/-- a unit begun: its rows of symbols, and its face so far -/
def FcQ (f u : Int32) (ν κ : MS) : Prop := kf [17, 18] [48, 49, 50, 51] ν κ ∧ (¬ ν.1 17 = 0 → ¬ κ.1 17 = 0) ∧ (∀ j, j ≠ u.toNatClampNeg → κ.2.1 48 j = ν.2.1 48 j ∧ κ.2.1 49 j = ν.2.1 49 j ∧ κ.2.1 50 j = ν.2.1 50 j ∧ κ.2.1 51 j = ν.2.1 51 j) ∧ κ.2.1 51 u.toNatClampNeg = f ∧ κ.2.1 48 u.toNatClampNeg = ν.1 43 ∧ κ.2.1 49 u.toNatClampNeg = ν.1 43 ∧ (κ.2.1 50 u.toNatClampNeg).toInt < u.toInt
/-- a unit, its declarations told -/
def UnT (μ : MS) (h K : Nat) (ν : MS) (lo hi : Int) (w g : Nat) (x : Int32) : Prop := (0 ≤ x.toInt ∧ lo ≤ x.toInt ∧ x.toInt < hi) ∧ μ.2.1 20 x.toNatClampNeg = 1 ∧ ∃ (c2 c3 c4 : Int) (m wd v3 : Nat), (lo < c2 ∧ c2 ≤ c3 ∧ c3 ≤ c4 ∧ c4 ≤ hi) ∧ wd + v3 ≤ w ∧ WG (fun lo hi v y => PK μ h K 2 4 lo hi v y ∧ DeP ν lo hi y) (fun x => μ.2.1 20 x.toNatClampNeg = 7) (μ.2.1 27) m c2 c3 wd g (μ.2.1 24 x.toNatClampNeg) ∧ BT μ h K c3 c4 v3 (μ.2.1 25 x.toNatClampNeg)
theorem WG.cg {lo hi : Int} {E E' : Int → Int → Nat → Int32 → Prop} {D D' : Int32 → Prop} {nx nx' : Nat → Int32} (hE : ∀ lo' hi' v y, lo ≤ lo' → hi' ≤ hi → E lo' hi' v y → E' lo' hi' v y ∧ nx' y.toNatClampNeg = nx y.toNatClampNeg ∧ (D' y ↔ D y)) : ∀ {m : Nat} {l : Int} {w g : Nat} {x : Int32}, lo ≤ l → WG E D nx m l hi w g x → WG E' D' nx' m l hi w g x
  | 0, _, _, _, _, _, h => h
  | m + 1, l, w, g, x, hl, h => by
    rcases h with h | ⟨mid, v, k1, k2, k3⟩
    · exact Or.inl h
    · obtain ⟨e1, e2, e3⟩ := hE l mid v x hl k1.2 k2
      refine Or.inr ⟨mid, v, k1, e1, ?_⟩
      rw [e2]
      rcases k3 with ⟨d1, d2, d3⟩ | ⟨d1, d2, d3⟩
      · exact Or.inl ⟨e3.mpr d1, d2, WG.cg hE (by omega) d3⟩
      · exact Or.inr ⟨fun hd => d1 (e3.mp hd), d2, WG.cg hE (by omega) d3⟩
section NNL
variable {X : ev_X} {W : Nat → Prop} {d h K : Nat} {P : MP} {μ ν κ ζ : MS} {B n N lo hi : Int} {C : Nat → Prop} {T : MS → Prop} {R : Int32 → MS → Prop} {x : Int32}
theorem UnT.df {w g : Nat} (hU : UnT μ h K ν lo hi w g x) (hN : DF C ν κ) (hS : ∀ j, bt lo hi j → ¬ C j) : UnT μ h K κ lo hi w g x := by
  obtain ⟨i, ek, c2, c3, c4, m, wd, v3, ⟨q1, q2, q3, q4⟩, hw, f, hB⟩ := hU
  exact ⟨i, ek, c2, c3, c4, m, wd, v3, ⟨q1, q2, q3, q4⟩, hw, WG.cg (lo := c2) (fun lo' hi' v y k1 k2 hy => ⟨⟨hy.1, hy.2.df hN (fun j hj => hS j ⟨by have := hj.1; omega, by have := hj.2; omega⟩)⟩, rfl, Iff.rfl⟩) (Int.le_refl _) f, hB⟩
theorem DI.next {f u : Int32} (h : DI μ n B ν) (hq : FcQ f u ν κ) (un : u.toInt = n) (n0 : 0 ≤ n) (n12 : n < 13) (hf : f = if μ.2.1 26 (μ.2.1 42 u.toNatClampNeg).toNatClampNeg = 1 then 1 else 0) : DI μ (n + 1) B κ ∧ DF (fun _ => False) ν κ := by
  obtain ⟨k1, k2, k3, k4, k5, k6, k7⟩ := hq
  obtain ⟨⟨e1, ⟨⟨s0, s1⟩, hn, hw⟩, hI⟩, h2, ⟨hSy, hPr, hTy⟩, h6, ⟨⟨q4, q5, q6⟩, q1, q2, q3⟩, h51⟩ := h
  have hcu := @ic u
  have i43 := eq_i (k1.1 43 rfl)
  have i52 := eq_i (k1.1 52 rfl)
  have i56 := eq_i (k1.1 56 rfl)
  have i60 := eq_i (k1.1 60 rfl)
  have df : DF (fun _ => False) ν κ := ⟨k1.up rfl rfl, k2, ⟨by omega, by omega, by omega, by omega⟩, fun s _ => ⟨by rw [k1.2.1 44 rfl], by rw [k1.2.1 45 rfl], by rw [k1.2.1 46 rfl], by rw [k1.2.1 47 rfl]⟩, fun v _ => ⟨by rw [k1.2.1 53 rfl], by rw [k1.2.1 54 rfl]⟩, fun i _ => by rw [k1.2.1 61 rfl], fun p _ => by rw [k1.2.1 57 rfl], fun j => Or.inr (by rw [k1.2.1 28 rfl])⟩
  refine ⟨⟨⟨e1.to k1, ⟨⟨by omega, by omega⟩, by omega, fun w hw2 => ?_⟩, fun s hs h45 => ?_⟩, h2.tr df.1, ⟨fun s hs => (hSy s (by omega)).df (by omega) df (fun _ h => h.elim), fun p p1 p2 => (hPr p p1 (by omega)).df (by omega) df (fun _ h => h.elim) (by rw [k1.2.1 58 rfl]), fun k hk => (hTy k (by omega)).df (by omega) df⟩, h6.kf k1 rfl rfl rfl rfl, ⟨⟨by omega, by omega, by omega⟩, by omega, by omega, by omega⟩, fun w hw2 => ?_⟩, df⟩
  · by_cases c : w = u.toNatClampNeg
    · rw [c, k5, k6]
      exact ⟨s0, by omega, by omega⟩
    · obtain ⟨r1, r2, r3, -⟩ := k3 w c
      rw [r1, r2, r3]
      obtain ⟨w1, w2, w3⟩ := hw w (by omega)
      exact ⟨w1, by omega, w3⟩
  · rw [k1.2.1 45 rfl] at h45
    obtain ⟨a1, a2⟩ := hI s (by omega) h45
    rw [k1.2.1 47 rfl]
    exact ⟨by omega, fun e => k2 (a2 e)⟩
  · by_cases c : w = u.toNatClampNeg
    · rw [c, k4]; exact hf
    · rw [(k3 w c).2.2.2]
      exact h51 w (by omega)
/-- a unit's IMPORTs -/
theorem da_187 {u e : Int32} {c2 : Int} (hd : 2 ≤ d) (u0 : 0 ≤ u.toInt) (u1 : u.toInt < n) (hN : ∀ w : Nat, (w : Int) ≤ u.toInt → 0 ≤ (μ.2.1 42 w).toInt ∧ (μ.2.1 42 w).toInt < 16000) (h16 : c2 ≤ 16000) :
    ∀ (m : Nat) (l : Int) (w : Nat) (x : Int32) (ν : MS), DI μ n B ν → 0 ≤ l → (ν.1 43).toInt + w ≤ 3190 → WL (PK μ h K 2 5) (μ.2.1 27) m l c2 w x → (∀ ζ : MS, DF (fun _ => False) ν ζ → DI μ n B ζ → (ζ.1 43).toInt ≤ (ν.1 43).toInt + w → (ζ.1 52).toInt = (ν.1 52).toInt → ME X W true (d + 1) 345 187 [(0, .ref P.1), (1, .int u), (2, .int e), (3, .int (-1))] [] P ζ R T) → ME X W true (d + 1) 345 187 [(0, .ref P.1), (1, .int u), (2, .int e), (3, .int x)] [] P ν R T
  | 0, l, w, x, ν, hI, hl, h43, hx, ct => by
    obtain ⟨hx, -⟩ := hx
    subst hx
    exact ct ν DF.rf hI (by omega) rfl
  | m + 1, l, w, x, ν, hI, hl, h43, hx, ct => by
    rcases hx with ⟨hx, -⟩ | ⟨mid, v, ⟨k1, k2, k3⟩, k4, k5⟩
    · subst hx
      exact ct ν DF.rf hI (by omega) rfl
    obtain ⟨⟨i1, i2, i3⟩, g3, c, u', -, hw, -⟩ := k4
    have g3 : ([2] : List Int32).contains (μ.2.1 20 x.toNatClampNeg) = true := g3
    have ek : μ.2.1 20 x.toNatClampNeg = 2 := by simpa using g3
    have o2 : ow (2 : Int32) = 1 := by decide
    rw [ek, o2] at hw
    refine v_declareAll_187 _ _ _ ⟨fun h => by omega, fun _ => MC.mono (imported_step hd u0 u1 hI (by omega) ⟨i1, by omega⟩ hN) (fun _ κ hκ => ?_) (fun _ h => h)⟩
    obtain ⟨z1, z2, z3, z4⟩ := hκ
    refine ⟨MI.of ((hI.1.1.to z1.1).g rfl rfl : _ = 16000) i1 (by omega), ?_⟩
    rw [z2.row (g := 27) rfl]
    exact da_187 hd u0 u1 hN h16 m mid (w - v) _ κ z2 (by omega) (by omega) k5 (fun ζ y1 y2 y3 y4 => ct ζ (z1.tr y1) y2 (by omega) (by omega))
/-- a unit's declarations -/
theorem da_214 {u e : Int32} {i : Nat} {c3 : Int} (hd : 3 ≤ d) (u0 : 0 ≤ u.toInt) (u1 : u.toInt < n) (ui : u.toInt = i) (h41 : (i : Int) < (μ.1 41).toInt) (ee : μ.2.1 42 i = e) (hS : SB (μ.1 41).toInt μ (bt 0 N)) (hN : c3 ≤ N) :
    ∀ (m : Nat) (l : Int) (w g : Nat) (x : Int32) (ν : MS) (B : Int), DI μ n B ν → B ≤ l → 0 ≤ l → (∃ mm, Onl (μ.2.1 27) mm (μ.2.1 24 e.toNatClampNeg) x) → (ν.1 43).toInt + w + g ≤ 3190 → WG (PK μ h K 2 4) (fun x => μ.2.1 20 x.toNatClampNeg = 7) (μ.2.1 27) m l c3 w g x → (∀ ζ : MS, DF (bt l c3) ν ζ → DI μ n c3 ζ → (ζ.1 43).toInt ≤ (ν.1 43).toInt + w + g → (ζ.1 52).toInt ≤ (ν.1 52).toInt + g → WG (fun lo hi v y => PK μ h K 2 4 lo hi v y ∧ DeP ζ lo hi y) (fun x => μ.2.1 20 x.toNatClampNeg = 7) (μ.2.1 27) m l c3 w g x → ME X W true (d + 1) 345 214 [(0, .ref P.1), (1, .int u), (2, .int e), (3, .int (-1))] [] P ζ R T) → ME X W true (d + 1) 345 214 [(0, .ref P.1), (1, .int u), (2, .int e), (3, .int x)] [] P ν R T
  | 0, l, w, g, x, ν, B, hI, hB, hl, hon, h43, hx, ct => by
    obtain ⟨hx, hlc⟩ := hx
    subst hx
    exact ct ν DF.rf (hI.up (by omega)) (by omega) (by omega) ⟨rfl, hlc⟩
  | m + 1, l, w, g, x, ν, B, hI, hB, hl, hon, h43, hx, ct => by
    rcases hx with ⟨hx, hlc⟩ | ⟨mid, v, ⟨k1, k2⟩, k4, k5⟩
    · subst hx
      exact ct ν DF.rf (hI.up (by omega)) (by omega) (by omega) (Or.inl ⟨rfl, hlc⟩)
    obtain ⟨i1, i2, i3⟩ := k4.1
    have hcx := @ic x
    have x16 : x.toInt < 16000 := by have := (hS x.toNatClampNeg ⟨by omega, by omega⟩).1; omega
    obtain ⟨mm, hon⟩ := hon
    have hdc : DcO μ i x := ⟨h41, mm, by rw [ee]; exact hon, i1⟩
    obtain ⟨w', g', hw1, hw2, hw3, hmk, k6⟩ : ∃ w' g', v + w' + g' ≤ w + g ∧ gwt (μ.2.1 20 x.toNatClampNeg) v + g' ≤ g ∧ v ≤ w + g ∧ (∀ E' : Int → Int → Nat → Int32 → Prop, E' l mid v x → WG E' (fun x => μ.2.1 20 x.toNatClampNeg = 7) (μ.2.1 27) m mid c3 w' g' (μ.2.1 27 x.toNatClampNeg) → WG E' (fun x => μ.2.1 20 x.toNatClampNeg = 7) (μ.2.1 27) (m + 1) l c3 w g x) ∧ WG (PK μ h K 2 4) (fun x => μ.2.1 20 x.toNatClampNeg = 7) (μ.2.1 27) m mid c3 w' g' (μ.2.1 27 x.toNatClampNeg) := by
      rcases k5 with ⟨e, hv, k5⟩ | ⟨e, hv, k5⟩
      · have e : μ.2.1 20 x.toNatClampNeg = 7 := e
        refine ⟨w, g - v, by omega, ?_, by omega, fun E' a b => Or.inr ⟨mid, v, ⟨k1, k2⟩, a, Or.inl ⟨e, hv, b⟩⟩, k5⟩
        unfold gwt
        rw [e, if_pos rfl]
        omega
      · have e : ¬ μ.2.1 20 x.toNatClampNeg = 7 := e
        refine ⟨w - v, g, by omega, ?_, by omega, fun E' a b => Or.inr ⟨mid, v, ⟨k1, k2⟩, a, Or.inr ⟨e, hv, b⟩⟩, k5⟩
        unfold gwt
        rw [if_neg e]
        omega
    refine v_declareAll_214 _ _ _ ⟨fun h => by omega, fun _ => MC.mono (declared_step (mid := mid) (l := l) (v := v) hd u0 u1 ui hI hdc hS hl (by omega) hB (by omega) k4) (fun _ κ hκ => ?_) (fun _ h => h)⟩
    obtain ⟨z1, z2, ⟨z3, z4⟩, z5⟩ := hκ
    refine ⟨MI.of ((hI.1.1.to z1.1).g rfl rfl : _ = 16000) i1 x16, ?_⟩
    rw [z2.row (g := 27) rfl]
    refine da_214 hd u0 u1 ui h41 ee hS hN m mid w' g' _ κ mid z2 (Int.le_refl _) (by omega) ⟨mm + 1, hon.snoc i1⟩ (by omega) k6 (fun ζ y1 y2 y3 y4 y5 => ct ζ ?_ y2 (by omega) (by omega) (hmk _ ⟨k4, z5.df y1 (fun j hj hj2 => by have := hj.2; have := hj2.1; omega)⟩ y5))
    exact (z1.sub (C' := bt l c3) (fun j hj => ⟨hj.1, by have := hj.2; omega⟩)).tr (y1.sub (C' := bt l c3) (fun j hj => ⟨by have := hj.1; omega, hj.2⟩))
/-- a unit's face: the LEVEL of its name -/
theorem da_92 {f u e : Int32} (hd : 1 ≤ d) (u0 : 0 ≤ u.toInt) (u1 : u.toInt < 13) (hL : LRow ν.2.2) (hN : ∀ w : Nat, (w : Int) ≤ u.toInt → 0 ≤ (ν.2.1 42 w).toInt ∧ (ν.2.1 42 w).toInt < 16000) (ee : ν.2.1 42 u.toNatClampNeg = e) (ct : ∀ κ : MS, FcQ f u ν κ → MI e (κ.2.2 23) ∧ ME X W true d 345 187 [(0, .ref P.1), (1, .int u), (2, .int e), (3, .int (κ.2.1 23 e.toNatClampNeg))] [] P κ R T) :
    ∀ (j : Nat) (x3 : Int32) (κ : MS), x3.toInt + j = u.toInt → 0 ≤ x3.toInt → FcQ f u ν κ → ME X W true d 345 92 [(0, .ref P.1), (1, .int u), (2, .int e), (3, .int x3)] [] P κ R T := by
  intro j
  have hcu := @ic u
  induction j with
  | zero =>
    intro x3 κ hj h3 hq
    exact v_declareAll_92 _ _ _ ⟨fun _ => ct κ hq, fun h => by omega⟩
  | succ j ih =>
    intro x3 κ hj h3 hq
    have hc3 := @ic x3
    have e1 : (x3 + 1).toInt = x3.toInt + 1 := ia1 (by omega)
    have r42 : κ.2.1 42 = ν.2.1 42 := hq.1.2.1 42 rfl
    have mi : ∀ {κ : MS} {g : Nat} {i : Int32}, kf [17, 18] [48, 49, 50, 51] ν κ → rk g = true → rlen g = 16000 → 0 ≤ i.toInt → i.toInt < 16000 → MI i (κ.2.2 g) := fun hk hg hr a0 a1 => MI.of ((hL.to hk).g hg hr) a0 a1
    have mu : ∀ {κ : MS} {g : Nat} {i : Int32}, kf [17, 18] [48, 49, 50, 51] ν κ → rk g = true → rlen g = 14 → 0 ≤ i.toInt → i.toInt < 13 → MI i (κ.2.2 g) := fun hk hg hr a0 a1 => MI.of ((hL.to hk).g hg hr) a0 (by omega)
    obtain ⟨a1, a2⟩ := hN x3.toNatClampNeg (by omega)
    obtain ⟨b1, b2⟩ := hN u.toNatClampNeg (by omega)
    rw [ee] at b1 b2
    have rule : ∀ l : Int32, MC X W true d 290 [.ref P.1, .int 5, .int l] P κ (fun _ μ2 => ME X W true d 345 92 [(0, .ref P.1), (1, .int u), (2, .int e), (3, .int (x3 + 1))] [] P μ2 R T) (fun _ => False) := fun l => by
      refine MC.mono (c_rule hd) (fun _ κ1 h1 => ih _ κ1 (by omega) (by omega) ?_) (fun _ h => h)
      obtain ⟨q1, q2, q3, q4, q5, q6, q7⟩ := hq
      obtain ⟨p1, p2⟩ := h1
      have r : ∀ g, κ1.2.1 g = κ.2.1 g := fun g => p1.2.1 g rfl
      refine ⟨q1.tr (p1.up rfl rfl), fun _ => p2.resolve_left (by decide), ?_, ?_, ?_, ?_, ?_⟩
      · intro j hj; rw [r, r, r, r]; exact q3 j hj
      · rw [r]; exact q4
      · rw [r]; exact q5
      · rw [r]; exact q6
      · rw [r]; exact q7
    have on := ih (x3 + 1) κ (by omega) (by omega) hq
    refine v_declareAll_92 _ _ _ ⟨fun h => by omega, fun _ => ⟨mu hq.1 rfl rfl h3 (by omega), ?_, mi hq.1 rfl rfl b1 b2, fun _ => ⟨mu hq.1 rfl rfl h3 (by omega), mu hq.1 rfl rfl u0 u1, fun _ => ⟨mi hq.1 rfl rfl b1 b2, rule _⟩, fun _ => ⟨mu hq.1 rfl rfl h3 (by omega), fun _ => ⟨mu hq.1 rfl rfl u0 u1, fun _ => on, fun _ => ⟨mu hq.1 rfl rfl u0 u1, ?_⟩⟩, fun _ => ⟨mi hq.1 rfl rfl b1 b2, rule _⟩⟩⟩, fun _ => on⟩⟩
    · rw [r42]; exact mi hq.1 rfl rfl a1 a2
    · refine ih _ _ (by omega) (by omega) ?_
      obtain ⟨q1, q2, q3, q4, q5, q6, q7⟩ := hq
      have k2 : kf [] [50] κ (mA1 κ 50 u.toNatClampNeg x3) := kf.rf.A rfl
      have a50 : (mA1 κ 50 u.toNatClampNeg x3).2.1 50 u.toNatClampNeg = x3 := upd_at
      have b50 : ∀ j, j ≠ u.toNatClampNeg → (mA1 κ 50 u.toNatClampNeg x3).2.1 50 j = κ.2.1 50 j := fun j hj => upd_off hj
      generalize mA1 κ 50 u.toNatClampNeg x3 = κ1 at *
      refine ⟨q1.tr (k2.up rfl rfl), fun e => by rw [k2.1 17 rfl]; exact q2 e, fun j hj => ?_, ?_, ?_, ?_, ?_⟩
      · obtain ⟨g1, g2, g3, g4⟩ := q3 j hj
        rw [k2.2.1 48 rfl, k2.2.1 49 rfl, k2.2.1 51 rfl, b50 j hj]
        exact ⟨g1, g2, g3, g4⟩
      · rw [k2.2.1 51 rfl]; exact q4
      · rw [k2.2.1 48 rfl]; exact q5
      · rw [k2.2.1 49 rfl]; exact q6
      · rw [a50]; omega
end NNL
