/-! contracts of the reference: units named; what was told stays told -/
/-- a unit, named -/
def UnN (ν : MS) (h K : Nat) (lo hi : Int) (x : Int32) : Prop := (0 ≤ x.toInt ∧ lo ≤ x.toInt ∧ x.toInt < hi) ∧ ν.2.1 20 x.toNatClampNeg = 1 ∧ ∃ (c2 c3 c4 : Int) (m : Nat), (lo < c2 ∧ c2 ≤ c3 ∧ c3 ≤ c4 ∧ c4 ≤ hi) ∧ WL (fun lo hi _ x => DcP ν h K lo hi x ∧ DeP ν lo hi x) (ν.2.1 27) m c2 c3 0 (ν.2.1 24 x.toNatClampNeg) ∧ BN ν h (fun _ => False) K [] c3 c4 (ν.2.1 25 x.toNatClampNeg)
section NNN
variable {X : ev_X} {W : Nat → Prop} {d h K : Nat} {P : MP} {μ ν κ ζ : MS} {V : Int32 → Prop} {x : Int32} {lo hi n N : Int} {C : Nat → Prop} {T : MS → Prop} {R : Int32 → MS → Prop}
theorem NmV.sf {t : Int32} (hV : NmV ν t lo hi x) (hN : SF C ν ζ) (hS : ∀ j, bt lo hi j → ¬ C j) : NmV ζ t lo hi x := by
  obtain ⟨⟨a1, a2, a3⟩, a4, a5, s, s1, s2, s3, s4⟩ := hV
  have hc := @ic x
  refine ⟨⟨a1, a2, a3⟩, by rw [hN.row (g := 20) rfl]; exact a4, ?_⟩
  rw [hN.r13 (Or.inl a4) (hS _ ⟨by omega, by omega⟩)]
  refine ⟨a5.sf hN, s, by rw [hN.1.1 43 rfl]; exact s1, ?_⟩
  rw [hN.row (g := 45) rfl, hN.row (g := 46) rfl, hN.row (g := 47) rfl]
  exact ⟨s2, s3, s4⟩
theorem DeP.sf (hD : DeP ν lo hi x) (hN : SF C ν ζ) (hS : ¬ ν.2.1 20 x.toNatClampNeg = 7 ∨ ∀ j, bt lo hi j → ¬ C j) : DeP ζ lo hi x := by
  obtain ⟨⟨a1, a2, a3⟩, a4, a5⟩ := hD
  have hc := @ic x
  refine ⟨⟨a1, a2, a3⟩, fun e => ?_, fun e => ?_⟩
  · rw [hN.row (g := 20) rfl] at e
    have e28 : ζ.2.1 28 x.toNatClampNeg = ν.2.1 28 x.toNatClampNeg := by
      rcases hN.2.2.2 x.toNatClampNeg with ⟨-, -, e2⟩ | ⟨e2, -⟩ | ⟨-, e2⟩ | ⟨-, e2, -⟩
      · exact e2
      · rw [e] at e2; exact absurd e2 (by decide)
      · rw [e] at e2; exact absurd e2 (by decide)
      · rw [e] at e2; rcases e2 with e2 | e2 <;> exact absurd e2 (by decide)
    rw [e28, hN.1.1 56 rfl]
    exact a4 e
  · rw [hN.row (g := 20) rfl] at e
    have hS := hS.resolve_left (fun h => h e)
    obtain ⟨c0, c1, m, ⟨q1, q2⟩, f⟩ := a5 e
    refine ⟨c0, c1, m, ⟨q1, q2⟩, ?_⟩
    rw [hN.row (g := 23) rfl, hN.row (g := 22) rfl]
    exact WL.cg (lo := c0) (fun lo' hi' v y k1 k2 hy => ⟨hy.sf hN (fun j hj => hS j ⟨by have := hj.1; omega, by have := hj.2; omega⟩), by rw [hN.row (g := 27) rfl]⟩) (Int.le_refl _) f
theorem UnT.sf {w g : Nat} (hU : UnT μ h K ν lo hi w g x) (hN : SF C ν ζ) (hS : ∀ j, bt lo hi j → ¬ C j) : UnT μ h K ζ lo hi w g x := by
  obtain ⟨i, ek, c2, c3, c4, m, wd, v3, ⟨q1, q2, q3, q4⟩, hw, f, hB⟩ := hU
  exact ⟨i, ek, c2, c3, c4, m, wd, v3, ⟨q1, q2, q3, q4⟩, hw, WG.cg (lo := c2) (fun lo' hi' v y k1 k2 hy => ⟨⟨hy.1, hy.2.sf hN (Or.inr (fun j hj => hS j ⟨by have := hj.1; omega, by have := hj.2; omega⟩))⟩, rfl, Iff.rfl⟩) (Int.le_refl _) f, hB⟩
theorem UnN.sf (hF : UnN ν h K lo hi x) (hN : SF C ν ζ) (hS : ∀ j, bt lo hi j → ¬ C j) : UnN ζ h K lo hi x := by
  obtain ⟨f1, f2, c2, c3, c4, m, ⟨q1, q2, q3, q4⟩, f3, f4⟩ := hF
  have z24 : ζ.2.1 24 x.toNatClampNeg = ν.2.1 24 x.toNatClampNeg := (hN.fld (f := 2) (j := x.toNatClampNeg) (by decide)).resolve_right (fun h => by rw [f2] at h; exact absurd h.1 (by decide))
  refine ⟨f1, by rw [hN.row (g := 20) rfl]; exact f2, c2, c3, c4, m, ⟨q1, q2, q3, q4⟩, ?_, ?_⟩
  · rw [z24]
    exact WL.cg (lo := c2) (fun lo' hi' v y k1 k2 hy => ⟨⟨hy.1.sf hN (fun j hj => hS j ⟨by have := hj.1; omega, by have := hj.2; omega⟩), hy.2.sf hN (Or.inr (fun j hj => hS j ⟨by have := hj.1; omega, by have := hj.2; omega⟩))⟩, by rw [hN.row (g := 27) rfl]⟩) (Int.le_refl _) f3
  · rw [hN.row (g := 25) rfl]
    exact BN.sf hN K _ _ _ _ (fun j hj => hS j ⟨by have := hj.1; omega, by have := hj.2; omega⟩) f4
theorem un_33 {x1 x2 : Int32} {c3 : Int} {v3 : Nat} (hT : ∀ h', h' ≤ h → TyN X W P d h') (hT1 : TyN X W P (d + 1) h) (hS : StsN X W P d h K) (hd : 4 ≤ d) (h0 : 0 ≤ lo) (hN : c3 ≤ N) : ∀ (m : Nat) (l : Int) (w g : Nat) (x : Int32) (ν : MS), SF (bt 0 N) μ ν → lo ≤ l → CXs n N V (w + v3) ν → (ν.1 62).toInt = 0 → WG (fun lo hi v x => PK μ h K 2 4 lo hi v x ∧ DeP ν lo hi x) (fun x => μ.2.1 20 x.toNatClampNeg = 7) (μ.2.1 27) m l c3 w g x → (∀ ζ : MS, SFw (bt l c3) w ν ζ → (ζ.1 17 = 0 → WL (fun lo hi _ x => DcP ζ h K lo hi x ∧ DeP ζ lo hi x) (ζ.2.1 27) m l c3 0 x) → ME X W true (d + 2) 349 33 [(0, .ref P.1), (1, .int x1), (2, .int x2), (3, .int (-1))] [] P ζ R T) → ME X W true (d + 2) 349 33 [(0, .ref P.1), (1, .int x1), (2, .int x2), (3, .int x)] [] P ν R T
  | 0, l, w, g, x, ν, hν, hl, hC, h62, hx, ct => by
    obtain ⟨hx, hlc⟩ := hx
    subst hx
    exact ct ν (SFw.rf.sub (fun _ h => h) (Nat.zero_le _)) (fun _ => ⟨rfl, hlc⟩)
  | m + 1, l, w, g, x, ν, hν, hl, hC, h62, hx, ct => by
    rcases hx with ⟨hx, hlc⟩ | ⟨mid, v, ⟨k1, k2⟩, k4, k5⟩
    · subst hx
      exact ct ν (SFw.rf.sub (fun _ h => h) (Nat.zero_le _)) (fun _ => Or.inl ⟨rfl, hlc⟩)
    obtain ⟨k4, kD⟩ := k4
    obtain ⟨i1, i2, i3⟩ := k4.in
    have hcx := @ic x
    have xN : bt 0 N x.toNatClampNeg := ⟨by omega, by omega⟩
    have k20 : ν.2.1 20 x.toNatClampNeg = μ.2.1 20 x.toNatClampNeg := by rw [hν.row (g := 20) rfl]
    -- what is left behind it
    obtain ⟨w', hw', k6, g', k7⟩ : ∃ w', nwt (ν.2.1 20 x.toNatClampNeg) v + w' = w ∧ True ∧ ∃ g', WG (fun lo hi v x => PK μ h K 2 4 lo hi v x ∧ DeP ν lo hi x) (fun x => μ.2.1 20 x.toNatClampNeg = 7) (μ.2.1 27) m mid c3 w' g' (μ.2.1 27 x.toNatClampNeg) := by
      rcases k5 with ⟨e, -, k5⟩ | ⟨e, hv, k5⟩
      · have e : μ.2.1 20 x.toNatClampNeg = 7 := e
        exact ⟨w, by rw [k20, e]; exact Nat.zero_add _, trivial, _, k5⟩
      · have e : ¬ μ.2.1 20 x.toNatClampNeg = 7 := e
        refine ⟨w - v, ?_, trivial, _, k5⟩
        unfold nwt
        rw [k20, if_neg e]
        omega
    refine v_nameRound_33 _ _ _ ⟨fun h => by omega, fun _ => MC.mono (dc_step (V := V) (w := v) (n := n) (N := N) hT hT1 hS hd (hC.le (by omega)) h62 (by omega) (by omega) (k4.ag (Nat.le_refl _) (Nat.le_refl _) hν.ag)) (fun _ κ hκ => ?_) (fun _ h => h)⟩
    obtain ⟨q1, q2⟩ := hκ
    have hCκ : CXs n N V (w' + v3) κ := CXs.sf (w := nwt (ν.2.1 20 x.toNatClampNeg) v) (by rw [show nwt (ν.2.1 20 x.toNatClampNeg) v + (w' + v3) = w + v3 by omega]; exact hC) q1
    have hκ2 := hν.tr (q1.1.sub (C' := bt 0 N) (fun j hj => ⟨by have := hj.1.1; omega, by have := hj.1.2; omega⟩))
    have kD2 : DeP κ l mid x := kD.sf q1.1 (by
      by_cases c : ν.2.1 20 x.toNatClampNeg = 7
      · exact Or.inr (fun j _ hC => hC.2 c)
      · exact Or.inl c)
    have k7 := WG.cg (lo := mid) (E' := fun lo hi v x => PK μ h K 2 4 lo hi v x ∧ DeP κ lo hi x) (fun lo' hi' v y p1 p2 hy => ⟨⟨hy.1, hy.2.sf q1.1 (Or.inr (fun j hj hC => by have := hj.1; have := hC.1.2; omega))⟩, rfl, Iff.rfl⟩) (Int.le_refl _) k7
    refine ⟨hCκ.mi rfl rfl i1 xN, ?_⟩
    rw [hκ2.row (g := 27) rfl]
    refine un_33 hT hT1 hS hd h0 hN m mid w' g' _ κ hκ2 (by omega) hCκ (by rw [q1.2.2.1]; exact h62) k7 (fun ζ z1 z2 => ct ζ ?_ (fun e => Or.inr ⟨mid, 0, ⟨k1, k2, Nat.le_refl _⟩, ⟨(q2 (z1.1.z e)).sf z1.1 (fun j hj hj2 => by have := hj.2; have := hj2.1; omega), kD2.sf z1.1 (Or.inr (fun j hj hj2 => by have := hj.2; have := hj2.1; omega))⟩, ?_⟩))
    · have t1 := SFw.tr (q1.sub (C' := bt l c3) (fun j hj => ⟨hj.1.1, by have := hj.1.2; omega⟩) (Nat.le_refl _)) (z1.sub (C' := bt l c3) (fun j hj => ⟨by have := hj.1; omega, hj.2⟩) (Nat.le_refl _))
      rw [hw'] at t1
      exact t1
    · have z3 := z2 e
      rw [z1.1.row (g := 27) rfl, hκ2.row (g := 27) rfl] at z3 ⊢
      exact z3
/-- all units, one after the other -/
theorem nr_11 {c : Nat → Int} {W1 : Nat → Nat} {u : Nat} (hT : ∀ h', h' ≤ h → TyN X W P d h') (hT1 : TyN X W P (d + 1) h) (hS : StsN X W P d h K) (hS2 : StsN X W P (d + 2) h K) (hd : 4 ≤ d) (hu : (u : Int) = (μ.1 41).toInt ∧ u ≤ 12) (hU : ∀ i, i < u → W1 i ≤ W1 (i + 1) ∧ (0 ≤ c i ∧ c i ≤ c (i + 1) ∧ c (i + 1) ≤ N)) : ∀ (k i : Nat) (x1 : Int32) (ν : MS), i + k = u → x1.toInt = i → SF (bt 0 N) μ ν → CXs n N (VS (fun _ => False) []) (W1 u - W1 i) ν → W1 i ≤ W1 u → (ν.1 62).toInt = 0 → (∀ j, i ≤ j → j < u → ∃ g, UnT μ h K ν (c j) (c (j + 1)) (W1 (j + 1) - W1 j) g (μ.2.1 42 j)) → (ν.1 17 = 0 → ∀ j, j < i → c (j + 1) ≤ c i ∧ UnN ν h K (c j) (c (j + 1)) (μ.2.1 42 j)) →
    ME X W true (d + 2) 349 11 [(0, .ref P.1), (1, .int x1)] [] P ν (fun _ ζ => SFw (bt 0 N) (W1 u - W1 i) ν ζ ∧ (ζ.1 17 = 0 → ∀ j, j < u → UnN ζ h K (c j) (c (j + 1)) (μ.2.1 42 j))) T
  | 0, i, x1, ν, hi, hx, hν, hC, hW, h62, hR, hD => by
    have e41 := eq_i (hν.1.1 41 rfl)
    refine v_nameRound_11 _ ⟨fun _ => ⟨SFw.rf.sub (fun _ h => h) (Nat.zero_le _), fun e j hj => (hD e j (by omega)).2⟩, fun h => by omega⟩
  | k + 1, i, x1, ν, hi, hx, hν, hC, hW, h62, hR, hD => by
    have e41 := eq_i (hν.1.1 41 rfl)
    obtain ⟨u1, u2, u3, u4⟩ := hU i (by omega)
    obtain ⟨g, ⟨i1, i2, i3⟩, u5, c2, c3, c4, m, wd, v3, ⟨q1, q2, q3, q4⟩, hw, hG, hB⟩ := hR i (Nat.le_refl _) (by omega)
    have hcx := @ic x1
    have en : x1.toNatClampNeg = i := by omega
    have hcn := @ic (μ.2.1 42 i)
    have nN : bt 0 N (μ.2.1 42 i).toNatClampNeg := ⟨by omega, by omega⟩
    have r42 : ν.2.1 42 x1.toNatClampNeg = μ.2.1 42 i := by rw [hν.row (g := 42) rfl, en]
    have r24 : ν.2.1 24 (μ.2.1 42 i).toNatClampNeg = μ.2.1 24 (μ.2.1 42 i).toNatClampNeg := (hν.fld (f := 2) (j := (μ.2.1 42 i).toNatClampNeg) (by decide)).resolve_right (fun h => by rw [u5] at h; exact absurd h.1 (by decide))
    have hWs : W1 (i + 1) ≤ W1 u := by
      have : ∀ k, i + 1 + k ≤ u → W1 (i + 1) ≤ W1 (i + 1 + k) := fun k => by
        induction k with
        | zero => intro _; exact Nat.le_refl _
        | succ k ih => intro hk; exact Nat.le_trans (ih (by omega)) ((hU (i + 1 + k) (by omega)).1)
      have := this (u - (i + 1)) (by omega)
      rw [show i + 1 + (u - (i + 1)) = u by omega] at this
      exact this
    have mono : ∀ k, i + 1 + k ≤ u → c (i + 1) ≤ c (i + 1 + k) := fun k => by
      induction k with
      | zero => intro _; exact Int.le_refl _
      | succ k ih => intro hk; exact Int.le_trans (ih (by omega)) ((hU (i + 1 + k) (by omega)).2.2.1)
    have l42 : ν.2.2 42 = 14 := hC.1.1.g rfl rfl
    refine v_nameRound_11 _ ⟨fun h => by omega, fun _ => ⟨MI.of l42 (by omega) (by omega), ?_, ?_⟩⟩
    · rw [r42]; exact hC.mi rfl rfl i1 nN
    rw [r42, r24]
    refine un_33 (μ := μ) (lo := 0) (c3 := c3) (v3 := v3) (n := n) (N := N) (V := VS (fun _ => False) []) hT hT1 hS hd (Int.le_refl _) (by omega) m c2 wd g _ ν hν (by omega) (hC.le (by omega)) h62 hG (fun κ p1 p2 => v_nameRound_33 _ _ _ ⟨fun _ => ?_, fun h => absurd h (by decide)⟩)
    have hCκ : CXs n N (VS (fun _ => False) []) (W1 u - W1 i - wd) κ := CXs.sf (w := wd) (by rw [show wd + (W1 u - W1 i - wd) = W1 u - W1 i by omega]; exact hC) p1
    have hκ := hν.tr (p1.1.sub (C' := bt 0 N) (fun j hj => ⟨by have := hj.1; omega, by have := hj.2; omega⟩))
    refine ⟨hCκ.mi rfl rfl i1 nN, ?_⟩
    rw [hκ.row (g := 25) rfl]
    refine MC.mono (hS2 κ _ n N (fun _ => False) [] c3 c4 v3 _ (hCκ.le (by omega)) (by omega) (by omega) (BT.cg (Nat.le_refl _) K _ _ _ _ hκ.ag hB)) (fun _ κ2 h2 => ?_) (fun _ h => h)
    obtain ⟨r1, r2⟩ := h2
    have tt := (p1.sub (C' := bt (c i) (c (i + 1))) (fun j hj => ⟨by have := hj.1; omega, by have := hj.2; omega⟩) (Nat.le_refl _)).tr (r1.sub (C' := bt (c i) (c (i + 1))) (fun j hj => ⟨by have := hj.1; omega, by have := hj.2; omega⟩) (Nat.le_refl _))
    have tt : SFw (bt (c i) (c (i + 1))) (W1 (i + 1) - W1 i) ν κ2 := tt.sub (fun _ h => h) hw
    have hκ2 := hν.tr (tt.1.sub (C' := bt 0 N) (fun j hj => ⟨by have := hj.1; omega, by have := hj.2; omega⟩))
    have hC2 : CXs n N (VS (fun _ => False) []) (W1 u - W1 (i + 1)) κ2 := CXs.sf (w := W1 (i + 1) - W1 i) (by rw [show W1 (i + 1) - W1 i + (W1 u - W1 (i + 1)) = W1 u - W1 i by omega]; exact hC) tt
    have e1 : (x1 + 1).toInt = x1.toInt + 1 := ia1 (by omega)
    refine ME.mono (nr_11 hT hT1 hS hS2 hd hu hU k (i + 1) (x1 + 1) κ2 (by omega) (by omega) hκ2 hC2 hWs (by rw [tt.2.2.1]; exact h62) (fun j hj hj2 => ?_) (fun e j hj => ?_)) (fun _ ζ hz => ⟨?_, hz.2⟩) (fun _ h => h)
    · obtain ⟨g', hg⟩ := hR j (by omega) hj2
      have mj := mono (j - (i + 1)) (by omega)
      rw [show i + 1 + (j - (i + 1)) = j by omega] at mj
      exact ⟨g', hg.sf tt.1 (fun j' h1 h2 => by have := h1.1; have := h2.2; omega)⟩
    · by_cases ej : j < i
      · obtain ⟨w1, w2⟩ := hD (tt.1.z e) j ej
        exact ⟨by omega, w2.sf tt.1 (fun j' hj1 hj2 => by have := hj1.2; have := hj2.1; omega)⟩
      · have ej : j = i := by omega
        subst ej
        have z24 : κ2.2.1 24 (μ.2.1 42 j).toNatClampNeg = μ.2.1 24 (μ.2.1 42 j).toNatClampNeg := (hκ2.fld (f := 2) (j := (μ.2.1 42 j).toNatClampNeg) (by decide)).resolve_right (fun h => by rw [u5] at h; exact absurd h.1 (by decide))
        refine ⟨Int.le_refl _, ⟨i1, i2, i3⟩, by rw [hκ2.row (g := 20) rfl]; exact u5, c2, c3, c4, m, ⟨q1, q2, q3, q4⟩, ?_, ?_⟩
        · rw [z24]
          exact WL.cg (lo := c2) (fun lo' hi' v y k1 k2 hy => ⟨⟨hy.1.sf r1.1 (fun j hj hj2 => by have := hj.2; have := hj2.1; omega), hy.2.sf r1.1 (Or.inr (fun j hj hj2 => by have := hj.2; have := hj2.1; omega))⟩, by rw [r1.1.row (g := 27) rfl]⟩) (Int.le_refl _) (p2 (r1.1.z e))
        · rw [hκ2.row (g := 25) rfl]
          exact r2 e
    · have t1 := SFw.tr (tt.sub (C' := bt 0 N) (fun j hj => ⟨by have := hj.1; omega, by have := hj.2; omega⟩) (Nat.le_refl _)) hz.1
      rw [show W1 (i + 1) - W1 i + (W1 u - W1 (i + 1)) = W1 u - W1 i by omega] at t1
      exact t1
end NNN
