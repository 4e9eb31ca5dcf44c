/-! contracts of the reference: the WHOLE CHAIN of an OBJECT type; where a TYPE is in it -/
/-- so many steps up, with all seen -/
def waF (ζ : MS) (ρ : Nat → Int32) (t : Int32) : Nat → Int32
  | 0 => t
  | k + 1 => waV ζ ρ (waF ζ ρ t k)
/-- OBJECT types so far up -/
def El (μ ζ : MS) (ρ : Nat → Int32) (t : Int32) (n : Nat) : Prop := ∀ i, i ≤ n → RT μ ζ (waF ζ ρ t i) ∧ Ob ζ (waF ζ ρ t i)
/-- a chain so far, no TYPE twice -/
def Ec (μ ζ : MS) (ρ : Nat → Int32) (t : Int32) (c : Nat) : Prop := (∀ i, i < c → RT μ ζ (waF ζ ρ t i) ∧ Ob ζ (waF ζ ρ t i)) ∧ ∀ i j, i < j → j < c → ¬ waF ζ ρ t i = waF ζ ρ t j
/-- a chain is on the row -/
def CnR (ζ : MS) (ρ : Nat → Int32) (t : Int32) (c : Nat) (ν : MS) : Prop := (ν.1 74).toInt = c ∧ ∀ k : Nat, k < c → ν.2.1 75 k = waF ζ ρ t k
/-- where a chain ends -/
def EcE (μ ζ : MS) (ρ : Nat → Int32) (t : Int32) (c : Nat) (ν0 : MS) : Prop := waF ζ ρ t c = -1 ∨ (RT μ ζ (waF ζ ρ t c) ∧ (¬ Ob ζ (waF ζ ρ t c) ∨ (∃ k, k < c ∧ (waF ζ ρ t k).toNatClampNeg = (waF ζ ρ t c).toNatClampNeg) ∨ ν0.2.1 78 (waF ζ ρ t c).toNatClampNeg = ν0.1 76 + 1))
abbrev PFs : List Nat := [67, 69, 74, 76]
abbrev PFr : List Nat := [66, 68, 70, 71, 75, 78]
section NNAH
variable {X : ev_X} {W : Nat → Prop} {d : Nat} {P : MP} {μ ν ν0 ν1 κ ζ : MS} {T : MS → Prop} {x y p q a b s t r e : Int32} {ρ : Nat → Int32} {w c : Nat}
theorem wa_root (h : ζ.2.1 20 x.toNatClampNeg = 26) : waV ζ ρ x = -1 := by
  unfold waV
  rw [if_neg (fun e => by rw [h] at e; exact absurd e (by decide)), if_neg (fun e => by have := e.1; rw [h] at this; exact absurd this (by decide))]
theorem Ec.le (hZ : TZ μ ζ) (hR : RvO μ ζ ρ) (h : Ec μ ζ ρ t c) : c ≤ (ζ.1 60).toInt.toNat + 2 := by
  by_cases cc : c ≤ (ζ.1 60).toInt.toNat + 2
  · exact cc
  obtain ⟨h1, h2⟩ := h
  have hch : ∀ i, ∃ k : Nat, i ≤ (ζ.1 60).toInt.toNat → (k : Int) < (ζ.1 60).toInt ∧ ((ζ.2.1 20 (ζ.2.1 61 k).toNatClampNeg = 4 ∧ waF ζ ρ t (i + 1) = ζ.2.1 61 k) ∨ (ζ.2.1 20 (ζ.2.1 61 k).toNatClampNeg = 3 ∧ waF ζ ρ t (i + 1) = ζ.2.1 23 (ζ.2.1 61 k).toNatClampNeg)) := fun i => by
    by_cases ci : i ≤ (ζ.1 60).toInt.toNat
    · obtain ⟨a1, -⟩ := h1 i (by omega)
      obtain ⟨b1, b2⟩ := h1 (i + 1) (by omega)
      obtain ⟨c1, -⟩ := h1 (i + 2) (by omega)
      rcases wa_told hZ hR a1 b1.in.1 b2 with e | ⟨k, hk⟩
      · have e2 : waF ζ ρ t (i + 2) = -1 := wa_root (x := waF ζ ρ t (i + 1)) e
        have := c1.in.1
        rw [e2] at this
        exact absurd this (by decide)
      · exact ⟨k, fun _ => hk⟩
    · exact ⟨0, fun h => absurd h ci⟩
  obtain ⟨f, hf⟩ := Classical.skolem.mp hch
  have h60 := hZ.1.2.1.2.2.2.1.2.2.1
  obtain ⟨i, j, i1, i2, i3⟩ := two_alike (ζ.1 60).toInt.toNat f (fun i hi => by have := (hf i hi).1; omega)
  obtain ⟨-, p1⟩ := hf i (by omega)
  obtain ⟨-, p2⟩ := hf j (by omega)
  rw [← i3] at p2
  have ne := h2 (i + 1) (j + 1) (by omega) (by omega)
  rcases p1 with ⟨k1, e1⟩ | ⟨k1, e1⟩ <;> rcases p2 with ⟨k2, e2⟩ | ⟨k2, e2⟩
  · exact absurd (e1.trans e2.symm) ne
  · rw [k1] at k2; exact absurd k2 (by decide)
  · rw [k1] at k2; exact absurd k2 (by decide)
  · exact absurd (e1.trans e2.symm) ne
theorem wc_17 (hZ : TZ μ ζ) (hR : RvO μ ζ ρ) (hd : 5 ≤ d) : ∀ (n c : Nat) (ν : MS), (ζ.1 60).toInt.toNat + 2 - c ≤ n → TF ζ ν → ν.2.1 72 = ρ → kf [74, 76] [75, 78] ν0 ν → ν.1 76 = ν0.1 76 + 1 → Ec μ ζ ρ t c → CnR ζ ρ t c ν → (∀ k, k < c → ν.2.1 78 (waF ζ ρ t k).toNatClampNeg = ν.1 76) → (∀ j, ν.2.1 78 j = ν0.2.1 78 j ∨ ∃ k, k < c ∧ (waF ζ ρ t k).toNatClampNeg = j) → (waF ζ ρ t c = -1 ∨ RT μ ζ (waF ζ ρ t c)) →
    ME X W true d 386 17 [(0, .ref P.1), (1, .int t), (2, .int (waF ζ ρ t c))] [] P ν (fun _ ν1 => TF ζ ν1 ∧ kf [74, 76] [75, 78] ν0 ν1 ∧ ν1.1 76 = ν0.1 76 + 1 ∧ ∃ c, Ec μ ζ ρ t c ∧ CnR ζ ρ t c ν1 ∧ EcE μ ζ ρ t c ν0) T := by
  have hB := hZ.1
  intro n
  induction n with
  | zero =>
    intro c ν hn hF h72 hk h76 hE hC hM hO hz
    have hle := hE.le hZ hR
    have end' : EcE μ ζ ρ t c ν0 → TF ζ ν ∧ kf [74, 76] [75, 78] ν0 ν ∧ ν.1 76 = ν0.1 76 + 1 ∧ ∃ c, Ec μ ζ ρ t c ∧ CnR ζ ρ t c ν ∧ EcE μ ζ ρ t c ν0 := fun h => ⟨hF, hk, h76, c, hE, hC, h⟩
    refine v_wholeChain_17 _ _ ⟨fun h => end' ?_, fun h => ?_⟩
    · rcases hz with e | e
      · exact Or.inl e
      · have := e.in.1; omega
    have hz := hz.resolve_left (fun e => by rw [e] at h; exact absurd h (by decide))
    refine MC.mono (c_isObject hF (by omega) (hz.mi hB hF rfl rfl)) (fun r κ hκ => ?_) (fun _ h => h)
    obtain ⟨e1, e2⟩ := hκ
    have e1 := e1.symm
    subst e1
    refine ⟨fun h0 => end' (Or.inr ⟨hz, Or.inl (obV_z (by rw [← e2]; exact h0))⟩), fun h0 => ⟨hz.mi hB hF rfl rfl, fun hm => end' (Or.inr ⟨hz, Or.inr ?_⟩), fun hm => ?_⟩⟩
    · rcases hO (waF ζ ρ t c).toNatClampNeg with h | h
      · exact Or.inr (by rw [← h, hm]; exact h76)
      · exact Or.inl h
    · exfalso
      have hE' : Ec μ ζ ρ t (c + 1) := ⟨fun i hi => by
        by_cases ci : i < c
        · exact hE.1 i ci
        · rw [show i = c by omega]; exact ⟨hz, obV_n (by rw [← e2]; exact h0)⟩, fun i j hij hj => by
        by_cases cj : j < c
        · exact hE.2 i j hij cj
        · intro he
          rw [show j = c by omega] at he
          exact hm (by rw [← he]; exact hM i (by omega))⟩
      have := hE'.le hZ hR
      omega
  | succ n ih =>
    intro c ν hn hF h72 hk h76 hE hC hM hO hz
    have hle := hE.le hZ hR
    have h60 := hZ.2.2.2.2.1
    have end' : EcE μ ζ ρ t c ν0 → TF ζ ν ∧ kf [74, 76] [75, 78] ν0 ν ∧ ν.1 76 = ν0.1 76 + 1 ∧ ∃ c, Ec μ ζ ρ t c ∧ CnR ζ ρ t c ν ∧ EcE μ ζ ρ t c ν0 := fun h => ⟨hF, hk, h76, c, hE, hC, h⟩
    refine v_wholeChain_17 _ _ ⟨fun h => end' ?_, fun h => ?_⟩
    · rcases hz with e | e
      · exact Or.inl e
      · have := e.in.1; omega
    have hz := hz.resolve_left (fun e => by rw [e] at h; exact absurd h (by decide))
    refine MC.mono (c_isObject hF (by omega) (hz.mi hB hF rfl rfl)) (fun r κ hκ => ?_) (fun _ h => h)
    obtain ⟨e1, e2⟩ := hκ
    have e1 := e1.symm
    subst e1
    refine ⟨fun h0 => end' (Or.inr ⟨hz, Or.inl (obV_z (by rw [← e2]; exact h0))⟩), fun h0 => ⟨hz.mi hB hF rfl rfl, fun hm => end' (Or.inr ⟨hz, Or.inr ?_⟩), fun hm => ?_⟩⟩
    · rcases hO (waF ζ ρ t c).toNatClampNeg with h | h
      · exact Or.inr (by rw [← h, hm]; exact h76)
      · exact Or.inl h
    · have hE' : Ec μ ζ ρ t (c + 1) := ⟨fun i hi => by
        by_cases ci : i < c
        · exact hE.1 i ci
        · rw [show i = c by omega]; exact ⟨hz, obV_n (by rw [← e2]; exact h0)⟩, fun i j hij hj => by
        by_cases cj : j < c
        · exact hE.2 i j hij cj
        · intro he
          rw [show j = c by omega] at he
          exact hm (by rw [← he]; exact hM i (by omega))⟩
      have hle' := hE'.le hZ hR
      obtain ⟨c74, hC2⟩ := hC
      have i74 := @ic (ν.1 74)
      have m75 : MI (ν.1 74) (ν.2.2 75) := MI.of ((hF.1.2.2).g rfl rfl : _ = 3200) (by omega) (by omega)
      obtain ⟨ν', eν⟩ : ∃ ν' : MS, ν' = mS1 (mA1 (mA1 ν 78 (waF ζ ρ t c).toNatClampNeg (ν.1 76)) 75 (ν.1 74).toNatClampNeg (waF ζ ρ t c)) 74 (ν.1 74 + 1) := ⟨_, rfl⟩
      refine ⟨hz.mi hB hF rfl rfl, m75, ?_⟩
      rw [← eν]
      have k0 : kf [74] [75, 78] ν ν' := by rw [eν]; exact ((kf.rf.A rfl).A rfl).S rfl
      have hF' : TF ζ ν' := hF.kf k0 rfl rfl
      have e78 : ν'.2.1 78 = upd (ν.2.1 78) (waF ζ ρ t c).toNatClampNeg (ν.1 76) := by rw [eν]; rfl
      have e75 : ν'.2.1 75 = upd (ν.2.1 75) (ν.1 74).toNatClampNeg (waF ζ ρ t c) := by rw [eν]; rfl
      have e74 : (ν'.1 74).toInt = (c + 1 : Nat) := by
        rw [eν]
        show (ν.1 74 + 1).toInt = _
        rw [ia1 (by omega), c74]; rfl
      have e76 : ν'.1 76 = ν.1 76 := k0.1 76 rfl
      have r72 : ν'.2.1 72 = ρ := by rw [k0.2.1 72 rfl]; exact h72
      refine MC.mono (c_wholeAbove hZ hF' r72 hR hd hz) (fun r κ hκ => ?_) (fun _ h => h)
      obtain ⟨g1, g2, g3⟩ := hκ
      have g1 := g1.symm
      subst g1
      have g4 : r = waF ζ ρ t (c + 1) := g2
      rw [g4] at g3 ⊢
      refine ih (c + 1) ν' (by omega) hF' r72 (hk.tr (k0.up rfl rfl)) (by rw [e76]; exact h76) hE' ⟨e74, fun k hk => ?_⟩ (fun k hk => ?_) (fun j => ?_) g3
      · rw [e75]
        by_cases ck : k < c
        · rw [upd_off (by omega)]; exact hC2 k ck
        · rw [show k = (ν.1 74).toNatClampNeg by omega, upd_at, show (ν.1 74).toNatClampNeg = c by omega]
      · rw [e78, e76]
        by_cases ck : k < c
        · by_cases ce : (waF ζ ρ t k).toNatClampNeg = (waF ζ ρ t c).toNatClampNeg
          · rw [ce, upd_at]
          · rw [upd_off ce]; exact hM k ck
        · rw [show k = c by omega, upd_at]
      · rw [e78]
        by_cases cj : j = (waF ζ ρ t c).toNatClampNeg
        · exact Or.inr ⟨c, by omega, cj.symm⟩
        · rw [upd_off cj]
          exact (hO j).imp id (fun ⟨k, k1, k2⟩ => ⟨k, by omega, k2⟩)
theorem c_wholeChain (hZ : TZ μ ζ) (hF : TF ζ ν) (h72 : ν.2.1 72 = ρ) (hR : RvO μ ζ ρ) (hd : 6 ≤ d) (hx : RT μ ζ t) : MC X W true d 386 [.ref P.1, .int t] P ν (fun _ ν1 => TF ζ ν1 ∧ kf [74, 76] [75, 78] ν ν1 ∧ ν1.1 76 = ν.1 76 + 1 ∧ ∃ c, Ec μ ζ ρ t c ∧ CnR ζ ρ t c ν1 ∧ EcE μ ζ ρ t c ν) T := by
  have k0 : kf [74, 76] [75, 78] ν (mS1 (mS1 ν 74 0) 76 (ν.1 76 + 1)) := (kf.rf.S rfl).S rfl
  exact me_meth (by omega) rfl (v_wholeChain_0 _ (wc_17 (t := t) hZ hR (by omega) ((ζ.1 60).toInt.toNat + 2) 0 _ (by omega) (hF.kf k0 rfl rfl) h72 k0 rfl ⟨fun i hi => by omega, fun i j _ hj => by omega⟩ ⟨rfl, fun k hk => by omega⟩ (fun k hk => by omega) (fun j => Or.inl rfl) (Or.inr hx)))
/-- what placeIn answers -/
def PiR (μ ζ : MS) (ρ : Nat → Int32) (t y : Int32) (ν0 : MS) (r : Int32) (ν1 : MS) : Prop := (TF ζ ν1 ∧ JK ζ ν1 ∧ kf PFs PFr ν0 ν1) ∧ (r = -1 ∨ (0 ≤ r.toInt ∧ El μ ζ ρ t r.toNatClampNeg ∧ Alk ζ (waF ζ ρ t r.toNatClampNeg) y))
theorem pi_7 (hZ : TZ μ ζ) (hd : 8 ≤ d) (hy : TQ μ ζ y) (hE : Ec μ ζ ρ t c) (hc : c ≤ 3102) : ∀ (n : Nat) (x3 : Int32) (ν : MS), 0 ≤ x3.toInt → (c : Int) - x3.toInt ≤ n → TF ζ ν → JK ζ ν → kf PFs PFr ν0 ν → CnR ζ ρ t c ν → ME X W true d 387 7 [(0, .ref P.1), (1, .int t), (2, .int y), (3, .int x3)] [] P ν (PiR μ ζ ρ t y ν0) T := by
  have hB := hZ.1
  intro n
  induction n with
  | zero =>
    intro x3 ν h0 hn hF hK hk hC
    exact v_placeIn_7 _ _ _ ⟨fun _ => ⟨⟨hF, hK, hk⟩, Or.inl rfl⟩, fun h => by have := hC.1; omega⟩
  | succ n ih =>
    intro x3 ν h0 hn hF hK hk hC
    have i3 := @ic x3
    refine v_placeIn_7 _ _ _ ⟨fun _ => ⟨⟨hF, hK, hk⟩, Or.inl rfl⟩, fun h => ?_⟩
    have c74 := hC.1
    have hlt : x3.toNatClampNeg < c := by omega
    refine ⟨MI.of ((hF.1.2.2).g rfl rfl : _ = 3200) h0 (by omega), ?_⟩
    rw [hC.2 _ hlt]
    refine MC.mono (c_alike hZ hF hK hd (hE.1 _ hlt).1.tq hy) (fun r κ hκ => ?_) (fun _ h => h)
    obtain ⟨-, g2, g3, g4, g5⟩ := hκ
    have hk' : kf PFs PFr ν0 κ := hk.tr (g4.up rfl rfl)
    refine ⟨fun _ => ?_, fun hr => ⟨⟨g2, g3, hk'⟩, Or.inr ⟨h0, fun i hi => hE.1 i (by omega), g5 hr⟩⟩⟩
    have e3 : (x3 + 1).toInt = x3.toInt + 1 := ia1 (by omega)
    exact ih (x3 + 1) κ (by omega) (by omega) g2 g3 hk' ⟨by rw [g4.1 74 rfl]; exact hC.1, fun k hk => by rw [g4.2.1 75 rfl]; exact hC.2 k hk⟩
theorem c_placeIn (hZ : TZ μ ζ) (hF : TF ζ ν) (hK : JK ζ ν) (h72 : ν.2.1 72 = ρ) (hR : RvO μ ζ ρ) (hd : 9 ≤ d) (hx : RT μ ζ t) (hy : TQ μ ζ y) : MC X W true d 387 [.ref P.1, .int t, .int y] P ν (PiR μ ζ ρ t y ν) T := by
  refine me_meth (by omega) rfl (v_placeIn_0 _ _ (MC.mono (c_wholeChain hZ hF h72 hR (by omega) hx) (fun r κ hκ => ?_) (fun _ h => h)))
  obtain ⟨g1, g2, -, c, g3, g4, -⟩ := hκ
  have := g3.le hZ hR
  have h60 := hZ.2.2.2.2.1
  exact pi_7 hZ (by omega) hy g3 (by omega) c 0 κ (by decide) (by show (c : Int) - 0 ≤ c; omega) g1 (hK.eq (g2.2.1 66 rfl) (fun k _ => by rw [g2.2.1 68 rfl]) (g2.1 67 rfl)) (g2.up rfl rfl) g4
end NNAH
