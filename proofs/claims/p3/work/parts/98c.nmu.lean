/-! contracts of the reference: a PROCEDURE's body named: what it says; FORMALs and local names under way -/
/-- so many links on -/
def Onl (nx : Nat → Int32) : Nat → Int32 → Int32 → Prop
  | 0, a, b => a = b
  | m + 1, a, b => 0 ≤ a.toInt ∧ Onl nx m (nx a.toNatClampNeg) b
theorem Onl.snoc {nx : Nat → Int32} : ∀ {m : Nat} {a b : Int32}, Onl nx m a b → 0 ≤ b.toInt → Onl nx (m + 1) a (nx b.toNatClampNeg)
  | 0, a, b, h, hb => by
    have h : a = b := h
    subst h
    exact ⟨hb, rfl⟩
  | m + 1, a, b, h, hb => ⟨h.1, Onl.snoc h.2 hb⟩
/-- one of the FORMALs of a PROCEDURE, or one of its local names -/
def Own (ν : MS) (p : Int32) (y : Nat) : Prop := (∃ m f, Onl (ν.2.1 27) m (ν.2.1 22 (ν.2.1 23 p.toNatClampNeg).toNatClampNeg) f ∧ 0 ≤ f.toInt ∧ f.toNatClampNeg = y) ∨ ∃ m l m' x, Onl (ν.2.1 27) m (ν.2.1 24 p.toNatClampNeg) l ∧ 0 ≤ l.toInt ∧ Onl (ν.2.1 27) m' (ν.2.1 22 l.toNatClampNeg) x ∧ 0 ≤ x.toInt ∧ x.toNatClampNeg = y
/-- a FORMAL and its variable -/
def FmP (ν : MS) (lo hi a b : Int) (f : Int32) : Prop := (0 ≤ f.toInt ∧ bt lo hi f.toNatClampNeg) ∧ ν.2.1 20 f.toNatClampNeg = 13 ∧ (ν.2.1 27 f.toNatClampNeg = -1 ∨ f.toInt < (ν.2.1 27 f.toNatClampNeg).toInt) ∧ VX ν (if ν.2.1 24 f.toNatClampNeg = 1 then 2 else 1) (ν.2.1 23 f.toNatClampNeg) (ν.2.1 28 f.toNatClampNeg) ∧ a ≤ (ν.2.1 28 f.toNatClampNeg).toInt ∧ (ν.2.1 28 f.toNatClampNeg).toInt < b
/-- a local name and its variable -/
def NmP (ν : MS) (t : Int32) (a b lo hi : Int) (x : Int32) : Prop := (0 ≤ x.toInt ∧ lo ≤ x.toInt ∧ x.toInt < hi) ∧ ν.2.1 20 x.toNatClampNeg = 10 ∧ VX ν 3 t (ν.2.1 28 x.toNatClampNeg) ∧ a ≤ (ν.2.1 28 x.toNatClampNeg).toInt ∧ (ν.2.1 28 x.toNatClampNeg).toInt < b
/-- a VAR of a PROCEDURE -/
def LcP (ν : MS) (h : Nat) (a b lo hi : Int) (l : Int32) : Prop := (0 ≤ l.toInt ∧ lo ≤ l.toInt ∧ l.toInt < hi) ∧ ν.2.1 20 l.toNatClampNeg = 7 ∧ NG ν h 0 (ν.2.1 23 l.toNatClampNeg) ∧ ∃ (c0 c1 : Int) (m : Nat), (l.toInt < c0 ∧ c1 ≤ hi) ∧ WL (fun lo hi _ x => NmP ν (ν.2.1 23 l.toNatClampNeg) a b lo hi x) (ν.2.1 27) m c0 c1 0 (ν.2.1 22 l.toNatClampNeg)
/-- a PROCEDURE with a body, named: its variables are those from a to b -/
def BdP (ν : MS) (h K : Nat) (p : Int32) (lo hi : Int) : Prop := ∃ c1 c2 c3 c4 a b : Int, (lo < c1 ∧ c1 ≤ c2 ∧ c2 ≤ c3 ∧ c3 ≤ c4 ∧ c4 ≤ hi) ∧ (0 ≤ a ∧ a ≤ b ∧ b ≤ (ν.1 52).toInt) ∧ (∃ m, Lst (FmP ν c1 c2 a b) (ν.2.1 27) m (ν.2.1 22 (ν.2.1 23 p.toNatClampNeg).toNatClampNeg)) ∧ (∃ m, WL (fun lo hi _ l => LcP ν h a b lo hi l) (ν.2.1 27) m c2 c3 0 (ν.2.1 24 p.toNatClampNeg)) ∧ (∀ v : Int32, a ≤ v.toInt → v.toInt < b → ∃ y, Own ν p y ∧ ((ν.2.1 20 y = 10 ∨ ν.2.1 20 y = 13) ∧ bt lo hi y) ∧ ν.2.1 28 y = v) ∧ BN ν h (fun v => a ≤ v.toInt ∧ v.toInt < b) K [] c3 c4 (ν.2.1 25 p.toNatClampNeg)
/-- under way: what was made so far belongs to nodes ahead of B, and all of it is seen -/
def StB (C : Nat → Prop) (μ : MS) (p : Int32) (a B : Int) (U : Nat) (ν : MS) : Prop := SF C μ ν ∧ ((ν.1 52).toInt ≤ a + U ∧ a ≤ (ν.1 52).toInt ∧ (ν.1 62).toInt = (ν.1 52).toInt - a) ∧ (∀ k : Nat, (k : Int) < (ν.1 62).toInt → a ≤ (ν.2.1 64 k).toInt ∧ (ν.2.1 64 k).toInt < (ν.1 52).toInt) ∧ (∀ v : Int32, a ≤ v.toInt → v.toInt < (ν.1 52).toInt → ∃ y, Own μ p y ∧ ((y : Int) < B ∧ (μ.2.1 20 y = 10 ∨ μ.2.1 20 y = 13) ∧ C y) ∧ ν.2.1 28 y = v) ∧ (NI μ → NI ν)
section NNA
variable {X : ev_X} {W : Nat → Prop} {d h K : Nat} {P : MP} {μ ν κ ζ : MS} {p : Int32} {a b B lo hi : Int} {U y : Nat} {C : Nat → Prop} {t k : Int32}
theorem SF.r13 (hN : SF C μ ν) {j : Nat} (hk : μ.2.1 20 j = 10 ∨ μ.2.1 20 j = 13) (hC : ¬ C j) : ν.2.1 28 j = μ.2.1 28 j := by
  rcases hN.2.2.2 j with ⟨-, -, e⟩ | ⟨e, -⟩ | ⟨e, -⟩ | ⟨e, -⟩
  · exact e
  · rw [e] at hk
    rcases hk with hk | hk <;> exact absurd hk (by decide)
  · exact absurd e hC
  · exact absurd e hC
theorem StB.mk (hS : StB C μ p a B U ν) (hM : MkP y k t ν κ) (hy : B ≤ y) (hO : Own μ p y) (hk : μ.2.1 20 y = 10 ∨ μ.2.1 20 y = 13) (hC : C y) : StB C μ p a (y + 1) (U + 1) κ := by
  obtain ⟨s1, ⟨s2, s3, s4⟩, s5, s6, s7⟩ := hS
  obtain ⟨m1, ⟨m2, m3⟩, m4, m5, ⟨m6, m7⟩, m8⟩ := hM
  have hc := @ic (ν.1 62)
  refine ⟨s1.tr (m1.sub (fun j hj => by rw [hj]; exact hC)), ⟨by omega, by omega, by omega⟩, fun i hi => ?_, fun v hv1 hv2 => ?_, fun hI => m8 (s7 hI)⟩
  · by_cases e : i = (ν.1 62).toNatClampNeg
    · rw [e, m7]
      exact ⟨by omega, by omega⟩
    · rw [(m6 i (by omega)).2]
      obtain ⟨w1, w2⟩ := s5 i (by omega)
      exact ⟨w1, by omega⟩
  · by_cases e : v.toInt < (ν.1 52).toInt
    · obtain ⟨z, z1, ⟨z2, z3, zC⟩, z4⟩ := s6 v hv1 e
      refine ⟨z, z1, ⟨by omega, z3, zC⟩, ?_⟩
      rw [m1.r13 (by rw [s1.row (g := 20) rfl]; exact z3) (fun e => by omega)]
      exact z4
    · exact ⟨y, hO, ⟨by omega, hk, hC⟩, i_eq (by omega)⟩
theorem StB.kf (hS : StB C μ p a B U ν) (hk : kf [17, 18] [] ν κ) (hf : ¬ ν.1 17 = 0 → ¬ κ.1 17 = 0) : StB C μ p a B U κ := by
  obtain ⟨s1, ⟨s2, s3, s4⟩, s5, s6, s7⟩ := hS
  have e52 : κ.1 52 = ν.1 52 := hk.1 52 rfl
  have e62 : κ.1 62 = ν.1 62 := hk.1 62 rfl
  have r : ∀ g, κ.2.1 g = ν.2.1 g := fun g => hk.2.1 g rfl
  have f : SF C ν κ := ⟨hk.up rfl rfl, hf, ⟨by rw [e52]; exact Int.le_refl _, fun v _ => ⟨by rw [r 53], by rw [r 54]⟩⟩, fun j => Or.inl ⟨by rw [r 24], by rw [r 26], by rw [r 28]⟩⟩
  refine ⟨s1.tr f, by rw [e52, e62]; exact ⟨s2, s3, s4⟩, fun i hi => ?_, fun v hv1 hv2 => ?_, fun hI => ?_⟩
  · rw [e62] at hi
    rw [r 64, e52]
    exact s5 i hi
  · rw [e52] at hv2
    rw [r 28]
    exact s6 v hv1 hv2
  · have := s7 hI
    unfold NI nK at this ⊢
    rw [r 20, r 28, e52, hk.1 19 rfl]
    exact this
theorem StB.up {B' : Int} {U' : Nat} (hS : StB C μ p a B U ν) (hB : B ≤ B') (hU : U ≤ U') : StB C μ p a B' U' ν := by
  obtain ⟨s1, ⟨s2, s3, s4⟩, s5, s6, s7⟩ := hS
  refine ⟨s1, ⟨by omega, s3, s4⟩, s5, fun v hv1 hv2 => ?_, s7⟩
  obtain ⟨z, z1, ⟨z2, z3, zC⟩, z4⟩ := s6 v hv1 hv2
  exact ⟨z, z1, ⟨by omega, z3, zC⟩, z4⟩
theorem StB.np {V : Int32 → Prop} {S : Nat → Prop} (hS : StB C μ p a B U ν) (hN : NF ν κ) : StB C μ p a B U κ := by
  obtain ⟨s1, ⟨s2, s3, s4⟩, s5, s6, s7⟩ := hS
  have hn : NP V S ν κ := hN.np
  have e52 : κ.1 52 = ν.1 52 := hN.1.1 52 rfl
  have e62 : κ.1 62 = ν.1 62 := hN.1.1 62 rfl
  have f : SF C ν κ := (hN.np (V := V) (S := fun _ => False)).sf.sub (fun _ h => h.elim)
  refine ⟨s1.tr f, by rw [e52, e62]; exact ⟨s2, s3, s4⟩, fun i hi => ?_, fun v hv1 hv2 => ?_, fun hI => hn.ni (s7 hI)⟩
  · rw [e62] at hi
    rw [hN.row (g := 64) rfl, e52]
    exact s5 i hi
  · rw [e52] at hv2
    obtain ⟨z, z1, z2, z4⟩ := s6 v hv1 hv2
    refine ⟨z, z1, z2, ?_⟩
    rcases hN.2.2 z with e | ⟨e, -⟩
    · rw [e]; exact z4
    · have e9 : μ.2.1 20 z = 11 := by rw [s1.row (g := 20) rfl] at e; exact e
      rw [e9] at z2
      rcases z2.2.1 with z | z <;> exact absurd z (by decide)
/-- names of the procedure that are the same: a FAULT at most -/
theorem loop130 {x1 x2 x3 x4 x5 : Int32} {R : Int32 → MS → Prop} {T : MS → Prop} (hd : 1 ≤ d) : ∀ (m : Nat) (x6 : Int32) (ν : MS), LRow ν.2.2 → 0 ≤ x6.toInt → (ν.1 62).toInt ≤ 3200 → (ν.1 62).toInt - x6.toInt ≤ m → (0 ≤ x5.toInt ∧ x5.toInt < 16000) → (∀ (κ : MS) (x6 : Int32), kf [17, 18] [] ν κ → (¬ ν.1 17 = 0 → ¬ κ.1 17 = 0) → (κ.1 62).toInt ≤ x6.toInt → ME X W true d 357 130 [(0, .ref P.1), (1, .int x1), (2, .int x2), (3, .int x3), (4, .int x4), (5, .int x5), (6, .int x6)] [] P κ R T) → ME X W true d 357 130 [(0, .ref P.1), (1, .int x1), (2, .int x2), (3, .int x3), (4, .int x4), (5, .int x5), (6, .int x6)] [] P ν R T
  | 0, x6, ν, hL, h6, h62, hm, h5, ct => ct ν x6 kf.rf id (by omega)
  | m + 1, x6, ν, hL, h6, h62, hm, h5, ct => by
    by_cases c : (ν.1 62).toInt ≤ x6.toInt
    · exact ct ν x6 kf.rf id c
    have e6 : (x6 + 1).toInt = x6.toInt + 1 := ia1 (by omega)
    refine v_nameBody_130 _ _ _ _ _ _ ⟨fun h => absurd h c, fun _ => ⟨MI.of (hL.g rfl rfl : _ = 3200) h6 (by omega), MI.of (hL.g rfl rfl : _ = 16000) h5.1 h5.2, fun _ => loop130 hd m _ ν hL (by omega) h62 (by omega) h5 ct, fun _ => ⟨MI.of (hL.g rfl rfl : _ = 16000) h5.1 h5.2, MC.mono (c_rule hd) (fun _ κ hk => ?_) (fun _ h => h)⟩⟩⟩
    obtain ⟨k1, k2⟩ := hk
    have k2 : ¬ κ.1 17 = 0 := k2.resolve_left (by decide)
    have e62 := eq_i (k1.1 62 rfl)
    exact loop130 hd m _ κ (hL.to k1) (by omega) (by omega) (by omega) h5 (fun κ2 x7 q1 q2 q3 => ct κ2 x7 (k1.tr q1) (fun _ => q2 k2) q3)
end NNA
