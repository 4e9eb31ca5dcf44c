/-! contracts of the reference: joining on trial -/
/-- while pairs are left -/
def JL (μ ζ : MS) (pw : Nat → Nat) (Q0 : Int32 → Int32 → Prop) (ν0 ν : MS) : Prop := TF ζ ν ∧ JX ν0 ν ∧ JM ζ ν ∧ JA ζ ν (PdN ν) ∧ (0 ≤ (ν.1 69).toInt ∧ ∀ k : Nat, (k : Int) < (ν.1 69).toInt → TQ μ ζ (ν.2.1 70 k) ∧ TQ μ ζ (ν.2.1 71 k)) ∧ (∀ p q, Q0 p q → Sm ζ ν p q ∨ PdN ν p q) ∧ ∃ l : List Nat, l.Nodup ∧ (∀ j, j ∈ l → ∃ k : Nat, (k : Int) < (ν.1 67).toInt ∧ (ν.2.1 68 k).toNatClampNeg = j) ∧ (ν.1 69).toInt ≤ 3001 + ((l.map pw).sum : Nat)
/-- what joining answers -/
def JR (ζ : MS) (Q0 : Int32 → Int32 → Prop) (ν0 : MS) (r : Int32) (ν1 : MS) : Prop := (r = 0 ∨ r = 1) ∧ TF ζ ν1 ∧ JX ν0 ν1 ∧ JM ζ ν1 ∧ (¬ r = 0 → JK ζ ν1 ∧ ∀ p q, Q0 p q → Sm ζ ν1 p q)
section NNAE
variable {X : ev_X} {W : Nat → Prop} {d : Nat} {P : MP} {μ ν ν0 ν1 κ ζ : MS} {T : MS → Prop} {x y p q a b s t r r1 r2 : Int32} {pw fw : Nat → Nat} {R Q Q0 : Int32 → Int32 → Prop} {n m : Nat}
theorem rt_off (hb : (ν.2.1 66 b.toNatClampNeg).toInt < 0) (hr : ¬ r.toNatClampNeg = b.toNatClampNeg) : ∀ {n : Nat} {x : Int32}, Rt ν n x r → Rt (joS ν a b) n x r
  | 0, x, h => by
    refine ⟨h.1, ?_⟩
    show (upd (ν.2.1 66) b.toNatClampNeg a r.toNatClampNeg).toInt < 0
    rw [upd_off hr]; exact h.2
  | n + 1, x, h => by
    have ne : ¬ x.toNatClampNeg = b.toNatClampNeg := fun e => by have := h.1; rw [e] at this; omega
    have e : (joS ν a b).2.1 66 x.toNatClampNeg = ν.2.1 66 x.toNatClampNeg := by
      show upd (ν.2.1 66) b.toNatClampNeg a x.toNatClampNeg = _
      exact upd_off ne
    refine ⟨by rw [e]; exact h.1, ?_⟩
    rw [e]; exact rt_off hb hr h.2
theorem rt_on (hb : (ν.2.1 66 b.toNatClampNeg).toInt < 0) (ha : (ν.2.1 66 a.toNatClampNeg).toInt < 0) (a0 : 0 ≤ a.toInt) (hab : ¬ a.toNatClampNeg = b.toNatClampNeg) (hr : r.toNatClampNeg = b.toNatClampNeg) : ∀ {n : Nat} {x : Int32}, Rt ν n x r → ∃ n', Rt (joS ν a b) n' x a
  | 0, x, h => by
    have e : (joS ν a b).2.1 66 x.toNatClampNeg = a := by
      show upd (ν.2.1 66) b.toNatClampNeg a x.toNatClampNeg = _
      rw [h.1, hr]; exact upd_at
    refine ⟨1, by rw [e]; exact a0, ?_⟩
    rw [e]
    refine ⟨rfl, ?_⟩
    show (upd (ν.2.1 66) b.toNatClampNeg a a.toNatClampNeg).toInt < 0
    rw [upd_off hab]; exact ha
  | n + 1, x, h => by
    have ne : ¬ x.toNatClampNeg = b.toNatClampNeg := fun e => by have := h.1; rw [e] at this; omega
    have e : (joS ν a b).2.1 66 x.toNatClampNeg = ν.2.1 66 x.toNatClampNeg := by
      show upd (ν.2.1 66) b.toNatClampNeg a x.toNatClampNeg = _
      exact upd_off ne
    obtain ⟨n', hn⟩ := rt_on hb ha a0 hab hr h.2
    exact ⟨n' + 1, by rw [e]; exact h.1, by rw [e]; exact hn⟩
theorem Sm.jo (hb : (ν.2.1 66 b.toNatClampNeg).toInt < 0) (ha : (ν.2.1 66 a.toNatClampNeg).toInt < 0) (a0 : 0 ≤ a.toInt) (hab : ¬ a.toNatClampNeg = b.toNatClampNeg) (h : Sm ζ ν p q) : Sm ζ (joS ν a b) p q := by
  obtain ⟨h0, r, n, m, h3, h4⟩ := h
  by_cases c : r.toNatClampNeg = b.toNatClampNeg
  · obtain ⟨n', h3⟩ := rt_on hb ha a0 hab c h3
    obtain ⟨m', h4⟩ := rt_on hb ha a0 hab c h4
    exact ⟨h0, a, n', m', h3, h4⟩
  · exact ⟨h0, r, n, m, rt_off hb c h3, rt_off hb c h4⟩
theorem Rt.eq (h66 : ν1.2.1 66 = ν.2.1 66) : ∀ {n : Nat} {x : Int32}, Rt ν n x r → Rt ν1 n x r
  | 0, _, h => ⟨h.1, by rw [h66]; exact h.2⟩
  | _ + 1, _, h => ⟨by rw [h66]; exact h.1, by rw [h66]; exact Rt.eq h66 h.2⟩
theorem Sm.eq (h66 : ν1.2.1 66 = ν.2.1 66) (h : Sm ζ ν p q) : Sm ζ ν1 p q := by
  obtain ⟨h0, r, n, m, h3, h4⟩ := h
  exact ⟨h0, r, n, m, h3.eq h66, h4.eq h66⟩
theorem JM.eq (h66 : ν1.2.1 66 = ν.2.1 66) (h68 : ∀ k : Nat, (k : Int) < (ν.1 67).toInt → ν1.2.1 68 k = ν.2.1 68 k) (h67 : ν1.1 67 = ν.1 67) (h : JM ζ ν) : JM ζ ν1 := by
  obtain ⟨h1, h2, h3⟩ := h
  unfold JM
  rw [h66, h67]
  refine ⟨h1, fun j hj => (h2 j hj).imp id (fun ⟨k, k1, k2⟩ => ⟨k, k1, by rw [h68 k k1]; exact k2⟩), fun k hk => ?_⟩
  rw [h68 k hk]
  obtain ⟨a1, a2, a3, a4⟩ := h3 k hk
  exact ⟨a1, a2, fun i hi e => a3 i hi (by rw [← h68 i hi]; exact e), fun i hi e => a4 i hi (by rw [← h68 i hi]; exact e)⟩
theorem JA.eq (h66 : ν1.2.1 66 = ν.2.1 66) (h68 : ∀ k : Nat, (k : Int) < (ν.1 67).toInt → ν1.2.1 68 k = ν.2.1 68 k) (h67 : ν1.1 67 = ν.1 67) (hq : ∀ p q, Q p q → Sm ζ ν1 p q ∨ R p q) (h : JA ζ ν Q) : JA ζ ν1 R := fun k hk => by
  rw [h67] at hk
  rw [h66, h68 k hk]
  exact (h k hk).mono (fun p q hpq => hpq.elim (fun g => Or.inl (g.eq h66)) (hq p q))
theorem JK.eq (h66 : ν1.2.1 66 = ν.2.1 66) (h68 : ∀ k : Nat, (k : Int) < (ν.1 67).toInt → ν1.2.1 68 k = ν.2.1 68 k) (h67 : ν1.1 67 = ν.1 67) (h : JK ζ ν) : JK ζ ν1 := ⟨h.1.eq h66 h68 h67, h.2.eq h66 h68 h67 (fun _ _ h => h.elim)⟩
theorem JM.at (h : JM ζ ν) {k : Nat} (hk : (k : Int) < (ν.1 67).toInt) : 0 ≤ (ν.2.1 66 (ν.2.1 68 k).toNatClampNeg).toInt := (h.2.2 k hk).1.2.in.1
theorem TB.n0 (hB : TB μ ζ) : 0 ≤ (ζ.1 19).toInt := by
  obtain ⟨N, -, -, -, ⟨n0, n1, -⟩, -⟩ := hB.1
  rw [hB.2.1.1.1 19 rfl]
  omega
theorem JM.le (h : JM ζ ν) (hB : TB μ ζ) : (ν.1 67).toInt ≤ (ζ.1 19).toInt := by
  by_cases c : (ν.1 67).toInt ≤ (ζ.1 19).toInt
  · exact c
  have c0 := hB.n0
  obtain ⟨h1, h2, h3⟩ := h
  obtain ⟨i, j, i1, i2, i3⟩ := two_alike (ζ.1 19).toInt.toNat (fun i => (ν.2.1 68 i).toNatClampNeg) (fun i hi => by
    obtain ⟨⟨a, -⟩, -⟩ := h3 i (by omega)
    have := a.in
    have := @ic (ν.2.1 68 i)
    show (ν.2.1 68 i).toNatClampNeg < _
    omega)
  have i3 : (ν.2.1 68 i).toNatClampNeg = (ν.2.1 68 j).toNatClampNeg := i3
  obtain ⟨⟨ai, -⟩, -⟩ := h3 i (by omega)
  obtain ⟨⟨aj, -⟩, -, -, u⟩ := h3 j (by omega)
  have c1 := @ic (ν.2.1 68 i)
  have c2 := @ic (ν.2.1 68 j)
  have := ai.in
  have := aj.in
  have := u i (by omega) (i_eq (by omega))
  omega
theorem JM.jo (h : JM ζ ν) (hB : TB μ ζ) (na : Nd ζ 0 a) (nb : Nd ζ 0 b) (ek : ζ.2.1 20 a.toNatClampNeg = ζ.2.1 20 b.toNatClampNeg) (k20 : ¬ ζ.2.1 20 b.toNatClampNeg = 20) (hb : (ν.2.1 66 b.toNatClampNeg).toInt < 0) (ha : (ν.2.1 66 a.toNatClampNeg).toInt < 0) (hab : ¬ a = b) : JM ζ (joS ν a b) := by
  have hle := h.le hB
  have h16 := hB.n16
  have at0 : ∀ k : Nat, (k : Int) < (ν.1 67).toInt → 0 ≤ (ν.2.1 66 (ν.2.1 68 k).toNatClampNeg).toInt := fun k hk => h.at hk
  obtain ⟨h1, h2, h3⟩ := h
  have ca := @ic a
  have cb := @ic b
  have c67 := @ic (ν.1 67)
  have ia := na.in
  have ib := nb.in
  have e66 : (joS ν a b).2.1 66 = upd (ν.2.1 66) b.toNatClampNeg a := rfl
  have e68 : (joS ν a b).2.1 68 = upd (ν.2.1 68) (ν.1 67).toNatClampNeg b := rfl
  have e67 : ((joS ν a b).1 67).toInt = (ν.1 67).toInt + 1 := by
    show (ν.1 67 + 1).toInt = _
    exact ia1 (by omega)
  have old : ∀ k : Nat, (k : Int) < (ν.1 67).toInt → (joS ν a b).2.1 68 k = ν.2.1 68 k := fun k hk => by rw [e68]; exact upd_off (by omega)
  have new : (joS ν a b).2.1 68 (ν.1 67).toNatClampNeg = b := by rw [e68]; exact upd_at
  have offb : ∀ k : Nat, (k : Int) < (ν.1 67).toInt → ¬ (ν.2.1 68 k).toNatClampNeg = b.toNatClampNeg := fun k hk e => by have := at0 k hk; rw [e] at this; omega
  have o66 : ∀ k : Nat, (k : Int) < (ν.1 67).toInt → (joS ν a b).2.1 66 (ν.2.1 68 k).toNatClampNeg = ν.2.1 66 (ν.2.1 68 k).toNatClampNeg := fun k hk => by rw [e66]; exact upd_off (offb k hk)
  have nb66 : (joS ν a b).2.1 66 b.toNatClampNeg = a := by rw [e66]; exact upd_at
  refine ⟨by omega, fun j hj => ?_, fun k hk => ?_⟩
  · by_cases c : j = b.toNatClampNeg
    · exact Or.inr ⟨(ν.1 67).toNatClampNeg, by omega, by rw [new]; exact c.symm⟩
    · rcases h2 j hj with e | ⟨k, k1, k2⟩
      · exact Or.inl (by rw [e66, upd_off c]; exact e)
      · exact Or.inr ⟨k, by omega, by rw [old k k1]; exact k2⟩
  · by_cases c : (k : Int) < (ν.1 67).toInt
    · rw [old k c, o66 k c]
      obtain ⟨a1, a2, a3, a4⟩ := h3 k c
      refine ⟨a1, a2, fun i hi e => ?_, fun i hi e => ?_⟩
      · by_cases ci : (i : Int) < (ν.1 67).toInt
        · rw [old i ci] at e; exact a3 i ci e
        · omega
      · by_cases ci : (i : Int) < (ν.1 67).toInt
        · rw [old i ci] at e; exact a4 i ci e
        · rw [show i = (ν.1 67).toNatClampNeg by omega, new] at e
          exact absurd (by rw [e]) (offb k c)
    · have ekk : k = (ν.1 67).toNatClampNeg := by omega
      subst ekk
      rw [new, nb66]
      refine ⟨⟨nb, na⟩, ⟨ek, k20⟩, fun i hi e => ?_, fun i hi e => ?_⟩
      · by_cases ci : (i : Int) < (ν.1 67).toInt
        · rw [old i ci] at e
          have := at0 i ci
          rw [← e] at this
          omega
        · rw [show i = (ν.1 67).toNatClampNeg by omega, new] at e
          exact absurd e hab
      · by_cases ci : (i : Int) < (ν.1 67).toInt
        · rw [old i ci] at e
          exact absurd (by rw [e]) (offb i ci)
        · omega
theorem JX.jo (h : JX ν0 ν) (hM : JM ζ ν) (hB : TB μ ζ) (nb : Nd ζ 0 b) (hb : (ν.2.1 66 b.toNatClampNeg).toInt < 0) : JX ν0 (joS ν a b) := by
  have hle := hM.le hB
  have h16 := hB.n16
  obtain ⟨x1, x2, x3, x4, x5⟩ := h
  have at0 : ∀ k : Nat, (k : Int) < (ν.1 67).toInt → 0 ≤ (ν.2.1 66 (ν.2.1 68 k).toNatClampNeg).toInt := fun k hk => hM.at hk
  obtain ⟨h1, h2, h3⟩ := hM
  have cb := @ic b
  have c67 := @ic (ν.1 67)
  have ib := nb.in
  have e66 : (joS ν a b).2.1 66 = upd (ν.2.1 66) b.toNatClampNeg a := rfl
  have e68 : (joS ν a b).2.1 68 = upd (ν.2.1 68) (ν.1 67).toNatClampNeg b := rfl
  have e67 : ((joS ν a b).1 67).toInt = (ν.1 67).toInt + 1 := by
    show (ν.1 67 + 1).toInt = _
    exact ia1 (by omega)
  have old : ∀ k : Nat, (k : Int) < (ν.1 67).toInt → (joS ν a b).2.1 68 k = ν.2.1 68 k := fun k hk => by rw [e68]; exact upd_off (by omega)
  have new : (joS ν a b).2.1 68 (ν.1 67).toNatClampNeg = b := by rw [e68]; exact upd_at
  have offb : ∀ k : Nat, (k : Int) < (ν.1 67).toInt → ¬ (ν.2.1 68 k).toNatClampNeg = b.toNatClampNeg := fun k hk e => by have := at0 k hk; rw [e] at this; omega
  refine ⟨((x1.A rfl).A rfl).S rfl, by omega, fun k hk => ?_, fun k k1 k2 => ?_, fun j hj => ?_⟩
  · rw [old k (by omega)]; exact x3 k hk
  · by_cases c : (k : Int) < (ν.1 67).toInt
    · rw [old k c]; exact x4 k k1 c
    · rw [show k = (ν.1 67).toNatClampNeg by omega, new, ← x5 _ (fun k _ hk => offb k hk)]
      rcases h2 b.toNatClampNeg (by omega) with e | ⟨k, k1, k2⟩
      · exact e
      · exact absurd k2 (offb k k1)
  · have hjb := hj (ν.1 67).toNatClampNeg (by omega) (by omega)
    rw [new] at hjb
    rw [e66, upd_off (fun e => hjb e.symm)]
    refine x5 j (fun k k1 k2 => ?_)
    have := hj k k1 (by omega)
    rw [old k k2] at this
    exact this
theorem JX.px (h : JX ν0 ν) (g : PrX ζ ν ν1) : JX ν0 ν1 := by
  obtain ⟨x1, x2, x3, x4, x5⟩ := h
  have e66 : ν1.2.1 66 = ν.2.1 66 := g.1.2.1 66 rfl
  have e68 : ν1.2.1 68 = ν.2.1 68 := g.1.2.1 68 rfl
  have e67 : ν1.1 67 = ν.1 67 := g.1.1 67 rfl
  unfold JX
  rw [e66, e68, e67]
  exact ⟨x1.tr (g.1.up rfl rfl), x2, x3, x4, x5⟩
theorem cm_2 (hB : TB μ ζ) (hF : TF ζ ν) (hJ : JM ζ ν) : ∀ (n : Nat) (z : Int32), RT μ ζ z → ζ.2.1 20 z.toNatClampNeg = ζ.2.1 20 x.toNatClampNeg → (∀ k : Nat, (k : Int) < (ν.1 67).toInt → (ν.2.1 68 k).toNatClampNeg = z.toNatClampNeg → (ν.1 67).toInt - k ≤ n) → ME X W true d 369 2 [(0, .ref P.1), (1, .int x), (2, .int z)] [] P ν (fun r ν1 => ν1 = ν ∧ RT μ ζ r ∧ ζ.2.1 20 r.toNatClampNeg = ζ.2.1 20 x.toNatClampNeg ∧ ∃ m, Rt ν m z r) T
  | n, z, hz, hk, hn => by
    have hzi := hz.in
    have hcz := @ic z
    have m66 : MI z (ν.2.2 66) := hz.mi hB hF rfl rfl
    refine v_classOf_2 _ _ ⟨m66, fun h => ⟨rfl, hz, hk, 0, rfl, h⟩, fun h => ⟨m66, ?_⟩⟩
    rcases hJ.2.1 z.toNatClampNeg (by omega) with e | ⟨k, k1, k2⟩
    · rw [e] at h; exact absurd h (by decide)
    obtain ⟨⟨a1, a2⟩, ⟨a3, a4⟩, a5, -⟩ := hJ.2.2 k k1
    have hb := hn k k1 k2
    rw [k2] at a2 a3 a4 a5
    cases n with
    | zero => omega
    | succ n =>
      refine ME.mono (cm_2 hB hF hJ n _ (Or.inl ⟨a2, by rw [a3]; exact a4⟩) (a3.trans hk) (fun i i1 i2 => ?_)) (fun r ν1 hr => ?_) (fun _ h => h)
      · obtain ⟨⟨b1, -⟩, -⟩ := hJ.2.2 i i1
        have c1 := @ic (ν.2.1 68 i)
        have c2 := @ic (ν.2.1 66 z.toNatClampNeg)
        have d1 := b1.in.1
        have d2 := a2.in.1
        have e : ν.2.1 66 z.toNatClampNeg = ν.2.1 68 i := i_eq (by omega)
        have := a5 i i1 e
        omega
      · obtain ⟨r1, r2, r3, m, r4⟩ := hr
        exact ⟨r1, r2, r3, m + 1, h, r4⟩
theorem c_cls (hB : TB μ ζ) (hF : TF ζ ν) (hJ : JM ζ ν) (hd : 1 ≤ d) (hx : RT μ ζ x) : MC X W true d 369 [.ref P.1, .int x] P ν (fun r ν1 => ν1 = ν ∧ RT μ ζ r ∧ ζ.2.1 20 r.toNatClampNeg = ζ.2.1 20 x.toNatClampNeg ∧ ∃ m, Rt ν m x r) T :=
  me_meth hd rfl (v_classOf_0 _ (cm_2 hB hF hJ (ν.1 67).toInt.toNat x hx rfl (fun k _ _ => by omega)))
theorem c_realQ (hB : TB μ ζ) (hF : TF ζ ν) (hd : 4 ≤ d) (hx : TQ μ ζ x) : MC X W true d 365 [.ref P.1, .int x] P ν (fun r ν1 => ν1 = ν ∧ r = rlV ζ x ∧ RT μ ζ r) T := by
  rcases hx with hx | hx
  · exact c_real hB hF hd hx
  · have nk : ¬ ζ.2.1 20 x.toNatClampNeg = 20 := fun e => by rcases hx.2.1 with h | h <;> (rw [h] at e; exact absurd e (by decide))
    refine me_meth (by omega) rfl (v_real_0 _ (v_real_4 _ _ _ ⟨hx.mi hB hF rfl rfl, fun _ => ⟨rfl, ?_, Or.inr hx⟩, fun hk => ?_⟩))
    · show _ = if _ then _ else _
      rw [if_neg nk]
    · rw [hF.row (g := 20) rfl] at hk; exact absurd hk nk
theorem RT.tq (h : RT μ ζ x) : TQ μ ζ x := h.imp (fun h => h.1) id
end NNAE
