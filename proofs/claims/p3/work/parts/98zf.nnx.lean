/-! contracts of the reference: joins, areAlike, alikeFrom -/
section NNAF
variable {X : ev_X} {W : Nat → Prop} {d : Nat} {P : MP} {μ ν ν0 ν1 κ ζ : MS} {T : MS → Prop} {x y p q a b s t r r1 r2 : Int32} {pw fw : Nat → Nat} {R Q Q0 : Int32 → Int32 → Prop} {n m : Nat}
theorem nd_k4 (h : RT μ ζ a) (k4 : ¬ ζ.2.1 20 a.toNatClampNeg = 4) (k3 : ¬ ζ.2.1 20 a.toNatClampNeg = 3) : Nd ζ 0 a ∧ ¬ ζ.2.1 20 a.toNatClampNeg = 20 := by
  rcases h with h | h
  · exact h
  · rcases h.2.1 with e | e
    · exact absurd e k3
    · exact absurd e k4
/-- one pair looked at: what follows if nothing is joined, and if something is -/
theorem jo_step (hB : TB μ ζ) (hfw : FwO ζ fw) (hpw : ∀ b, Nd ζ 0 b → PwO ζ pw fw b) (hsum : ∀ l : List Nat, l.Nodup → (l.map pw).sum ≤ 60000) (ho : Nd ζ 0 (ζ.1 65)) (hd : 6 ≤ d) (hJ : JL μ ζ pw Q0 ν0 ν)
    (n1 : ∀ κ, JL μ ζ pw Q0 ν0 κ → 0 < (ν.1 69).toInt → (κ.1 67).toInt = (ν.1 67).toInt → (κ.1 69).toInt = (ν.1 69).toInt - 1 → ME X W true d 372 0 [(0, .ref P.1)] [] P κ (JR ζ Q0 ν0) T)
    (n2 : ∀ κ, JL μ ζ pw Q0 ν0 κ → (κ.1 67).toInt = (ν.1 67).toInt + 1 → ME X W true d 372 0 [(0, .ref P.1)] [] P κ (JR ζ Q0 ν0) T) : ME X W true d 372 0 [(0, .ref P.1)] [] P ν (JR ζ Q0 ν0) T := by
  obtain ⟨hF, hX, hM, hA, ⟨h0, hQ⟩, hq0, l, l1, l2, l3⟩ := hJ
  refine v_joins__0 ⟨fun hz => ⟨Or.inr rfl, hF, hX, hM, fun _ => ⟨⟨hM, ?_⟩, fun p q hpq => ?_⟩⟩, fun hz => ?_⟩
  · refine JA.eq (ν := ν) rfl (fun _ _ => rfl) rfl (fun p q hpq => ?_) hA
    obtain ⟨k, k1, -⟩ := hpq
    omega
  · rcases hq0 p q hpq with h | ⟨k, k1, -⟩
    · exact h
    · omega
  have hL := hF.1.2.2
  obtain ⟨w, ew⟩ : ∃ w : Int32, w = ν.1 69 - 1 := ⟨_, rfl⟩
  have hsm : ((l.map pw).sum : Nat) ≤ 60000 := hsum l l1
  have iw : w.toInt = (ν.1 69).toInt - 1 := by
    rw [ew, ib (by rw [show (1 : Int32).toInt = 1 from rfl]; omega) (by rw [show (1 : Int32).toInt = 1 from rfl]; omega)]; rfl
  rw [← ew]
  have cw := @ic w
  obtain ⟨tp, tq⟩ := hQ w.toNatClampNeg (by omega)
  obtain ⟨ν', eν⟩ : ∃ ν' : MS, ν' = mS1 ν 69 w := ⟨_, rfl⟩
  rw [← eν]
  have k0 : kf [69] [] ν ν' := by rw [eν]; exact kf.rf.S rfl
  have hF' : TF ζ ν' := hF.kf k0 rfl rfl
  have e69 : ν'.1 69 = w := by rw [eν]; rfl
  have e67 : ν'.1 67 = ν.1 67 := k0.1 67 rfl
  have rw' : ∀ g, ν'.2.1 g = ν.2.1 g := fun g => k0.2.1 g rfl
  have hM' : JM ζ ν' := hM.eq (rw' 66) (fun k _ => by rw [rw' 68]) e67
  have hX' : JX ν0 ν' := by
    obtain ⟨x1, x2⟩ := hX
    refine ⟨x1.tr (k0.up rfl rfl), ?_⟩
    rw [rw' 66, rw' 68, e67]
    exact x2
  have hmw : MI w (ν'.2.2 71) := MI.of ((hF'.1.2.2).g rfl rfl : _ = 64000) (by omega) (by omega)
  refine ⟨MI.of (hL.g rfl rfl : _ = 64000) (by omega) (by omega), MC.mono (c_realQ hB hF' (by omega) tp) (fun r1 κ hk => ?_) (fun _ h => h)⟩
  obtain ⟨e1, rr1, t1⟩ := hk
  have e1 := e1.symm
  subst e1
  refine MC.mono (c_cls hB hF' hM' (by omega) t1) (fun a κ hk => ?_) (fun _ h => h)
  obtain ⟨e1, ta, ka, ma, ra⟩ := hk
  have e1 := e1.symm
  subst e1
  rw [e69, rw' 71]
  refine ⟨hmw, MC.mono (c_realQ hB hF' (by omega) tq) (fun r3 κ hk => ?_) (fun _ h => h)⟩
  obtain ⟨e1, rr3, t3⟩ := hk
  have e1 := e1.symm
  subst e1
  refine MC.mono (c_cls hB hF' hM' (by omega) t3) (fun b κ hk => ?_) (fun _ h => h)
  obtain ⟨e1, tb, kb, mb, rb⟩ := hk
  have e1 := e1.symm
  subst e1
  have in1 : InN ζ (rlV ζ (ν.2.1 70 w.toNatClampNeg)) := by rw [← rr1]; exact t1.in
  have in3 : InN ζ (rlV ζ (ν.2.1 71 w.toNatClampNeg)) := by rw [← rr3]; exact t3.in
  rw [rr1] at ra
  rw [rr3] at rb
  have pd : ∀ p q, PdN ν p q → (p = ν.2.1 70 w.toNatClampNeg ∧ q = ν.2.1 71 w.toNatClampNeg) ∨ PdN ν' p q := fun p q ⟨k, k1, k2, k3⟩ => by
    by_cases c : k = w.toNatClampNeg
    · subst c
      exact Or.inl ⟨k2.symm, k3.symm⟩
    · exact Or.inr ⟨k, by rw [e69]; omega, by rw [rw' 70]; exact k2, by rw [rw' 71]; exact k3⟩
  have hQ' : ∀ k : Nat, (k : Int) < (ν'.1 69).toInt → TQ μ ζ (ν'.2.1 70 k) ∧ TQ μ ζ (ν'.2.1 71 k) := fun k hk => by
    rw [rw' 70, rw' 71]
    exact hQ k (by rw [e69] at hk; omega)
  refine ⟨fun hne => ?_, fun heq => ?_⟩
  · have no : JR ζ Q0 ν0 0 ν' := ⟨Or.inl rfl, hF', hX', hM', fun h => absurd rfl h⟩
    refine ⟨ta.mi hB hF' rfl rfl, tb.mi hB hF' rfl rfl, fun _ => no, fun ek => ⟨ta.mi hB hF' rfl rfl, fun _ => no, fun k4 => ⟨ta.mi hB hF' rfl rfl, fun k3 => ⟨tb.mi hB hF' rfl rfl, ?_, ?_⟩, fun _ => no⟩⟩⟩
    · have hle := hM'.le hB
      have h16 := hB.n16
      exact MI.of ((hF'.1.2.2).g rfl rfl : _ = 16000) hM'.1 (by omega)
    have r20 : ν'.2.1 20 = ζ.2.1 20 := hF'.row rfl
    rw [r20] at ek k4 k3
    obtain ⟨na, -⟩ := nd_k4 ta k4 k3
    rw [ek] at k4 k3
    obtain ⟨nb, k20⟩ := nd_k4 tb k4 k3
    have a66 := Rt.bot ra
    have b66 := Rt.bot rb
    have ia := na.in
    have ib' := nb.in
    have ca := @ic a
    have cb := @ic b
    have hab : ¬ a.toNatClampNeg = b.toNatClampNeg := fun e => hne (i_eq (by omega))
    have hMj := hM'.jo hB na nb ek k20 b66 a66 hne
    have hXj : JX ν0 (joS ν' a b) := hX'.jo hM' hB nb b66
    have e67j : ((joS ν' a b).1 67).toInt = (ν.1 67).toInt + 1 := by
      show (ν'.1 67 + 1).toInt = _
      rw [e67]
      have := hM.le hB
      have := hB.n16
      exact ia1 (by omega)
    have e69j : ((joS ν' a b).1 69).toInt = w.toInt := by
      show (ν'.1 69).toInt = _
      rw [e69]
    have new68 : (joS ν' a b).2.1 68 (ν.1 67).toNatClampNeg = b := by
      show upd (ν'.2.1 68) (ν'.1 67).toNatClampNeg b (ν.1 67).toNatClampNeg = b
      rw [e67]; exact upd_at
    have old68 : ∀ k : Nat, (k : Int) < (ν.1 67).toInt → (joS ν' a b).2.1 68 k = ν.2.1 68 k := fun k hk => by
      show upd (ν'.2.1 68) (ν'.1 67).toNatClampNeg b k = _
      have c67 := @ic (ν.1 67)
      rw [e67, rw' 68]; exact upd_off (by omega)
    have notin : ¬ b.toNatClampNeg ∈ l := fun hm => by
      obtain ⟨k, k1, k2⟩ := l2 _ hm
      have := hM.at k1
      rw [k2, ← rw' 66] at this
      omega
    have l1' : (b.toNatClampNeg :: l).Nodup := List.nodup_cons.mpr ⟨notin, l1⟩
    have hs' := hsum _ l1'
    rw [List.map_cons, List.sum_cons] at hs'
    have hFj : TF ζ (joS ν' a b) := hF'.kf (((kf.rf.A (r := [66, 68]) (s := [67]) rfl).A rfl).S rfl) rfl rfl
    have sj : ∀ p q, Sm ζ ν p q → Sm ζ (joS ν' a b) p q := fun p q h => (h.eq (rw' 66)).jo b66 a66 ia.1 hab
    have spq : Sm ζ (joS ν' a b) (ν.2.1 70 w.toNatClampNeg) (ν.2.1 71 w.toNatClampNeg) := by
      obtain ⟨m', hm'⟩ := rt_on b66 a66 ia.1 hab rfl rb
      exact ⟨⟨in1, in3⟩, a, ma, m', rt_off b66 hab ra, hm'⟩
    have toj : ∀ p q, Sm ζ ν p q ∨ PdN ν p q → Sm ζ (joS ν' a b) p q ∨ PdN (joS ν' a b) p q := fun p q h => by
      rcases h with h | h
      · exact Or.inl (sj p q h)
      · rcases pd p q h with ⟨e1, e2⟩ | h
        · rw [e1, e2]; exact Or.inl spq
        · exact Or.inr h
    show MC X W true d 373 [.ref P.1, .int a, .int b] P (joS ν' a b) _ (fun _ => False)
    refine MC.mono (c_partsPair (pw := pw) hB hfw hpw ho hFj hd na nb ek (by omega) (by omega)) (fun r5 ν5 h5 => ?_) (fun _ h => h)
    obtain ⟨⟨p1, p2⟩, -, p4⟩ := h5
    have q66 : ν5.2.1 66 = (joS ν' a b).2.1 66 := p1.1.2.1 66 rfl
    have q68 : ν5.2.1 68 = (joS ν' a b).2.1 68 := p1.1.2.1 68 rfl
    have q67 : ν5.1 67 = (joS ν' a b).1 67 := p1.1.1 67 rfl
    have hM5 : JM ζ ν5 := hMj.eq q66 (fun k _ => by rw [q68]) q67
    have hX5 : JX ν0 ν5 := hXj.px p1
    have hF5 : TF ζ ν5 := p1.tf hFj
    have to5 : ∀ p q, Sm ζ (joS ν' a b) p q ∨ PdN (joS ν' a b) p q → Sm ζ ν5 p q ∨ PdN ν5 p q := fun p q h => h.imp (fun h => h.eq q66) (fun h => h.px p1)
    refine ⟨fun hr5 => n2 ν5 ⟨hF5, hX5, hM5, fun k hk => ?_, ⟨by have := p1.2.1; omega, fun k hk => ?_⟩, fun p q h => to5 p q (toj p q (hq0 p q h)), b.toNatClampNeg :: l, l1', fun j hj => ?_, ?_⟩ (by rw [q67]; exact e67j), fun hr5 => ⟨Or.inl rfl, hF5, hX5, hM5, fun h => absurd rfl h⟩⟩
    · rw [q67, e67j] at hk
      rw [q66, q68]
      by_cases c : (k : Int) < (ν.1 67).toInt
      · rw [old68 k c]
        have e : (joS ν' a b).2.1 66 (ν.2.1 68 k).toNatClampNeg = ν.2.1 66 (ν.2.1 68 k).toNatClampNeg := by
          show upd (ν'.2.1 66) b.toNatClampNeg a _ = _
          rw [upd_off (fun e => by have := hM.at c; rw [e, ← rw' 66] at this; omega), rw' 66]
        rw [e]
        exact (hA k c).mono (fun p q h => to5 p q (toj p q h))
      · have c67 := @ic (ν.1 67)
        rw [show k = (ν.1 67).toNatClampNeg by omega, new68]
        have e : (joS ν' a b).2.1 66 b.toNatClampNeg = a := by
          show upd (ν'.2.1 66) b.toNatClampNeg a _ = _
          exact upd_at
        rw [e]
        exact (p4 hr5).mono (fun p q h => Or.inr h)
    · by_cases c : (k : Int) < ((joS ν' a b).1 69).toInt
      · rw [(p1.2.2.1 k c).1, (p1.2.2.1 k c).2]
        exact hQ' k (by rw [e69]; omega)
      · exact ⟨Or.inl (p1.2.2.2 k (by omega) hk).1, Or.inl (p1.2.2.2 k (by omega) hk).2⟩
    · rw [q67, e67j, q68]
      rcases List.mem_cons.mp hj with e | hj
      · exact ⟨(ν.1 67).toNatClampNeg, by have := @ic (ν.1 67); have := hM.1; omega, by rw [new68]; exact e.symm⟩
      · obtain ⟨k, k1, k2⟩ := l2 j hj
        exact ⟨k, by omega, by rw [old68 k k1]; exact k2⟩
    · rw [List.map_cons, List.sum_cons]
      omega
  · refine n1 ν' ⟨hF', hX', hM', ?_, ⟨by rw [e69]; omega, hQ'⟩, fun p q h => ?_, l, l1, fun j hj => ?_, by rw [e69]; omega⟩ hz (by rw [e67]) (by rw [e69]; omega)
    · refine JA.eq (ν := ν) (rw' 66) (fun k _ => by rw [rw' 68]) e67 (fun p q hpq => ?_) hA
      rcases pd p q hpq with ⟨e1, e2⟩ | h
      · rw [e1, e2]
        rw [← heq] at rb
        exact Or.inl ⟨⟨in1, in3⟩, a, ma, mb, ra, rb⟩
      · exact Or.inr h
    · rcases hq0 p q h with h | h
      · exact Or.inl (h.eq (rw' 66))
      · rcases pd p q h with ⟨e1, e2⟩ | h
        · rw [e1, e2]
          rw [← heq] at rb
          exact Or.inl ⟨⟨in1, in3⟩, a, ma, mb, ra, rb⟩
        · exact Or.inr h
    · obtain ⟨k, k1, k2⟩ := l2 j hj
      exact ⟨k, by rw [e67]; exact k1, by rw [rw' 68]; exact k2⟩
theorem jo_0 (hB : TB μ ζ) (hfw : FwO ζ fw) (hpw : ∀ b, Nd ζ 0 b → PwO ζ pw fw b) (hsum : ∀ l : List Nat, l.Nodup → (l.map pw).sum ≤ 60000) (ho : Nd ζ 0 (ζ.1 65)) (hd : 6 ≤ d) : ∀ (J L : Nat) (ν : MS), (ζ.1 19).toInt - (ν.1 67).toInt ≤ J → (ν.1 69).toInt ≤ L → JL μ ζ pw Q0 ν0 ν → ME X W true d 372 0 [(0, .ref P.1)] [] P ν (JR ζ Q0 ν0) T := by
  intro J
  induction J with
  | zero =>
    intro L
    induction L with
    | zero => exact fun ν _ hL hJ => jo_step hB hfw hpw hsum ho hd hJ (fun κ _ hz _ _ => by omega) (fun κ hκ e => by have := hκ.2.2.1.le hB; omega)
    | succ L ih => exact fun ν hJ hL hJL => jo_step hB hfw hpw hsum ho hd hJL (fun κ hκ _ e1 e2 => ih κ (by omega) (by omega) hκ) (fun κ hκ e => by have := hκ.2.2.1.le hB; omega)
  | succ J ihJ =>
    intro L
    induction L with
    | zero => exact fun ν hJ hL hJL => jo_step hB hfw hpw hsum ho hd hJL (fun κ _ hz _ _ => by omega) (fun κ hκ e => ihJ (κ.1 69).toInt.toNat κ (by omega) (by omega) hκ)
    | succ L ih => exact fun ν hJ hL hJL => jo_step hB hfw hpw hsum ho hd hJL (fun κ hκ _ e1 e2 => ih κ (by omega) (by omega) hκ) (fun κ hκ e => ihJ (κ.1 69).toInt.toNat κ (by omega) (by omega) hκ)
theorem c_joinsT (hB : TB μ ζ) (hfw : FwO ζ fw) (hpw : ∀ b, Nd ζ 0 b → PwO ζ pw fw b) (hsum : ∀ l : List Nat, l.Nodup → (l.map pw).sum ≤ 60000) (ho : Nd ζ 0 (ζ.1 65)) (hd : 7 ≤ d) (hJ : JL μ ζ pw Q0 ν0 ν) : MC X W true d 372 [.ref P.1] P ν (JR ζ Q0 ν0) T :=
  me_meth (by omega) rfl (jo_0 hB hfw hpw hsum ho (by omega) ((ζ.1 19).toInt - (ν.1 67).toInt).toNat (ν.1 69).toInt.toNat ν (by omega) (by omega) hJ)
/-- what was joined is taken back -/
theorem JX.back (h : JX ν0 ν) (hc : (ν0.1 67).toInt < (ν.1 67).toInt) (h67 : 0 ≤ (ν0.1 67).toInt) {w : Int32} (iw : w.toInt = (ν.1 67).toInt - 1) : JX ν0 (mA1 (mS1 ν 67 w) 66 (ν.2.1 68 w.toNatClampNeg).toNatClampNeg (-1)) := by
  obtain ⟨x1, x2, x3, x4, x5⟩ := h
  have cw := @ic w
  refine ⟨(x1.S rfl).A rfl, by show _ ≤ w.toInt; omega, x3, fun k k1 k2 => x4 k k1 (by have k2 : (k : Int) < w.toInt := k2; omega), fun j hj => ?_⟩
  show upd (ν.2.1 66) (ν.2.1 68 w.toNatClampNeg).toNatClampNeg (-1) j = _
  by_cases c : j = (ν.2.1 68 w.toNatClampNeg).toNatClampNeg
  · rw [c, upd_at]
    exact (x4 w.toNatClampNeg (by omega) (by omega)).symm
  · rw [upd_off c]
    refine x5 j (fun k k1 k2 e => ?_)
    by_cases c2 : (k : Int) < w.toInt
    · exact hj k k1 c2 e
    · rw [show k = w.toNatClampNeg by omega] at e
      exact c e.symm
theorem JX.done (h : JX ν0 ν) (hc : (ν.1 67).toInt ≤ (ν0.1 67).toInt) (hK : JK ζ ν0) : JK ζ ν := by
  obtain ⟨x1, x2, x3, x4, x5⟩ := h
  exact hK.eq (funext (fun j => x5 j (fun k k1 k2 => by omega))) x3 (i_eq (by omega))
theorem JX.rf : JX ν ν := ⟨kf.rf, Int.le_refl _, fun _ _ => rfl, fun k k1 k2 => by omega, fun _ _ => rfl⟩
theorem aa_25 (hB : TB μ ζ) (hK : JK ζ ν0) : ∀ (n : Nat) (ν : MS), TF ζ ν → JX ν0 ν → (∀ k : Nat, (k : Int) < (ν.1 67).toInt → Nd ζ 0 (ν.2.1 68 k)) → (ν.1 67).toInt ≤ (ζ.1 19).toInt → (ν.1 67).toInt ≤ n → ME X W true d 371 25 [(0, .ref P.1), (1, .int x), (2, .int y), (3, .int (ν0.1 67))] [] P ν (fun r ν1 => r = 0 ∧ TF ζ ν1 ∧ JK ζ ν1 ∧ kf [67, 69] [66, 68, 70, 71] ν0 ν1) T := by
  intro n
  have h67 := hK.1.1
  have h16 := hB.n16
  induction n with
  | zero => exact fun ν hF hX _ _ hn => v_areAlike_25 _ _ _ ⟨fun h => ⟨rfl, hF, hX.done h hK, hX.1⟩, fun h => by omega⟩
  | succ n ih =>
    intro ν hF hX hN hle hn
    refine v_areAlike_25 _ _ _ ⟨fun h => ⟨rfl, hF, hX.done h hK, hX.1⟩, fun h => ?_⟩
    have hL := hF.1.2.2
    obtain ⟨w, ew⟩ : ∃ w : Int32, w = ν.1 67 - 1 := ⟨_, rfl⟩
    have iw : w.toInt = (ν.1 67).toInt - 1 := by
      rw [ew, ib (by rw [show (1 : Int32).toInt = 1 from rfl]; omega) (by rw [show (1 : Int32).toInt = 1 from rfl]; omega)]; rfl
    rw [← ew]
    have cw := @ic w
    have hw := hN w.toNatClampNeg (by omega)
    refine ⟨MI.of (hL.g rfl rfl : _ = 16000) (by omega) (by omega), hw.mi hB hF rfl rfl, ih _ (hF.kf ((kf.rf.S (s := [67]) (r := [66]) rfl).A rfl) rfl rfl) (hX.back h h67 iw) (fun k hk => hN k (by have hk : (k : Int) < w.toInt := hk; omega)) (by show w.toInt ≤ _; omega) (by show w.toInt ≤ _; omega)⟩
theorem af_32 {s t : Int32} (hB : TB μ ζ) (hK : JK ζ ν0) : ∀ (n : Nat) (ν : MS), TF ζ ν → JX ν0 ν → (∀ k : Nat, (k : Int) < (ν.1 67).toInt → Nd ζ 0 (ν.2.1 68 k)) → (ν.1 67).toInt ≤ (ζ.1 19).toInt → (ν.1 67).toInt ≤ n → ME X W true d 383 32 [(0, .ref P.1), (1, .int s), (2, .int t), (3, .int x), (4, .int y), (5, .int (ν0.1 67))] [] P ν (fun r ν1 => r = 0 ∧ TF ζ ν1 ∧ JK ζ ν1 ∧ kf [67, 69] [66, 68, 70, 71] ν0 ν1) T := by
  intro n
  have h67 := hK.1.1
  have h16 := hB.n16
  induction n with
  | zero => exact fun ν hF hX _ _ hn => v_alikeFrom_32 _ _ _ _ _ ⟨fun h => ⟨rfl, hF, hX.done h hK, hX.1⟩, fun h => by omega⟩
  | succ n ih =>
    intro ν hF hX hN hle hn
    refine v_alikeFrom_32 _ _ _ _ _ ⟨fun h => ⟨rfl, hF, hX.done h hK, hX.1⟩, fun h => ?_⟩
    have hL := hF.1.2.2
    obtain ⟨w, ew⟩ : ∃ w : Int32, w = ν.1 67 - 1 := ⟨_, rfl⟩
    have iw : w.toInt = (ν.1 67).toInt - 1 := by
      rw [ew, ib (by rw [show (1 : Int32).toInt = 1 from rfl]; omega) (by rw [show (1 : Int32).toInt = 1 from rfl]; omega)]; rfl
    rw [← ew]
    have cw := @ic w
    have hw := hN w.toNatClampNeg (by omega)
    refine ⟨MI.of (hL.g rfl rfl : _ = 16000) (by omega) (by omega), hw.mi hB hF rfl rfl, ih _ (hF.kf ((kf.rf.S (s := [67]) (r := [66]) rfl).A rfl) rfl rfl) (hX.back h h67 iw) (fun k hk => hN k (by have hk : (k : Int) < w.toInt := hk; omega)) (by show w.toInt ≤ _; omega) (by show w.toInt ≤ _; omega)⟩
/-- what a LEVEL is below is a NAME, or the one of all objects; TYPEs told are not too many -/
def TX (ζ : MS) : Prop := (∀ x, Nd ζ 0 x → ζ.2.1 20 x.toNatClampNeg = 32 → ζ.2.1 20 (supV ζ x).toNatClampNeg = 20 ∨ ζ.2.1 20 (supV ζ x).toNatClampNeg = 26) ∧ (ζ.1 60).toInt ≤ 3100 ∧ (ζ.1 43).toInt ≤ 3100
/-- all that the round of types relies on -/
def TZ (μ ζ : MS) : Prop := TB μ ζ ∧ PwB ζ ∧ Nd ζ 0 (ζ.1 65) ∧ TX ζ
theorem c_alike (hZ : TZ μ ζ) (hF : TF ζ ν) (hK : JK ζ ν) (hd : 8 ≤ d) (hx : TQ μ ζ x) (hy : TQ μ ζ y) : MC X W true d 371 [.ref P.1, .int x, .int y] P ν (fun r ν1 => (r = 0 ∨ r = 1) ∧ TF ζ ν1 ∧ JK ζ ν1 ∧ kf [67, 69] [66, 68, 70, 71] ν ν1 ∧ (¬ r = 0 → Alk ζ x y)) T := by
  obtain ⟨hB, ⟨pw, fw, hfw, hpw, hsum⟩, ho, -⟩ := hZ
  obtain ⟨ν', eν⟩ : ∃ ν' : MS, ν' = mS1 ν 69 0 := ⟨_, rfl⟩
  have k0 : kf [69] [] ν ν' := by rw [eν]; exact kf.rf.S rfl
  have hF' : TF ζ ν' := hF.kf k0 rfl rfl
  have e69 : ν'.1 69 = 0 := by rw [eν]; rfl
  have i69 : (ν'.1 69).toInt = 0 := by rw [e69]; rfl
  refine me_meth (by omega) rfl (v_areAlike_0 _ _ ?_)
  rw [← eν]
  refine MC.mono (c_pair (hF'.1.2.2) (by omega) (by omega) (by rw [show rlen 70 = 64000 from rfl]; omega)) (fun r κ hκ => ?_) (fun _ h => h)
  have k1 : kf [69] [70, 71] ν κ := by rw [hκ, eν]; exact (((kf.rf.S rfl).A rfl).A rfl).S rfl
  have e69κ : (κ.1 69).toInt = 1 := by
    rw [hκ, pr_at (by omega) (by omega), i69]; rfl
  have a70 : κ.2.1 70 0 = x := by
    rw [hκ]
    show upd (ν'.2.1 70) (ν'.1 69).toNatClampNeg x 0 = x
    rw [e69]; exact upd_at
  have a71 : κ.2.1 71 0 = y := by
    rw [hκ]
    show upd (ν'.2.1 71) (ν'.1 69).toNatClampNeg y 0 = y
    rw [e69]; exact upd_at
  have r66 : κ.2.1 66 = ν.2.1 66 := k1.2.1 66 rfl
  have r68 : κ.2.1 68 = ν.2.1 68 := k1.2.1 68 rfl
  have r67 : κ.1 67 = ν.1 67 := k1.1 67 rfl
  have hKκ : JK ζ κ := hK.eq r66 (fun k _ => by rw [r68]) r67
  have hJ : JL μ ζ pw (fun p q => p = x ∧ q = y) ν κ := by
    refine ⟨hF.kf k1 rfl rfl, ⟨k1.up rfl rfl, by rw [r67]; exact Int.le_refl _, fun k _ => by rw [r68], fun k h1 h2 => by rw [r67] at h2; omega, fun j _ => by rw [r66]⟩, hKκ.1, JA.eq (ν := κ) rfl (fun _ _ => rfl) rfl (fun _ _ h => h.elim) hKκ.2, ⟨by omega, fun k hk => ?_⟩, fun p q hpq => Or.inr ⟨0, by omega, by rw [a70]; exact hpq.1.symm, by rw [a71]; exact hpq.2.symm⟩, [], List.nodup_nil, fun j hj => (List.not_mem_nil hj).elim, ?_⟩
    · rw [show k = 0 by omega, a70, a71]
      exact ⟨hx, hy⟩
    · rw [e69κ]
      show (1 : Int) ≤ 3001 + ((([] : List Nat).map pw).sum : Nat)
      rw [List.map_nil, List.sum_nil]; decide
  refine MC.mono (c_joinsT hB hfw hpw hsum ho (by omega) hJ) (fun r2 ν2 h2 => ?_) (fun _ h => h)
  obtain ⟨g1, g2, g3, g4, g5⟩ := h2
  refine ⟨fun _ => ?_, fun hr => ?_⟩
  · refine ME.mono (aa_25 hB hK (ν2.1 67).toInt.toNat ν2 g2 g3 (fun k hk => (g4.2.2 k hk).1.1) (g4.le hB) (by omega)) (fun r ν1 h => ?_) (fun _ h => h)
    obtain ⟨a1, a2, a3, a4⟩ := h
    exact ⟨Or.inl a1, a2, a3, a4, fun h => absurd a1 h⟩
  · obtain ⟨j1, j2⟩ := g5 hr
    exact ⟨Or.inr rfl, g2, j1, g3.1, fun _ => j1.alk (j2 x y ⟨rfl, rfl⟩)⟩
theorem c_alikeFrom {n m : Nat} (hZ : TZ μ ζ) (hF : TF ζ ν) (hK : JK ζ ν) (hd : 8 ≤ d) (hs : Nd ζ 8 s) (ht : Nd ζ 8 t) (hx : Lst (Nd ζ 9) (ζ.2.1 27) n x) (hy : Lst (Nd ζ 9) (ζ.2.1 27) m y) (hm : ctF (fun _ => 1) (ζ.2.1 27) m y ≤ 3000) : MC X W true d 383 [.ref P.1, .int s, .int t, .int x, .int y] P ν (fun r ν1 => (r = 0 ∨ r = 1) ∧ TF ζ ν1 ∧ JK ζ ν1 ∧ kf [67, 69] [66, 68, 70, 71] ν ν1 ∧ (¬ r = 0 → SgR ζ (Alk ζ) s t x y)) T := by
  obtain ⟨hB, ⟨pw, fw, hfw, hpw, hsum⟩, ho, -⟩ := hZ
  obtain ⟨ν', eν⟩ : ∃ ν' : MS, ν' = mS1 ν 69 0 := ⟨_, rfl⟩
  have k0 : kf [69] [] ν ν' := by rw [eν]; exact kf.rf.S rfl
  have hF' : TF ζ ν' := hF.kf k0 rfl rfl
  have e69 : ν'.1 69 = 0 := by rw [eν]; rfl
  have i69 : (ν'.1 69).toInt = 0 := by rw [e69]; rfl
  have hKν : JK ζ ν' := hK.eq (k0.2.1 66 rfl) (fun k _ => by rw [k0.2.1 68 rfl]) (k0.1 67 rfl)
  refine me_meth (by omega) rfl (v_alikeFrom_0 _ _ _ _ ?_)
  rw [← eν]
  refine MC.mono (c_sigPair hB hF' (by omega) hs ht (by omega) hx hy (by omega)) (fun r κ hκ => ?_) (fun _ h => h)
  obtain ⟨⟨p1, p2⟩, -, p4⟩ := hκ
  have k1 : kf [69] [70, 71] ν κ := (k0.up rfl rfl).tr p1.1
  have r66 : κ.2.1 66 = ν.2.1 66 := k1.2.1 66 rfl
  have r68 : κ.2.1 68 = ν.2.1 68 := k1.2.1 68 rfl
  have r67 : κ.1 67 = ν.1 67 := k1.1 67 rfl
  have hKκ : JK ζ κ := hK.eq r66 (fun k _ => by rw [r68]) r67
  have hXκ : JX ν κ := ⟨k1.up rfl rfl, by rw [r67]; exact Int.le_refl _, fun k _ => by rw [r68], fun k h1 h2 => by rw [r67] at h2; omega, fun j _ => by rw [r66]⟩
  refine ⟨fun _ => ?_, fun hr0 => ?_⟩
  · refine ME.mono (af_32 hB hK (κ.1 67).toInt.toNat κ (p1.tf hF') hXκ (fun k hk => (hKκ.1.2.2 k hk).1.1) (hKκ.1.le hB) (by omega)) (fun r ν1 h => ?_) (fun _ h => h)
    obtain ⟨a1, a2, a3, a4⟩ := h
    exact ⟨Or.inl a1, a2, a3, a4, fun h => absurd a1 h⟩
  have hJ : JL μ ζ pw (PdN κ) ν κ := by
    refine ⟨p1.tf hF', hXκ, hKκ.1, JA.eq (ν := κ) rfl (fun _ _ => rfl) rfl (fun _ _ h => h.elim) hKκ.2, ⟨by have := p1.2.1; omega, fun k hk => ?_⟩, fun p q hpq => Or.inr hpq, [], List.nodup_nil, fun j hj => (List.not_mem_nil hj).elim, ?_⟩
    · have := p1.2.2.2 k (by omega) hk
      exact ⟨Or.inl this.1, Or.inl this.2⟩
    · rw [List.map_nil, List.sum_nil]
      omega
  refine MC.mono (c_joinsT hB hfw hpw hsum ho (by omega) hJ) (fun r2 ν2 h2 => ?_) (fun _ h => h)
  obtain ⟨g1, g2, g3, g4, g5⟩ := h2
  refine ⟨fun _ => ?_, fun hr => ?_⟩
  · refine ME.mono (af_32 hB hK (ν2.1 67).toInt.toNat ν2 g2 g3 (fun k hk => (g4.2.2 k hk).1.1) (g4.le hB) (by omega)) (fun r ν1 h => ?_) (fun _ h => h)
    obtain ⟨a1, a2, a3, a4⟩ := h
    exact ⟨Or.inl a1, a2, a3, a4, fun h => absurd a1 h⟩
  · obtain ⟨j1, j2⟩ := g5 hr
    exact ⟨Or.inr rfl, g2, j1, g3.1, fun _ => (p4 hr0).mono (fun p q h => j1.alk (j2 p q h))⟩
end NNAF
