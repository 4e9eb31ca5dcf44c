/-! contracts of the reference: what a TYPE stands for, told; what is above an OBJECT type with all seen -/
/-- an OBJECT type -/
def Ob (ζ : MS) (x : Int32) : Prop := ζ.2.1 20 x.toNatClampNeg = 26 ∨ ζ.2.1 20 x.toNatClampNeg = 32 ∨ ζ.2.1 20 x.toNatClampNeg = 4
/-- REVEALs -/
def RvO (μ ζ : MS) (ρ : Nat → Int32) : Prop := ∀ t : Nat, (t : Int) < (ζ.1 19).toInt → ρ t = -1 ∨ (ζ.2.1 20 (ρ t).toNatClampNeg = 6 ∧ ∃ w, DcO μ w (ρ t))
/-- what is above, with all seen -/
def waV (ζ : MS) (ρ : Nat → Int32) (x : Int32) : Int32 := if ζ.2.1 20 x.toNatClampNeg = 32 then rlV ζ (supV ζ x) else if ζ.2.1 20 x.toNatClampNeg = 4 ∧ 0 ≤ (ρ x.toNatClampNeg).toInt then rlV ζ (supV ζ (ζ.2.1 23 (ρ x.toNatClampNeg).toNatClampNeg)) else -1
/-- the LEVEL of an OBJECT type with all seen -/
def lvV (ζ : MS) (ρ : Nat → Int32) (x : Int32) : Int32 := if ζ.2.1 20 x.toNatClampNeg = 32 then x else if ζ.2.1 20 x.toNatClampNeg = 4 ∧ 0 ≤ (ρ x.toNatClampNeg).toInt then ζ.2.1 23 (ρ x.toNatClampNeg).toNatClampNeg else -1
section NNAG
variable {X : ev_X} {W : Nat → Prop} {d : Nat} {P : MP} {μ ν ν0 ν1 κ ζ : MS} {T : MS → Prop} {x y p q a b s t r e : Int32} {ρ : Nat → Int32} {w : Nat}
theorem obV_1 (h : Ob ζ x) : obV ζ x = 1 := by unfold obV; exact if_pos h
theorem obV_0 (h : ¬ Ob ζ x) : obV ζ x = 0 := by unfold obV; exact if_neg h
theorem obV_n (h : ¬ obV ζ x = 0) : Ob ζ x := by
  by_cases c : Ob ζ x
  · exact c
  · exact absurd (obV_0 c) h
theorem obV_z (h : obV ζ x = 0) : ¬ Ob ζ x := fun c => by rw [obV_1 c] at h; exact absurd h (by decide)
theorem fr_dk (hB : TB μ ζ) (hA : ∀ m, AlN ζ (sqT ζ t m)) : ∀ (n m : Nat) (y : Int32), Dk μ ζ y → Dk μ ζ (frF ζ e n y (dcl ζ (sqT ζ t m)))
  | 0, _, y, hy => hy
  | n + 1, m, y, hy => by
    show Dk μ ζ (if _ then _ else _)
    by_cases c : dcl ζ (sqT ζ t m) = e
    · rw [if_pos c]; exact hy
    · rw [if_neg c]
      refine fr_dk hB hA n (m + 1) _ ?_
      by_cases c2 : (dcl ζ (sqT ζ t m) : Int32) < y
      · rw [if_pos c2]; exact hB.dcl (hA m).1 (hA m).2.1
      · rw [if_neg c2]; exact hy
theorem rl_p {N : Nat} (hB : TB μ ζ) (hN : N = (ζ.1 60).toInt.toNat) : ∀ (k i : Nat), i + k = N + 1 → (∀ j, j < i → AlN ζ (sqT ζ x j)) → Nd ζ 0 (sqT ζ x i) → (rlF ζ k (sqT ζ x i) = sqT ζ x i ∧ ¬ ζ.2.1 20 (sqT ζ x i).toNatClampNeg = 20) ∨ (ζ.2.1 20 (sqT ζ x i).toNatClampNeg = 20 ∧ (Dk μ ζ (rlF ζ k (sqT ζ x i)) ∨ ((Nd ζ 0 (rlF ζ k (sqT ζ x i)) ∧ ¬ ζ.2.1 20 (rlF ζ k (sqT ζ x i)).toNatClampNeg = 20) ∧ ∃ e, Dk μ ζ e ∧ ζ.2.1 20 e.toNatClampNeg = 3 ∧ rlF ζ k (sqT ζ x i) = ζ.2.1 23 e.toNatClampNeg))) := by
  intro k
  induction k with
  | zero =>
    intro i hi hA hx
    by_cases hk : ζ.2.1 20 (sqT ζ x i).toNatClampNeg = 20
    · refine Or.inr ⟨hk, Or.inl ?_⟩
      show Dk μ ζ (if _ then _ else _)
      rw [if_pos hk]
      have hz := hB.dcl hx hk
      by_cases h4 : ζ.2.1 20 (dcl ζ (sqT ζ x i)).toNatClampNeg = 4
      · rw [if_pos h4]; exact hz
      · rw [if_neg h4]
        have h3k : ζ.2.1 20 (dcl ζ (sqT ζ x i)).toNatClampNeg = 3 := hz.2.1.resolve_right h4
        have ei : i = N + 1 := by omega
        subst ei
        obtain ⟨p, -, p3, -⟩ := sq_ring hB hN (fun j hj => by
          by_cases c : j < N + 1
          · exact hA j c
          · rw [show j = N + 1 by omega]; exact ⟨hx, hk, h3k⟩)
        exact fr_dk (t := sqT ζ x (N + 1)) hB (fun m => by rw [← sqT.add]; exact p3 _) 3200 1 _ hz
    · refine Or.inl ⟨?_, hk⟩
      show (if _ then _ else _) = _
      rw [if_neg hk]
  | succ k ih =>
    intro i hi hA hx
    by_cases hk : ζ.2.1 20 (sqT ζ x i).toNatClampNeg = 20
    · refine Or.inr ⟨hk, ?_⟩
      have hz := hB.dcl hx hk
      by_cases h4 : ζ.2.1 20 (dcl ζ (sqT ζ x i)).toNatClampNeg = 4
      · have e1 : rlF ζ (k + 1) (sqT ζ x i) = dcl ζ (sqT ζ x i) := by
          show (if _ then _ else _) = _
          rw [if_pos hk, if_pos h4]
        rw [e1]
        exact Or.inl hz
      · have h3k : ζ.2.1 20 (dcl ζ (sqT ζ x i)).toNatClampNeg = 3 := hz.2.1.resolve_right h4
        have e1 : rlF ζ (k + 1) (sqT ζ x i) = rlF ζ k (sqT ζ x (i + 1)) := by
          show (if _ then _ else _) = _
          rw [if_pos hk, if_neg h4]
          rfl
        rw [e1]
        rcases ih (i + 1) (by omega) (fun j hj => by
          by_cases c : j < i
          · exact hA j c
          · rw [show j = i by omega]; exact ⟨hx, hk, h3k⟩) hz.2.2.2.1 with ⟨f1, f2⟩ | ⟨f1, f2⟩
        · refine Or.inr ⟨?_, dcl ζ (sqT ζ x i), hz, h3k, f1⟩
          rw [f1]
          exact ⟨hz.2.2.2.1, f2⟩
        · exact f2
    · refine Or.inl ⟨?_, hk⟩
      show (if _ then _ else _) = _
      rw [if_neg hk]
/-- what a TYPE stands for -/
theorem rl_at (hB : TB μ ζ) (hx : Nd ζ 0 x) : (rlV ζ x = x ∧ ¬ ζ.2.1 20 x.toNatClampNeg = 20) ∨ (ζ.2.1 20 x.toNatClampNeg = 20 ∧ (Dk μ ζ (rlV ζ x) ∨ ((Nd ζ 0 (rlV ζ x) ∧ ¬ ζ.2.1 20 (rlV ζ x).toNatClampNeg = 20) ∧ ∃ e, Dk μ ζ e ∧ ζ.2.1 20 e.toNatClampNeg = 3 ∧ rlV ζ x = ζ.2.1 23 e.toNatClampNeg))) :=
  rl_p (x := x) hB rfl ((ζ.1 60).toInt.toNat + 1) 0 (by omega) (fun j hj => by omega) hx
theorem rl_rt (hB : TB μ ζ) (hx : Nd ζ 0 x) : RT μ ζ (rlV ζ x) := by
  rcases rl_at hB hx with ⟨e, h⟩ | ⟨-, h | h⟩
  · rw [e]; exact Or.inl ⟨hx, h⟩
  · exact Or.inr h
  · exact Or.inl h.1
theorem rl_id (h : ¬ ζ.2.1 20 x.toNatClampNeg = 20) : rlV ζ x = x := by
  unfold rlV
  show (if _ then _ else _) = _
  rw [if_neg h]
theorem RT.n20 (h : RT μ ζ x) : ¬ ζ.2.1 20 x.toNatClampNeg = 20 := by
  rcases h with h | h
  · exact h.2
  · intro e
    rcases h.2.1 with h | h <;> (rw [h] at e; exact absurd e (by decide))
theorem rl_rl (hB : TB μ ζ) (hx : TQ μ ζ x) : rlV ζ (rlV ζ x) = rlV ζ x := by
  rcases hx with hx | hx
  · exact rl_id (rl_rt hB hx).n20
  · have : RT μ ζ x := Or.inr hx
    rw [rl_id this.n20, rl_id this.n20]
theorem TQ.rt (hB : TB μ ζ) (hx : TQ μ ζ x) : RT μ ζ (rlV ζ x) := by
  rcases hx with hx | hx
  · exact rl_rt hB hx
  · have : RT μ ζ x := Or.inr hx
    rw [rl_id this.n20]; exact this
/-- a REVEAL's LEVEL -/
theorem TB.rv (hB : TB μ ζ) (hd : DcO μ w e) (ek : ζ.2.1 20 e.toNatClampNeg = 6) : Nd ζ 0 (ζ.2.1 23 e.toNatClampNeg) ∧ ζ.2.1 20 (ζ.2.1 23 e.toNatClampNeg).toNatClampNeg = 32 := by
  refine ⟨(hB.dc hd).2.2.1 (fun h => by rw [ek] at h; exact absurd h (by decide)) (fun h => by rw [ek] at h; exact absurd h (by decide)), ?_⟩
  obtain ⟨hw, m, ho, d0⟩ := hd
  have hg := hB.g hw
  obtain ⟨hP, hR, hz⟩ := hB
  have r20 : ζ.2.1 20 = μ.2.1 20 := hR.1.2.1 20 rfl
  have r27 : ζ.2.1 27 = μ.2.1 27 := hR.1.2.1 27 rfl
  obtain ⟨⟨c, hc⟩, -⟩ := hR.2.2.2.2.2 hz
  obtain ⟨-, -, f2, -⟩ := hc w hw
  have f2' : μ.2.1 20 (μ.2.1 42 w).toNatClampNeg = 1 := by rw [← r20]; exact f2
  have r24 : ζ.2.1 24 (μ.2.1 42 w).toNatClampNeg = μ.2.1 24 (μ.2.1 42 w).toNatClampNeg := (hR.2.2.1 2 _ (by omega)).resolve_right (fun h => by rw [f2'] at h; exact absurd h.1 (by decide))
  obtain ⟨g1, g2, g3, g4⟩ := hg
  have gl := g4 2 (by omega)
  rw [f2] at gl
  obtain ⟨m2, gl⟩ : ∃ m2, Lst (G ζ 399 (fun j => (j : Int) < (ζ.1 19).toInt ∧ j ≠ (μ.2.1 42 w).toNatClampNeg) 4) (ζ.2.1 27) m2 (ζ.2.1 24 (μ.2.1 42 w).toNatClampNeg) := gl
  rw [r27, r24] at gl
  have hG := Lst.onl d0 gl ho
  obtain ⟨y1, y2, y3, y4⟩ := hG
  have y5 := y4 1 (by omega)
  rw [ek] at y5
  have y6 := y5.1
  obtain ⟨z1, z2, z3, z4⟩ := y6
  have z3 : ([32] : List Int32).contains (ζ.2.1 20 (ζ.2.1 23 e.toNatClampNeg).toNatClampNeg) = true := z3
  simpa using z3
theorem RvO.lv (hB : TB μ ζ) (hR : RvO μ ζ ρ) (hx : RT μ ζ x) (h0 : 0 ≤ (ρ x.toNatClampNeg).toInt) : ((0 ≤ (ρ x.toNatClampNeg).toInt ∧ (ρ x.toNatClampNeg).toInt < (ζ.1 19).toInt) ∧ ζ.2.1 20 (ρ x.toNatClampNeg).toNatClampNeg = 6 ∧ ∃ w, DcO μ w (ρ x.toNatClampNeg)) ∧ Nd ζ 0 (ζ.2.1 23 (ρ x.toNatClampNeg).toNatClampNeg) ∧ ζ.2.1 20 (ζ.2.1 23 (ρ x.toNatClampNeg).toNatClampNeg).toNatClampNeg = 32 := by
  have := hx.in
  have hc := @ic x
  rcases hR x.toNatClampNeg (by omega) with e | ⟨e, w, hw⟩
  · rw [e] at h0; exact absurd h0 (by decide)
  · exact ⟨⟨(hB.dc hw).1, e, w, hw⟩, hB.rv hw e⟩
theorem rt_32 (hx : RT μ ζ x) (ek : ζ.2.1 20 x.toNatClampNeg = 32) : Nd ζ 0 x := by
  rcases hx with h | h
  · exact h.1
  · rcases h.2.1 with h | h <;> (rw [h] at ek; exact absurd ek (by decide))
theorem sup_nd (hZ : TZ μ ζ) (hx : Nd ζ 0 x) (ek : ζ.2.1 20 x.toNatClampNeg = 32) : Nd ζ 0 (supV ζ x) := (supV.nd hx (Or.inr ek) hZ.2.2.1).resolve_right (fun e => by rw [ek] at e; exact absurd e (by decide))
theorem c_wholeAbove (hZ : TZ μ ζ) (hF : TF ζ ν) (h72 : ν.2.1 72 = ρ) (hR : RvO μ ζ ρ) (hd : 5 ≤ d) (hx : RT μ ζ x) : MC X W true d 385 [.ref P.1, .int x] P ν (fun r ν1 => ν1 = ν ∧ r = waV ζ ρ x ∧ (r = -1 ∨ RT μ ζ r)) T := by
  have hB := hZ.1
  have r20 : ν.2.1 20 = ζ.2.1 20 := hF.row rfl
  have r23 : ν.2.1 23 = ζ.2.1 23 := hF.row rfl
  have m20 : MI x (ν.2.2 20) := hx.mi hB hF rfl rfl
  have m72 : MI x (ν.2.2 72) := hx.mi hB hF rfl rfl
  unfold waV
  refine me_meth (by omega) rfl (v_wholeAbove_0 _ ⟨m20, fun k => ⟨m20, fun k4 => ?_, fun k4 => ⟨m72, fun h0 => ⟨m72, ?_, ?_⟩, fun h0 => ?_⟩⟩, fun k => ?_⟩)
  · rw [r20] at k k4
    exact ⟨rfl, by rw [if_neg k, if_neg (fun h => k4 h.1)], Or.inl rfl⟩
  · rw [h72] at h0 ⊢
    obtain ⟨⟨⟨i0, i1⟩, -⟩, -⟩ := hR.lv hB hx h0
    exact MI.of ((hF.1.2.2).g rfl rfl : _ = 16000) i0 (by have := hB.n16; omega)
  · rw [r20] at k k4
    rw [h72] at h0 ⊢
    obtain ⟨-, n1, n2⟩ := hR.lv hB hx h0
    rw [r23, if_neg k, if_pos ⟨k4, h0⟩]
    refine MC.mono (c_super hF (by omega) (n1.mi hB hF rfl rfl)) (fun r1 κ hk => ?_) (fun _ h => h)
    obtain ⟨e1, e2⟩ := hk
    have e1 := e1.symm
    subst e1
    rw [e2]
    exact MC.mono (c_real hB hF (by omega) (sup_nd hZ n1 n2)) (fun r2 κ hk => ⟨hk.1, hk.2.1, Or.inr hk.2.2⟩) (fun _ h => h)
  · rw [r20] at k k4
    rw [h72] at h0
    exact ⟨rfl, by rw [if_neg k, if_neg (fun h => by have := h.2; omega)], Or.inl rfl⟩
  · rw [r20] at k
    have n1 := rt_32 hx k
    rw [if_pos k]
    refine MC.mono (c_super hF (by omega) (n1.mi hB hF rfl rfl)) (fun r1 κ hk => ?_) (fun _ h => h)
    obtain ⟨e1, e2⟩ := hk
    have e1 := e1.symm
    subst e1
    rw [e2]
    exact MC.mono (c_real hB hF (by omega) (sup_nd hZ n1 k)) (fun r2 κ hk => ⟨hk.1, hk.2.1, Or.inr hk.2.2⟩) (fun _ h => h)
theorem wa_rt (hZ : TZ μ ζ) (hR : RvO μ ζ ρ) (hx : RT μ ζ x) : waV ζ ρ x = -1 ∨ RT μ ζ (waV ζ ρ x) := by
  unfold waV
  by_cases k : ζ.2.1 20 x.toNatClampNeg = 32
  · rw [if_pos k]; exact Or.inr (rl_rt hZ.1 (sup_nd hZ (rt_32 hx k) k))
  · rw [if_neg k]
    by_cases k4 : ζ.2.1 20 x.toNatClampNeg = 4 ∧ 0 ≤ (ρ x.toNatClampNeg).toInt
    · rw [if_pos k4]
      obtain ⟨-, n1, n2⟩ := hR.lv hZ.1 hx k4.2
      exact Or.inr (rl_rt hZ.1 (sup_nd hZ n1 n2))
    · rw [if_neg k4]; exact Or.inl rfl
/-- a TYPE met on the way up: the end, or told by a TYPE's number -/
theorem wa_told (hZ : TZ μ ζ) (hR : RvO μ ζ ρ) (hx : RT μ ζ x) (h0 : 0 ≤ (waV ζ ρ x).toInt) (ho : Ob ζ (waV ζ ρ x)) : ζ.2.1 20 (waV ζ ρ x).toNatClampNeg = 26 ∨ ∃ k : Nat, (k : Int) < (ζ.1 60).toInt ∧ ((ζ.2.1 20 (ζ.2.1 61 k).toNatClampNeg = 4 ∧ waV ζ ρ x = ζ.2.1 61 k) ∨ (ζ.2.1 20 (ζ.2.1 61 k).toNatClampNeg = 3 ∧ waV ζ ρ x = ζ.2.1 23 (ζ.2.1 61 k).toNatClampNeg)) := by
  have hB := hZ.1
  have key : ∀ l : Int32, Nd ζ 0 l → ζ.2.1 20 l.toNatClampNeg = 32 → Ob ζ (rlV ζ (supV ζ l)) → ζ.2.1 20 (rlV ζ (supV ζ l)).toNatClampNeg = 26 ∨ ∃ k : Nat, (k : Int) < (ζ.1 60).toInt ∧ ((ζ.2.1 20 (ζ.2.1 61 k).toNatClampNeg = 4 ∧ rlV ζ (supV ζ l) = ζ.2.1 61 k) ∨ (ζ.2.1 20 (ζ.2.1 61 k).toNatClampNeg = 3 ∧ rlV ζ (supV ζ l) = ζ.2.1 23 (ζ.2.1 61 k).toNatClampNeg)) := fun l hl kl ho => by
    rcases hZ.2.2.2.1 l hl kl with e | e
    · rcases rl_at hB (sup_nd hZ hl kl) with ⟨-, h⟩ | ⟨-, h | ⟨-, e, h1, h2, h3⟩⟩
      · exact absurd e h
      · obtain ⟨-, hk, -, -, k, k1, k2⟩ := h
        refine Or.inr ⟨k, k1, Or.inl ⟨?_, k2.symm⟩⟩
        rw [k2]
        rcases hk with hk | hk
        · rcases ho with ho | ho | ho <;> (rw [hk] at ho; exact absurd ho (by decide))
        · exact hk
      · obtain ⟨-, -, -, -, k, k1, k2⟩ := h1
        refine Or.inr ⟨k, k1, Or.inr ⟨?_, ?_⟩⟩
        · rw [k2]; exact h2
        · rw [k2]; exact h3
    · refine Or.inl ?_
      rw [rl_id (fun h => by rw [e] at h; exact absurd h (by decide))]
      exact e
  unfold waV at h0 ho ⊢
  by_cases k : ζ.2.1 20 x.toNatClampNeg = 32
  · rw [if_pos k] at ho ⊢
    exact key x (rt_32 hx k) k ho
  · rw [if_neg k] at h0 ho ⊢
    by_cases k4 : ζ.2.1 20 x.toNatClampNeg = 4 ∧ 0 ≤ (ρ x.toNatClampNeg).toInt
    · rw [if_pos k4] at ho ⊢
      obtain ⟨-, n1, n2⟩ := hR.lv hB hx k4.2
      exact key _ n1 n2 ho
    · rw [if_neg k4] at h0; exact absurd h0 (by decide)
theorem c_levelOf (hZ : TZ μ ζ) (hF : TF ζ ν) (h72 : ν.2.1 72 = ρ) (hR : RvO μ ζ ρ) (hd : 1 ≤ d) (hx : RT μ ζ x) : MC X W true d 392 [.ref P.1, .int x] P ν (fun r ν1 => ν1 = ν ∧ r = lvV ζ ρ x) T := by
  have hB := hZ.1
  have r20 : ν.2.1 20 = ζ.2.1 20 := hF.row rfl
  have r23 : ν.2.1 23 = ζ.2.1 23 := hF.row rfl
  have m20 : MI x (ν.2.2 20) := hx.mi hB hF rfl rfl
  have m72 : MI x (ν.2.2 72) := hx.mi hB hF rfl rfl
  unfold lvV
  refine me_meth (by omega) rfl (v_levelOf_0 _ ⟨m20, fun k => ⟨m20, fun k4 => ?_, fun k4 => ⟨m72, fun h0 => ?_, fun h0 => ⟨m72, ?_, ?_⟩⟩⟩, fun k => ?_⟩)
  · rw [r20] at k k4
    exact ⟨rfl, by rw [if_neg k, if_neg (fun h => k4 h.1)]⟩
  · rw [r20] at k k4
    rw [h72] at h0
    exact ⟨rfl, by rw [if_neg k, if_neg (fun h => by have := h.2; omega)]⟩
  · rw [h72] at h0 ⊢
    obtain ⟨⟨⟨i0, i1⟩, -⟩, -⟩ := hR.lv hB hx h0
    exact MI.of ((hF.1.2.2).g rfl rfl : _ = 16000) i0 (by have := hB.n16; omega)
  · rw [r20] at k k4
    rw [h72] at h0 ⊢
    rw [r23, if_neg k, if_pos ⟨k4, h0⟩]
    exact ⟨rfl, rfl⟩
  · rw [r20] at k
    exact ⟨rfl, by rw [if_pos k]⟩
theorem lv_nd (hZ : TZ μ ζ) (hR : RvO μ ζ ρ) (hx : RT μ ζ x) : lvV ζ ρ x = -1 ∨ (Nd ζ 0 (lvV ζ ρ x) ∧ ζ.2.1 20 (lvV ζ ρ x).toNatClampNeg = 32) := by
  unfold lvV
  by_cases k : ζ.2.1 20 x.toNatClampNeg = 32
  · rw [if_pos k]; exact Or.inr ⟨rt_32 hx k, k⟩
  · rw [if_neg k]
    by_cases k4 : ζ.2.1 20 x.toNatClampNeg = 4 ∧ 0 ≤ (ρ x.toNatClampNeg).toInt
    · rw [if_pos k4]
      exact Or.inr (hR.lv hZ.1 hx k4.2).2
    · rw [if_neg k4]; exact Or.inl rfl
/-- the OPAQUE type that a REVEAL tells of -/
def opV (ζ : MS) (e : Int32) : Int32 := if ζ.2.1 20 (dcl ζ e).toNatClampNeg = 4 then dcl ζ e else if ζ.2.1 20 (rlV ζ (ζ.2.1 23 (dcl ζ e).toNatClampNeg)).toNatClampNeg = 4 then rlV ζ (ζ.2.1 23 (dcl ζ e).toNatClampNeg) else -1
theorem dk_q (hB : TB μ ζ) (hq : QK ζ (ζ.2.1 22 x.toNatClampNeg) 3 4) : Dk μ ζ (dcl ζ x) := by
  obtain ⟨-, q2, q3, q4, -⟩ := hq
  have hc := @ic (ζ.2.1 28 (ζ.2.1 22 x.toNatClampNeg).toNatClampNeg)
  have hB2 := hB
  obtain ⟨-, hR, hz⟩ := hB2
  obtain ⟨-, hSy, -⟩ := hR.2.2.2.2.2 hz
  have k : Dk μ ζ (ζ.2.1 46 (ζ.2.1 28 (ζ.2.1 22 x.toNatClampNeg).toNatClampNeg).toNatClampNeg) := by
    rcases hSy (ζ.2.1 28 (ζ.2.1 22 x.toNatClampNeg).toNatClampNeg).toNatClampNeg (by omega) with e | e | ⟨e, ⟨w, hw⟩, e3, ⟨e4, e5⟩, e6⟩ | ⟨e, -⟩ | ⟨e, -⟩
    · rw [e] at q4; rcases q4 with q4 | q4 <;> exact absurd q4 (by decide)
    · rw [e] at q4; rcases q4 with q4 | q4 <;> exact absurd q4 (by decide)
    · obtain ⟨d1, d2, d3, -⟩ := hB.dc hw
      have r20 : ζ.2.1 20 = μ.2.1 20 := hR.1.2.1 20 rfl
      rw [← r20] at e3
      have hc2 := @ic (ζ.2.1 47 (ζ.2.1 28 (ζ.2.1 22 x.toNatClampNeg).toNatClampNeg).toNatClampNeg)
      refine ⟨⟨w, hw⟩, by rw [e3]; exact e, d1, d3 ?_ ?_, _, ?_, e6⟩
      · rw [e3]; intro h; rw [h] at e; rcases e with e | e <;> exact absurd e (by decide)
      · rw [e3]; intro h; rw [h] at e; rcases e with e | e <;> exact absurd e (by decide)
      · omega
    · rw [e] at q4; rcases q4 with q4 | q4 <;> exact absurd q4 (by decide)
    · rw [e] at q4; rcases q4 with q4 | q4 <;> exact absurd q4 (by decide)
  exact k
/-- a REVEAL -/
theorem TB.rq (hB : TB μ ζ) (hd : DcO μ w e) (ek : ζ.2.1 20 e.toNatClampNeg = 5 ∨ ζ.2.1 20 e.toNatClampNeg = 6) : Nd ζ 7 (ζ.2.1 22 e.toNatClampNeg) := by
  obtain ⟨hw, m, ho, d0⟩ := hd
  have hg := hB.g hw
  obtain ⟨hP, hR, hz⟩ := hB
  have r20 : ζ.2.1 20 = μ.2.1 20 := hR.1.2.1 20 rfl
  have r27 : ζ.2.1 27 = μ.2.1 27 := hR.1.2.1 27 rfl
  obtain ⟨⟨c, hc⟩, -⟩ := hR.2.2.2.2.2 hz
  obtain ⟨-, -, f2, -⟩ := hc w hw
  have f2' : μ.2.1 20 (μ.2.1 42 w).toNatClampNeg = 1 := by rw [← r20]; exact f2
  have r24 : ζ.2.1 24 (μ.2.1 42 w).toNatClampNeg = μ.2.1 24 (μ.2.1 42 w).toNatClampNeg := (hR.2.2.1 2 _ (by omega)).resolve_right (fun h => by rw [f2'] at h; exact absurd h.1 (by decide))
  obtain ⟨g1, g2, g3, g4⟩ := hg
  have gl := g4 2 (by omega)
  rw [f2] at gl
  obtain ⟨m2, gl⟩ : ∃ m2, Lst (G ζ 399 (fun j => (j : Int) < (ζ.1 19).toInt ∧ j ≠ (μ.2.1 42 w).toNatClampNeg) 4) (ζ.2.1 27) m2 (ζ.2.1 24 (μ.2.1 42 w).toNatClampNeg) := gl
  rw [r27, r24] at gl
  have hG := Lst.onl d0 gl ho
  obtain ⟨y1, y2, y3, y4⟩ := hG
  have y5 := y4 0 (by omega)
  have fw : fW (ζ.2.1 20 e.toNatClampNeg).toNatClampNeg 0 = (1, 7) := by rcases ek with h | h <;> (rw [h]; rfl)
  rw [fw] at y5
  have y6 : G ζ 398 (fun j => ((j : Int) < (ζ.1 19).toInt ∧ j ≠ (μ.2.1 42 w).toNatClampNeg) ∧ j ≠ e.toNatClampNeg) 7 (ζ.2.1 22 e.toNatClampNeg) := y5.1
  obtain ⟨z1, z2, z3, z4⟩ := y6
  have z3' := z3
  have z3 : ([11] : List Int32).contains (ζ.2.1 20 (ζ.2.1 22 e.toNatClampNeg).toNatClampNeg) = true := z3
  have ek11 : ζ.2.1 20 (ζ.2.1 22 e.toNatClampNeg).toNatClampNeg = 11 := by simpa using z3
  have no : ∀ f, f < 5 → ∀ (E : Nat → Int32 → Prop) (v : Int32), FO E (ζ.2.1 27) (fW (ζ.2.1 20 (ζ.2.1 22 e.toNatClampNeg).toNatClampNeg).toNatClampNeg f) v := fun f hf E v => by
    rw [ek11]
    have h5 : f = 0 ∨ f = 1 ∨ f = 2 ∨ f = 3 ∨ f = 4 := by omega
    rcases h5 with rfl | rfl | rfl | rfl | rfl <;> exact True.intro
  refine ⟨1, 1, ⟨z1, z3', ?_, fun f hf => no f hf _ _⟩, ⟨z1, by have := z2.1.1; exact this, z3', fun f hf => no f hf _ _⟩⟩
  unfold LN
  rw [ek11]
  refine ⟨fun h => absurd h (by decide), fun h => ?_, fun h => absurd h (by decide), fun h => ?_, fun h => ?_⟩
  · rcases h with h | h <;> exact absurd h (by decide)
  · rcases h with h | h <;> exact absurd h (by decide)
  · rcases h with h | h <;> exact absurd h (by decide)
theorem c_opaqueOf (hB : TB μ ζ) (hF : TF ζ ν) (hd : 5 ≤ d) (he : DcO μ w e) (ek : ζ.2.1 20 e.toNatClampNeg = 5 ∨ ζ.2.1 20 e.toNatClampNeg = 6) : MC X W true d 389 [.ref P.1, .int e] P ν (fun r ν1 => ν1 = ν ∧ r = opV ζ e ∧ (r = -1 ∨ (RT μ ζ r ∧ ζ.2.1 20 r.toNatClampNeg = 4))) T := by
  obtain ⟨⟨e0, e1⟩, -, -, hq, -⟩ := hB.dc he
  have hq := hq ek
  have hn := hB.rq he ek
  have hk := dk_q hB hq
  have hL := hF.1.2.2
  have hU := hB.2.1.2.1.1.2.1.1
  have h16 := hB.n16
  obtain ⟨-, q2, q3, -, q5⟩ := hq
  have e28 : ν.2.1 28 (ζ.2.1 22 e.toNatClampNeg).toNatClampNeg = ζ.2.1 28 (ζ.2.1 22 e.toNatClampNeg).toNatClampNeg := by
    exact hF.k28 q5 (by decide)
  have r20 : ν.2.1 20 = ζ.2.1 20 := hF.row rfl
  have r22 : ν.2.1 22 = ζ.2.1 22 := hF.row rfl
  have r23 : ν.2.1 23 = ζ.2.1 23 := hF.row rfl
  have r46 : ν.2.1 46 = ζ.2.1 46 := hF.row rfl
  have dd : ν.2.1 46 (ν.2.1 28 (ν.2.1 22 e.toNatClampNeg).toNatClampNeg).toNatClampNeg = dcl ζ e := by rw [r22, e28, r46]; rfl
  refine me_meth (by omega) rfl (v_opaqueOf_0 _ ⟨MI.of (hL.g rfl rfl : _ = 16000) e0 (by omega), ?_, ?_, ?_⟩)
  · rw [r22]; exact hn.mi hB hF rfl rfl
  · rw [r22, e28]; exact MI.of (hL.g rfl rfl : _ = 3200) q2 (by omega)
  rw [dd]
  refine ⟨hk.mi hB hF rfl rfl, fun k => ⟨hk.mi hB hF rfl rfl, ?_⟩, fun k => ⟨hk.mi hB hF rfl rfl, fun h => absurd k h, fun _ => ?_⟩⟩
  · rw [r23]
    rw [r20] at k
    refine MC.mono (c_real hB hF (by omega) hk.2.2.2.1) (fun r κ hr => ?_) (fun _ h => h)
    obtain ⟨e1, e2, e3⟩ := hr
    have e1 := e1.symm
    subst e1
    have e5 : opV ζ e = if ζ.2.1 20 (rlV ζ (ζ.2.1 23 (dcl ζ e).toNatClampNeg)).toNatClampNeg = 4 then rlV ζ (ζ.2.1 23 (dcl ζ e).toNatClampNeg) else -1 := by unfold opV; rw [if_neg k]
    refine ⟨e3.mi hB hF rfl rfl, fun h => ?_, fun h => ?_⟩
    · rw [r20, e2] at h
      exact ⟨rfl, by rw [e5, if_neg h], Or.inl rfl⟩
    · rw [r20] at h
      refine ⟨rfl, ?_, Or.inr ⟨e3, h⟩⟩
      rw [e2] at h ⊢
      rw [e5, if_pos h]
  · rw [r20] at k
    refine ⟨rfl, ?_, Or.inr ⟨Or.inr hk, k⟩⟩
    unfold opV
    rw [if_pos k]
end NNAG
