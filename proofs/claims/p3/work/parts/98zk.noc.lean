/-! contracts of the reference: memberOf -/
section NNAK
variable {X : ev_X} {W : Nat → Prop} {d : Nat} {P : MP} {μ ν ν0 ν1 κ ζ : MS} {T : MS → Prop} {x y p q a b s t r e u : Int32} {ρ : Nat → Int32} {w c : Nat}
abbrev MFs : List Nat := [67, 69, 74, 76, 77, 80]
theorem lv_row (hZ : TZ μ ζ) (hl : Nd ζ 0 x ∧ ζ.2.1 20 x.toNatClampNeg = 32) : (∃ m, Lst (Nd ζ 10) (ζ.2.1 27) m (ζ.2.1 23 x.toNatClampNeg)) ∧ (∃ m, Lst (Nd ζ 11) (ζ.2.1 27) m (ζ.2.1 24 x.toNatClampNeg)) ∧ ∃ m, Lst (Nd ζ 12) (ζ.2.1 27) m (ζ.2.1 25 x.toNatClampNeg) := by
  obtain ⟨hn, k⟩ := hl
  have fld : ∀ (f s : Nat), f < 5 → fW (32 : Int32).toNatClampNeg f = (3, s) → ∃ m, Lst (Nd ζ s) (ζ.2.1 27) m (ζ.2.1 (22 + f) x.toNatClampNeg) := fun f s hf hw => by
    have fa := hn.fld (f := f) hf
    rw [k, hw] at fa
    exact fa
  exact ⟨fld 1 10 (by omega) rfl, fld 2 11 (by omega) rfl, fld 3 12 (by omega) rfl⟩
/-- METHODs of a LEVEL looked at -/
theorem mb_196 (hB : TB μ ζ) {nm x5 t0 : Int32} (hF : TF ζ ν) (hK : JK ζ ν) (hk : kf MFs BFr ν0 ν) (h80 : ν.1 80 = x) (hx : RT μ ζ x ∧ Ob ζ x ∧ Sb ζ ρ t x) (hl0 : x5 = lvV ζ ρ x ∧ 0 ≤ x5.toInt ∨ x5 = -1)
    (next : MC X W true d 388 [.ref P.1, .int u, .int x] P ν (fun r1 μ1 => ME X W true d 391 13 [(0, .ref P.1), (1, .int u), (2, .int t0), (3, .int nm), (4, .int r1)] [] P μ1 (MbR μ ζ ρ t nm ν0) T) (fun _ => False)) : ∀ (m : Nat) (x6 : Int32), Lst (Nd ζ 11) (ζ.2.1 27) m x6 → (x5 = -1 → x6 = -1) → (∀ j r, FstN ζ nm j x6 r → ∃ j', FstN ζ nm j' (ζ.2.1 24 (lvV ζ ρ x).toNatClampNeg) r) → ME X W true d 391 196 [(0, .ref P.1), (1, .int u), (2, .int t0), (3, .int nm), (4, .int x), (5, .int x5), (6, .int x6)] [] P ν (MbR μ ζ ρ t nm ν0) T := by
  have fin : ∀ x6 : Int32, x6 = -1 → ME X W true d 391 196 [(0, .ref P.1), (1, .int u), (2, .int t0), (3, .int nm), (4, .int x), (5, .int x5), (6, .int x6)] [] P ν (MbR μ ζ ρ t nm ν0) T := fun x6 e => by
    subst e
    exact v_memberOf_196 _ _ _ _ _ _ ⟨fun _ => next, fun h => absurd h (by decide)⟩
  intro m
  induction m with
  | zero => intro x6 hL _ _; exact fin x6 hL
  | succ m ih =>
    intro x6 hL h5 hpre
    rcases hL with hL | ⟨h6, hL⟩
    · exact fin x6 hL
    have l0 : x5 = lvV ζ ρ x ∧ 0 ≤ x5.toInt := hl0.resolve_right (fun e => by have := h5 e; have i := h6.in.1; rw [this] at i; exact absurd i (by decide))
    refine v_memberOf_196 _ _ _ _ _ _ ⟨fun h => by have := h6.in.1; omega, fun _ => ⟨h6.mi hB hF rfl rfl, fun hne => ⟨h6.mi hB hF rfl rfl, ?_⟩, fun he => ?_⟩⟩
    · rw [hF.row (g := 22) rfl] at hne
      rw [hF.row (g := 27) rfl]
      exact ih _ hL (fun e => by have := l0.2; rw [e] at this; exact absurd this (by decide)) (fun j r hj => hpre (j + 1) r ⟨⟨h6.in.1, hne⟩, hj⟩)
    · rw [hF.row (g := 22) rfl] at he
      refine ⟨⟨hF, hK, hk⟩, Or.inr ?_⟩
      rw [h80]
      exact ⟨hx, by rw [← l0.1]; exact l0.2, Or.inr ⟨h6, hpre 0 x6 ⟨⟨rfl, h6.in.1⟩, he⟩⟩⟩
/-- FIELDs of a LEVEL looked at -/
theorem mb_147 (hZ : TZ μ ζ) {nm x5 t0 : Int32} (hF : TF ζ ν) (hK : JK ζ ν) (hk : kf MFs BFr ν0 ν) (h80 : ν.1 80 = x) (hx : RT μ ζ x ∧ Ob ζ x ∧ Sb ζ ρ t x) (hl0 : (x5 = lvV ζ ρ x ∧ Nd ζ 0 x5 ∧ ζ.2.1 20 x5.toNatClampNeg = 32) ∨ x5 = -1)
    (next : MC X W true d 388 [.ref P.1, .int u, .int x] P ν (fun r1 μ1 => ME X W true d 391 13 [(0, .ref P.1), (1, .int u), (2, .int t0), (3, .int nm), (4, .int r1)] [] P μ1 (MbR μ ζ ρ t nm ν0) T) (fun _ => False)) : ∀ (m : Nat) (x6 : Int32), Lst (Nd ζ 10) (ζ.2.1 27) m x6 → (x5 = -1 → x6 = -1) → (∀ j r, FstN ζ nm j x6 r → ∃ j', FstN ζ nm j' (ζ.2.1 23 (lvV ζ ρ x).toNatClampNeg) r) → ME X W true d 391 147 [(0, .ref P.1), (1, .int u), (2, .int t0), (3, .int nm), (4, .int x), (5, .int x5), (6, .int x6)] [] P ν (MbR μ ζ ρ t nm ν0) T := by
  have hB := hZ.1
  have l2 : x5 = lvV ζ ρ x ∧ 0 ≤ x5.toInt ∨ x5 = -1 := hl0.imp (fun h => ⟨h.1, h.2.1.in.1⟩) id
  have fin : ∀ x6 : Int32, x6 = -1 → ME X W true d 391 147 [(0, .ref P.1), (1, .int u), (2, .int t0), (3, .int nm), (4, .int x), (5, .int x5), (6, .int x6)] [] P ν (MbR μ ζ ρ t nm ν0) T := fun x6 e => by
    subst e
    refine v_memberOf_147 _ _ _ _ _ _ ⟨fun _ => ⟨fun h0 => ?_, fun h0 => ?_⟩, fun h => absurd h (by decide)⟩
    · obtain ⟨e5, n5, k5⟩ := hl0.resolve_right (fun e => by rw [e] at h0; exact absurd h0 (by decide))
      refine ⟨n5.mi hB hF rfl rfl, ?_⟩
      rw [hF.k24 (Or.inl rfl) (sfx_of k5 rfl)]
      obtain ⟨-, ⟨m, hm⟩, -⟩ := lv_row hZ ⟨n5, k5⟩
      exact mb_196 hB hF hK hk h80 hx l2 next m _ hm (fun e => by rw [e] at h0; exact absurd h0 (by decide)) (fun j r hj => ⟨j, by rw [← e5]; exact hj⟩)
    · have e5 : x5 = -1 := hl0.resolve_left (fun h => by have := h.2.1.in.1; omega)
      refine mb_196 hB hF hK hk h80 hx l2 next 0 (-1) rfl (fun _ => rfl) (fun j r hj => ?_)
      cases j with
      | zero =>
        obtain ⟨⟨a1, a2⟩, -⟩ := hj
        rw [← a1] at a2
        exact absurd a2 (by decide)
      | succ j => exact absurd hj.1.1 (by decide)
  intro m
  induction m with
  | zero => intro x6 hL _ _; exact fin x6 hL
  | succ m ih =>
    intro x6 hL h5 hpre
    rcases hL with hL | ⟨h6, hL⟩
    · exact fin x6 hL
    have l0 : x5 = lvV ζ ρ x ∧ 0 ≤ x5.toInt := l2.resolve_right (fun e => by have := h5 e; have i := h6.in.1; rw [this] at i; exact absurd i (by decide))
    refine v_memberOf_147 _ _ _ _ _ _ ⟨fun h => by have := h6.in.1; omega, fun _ => ⟨h6.mi hB hF rfl rfl, fun hne => ⟨h6.mi hB hF rfl rfl, ?_⟩, fun he => ?_⟩⟩
    · rw [hF.row (g := 22) rfl] at hne
      rw [hF.row (g := 27) rfl]
      exact ih _ hL (fun e => by have := l0.2; rw [e] at this; exact absurd this (by decide)) (fun j r hj => hpre (j + 1) r ⟨⟨h6.in.1, hne⟩, hj⟩)
    · rw [hF.row (g := 22) rfl] at he
      refine ⟨⟨hF, hK, hk⟩, Or.inr ?_⟩
      rw [h80]
      exact ⟨hx, by rw [← l0.1]; exact l0.2, Or.inl ⟨h6, hpre 0 x6 ⟨⟨rfl, h6.in.1⟩, he⟩⟩⟩
theorem mb_13 (hZ : TZ μ ζ) (h72 : ν0.2.1 72 = ρ) (hR : RvO μ ζ ρ) (hd : 12 ≤ d) (hu : 0 ≤ u.toInt ∧ u.toInt < (μ.1 41).toInt) {nm t0 : Int32} : ∀ (n c : Nat) (x4 : Int32) (ν : MS), (ζ.1 19).toInt.toNat - c ≤ n → WyM ζ ν c → TF ζ ν → JK ζ ν → kf MFs BFr ν0 ν → (x4 = -1 ∨ (RT μ ζ x4 ∧ Sb ζ ρ t x4)) → ME X W true d 391 13 [(0, .ref P.1), (1, .int u), (2, .int t0), (3, .int nm), (4, .int x4)] [] P ν (MbR μ ζ ρ t nm ν0) T := by
  have hB := hZ.1
  have one : ∀ (c : Nat) (x4 : Int32) (ν : MS), WyM ζ ν c → TF ζ ν → JK ζ ν → kf MFs BFr ν0 ν → (x4 = -1 ∨ (RT μ ζ x4 ∧ Sb ζ ρ t x4)) → (∀ (x4 : Int32) (ν : MS), WyM ζ ν (c + 1) → TF ζ ν → JK ζ ν → kf MFs BFr ν0 ν → (x4 = -1 ∨ (RT μ ζ x4 ∧ Sb ζ ρ t x4)) → ME X W true d 391 13 [(0, .ref P.1), (1, .int u), (2, .int t0), (3, .int nm), (4, .int x4)] [] P ν (MbR μ ζ ρ t nm ν0) T) → ME X W true d 391 13 [(0, .ref P.1), (1, .int u), (2, .int t0), (3, .int nm), (4, .int x4)] [] P ν (MbR μ ζ ρ t nm ν0) T := fun c x4 ν hW hF hK hk h4 nxt => by
    have no : ∀ κ, TF ζ κ → JK ζ κ → kf MFs BFr ν0 κ → MbR μ ζ ρ t nm ν0 (-1) κ := fun κ a1 a2 a3 => ⟨⟨a1, a2, a3⟩, Or.inl rfl⟩
    refine v_memberOf_13 _ _ _ _ ⟨fun _ => no ν hF hK hk, fun h0 => ?_⟩
    obtain ⟨t4, s4⟩ := h4.resolve_left (fun e => by rw [e] at h0; exact absurd h0 (by decide))
    refine MC.mono (c_isObject hF (by omega) (t4.mi hB hF rfl rfl)) (fun r κ hκ => ?_) (fun _ h => h)
    obtain ⟨e1, e2⟩ := hκ
    have e1 := e1.symm
    subst e1
    refine ⟨fun _ => no ν hF hK hk, fun hr => ⟨t4.mi hB hF rfl rfl, fun _ => no ν hF hK hk, fun hm => ?_⟩⟩
    have o4 : Ob ζ x4 := obV_n (by rw [← e2]; exact hr)
    have hx : RT μ ζ x4 ∧ Ob ζ x4 ∧ Sb ζ ρ t x4 := ⟨t4, o4, s4⟩
    have r20 : ν.2.1 20 = ζ.2.1 20 := hF.row rfl
    have r23 : ν.2.1 23 = ζ.2.1 23 := hF.row rfl
    have r72 : ν.2.1 72 = ρ := by rw [hk.2.1 72 rfl]; exact h72
    have k79 : kf [] [79] ν (mA1 ν 79 x4.toNatClampNeg (ν.1 77)) := kf.rf.A rfl
    have k80 : kf [80] [79] ν (mS1 (mA1 ν 79 x4.toNatClampNeg (ν.1 77)) 80 x4) := (kf.rf.A rfl).S rfl
    obtain ⟨ν', eν⟩ : ∃ ν' : MS, ν' = mS1 (mA1 ν 79 x4.toNatClampNeg (ν.1 77)) 80 x4 := ⟨_, rfl⟩
    have hF' : TF ζ ν' := by rw [eν]; exact hF.kf k80 rfl rfl
    have hK' : JK ζ ν' := by rw [eν]; exact JK.eq (ν := ν) rfl (fun _ _ => rfl) rfl hK
    have hk' : kf MFs BFr ν0 ν' := by rw [eν]; exact hk.tr (k80.up rfl rfl)
    have e80 : ν'.1 80 = x4 := by rw [eν]; rfl
    have hW' : WyM ζ ν' (c + 1) := by rw [eν]; exact (hW.add t4.inn hm).kf (kf.rf.S (s := [80]) (r := []) rfl) rfl rfl
    have r72' : ν'.2.1 72 = ρ := by rw [eν]; exact r72
    have up : MC X W true d 388 [.ref P.1, .int u, .int x4] P ν' (fun r1 μ1 => ME X W true d 391 13 [(0, .ref P.1), (1, .int u), (2, .int t0), (3, .int nm), (4, .int r1)] [] P μ1 (MbR μ ζ ρ t nm ν0) T) (fun _ => False) := by
      refine MC.mono (c_above hZ hF' hK' r72' hR (by omega) hu t4) (fun r2 κ2 hκ2 => ?_) (fun _ h => h)
      obtain ⟨⟨a1, a2, a3⟩, a4⟩ := hκ2
      exact nxt r2 κ2 (hW'.kf a3 rfl rfl) a1 a2 (hk'.tr (a3.up rfl rfl)) (a4.imp id (fun h => ⟨h.1, s4.trans h.2⟩))
    have hid : ME X W true d 391 147 [(0, .ref P.1), (1, .int u), (2, .int t0), (3, .int nm), (4, .int x4), (5, .int (-1)), (6, .int (-1))] [] P ν' (MbR μ ζ ρ t nm ν0) T := mb_147 hZ hF' hK' hk' e80 hx (Or.inr rfl) up 0 (-1) rfl (fun _ => rfl) (fun j r hj => by
      cases j with
      | zero =>
        obtain ⟨⟨a1, a2⟩, -⟩ := hj
        rw [← a1] at a2
        exact absurd a2 (by decide)
      | succ j => exact absurd hj.1.1 (by decide))
    have see : ∀ l : Int32, l = lvV ζ ρ x4 → Nd ζ 0 l → ζ.2.1 20 l.toNatClampNeg = 32 → ME X W true d 391 147 [(0, .ref P.1), (1, .int u), (2, .int t0), (3, .int nm), (4, .int x4), (5, .int l), (6, .int (ζ.2.1 23 l.toNatClampNeg))] [] P ν' (MbR μ ζ ρ t nm ν0) T := fun l el nl kl => by
      obtain ⟨⟨m, hm⟩, -⟩ := lv_row hZ ⟨nl, kl⟩
      exact mb_147 hZ hF' hK' hk' e80 hx (Or.inl ⟨el, nl, kl⟩) up m _ hm (fun e => by have := nl.in.1; rw [e] at this; exact absurd this (by decide)) (fun j r hj => ⟨j, by rw [← el]; exact hj⟩)
    have m20 : MI x4 (ν.2.2 20) := t4.mi hB hF rfl rfl
    have m72 : MI x4 (ν.2.2 72) := t4.mi hB hF rfl rfl
    refine ⟨t4.mi hB hF rfl rfl, m20, fun k => ⟨m20, fun k4 => ?_, fun k4 => ⟨m72, fun hρ => ?_, fun hρ => ⟨m72, ?_⟩⟩⟩, fun k => ⟨fun _ => ⟨t4.mi hB hF rfl rfl, ?_⟩, fun h => by omega⟩⟩
    · rw [← eν]; exact hid
    · rw [← eν]; exact hid
    · rw [r20] at k k4
      have hρ' : 0 ≤ (ρ x4.toNatClampNeg).toInt := by rw [← r72]; exact hρ
      obtain ⟨⟨⟨i0, i1⟩, -⟩, n1, n2⟩ := hR.lv hB t4 hρ'
      have el : ζ.2.1 23 (ρ x4.toNatClampNeg).toNatClampNeg = lvV ζ ρ x4 := by
        unfold lvV
        rw [if_neg k, if_pos ⟨k4, hρ'⟩]
      rw [r72]
      refine MC.mono (c_sees hB (hF.kf k79 rfl rfl) (by omega) hu.1 hu.2 i0 i1) (fun r2 κ hκ => ?_) (fun _ h => h)
      have e1 := hκ.1
      subst e1
      refine ⟨fun _ => ?_, fun _ => ⟨t4.mi hB (hF.kf k79 rfl rfl) rfl rfl, ?_, fun _ => ⟨?_, ?_⟩, fun h => ?_⟩⟩
      · rw [← eν]; exact hid
      · show MI (ν.2.1 72 x4.toNatClampNeg) _
        rw [r72]; exact MI.of ((hF.1.2.2).g rfl rfl : _ = 16000) i0 (by have := hB.n16; omega)
      · show MI (ν.2.1 23 (ν.2.1 72 x4.toNatClampNeg).toNatClampNeg) _
        rw [r72, r23]; exact (n1.mi (ν := ν) hB hF rfl rfl : MI _ (ν.2.2 23))
      · show ME X W true d 391 147 [(0, .ref P.1), (1, .int u), (2, .int t0), (3, .int nm), (4, .int x4), (5, .int (ν.2.1 23 (ν.2.1 72 x4.toNatClampNeg).toNatClampNeg)), (6, .int (ν.2.1 23 (ν.2.1 23 (ν.2.1 72 x4.toNatClampNeg).toNatClampNeg).toNatClampNeg))] [] P (mS1 (mA1 ν 79 x4.toNatClampNeg (ν.1 77)) 80 x4) (MbR μ ζ ρ t nm ν0) T
        rw [r72, r23, ← eν]
        exact see _ el n1 n2
      · have h : (ν.2.1 23 (ν.2.1 72 x4.toNatClampNeg).toNatClampNeg).toInt < 0 := h
        rw [r72, r23] at h
        have := n1.in.1
        omega
    · rw [r20] at k
      rw [r23, ← eν]
      exact see x4 (by unfold lvV; rw [if_pos k]) (rt_32 t4 k) k
  intro n
  induction n with
  | zero =>
    intro c x4 ν hn hW hF hK hk h4
    exact one c x4 ν hW hF hK hk h4 (fun y κ hW' _ _ _ _ => by have := hW'.le; have := hW.le; omega)
  | succ n ih =>
    intro c x4 ν hn hW hF hK hk h4
    exact one c x4 ν hW hF hK hk h4 (fun y κ hW' w2 w3 w4 w5 => ih (c + 1) y κ (by omega) hW' w2 w3 w4 w5)
theorem c_memberOf (hZ : TZ μ ζ) (hF : TF ζ ν) (hK : JK ζ ν) (h72 : ν.2.1 72 = ρ) (hR : RvO μ ζ ρ) (hd : 13 ≤ d) (hu : 0 ≤ u.toInt ∧ u.toInt < (μ.1 41).toInt) (ht : RT μ ζ t) {nm : Int32} : MC X W true d 391 [.ref P.1, .int u, .int t, .int nm] P ν (MbR μ ζ ρ t nm ν) T := by
  have k0 : kf [77] [] ν (mS1 ν 77 (ν.1 77 + 1)) := kf.rf.S rfl
  exact me_meth (by omega) rfl (v_memberOf_0 _ _ _ (mb_13 hZ h72 hR (by omega) hu (ζ.1 19).toInt.toNat 0 t _ (by omega) ⟨fun _ => 0, fun i hi => by omega, fun i j _ hj => by omega⟩ (hF.kf k0 rfl rfl) (JK.eq (ν := ν) rfl (fun _ _ => rfl) rfl hK) (k0.up rfl rfl) (Or.inr ⟨ht, Sb.rf⟩)))
end NNAK
