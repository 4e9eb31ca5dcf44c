/-! contracts of the reference: arms, HANDLERs and BRANCHes named -/
section NMW
variable {X : ev_X} {W : Nat → Prop} {d h K : Nat} {P : MP} {μ ν : MS} {V V0 : Int32 → Prop} {n N lo hi : Int} {Γ : List Int32} {R : Int32 → MS → Prop} {T : MS → Prop} {s : Int32}
theorem arms_loop (hE : ExC X W P d h) (hS : StsN X W P d h K) (h0 : 0 ≤ lo) (hN : hi ≤ N) : ∀ (m : Nat) (l : Int) (w : Nat) (x : Int32) (ν : MS), SF (bt lo hi) μ ν → lo ≤ l → CXs n N (VS V0 Γ) w ν → WL (PK μ h K 0 13) (μ.2.1 27) m l hi w x → (∀ ζ : MS, SFw (bt l hi) w ν ζ → (ζ.1 17 = 0 → WL (fun lo hi _ i => PNK ζ h V0 K 0 Γ 13 lo hi i) (ζ.2.1 27) m l hi 0 x) → ME X W true d 360 202 [(0, .ref P.1), (1, .int s), (2, .int (-1))] [] P ζ R T) → ME X W true d 360 202 [(0, .ref P.1), (1, .int s), (2, .int x)] [] P ν R T
  | 0, l, w, x, ν, hν, hl, hC, hx, ct => by
    obtain ⟨hx, hlh⟩ := hx
    subst hx
    exact ct ν (SFw.rf.sub (fun _ h => h) (Nat.zero_le _)) (fun _ => ⟨rfl, hlh⟩)
  | m + 1, l, w, x, ν, hν, hl, hC, hx, ct => by
    rcases hx with ⟨hx, hlh⟩ | ⟨mid, v, ⟨k1, k2, k3⟩, k4, k5⟩
    · subst hx
      exact ct ν (SFw.rf.sub (fun _ h => h) (Nat.zero_le _)) (fun _ => Or.inl ⟨rfl, hlh⟩)
    obtain ⟨⟨i1, i2, i3⟩, g3, c, u, ⟨b0, b5⟩, hw, F⟩ := k4
    have hcx := @ic x
    have ek : μ.2.1 20 x.toNatClampNeg = 45 := by
      have g3 : ([45] : List Int32).contains (μ.2.1 20 x.toNatClampNeg) = true := g3
      simpa using g3
    rw [ek] at hw F
    have F0 : FK μ h K 0 (2, 1) (c 0) (c 1) (u 0) (μ.2.1 22 x.toNatClampNeg) := F 0 (by decide)
    have F1 : FK μ h K 0 (3, 3) (c 1) (c 2) (u 1) (μ.2.1 23 x.toNatClampNeg) := F 1 (by decide)
    have q0 := F0.1
    have q1 := F1.1
    have q2 : c 2 ≤ c 3 := (F 2 (by decide)).1
    have q3 : c 3 ≤ c 4 := (F 3 (by decide)).1
    have q4 : c 4 ≤ c 5 := (F 4 (by decide)).1
    have e45 : ow (45 : Int32) = 0 := by decide
    have xN : bt 0 N x.toNatClampNeg := ⟨by omega, by omega⟩
    have s225 : ∀ κ : MS, SFw (bt (c 0) (c 1)) (u 0) ν κ → (κ.1 17 = 0 → ∀ B L, FNm κ h (VS V0 Γ) B L (2, 1) (c 0) (c 1) (μ.2.1 22 x.toNatClampNeg)) → ME X W true d 360 225 [(0, .ref P.1), (1, .int s), (2, .int x)] [] P κ R T := fun κ p1 p2 => by
      have hC1 : CXs n N (VS V0 Γ) (w - u 0) κ := CXs.sf (w := u 0) (by rw [show u 0 + (w - u 0) = w by omega]; exact hC) p1
      have hκ := hν.tr (p1.1.sub (C' := bt lo hi) (fun j hj => ⟨by have := hj.1; omega, by have := hj.2; omega⟩))
      refine v_nameStatement_225 _ _ ⟨hC1.mi rfl rfl i1 xN, ?_⟩
      rw [hκ.row (g := 23) rfl]
      refine MC.mono (nmf_b hS hC1 (by omega) (by omega) (by omega) hκ F1) (fun _ κ2 h2 => ?_) (fun _ h => h)
      obtain ⟨r1, r2⟩ := h2
      have tt := (p1.sub (C' := bt l mid) (fun j hj => ⟨by have := hj.1; omega, by have := hj.2; omega⟩) (Nat.le_refl _)).tr (r1.sub (C' := bt l mid) (fun j hj => ⟨by have := hj.1; omega, by have := hj.2; omega⟩) (Nat.le_refl _))
      have tt : SFw (bt l mid) v ν κ2 := tt.sub (fun _ h => h) (by omega)
      have hC2 : CXs n N (VS V0 Γ) (w - v) κ2 := CXs.sf (w := v) (by rw [show v + (w - v) = w by omega]; exact hC) tt
      have hκ2 := hν.tr (tt.1.sub (C' := bt lo hi) (fun j hj => ⟨by have := hj.1; omega, by have := hj.2; omega⟩))
      have k20 : κ2.2.1 20 x.toNatClampNeg = 45 := by rw [hκ2.row (g := 20) rfl]; exact ek
      have s48 : ¬ κ2.2.1 20 x.toNatClampNeg = 48 := by rw [k20]; decide
      have s52 : ¬ κ2.2.1 20 x.toNatClampNeg = 52 := by rw [k20]; decide
      have s61 : ¬ κ2.2.1 20 x.toNatClampNeg = 61 := by rw [k20]; decide
      refine ⟨hC2.mi rfl rfl i1 xN, ?_⟩
      rw [hκ2.row (g := 27) rfl]
      refine arms_loop hE hS h0 hN m mid (w - v) _ κ2 hκ2 (by omega) hC2 k5 (fun ζ z1 z2 => ct ζ ?_ (fun e => Or.inr ⟨mid, 0, ⟨k1, k2, Nat.le_refl _⟩, ?_, ?_⟩))
      · have t1 := SFw.tr (tt.sub (C' := bt l hi) (fun j hj => ⟨hj.1, by have := hj.2; omega⟩) (Nat.le_refl _)) (z1.sub (C' := bt l hi) (fun j hj => ⟨by have := hj.1; omega, hj.2⟩) (Nat.le_refl _))
        rw [show v + (w - v) = w by omega] at t1
        exact t1
      · have e2 := z1.1.z e
        refine PNK.sf z1.1 (fun j hj hj2 => by have := hj.2; have := hj2.1; omega) (PN1.of hκ2 ek (by decide) ⟨i1, i2, i3⟩ (by decide) (LN.no (by rw [k20]; decide)) (VN.no s48 s52 s61) ⟨b0, b5⟩ (fun f hf => ?_))
        rw [scp.no s48 s52 s61]
        have h5 : f = 0 ∨ f = 1 ∨ f = 2 ∨ f = 3 ∨ f = 4 := by omega
        rcases h5 with rfl | rfl | rfl | rfl | rfl
        · exact FNm.sx (a := (2, 1)) r1.1 (fun j hj hj2 => by have j1 : (j : Int) < c 1 := hj.2; have := hj2.1; omega) (by decide) (p2 (r1.1.z e2) (BN κ h V0 K Γ) (AN κ h V0 Γ (BN κ h V0 K) 0))
        · exact r2 e2 _
        · exact FNm.fr q2
        · exact FNm.fr q3
        · exact FNm.fr q4
      · have z3 := z2 e
        have zr : ζ.2.1 27 = μ.2.1 27 := (z1.1.row (g := 27) rfl).trans (hκ2.row (g := 27) rfl)
        rw [zr] at z3 ⊢
        exact z3
    refine v_nameStatement_202 _ _ ⟨fun h => by omega, fun _ => ⟨hC.mi rfl rfl i1 xN, fun hneg => ?_, fun hpos => ⟨hC.mi rfl rfl i1 xN, ?_⟩⟩⟩
    · rw [hν.row (g := 22) rfl] at hneg
      have hb : μ.2.1 22 x.toNatClampNeg = -1 := by
        rcases F0.2 with e | ⟨e, -⟩
        · exact e
        · have := e.1.in.1; omega
      refine s225 ν (SFw.rf.sub (fun _ h => h) (Nat.zero_le _)) (fun _ B L => ?_)
      rw [hb]
      exact FNm.no q0
    · rw [hν.row (g := 22) rfl] at hpos ⊢
      have F0' : FK μ h K 0 (1, 1) (c 0) (c 1) (u 0) (μ.2.1 22 x.toNatClampNeg) := by
        rcases F0.2 with e | e
        · rw [e] at hpos; exact absurd hpos (by decide)
        · exact ⟨q0, e⟩
      exact MC.mono (nmf_e hE hC (by omega) (by omega) hν F0') (fun _ κ hκ => s225 κ hκ.1 (fun e B L => FNm.opt (hκ.2 e B L))) (fun _ h => h)
/-- a node whose name is known within its statements: what it is at the end -/
theorem named_wi {C : Nat → Prop} {κ2 : MS} {kd x t : Int32} {so : Nat} {l mid : Int} {c : Nat → Int} {a0 : Nat × Nat} (hk : (kd = 52 ∧ t = -1) ∨ (kd = 61 ∧ t = κ2.2.1 22 x.toNatClampNeg)) (hκ2 : SF C μ κ2) (ek : μ.2.1 20 x.toNatClampNeg = kd) (hso : sK so kd = true) (hb : 0 ≤ x.toInt ∧ l ≤ x.toInt ∧ x.toInt < mid) (hL : LN κ2 x.toNatClampNeg) (hc : x.toInt + 1 ≤ c 0 ∧ c 5 ≤ mid) (q : c 3 ≤ c 4 ∧ c 4 ≤ c 5) (hw : fW kd.toNatClampNeg 0 = a0 ∧ fW kd.toNatClampNeg 1 = (1, 6) ∧ fW kd.toNatClampNeg 2 = (3, 3) ∧ fW kd.toNatClampNeg 3 = (0, 0) ∧ fW kd.toNatClampNeg 4 = (0, 0))
    (h0 : ∀ B L, FNm κ2 h (VS V0 Γ) B L a0 (c 0) (c 1) (μ.2.1 22 x.toNatClampNeg)) (h1 : ∀ B L, FNm κ2 h (VS V0 Γ) B L (1, 6) (c 1) (c 2) (μ.2.1 23 x.toNatClampNeg)) (hv : VX κ2 5 t (κ2.2.1 28 (μ.2.1 23 x.toNatClampNeg).toNatClampNeg)) (h2 : c 2 ≤ c 3 ∧ BN κ2 h V0 K (κ2.2.1 28 (μ.2.1 23 x.toNatClampNeg).toNatClampNeg :: Γ) (c 2) (c 3) (μ.2.1 24 x.toNatClampNeg)) : PNK κ2 h V0 K 0 Γ so l mid x := by
  have k20 : κ2.2.1 20 x.toNatClampNeg = kd := by rw [hκ2.row (g := 20) rfl]; exact ek
  have k23 := hκ2.row (g := 23) rfl
  have h70 : ¬ kd = 70 := by rcases hk with ⟨e, -⟩ | ⟨e, -⟩ <;> rw [e] <;> decide
  have h48 : ¬ kd = 48 := by rcases hk with ⟨e, -⟩ | ⟨e, -⟩ <;> rw [e] <;> decide
  have es : scp κ2 x.toNatClampNeg Γ = κ2.2.1 28 (μ.2.1 23 x.toNatClampNeg).toNatClampNeg :: Γ := by
    unfold scp
    rw [k20, k23, if_neg h48, if_pos (hk.imp (fun h => h.1) (fun h => h.1))]
  refine PN1.of hκ2 ek hso hb h70 hL ?_ hc (fun f hf => ?_)
  · unfold VN
    rw [k20, k23]
    refine ⟨fun e => absurd e h48, fun e => ?_, fun e => ?_⟩
    · rcases hk with ⟨-, k⟩ | ⟨k, -⟩
      · rw [← k]; exact hv
      · rw [k] at e; exact absurd e (by decide)
    · rcases hk with ⟨k, -⟩ | ⟨-, k⟩
      · rw [k] at e; exact absurd e (by decide)
      · rw [← k]; exact hv
  · rw [es]
    obtain ⟨w0, w1, w2, w3, w4⟩ := hw
    have h5 : f = 0 ∨ f = 1 ∨ f = 2 ∨ f = 3 ∨ f = 4 := by omega
    rcases h5 with rfl | rfl | rfl | rfl | rfl
    · rw [w0]; exact h0 _ _
    · rw [w1]; exact h1 _ _
    · rw [w2]; exact FNm.b h2.1 h2.2
    · rw [w3]; exact FNm.fr q.1
    · rw [w4]; exact FNm.fr q.2
theorem handlers_loop (hd : 3 ≤ d) (hW : WiN X W P d h K) (h0 : 0 ≤ lo) (hN : hi ≤ N) : ∀ (m : Nat) (l : Int) (w : Nat) (x : Int32) (ν : MS), SF (bt lo hi) μ ν → lo ≤ l → CXs n N (VS V0 Γ) w ν → WL (PK μ h K 0 14) (μ.2.1 27) m l hi w x → (∀ ζ : MS, SFw (bt l hi) w ν ζ → (ζ.1 17 = 0 → WL (fun lo hi _ i => PNK ζ h V0 K 0 Γ 14 lo hi i) (ζ.2.1 27) m l hi 0 x) → ME X W true d 360 369 [(0, .ref P.1), (1, .int s), (2, .int (-1))] [] P ζ R T) → ME X W true d 360 369 [(0, .ref P.1), (1, .int s), (2, .int x)] [] P ν R T
  | 0, l, w, x, ν, hν, hl, hC, hx, ct => by
    obtain ⟨hx, hlh⟩ := hx
    subst hx
    exact ct ν (SFw.rf.sub (fun _ h => h) (Nat.zero_le _)) (fun _ => ⟨rfl, hlh⟩)
  | m + 1, l, w, x, ν, hν, hl, hC, hx, ct => by
    rcases hx with ⟨hx, hlh⟩ | ⟨mid, v, ⟨k1, k2, k3⟩, k4, k5⟩
    · subst hx
      exact ct ν (SFw.rf.sub (fun _ h => h) (Nat.zero_le _)) (fun _ => Or.inl ⟨rfl, hlh⟩)
    obtain ⟨⟨i1, i2, i3⟩, g3, c, u, ⟨b0, b5⟩, hw, F⟩ := k4
    have hcx := @ic x
    have ek : μ.2.1 20 x.toNatClampNeg = 52 := by
      have g3 : ([52] : List Int32).contains (μ.2.1 20 x.toNatClampNeg) = true := g3
      simpa using g3
    rw [ek] at hw F
    have F0 : FK μ h K 0 (1, 7) (c 0) (c 1) (u 0) (μ.2.1 22 x.toNatClampNeg) := F 0 (by decide)
    have F1 : FK μ h K 0 (1, 6) (c 1) (c 2) (u 1) (μ.2.1 23 x.toNatClampNeg) := F 1 (by decide)
    have F2 : FK μ h K 0 (3, 3) (c 2) (c 3) (u 2) (μ.2.1 24 x.toNatClampNeg) := F 2 (by decide)
    have q0 := F0.1
    have q1 := F1.1
    have q2 := F2.1
    have q3 : c 3 ≤ c 4 := (F 3 (by decide)).1
    have q4 : c 4 ≤ c 5 := (F 4 (by decide)).1
    obtain ⟨-, ⟨gN, w6, -⟩, nN⟩ := F1
    have w6 := w6 rfl
    obtain ⟨-, bB, -⟩ := F2
    have bB := bB rfl
    have xN : bt 0 N x.toNatClampNeg := ⟨by omega, by omega⟩
    refine v_nameStatement_369 _ _ ⟨fun h => by omega, fun _ => ⟨hC.mi rfl rfl i1 xN, ?_⟩⟩
    rw [hν.row (g := 22) rfl]
    refine MC.mono (nmf_q hd hC (by omega) (by omega) hν F0) (fun _ κ hκ => ?_) (fun _ h => h)
    obtain ⟨p1, p2⟩ := hκ
    have hC1 : CXs n N (VS V0 Γ) (w - u 0) κ := CXs.sf (w := u 0) (by rw [show u 0 + (w - u 0) = w by omega]; exact hC) p1
    have hκ := hν.tr (p1.1.sub (C' := bt lo hi) (fun j hj => ⟨by have := hj.1; omega, by have := hj.2; omega⟩))
    have r24 : κ.2.1 24 x.toNatClampNeg = μ.2.1 24 x.toNatClampNeg := (hκ.fld (f := 2) (j := x.toNatClampNeg) (by decide)).resolve_right (fun h => by rw [ek] at h; exact absurd h.1 (by decide))
    refine ⟨hC1.mi rfl rfl i1 xN, hC1.mi rfl rfl i1 xN, ?_⟩
    rw [r24, hκ.row (g := 23) rfl]
    refine MC.mono (hW κ _ n N V0 Γ (c 1) (c 3) (c 2) (c 3) (u 2) _ _ _ _ (hC1.le (by omega)) (by omega) (by omega) q1 (Int.le_refl _) (G.ag hκ.ag (fun _ h => h) (Nat.le_refl _) gN) (BT.cg (Nat.le_refl _) K _ _ _ _ hκ.ag bB)) (fun _ κ2 h2 => ?_) (fun _ h => h)
    obtain ⟨r1, r2⟩ := h2
    have gNi := gN.in
    have ysub : ∀ j, (j = (μ.2.1 23 x.toNatClampNeg).toNatClampNeg ∨ bt (c 2) (c 3) j) → bt (c 1) (c 3) j := fun j hj => by
      rcases hj with e | hj
      · rw [e]; exact ⟨gNi.2.1, by have := gNi.2.2; omega⟩
      · exact ⟨by have := hj.1; omega, hj.2⟩
    have tt := (p1.sub (C' := bt l mid) (fun j hj => ⟨by have := hj.1; omega, by have := hj.2; omega⟩) (Nat.le_refl _)).tr (r1.sub (C' := bt l mid) (fun j hj => ⟨by have := (ysub j hj).1; omega, by have := (ysub j hj).2; omega⟩) (Nat.le_refl _))
    have tt : SFw (bt l mid) v ν κ2 := tt.sub (fun _ h => h) (by omega)
    have hC2 : CXs n N (VS V0 Γ) (w - v) κ2 := CXs.sf (w := v) (by rw [show v + (w - v) = w by omega]; exact hC) tt
    have hκ2 := hν.tr (tt.1.sub (C' := bt lo hi) (fun j hj => ⟨by have := hj.1; omega, by have := hj.2; omega⟩))
    have k20 : κ2.2.1 20 x.toNatClampNeg = 52 := by rw [hκ2.row (g := 20) rfl]; exact ek
    refine ⟨hC2.mi rfl rfl i1 xN, ?_⟩
    rw [hκ2.row (g := 27) rfl]
    refine handlers_loop hd hW h0 hN m mid (w - v) _ κ2 hκ2 (by omega) hC2 k5 (fun ζ z1 z2 => ct ζ ?_ (fun e => Or.inr ⟨mid, 0, ⟨k1, k2, Nat.le_refl _⟩, ?_, ?_⟩))
    · have t1 := SFw.tr (tt.sub (C' := bt l hi) (fun j hj => ⟨hj.1, by have := hj.2; omega⟩) (Nat.le_refl _)) (z1.sub (C' := bt l hi) (fun j hj => ⟨by have := hj.1; omega, hj.2⟩) (Nat.le_refl _))
      rw [show v + (w - v) = w by omega] at t1
      exact t1
    · have e2 := z1.1.z e
      obtain ⟨p3, p4⟩ := p2 (r1.1.z e2)
      obtain ⟨r3, r4⟩ := r2 e2
      refine PNK.sf z1.1 (fun j hj hj2 => by have := hj.2; have := hj2.1; omega) (named_wi (kd := 52) (t := -1) (a0 := (1, 7)) (Or.inl ⟨rfl, rfl⟩) hκ2 ek (by decide) ⟨i1, i2, i3⟩ ?_ ⟨b0, b5⟩ ⟨q3, q4⟩ (by decide) (fun B L => FNm.sx (a := (1, 7)) r1.1 (fun j hj hj2 => by have := hj.2; have := (ysub j hj2).1; omega) (by decide) (p4 (BN κ h V0 K Γ) (AN κ h V0 Γ (BN κ h V0 K) 0))) (fun B L => FNm.nm q1 (G.ag hκ2.ag (fun _ h => h) (Nat.le_refl _) gN) (by rw [hκ2.row (g := 27) rfl]; exact nN)) r3 ⟨q2, r4⟩)
      unfold LN
      rw [k20, hκ2.row (g := 22) rfl]
      exact ⟨fun e => absurd e (by decide), fun e => absurd e (by decide), fun e => absurd e (by decide), fun e => absurd e (by decide), fun _ => p3.sf r1.1⟩
    · have z3 := z2 e
      have zr : ζ.2.1 27 = μ.2.1 27 := (z1.1.row (g := 27) rfl).trans (hκ2.row (g := 27) rfl)
      rw [zr] at z3 ⊢
      exact z3
theorem branches_loop (hT : TyN X W P d h) (hW : WiN X W P d h K) (h0 : 0 ≤ lo) (hN : hi ≤ N) : ∀ (m : Nat) (l : Int) (w : Nat) (x : Int32) (ν : MS), SF (bt lo hi) μ ν → lo ≤ l → CXs n N (VS V0 Γ) w ν → WL (PK μ h K 0 15) (μ.2.1 27) m l hi w x → (∀ ζ : MS, SFw (bt l hi) w ν ζ → (ζ.1 17 = 0 → WL (fun lo hi _ i => PNK ζ h V0 K 0 Γ 15 lo hi i) (ζ.2.1 27) m l hi 0 x) → ME X W true d 360 491 [(0, .ref P.1), (1, .int s), (2, .int (-1))] [] P ζ R T) → ME X W true d 360 491 [(0, .ref P.1), (1, .int s), (2, .int x)] [] P ν R T
  | 0, l, w, x, ν, hν, hl, hC, hx, ct => by
    obtain ⟨hx, hlh⟩ := hx
    subst hx
    exact ct ν (SFw.rf.sub (fun _ h => h) (Nat.zero_le _)) (fun _ => ⟨rfl, hlh⟩)
  | m + 1, l, w, x, ν, hν, hl, hC, hx, ct => by
    rcases hx with ⟨hx, hlh⟩ | ⟨mid, v, ⟨k1, k2, k3⟩, k4, k5⟩
    · subst hx
      exact ct ν (SFw.rf.sub (fun _ h => h) (Nat.zero_le _)) (fun _ => Or.inl ⟨rfl, hlh⟩)
    obtain ⟨⟨i1, i2, i3⟩, g3, c, u, ⟨b0, b5⟩, hw, F⟩ := k4
    have hcx := @ic x
    have ek : μ.2.1 20 x.toNatClampNeg = 61 := by
      have g3 : ([61] : List Int32).contains (μ.2.1 20 x.toNatClampNeg) = true := g3
      simpa using g3
    rw [ek] at hw F
    have F0 : FK μ h K 0 (1, 0) (c 0) (c 1) (u 0) (μ.2.1 22 x.toNatClampNeg) := F 0 (by decide)
    have F1 : FK μ h K 0 (1, 6) (c 1) (c 2) (u 1) (μ.2.1 23 x.toNatClampNeg) := F 1 (by decide)
    have F2 : FK μ h K 0 (3, 3) (c 2) (c 3) (u 2) (μ.2.1 24 x.toNatClampNeg) := F 2 (by decide)
    have q0 := F0.1
    have q1 := F1.1
    have q2 := F2.1
    have q3 : c 3 ≤ c 4 := (F 3 (by decide)).1
    have q4 : c 4 ≤ c 5 := (F 4 (by decide)).1
    obtain ⟨-, ⟨gN, w6, -⟩, nN⟩ := F1
    have w6 := w6 rfl
    obtain ⟨-, bB, -⟩ := F2
    have bB := bB rfl
    have xN : bt 0 N x.toNatClampNeg := ⟨by omega, by omega⟩
    refine v_nameStatement_491 _ _ ⟨fun h => by omega, fun _ => ⟨hC.mi rfl rfl i1 xN, ?_⟩⟩
    rw [hν.row (g := 22) rfl]
    refine MC.mono (nmf_t hT hC (by omega) (by omega) hν F0) (fun _ κ hκ => ?_) (fun _ h => h)
    obtain ⟨p1, p2⟩ := hκ
    have hC1 : CXs n N (VS V0 Γ) (w - u 0) κ := CXs.sf (w := u 0) (by rw [show u 0 + (w - u 0) = w by omega]; exact hC) p1
    have hκ := hν.tr (p1.1.sub (C' := bt lo hi) (fun j hj => ⟨by have := hj.1; omega, by have := hj.2; omega⟩))
    have r24 : κ.2.1 24 x.toNatClampNeg = μ.2.1 24 x.toNatClampNeg := (hκ.fld (f := 2) (j := x.toNatClampNeg) (by decide)).resolve_right (fun h => by rw [ek] at h; exact absurd h.1 (by decide))
    refine ⟨hC1.mi rfl rfl i1 xN, hC1.mi rfl rfl i1 xN, hC1.mi rfl rfl i1 xN, ?_⟩
    rw [r24, hκ.row (g := 23) rfl, hκ.row (g := 22) rfl]
    refine MC.mono (hW κ _ n N V0 Γ (c 1) (c 3) (c 2) (c 3) (u 2) _ _ _ _ (hC1.le (by omega)) (by omega) (by omega) q1 (Int.le_refl _) (G.ag hκ.ag (fun _ h => h) (Nat.le_refl _) gN) (BT.cg (Nat.le_refl _) K _ _ _ _ hκ.ag bB)) (fun _ κ2 h2 => ?_) (fun _ h => h)
    obtain ⟨r1, r2⟩ := h2
    have gNi := gN.in
    have ysub : ∀ j, (j = (μ.2.1 23 x.toNatClampNeg).toNatClampNeg ∨ bt (c 2) (c 3) j) → bt (c 1) (c 3) j := fun j hj => by
      rcases hj with e | hj
      · rw [e]; exact ⟨gNi.2.1, by have := gNi.2.2; omega⟩
      · exact ⟨by have := hj.1; omega, hj.2⟩
    have tt := (p1.sub (C' := bt l mid) (fun j hj => ⟨by have := hj.1; omega, by have := hj.2; omega⟩) (Nat.le_refl _)).tr (r1.sub (C' := bt l mid) (fun j hj => ⟨by have := (ysub j hj).1; omega, by have := (ysub j hj).2; omega⟩) (Nat.le_refl _))
    have tt : SFw (bt l mid) v ν κ2 := tt.sub (fun _ h => h) (by omega)
    have hC2 : CXs n N (VS V0 Γ) (w - v) κ2 := CXs.sf (w := v) (by rw [show v + (w - v) = w by omega]; exact hC) tt
    have hκ2 := hν.tr (tt.1.sub (C' := bt lo hi) (fun j hj => ⟨by have := hj.1; omega, by have := hj.2; omega⟩))
    have k20 : κ2.2.1 20 x.toNatClampNeg = 61 := by rw [hκ2.row (g := 20) rfl]; exact ek
    refine ⟨hC2.mi rfl rfl i1 xN, ?_⟩
    rw [hκ2.row (g := 27) rfl]
    refine branches_loop hT hW h0 hN m mid (w - v) _ κ2 hκ2 (by omega) hC2 k5 (fun ζ z1 z2 => ct ζ ?_ (fun e => Or.inr ⟨mid, 0, ⟨k1, k2, Nat.le_refl _⟩, ?_, ?_⟩))
    · have t1 := SFw.tr (tt.sub (C' := bt l hi) (fun j hj => ⟨hj.1, by have := hj.2; omega⟩) (Nat.le_refl _)) (z1.sub (C' := bt l hi) (fun j hj => ⟨by have := hj.1; omega, hj.2⟩) (Nat.le_refl _))
      rw [show v + (w - v) = w by omega] at t1
      exact t1
    · have e2 := z1.1.z e
      have p4 := p2 (r1.1.z e2)
      obtain ⟨r3, r4⟩ := r2 e2
      exact PNK.sf z1.1 (fun j hj hj2 => by have := hj.2; have := hj2.1; omega) (named_wi (kd := 61) (t := μ.2.1 22 x.toNatClampNeg) (a0 := (1, 0)) (Or.inr ⟨rfl, by rw [hκ2.row (g := 22) rfl]⟩) hκ2 ek (by decide) ⟨i1, i2, i3⟩ (LN.no (by rw [k20]; decide)) ⟨b0, b5⟩ ⟨q3, q4⟩ (by decide) (fun B L => FNm.sx (a := (1, 0)) r1.1 (fun j hj hj2 => by have := hj.2; have := (ysub j hj2).1; omega) (by decide) (p4 (BN κ h V0 K Γ) (AN κ h V0 Γ (BN κ h V0 K) 0))) (fun B L => FNm.nm q1 (G.ag hκ2.ag (fun _ h => h) (Nat.le_refl _) gN) (by rw [hκ2.row (g := 27) rfl]; exact nN)) r3 ⟨q2, r4⟩)
    · have z3 := z2 e
      have zr : ζ.2.1 27 = μ.2.1 27 := (z1.1.row (g := 27) rfl).trans (hκ2.row (g := 27) rfl)
      rw [zr] at z3 ⊢
      exact z3
end NMW
