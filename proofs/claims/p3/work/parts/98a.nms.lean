/-! contracts of the reference: a statement of any kind named -/
def stL : List Int32 := [40, 41, 42, 43, 44, 46, 47, 48, 49, 50, 51, 53, 54, 55, 56, 57, 58, 59, 60]
section NMY
variable {X : ev_X} {W : Nat → Prop} {d h K : Nat} {P : MP}
theorem st_step (hE : ∀ h', h' ≤ h → ExC X W P d h') (hP : ∀ h', h' ≤ h → PlC X W P d h') (hT : TyN X W P d h) (hS : StsN X W P d h K) (hW : WiN X W P d h K) (hd : 3 ≤ d) : StN X W P (d + 1) h K := fun μ T n N V0 Γ lo hi w s hC h0 hN hP0 => by
  obtain ⟨⟨i1, i2, i3⟩, g3, c, u, ⟨b0, b5⟩, hw, F⟩ := hP0
  have hke : μ.2.1 20 s.toNatClampNeg ∈ stL := by
    have g3 : stL.contains (μ.2.1 20 s.toNatClampNeg) = true := g3
    simpa using g3
  have hcs := @ic s
  have hc : ∀ f, f < 5 → c f ≤ c (f + 1) := fun f hf => (F f hf).1
  have q0 : c 0 ≤ c 1 := hc 0 (by decide)
  have q1 : c 1 ≤ c 2 := hc 1 (by decide)
  have q2 : c 2 ≤ c 3 := hc 2 (by decide)
  have q3 : c 3 ≤ c 4 := hc 3 (by decide)
  have q4 : c 4 ≤ c 5 := hc 4 (by decide)
  have hlo : lo ≤ c 0 := by omega
  have sN : bt 0 N s.toNatClampNeg := ⟨by omega, by omega⟩
  have hwu : u 0 + u 1 + u 2 + u 3 + u 4 ≤ w := by omega
  have cb : ∀ g, g < 5 → 0 ≤ c g ∧ c (g + 1) ≤ N := fun g hg => by
    have h5 : g = 0 ∨ g = 1 ∨ g = 2 ∨ g = 3 ∨ g = 4 := by omega
    rcases h5 with rfl | rfl | rfl | rfl | rfl
    · exact ⟨by omega, by show c 1 ≤ N; omega⟩
    · exact ⟨by omega, by show c 2 ≤ N; omega⟩
    · exact ⟨by omega, by show c 3 ≤ N; omega⟩
    · exact ⟨by omega, by show c 4 ≤ N; omega⟩
    · exact ⟨by omega, by show c 5 ≤ N; omega⟩
  have B0 : ∀ kd, BnS n N μ h V0 K Γ kd c s lo hi w 0 [] μ := fun kd => ⟨SFw.rf, by rw [Nat.sub_zero]; exact hC, fun _ g hg => absurd hg List.not_mem_nil⟩
  have FK' : ∀ {kd : Int32} {a : Nat × Nat} (g : Nat), μ.2.1 20 s.toNatClampNeg = kd → g < 5 → fW kd.toNatClampNeg g = a → FK μ h K 1 a (c g) (c (g + 1)) (u g) (μ.2.1 (22 + g) s.toNatClampNeg) := fun {kd a} g ek hg hwf => by
    have q := F g hg
    rw [ek, hwf] at q
    exact q
  have stE : ∀ {kd : Int32} {U : Nat} {l : List Nat} {ν : MS} (g : Nat), μ.2.1 20 s.toNatClampNeg = kd → BnS n N μ h V0 K Γ kd c s lo hi w U l ν → g < 5 → fW kd.toNatClampNeg g = (1, 1) → (∀ x ∈ l, x < 5 ∧ x ≠ g) → U + u g ≤ w → MC X W true d 362 [.ref P.1, .int (μ.2.1 (22 + g) s.toNatClampNeg)] P ν (fun _ ν1 => BnS n N μ h V0 K Γ kd c s lo hi w (U + u g) (g :: l) ν1) (fun _ => False) := fun {kd U l ν} g ek hB hg hwf hl hU => MC.mono (nmf_e (hE h (Nat.le_refl _)) hB.2.1 (cb g hg).1 (cb g hg).2 hB.1.1 (FK' g ek hg hwf)) (fun _ ν1 h1 => hB.adv hc hlo b5 hg hl h1.1 (fun e => by unfold FdN; rw [hwf]; exact h1.2 e _ _) hU) (fun _ h => h)
  have stB : ∀ {kd : Int32} {U : Nat} {l : List Nat} {ν : MS} (g : Nat), μ.2.1 20 s.toNatClampNeg = kd → BnS n N μ h V0 K Γ kd c s lo hi w U l ν → g < 5 → fW kd.toNatClampNeg g = (3, 3) → (∀ x ∈ l, x < 5 ∧ x ≠ g) → U + u g ≤ w → MC X W true d 359 [.ref P.1, .int (μ.2.1 (22 + g) s.toNatClampNeg)] P ν (fun _ ν1 => BnS n N μ h V0 K Γ kd c s lo hi w (U + u g) (g :: l) ν1) (fun _ => False) := fun {kd U l ν} g ek hB hg hwf hl hU => MC.mono (nmf_b hS hB.2.1 (by omega) (cb g hg).1 (cb g hg).2 hB.1.1 (FK' g ek hg hwf)) (fun _ ν1 h1 => hB.adv hc hlo b5 hg hl h1.1 (fun e => by unfold FdN; rw [hwf]; exact h1.2 e _) hU) (fun _ h => h)
  have mi : ∀ {kd : Int32} {U : Nat} {l : List Nat} {ν : MS} {g : Nat}, BnS n N μ h V0 K Γ kd c s lo hi w U l ν → rk g = true → rlen g = 16000 → MI s (ν.2.2 g) := fun hB hg hr => hB.2.1.mi hg hr i1 sN
  have r22 : ∀ {kd : Int32} {U : Nat} {l : List Nat} {ν : MS}, BnS n N μ h V0 K Γ kd c s lo hi w U l ν → ν.2.1 22 = μ.2.1 22 := fun hB => hB.1.1.row rfl
  have r23 : ∀ {kd : Int32} {U : Nat} {l : List Nat} {ν : MS}, BnS n N μ h V0 K Γ kd c s lo hi w U l ν → ν.2.1 23 = μ.2.1 23 := fun hB => hB.1.1.row rfl
  have r24 : ∀ {kd : Int32} {U : Nat} {l : List Nat} {ν : MS}, BnS n N μ h V0 K Γ kd c s lo hi w U l ν → ¬ μ.2.1 20 s.toNatClampNeg = 70 → ν.2.1 24 s.toNatClampNeg = μ.2.1 24 s.toNatClampNeg := fun hB h70 => (hB.1.1.fld (f := 2) (j := s.toNatClampNeg) (by decide)).resolve_right (fun h => h70 h.1)
  have lno : ∀ {kd : Int32} {U : Nat} {l : List Nat} {ν : MS}, BnS n N μ h V0 K Γ kd c s lo hi w U l ν → μ.2.1 20 s.toNatClampNeg = kd → (∀ k ∈ ([20, 34, 35, 12, 5, 6, 50, 52] : List Int32), ¬ kd = k) → ν.1 17 = 0 → LN ν s.toNatClampNeg := fun hB ek hk _ => LN.no (by rw [hB.1.1.row (g := 20) rfl, ek]; exact hk)
  have fin : ∀ {kd : Int32} {U : Nat} {l : List Nat} {ν : MS}, BnS n N μ h V0 K Γ kd c s lo hi w U l ν → μ.2.1 20 s.toNatClampNeg = kd → U ≤ w → sK 3 kd = true → (¬ kd = 70 ∧ ¬ kd = 48 ∧ ¬ kd = 52 ∧ ¬ kd = 61) → (ν.1 17 = 0 → LN ν s.toNatClampNeg) → (∀ f, f < 5 → fW kd.toNatClampNeg f = (0, 0) ∨ f ∈ l) → ME X W true d 360 581 [(0, .ref P.1), (1, .int s)] [] P ν (fun _ μ1 => SFw (bt lo hi) w μ μ1 ∧ (μ1.1 17 = 0 → PNK μ1 h V0 K 1 Γ 3 lo hi s)) T := fun hB ek hU hs hk hL hl => v_nameStatement_581 _ (hB.fin hU ek hs hk ⟨i1, i2, i3⟩ hc ⟨b0, b5⟩ hL hl)
  refine me_meth (by omega) rfl (v_nameStatement_0 _ ⟨hC.mi rfl rfl i1 sN, fun ek => ⟨hC.mi rfl rfl i1 sN, ?_⟩, fun ek => ⟨hC.mi rfl rfl i1 sN, ?_⟩, fun ek => ⟨hC.mi rfl rfl i1 sN, ?_⟩, fun ek => ⟨hC.mi rfl rfl i1 sN, ?_⟩, fun ek => ⟨hC.mi rfl rfl i1 sN, ?_⟩, fun ek => ⟨hC.mi rfl rfl i1 sN, ?_⟩, fun ek => ⟨hC.mi rfl rfl i1 sN, ?_⟩, fun ek => ⟨hC.mi rfl rfl i1 sN, ?_⟩, fun ek => ⟨hC.mi rfl rfl i1 sN, ?_⟩, fun ek => ⟨hC.mi rfl rfl i1 sN, ?_⟩, fun ek => ⟨hC.mi rfl rfl i1 sN, ?_⟩, fun hv => ⟨hC.mi rfl rfl i1 sN, fun ek => ?_, fun h43 => ⟨hC.mi rfl rfl i1 sN, fun hneg => ?_, fun hpos => ⟨hC.mi rfl rfl i1 sN, ?_⟩⟩⟩⟩)
  · -- :=
    refine MC.mono (nmf_p (hP h (Nat.le_refl _)) (B0 40).2.1 (cb 0 (by decide)).1 (cb 0 (by decide)).2 (B0 40).1.1 (FK' 0 ek (by decide) (by decide))) (fun _ ν1 h1 => ?_) (fun _ h => h)
    have b1 := (B0 40).adv hc hlo b5 (g := 0) (by decide) (by decide) h1.1 (fun e => h1.2 e _ _) (by omega)
    refine ⟨mi b1 rfl rfl, ?_⟩
    rw [r23 b1]
    exact MC.mono (stE 1 ek b1 (by decide) (by decide) (by decide) (by omega)) (fun _ ν2 b2 => fin b2 ek (by omega) (by decide) (by decide) (lno b2 ek (by decide)) (by decide)) (fun _ h => h)
  · -- CALL, FORK
    have all : ∀ x ∈ ([41, 42] : List Int32), fW x.toNatClampNeg 1 = (1, 17) ∧ (fW x.toNatClampNeg 0 = (1, 2) ∨ fW x.toNatClampNeg 0 = (2, 2)) ∧ sK 3 x = true ∧ (¬ x = 70 ∧ ¬ x = 48 ∧ ¬ x = 52 ∧ ¬ x = 61) ∧ (∀ k ∈ ([20, 34, 35, 12, 5, 6, 50, 52] : List Int32), ¬ x = k) ∧ ∀ f, f < 5 → fW x.toNatClampNeg f = (0, 0) ∨ f ∈ [1, 0] := by decide
    obtain ⟨kd, hkd⟩ : ∃ kd, kd = μ.2.1 20 s.toNatClampNeg := ⟨_, rfl⟩
    have mem : kd ∈ ([41, 42] : List Int32) := by
      rw [hkd]
      rcases ek with e | e <;> rw [e] <;> decide
    obtain ⟨a1, a2, a3, a4, a5, a6⟩ := all kd mem
    have s146 : ∀ ν : MS, BnS n N μ h V0 K Γ kd c s lo hi w (0 + u 0) [0] ν → ME X W true d 360 146 [(0, .ref P.1), (1, .int s)] [] P ν (fun _ μ1 => SFw (bt lo hi) w μ μ1 ∧ (μ1.1 17 = 0 → PNK μ1 h V0 K 1 Γ 3 lo hi s)) T := fun ν b1 => by
      refine call_146 (fun h' hh => hE h' (by omega)) (fun h' hh => hP h' (by omega)) b1.2.1 ⟨i1, sN⟩ (cb 1 (by decide)).1 (cb 1 (by decide)).2 b1.1.1 rfl (FK' 1 hkd.symm (by decide) a1) (fun ζ z1 z2 => ?_)
      have b2 := b1.adv hc hlo b5 (g := 1) (by decide) (by decide) z1 (fun e => by unfold FdN; rw [a1]; exact z2 e _ _) (by omega)
      exact fin b2 hkd.symm (by omega) a3 a4 (lno b2 hkd.symm a5) a6
    refine ⟨fun hneg => s146 μ ((B0 kd).adv hc hlo b5 (g := 0) (by decide) (fun _ h => absurd h List.not_mem_nil) (SFw.rf.sub (fun _ h => h) (Nat.zero_le _)) (fun e => ?_) (by omega)), fun hpos => ⟨hC.mi rfl rfl i1 sN, ?_⟩⟩
    · rcases a2 with a2 | a2
      · have f0 := FK' 0 hkd.symm (by decide) a2
        have h9 : 0 ≤ (μ.2.1 22 s.toNatClampNeg).toInt := f0.2.1.1.in.1
        omega
      · have f0 := FK' 0 hkd.symm (by decide) a2
        have hb : μ.2.1 (22 + 0) s.toNatClampNeg = -1 := by
          rcases f0.2 with e | e
          · exact e
          · have h9 : 0 ≤ (μ.2.1 22 s.toNatClampNeg).toInt := e.1.1.in.1
            omega
        unfold FdN
        rw [a2, hb]
        exact FNm.no q0
    · have f0 : FK μ h K 1 (1, 2) (c 0) (c (0 + 1)) (u 0) (μ.2.1 (22 + 0) s.toNatClampNeg) := by
        rcases a2 with a2 | a2
        · exact FK' 0 hkd.symm (by decide) a2
        · have f0 := FK' 0 hkd.symm (by decide) a2
          rcases f0.2 with e | e
          · have e : μ.2.1 22 s.toNatClampNeg = -1 := e
            rw [e] at hpos; exact absurd hpos (by decide)
          · exact ⟨f0.1, e⟩
      refine MC.mono (nmf_p (hP h (Nat.le_refl _)) (B0 kd).2.1 (cb 0 (by decide)).1 (cb 0 (by decide)).2 (B0 kd).1.1 f0) (fun _ ν1 h1 => s146 ν1 ((B0 kd).adv hc hlo b5 (g := 0) (by decide) (fun _ h => absurd h List.not_mem_nil) h1.1 (fun e => ?_) (by omega))) (fun _ h => h)
      unfold FdN
      rcases a2 with a2 | a2
      · rw [a2]; exact h1.2 e _ _
      · rw [a2]; exact FNm.opt (h1.2 e _ _)
  · -- IF
    have f0 := FK' 0 ek (by decide) (a := (4, 13)) (by decide)
    obtain ⟨-, hne, -, hL⟩ := f0
    obtain ⟨m0, hm⟩ : ∃ m, WL (PK μ h K 0 13) (μ.2.1 27) m (c 0) (c 1) (u 0) (μ.2.1 22 s.toNatClampNeg) := hL (by decide)
    refine arms_loop (lo := c 0) (hE h (Nat.le_refl _)) hS (cb 0 (by decide)).1 (cb 0 (by decide)).2 m0 (c 0) (u 0) _ μ SF.rf (Int.le_refl _) (hC.le (by omega)) hm (fun ζ z1 z2 => v_nameStatement_202 _ _ ⟨fun _ => ?_, fun h => absurd h (by decide)⟩)
    have b1 := (B0 44).adv hc hlo b5 (g := 0) (by decide) (by decide) z1 (fun e => FNm.ne hne (FNm.ls q0 (by decide) ⟨m0, z2 e⟩)) (by omega)
    exact fin b1 ek (by omega) (by decide) (by decide) (lno b1 ek (by decide)) (by decide)
  · -- WHILE, LOCK
    have all : ∀ x ∈ ([46, 54] : List Int32), fW x.toNatClampNeg 0 = (1, 1) ∧ fW x.toNatClampNeg 1 = (3, 3) ∧ sK 3 x = true ∧ (¬ x = 70 ∧ ¬ x = 48 ∧ ¬ x = 52 ∧ ¬ x = 61) ∧ (∀ k ∈ ([20, 34, 35, 12, 5, 6, 50, 52] : List Int32), ¬ x = k) ∧ ∀ f, f < 5 → fW x.toNatClampNeg f = (0, 0) ∨ f ∈ [1, 0] := by decide
    obtain ⟨kd, hkd⟩ : ∃ kd, kd = μ.2.1 20 s.toNatClampNeg := ⟨_, rfl⟩
    have mem : kd ∈ ([46, 54] : List Int32) := by
      rw [hkd]
      rcases ek with e | e <;> rw [e] <;> decide
    obtain ⟨a1, a2, a3, a4, a5, a6⟩ := all kd mem
    refine MC.mono (stE 0 hkd.symm (B0 kd) (by decide) a1 (fun _ h => absurd h List.not_mem_nil) (by omega)) (fun _ ν1 b1 => ⟨mi b1 rfl rfl, ?_⟩) (fun _ h => h)
    rw [r23 b1]
    exact MC.mono (stB 1 hkd.symm b1 (by decide) a2 (by decide) (by omega)) (fun _ ν2 b2 => fin b2 hkd.symm (by omega) a3 a4 (lno b2 hkd.symm a5) a6) (fun _ h => h)
  · -- LOOP
    exact MC.mono (stB 1 ek (B0 47) (by decide) (by decide) (by decide) (by omega)) (fun _ ν2 b2 => fin b2 ek (by omega) (by decide) (by decide) (lno b2 ek (by decide)) (by decide)) (fun _ h => h)
  · -- FOR
    refine MC.mono (stE 1 ek (B0 48) (by decide) (by decide) (by decide) (by omega)) (fun _ ν1 b1 => ⟨mi b1 rfl rfl, ?_⟩) (fun _ h => h)
    rw [r24 b1 (by rw [ek]; decide)]
    refine MC.mono (stE 2 ek b1 (by decide) (by decide) (by decide) (by omega)) (fun _ ν2 b2 => ⟨mi b2 rfl rfl, mi b2 rfl rfl, ?_⟩) (fun _ h => h)
    have r25 : ν2.2.1 25 = μ.2.1 25 := b2.1.1.row rfl
    rw [r22 b2, r25]
    obtain ⟨-, ⟨gN, w6, -⟩, nN⟩ := FK' 0 ek (by decide) (a := (1, 6)) (by decide)
    obtain ⟨-, bB, -⟩ := FK' 3 ek (by decide) (a := (3, 3)) (by decide)
    have w6 := w6 rfl
    have gN : G μ h (bt (c 0) (c 1)) 6 (μ.2.1 22 s.toNatClampNeg) := gN
    have nN : μ.2.1 27 (μ.2.1 22 s.toNatClampNeg).toNatClampNeg = -1 := nN
    have bB : BT μ h K (c 3) (c 4) (u 3) (μ.2.1 25 s.toNatClampNeg) := bB rfl
    refine MC.mono (hW ν2 _ n N V0 Γ (c 0) (c 4) (c 3) (c 4) (u 3) _ _ _ _ (b2.2.1.le (by omega)) (by omega) (by omega) (by omega) (Int.le_refl _) ((G.ag b2.1.1.ag (fun _ h => h) (Nat.le_refl _) gN).up (Nat.le_refl _) (Int.le_refl _) (by omega)) (BT.cg (Nat.le_refl _) K _ _ _ _ b2.1.1.ag bB)) (fun _ ζ hz => ?_) (fun _ h => h)
    obtain ⟨z1, z2⟩ := hz
    have gNi := gN.in
    have ysub : ∀ j, (j = (μ.2.1 22 s.toNatClampNeg).toNatClampNeg ∨ bt (c 3) (c 4) j) → bt lo hi j ∧ ¬ (c 1 ≤ j ∧ (j : Int) < c 3) := fun j hj => by
      rcases hj with e | hj
      · rw [e]
        have j1 := gNi.2.1
        have j2 := gNi.2.2
        exact ⟨⟨by omega, by omega⟩, by omega⟩
      · have j1 := hj.1
        have j2 := hj.2
        exact ⟨⟨by omega, by omega⟩, by omega⟩
    have tt := b2.1.tr (z1.sub (C' := bt lo hi) (fun j hj => (ysub j hj).1) (Nat.le_refl _))
    have tt : SFw (bt lo hi) w μ ζ := tt.sub (fun _ h => h) (by omega)
    refine v_nameStatement_581 _ ⟨tt, fun e => ?_⟩
    obtain ⟨z3, z4⟩ := z2 e
    have k20 : ζ.2.1 20 s.toNatClampNeg = 48 := by rw [tt.1.row (g := 20) rfl]; exact ek
    have k22 := tt.1.row (g := 22) rfl
    have b3 := b2.2.2 (z1.1.z e)
    refine PN1.of tt.1 ek (by decide) ⟨i1, i2, i3⟩ (by decide) (LN.no (by rw [k20]; decide)) ?_ ⟨b0, b5⟩ (fun f hf => ?_)
    · unfold VN
      rw [k20, k22]
      exact ⟨fun _ => z3, fun e => absurd e (by decide), fun e => absurd e (by decide)⟩
    · have es : scp ζ s.toNatClampNeg Γ = ζ.2.1 28 (μ.2.1 22 s.toNatClampNeg).toNatClampNeg :: Γ := by
        unfold scp
        rw [k20, k22, if_pos rfl]
      rw [es]
      have h5 : f = 0 ∨ f = 1 ∨ f = 2 ∨ f = 3 ∨ f = 4 := by omega
      rcases h5 with rfl | rfl | rfl | rfl | rfl
      · exact FNm.nm q0 (G.ag tt.1.ag (fun _ h => h) (Nat.le_refl _) gN) (by rw [tt.1.row (g := 27) rfl]; exact nN)
      · exact FNm.sx (a := (1, 1)) z1.1 (fun j hj hj2 => (ysub j hj2).2 ⟨hj.1, by have j2 : (j : Int) < c 2 := hj.2; omega⟩) (by decide) (b3 1 (by decide))
      · exact FNm.sx (a := (1, 1)) z1.1 (fun j hj hj2 => (ysub j hj2).2 ⟨by have j2 : c 2 ≤ j := hj.1; omega, hj.2⟩) (by decide) (b3 2 (by decide))
      · exact FNm.b q3 z4
      · exact FNm.fr q4
  · -- RAISE
    refine MC.mono (nmf_q hd (B0 50).2.1 (cb 0 (by decide)).1 (cb 0 (by decide)).2 (B0 50).1.1 (FK' 0 ek (by decide) (by decide))) (fun _ ν1 h1 => ?_) (fun _ h => h)
    have b1 := (B0 50).adv hc hlo b5 (g := 0) (by decide) (by decide) h1.1 (fun e => (h1.2 e).2 _ _) (by omega)
    refine ⟨mi b1 rfl rfl, ?_⟩
    rw [r23 b1]
    refine MC.mono (nmf_e (hE h (Nat.le_refl _)) b1.2.1 (cb 1 (by decide)).1 (cb 1 (by decide)).2 b1.1.1 (FK' 1 ek (by decide) (by decide))) (fun _ ν2 h2 => ?_) (fun _ h => h)
    have b2 := b1.adv hc hlo b5 (g := 1) (by decide) (by decide) h2.1 (fun e => h2.2 e _ _) (by omega)
    refine fin b2 ek (by omega) (by decide) (by decide) (fun e => ?_) (by decide)
    have q := ((h1.2 (h2.1.1.z e)).1).sf h2.1.1
    unfold LN
    rw [b2.1.1.row (g := 20) rfl, ek, b2.1.1.row (g := 22) rfl]
    exact ⟨fun e => absurd e (by decide), fun e => absurd e (by decide), fun e => absurd e (by decide), fun e => absurd e (by decide), fun _ => q⟩
  · -- TRY
    refine MC.mono (stB 0 ek (B0 51) (by decide) (by decide) (by decide) (by omega)) (fun _ ν1 b1 => ⟨mi b1 rfl rfl, ?_⟩) (fun _ h => h)
    obtain ⟨-, -, hL⟩ := FK' 1 ek (by decide) (a := (3, 14)) (by decide)
    obtain ⟨m0, hm⟩ : LK ν1 h K 0 14 (c 1) (c 2) (u 1) (μ.2.1 23 s.toNatClampNeg) := LK.cg (Nat.le_refl _) (Nat.le_refl _) b1.1.1.ag (hL (by decide))
    rw [r23 b1]
    refine handlers_loop (μ := ν1) (lo := c 1) hd hW (cb 1 (by decide)).1 (cb 1 (by decide)).2 m0 (c 1) (u 1) _ ν1 SF.rf (Int.le_refl _) (b1.2.1.le (by omega)) hm (fun ζ z1 z2 => v_nameStatement_369 _ _ ⟨fun _ => ?_, fun h => absurd h (by decide)⟩)
    have b2 := b1.adv hc hlo b5 (g := 1) (by decide) (by decide) z1 (fun e => FNm.ls q1 (by decide) ⟨m0, z2 e⟩) (by omega)
    refine ⟨mi b2 rfl rfl, ?_⟩
    rw [r24 b2 (by rw [ek]; decide)]
    exact MC.mono (stB 2 ek b2 (by decide) (by decide) (by decide) (by omega)) (fun _ ν3 b3 => fin b3 ek (by omega) (by decide) (by decide) (lno b3 ek (by decide)) (by decide)) (fun _ h => h)
  · -- FINALLY
    refine MC.mono (stB 0 ek (B0 53) (by decide) (by decide) (by decide) (by omega)) (fun _ ν1 b1 => ⟨mi b1 rfl rfl, ?_⟩) (fun _ h => h)
    rw [r23 b1]
    exact MC.mono (stB 1 ek b1 (by decide) (by decide) (by decide) (by omega)) (fun _ ν2 b2 => fin b2 ek (by omega) (by decide) (by decide) (lno b2 ek (by decide)) (by decide)) (fun _ h => h)
  · -- WAIT
    refine MC.mono (stE 0 ek (B0 55) (by decide) (by decide) (by decide) (by omega)) (fun _ ν1 b1 => ⟨mi b1 rfl rfl, ?_⟩) (fun _ h => h)
    rw [r23 b1]
    exact MC.mono (stE 1 ek b1 (by decide) (by decide) (by decide) (by omega)) (fun _ ν2 b2 => fin b2 ek (by omega) (by decide) (by decide) (lno b2 ek (by decide)) (by decide)) (fun _ h => h)
  · -- TYPECASE
    refine MC.mono (stE 0 ek (B0 60) (by decide) (by decide) (by decide) (by omega)) (fun _ ν1 b1 => ⟨mi b1 rfl rfl, ?_⟩) (fun _ h => h)
    obtain ⟨-, -, hL⟩ := FK' 1 ek (by decide) (a := (3, 15)) (by decide)
    obtain ⟨m0, hm⟩ : LK ν1 h K 0 15 (c 1) (c 2) (u 1) (μ.2.1 23 s.toNatClampNeg) := LK.cg (Nat.le_refl _) (Nat.le_refl _) b1.1.1.ag (hL (by decide))
    rw [r23 b1]
    refine branches_loop (μ := ν1) (lo := c 1) hT hW (cb 1 (by decide)).1 (cb 1 (by decide)).2 m0 (c 1) (u 1) _ ν1 SF.rf (Int.le_refl _) (b1.2.1.le (by omega)) hm (fun ζ z1 z2 => v_nameStatement_491 _ _ ⟨fun _ => ?_, fun h => absurd h (by decide)⟩)
    have b2 := b1.adv hc hlo b5 (g := 1) (by decide) (by decide) z1 (fun e => FNm.ls q1 (by decide) ⟨m0, z2 e⟩) (by omega)
    refine ⟨mi b2 rfl rfl, ?_⟩
    rw [r24 b2 (by rw [ek]; decide)]
    exact MC.mono (stB 2 ek b2 (by decide) (by decide) (by decide) (by omega)) (fun _ ν3 b3 => fin b3 ek (by omega) (by decide) (by decide) (lno b3 ek (by decide)) (by decide)) (fun _ h => h)
  · -- EXIT
    exact fin (B0 43) ek (by omega) (by decide) (by decide) (lno (B0 43) ek (by decide)) (by decide)
  · -- a RETURN alone
    have all : ∀ x ∈ stL, (∀ v ∈ ([40, 41, 42, 44, 46, 47, 48, 50, 51, 53, 54, 55, 60] : List Int32), ¬ x = v) → ¬ x = 43 → (fW x.toNatClampNeg 0 = (1, 1) ∨ fW x.toNatClampNeg 0 = (2, 1)) ∧ sK 3 x = true ∧ (¬ x = 70 ∧ ¬ x = 48 ∧ ¬ x = 52 ∧ ¬ x = 61) ∧ (∀ k ∈ ([20, 34, 35, 12, 5, 6, 50, 52] : List Int32), ¬ x = k) ∧ ∀ f, f < 5 → fW x.toNatClampNeg f = (0, 0) ∨ f ∈ [0] := by decide
    obtain ⟨a2, a3, a4, a5, a6⟩ := all _ hke hv h43
    have b1 := (B0 (μ.2.1 20 s.toNatClampNeg)).adv hc hlo b5 (ν1 := μ) (u := u 0) (g := 0) (by decide) (fun _ h => absurd h List.not_mem_nil) (SFw.rf.sub (fun _ h => h) (Nat.zero_le _)) (fun e => by
      rcases a2 with a2 | a2
      · have f0 := FK' 0 rfl (by decide) a2
        have h9 : 0 ≤ (μ.2.1 22 s.toNatClampNeg).toInt := f0.2.1.1.in.1
        omega
      · have f0 := FK' 0 rfl (by decide) a2
        have hb : μ.2.1 (22 + 0) s.toNatClampNeg = -1 := by
          rcases f0.2 with e | e
          · exact e
          · have h9 : 0 ≤ (μ.2.1 22 s.toNatClampNeg).toInt := e.1.1.in.1
            omega
        unfold FdN
        rw [a2, hb]
        exact FNm.no q0) (by omega)
    exact fin b1 rfl (by omega) a3 a4 (lno b1 rfl a5) a6
  · have all : ∀ x ∈ stL, (∀ v ∈ ([40, 41, 42, 44, 46, 47, 48, 50, 51, 53, 54, 55, 60] : List Int32), ¬ x = v) → ¬ x = 43 → (fW x.toNatClampNeg 0 = (1, 1) ∨ fW x.toNatClampNeg 0 = (2, 1)) ∧ sK 3 x = true ∧ (¬ x = 70 ∧ ¬ x = 48 ∧ ¬ x = 52 ∧ ¬ x = 61) ∧ (∀ k ∈ ([20, 34, 35, 12, 5, 6, 50, 52] : List Int32), ¬ x = k) ∧ ∀ f, f < 5 → fW x.toNatClampNeg f = (0, 0) ∨ f ∈ [0] := by decide
    obtain ⟨a2, a3, a4, a5, a6⟩ := all _ hke hv h43
    have f0 : FK μ h K 1 (1, 1) (c 0) (c (0 + 1)) (u 0) (μ.2.1 (22 + 0) s.toNatClampNeg) := by
      rcases a2 with a2 | a2
      · exact FK' 0 rfl (by decide) a2
      · have f0 := FK' 0 rfl (by decide) a2
        rcases f0.2 with e | e
        · have e : μ.2.1 22 s.toNatClampNeg = -1 := e
          rw [e] at hpos; exact absurd hpos (by decide)
        · exact ⟨f0.1, e⟩
    refine MC.mono (nmf_e (hE h (Nat.le_refl _)) hC (cb 0 (by decide)).1 (cb 0 (by decide)).2 (SF.rf (C := bt lo hi)) f0) (fun _ ν1 h1 => ?_) (fun _ h => h)
    have b1 := (B0 (μ.2.1 20 s.toNatClampNeg)).adv hc hlo b5 (g := 0) (by decide) (fun _ h => absurd h List.not_mem_nil) h1.1 (fun e => by
      unfold FdN
      rcases a2 with a2 | a2
      · rw [a2]; exact h1.2 e _ _
      · rw [a2]; exact FNm.opt (h1.2 e _ _)) (by omega)
    exact fin b1 rfl (by omega) a3 a4 (lno b1 rfl a5) a6
end NMY
