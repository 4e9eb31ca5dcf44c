/-! contracts of the reference: fields of statements named -/
section NMV
variable {X : ev_X} {W : Nat → Prop} {d h K m : Nat} {P : MP} {μ ν : MS} {V V0 : Int32 → Prop} {n N : Int} {v w w' s : Nat} {C : Nat → Prop} {B : Int → Int → Int32 → Prop} {L : Nat → Int → Int → Int32 → Prop} {lo hi : Int} {x i : Int32} {Γ : List Int32}
theorem FNm.e (hl : lo ≤ hi) (h6 : ¬ s = 6) (hV : NV ν V (bt lo hi) h s x) (hn : ν.2.1 27 x.toNatClampNeg = -1) : FNm ν h V B L (1, s) lo hi x := ⟨hl, ⟨fun e => absurd e h6, fun _ => hV⟩, hn⟩
theorem FNm.nm (hl : lo ≤ hi) (hG : G ν h (bt lo hi) 6 x) (hn : ν.2.1 27 x.toNatClampNeg = -1) : FNm ν h V B L (1, 6) lo hi x := ⟨hl, ⟨fun _ => hG, fun e => absurd rfl e⟩, hn⟩
theorem FNm.opt (hF : FNm ν h V B L (1, s) lo hi x) : FNm ν h V B L (2, s) lo hi x := ⟨hF.1, Or.inr hF.2⟩
theorem FNm.no (hl : lo ≤ hi) : FNm ν h V B L (2, s) lo hi (-1) := ⟨hl, Or.inl rfl⟩
theorem FNm.fr (hl : lo ≤ hi) : FNm ν h V B L (0, 0) lo hi x := ⟨hl, trivial⟩
theorem FNm.b (hl : lo ≤ hi) (hB : B lo hi x) : FNm ν h V B L (3, 3) lo hi x := ⟨hl, fun _ => hB, fun e => absurd rfl e⟩
theorem FNm.ls (hl : lo ≤ hi) (hs : ¬ s = 3) (hL : L s lo hi x) : FNm ν h V B L (3, s) lo hi x := ⟨hl, fun e => absurd e hs, fun _ => hL⟩
theorem FNm.ne (hx : ¬ x = -1) (hF : FNm ν h V B L (3, s) lo hi x) : FNm ν h V B L (4, s) lo hi x := ⟨hF.1, hx, hF.2⟩
/-- over a frame, one of the fields that don't hold statements -/
theorem FNm.sx (hN : SF C μ ν) (hS : ∀ j, bt lo hi j → ¬ C j) {B' : Int → Int → Int32 → Prop} {L' : Nat → Int → Int → Int32 → Prop} {a : Nat × Nat} (ha : a.1 < 3) (hF : FNm μ h V B L a lo hi x) : FNm ν h V B' L' a lo hi x := by
  obtain ⟨a, s⟩ := a
  obtain ⟨hl, hF⟩ := hF
  refine ⟨hl, ?_⟩
  have e27 := hN.row (g := 27) rfl
  have one : M1 μ h V s lo hi x ∧ μ.2.1 27 x.toNatClampNeg = -1 → M1 ν h V s lo hi x ∧ ν.2.1 27 x.toNatClampNeg = -1 := fun ⟨k1, k2⟩ => ⟨k1.sf hN hS, by rw [e27]; exact k2⟩
  match a, ha, hF with
  | 0, _, _ => trivial
  | 1, _, hF => exact one hF
  | 2, _, hF => exact hF.imp id one
/-- over a frame, one of statements or of another list -/
theorem FNm.ss {K m : Nat} {a : Nat × Nat} (hN : SF C μ ν) (hS : ∀ j, bt lo hi j → ¬ C j) (hF : FNm μ h V (BN μ h V0 K Γ) (AN μ h V0 Γ (BN μ h V0 K) m) a lo hi x) : FNm ν h V (BN ν h V0 K Γ) (AN ν h V0 Γ (BN ν h V0 K) m) a lo hi x := FNm.sf hN (BN.sf hN K Γ) (AN.sf hN (BN.sf hN K) m) hS hF
theorem scp.no {ν : MS} {i : Nat} (h1 : ¬ ν.2.1 20 i = 48) (h2 : ¬ ν.2.1 20 i = 52) (h3 : ¬ ν.2.1 20 i = 61) : scp ν i Γ = Γ := by
  unfold scp
  rw [if_neg h1, if_neg (fun h => h.elim h2 h3)]
theorem VN.no {ν : MS} {i : Nat} (h1 : ¬ ν.2.1 20 i = 48) (h2 : ¬ ν.2.1 20 i = 52) (h3 : ¬ ν.2.1 20 i = 61) : VN ν i := ⟨fun e => absurd e h1, fun e => absurd e h2, fun e => absurd e h3⟩
theorem PN1.of {B : List Int32 → Int → Int → Int32 → Prop} {kd : Int32} {c : Nat → Int} (hz : SF C μ ν) (ek : μ.2.1 20 i.toNatClampNeg = kd) (hk : sK s kd = true) (hb : 0 ≤ i.toInt ∧ lo ≤ i.toInt ∧ i.toInt < hi) (h70 : ¬ kd = 70) (hL : LN ν i.toNatClampNeg) (hV : VN ν i.toNatClampNeg) (hc : i.toInt + 1 ≤ c 0 ∧ c 5 ≤ hi) (hf : ∀ f, f < 5 → FNm ν h (VS V0 Γ) (B (scp ν i.toNatClampNeg Γ)) L (fW kd.toNatClampNeg f) (c f) (c (f + 1)) (μ.2.1 (22 + f) i.toNatClampNeg)) : PN1 ν h V0 Γ B L s lo hi i := by
  have e20 : ν.2.1 20 i.toNatClampNeg = kd := by rw [hz.row (g := 20) rfl]; exact ek
  refine ⟨hb, by rw [e20]; exact hk, ⟨hL, hV⟩, c, hc, fun f hf5 => ?_⟩
  rw [e20, (hz.fld (j := i.toNatClampNeg) hf5).resolve_right (fun h => h70 (ek.symm.trans h.1))]
  exact hf f hf5
theorem nmf_e {T : MS → Prop} (hE : ExC X W P d h) (hC : CXs n N (VS V0 Γ) w ν) (h0 : 0 ≤ lo) (hN : hi ≤ N) (hν : SF C μ ν) (hF : FK μ h K m (1, 1) lo hi v x) : MC X W true d 362 [.ref P.1, .int x] P ν (fun _ ν1 => SFw (bt lo hi) v ν ν1 ∧ (ν1.1 17 = 0 → ∀ B L, FNm ν1 h (VS V0 Γ) B L (1, 1) lo hi x)) T := by
  obtain ⟨hl, ⟨hG, -⟩, hn⟩ := hF
  refine MC.mono (hE ν T n (VS V0 Γ) (bt lo hi) (bt lo hi) x hC.1 (hC.2.1.sub (fun j hj => ⟨by have := hj.1; omega, by have := hj.2; omega⟩)) hC.2.2.1 (fun _ h => h) (G.ag hν.ag (fun _ h => h) (Nat.le_refl _) hG)) (fun _ ν1 h1 => ⟨h1.1.sw.sub (fun _ h => h) (Nat.zero_le _), fun e B L => FNm.e hl (by decide) (h1.2 e) ?_⟩) (fun _ h => h)
  rw [h1.1.row (g := 27) rfl, hν.row (g := 27) rfl]
  exact hn
theorem nmf_p {T : MS → Prop} (hE : PlC X W P d h) (hC : CXs n N (VS V0 Γ) w ν) (h0 : 0 ≤ lo) (hN : hi ≤ N) (hν : SF C μ ν) (hF : FK μ h K m (1, 2) lo hi v x) : MC X W true d 363 [.ref P.1, .int x] P ν (fun _ ν1 => SFw (bt lo hi) v ν ν1 ∧ (ν1.1 17 = 0 → ∀ B L, FNm ν1 h (VS V0 Γ) B L (1, 2) lo hi x)) T := by
  obtain ⟨hl, ⟨hG, -⟩, hn⟩ := hF
  refine MC.mono (hE ν T n (VS V0 Γ) (bt lo hi) (bt lo hi) x hC.1 (hC.2.1.sub (fun j hj => ⟨by have := hj.1; omega, by have := hj.2; omega⟩)) hC.2.2.1 (fun _ h => h) (G.ag hν.ag (fun _ h => h) (Nat.le_refl _) hG)) (fun _ ν1 h1 => ⟨h1.1.sw.sub (fun _ h => h) (Nat.zero_le _), fun e B L => FNm.e hl (by decide) (h1.2 e) ?_⟩) (fun _ h => h)
  rw [h1.1.row (g := 27) rfl, hν.row (g := 27) rfl]
  exact hn
theorem nmf_t {T : MS → Prop} (hT : TyN X W P d h) (hC : CXs n N (VS V0 Γ) w ν) (h0 : 0 ≤ lo) (hN : hi ≤ N) (hν : SF C μ ν) (hF : FK μ h K m (1, 0) lo hi v x) : MC X W true d 351 [.ref P.1, .int x] P ν (fun _ ν1 => SFw (bt lo hi) v ν ν1 ∧ (ν1.1 17 = 0 → ∀ B L, FNm ν1 h (VS V0 Γ) B L (1, 0) lo hi x)) T := by
  obtain ⟨hl, ⟨hG, -⟩, hn⟩ := hF
  refine MC.mono (ty_np (V := VS V0 Γ) (S := bt lo hi) hT hC.1 (hC.2.1.sub (fun j hj => ⟨by have := hj.1; omega, by have := hj.2; omega⟩)) (fun _ h => h) (G.ag hν.ag (fun _ h => h) (Nat.le_refl _) hG)) (fun _ ν1 h1 => ⟨h1.1.sw.sub (fun _ h => h) (Nat.zero_le _), fun e B L => FNm.e hl (by decide) (h1.2 e) ?_⟩) (fun _ h => h)
  rw [h1.1.row (g := 27) rfl, hν.row (g := 27) rfl]
  exact hn
theorem nmf_b {T : MS → Prop} (hS : StsN X W P d h K) (hC : CXs n N (VS V0 Γ) w ν) (hw : v ≤ w) (h0 : 0 ≤ lo) (hN : hi ≤ N) (hν : SF C μ ν) (hF : FK μ h K m (3, 3) lo hi v x) : MC X W true d 359 [.ref P.1, .int x] P ν (fun _ ν1 => SFw (bt lo hi) v ν ν1 ∧ (ν1.1 17 = 0 → ∀ L, FNm ν1 h (VS V0 Γ) (BN ν1 h V0 K Γ) L (3, 3) lo hi x)) T := by
  obtain ⟨hl, hB, -⟩ := hF
  exact MC.mono (hS ν T n N V0 Γ lo hi v x (hC.le hw) h0 hN (BT.cg (Nat.le_refl _) K _ _ _ _ hν.ag (hB rfl))) (fun _ ν1 h1 => ⟨h1.1, fun e L => FNm.b hl (h1.2 e)⟩) (fun _ h => h)
theorem nmf_q {T : MS → Prop} (hd : 3 ≤ d) (hC : CXs n N (VS V0 Γ) w ν) (h0 : 0 ≤ lo) (hN : hi ≤ N) (hν : SF C μ ν) (hF : FK μ h K m (1, 7) lo hi v x) : MC X W true d 350 [.ref P.1, .int x, .int 8, .int 8] P ν (fun _ ν1 => SFw (bt lo hi) v ν ν1 ∧ (ν1.1 17 = 0 → QK ν1 x 8 8 ∧ ∀ B L, FNm ν1 h (VS V0 Γ) B L (1, 7) lo hi x)) T := by
  obtain ⟨hl, ⟨hG, -⟩, hn⟩ := hF
  have hG2 : G ν h (bt lo hi) 7 x := G.ag hν.ag (fun _ h => h) (Nat.le_refl _) hG
  obtain ⟨i1, i2⟩ := hG2.in
  obtain ⟨b1, b2, b3⟩ := hC.2.1 _ (⟨by have := i2.1; omega, by have := i2.2; omega⟩ : bt 0 N x.toNatClampNeg)
  have hcx := @ic x
  refine MC.mono (c_qualified hd hC.1.1 hC.1.2.1 hC.1.2.2 i1 (by omega) b2 b3 hG2.k11) (fun _ ν1 h1 => ?_) (fun _ h => h)
  obtain ⟨q1, -, q2⟩ := h1
  have q3 : NP (VS V0 Γ) (bt lo hi) ν ν1 := q1.np
  refine ⟨q3.sw.sub (fun _ h => h) (Nat.zero_le _), fun e => ⟨q2 e, fun B L => FNm.e hl (by decide) (NG.nv (by decide) (hG2.nf q1) (fun _ h => h) ((NG.q hG2).nf q1)) ?_⟩⟩
  rw [q1.row (g := 27) rfl, hν.row (g := 27) rfl]
  exact hn
end NMV
