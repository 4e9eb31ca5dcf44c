/-! contracts of the reference: statements named: what it says, and what stays -/
/-- variables of a scope: names of statements, and others -/
def VS (V0 : Int32 → Prop) (Γ : List Int32) (v : Int32) : Prop := v ∈ Γ ∨ V0 v
/-- what naming of statements does at a node -/
def SFj (C : Nat → Prop) (μ μ1 : MS) (j : Nat) : Prop := (μ1.2.1 24 j = μ.2.1 24 j ∧ μ1.2.1 26 j = μ.2.1 26 j ∧ μ1.2.1 28 j = μ.2.1 28 j) ∨ (μ.2.1 20 j = 11 ∧ (μ1.2.1 24 j = μ.2.1 24 j ∧ μ1.2.1 26 j = μ.2.1 26 j) ∧ μ1.2.1 28 j = rs μ j) ∨ (C j ∧ μ.2.1 20 j = 70) ∨ (C j ∧ (μ.2.1 20 j = 10 ∨ μ.2.1 20 j = 13) ∧ (μ1.2.1 24 j = μ.2.1 24 j ∧ μ1.2.1 26 j = μ.2.1 26 j))
/-- naming of statements among some nodes -/
def SF (C : Nat → Prop) (μ μ1 : MS) : Prop := kf [17, 18, 52, 62] [24, 26, 28, 53, 54, 55, 63, 64] μ μ1 ∧ (¬ μ.1 17 = 0 → ¬ μ1.1 17 = 0) ∧ ((μ.1 52).toInt ≤ (μ1.1 52).toInt ∧ ∀ v : Nat, (v : Int) < (μ.1 52).toInt → μ1.2.1 53 v = μ.2.1 53 v ∧ μ1.2.1 54 v = μ.2.1 54 v) ∧ ∀ j, SFj C μ μ1 j
/-- names that were made: each has a variable of its own -/
def nK (μ : MS) (i : Nat) : Prop := (i : Int) < (μ.1 19).toInt ∧ (μ.2.1 20 i = 10 ∨ μ.2.1 20 i = 13)
theorem nK.of {μ μ1 : MS} {i : Nat} (h : nK μ1 i) (h20 : μ1.2.1 20 = μ.2.1 20) (h19 : μ1.1 19 = μ.1 19) : nK μ i := by
  unfold nK at h ⊢
  rw [h20, h19] at h
  exact h
def NI (μ : MS) : Prop := ∀ i : Nat, nK μ i → (μ.2.1 28 i).toInt < (μ.1 52).toInt ∧ ∀ j : Nat, nK μ j → 0 ≤ (μ.2.1 28 i).toInt → μ.2.1 28 i = μ.2.1 28 j → i = j
/-- the same, with so many variables more, and nothing more seen -/
def SFw (C : Nat → Prop) (w : Nat) (μ μ1 : MS) : Prop := SF C μ μ1 ∧ (μ1.1 52).toInt ≤ (μ.1 52).toInt + w ∧ μ1.1 62 = μ.1 62 ∧ (∀ k : Nat, (k : Int) < (μ.1 62).toInt → μ1.2.1 63 k = μ.2.1 63 k ∧ μ1.2.1 64 k = μ.2.1 64 k) ∧ (NI μ → NI μ1)
/-- a variable of a kind and a type -/
def VX (ν : MS) (k t v : Int32) : Prop := (0 ≤ v.toInt ∧ v.toInt < (ν.1 52).toInt) ∧ ν.2.1 53 v.toNatClampNeg = k ∧ ν.2.1 54 v.toNatClampNeg = t
/-- the variable that a node makes -/
def VN (ν : MS) (i : Nat) : Prop := (ν.2.1 20 i = 48 → VX ν 4 (-1) (ν.2.1 28 (ν.2.1 22 i).toNatClampNeg)) ∧ (ν.2.1 20 i = 52 → VX ν 5 (-1) (ν.2.1 28 (ν.2.1 23 i).toNatClampNeg)) ∧ (ν.2.1 20 i = 61 → VX ν 5 (ν.2.1 22 i) (ν.2.1 28 (ν.2.1 23 i).toNatClampNeg))
/-- the scope of what lies within a node -/
def scp (ν : MS) (i : Nat) (Γ : List Int32) : List Int32 := if ν.2.1 20 i = 48 then ν.2.1 28 (ν.2.1 22 i).toNatClampNeg :: Γ else if ν.2.1 20 i = 52 ∨ ν.2.1 20 i = 61 then ν.2.1 28 (ν.2.1 23 i).toNatClampNeg :: Γ else Γ
/-- one node in a field -/
def M1 (ν : MS) (h : Nat) (V : Int32 → Prop) (s : Nat) (lo hi : Int) (x : Int32) : Prop := (s = 6 → G ν h (bt lo hi) 6 x) ∧ (¬ s = 6 → NV ν V (bt lo hi) h s x)
/-- a field, named -/
def FNm (ν : MS) (h : Nat) (V : Int32 → Prop) (B : Int → Int → Int32 → Prop) (L : Nat → Int → Int → Int32 → Prop) (a : Nat × Nat) (lo hi : Int) (x : Int32) : Prop := lo ≤ hi ∧ match a.1 with
  | 0 => True
  | 1 => M1 ν h V a.2 lo hi x ∧ ν.2.1 27 x.toNatClampNeg = -1
  | 2 => x = -1 ∨ (M1 ν h V a.2 lo hi x ∧ ν.2.1 27 x.toNatClampNeg = -1)
  | 3 => (a.2 = 3 → B lo hi x) ∧ (¬ a.2 = 3 → L a.2 lo hi x)
  | _ => ¬ x = -1 ∧ (a.2 = 3 → B lo hi x) ∧ (¬ a.2 = 3 → L a.2 lo hi x)
/-- a node, named -/
def PN1 (ν : MS) (h : Nat) (V0 : Int32 → Prop) (Γ : List Int32) (B : List Int32 → Int → Int → Int32 → Prop) (L : Nat → Int → Int → Int32 → Prop) (s : Nat) (lo hi : Int) (i : Int32) : Prop :=
  (0 ≤ i.toInt ∧ lo ≤ i.toInt ∧ i.toInt < hi) ∧ sK s (ν.2.1 20 i.toNatClampNeg) = true ∧ (LN ν i.toNatClampNeg ∧ VN ν i.toNatClampNeg) ∧ ∃ c : Nat → Int, (i.toInt + 1 ≤ c 0 ∧ c 5 ≤ hi) ∧ ∀ f, f < 5 → FNm ν h (VS V0 Γ) (B (scp ν i.toNatClampNeg Γ)) L (fW (ν.2.1 20 i.toNatClampNeg).toNatClampNeg f) (c f) (c (f + 1)) (ν.2.1 (22 + f) i.toNatClampNeg)
/-- lists of other sorts -/
def AN (ν : MS) (h : Nat) (V0 : Int32 → Prop) (Γ : List Int32) (B : List Int32 → Int → Int → Int32 → Prop) : Nat → Nat → Int → Int → Int32 → Prop
  | 0 => fun _ _ _ _ => False
  | n + 1 => fun s lo hi x => ∃ m, WL (fun lo hi _ i => PN1 ν h V0 Γ B (AN ν h V0 Γ B n) s lo hi i) (ν.2.1 27) m lo hi 0 x
/-- statements -/
def BN (ν : MS) (h : Nat) (V0 : Int32 → Prop) : Nat → List Int32 → Int → Int → Int32 → Prop
  | 0 => fun _ lo hi x => x = -1 ∧ lo ≤ hi
  | K + 1 => fun Γ lo hi x => ∃ m, WL (fun lo hi _ i => PN1 ν h V0 Γ (BN ν h V0 K) (AN ν h V0 Γ (BN ν h V0 K) 1) 3 lo hi i) (ν.2.1 27) m lo hi 0 x
abbrev PNK (ν : MS) (h : Nat) (V0 : Int32 → Prop) (K n : Nat) (Γ : List Int32) (s : Nat) : Int → Int → Int32 → Prop := PN1 ν h V0 Γ (BN ν h V0 K) (AN ν h V0 Γ (BN ν h V0 K) n) s
section NMS
variable {μ μ1 μ2 : MS} {C C' : Nat → Prop} {V V0 : Int32 → Prop} {S : Nat → Prop} {n : Int} {w w' : Nat}
theorem SF.row (h : SF C μ μ1) {g : Nat} (hg : ([24, 26, 28, 53, 54, 55, 63, 64] : List Nat).contains g = false) : μ1.2.1 g = μ.2.1 g := h.1.2.1 g hg
theorem SF.z (h : SF C μ μ1) (e : μ1.1 17 = 0) : μ.1 17 = 0 := by
  by_cases c : μ.1 17 = 0
  · exact c
  · exact absurd e (h.2.1 c)
theorem SF.rs (h : SF C μ μ1) {q : Nat} : rs μ1 q = rs μ q := rs.rw (fun g hg => h.row (by
  have h5 : g = 22 ∨ g = 23 ∨ g = 29 ∨ g = 44 ∨ g = 45 ∨ g = 47 ∨ g = 48 ∨ g = 49 ∨ g = 50 := by simpa using hg
  rcases h5 with rfl | rfl | rfl | rfl | rfl | rfl | rfl | rfl | rfl <;> rfl))
theorem SF.rf : SF C μ μ := ⟨kf.rf, id, ⟨Int.le_refl _, fun _ _ => ⟨rfl, rfl⟩⟩, fun j => Or.inl ⟨rfl, rfl, rfl⟩⟩
theorem SF.tr (h : SF C μ μ1) (k : SF C μ1 μ2) : SF C μ μ2 := by
  refine ⟨h.1.tr k.1, fun e => k.2.1 (h.2.1 e), ⟨by have := h.2.2.1.1; have := k.2.2.1.1; omega, fun v hv => ?_⟩, fun j => ?_⟩
  · obtain ⟨a1, a2⟩ := h.2.2.1.2 v hv
    obtain ⟨b1, b2⟩ := k.2.2.1.2 v (by have := h.2.2.1.1; omega)
    exact ⟨b1.trans a1, b2.trans a2⟩
  have e20 : μ1.2.1 20 j = μ.2.1 20 j := by rw [h.row (g := 20) rfl]
  rcases k.2.2.2 j with ⟨k1, k2, k3⟩ | ⟨k0, ⟨k1, k2⟩, k3⟩ | ⟨k0, k1⟩ | ⟨k0, k1, k2, k3⟩
  · rcases h.2.2.2 j with ⟨h1, h2, h3⟩ | ⟨h0, ⟨h1, h2⟩, h3⟩ | ⟨h0, h1⟩ | ⟨h0, h1, h2, h3⟩
    · exact Or.inl ⟨k1.trans h1, k2.trans h2, k3.trans h3⟩
    · exact Or.inr (Or.inl ⟨h0, ⟨k1.trans h1, k2.trans h2⟩, k3.trans h3⟩)
    · exact Or.inr (Or.inr (Or.inl ⟨h0, h1⟩))
    · exact Or.inr (Or.inr (Or.inr ⟨h0, h1, k1.trans h2, k2.trans h3⟩))
  · rw [e20] at k0
    rcases h.2.2.2 j with ⟨h1, h2, h3⟩ | ⟨h0, ⟨h1, h2⟩, h3⟩ | ⟨h0, h1⟩ | ⟨h0, h1, h2, h3⟩
    · exact Or.inr (Or.inl ⟨k0, ⟨k1.trans h1, k2.trans h2⟩, k3.trans h.rs⟩)
    · exact Or.inr (Or.inl ⟨k0, ⟨k1.trans h1, k2.trans h2⟩, k3.trans h.rs⟩)
    · exact Or.inr (Or.inr (Or.inl ⟨h0, h1⟩))
    · rw [k0] at h1
      rcases h1 with h1 | h1 <;> exact absurd h1 (by decide)
  · rw [e20] at k1
    exact Or.inr (Or.inr (Or.inl ⟨k0, k1⟩))
  · rw [e20] at k1
    rcases h.2.2.2 j with ⟨h1, h2, h3⟩ | ⟨h0, ⟨h1, h2⟩, h3⟩ | ⟨h0, h1⟩ | ⟨h0, h1, h2, h3⟩
    · exact Or.inr (Or.inr (Or.inr ⟨k0, k1, k2.trans h1, k3.trans h2⟩))
    · exact Or.inr (Or.inr (Or.inr ⟨k0, k1, k2.trans h1, k3.trans h2⟩))
    · exact Or.inr (Or.inr (Or.inl ⟨h0, h1⟩))
    · exact Or.inr (Or.inr (Or.inr ⟨k0, k1, k2.trans h2, k3.trans h3⟩))
theorem SF.sub (h : SF C μ μ1) (hC : ∀ j, C j → C' j) : SF C' μ μ1 := ⟨h.1, h.2.1, h.2.2.1, fun j => (h.2.2.2 j).imp id (Or.imp id (Or.imp (fun k => ⟨hC _ k.1, k.2⟩) (fun k => ⟨hC _ k.1, k.2⟩)))⟩
theorem NP.sf (h : NP V S μ μ1) : SF S μ μ1 := ⟨h.1.up rfl rfl, h.2.1, ⟨by rw [h.1.1 52 rfl]; exact Int.le_refl _, fun v _ => ⟨by rw [h.row (g := 53) rfl], by rw [h.row (g := 54) rfl]⟩⟩, fun j => (h.2.2 j).imp id (Or.imp id (fun k => Or.inl ⟨k.2.1, k.1⟩))⟩
theorem NP.ni (h : NP V S μ μ1) (hI : NI μ) : NI μ1 := by
  have e20 := h.row (g := 20) rfl
  have e28 : ∀ i : Nat, (μ.2.1 20 i = 10 ∨ μ.2.1 20 i = 13) → μ1.2.1 28 i = μ.2.1 28 i := fun i hi => by
    rcases h.2.2 i with ⟨-, -, e⟩ | ⟨e, -⟩ | ⟨e, -⟩
    · exact e
    · rw [e] at hi
      rcases hi with hi | hi <;> exact absurd hi (by decide)
    · rw [e] at hi
      rcases hi with hi | hi <;> exact absurd hi (by decide)
  intro i hi
  replace hi := hi.of e20 (h.1.1 19 rfl)
  rw [e28 i hi.2, h.1.1 52 rfl]
  obtain ⟨k1, k2⟩ := hI i hi
  refine ⟨k1, fun j hj h0 hij => ?_⟩
  replace hj := hj.of e20 (h.1.1 19 rfl)
  rw [e28 j hj.2] at hij
  exact k2 j hj h0 hij
theorem NP.sw (h : NP V S μ μ1) : SFw S 0 μ μ1 := ⟨h.sf, by rw [h.1.1 52 rfl]; omega, h.1.1 62 rfl, fun k _ => ⟨by rw [h.row (g := 63) rfl], by rw [h.row (g := 64) rfl]⟩, h.ni⟩
theorem SFw.rf : SFw C 0 μ μ := ⟨SF.rf, by omega, rfl, fun _ _ => ⟨rfl, rfl⟩, id⟩
theorem SFw.tr (h : SFw C w μ μ1) (k : SFw C w' μ1 μ2) : SFw C (w + w') μ μ2 := by
  refine ⟨h.1.tr k.1, by have := h.2.1; have := k.2.1; omega, k.2.2.1.trans h.2.2.1, fun i hi => ?_, fun hI => k.2.2.2.2 (h.2.2.2.2 hI)⟩
  have e := eq_i h.2.2.1
  obtain ⟨a1, a2⟩ := h.2.2.2.1 i hi
  obtain ⟨b1, b2⟩ := k.2.2.2.1 i (by omega)
  exact ⟨b1.trans a1, b2.trans a2⟩
theorem SFw.sub (h : SFw C w μ μ1) (hC : ∀ j, C j → C' j) (hw : w ≤ w') : SFw C' w' μ μ1 := ⟨h.1.sub hC, by have := h.2.1; omega, h.2.2⟩
theorem SF.fld (h : SF C μ μ1) {f j : Nat} (hf : f < 5) : μ1.2.1 (22 + f) j = μ.2.1 (22 + f) j ∨ (μ.2.1 20 j = 70 ∧ (f = 2 ∨ f = 4)) := by
  have h5 : f = 0 ∨ f = 1 ∨ f = 2 ∨ f = 3 ∨ f = 4 := by omega
  rcases h5 with rfl | rfl | rfl | rfl | rfl
  · exact Or.inl (by rw [h.row (g := 22 + 0) rfl])
  · exact Or.inl (by rw [h.row (g := 22 + 1) rfl])
  · rcases h.2.2.2 j with ⟨k1, k2, k3⟩ | ⟨k0, ⟨k1, k2⟩, k3⟩ | ⟨k0, k1⟩ | ⟨k0, k1, k2, k3⟩
    · exact Or.inl k1
    · exact Or.inl k1
    · exact Or.inr ⟨k1, Or.inl rfl⟩
    · exact Or.inl k2
  · exact Or.inl (by rw [h.row (g := 22 + 3) rfl])
  · rcases h.2.2.2 j with ⟨k1, k2, k3⟩ | ⟨k0, ⟨k1, k2⟩, k3⟩ | ⟨k0, k1⟩ | ⟨k0, k1, k2, k3⟩
    · exact Or.inl k2
    · exact Or.inl k2
    · exact Or.inr ⟨k1, Or.inr rfl⟩
    · exact Or.inl k3
theorem SF.ag (h : SF C μ μ1) {lo hi : Int} : Ag μ μ1 lo hi := fun g g1 g2 j _ _ => by
  by_cases c : g = 20 ∨ g = 21 ∨ g = 27
  · refine Or.inr ?_
    rcases c with rfl | rfl | rfl
    · rw [h.row (g := 20) rfl]
    · rw [h.row (g := 21) rfl]
    · rw [h.row (g := 27) rfl]
  · obtain ⟨f, rfl⟩ : ∃ f, g = 22 + f := ⟨g - 22, by omega⟩
    rcases h.fld (f := f) (j := j) (by omega) with e | ⟨e1, e2⟩
    · exact Or.inr e
    · exact Or.inl ⟨by omega, e1⟩
theorem QK.sf {q k o : Int32} (h : QK μ q k o) (hN : SF C μ μ1) : QK μ1 q k o := by
  obtain ⟨h1, h2, h3, h4, h5⟩ := h
  have e : μ1.2.1 28 q.toNatClampNeg = μ.2.1 28 q.toNatClampNeg := by
    rcases hN.2.2.2 q.toNatClampNeg with ⟨-, -, e⟩ | ⟨-, -, e⟩ | ⟨-, e⟩ | ⟨-, e, -⟩
    · exact e
    · exact e.trans h1.symm
    · rw [h5] at e; exact absurd e (by decide)
    · rw [h5] at e
      rcases e with e | e <;> exact absurd e (by decide)
  unfold QK
  rw [e, hN.rs, hN.1.1 43 rfl, hN.row (g := 45) rfl, hN.row (g := 20) rfl]
  exact ⟨h1, h2, h3, h4, h5⟩
theorem LN.sf {i : Nat} (h : LN μ i) (hN : SF C μ μ1) : LN μ1 i := by
  obtain ⟨h1, h2, h3, h4, h5⟩ := h
  have e24 : ¬ μ.2.1 20 i = 70 → μ1.2.1 24 i = μ.2.1 24 i := fun hk => (hN.fld (f := 2) (j := i) (by decide)).resolve_right (fun h => hk h.1)
  unfold LN
  rw [hN.row (g := 20) rfl, hN.row (g := 22) rfl, hN.row (g := 27) rfl]
  refine ⟨fun e => (h1 e).sf hN, fun e k => ?_, fun e => ?_, fun e => (h4 e).sf hN, fun e => (h5 e).sf hN⟩
  · have e2 := e24 (by rcases e with e | e <;> rw [e] <;> decide)
    rw [e2] at k ⊢
    exact (h2 e k).sf hN
  · have e2 := e24 (by rw [e]; decide)
    rw [e2]
    obtain ⟨m, hm⟩ := h3 e
    exact ⟨m, hm.mono (fun q hq => hq.sf hN) (fun _ _ => rfl)⟩
/-- a tree that is named stays so, where nothing of it is among the nodes -/
theorem NV.sf (hN : SF C μ μ1) (hS : ∀ j, S j → ¬ C j) : ∀ {h s : Nat} {i : Int32}, NV μ V S h s i → NV μ1 V S h s i
  | 0, _, _, h => h
  | h + 1, s, i, ⟨a1, a2, a3, ⟨a4, a5⟩, a6⟩ => by
    have e20 := hN.row (g := 20) rfl
    have e27 := hN.row (g := 27) rfl
    refine ⟨a1, a2, by rw [e20]; exact a3, ⟨a4.sf hN, fun k => ?_⟩, fun f hf => ?_⟩
    · rw [e20] at k
      rcases hN.2.2.2 i.toNatClampNeg with e | ⟨e, -⟩ | ⟨e, -⟩ | ⟨e, -⟩
      · exact (a5 k).cg (fun _ h => h) (hN.1.1 43 rfl) (hN.row rfl) (hN.row rfl) (hN.row rfl) (hN.row rfl) (hN.row rfl) e
      · rw [k] at e; exact absurd e (by decide)
      · exact absurd e (hS _ a2)
      · exact absurd e (hS _ a2)
    · rw [e20]
      rcases hN.fld (j := i.toNatClampNeg) hf with e | ⟨e, e2⟩
      · rw [e, e27]
        exact (a6 f hf).mono (fun s x hx => NV.sf hN hS hx) (fun _ _ _ => rfl)
      · rw [e]
        exact FO.no e2
theorem US.sf (h : US n μ) (hN : SF C μ μ1) : US n μ1 := by
  unfold US
  rw [hN.1.1 43 rfl, hN.row (g := 48) rfl, hN.row (g := 49) rfl, hN.row (g := 50) rfl]
  exact h
theorem IW.sf (h : IW n μ) (hN : SF C μ μ1) : IW n μ1 := fun s h1 h2 => by
  rw [hN.1.1 43 rfl] at h1
  rw [hN.row (g := 45) rfl] at h2
  rw [hN.row (g := 47) rfl]
  obtain ⟨k1, k2⟩ := h s h1 h2
  exact ⟨k1, fun e => hN.2.1 (k2 e)⟩
theorem NE.sf (h : NE n μ) (hN : SF C μ μ1) : NE n μ1 := ⟨h.1.to hN.1, h.2.1.sf hN, h.2.2.sf hN⟩
theorem SB.sf (h : SB n μ S) (hN : SF C μ μ1) : SB n μ1 S := fun j hj => by rw [hN.row (g := 29) rfl]; exact h j hj
theorem SeN.sf (h : SeN μ V) (hN : SFw C w μ μ1) : SeN μ1 V := by
  unfold SeN
  rw [hN.2.2.1]
  exact ⟨h.1, fun k hk => by rw [(hN.2.2.2.1 k hk).2]; exact h.2 k hk⟩
theorem VX.sf {k t v : Int32} (h : VX μ k t v) (hN : SF C μ μ1) : VX μ1 k t v := by
  obtain ⟨⟨h1, h2⟩, h3, h4⟩ := h
  have hc := @ic v
  obtain ⟨e1, e2⟩ := hN.2.2.1.2 v.toNatClampNeg (by omega)
  exact ⟨⟨h1, by have := hN.2.2.1.1; omega⟩, e1.trans h3, e2.trans h4⟩
/-- over such a frame what lies apart stays -/
def CgS (C : Nat → Prop) (B B' : Int → Int → Int32 → Prop) : Prop := ∀ lo hi x, (∀ j, bt lo hi j → ¬ C j) → B lo hi x → B' lo hi x
variable {h : Nat} {lo hi : Int} {x : Int32}
theorem M1.sf {s : Nat} (hN : SF C μ μ1) (hS : ∀ j, bt lo hi j → ¬ C j) (hM : M1 μ h V s lo hi x) : M1 μ1 h V s lo hi x := ⟨fun e => G.ag hN.ag (fun _ h => h) (Nat.le_refl _) (hM.1 e), fun e => NV.sf hN hS (hM.2 e)⟩
theorem M1.in {s : Nat} (hM : M1 μ h V s lo hi x) : 0 ≤ x.toInt ∧ bt lo hi x.toNatClampNeg := by
  by_cases e : s = 6
  · exact (hM.1 e).in
  · exact (hM.2 e).in
theorem FNm.sf {B B' : Int → Int → Int32 → Prop} {L L' : Nat → Int → Int → Int32 → Prop} {a : Nat × Nat} (hN : SF C μ μ1) (hB : CgS C B B') (hL : ∀ s, CgS C (L s) (L' s)) (hS : ∀ j, bt lo hi j → ¬ C j) (hF : FNm μ h V B L a lo hi x) : FNm μ1 h V B' L' a lo hi x := by
  obtain ⟨a, s⟩ := a
  obtain ⟨hl, hF⟩ := hF
  refine ⟨hl, ?_⟩
  have e27 := hN.row (g := 27) rfl
  have one : M1 μ h V s lo hi x ∧ μ.2.1 27 x.toNatClampNeg = -1 → M1 μ1 h V s lo hi x ∧ μ1.2.1 27 x.toNatClampNeg = -1 := fun ⟨k1, k2⟩ => ⟨k1.sf hN hS, by rw [e27]; exact k2⟩
  have el : (s = 3 → B lo hi x) ∧ (¬ s = 3 → L s lo hi x) → (s = 3 → B' lo hi x) ∧ (¬ s = 3 → L' s lo hi x) := fun ⟨k1, k2⟩ => ⟨fun e => hB _ _ _ hS (k1 e), fun e => hL s _ _ _ hS (k2 e)⟩
  match a, hF with
  | 0, _ => trivial
  | 1, hF => exact one hF
  | 2, hF => exact hF.imp id one
  | 3, hF => exact el hF
  | a + 4, hF => exact ⟨hF.1, el hF.2⟩
/-- a name in its field keeps its variable -/
theorem SF.r10 (hN : SF C μ μ1) {j : Nat} (hk : μ.2.1 20 j = 10) (hC : ¬ C j) : μ1.2.1 28 j = μ.2.1 28 j := by
  rcases hN.2.2.2 j with ⟨-, -, e⟩ | ⟨e, -⟩ | ⟨e, -⟩ | ⟨e, -⟩
  · exact e
  · rw [hk] at e; exact absurd e (by decide)
  · exact absurd e hC
  · exact absurd e hC
theorem G.k10 {s : Nat → Prop} {i : Int32} (hG : G μ h s 6 i) : μ.2.1 20 i.toNatClampNeg = 10 := by
  cases h with
  | zero => exact hG.elim
  | succ h =>
    have g3 : ([10] : List Int32).contains (μ.2.1 20 i.toNatClampNeg) = true := hG.2.2.1
    simpa using g3
theorem PN1.in {Γ : List Int32} {B : List Int32 → Int → Int → Int32 → Prop} {L : Nat → Int → Int → Int32 → Prop} {s : Nat} (hP : PN1 μ h V0 Γ B L s lo hi x) : 0 ≤ x.toInt ∧ lo ≤ x.toInt ∧ x.toInt < hi := hP.1
theorem PN1.sf {Γ : List Int32} {B B' : List Int32 → Int → Int → Int32 → Prop} {L L' : Nat → Int → Int → Int32 → Prop} {s : Nat} (hN : SF C μ μ1) (hB : ∀ Γ, CgS C (B Γ) (B' Γ)) (hL : ∀ s, CgS C (L s) (L' s)) (hS : ∀ j, bt lo hi j → ¬ C j) (hP : PN1 μ h V0 Γ B L s lo hi x) : PN1 μ1 h V0 Γ B' L' s lo hi x := by
  obtain ⟨k1, k2, ⟨k3, k4⟩, c, k5, k6⟩ := hP
  have e20 := hN.row (g := 20) rfl
  have e22 := hN.row (g := 22) rfl
  have e23 := hN.row (g := 23) rfl
  have q0 := (k6 0 (by decide)).1
  have q1 := (k6 1 (by decide)).1
  have q2 := (k6 2 (by decide)).1
  have q3 := (k6 3 (by decide)).1
  have q4 := (k6 4 (by decide)).1
  have cs : ∀ f, f < 5 → ∀ j, bt (c f) (c (f + 1)) j → bt lo hi j := fun f hf j hj => by
    have h5 : f = 0 ∨ f = 1 ∨ f = 2 ∨ f = 3 ∨ f = 4 := by omega
    rcases h5 with rfl | rfl | rfl | rfl | rfl
    · have a1 : c 0 ≤ j := hj.1
      have a2 : (j : Int) < c 1 := hj.2
      have q0 : c 0 ≤ c 1 := q0
      have q1 : c 1 ≤ c 2 := q1
      have q2 : c 2 ≤ c 3 := q2
      have q3 : c 3 ≤ c 4 := q3
      have q4 : c 4 ≤ c 5 := q4
      exact ⟨by omega, by omega⟩
    · have a1 : c 1 ≤ j := hj.1
      have a2 : (j : Int) < c 2 := hj.2
      have q0 : c 0 ≤ c 1 := q0
      have q2 : c 2 ≤ c 3 := q2
      have q3 : c 3 ≤ c 4 := q3
      have q4 : c 4 ≤ c 5 := q4
      exact ⟨by omega, by omega⟩
    · have a1 : c 2 ≤ j := hj.1
      have a2 : (j : Int) < c 3 := hj.2
      have q0 : c 0 ≤ c 1 := q0
      have q1 : c 1 ≤ c 2 := q1
      have q3 : c 3 ≤ c 4 := q3
      have q4 : c 4 ≤ c 5 := q4
      exact ⟨by omega, by omega⟩
    · have a1 : c 3 ≤ j := hj.1
      have a2 : (j : Int) < c 4 := hj.2
      have q0 : c 0 ≤ c 1 := q0
      have q1 : c 1 ≤ c 2 := q1
      have q2 : c 2 ≤ c 3 := q2
      have q4 : c 4 ≤ c 5 := q4
      exact ⟨by omega, by omega⟩
    · have a1 : c 4 ≤ j := hj.1
      have a2 : (j : Int) < c 5 := hj.2
      have q0 : c 0 ≤ c 1 := q0
      have q1 : c 1 ≤ c 2 := q1
      have q2 : c 2 ≤ c 3 := q2
      have q3 : c 3 ≤ c 4 := q3
      exact ⟨by omega, by omega⟩
  -- the name of a node keeps its variable
  have nm : ∀ (kd : Int32) (f : Nat), f < 5 → μ.2.1 20 x.toNatClampNeg = kd → fW kd.toNatClampNeg f = (1, 6) → μ1.2.1 28 (μ.2.1 (22 + f) x.toNatClampNeg).toNatClampNeg = μ.2.1 28 (μ.2.1 (22 + f) x.toNatClampNeg).toNatClampNeg := fun kd f hf hk hw => by
    have q := k6 f hf
    rw [hk, hw] at q
    obtain ⟨-, ⟨q5, -⟩, -⟩ := q
    have q5 := q5 rfl
    exact hN.r10 q5.k10 (hS _ (cs f hf _ q5.in.2))
  have n48 : μ.2.1 20 x.toNatClampNeg = 48 → μ1.2.1 28 (μ.2.1 22 x.toNatClampNeg).toNatClampNeg = μ.2.1 28 (μ.2.1 22 x.toNatClampNeg).toNatClampNeg := fun e => nm 48 0 (by decide) e (by decide)
  have n52 : μ.2.1 20 x.toNatClampNeg = 52 → μ1.2.1 28 (μ.2.1 23 x.toNatClampNeg).toNatClampNeg = μ.2.1 28 (μ.2.1 23 x.toNatClampNeg).toNatClampNeg := fun e => nm 52 1 (by decide) e (by decide)
  have n61 : μ.2.1 20 x.toNatClampNeg = 61 → μ1.2.1 28 (μ.2.1 23 x.toNatClampNeg).toNatClampNeg = μ.2.1 28 (μ.2.1 23 x.toNatClampNeg).toNatClampNeg := fun e => nm 61 1 (by decide) e (by decide)
  have es : scp μ1 x.toNatClampNeg Γ = scp μ x.toNatClampNeg Γ := by
    unfold scp
    rw [e20, e22, e23]
    by_cases c1 : μ.2.1 20 x.toNatClampNeg = 48
    · rw [if_pos c1, if_pos c1, n48 c1]
    · rw [if_neg c1, if_neg c1]
      by_cases c2 : μ.2.1 20 x.toNatClampNeg = 52 ∨ μ.2.1 20 x.toNatClampNeg = 61
      · rw [if_pos c2, if_pos c2]
        rcases c2 with c2 | c2
        · rw [n52 c2]
        · rw [n61 c2]
      · rw [if_neg c2, if_neg c2]
  refine ⟨k1, by rw [e20]; exact k2, ⟨k3.sf hN, ?_⟩, c, k5, fun f hf => ?_⟩
  · obtain ⟨v1, v2, v3⟩ := k4
    unfold VN
    rw [e20, e22, e23]
    refine ⟨fun e => ?_, fun e => ?_, fun e => ?_⟩
    · rw [n48 e]; exact (v1 e).sf hN
    · rw [n52 e]; exact (v2 e).sf hN
    · rw [n61 e]; exact (v3 e).sf hN
  · rw [es, e20]
    rcases hN.fld (j := x.toNatClampNeg) hf with e | ⟨e, e2⟩
    · rw [e]
      exact (k6 f hf).sf hN (hB _) hL (fun j hj => hS j (cs f hf j hj))
    · have h0 := (k6 f hf).1
      rw [e]
      rcases e2 with rfl | rfl
      · exact ⟨h0, True.intro⟩
      · exact ⟨h0, True.intro⟩
theorem WL.sf {Γ : List Int32} {B B' : List Int32 → Int → Int → Int32 → Prop} {L L' : Nat → Int → Int → Int32 → Prop} {s : Nat} (hN : SF C μ μ1) (hB : ∀ Γ, CgS C (B Γ) (B' Γ)) (hL : ∀ s, CgS C (L s) (L' s)) : CgS C (fun lo hi x => ∃ m, WL (fun lo hi _ i => PN1 μ h V0 Γ B L s lo hi i) (μ.2.1 27) m lo hi 0 x) (fun lo hi x => ∃ m, WL (fun lo hi _ i => PN1 μ1 h V0 Γ B' L' s lo hi i) (μ1.2.1 27) m lo hi 0 x) := fun lo hi x hS ⟨m, hm⟩ => by
  refine ⟨m, WL.cg (lo := lo) (fun lo' hi' v y k1 k2 hy => ?_) (Int.le_refl _) hm⟩
  exact ⟨PN1.sf hN hB hL (fun j hj => hS j ⟨by have := hj.1; omega, by have := hj.2; omega⟩) hy, by rw [hN.row (g := 27) rfl]⟩
theorem AN.sf {Γ : List Int32} {B B' : List Int32 → Int → Int → Int32 → Prop} (hN : SF C μ μ1) (hB : ∀ Γ, CgS C (B Γ) (B' Γ)) : ∀ n s, CgS C (AN μ h V0 Γ B n s) (AN μ1 h V0 Γ B' n s)
  | 0, s => fun _ _ _ _ h => h.elim
  | n + 1, s => WL.sf hN hB (AN.sf hN hB n)
theorem BN.sf (hN : SF C μ μ1) : ∀ K Γ, CgS C (BN μ h V0 K Γ) (BN μ1 h V0 K Γ)
  | 0, Γ => fun _ _ _ _ h => h
  | K + 1, Γ => WL.sf hN (BN.sf hN K) (AN.sf hN (BN.sf hN K) 1)
theorem PNK.sf {K m s : Nat} {Γ : List Int32} (hN : SF C μ μ1) (hS : ∀ j, bt lo hi j → ¬ C j) (hP : PNK μ h V0 K m Γ s lo hi x) : PNK μ1 h V0 K m Γ s lo hi x := PN1.sf hN (BN.sf hN K) (AN.sf hN (BN.sf hN K) m) hS hP
end NMS
