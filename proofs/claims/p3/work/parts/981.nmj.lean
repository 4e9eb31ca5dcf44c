/-! contracts of the reference: PLACEs and expressions named: what it says, and what stays -/
/-- a symbol of a kind stands for so much -/
def UV (ν : MS) (k v : Int32) : Prop := ∃ s : Nat, (s : Int) < (ν.1 43).toInt ∧ ν.2.1 45 s = k ∧ ν.2.1 47 s = v
/-- a PLACE is named: one of the variables V, a unit's, or a PROCEDURE -/
def PlN (ν : MS) (V : Int32 → Prop) (p : Nat) : Prop := (ν.2.1 26 p = ν.2.1 23 p ∨ (0 ≤ (ν.2.1 23 p).toInt ∧ ν.2.1 20 (ν.2.1 23 p).toNatClampNeg = 71 ∧ ν.2.1 26 p = ν.2.1 27 (ν.2.1 23 p).toNatClampNeg)) ∧ ((ν.2.1 24 p = 0 ∧ (V (ν.2.1 28 p) ∨ UV ν 7 (ν.2.1 28 p))) ∨ (ν.2.1 24 p = 1 ∧ UV ν 9 (ν.2.1 28 p)))
/-- what naming does at a node -/
def NPj (V : Int32 → Prop) (S : Nat → Prop) (μ μ1 : MS) (j : Nat) : Prop := (μ1.2.1 24 j = μ.2.1 24 j ∧ μ1.2.1 26 j = μ.2.1 26 j ∧ μ1.2.1 28 j = μ.2.1 28 j) ∨ (μ.2.1 20 j = 11 ∧ (μ1.2.1 24 j = μ.2.1 24 j ∧ μ1.2.1 26 j = μ.2.1 26 j) ∧ μ1.2.1 28 j = rs μ j) ∨ (μ.2.1 20 j = 70 ∧ S j ∧ (μ1.1 17 = 0 → PlN μ1 V j))
/-- naming of PLACEs among some nodes -/
def NP (V : Int32 → Prop) (S : Nat → Prop) (μ μ1 : MS) : Prop := kf [17, 18] [24, 26, 28] μ μ1 ∧ (¬ μ.1 17 = 0 → ¬ μ1.1 17 = 0) ∧ ∀ j, NPj V S μ μ1 j
/-- what is seen: variables V -/
def SeN (μ : MS) (V : Int32 → Prop) : Prop := (0 ≤ (μ.1 62).toInt ∧ (μ.1 62).toInt ≤ 3200) ∧ ∀ k : Nat, (k : Int) < (μ.1 62).toInt → V (μ.2.1 64 k)
/-- a tree in a set, all of it named -/
def NV (ν : MS) (V : Int32 → Prop) (S : Nat → Prop) : Nat → Nat → Int32 → Prop
  | 0, _, _ => False
  | h + 1, s, i => 0 ≤ i.toInt ∧ S i.toNatClampNeg ∧ sK s (ν.2.1 20 i.toNatClampNeg) = true ∧ (LN ν i.toNatClampNeg ∧ (ν.2.1 20 i.toNatClampNeg = 70 → PlN ν V i.toNatClampNeg)) ∧ ∀ f, f < 5 → FO (NV ν V S h) (ν.2.1 27) (fW (ν.2.1 20 i.toNatClampNeg).toNatClampNeg f) (ν.2.1 (22 + f) i.toNatClampNeg)
theorem rs.rw {ν ν1 : MS} (h : ∀ g, ([22, 23, 29, 44, 45, 47, 48, 49, 50] : List Nat).contains g = true → ν1.2.1 g = ν.2.1 g) {q : Nat} : rs ν1 q = rs ν q := by
  have fi : ∀ u nm im, fiV ν1 u nm im = fiV ν u nm im := fun u nm im => by
    unfold fiV
    rw [h 48 rfl, h 49 rfl, fiF.cg (h 44 rfl) (h 45 rfl)]
  have fd : ∀ u nm, fdV ν1 u nm = fdV ν u nm := fun u nm => by
    unfold fdV
    rw [fi, fi, h 50 rfl]
  unfold rs
  rw [fd, fi, h 22 rfl, h 23 rfl, h 29 rfl, h 47 rfl]
theorem UV.cg {ν ν1 : MS} {k v : Int32} (h43 : ν1.1 43 = ν.1 43) (h45 : ν1.2.1 45 = ν.2.1 45) (h47 : ν1.2.1 47 = ν.2.1 47) (h : UV ν k v) : UV ν1 k v := by
  unfold UV
  rw [h43, h45, h47]
  exact h
theorem PlN.cg {ν ν1 : MS} {V V' : Int32 → Prop} {p : Nat} (hV : ∀ v, V v → V' v) (h43 : ν1.1 43 = ν.1 43) (h20 : ν1.2.1 20 = ν.2.1 20) (h23 : ν1.2.1 23 = ν.2.1 23) (h27 : ν1.2.1 27 = ν.2.1 27) (h45 : ν1.2.1 45 = ν.2.1 45) (h47 : ν1.2.1 47 = ν.2.1 47) (hp : ν1.2.1 24 p = ν.2.1 24 p ∧ ν1.2.1 26 p = ν.2.1 26 p ∧ ν1.2.1 28 p = ν.2.1 28 p) (h : PlN ν V p) : PlN ν1 V' p := by
  obtain ⟨e24, e26, e28⟩ := hp
  unfold PlN
  rw [e24, e26, e28, h20, h23, h27]
  exact ⟨h.1, h.2.imp (fun k => ⟨k.1, k.2.imp (hV _) (UV.cg h43 h45 h47)⟩) (fun k => ⟨k.1, UV.cg h43 h45 h47 k.2⟩)⟩
section NMK
variable {μ μ1 μ2 : MS} {V : Int32 → Prop} {S S' : Nat → Prop} {n : Int}
theorem NP.row (h : NP V S μ μ1) {g : Nat} (hg : ([24, 26, 28] : List Nat).contains g = false) : μ1.2.1 g = μ.2.1 g := h.1.2.1 g hg
theorem NP.z (h : NP V S μ μ1) (e : μ1.1 17 = 0) : μ.1 17 = 0 := by
  by_cases c : μ.1 17 = 0
  · exact c
  · exact absurd e (h.2.1 c)
theorem NP.rs (h : NP V S μ μ1) {q : Nat} : rs μ1 q = rs μ q := rs.rw (fun g hg => h.row (by
  have h5 : g = 22 ∨ g = 23 ∨ g = 29 ∨ g = 44 ∨ g = 45 ∨ g = 47 ∨ g = 48 ∨ g = 49 ∨ g = 50 := by simpa using hg
  rcases h5 with rfl | rfl | rfl | rfl | rfl | rfl | rfl | rfl | rfl <;> rfl))
theorem NP.rf : NP V S μ μ := ⟨kf.rf, id, fun _ => Or.inl ⟨rfl, rfl, rfl⟩⟩
theorem NP.pl (h : NP V S μ μ1) {p : Nat} (hp : μ1.2.1 24 p = μ.2.1 24 p ∧ μ1.2.1 26 p = μ.2.1 26 p ∧ μ1.2.1 28 p = μ.2.1 28 p) (k : PlN μ V p) : PlN μ1 V p := k.cg (fun _ h => h) (h.1.1 43 rfl) (h.row rfl) (h.row rfl) (h.row rfl) (h.row rfl) (h.row rfl) hp
theorem NP.tr (h : NP V S μ μ1) (k : NP V S μ1 μ2) : NP V S μ μ2 := ⟨h.1.tr k.1, fun e => k.2.1 (h.2.1 e), fun j => by
  have e20 : μ1.2.1 20 j = μ.2.1 20 j := by rw [h.row (g := 20) rfl]
  rcases k.2.2 j with ⟨k1, k2, k3⟩ | ⟨k0, ⟨k1, k2⟩, k3⟩ | ⟨k0, k1, k2⟩
  · rcases h.2.2 j with ⟨h1, h2, h3⟩ | ⟨h0, ⟨h1, h2⟩, h3⟩ | ⟨h0, h1, h2⟩
    · exact Or.inl ⟨k1.trans h1, k2.trans h2, k3.trans h3⟩
    · exact Or.inr (Or.inl ⟨h0, ⟨k1.trans h1, k2.trans h2⟩, k3.trans h3⟩)
    · exact Or.inr (Or.inr ⟨h0, h1, fun e => k.pl ⟨k1, k2, k3⟩ (h2 (k.z e))⟩)
  · rw [e20] at k0
    rcases h.2.2 j with ⟨h1, h2, h3⟩ | ⟨h0, ⟨h1, h2⟩, h3⟩ | ⟨h0, h1, h2⟩
    · exact Or.inr (Or.inl ⟨k0, ⟨k1.trans h1, k2.trans h2⟩, k3.trans h.rs⟩)
    · exact Or.inr (Or.inl ⟨k0, ⟨k1.trans h1, k2.trans h2⟩, k3.trans h.rs⟩)
    · rw [k0] at h0
      exact absurd h0 (by decide)
  · rw [e20] at k0
    exact Or.inr (Or.inr ⟨k0, k1, k2⟩)⟩
theorem NP.sub (h : NP V S μ μ1) (hS : ∀ j, S j → S' j) : NP V S' μ μ1 := ⟨h.1, h.2.1, fun j => (h.2.2 j).imp id (Or.imp id (fun k => ⟨k.1, hS _ k.2.1, k.2.2⟩))⟩
theorem NF.np (h : NF μ μ1) : NP V S μ μ1 := ⟨h.1.up rfl rfl, h.2.1, fun j => by
  have e24 : μ1.2.1 24 j = μ.2.1 24 j := by rw [h.row (g := 24) rfl]
  have e26 : μ1.2.1 26 j = μ.2.1 26 j := by rw [h.row (g := 26) rfl]
  rcases h.2.2 j with e | ⟨e1, e2⟩
  · exact Or.inl ⟨e24, e26, e⟩
  · exact Or.inr (Or.inl ⟨e1, ⟨e24, e26⟩, e2⟩)⟩
/-- a field of a node that stays: not the third and the fifth of a PLACE -/
theorem NP.fld (h : NP V S μ μ1) {f j : Nat} (hf : f < 5) : μ1.2.1 (22 + f) j = μ.2.1 (22 + f) j ∨ (μ.2.1 20 j = 70 ∧ (f = 2 ∨ f = 4)) := by
  have h5 : f = 0 ∨ f = 1 ∨ f = 2 ∨ f = 3 ∨ f = 4 := by omega
  rcases h5 with rfl | rfl | rfl | rfl | rfl
  · exact Or.inl (by rw [h.row (g := 22 + 0) rfl])
  · exact Or.inl (by rw [h.row (g := 22 + 1) rfl])
  · rcases h.2.2 j with ⟨k1, k2, k3⟩ | ⟨k0, ⟨k1, k2⟩, k3⟩ | ⟨k0, k1, k2⟩
    · exact Or.inl k1
    · exact Or.inl k1
    · exact Or.inr ⟨k0, Or.inl rfl⟩
  · exact Or.inl (by rw [h.row (g := 22 + 3) rfl])
  · rcases h.2.2 j with ⟨k1, k2, k3⟩ | ⟨k0, ⟨k1, k2⟩, k3⟩ | ⟨k0, k1, k2⟩
    · exact Or.inl k2
    · exact Or.inl k2
    · exact Or.inr ⟨k0, Or.inr rfl⟩
theorem NP.ag (h : NP V S μ μ1) {lo hi : Int} : Ag μ μ1 lo hi := fun g g1 g2 j _ _ => by
  by_cases c : g = 20 ∨ g = 21 ∨ g = 27
  · refine Or.inr ?_
    rcases c with rfl | rfl | rfl
    · rw [h.row (g := 20) rfl]
    · rw [h.row (g := 21) rfl]
    · rw [h.row (g := 27) rfl]
  · obtain ⟨f, rfl⟩ : ∃ f, g = 22 + f := ⟨g - 22, by omega⟩
    rcases h.fld (f := f) (j := j) (by omega) with e | ⟨e1, e2⟩
    · exact Or.inr e
    · exact Or.inl ⟨by omega, e1⟩
theorem FO.no {E : Nat → Int32 → Prop} {nx : Nat → Int32} {f : Nat} {x : Int32} (hf : f = 2 ∨ f = 4) : FO E nx (fW (Int32.toNatClampNeg 70) f) x := by
  rcases hf with rfl | rfl
  · exact True.intro
  · exact True.intro
theorem G.np (hN : NP V S μ μ1) : ∀ {h s : Nat} {S' : Nat → Prop} {i : Int32}, G μ h S' s i → G μ1 h S' s i
  | 0, _, _, _, hG => hG.elim
  | h + 1, s, S', i, hG => by
    obtain ⟨g1, g2, g3, g4⟩ := hG
    have e20 := hN.row (g := 20) rfl
    have e27 := hN.row (g := 27) rfl
    refine ⟨g1, g2, by rw [e20]; exact g3, fun f hf => ?_⟩
    rw [e20]
    rcases hN.fld (j := i.toNatClampNeg) hf with e | ⟨e, e2⟩
    · rw [e, e27]
      exact (g4 f hf).mono (fun s x hx => G.np hN hx) (fun _ _ _ => rfl)
    · rw [e]
      exact FO.no e2
theorem QK.np {q k o : Int32} (h : QK μ q k o) (hN : NP V S μ μ1) : QK μ1 q k o := by
  obtain ⟨h1, h2, h3, h4, h5⟩ := h
  have e : μ1.2.1 28 q.toNatClampNeg = μ.2.1 28 q.toNatClampNeg := by
    rcases hN.2.2 q.toNatClampNeg with ⟨-, -, e⟩ | ⟨-, -, e⟩ | ⟨e, -⟩
    · exact e
    · exact e.trans h1.symm
    · rw [h5] at e; exact absurd e (by decide)
  unfold QK
  rw [e, hN.rs, hN.1.1 43 rfl, hN.row (g := 45) rfl, hN.row (g := 20) rfl]
  exact ⟨h1, h2, h3, h4, h5⟩
theorem LN.np {i : Nat} (h : LN μ i) (hN : NP V S μ μ1) : LN μ1 i := by
  obtain ⟨h1, h2, h3, h4, h5⟩ := h
  have e24 : ¬ μ.2.1 20 i = 70 → μ1.2.1 24 i = μ.2.1 24 i := fun hk => (hN.fld (f := 2) (j := i) (by decide)).resolve_right (fun h => hk h.1)
  unfold LN
  rw [hN.row (g := 20) rfl, hN.row (g := 22) rfl, hN.row (g := 27) rfl]
  refine ⟨fun e => (h1 e).np hN, fun e k => ?_, fun e => ?_, fun e => (h4 e).np hN, fun e => (h5 e).np hN⟩
  · have e2 := e24 (by rcases e with e | e <;> rw [e] <;> decide)
    rw [e2] at k ⊢
    exact (h2 e k).np hN
  · have e2 := e24 (by rw [e]; decide)
    rw [e2]
    obtain ⟨m, hm⟩ := h3 e
    exact ⟨m, hm.mono (fun q hq => hq.np hN) (fun _ _ => rfl)⟩
theorem NV.np (hN : NP V S μ μ1) (h0 : μ1.1 17 = 0) : ∀ {h s : Nat} {i : Int32}, NV μ V S' h s i → NV μ1 V S' h s i
  | 0, _, _, h => h
  | h + 1, s, i, ⟨a1, a2, a3, ⟨a4, a5⟩, a6⟩ => by
    have e20 := hN.row (g := 20) rfl
    have e27 := hN.row (g := 27) rfl
    refine ⟨a1, a2, by rw [e20]; exact a3, ⟨a4.np hN, fun k => ?_⟩, fun f hf => ?_⟩
    · rw [e20] at k
      rcases hN.2.2 i.toNatClampNeg with e | ⟨e, -⟩ | ⟨-, -, e⟩
      · exact hN.pl e (a5 k)
      · rw [k] at e; exact absurd e (by decide)
      · exact e h0
    · rw [e20]
      rcases hN.fld (j := i.toNatClampNeg) hf with e | ⟨e, e2⟩
      · rw [e, e27]
        exact (a6 f hf).mono (fun s x hx => NV.np hN h0 hx) (fun _ _ _ => rfl)
      · rw [e]
        exact FO.no e2
theorem NV.in {h s : Nat} {i : Int32} (hV : NV μ V S h s i) : 0 ≤ i.toInt ∧ S i.toNatClampNeg := by
  cases h with
  | zero => exact hV.elim
  | succ h => exact ⟨hV.1, hV.2.1⟩
theorem US.np (h : US n μ) (hN : NP V S μ μ1) : US n μ1 := by
  unfold US
  rw [hN.1.1 43 rfl, hN.row (g := 48) rfl, hN.row (g := 49) rfl, hN.row (g := 50) rfl]
  exact h
theorem IW.np (h : IW n μ) (hN : NP V S μ μ1) : IW n μ1 := fun s h1 h2 => by
  rw [hN.1.1 43 rfl] at h1
  rw [hN.row (g := 45) rfl] at h2
  rw [hN.row (g := 47) rfl]
  obtain ⟨k1, k2⟩ := h s h1 h2
  exact ⟨k1, fun e => hN.2.1 (k2 e)⟩
theorem NE.np (h : NE n μ) (hN : NP V S μ μ1) : NE n μ1 := ⟨h.1.to hN.1, h.2.1.np hN, h.2.2.np hN⟩
theorem SB.np (h : SB n μ S') (hN : NP V S μ μ1) : SB n μ1 S' := fun j hj => by rw [hN.row (g := 29) rfl]; exact h j hj
theorem SeN.np (h : SeN μ V) (hN : NP V S μ μ1) : SeN μ1 V := by
  unfold SeN
  rw [hN.1.1 62 rfl, hN.row (g := 64) rfl]
  exact h
/-- two lists of the same nodes -/
theorem Lst.and {E E' : Int32 → Prop} {nx : Nat → Int32} (hE : ∀ x, E x → 0 ≤ x.toInt) : ∀ {m m' : Nat} {x : Int32}, Lst E nx m x → Lst E' nx m' x → Lst (fun y => E y ∧ E' y) nx m x
  | 0, _, _, h, _ => h
  | m + 1, m', x, h, k => by
    rcases h with h | ⟨h1, h2⟩
    · exact Or.inl h
    cases m' with
    | zero =>
      have k : x = -1 := k
      have := hE x h1
      rw [k] at this
      exact absurd this (by decide)
    | succ m' =>
      rcases k with k | ⟨k1, k2⟩
      · exact Or.inl k
      · exact Or.inr ⟨⟨h1, k1⟩, Lst.and hE h2 k2⟩
theorem FO.and {E E' : Nat → Int32 → Prop} {nx : Nat → Int32} (hE : ∀ s x, E s x → 0 ≤ x.toInt) {w : Nat × Nat} {x : Int32} (h : FO E nx w x) (k : FO E' nx w x) : FO (fun s y => E s y ∧ E' s y) nx w x := by
  obtain ⟨a, s⟩ := w
  unfold FO at h k ⊢
  match a, h, k with
  | 0, _, _ => trivial
  | 1, h, k => exact ⟨⟨h.1, k.1⟩, h.2⟩
  | 2, h, k =>
    rcases h with h | h
    · exact Or.inl h
    rcases k with k | k
    · exact Or.inl k
    · exact Or.inr ⟨⟨h.1, k.1⟩, h.2⟩
  | 3, ⟨m, h⟩, ⟨m', k⟩ => exact ⟨m, Lst.and (hE s) h k⟩
  | a + 4, ⟨h0, m, h⟩, ⟨_, m', k⟩ => exact ⟨h0, m, Lst.and (hE s) h k⟩
/-- sorts in which no PLACE is met -/
def tsL : List Nat := [0, 7, 8, 9, 10, 11, 12, 21]
theorem ts_ok : ∀ s ∈ tsL, ∀ k ∈ skL.getD s [], ¬ k = 70 ∧ ∀ f, f < 5 → (fW k.toNatClampNeg f).1 = 0 ∨ (fW k.toNatClampNeg f).2 ∈ tsL := by decide
theorem FO.mono2 {E E' : Nat → Int32 → Prop} {nx : Nat → Int32} {w : Nat × Nat} {x : Int32} (hw : w.1 = 0 ∨ w.2 ∈ tsL) (hE : ∀ s, s ∈ tsL → ∀ x, E s x → E' s x) (h : FO E nx w x) : FO E' nx w x := by
  obtain ⟨a, s⟩ := w
  rcases hw with hw | hw
  · have hw : a = 0 := hw
    subst hw
    exact True.intro
  · have hw : s ∈ tsL := hw
    unfold FO at h ⊢
    match a, h with
    | 0, _ => trivial
    | 1, h => exact ⟨hE s hw _ h.1, h.2⟩
    | 2, h => exact h.imp id (fun h => ⟨hE s hw _ h.1, h.2⟩)
    | 3, ⟨m, h⟩ => exact ⟨m, h.mono (fun x hx => hE s hw x hx) (fun _ _ => rfl)⟩
    | a + 4, ⟨h0, m, h⟩ => exact ⟨h0, m, h.mono (fun x hx => hE s hw x hx) (fun _ _ => rfl)⟩
/-- a TYPE or QNAME that is named, in its set -/
theorem NG.nv : ∀ {h s : Nat} {S' : Nat → Prop} {i : Int32}, s ∈ tsL → G μ h S' s i → (∀ j, S' j → S j) → NG μ h s i → NV μ V S h s i
  | 0, _, _, _, _, hG, _, _ => hG.elim
  | h + 1, s, S', i, hs, ⟨g1, g2, g3, g4⟩, hS, ⟨_, _, k3, k4⟩ => by
    have hm : μ.2.1 20 i.toNatClampNeg ∈ skL.getD s [] := by
      have g3 : (skL.getD s []).contains (μ.2.1 20 i.toNatClampNeg) = true := g3
      simpa using g3
    obtain ⟨o1, o2⟩ := ts_ok s hs _ hm
    refine ⟨g1, hS _ g2, g3, ⟨k3, fun e => absurd e o1⟩, fun f hf => ?_⟩
    exact FO.mono2 (o2 f hf) (fun s hs x hx => NG.nv hs hx.1 (fun j hj => hS j hj.1) hx.2) ((g4 f hf).and (fun s x hx => hx.in.1) (k4 f hf))
theorem LN.no {i : Nat} (h : ∀ k ∈ ([20, 34, 35, 12, 5, 6, 50, 52] : List Int32), ¬ μ.2.1 20 i = k) : LN μ i :=
  ⟨fun e => absurd e (h _ (by decide)), fun e => (e.elim (h _ (by decide)) (h _ (by decide))).elim, fun e => absurd e (h _ (by decide)), fun e => (e.elim (h _ (by decide)) (h _ (by decide))).elim, fun e => (e.elim (h _ (by decide)) (h _ (by decide))).elim⟩
end NMK
