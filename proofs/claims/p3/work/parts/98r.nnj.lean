/-! contracts of the reference: what the round of types stands on; the declaration that a name means -/
/-- a node of a sort: a tree of the program's nodes, all of it named -/
def Nd (ν : MS) (s : Nat) (x : Int32) : Prop := ∃ h h', NG ν h s x ∧ G ν h' (fun j => (j : Int) < (ν.1 19).toInt) s x
/-- a program parsed and named, no FAULT left -/
def TB (μ ζ : MS) : Prop := PT2 μ ∧ NmR μ ζ ∧ ζ.1 17 = 0
/-- what the round of types changes -/
def kl (s r : List Nat) (μ μ1 : MS) : Prop := (∀ g, s.contains g = false → μ1.1 g = μ.1 g) ∧ (∀ g, r.contains g = false → μ1.2.1 g = μ.2.1 g) ∧ LRow μ1.2.2
/-- what hangs behind a PLACE, and CALLs -/
def sfx (k : Int32) : Bool := ([71, 72, 73, 74] : List Int32).contains k
abbrev TFs : List Nat := [0, 3, 17, 18, 34, 67, 68, 69, 74, 76, 77, 80, 83, 89, 90, 91, 92, 93, 97, 98, 100, 101, 102, 103, 104, 110, 115, 127, 128, 129, 130, 133]
abbrev TFr : List Nat := [2, 24, 25, 26, 28, 55, 66, 68, 70, 71, 72, 73, 74, 75, 76, 78, 79, 81, 82, 84, 88, 94, 95, 96, 99, 105, 106, 107, 108, 109, 111, 112, 113, 114, 116, 117, 118, 119, 120, 121, 122, 123, 124, 125, 126, 132]
def TF (ζ ν : MS) : Prop := kl TFs TFr ζ ν ∧ (¬ ζ.1 17 = 0 → ¬ ν.1 17 = 0) ∧ (∀ j, ν.2.1 28 j = ζ.2.1 28 j ∨ ζ.2.1 20 j = 33 ∨ ζ.2.1 20 j = 34 ∨ ζ.2.1 20 j = 35 ∨ ζ.2.1 20 j = 72) ∧ ∀ g, g = 24 ∨ g = 25 ∨ g = 26 → ∀ j, ν.2.1 g j = ζ.2.1 g j ∨ sfx (ζ.2.1 20 j) = true
theorem kl.tr {s r s' r' : List Nat} {μ μ1 μ2 : MS} (h : kl s r μ μ1) (k : kf s' r' μ1 μ2) (hs : s'.all (fun x => s.contains x) = true) (hr : r'.all (fun x => r.contains x) = true) : kl s r μ μ2 := ⟨fun g hg => (k.1 g (kf_sub hs hg)).trans (h.1 g hg), fun g hg => (k.2.1 g (kf_sub hr hg)).trans (h.2.1 g hg), h.2.2.to k⟩
/-- the declaration that a NAME of a TYPE means -/
def dcl (ζ : MS) (x : Int32) : Int32 := ζ.2.1 46 (ζ.2.1 28 (ζ.2.1 22 x.toNatClampNeg).toNatClampNeg).toNatClampNeg
/-- a TYPE's declaration -/
def Dk (μ ζ : MS) (e : Int32) : Prop := (∃ w, DcO μ w e) ∧ (ζ.2.1 20 e.toNatClampNeg = 3 ∨ ζ.2.1 20 e.toNatClampNeg = 4) ∧ (0 ≤ e.toInt ∧ e.toInt < (ζ.1 19).toInt) ∧ Nd ζ 0 (ζ.2.1 23 e.toNatClampNeg) ∧ ∃ k : Nat, (k : Int) < (ζ.1 60).toInt ∧ ζ.2.1 61 k = e
theorem Lst.onl {E : Int32 → Prop} {nx : Nat → Int32} {y : Int32} (y0 : 0 ≤ y.toInt) : ∀ {m k : Nat} {x : Int32}, Lst E nx m x → Onl nx k x y → E y
  | m, k, x, hL, hO => by
    have neg : x = -1 → False := fun e => by
      subst e
      cases k with
      | zero =>
        have hO : (-1 : Int32) = y := hO
        rw [← hO] at y0
        exact absurd y0 (by decide)
      | succ k => exact absurd hO.1 (by decide)
    cases m with
    | zero => exact (neg hL).elim
    | succ m =>
      rcases hL with hL | ⟨h1, h2⟩
      · exact (neg hL).elim
      cases k with
      | zero =>
        have hO : x = y := hO
        subst hO
        exact h1
      | succ k => exact Lst.onl y0 h2 hO.2
section NNQ
variable {X : ev_X} {W : Nat → Prop} {d h K : Nat} {P : MP} {μ ν κ ζ : MS} {lo hi : Int} {T : MS → Prop} {s w : Nat} {x : Int32}
theorem Nd.in (hx : Nd ν s x) : 0 ≤ x.toInt ∧ x.toInt < (ν.1 19).toInt := by
  obtain ⟨h, h', -, hG⟩ := hx
  have := hG.in
  have hc := @ic x
  exact ⟨this.1, by have := this.2; omega⟩
theorem Nd.kind (hx : Nd ν s x) : sK s (ν.2.1 20 x.toNatClampNeg) = true := by
  obtain ⟨h, h', hN, -⟩ := hx
  cases h with
  | zero => exact hN.elim
  | succ h => exact hN.2.1
theorem Nd.ln (hx : Nd ν s x) : LN ν x.toNatClampNeg := by
  obtain ⟨h, h', hN, -⟩ := hx
  cases h with
  | zero => exact hN.elim
  | succ h => exact hN.2.2.1
theorem Nd.fld {f : Nat} (hx : Nd ν s x) (hf : f < 5) : FO (Nd ν) (ν.2.1 27) (fW (ν.2.1 20 x.toNatClampNeg).toNatClampNeg f) (ν.2.1 (22 + f) x.toNatClampNeg) := by
  obtain ⟨h, h', hN, hG⟩ := hx
  cases h with
  | zero => exact hN.elim
  | succ h =>
    cases h' with
    | zero => exact hG.elim
    | succ h' =>
      have a := hN.2.2.2 f hf
      have b := hG.2.2.2 f hf
      exact FO.mono (fun s y hy => ⟨h, h', hy.2, G.mono hy.1 (Nat.le_refl _) (fun j hj => hj.1) (fun _ _ _ _ _ => rfl) (fun _ _ _ => rfl)⟩) (fun _ _ _ => rfl) (FO.and (fun s y hy => hy.in.1) b a)
theorem NmR.ag (hR : NmR μ ζ) : Ag μ ζ lo hi := fun g g1 g2 j _ _ => by
  obtain ⟨hk, -, hf, -⟩ := hR
  have : g = 20 ∨ g = 21 ∨ g = 22 + 0 ∨ g = 22 + 1 ∨ g = 22 + 2 ∨ g = 22 + 3 ∨ g = 22 + 4 ∨ g = 27 := by omega
  have fl : ∀ f, f < 5 → ((22 + f = 24 ∨ 22 + f = 26) ∧ μ.2.1 20 j = 70) ∨ ζ.2.1 (22 + f) j = μ.2.1 (22 + f) j := fun f h5 => by
    rcases hf f j h5 with e | ⟨e1, e2⟩
    · exact Or.inr e
    · exact Or.inl ⟨by omega, e1⟩
  rcases this with rfl | rfl | rfl | rfl | rfl | rfl | rfl | rfl
  · exact Or.inr (by rw [hk.2.1 20 rfl])
  · exact Or.inr (by rw [hk.2.1 21 rfl])
  · exact fl 0 (by omega)
  · exact fl 1 (by omega)
  · exact fl 2 (by omega)
  · exact fl 3 (by omega)
  · exact fl 4 (by omega)
  · exact Or.inr (by rw [hk.2.1 27 rfl])
theorem TB.g (hB : TB μ ζ) {i : Nat} (hi : (i : Int) < (μ.1 41).toInt) : G ζ 400 (fun j => (j : Int) < (ζ.1 19).toInt) 20 (μ.2.1 42 i) := by
  obtain ⟨hP, hR, -⟩ := hB
  obtain ⟨N, -, -, -, ⟨-, hN, -⟩, hG, -⟩ := hP
  rw [hR.1.1 19 rfl]
  exact G.mono (G.ag (lo := 0) (hi := N) hR.ag (fun j hj => ⟨by omega, hj⟩) (Nat.le_refl _) (hG i hi)) (Nat.le_refl _) (fun j hj => by omega) (fun _ _ _ _ _ => rfl) (fun _ _ _ => rfl)
/-- a declaration: its fields -/
theorem TB.dc {e : Int32} (hB : TB μ ζ) (hd : DcO μ w e) : (0 ≤ e.toInt ∧ e.toInt < (ζ.1 19).toInt) ∧ sK 4 (ζ.2.1 20 e.toNatClampNeg) = true ∧ (¬ ζ.2.1 20 e.toNatClampNeg = 8 → ¬ ζ.2.1 20 e.toNatClampNeg = 9 → Nd ζ 0 (ζ.2.1 23 e.toNatClampNeg)) ∧ ((ζ.2.1 20 e.toNatClampNeg = 5 ∨ ζ.2.1 20 e.toNatClampNeg = 6) → QK ζ (ζ.2.1 22 e.toNatClampNeg) 3 4) ∧ (ζ.2.1 20 e.toNatClampNeg = 9 → Nd ζ 8 (ζ.2.1 23 e.toNatClampNeg)) := by
  obtain ⟨hw, m, ho, d0⟩ := hd
  have hg := hB.g hw
  obtain ⟨hP, hR, hz⟩ := hB
  have r20 : ζ.2.1 20 = μ.2.1 20 := hR.1.2.1 20 rfl
  have r27 : ζ.2.1 27 = μ.2.1 27 := hR.1.2.1 27 rfl
  obtain ⟨⟨c, hc⟩, -⟩ := hR.2.2.2.2.2 hz
  obtain ⟨-, -, f2, c2, c3, c4, mm, -, f3, -⟩ := hc w hw
  have f2' : μ.2.1 20 (μ.2.1 42 w).toNatClampNeg = 1 := by rw [← r20]; exact f2
  have r24 : ζ.2.1 24 (μ.2.1 42 w).toNatClampNeg = μ.2.1 24 (μ.2.1 42 w).toNatClampNeg := (hR.2.2.1 2 _ (by omega)).resolve_right (fun h => by rw [f2'] at h; exact absurd h.1 (by decide))
  obtain ⟨g1, g2, g3, g4⟩ := hg
  have gl := g4 2 (by omega)
  rw [f2] at gl
  obtain ⟨m2, gl⟩ : ∃ m2, Lst (G ζ 399 (fun j => (j : Int) < (ζ.1 19).toInt ∧ j ≠ (μ.2.1 42 w).toNatClampNeg) 4) (ζ.2.1 27) m2 (ζ.2.1 24 (μ.2.1 42 w).toNatClampNeg) := gl
  rw [r27, r24] at f3 gl
  obtain ⟨lo', hi', v', -, hD, -⟩ := WL.onl d0 f3 ho
  have hG := Lst.onl d0 gl ho
  obtain ⟨y1, y2, y3, y4⟩ := hG
  have hce := @ic e
  have all : ∀ k ∈ ([3, 4, 5, 6, 7, 8, 9] : List Int32), (¬ k = 8 → ¬ k = 9 → fW k.toNatClampNeg 1 = (1, 0) ∨ fW k.toNatClampNeg 1 = (1, 21)) ∧ (k = 9 → fW k.toNatClampNeg 1 = (1, 8)) := by decide
  have hke : ζ.2.1 20 e.toNatClampNeg ∈ ([3, 4, 5, 6, 7, 8, 9] : List Int32) := by
    have g3 : ([3, 4, 5, 6, 7, 8, 9] : List Int32).contains (ζ.2.1 20 e.toNatClampNeg) = true := y3
    simpa using g3
  have lift : ∀ {h s : Nat} {z : Int32} {S : Nat → Prop}, (∀ j, S j → (j : Int) < (ζ.1 19).toInt) → G ζ h S s z → G ζ h (fun j => (j : Int) < (ζ.1 19).toInt) s z := fun hS hG => G.mono hG (Nat.le_refl _) hS (fun _ _ _ _ _ => rfl) (fun _ _ _ => rfl)
  have y5 := y4 1 (by omega)
  refine ⟨⟨d0, by have := y2.1; omega⟩, y3, fun h8 h9 => ?_, hD.2.2.2.1, fun h9 => ?_⟩
  · have hn := hD.2.2.1 h8 h9
    rcases (all _ hke).1 h8 h9 with e1 | e1
    · rw [e1] at y5
      exact ⟨_, _, hn, lift (fun j hj => hj.1.1) y5.1⟩
    · rw [e1] at y5
      exact ⟨_, _, hn, lift (fun j hj => hj.1.1) (G.lv y5.1)⟩
  · rw [(all _ hke).2 h9] at y5
    exact ⟨_, _, (hD.2.2.2.2 h9).1, lift (fun j hj => hj.1.1) y5.1⟩
theorem TB.u1 (hB : TB μ ζ) {i : Nat} (hi : (i : Int) < (μ.1 41).toInt) : ζ.2.1 20 (μ.2.1 42 i).toNatClampNeg = 1 := by
  obtain ⟨-, -, g3, -⟩ := hB.g hi
  have g3 : ([1] : List Int32).contains (ζ.2.1 20 (μ.2.1 42 i).toNatClampNeg) = true := g3
  simpa using g3
theorem TB.dcl (hB : TB μ ζ) (hx : Nd ζ 0 x) (ek : ζ.2.1 20 x.toNatClampNeg = 20) : Dk μ ζ (dcl ζ x) := by
  have hq := hx.ln.1 ek
  obtain ⟨-, q2, q3, q4, -⟩ := hq
  have hc := @ic (ζ.2.1 28 (ζ.2.1 22 x.toNatClampNeg).toNatClampNeg)
  have hB2 := hB
  obtain ⟨-, hR, hz⟩ := hB2
  obtain ⟨-, hSy, -⟩ := hR.2.2.2.2.2 hz
  have k : Dk μ ζ (ζ.2.1 46 (ζ.2.1 28 (ζ.2.1 22 x.toNatClampNeg).toNatClampNeg).toNatClampNeg) := by
    rcases hSy (ζ.2.1 28 (ζ.2.1 22 x.toNatClampNeg).toNatClampNeg).toNatClampNeg (by omega) with e | e | ⟨e, ⟨w, hw⟩, e3, ⟨e4, e5⟩, e6⟩ | ⟨e, -⟩ | ⟨e, -⟩
    · rw [e] at q4; rcases q4 with q4 | q4 <;> exact absurd q4 (by decide)
    · rw [e] at q4; rcases q4 with q4 | q4 <;> exact absurd q4 (by decide)
    · obtain ⟨d1, d2, d3, -⟩ := hB.dc hw
      have r20 : ζ.2.1 20 = μ.2.1 20 := hR.1.2.1 20 rfl
      rw [← r20] at e3
      have hc2 := @ic (ζ.2.1 47 (ζ.2.1 28 (ζ.2.1 22 x.toNatClampNeg).toNatClampNeg).toNatClampNeg)
      refine ⟨⟨w, hw⟩, by rw [e3]; exact e, d1, d3 ?_ ?_, _, ?_, e6⟩
      · rw [e3]; intro h; rw [h] at e; rcases e with e | e <;> exact absurd e (by decide)
      · rw [e3]; intro h; rw [h] at e; rcases e with e | e <;> exact absurd e (by decide)
      · omega
    · rw [e] at q4; rcases q4 with q4 | q4 <;> exact absurd q4 (by decide)
    · rw [e] at q4; rcases q4 with q4 | q4 <;> exact absurd q4 (by decide)
  exact k
end NNQ
