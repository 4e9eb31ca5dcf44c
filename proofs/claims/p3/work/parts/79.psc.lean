/-! contracts of the reference: steps of the parser, told by their frames -/
/-- a step: frame, counters, nodes against tokens -/
def TR (r b n t s δ : Int) (ν ν1 : MS) : Prop := PR r b n t s ν ν1 ∧ (ν1.1 19).toInt + 2 * (ν.1 32).toInt ≤ (ν.1 19).toInt + 2 * (ν1.1 32).toInt + δ
def psX (μ : MS) : Int := 14 * (20 - (μ.1 37).toInt) + 6 * (20 - (μ.1 39).toInt) + (20 - (μ.1 38).toInt)
def hiX (μ : MS) : Int := 12 * (20 - (μ.1 37).toInt) + 3 * (20 - (μ.1 39).toInt) + (20 - (μ.1 38).toInt)
def psS (μ : MS) : Int := psX μ + 4 * (20 - (μ.1 40).toInt)
def hiS (μ : MS) : Int := hiX μ + 3 * (20 - (μ.1 40).toInt)
section TRS
variable {r b n t s δ b' n' t' s' δ' b2 n2 t2 s2 δ2 : Int} {μ ν ν1 : MS}
theorem TR.rf (h : PS μ) : TR r 0 0 0 0 0 μ μ := ⟨PR.rf h, by omega⟩
theorem TR.tr (h : TR (-1) b n t s δ μ ν) (k : TR r b' n' t' s' δ' ν ν1) (hr : r < 0 ∨ (μ.1 19).toInt ≤ r) (e1 : b2 = b + b') (e2 : n2 = n + n') (e3 : t2 = t + t') (e4 : s2 = s + s') (e5 : δ + δ' ≤ δ2) : TR (-1) b2 n2 t2 s2 δ2 μ ν1 := by
  obtain ⟨h1, h2⟩ := h
  obtain ⟨k1, k2⟩ := k
  rcases hr with hr | hr
  · exact ⟨h1.tr (k1.ex hr) e1 e2 e3 e4, by omega⟩
  · exact ⟨h1.trE k1 hr e1 e2 e3 e4, by omega⟩
theorem TR.l19 (h : TR r b n t s δ μ ν) : (μ.1 19).toInt ≤ (ν.1 19).toInt := h.1.2.2.2.1
theorem TR.l32 (h : TR r b n t s δ μ ν) : (μ.1 32).toInt ≤ (ν.1 32).toInt := h.1.2.2.1
theorem TR.rb (h : TR r b n t s δ μ ν) : RB r (μ.1 19).toInt μ ν := h.1.2.2.2.2.1
theorem TR.ps (h : TR r b n t s δ μ ν) : PS ν := h.1.2.1
theorem TR.b37 (h : TR r b n t s δ μ ν) : (ν.1 37).toInt = (μ.1 37).toInt + b := h.1.2.2.2.2.2.1
theorem TR.px (h : TR r b n t s δ μ ν) : psX ν = psX μ - 14 * b - 6 * t - n ∧ hiX ν = hiX μ - 12 * b - 3 * t - n ∧ psS ν = psS μ - 14 * b - 6 * t - n - 4 * s ∧ hiS ν = hiS μ - 12 * b - 3 * t - n - 3 * s := by
  obtain ⟨-, -, -, -, -, e1, e2, e3, e4, -⟩ := h.1
  unfold psS hiS psX hiX
  rw [e1, e2, e3, e4]
  refine ⟨?_, ?_, ?_, ?_⟩ <;> omega
theorem px0 (hS : PS μ) : 0 ≤ psX μ ∧ psT μ ≤ psX μ ∧ 0 ≤ hiX μ ∧ hiT μ ≤ hiX μ ∧ psX μ ≤ psS μ ∧ hiX μ ≤ hiS μ ∧ 0 ≤ hiT μ := by
  obtain ⟨-, -, -, -, -, b1, b2, b3, b4⟩ := hS
  unfold psS hiS psX hiX psT hiT
  refine ⟨?_, ?_, ?_, ?_, ?_, ?_, ?_⟩ <;> omega
theorem tT (h : TR r b n t s δ μ ν) : hiT ν = hiT μ - 3 * b - 3 * t ∧ psT ν = psT μ - 14 * b - 6 * t := by
  obtain ⟨-, -, -, -, -, e1, e2, e3, e4⟩ := h.1
  unfold psT hiT
  rw [e1, e3]
  exact ⟨by omega, by omega⟩
/-- a field of a node put -/
theorem TR.put (hS : PS ν) {g : Nat} {i x : Int32} (hi : 0 ≤ i.toInt) (hg : RPA.contains g = true) (h9 : ([g].contains 9 || (Nat.beq 29 g || Nat.beq 28 g)) = false) : TR i.toInt 0 0 0 0 0 ν (mA1 ν g i.toNatClampNeg x) :=
  ⟨(PR.rf hS).A hg h9 (Or.inr (by have := @ic i; omega)), by show (ν.1 19).toInt + _ ≤ _ + 2 * (ν.1 32).toInt + 0; omega⟩
theorem TR.mi (hS : PS ν) {g : Nat} {i : Int32} (hg : rk g = true) (hr : rlen g = 16000) (h0 : 0 ≤ i.toInt) (h1 : i.toInt < 16000) : MI i (ν.2.2 g) := MI.of (hS.1.g hg hr) h0 (by omega)
theorem PR.to (h : TR r b n t s δ μ ν) (hr : r < 0 ∨ True) : kf SPA RPA μ ν := h.1.1
theorem G.tr {h s' : Nat} {lo hi : Int} {i : Int32} (hG : G ν h (bt lo hi) s' i) (k : TR r b n t s δ ν ν1) (hn : hi ≤ (ν.1 19).toInt) (he : r < lo ∨ hi ≤ r) : G ν1 h (bt lo hi) s' i := hG.rb k.rb hn he
theorem G.lk {h s' : Nat} {lo hi : Int} {i : Int32} (hG : G ν h (bt lo hi) s' i) (k : TR r b n t s δ ν ν1) (hn : hi ≤ (ν.1 19).toInt) (he : r < lo ∨ hi ≤ r) (hl : ν.2.1 27 i.toNatClampNeg = -1) : ν1.2.1 27 i.toNatClampNeg = -1 := by
  obtain ⟨-, k2, k3⟩ := hG.in
  exact (k.rb 27 (by omega) (by omega) _ (by omega) (by omega)).trans hl
theorem ND.tr {i : Nat} {k a b1 c d e nn : Int32} (h : ND ν i k a b1 c d e nn) (q : TR r b n t s δ ν ν1) (h1 : (i : Int) < (ν.1 19).toInt) (h2 : (i : Int) ≠ r) : ND ν1 i k a b1 c d e nn := h.rb q.rb h1 h2
end TRS
/-- a child of the node r, one of a list or alone -/
def Kg (ν : MS) (h : Nat) (lo : Int) (r : Int32) (s : Nat) (x : Int32) : Prop := G ν h (fun j => bt lo (ν.1 19).toInt j ∧ j ≠ r.toNatClampNeg) s x
def Kd (ν : MS) (h : Nat) (lo : Int) (r : Int32) (s : Nat) (x : Int32) : Prop := Kg ν h lo r s x ∧ ν.2.1 27 x.toNatClampNeg = -1
/-- a list so far, its first and its last node -/
def OL (s h : Nat) (n0 : Int) (ν : MS) (f b : Int32) : Prop := (f = -1 ∧ b = -1) ∨ ((0 ≤ f.toInt ∧ 0 ≤ b.toInt) ∧ LI s h n0 ν f b)
section KDS
variable {r b n t s δ lo hi n0 : Int} {ν ν1 : MS} {h k : Nat} {i x f y : Int32}
theorem Kg.of (hG : G ν h (bt lo hi) k x) {lo' : Int} (h1 : lo' ≤ lo) (h2 : hi ≤ (ν.1 19).toInt) (hr : 0 ≤ i.toInt) (ht : i.toInt < lo ∨ hi ≤ i.toInt) : Kg ν h lo' i k x :=
  G.mono hG (Nat.le_refl _) (fun j hj => ⟨⟨by have := hj.1; omega, by have := hj.2; omega⟩, by have := hj.1; have := hj.2; have := @ic i; omega⟩) (fun _ _ _ _ _ => rfl) (fun _ _ _ => rfl)
theorem Kg.up {h' : Nat} (hK : Kg ν h lo i k x) (hh : h ≤ h') : Kg ν h' lo i k x := G.mono hK hh (fun _ h => h) (fun _ _ _ _ _ => rfl) (fun _ _ _ => rfl)
theorem Kg.tr (hK : Kg ν h lo i k x) (q : TR r b n t s δ ν ν1) (hr : r < 0 ∨ r = i.toInt) (hi0 : 0 ≤ i.toInt) : Kg ν1 h lo i k x :=
  G.mono hK (Nat.le_refl _) (fun j hj => ⟨⟨hj.1.1, by have := hj.1.2; have := q.l19; omega⟩, hj.2⟩) (fun g h1 h2 j hj => q.rb g h1 (by omega) j hj.1.2 (by have := hj.2; have := @ic i; omega)) (fun j hj _ => q.rb 27 (by omega) (by omega) j hj.1.2 (by have := hj.2; have := @ic i; omega))
theorem Kd.of (hG : G ν h (bt lo hi) k x) {lo' : Int} (h1 : lo' ≤ lo) (h2 : hi ≤ (ν.1 19).toInt) (hr : 0 ≤ i.toInt) (ht : i.toInt < lo ∨ hi ≤ i.toInt) (hl : ν.2.1 27 x.toNatClampNeg = -1) : Kd ν h lo' i k x := ⟨Kg.of hG h1 h2 hr ht, hl⟩
theorem Kd.up {h' : Nat} (hK : Kd ν h lo i k x) (hh : h ≤ h') : Kd ν h' lo i k x := ⟨Kg.up hK.1 hh, hK.2⟩
theorem Kd.tr (hK : Kd ν h lo i k x) (q : TR r b n t s δ ν ν1) (hr : r < 0 ∨ r = i.toInt) (hi0 : 0 ≤ i.toInt) : Kd ν1 h lo i k x := by
  obtain ⟨k1, k2⟩ := hK
  obtain ⟨-, k3, k4⟩ := k1.in
  exact ⟨Kg.tr k1 q hr hi0, (q.rb 27 (by omega) (by omega) _ k3.2 (by have := @ic i; omega)).trans k2⟩
theorem OL.nil : OL k h n0 ν (-1) (-1) := Or.inl ⟨rfl, rfl⟩
theorem OL.tr (hL : OL k h n0 ν f y) (q : TR r b n t s δ ν ν1) (hr : r < n0 ∨ (ν.1 19).toInt ≤ r) : OL k h n0 ν1 f y := by
  rcases hL with hL | ⟨h0, hL⟩
  · exact Or.inl hL
  · exact Or.inr ⟨h0, hL.rb q.rb q.l19 hr⟩
theorem OL.in (hL : OL k h n0 ν f y) (hy : 0 ≤ y.toInt) : 0 ≤ f.toInt ∧ n0 ≤ y.toInt ∧ y.toInt < (ν.1 19).toInt := by
  rcases hL with ⟨-, hL⟩ | ⟨⟨h0, -⟩, hL⟩
  · rw [hL] at hy; exact absurd hy (by decide)
  · exact ⟨h0, hL.in.2⟩
theorem OL.nn (hL : OL k h n0 ν f y) (hy : 0 ≤ y.toInt) : ν.2.1 27 y.toNatClampNeg = -1 := by
  rcases hL with ⟨-, hL⟩ | ⟨-, hL⟩
  · rw [hL] at hy; exact absurd hy (by decide)
  · obtain ⟨_, _, _, _, _, _, h⟩ := hL
    exact h
theorem OL.sg (hL : OL k h n0 ν f y) : (f = -1 ∧ y = -1) ∨ (0 ≤ f.toInt ∧ 0 ≤ y.toInt) := by
  rcases hL with hL | ⟨h0, -⟩
  · exact Or.inl hL
  · exact Or.inr h0
theorem OL.lst (hL : OL k h n0 ν f y) : LSt k h n0 ν f := by
  rcases hL with ⟨rfl, -⟩ | ⟨-, hL⟩
  · exact LSt.nil
  · exact hL.done
theorem OL.one (hG : G ν h (bt n0 (ν.1 19).toInt) k x) (hn : n0 ≤ (ν.1 19).toInt) (hl : ν.2.1 27 x.toNatClampNeg = -1) : OL k h n0 ν x x := Or.inr ⟨⟨hG.in.1, hG.in.1⟩, LI.one hG hn hl⟩
theorem OL.add (hL : OL k h n0 ν f y) (hy : 0 ≤ y.toInt) (q : TR (-1) b n t s δ ν ν1) (h0 : 0 ≤ n0) (hG : G ν1 h (bt (ν.1 19).toInt (ν1.1 19).toInt) k x) (hl : ν1.2.1 27 x.toNatClampNeg = -1) : OL k h n0 (mA1 ν1 27 y.toNatClampNeg x) f x := by
  rcases hL with ⟨-, hL⟩ | ⟨⟨h1, -⟩, hL⟩
  · rw [hL] at hy; exact absurd hy (by decide)
  · exact Or.inr ⟨⟨h1, hG.in.1⟩, hL.snoc q.rb q.l19 h0 hG hl⟩
theorem OL.kid (hL : OL k h n0 ν f y) (hi0 : 0 ≤ i.toInt) (ht : i.toInt < n0) (hl : lo ≤ n0) : FO (G ν h (fun j => bt lo (ν.1 19).toInt j ∧ j ≠ i.toNatClampNeg)) (ν.2.1 27) (3, k) f := hL.lst.fo (by have := @ic i; omega) hl
theorem OL.kid4 (hL : OL k h n0 ν f y) (hi0 : 0 ≤ i.toInt) (ht : i.toInt < n0) (hl : lo ≤ n0) (hy : 0 ≤ y.toInt) : FO (G ν h (fun j => bt lo (ν.1 19).toInt j ∧ j ≠ i.toNatClampNeg)) (ν.2.1 27) (4, k) f := by
  refine ⟨fun e => ?_, hL.lst.fo (by have := @ic i; omega) hl⟩
  have := (hL.in hy).1
  rw [e] at this
  exact absurd this (by decide)
end KDS
section TRC
variable {X : ev_X} {W : Nat → Prop} {d : Nat} {P : MP} {μ : MS} {T : MS → Prop}
theorem t_next (hd : 4 ≤ d) (hS : PS μ) (h3 : ¬ srt μ = 203) (hT : ∀ μ1, kf SPA RPA μ μ1 → T μ1) : MC X W true d 294 [.ref P.1] P μ (fun _ μ1 => TR (-1) 0 0 0 0 (-2) μ μ1 ∧ (μ1.1 19).toInt = (μ.1 19).toInt ∧ (μ1.1 32).toInt = (μ.1 32).toInt + 1) T :=
  MC.mono (c_next hd hS h3 hT) (fun _ μ1 h => by
    obtain ⟨rfl, h2⟩ := h
    have e := nx_at hS
    exact ⟨⟨(PR.rf hS).nx h2, by show (μ.1 19).toInt + _ ≤ _; omega⟩, rfl, e⟩) (fun _ h => h)
theorem t_expect {x : Int32} (hd : 5 ≤ d) (hS : PS μ) (hx : ¬ x = 203) (hT : ∀ μ1, kf SPA RPA μ μ1 → T μ1) : MC X W true d 297 [.ref P.1, .int x] P μ (fun _ μ1 => TR (-1) 0 0 0 0 (-2) μ μ1 ∧ (μ1.1 19).toInt = (μ.1 19).toInt ∧ (μ1.1 32).toInt = (μ.1 32).toInt + 1) T :=
  MC.mono (c_expect hd hS hx hT) (fun _ μ1 h => by
    obtain ⟨-, rfl, h2⟩ := h
    have e := nx_at hS
    exact ⟨⟨(PR.rf hS).nx h2, by show (μ.1 19).toInt + _ ≤ _; omega⟩, rfl, e⟩) (fun _ h => h)
theorem t_name (hd : 5 ≤ d) (hS : PS μ) (hT : ∀ μ1, kf SPA RPA μ μ1 → T μ1) : MC X W true d 298 [.ref P.1] P μ (fun _ μ1 => TR (-1) 0 0 0 0 (-2) μ μ1 ∧ (μ1.1 19).toInt = (μ.1 19).toInt ∧ (μ1.1 32).toInt = (μ.1 32).toInt + 1) T :=
  MC.mono (c_name hd hS hT) (fun _ μ1 h => by
    obtain ⟨-, rfl, h2⟩ := h
    have e := nx_at hS
    exact ⟨⟨(PR.rf hS).nx h2, by show (μ.1 19).toInt + _ ≤ _; omega⟩, rfl, e⟩) (fun _ h => h)
theorem t_open {x : Int32} (hd : 5 ≤ d) (hS : PS μ) (hx : ¬ x = 203) (hT : ∀ μ1, kf SPA RPA μ μ1 → T μ1) : MC X W true d 299 [.ref P.1, .int x] P μ (fun _ μ1 => TR (-1) 1 0 0 0 (-2) μ μ1 ∧ (μ1.1 19).toInt = (μ.1 19).toInt ∧ (μ1.1 32).toInt = (μ.1 32).toInt + 1) T :=
  MC.mono (c_open hd hS hx hT) (fun _ μ1 h => by
    obtain ⟨-, rfl, h1, h2⟩ := h
    have e : ((opS μ).1 32).toInt = (μ.1 32).toInt + 1 := nx_i hS
    exact ⟨⟨(PR.rf hS).op h2 h1 rfl, by show (μ.1 19).toInt + _ ≤ _ + 2 * ((opS μ).1 32).toInt + _; omega⟩, rfl, e⟩) (fun _ h => h)
theorem t_close {x : Int32} (hd : 6 ≤ d) (hS : PS μ) (hx : ¬ x = 203) (hb : 1 ≤ (μ.1 37).toInt) (hT : ∀ μ1, kf SPA RPA μ μ1 → T μ1) : MC X W true d 300 [.ref P.1, .int x] P μ (fun _ μ1 => TR (-1) (-1) 0 0 0 (-2) μ μ1 ∧ (μ1.1 19).toInt = (μ.1 19).toInt ∧ (μ1.1 32).toInt = (μ.1 32).toInt + 1) T :=
  MC.mono (c_close hd hS hx hb hT) (fun _ μ1 h => by
    obtain ⟨rfl, h2⟩ := h
    have e := nx_at hS
    exact ⟨⟨(PR.rf hS).cl h2 hb rfl, by show (μ.1 19).toInt + _ ≤ _ + 2 * ((nxS μ).1 32).toInt + _; omega⟩, rfl, e⟩) (fun _ h => h)
theorem t_node {k a b : Int32} (hd : 2 ≤ d) (hS : PS μ) (hn : (μ.1 19).toInt < 15990) : MC X W true d 292 [.ref P.1, .int k, .int a, .int b] P μ (fun r μ1 => TR (-1) 0 0 0 0 1 μ μ1 ∧ (r.toInt = (μ.1 19).toInt ∧ 0 ≤ r.toInt) ∧ (μ1.1 19).toInt = (μ.1 19).toInt + 1 ∧ (μ1.1 32).toInt = (μ.1 32).toInt ∧ srt μ1 = srt μ ∧ ND μ1 r.toNatClampNeg k a b (-1) (-1) (-1) (-1)) T :=
  MC.mono (c_node hd hS hn) (fun r μ1 h => by
    obtain ⟨rfl, h1, h2, h3, h4, h5⟩ := h
    have h3 := eq_i h3
    exact ⟨⟨h1, by omega⟩, ⟨rfl, hS.2.2.2.2.1⟩, h2, h3, h4, h5⟩) (fun _ h => h)
end TRC
