/-! contracts of the reference: the parser's state, one node, one step -/
abbrev SPA : List Nat := [17, 18, 19, 32, 34, 37, 38, 39, 40]
abbrev RPA : List Nat := [20, 21, 22, 23, 24, 25, 26, 27, 28, 29, 30, 31]
/-- the token at hand -/
def srt (μ : MS) : Int32 := μ.2.1 9 (μ.1 32).toNatClampNeg
/-- the parser is in order -/
def PS (μ : MS) : Prop := LRow μ.2.2 ∧ CutP μ ∧ (0 ≤ (μ.1 32).toInt ∧ (μ.1 32).toInt < (μ.1 8).toInt) ∧ ¬ srt μ = 202 ∧ 0 ≤ (μ.1 19).toInt ∧ (0 ≤ (μ.1 37).toInt ∧ (μ.1 37).toInt ≤ 20) ∧ (0 ≤ (μ.1 38).toInt ∧ (μ.1 38).toInt ≤ 20) ∧ (0 ≤ (μ.1 39).toInt ∧ (μ.1 39).toInt ≤ 20) ∧ (0 ≤ (μ.1 40).toInt ∧ (μ.1 40).toInt ≤ 20)
/-- nodes older than so many stay, but e -/
def RB (e : Int) (n : Int) (μ μ1 : MS) : Prop := ∀ g, 20 ≤ g → g ≤ 31 → ∀ i : Nat, (i : Int) < n → (i : Int) ≠ e → μ1.2.1 g i = μ.2.1 g i
theorem RB.rf {e n : Int} {μ : MS} : RB e n μ μ := fun _ _ _ _ _ _ => rfl
theorem RB.tr {e n : Int} {μ μ1 μ2 : MS} (h : RB e n μ μ1) (k : RB e n μ1 μ2) : RB e n μ μ2 := fun g h1 h2 i h3 h4 => (k g h1 h2 i h3 h4).trans (h g h1 h2 i h3 h4)
theorem RB.lo {e n m : Int} {μ μ1 : MS} (h : RB e n μ μ1) (hm : m ≤ n) : RB e m μ μ1 := fun g h1 h2 i h3 h4 => h g h1 h2 i (by omega) h4
theorem RB.ex {e e' n : Int} {μ μ1 : MS} (h : RB e n μ μ1) (he : e < 0) : RB e' n μ μ1 := fun g h1 h2 i h3 h4 => h g h1 h2 i h3 (by omega)
theorem RB.S {e n : Int} {μ : MS} {b : Nat} {x : Int32} : RB e n μ (mS1 μ b x) := fun _ _ _ _ _ _ => rfl
theorem RB.A {e n : Int} {μ : MS} {b t : Nat} {x : Int32} (h : n ≤ t ∨ (t : Int) = e) : RB e n μ (mA1 μ b t x) := fun g h1 h2 i h3 h4 => by
  show (bif Nat.beq g b then upd (μ.2.1 b) t x else μ.2.1 g) i = _
  by_cases e1 : g = b
  · subst e1
    rw [nb_self]
    show upd (μ.2.1 g) t x i = _
    unfold upd
    rw [if_neg (by omega)]
  · rw [nb_ne e1]; rfl
/-- new nodes are the unit's at hand, others stay their unit's -/
def NC (μ μ1 : MS) : Prop := ∀ j : Nat, (j : Int) < (μ1.1 19).toInt → ((j : Int) < (μ.1 19).toInt ∧ (μ1.2.1 29 j = μ.2.1 29 j ∧ μ1.2.1 28 j = μ.2.1 28 j)) ∨ ((μ.1 19).toInt ≤ j ∧ (μ1.2.1 29 j = μ.1 33 ∧ μ1.2.1 28 j = -1))
theorem NC.rf {μ : MS} : NC μ μ := fun _ hj => Or.inl ⟨hj, rfl, rfl⟩
theorem NC.tr {μ μ1 μ2 : MS} (h : NC μ μ1) (k : NC μ1 μ2) (e : μ1.1 33 = μ.1 33) (l : (μ.1 19).toInt ≤ (μ1.1 19).toInt) : NC μ μ2 := fun j hj => by
  rcases k j hj with ⟨a, b, b'⟩ | ⟨a, b, b'⟩
  · rcases h j a with ⟨c, d, d'⟩ | ⟨c, d, d'⟩
    · exact Or.inl ⟨c, b.trans d, b'.trans d'⟩
    · exact Or.inr ⟨c, b.trans d, b'.trans d'⟩
  · exact Or.inr ⟨by omega, b.trans e, b'⟩
/-- from one state of the parser to a later one -/
def PR0 (e : Int) (b n t s : Int) (μ μ1 : MS) : Prop := kf SPA RPA μ μ1 ∧ PS μ1 ∧ (μ.1 32).toInt ≤ (μ1.1 32).toInt ∧ (μ.1 19).toInt ≤ (μ1.1 19).toInt ∧ RB e (μ.1 19).toInt μ μ1 ∧
  (μ1.1 37).toInt = (μ.1 37).toInt + b ∧ (μ1.1 38).toInt = (μ.1 38).toInt + n ∧ (μ1.1 39).toInt = (μ.1 39).toInt + t ∧ (μ1.1 40).toInt = (μ.1 40).toInt + s
def PR (e : Int) (b n t s : Int) (μ μ1 : MS) : Prop := kf SPA RPA μ μ1 ∧ PS μ1 ∧ (μ.1 32).toInt ≤ (μ1.1 32).toInt ∧ (μ.1 19).toInt ≤ (μ1.1 19).toInt ∧ RB e (μ.1 19).toInt μ μ1 ∧
  (μ1.1 37).toInt = (μ.1 37).toInt + b ∧ (μ1.1 38).toInt = (μ.1 38).toInt + n ∧ (μ1.1 39).toInt = (μ.1 39).toInt + t ∧ (μ1.1 40).toInt = (μ.1 40).toInt + s ∧ NC μ μ1
theorem PR.tr {e b n t s b' n' t' s' b2 n2 t2 s2 : Int} {μ μ1 μ2 : MS} (h : PR e b n t s μ μ1) (k : PR e b' n' t' s' μ1 μ2) (e1 : b2 = b + b') (e2 : n2 = n + n') (e3 : t2 = t + t') (e4 : s2 = s + s') : PR e b2 n2 t2 s2 μ μ2 := by
  obtain ⟨h1, h2, h3, h4, h5, h6, h7, h8, h9, h10⟩ := h
  obtain ⟨k1, k2, k3, k4, k5, k6, k7, k8, k9, k10⟩ := k
  exact ⟨h1.tr k1, k2, by omega, by omega, h5.tr (k5.lo h4), by omega, by omega, by omega, by omega, h10.tr k10 (h1.1 33 rfl) h4⟩
theorem PR.ex {e e' b n t s : Int} {μ μ1 : MS} (h : PR e b n t s μ μ1) (he : e < 0) : PR e' b n t s μ μ1 := ⟨h.1, h.2.1, h.2.2.1, h.2.2.2.1, h.2.2.2.2.1.ex he, h.2.2.2.2.2⟩
theorem PS.kf {s r : List Nat} {μ μ1 : MS} (h : PS μ) (hf : kf s r μ μ1) (h8 : s.contains 8 = false) (h32 : s.contains 32 = false) (h19 : s.contains 19 = false) (h37 : s.contains 37 = false) (h38 : s.contains 38 = false) (h39 : s.contains 39 = false) (h40 : s.contains 40 = false) (h9 : r.contains 9 = false) : PS μ1 := by
  obtain ⟨k1, k2, k3, k4, k5, k6, k7, k8, k9⟩ := h
  unfold PS srt
  rw [hf.1 8 h8, hf.1 32 h32, hf.1 19 h19, hf.1 37 h37, hf.1 38 h38, hf.1 39 h39, hf.1 40 h40, hf.2.1 9 h9, hf.2.2]
  exact ⟨k1, k2.kf hf h8 h9, k3, k4, k5, k6, k7, k8, k9⟩
/-- a field of a node is put -/
theorem PR0.A {e b n t s : Int} {μ ν : MS} (h : PR0 e b n t s μ ν) {g i : Nat} {x : Int32} (hg : RPA.contains g = true) (h9 : [g].contains 9 = false) (hi : (μ.1 19).toInt ≤ i ∨ (i : Int) = e) : PR0 e b n t s μ (mA1 ν g i x) := by
  obtain ⟨h1, h2, h3, h4, h5, h6⟩ := h
  exact ⟨h1.A hg, h2.kf (s := []) (r := [g]) (kf.rf.A (by simp)) rfl rfl rfl rfl rfl rfl rfl h9, h3, h4, h5.tr (RB.A hi), h6⟩
theorem PR.A {e b n t s : Int} {μ ν : MS} (h : PR e b n t s μ ν) {g i : Nat} {x : Int32} (hg : RPA.contains g = true) (h9 : ([g].contains 9 || (Nat.beq 29 g || Nat.beq 28 g)) = false) (hi : (μ.1 19).toInt ≤ i ∨ (i : Int) = e) : PR e b n t s μ (mA1 ν g i x) := by
  obtain ⟨h1, h2, h3, h4, h5, h6, h7, h8, h10, h11⟩ := h
  obtain ⟨ha, hb⟩ := Bool.or_eq_false_iff.mp h9
  obtain ⟨hb, hb2⟩ := Bool.or_eq_false_iff.mp hb
  refine ⟨h1.A hg, h2.kf (s := []) (r := [g]) (kf.rf.A (by simp)) rfl rfl rfl rfl rfl rfl rfl ha, h3, h4, h5.tr (RB.A hi), h6, h7, h8, h10, fun j hj => ?_⟩
  show ((j : Int) < _ ∧ ((bif Nat.beq 29 g then upd (ν.2.1 g) i x else ν.2.1 29) j = _ ∧ (bif Nat.beq 28 g then upd (ν.2.1 g) i x else ν.2.1 28) j = _)) ∨ (_ ∧ ((bif Nat.beq 29 g then upd (ν.2.1 g) i x else ν.2.1 29) j = _ ∧ (bif Nat.beq 28 g then upd (ν.2.1 g) i x else ν.2.1 28) j = _))
  rw [hb, hb2]
  exact h11 j hj
/-- what stands in a node -/
def ND (μ : MS) (i : Nat) (k a b c d e n : Int32) : Prop := μ.2.1 20 i = k ∧ μ.2.1 22 i = a ∧ μ.2.1 23 i = b ∧ μ.2.1 24 i = c ∧ μ.2.1 25 i = d ∧ μ.2.1 26 i = e ∧ μ.2.1 27 i = n
theorem ND.rb {ex n : Int} {μ μ1 : MS} {i : Nat} {k a b c d e nn : Int32} (h : ND μ i k a b c d e nn) (hr : RB ex n μ μ1) (h1 : (i : Int) < n) (h2 : (i : Int) ≠ ex) : ND μ1 i k a b c d e nn := by
  obtain ⟨a1, a2, a3, a4, a5, a6, a7⟩ := h
  exact ⟨(hr 20 (by decide) (by decide) i h1 h2).trans a1, (hr 22 (by decide) (by decide) i h1 h2).trans a2, (hr 23 (by decide) (by decide) i h1 h2).trans a3, (hr 24 (by decide) (by decide) i h1 h2).trans a4, (hr 25 (by decide) (by decide) i h1 h2).trans a5, (hr 26 (by decide) (by decide) i h1 h2).trans a6, (hr 27 (by decide) (by decide) i h1 h2).trans a7⟩
theorem upd_at {f : Nat → Int32} {i : Nat} {x : Int32} : upd f i x i = x := by unfold upd; rw [if_pos rfl]
theorem upd_off {f : Nat → Int32} {i j : Nat} {x : Int32} (h : j ≠ i) : upd f i x j = f j := by unfold upd; rw [if_neg h]
/-- nothing put into the row of symbols -/
theorem PR.N {e b n t s : Int} {μ ν : MS} (h : PR e b n t s μ ν) {i : Nat} (hi : (μ.1 19).toInt ≤ i) : PR e b n t s μ (mA1 ν 28 i (-1)) := by
  obtain ⟨h1, h2, h3, h4, h5, h6, h7, h8, h10, h11⟩ := h
  refine ⟨h1.A rfl, h2.kf (s := []) (r := [28]) (kf.rf.A rfl) rfl rfl rfl rfl rfl rfl rfl rfl, h3, h4, h5.tr (RB.A (Or.inl hi)), h6, h7, h8, h10, fun j hj => ?_⟩
  have e29 : (mA1 ν 28 i (-1)).2.1 29 = ν.2.1 29 := rfl
  rw [e29]
  by_cases c : j = i
  · rcases h11 j hj with ⟨w, -⟩ | ⟨w1, w2, -⟩
    · omega
    · refine Or.inr ⟨w1, w2, ?_⟩
      rw [c]
      exact upd_at
  · have e28 : (mA1 ν 28 i (-1)).2.1 28 j = ν.2.1 28 j := upd_off c
    rw [e28]
    exact h11 j hj
section NDU
variable {μ : MS} {i : Nat} {k a b c d e n x : Int32}
theorem ND.pk (h : ND μ i k a b c d e n) : ND (mA1 μ 20 i x) i x a b c d e n := ⟨upd_at, h.2⟩
theorem ND.pa (h : ND μ i k a b c d e n) : ND (mA1 μ 22 i x) i k x b c d e n := ⟨h.1, upd_at, h.2.2⟩
theorem ND.pb (h : ND μ i k a b c d e n) : ND (mA1 μ 23 i x) i k a x c d e n := ⟨h.1, h.2.1, upd_at, h.2.2.2⟩
theorem ND.pc (h : ND μ i k a b c d e n) : ND (mA1 μ 24 i x) i k a b x d e n := ⟨h.1, h.2.1, h.2.2.1, upd_at, h.2.2.2.2⟩
theorem ND.pd (h : ND μ i k a b c d e n) : ND (mA1 μ 25 i x) i k a b c x e n := ⟨h.1, h.2.1, h.2.2.1, h.2.2.2.1, upd_at, h.2.2.2.2.2⟩
theorem ND.pe (h : ND μ i k a b c d e n) : ND (mA1 μ 26 i x) i k a b c d x n := ⟨h.1, h.2.1, h.2.2.1, h.2.2.2.1, h.2.2.2.2.1, upd_at, h.2.2.2.2.2.2⟩
theorem ND.pn (h : ND μ i k a b c d e n) : ND (mA1 μ 27 i x) i k a b c d e x := ⟨h.1, h.2.1, h.2.2.1, h.2.2.2.1, h.2.2.2.2.1, h.2.2.2.2.2.1, upd_at⟩
end NDU
/-- the next token -/
def nxS (μ : MS) : MS := mS1 μ 32 (μ.1 32 + 1)
section PRA
variable {X : ev_X} {W : Nat → Prop} {d : Nat} {P : MP} {μ : MS} {T : MS → Prop}
theorem c_first {x l : Int32} (hd : 1 ≤ d) (hT : ∀ μ1, kf SPA RPA μ μ1 → T μ1) : MC X W true d 289 [.ref P.1, .int x, .int l] P μ (fun _ _ => False) T :=
  me_meth hd rfl (v_first_0 _ _ (hT _ ((kf.rf.S rfl).S rfl)))
theorem c_line (hd : 1 ≤ d) (hS : LRow μ.2.2) (h0 : 0 ≤ (μ.1 32).toInt) (h1 : (μ.1 32).toInt < 6002) : MC X W true d 291 [.ref P.1] P μ (fun _ μ1 => μ1 = μ) T :=
  me_meth hd rfl (v_line_0 ⟨MI.of (hS.g rfl rfl : _ = 6002) h0 h1, rfl⟩)
theorem PS.at (h : PS μ) : 0 ≤ (μ.1 32).toInt ∧ (μ.1 32).toInt < 6002 := ⟨h.2.2.1.1, by have := h.2.2.1.2; have := h.2.1.2.1; omega⟩
theorem c_unfit (hd : 2 ≤ d) (hS : PS μ) (hT : ∀ μ1, kf SPA RPA μ μ1 → T μ1) : MC X W true d 295 [.ref P.1] P μ (fun _ _ => False) T := by
  refine me_meth (by omega) rfl (v_unfit_0 ((c_line (by omega) hS.1 hS.at.1 hS.at.2).mono (fun r ν h => ?_) (fun _ h => h)))
  subst h
  exact (c_first (by omega) hT).mono (fun _ _ h => h.elim) (fun _ h => h)
theorem c_is {x : Int32} (hd : 1 ≤ d) (hS : PS μ) : MC X W true d 296 [.ref P.1, .int x] P μ (fun r μ1 => r = bI (decide (srt μ = x)) ∧ μ1 = μ) T := by
  refine me_meth hd rfl (v_is_0 _ ⟨MI.of (hS.1.g rfl rfl : _ = 6002) hS.at.1 hS.at.2, fun h => ⟨?_, rfl⟩, fun h => ⟨?_, rfl⟩⟩)
  · rw [decide_eq_false (show ¬ srt μ = x from h)]; rfl
  · rw [decide_eq_true (show srt μ = x from h)]; rfl
theorem is_t {x : Int32} (h : ¬ bI (decide (srt μ = x)) = 0) : srt μ = x := by simpa using bI_t h
theorem is_f {x : Int32} (h : bI (decide (srt μ = x)) = 0) : ¬ srt μ = x := by simpa using bI_f h
theorem c_look (hd : 3 ≤ d) (hL : LRow μ.2.2) (h0 : 0 ≤ (μ.1 32).toInt) (h1 : (μ.1 32).toInt < 6002) (hT : ∀ μ1, kf SPA RPA μ μ1 → T μ1) : MC X W true d 293 [.ref P.1] P μ (fun _ μ1 => μ1 = μ ∧ ¬ srt μ = 202) T := by
  refine me_meth (by omega) rfl (v_look_0 ⟨MI.of (hL.g rfl rfl : _ = 6002) h0 h1, fun h => ⟨rfl, h⟩, fun h => (c_line (by omega) hL h0 h1).mono (fun r ν h => ?_) (fun _ h => h)⟩)
  subst h
  exact (c_first (by omega) hT).mono (fun _ _ h => h.elim) (fun _ h => h)
theorem nx_lt (hS : PS μ) (h3 : ¬ srt μ = 203) : (μ.1 32).toInt + 1 < (μ.1 8).toInt := by
  obtain ⟨-, ⟨c1, c2, c3, c4⟩, ⟨a0, a1⟩, a2, -⟩ := hS
  by_cases e : (μ.1 32).toInt + 1 < (μ.1 8).toInt
  · exact e
  · exfalso
    have hc := @ic (μ.1 32)
    rw [show (μ.1 8).toInt.toNat - 1 = (μ.1 32).toNatClampNeg by omega] at c4
    exact c4 ⟨a2, h3⟩
theorem nx_i (hS : PS μ) : (μ.1 32 + 1).toInt = (μ.1 32).toInt + 1 := ia1 (by have := hS.at.2; omega)
theorem c_next (hd : 4 ≤ d) (hS : PS μ) (h3 : ¬ srt μ = 203) (hT : ∀ μ1, kf SPA RPA μ μ1 → T μ1) : MC X W true d 294 [.ref P.1] P μ (fun _ μ1 => μ1 = nxS μ ∧ PS μ1) T := by
  have hlt := nx_lt hS h3
  have hi := nx_i hS
  have h2 := hS.2.1.2.1
  refine me_meth (by omega) rfl (v_next_0 ((c_look (μ := mS1 μ 32 (μ.1 32 + 1)) (by omega) hS.1 (by show 0 ≤ (μ.1 32 + 1).toInt; have := hS.at.1; omega) (by show (μ.1 32 + 1).toInt < _; omega) (fun μ1 h => hT _ ((kf.rf.S rfl).tr h))).mono (fun r ν h => ?_) (fun _ h => h)))
  obtain ⟨rfl, h⟩ := h
  obtain ⟨k1, k2, ⟨k3, k3'⟩, k4, k5, k6⟩ := hS
  exact ⟨rfl, k1, k2.kf (s := [32]) (r := []) (kf.rf.S rfl) rfl rfl, ⟨by show 0 ≤ (μ.1 32 + 1).toInt; omega, by show (μ.1 32 + 1).toInt < (μ.1 8).toInt; omega⟩, h, k5, k6⟩
theorem c_expect {x : Int32} (hd : 5 ≤ d) (hS : PS μ) (hx : ¬ x = 203) (hT : ∀ μ1, kf SPA RPA μ μ1 → T μ1) : MC X W true d 297 [.ref P.1, .int x] P μ (fun _ μ1 => srt μ = x ∧ μ1 = nxS μ ∧ PS μ1) T := by
  refine me_meth (by omega) rfl (v_expect_0 _ ((c_is (by omega) hS).mono (fun r ν h => ?_) (fun _ h => h)))
  obtain ⟨rfl, rfl⟩ := h
  refine ⟨fun h => ?_, fun _ => (c_unfit (by omega) hS hT).mono (fun _ _ h => h.elim) (fun _ h => h)⟩
  have hs := is_t h
  exact (c_next (by omega) hS (by rw [hs]; exact hx) hT).mono (fun _ _ h => ⟨hs, h⟩) (fun _ h => h)
theorem c_name (hd : 5 ≤ d) (hS : PS μ) (hT : ∀ μ1, kf SPA RPA μ μ1 → T μ1) : MC X W true d 298 [.ref P.1] P μ (fun _ μ1 => srt μ = 200 ∧ μ1 = nxS μ ∧ PS μ1) T := by
  refine me_meth (by omega) rfl (v_name_0 ((c_is (by omega) hS).mono (fun r ν h => ?_) (fun _ h => h)))
  obtain ⟨rfl, rfl⟩ := h
  refine ⟨fun h => ⟨MI.of (hS.1.g rfl rfl : _ = 6002) hS.at.1 hS.at.2, ?_⟩, fun _ => (c_unfit (by omega) hS hT).mono (fun _ _ h => h.elim) (fun _ h => h)⟩
  have hs := is_t h
  exact (c_next (by omega) hS (by rw [hs]; decide) hT).mono (fun _ _ h => ⟨hs, h⟩) (fun _ h => h)
/-- a bracket opened, behind it -/
def opS (μ : MS) : MS := mS1 (mS1 μ 37 (μ.1 37 + 1)) 32 (μ.1 32 + 1)
theorem c_open {x : Int32} (hd : 5 ≤ d) (hS : PS μ) (hx : ¬ x = 203) (hT : ∀ μ1, kf SPA RPA μ μ1 → T μ1) : MC X W true d 299 [.ref P.1, .int x] P μ (fun _ μ1 => srt μ = x ∧ μ1 = opS μ ∧ (μ.1 37).toInt < 20 ∧ PS μ1) T := by
  refine me_meth (by omega) rfl (v_open_0 _ ((c_is (by omega) hS).mono (fun r ν h => ?_) (fun _ h => h)))
  obtain ⟨rfl, rfl⟩ := h
  refine ⟨fun h => ⟨fun hb => ?_, fun _ => (c_line (by omega) hS.1 hS.at.1 hS.at.2).mono (fun r ν2 h => ?_) (fun _ h => h)⟩, fun _ => (c_unfit (by omega) hS hT).mono (fun _ _ h => h.elim) (fun _ h => h)⟩
  · have hs := is_t h
    have hb := ne_i hb
    rw [show (20 : Int32).toInt = 20 from rfl] at hb
    obtain ⟨k1, k2, k3, k4, k5, ⟨k6, k6'⟩, k7⟩ := id hS
    have hS2 : PS (mS1 ν 37 (ν.1 37 + 1)) := ⟨k1, k2.kf (s := [37]) (r := []) (kf.rf.S rfl) rfl rfl, k3, k4, k5, ⟨by show 0 ≤ (ν.1 37 + 1).toInt; rw [ia1 (by omega)]; omega, by show (ν.1 37 + 1).toInt ≤ 20; rw [ia1 (by omega)]; omega⟩, k7⟩
    exact (c_next (by omega) hS2 (by show ¬ srt ν = 203; rw [hs]; exact hx) (fun μ1 h => hT _ ((kf.rf.S rfl).tr h))).mono (fun _ _ h => ⟨hs, h.1, by omega, h.2⟩) (fun _ h => h)
  · subst h
    exact (c_first (by omega) hT).mono (fun _ _ h => h.elim) (fun _ h => h)
theorem c_close {x : Int32} (hd : 6 ≤ d) (hS : PS μ) (hx : ¬ x = 203) (hb : 1 ≤ (μ.1 37).toInt) (hT : ∀ μ1, kf SPA RPA μ μ1 → T μ1) : MC X W true d 300 [.ref P.1, .int x] P μ (fun _ μ1 => μ1 = mS1 (nxS μ) 37 (μ.1 37 - 1) ∧ PS μ1) T := by
  refine me_meth (by omega) rfl (v_close_0 _ ((c_expect (by omega) hS hx hT).mono (fun r ν h => ?_) (fun _ h => h)))
  obtain ⟨-, rfl, hS2⟩ := h
  refine ⟨rfl, ?_⟩
  obtain ⟨k1, k2, k3, k4, k5, ⟨k6, k6'⟩, k7⟩ := hS2
  have k6 : 0 ≤ (μ.1 37).toInt := k6
  have k6' : (μ.1 37).toInt ≤ 20 := k6'
  have e : (μ.1 37 - 1).toInt = (μ.1 37).toInt - 1 := by
    rw [ib (by rw [show (1 : Int32).toInt = 1 from rfl]; omega) (by rw [show (1 : Int32).toInt = 1 from rfl]; omega)]; rfl
  exact ⟨k1, k2.kf (s := [37]) (r := []) (kf.rf.S rfl) rfl rfl, k3, k4, k5, ⟨by show 0 ≤ (μ.1 37 - 1).toInt; omega, by show (μ.1 37 - 1).toInt ≤ 20; omega⟩, k7⟩
theorem c_node {k a b : Int32} (hd : 2 ≤ d) (hS : PS μ) (hn : (μ.1 19).toInt < 15990) : MC X W true d 292 [.ref P.1, .int k, .int a, .int b] P μ (fun r μ1 => r = μ.1 19 ∧ PR (-1) 0 0 0 0 μ μ1 ∧ (μ1.1 19).toInt = (μ.1 19).toInt + 1 ∧ μ1.1 32 = μ.1 32 ∧ srt μ1 = srt μ ∧ ND μ1 (μ.1 19).toNatClampNeg k a b (-1) (-1) (-1) (-1)) T := by
  have hL := hS.1
  have h0 := hS.2.2.2.2.1
  have hat := hS.at
  have mi : ∀ g, rk g = true → rlen g = 16000 → MI (μ.1 19) (μ.2.2 g) := fun g h1 h2 => MI.of (hL.g h1 h2) h0 (by omega)
  have e1 : (μ.1 19 + 1).toInt = (μ.1 19).toInt + 1 := ia1 (by omega)
  refine me_meth (by omega) rfl (v_node_0 _ _ _ ⟨mi 20 rfl rfl, MC.mono (c_line (by omega) hL hat.1 hat.2) (fun r ν h => ?_) (fun _ h => h)⟩)
  subst h
  refine ⟨mi 21 rfl rfl, mi 22 rfl rfl, mi 23 rfl rfl, mi 24 rfl rfl, mi 25 rfl rfl, mi 26 rfl rfl, mi 27 rfl rfl, mi 28 rfl rfl, mi 29 rfl rfl, mi 30 rfl rfl, MC.mono (c_line (by omega) hL hat.1 hat.2) (fun r ν h => ?_) (fun _ h => h)⟩
  subst h
  refine ⟨mi 31 rfl rfl, rfl, ?_, e1, rfl, rfl, ⟨upd_at, upd_at, upd_at, upd_at, upd_at, upd_at, upd_at⟩⟩
  have hc := @ic (μ.1 19)
  have hlt : (μ.1 19).toInt ≤ ((μ.1 19).toNatClampNeg : Int) := by omega
  have base : PR0 (-1) 0 0 0 0 μ (mS1 μ 19 (μ.1 19 + 1)) := by
    obtain ⟨k1, k2, k3, k4, k5, k6⟩ := hS
    exact ⟨kf.rf.S rfl, ⟨k1, k2.kf (s := [19]) (r := []) (kf.rf.S rfl) rfl rfl, k3, k4, by show 0 ≤ (μ.1 19 + 1).toInt; omega, k6⟩, Int.le_refl _, by show _ ≤ (μ.1 19 + 1).toInt; omega, RB.S, by show _ = _ + (0 : Int); rw [Int.add_zero]; rfl, by show _ = _ + (0 : Int); rw [Int.add_zero]; rfl, by show _ = _ + (0 : Int); rw [Int.add_zero]; rfl, by show _ = _ + (0 : Int); rw [Int.add_zero]; rfl⟩
  have fin : ∀ κ, PR0 (-1) 0 0 0 0 μ κ → NC μ κ → PR (-1) 0 0 0 0 μ κ := fun κ hz z10 => by
    obtain ⟨z1, z2, z3, z4, z5, z6, z7, z8, z9⟩ := hz
    exact ⟨z1, z2, z3, z4, z5, z6, z7, z8, z9, z10⟩
  refine fin _ ((((((((((((base.A rfl rfl (Or.inl hlt)).A rfl rfl (Or.inl hlt)).A rfl rfl (Or.inl hlt)).A rfl rfl (Or.inl hlt)).A rfl rfl (Or.inl hlt)).A rfl rfl (Or.inl hlt)).A rfl rfl (Or.inl hlt)).A rfl rfl (Or.inl hlt)).A rfl rfl (Or.inl hlt)).A rfl rfl (Or.inl hlt)).A rfl rfl (Or.inl hlt)).A rfl rfl (Or.inl hlt)) (fun j hj => ?_)
  have hj : (j : Int) < (μ.1 19 + 1).toInt := hj
  by_cases e : j = (μ.1 19).toNatClampNeg
  · refine Or.inr ⟨by omega, ?_, ?_⟩
    · show upd (μ.2.1 29) (μ.1 19).toNatClampNeg (μ.1 33) j = _
      rw [e, upd_at]
    · show upd (μ.2.1 28) (μ.1 19).toNatClampNeg (-1) j = _
      rw [e, upd_at]
  · refine Or.inl ⟨by omega, ?_, ?_⟩
    · show upd (μ.2.1 29) (μ.1 19).toNatClampNeg (μ.1 33) j = _
      rw [upd_off e]
    · show upd (μ.2.1 28) (μ.1 19).toNatClampNeg (-1) j = _
      rw [upd_off e]
end PRA
