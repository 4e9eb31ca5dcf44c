/-! contracts of the reference: a SIGNATURE -/
theorem Cq.last {κ : MS} {k : Int32} {lo lb : Int} : ∀ {q : Nat} {a b : Int32}, Cq κ k lo lb q a b → 0 ≤ b.toInt → κ.2.1 27 b.toNatClampNeg = -1 → Lst (fun i => κ.2.1 27 i.toNatClampNeg = -1 → i = b) (κ.2.1 27) (q + 1) a
  | 0, a, b, hS, hb, hn => by
    cases hS
    exact Or.inr ⟨fun _ => rfl, hn⟩
  | q + 1, a, b, hS, hb, hn => by
    refine Or.inr ⟨fun e => ?_, Cq.last hS.2 hb hn⟩
    have h2 := hS.2
    rw [e] at h2
    cases q with
    | zero =>
      have e2 : (-1 : Int32) = b := h2
      rw [← e2] at hb
      exact absurd hb (by decide)
    | succ q => exact absurd h2.1.1 (by decide)
theorem MJ.ji {h : Nat} {n0 : Int} {ν κ : MS} {x3 x4 x7 : Int32} (hM : MJ h n0 ν x3 x4 x7) (h7 : ¬ x7 = -1) (hr : RB (-1) (ν.1 19).toInt ν κ) (hn : (ν.1 19).toInt ≤ (κ.1 19).toInt) : 0 ≤ x3.toInt ∧ ∃ na c, n0 ≤ na ∧ JI 13 9 h n0 na (ν.1 19).toInt κ c x3 x7 ∧ Lst (fun i => κ.2.1 27 i.toNatClampNeg = -1 → i = x4) (κ.2.1 27) c x7 := by
  rcases hM with ⟨h1, -⟩ | ⟨h1, h2, na, m, q, ⟨h3, h3', h3''⟩, h4, h5, ⟨h6, h6'⟩, h7', h8, h9⟩
  · exact absurd h1 h7
  · have hc4 := @ic x4
    have c1 : Cq κ 13 na x4.toInt q x7 x4 := h5.rb (hr.lo (by omega)) (Int.le_refl _) (Or.inl (by omega))
    have e1 : κ.2.1 27 x4.toNatClampNeg = -1 := (hr 27 (by omega) (by omega) _ (by omega) (by omega)).trans h9
    exact ⟨h2, na, q + 1, h3, ⟨⟨h1, h3, h3'', hn⟩, ⟨m, h4.mono (fun a j hj => ⟨⟨hj.1.1, by have := hj.1.2; omega⟩, hj.2⟩) (Int.le_refl _) (fun g k1 k2 a j _ _ hj => hr g k1 (by omega) j hj.1.2 (by omega))⟩, c1.done (by omega) ⟨by omega, h6, h6', (hr 20 (by omega) (by omega) _ (by omega) (by omega)).trans h8, Or.inl e1⟩ e1⟩, c1.last (by omega) e1⟩
/-- so many steps along the links, each of them upwards -/
def Wi (ν : MS) (lo hi : Int) : Nat → Int32 → Int32 → Prop
  | 0, a, b => a = b
  | m + 1, a, b => ((0 ≤ a.toInt ∧ lo ≤ a.toInt ∧ a.toInt < hi) ∧ a.toInt < (ν.2.1 27 a.toNatClampNeg).toInt) ∧ Wi ν lo hi m (ν.2.1 27 a.toNatClampNeg) b
theorem Wi.wn {ν : MS} {lo hi : Int} : ∀ {m : Nat} {a b : Int32}, Wi ν lo hi m a b → Wn ν lo hi m a b
  | 0, _, _, h => h
  | m + 1, _, _, h => ⟨h.1.1, Wi.wn h.2⟩
theorem Wi.rb {ν ν1 : MS} {lo hi e n : Int} (hr : RB e n ν ν1) (hn : hi ≤ n) (he : e < lo ∨ hi ≤ e) : ∀ {m : Nat} {c d : Int32}, Wi ν lo hi m c d → Wi ν1 lo hi m c d
  | 0, _, _, h => h
  | m + 1, c, d, ⟨⟨⟨h1, h2, h3⟩, h5⟩, h4⟩ => by
    have hc := @ic c
    have e := hr 27 (by omega) (by omega) c.toNatClampNeg (by omega) (by omega)
    refine ⟨⟨⟨h1, h2, h3⟩, by rw [e]; exact h5⟩, ?_⟩
    rw [e]
    exact Wi.rb hr hn he h4
theorem Wi.row {ν ν1 : MS} {lo hi : Int} (hr : ν1.2.1 27 = ν.2.1 27) : ∀ {m : Nat} {c d : Int32}, Wi ν lo hi m c d → Wi ν1 lo hi m c d
  | 0, _, _, h => h
  | m + 1, _, _, ⟨h1, h4⟩ => ⟨by rw [hr]; exact h1, by rw [hr]; exact Wi.row hr h4⟩
theorem Wi.snoc {ν : MS} {lo hi hi' : Int} (h1 : hi ≤ hi') : ∀ {m : Nat} {c d f : Int32}, Wi ν lo hi m c d → (0 ≤ d.toInt ∧ lo ≤ d.toInt ∧ d.toInt < hi') → ν.2.1 27 d.toNatClampNeg = f → d.toInt < f.toInt → Wi ν lo hi' (m + 1) c f
  | 0, c, d, f, h, hd, hf, ho => by
    rw [show c = d from h]
    exact ⟨⟨hd, by rw [hf]; exact ho⟩, hf⟩
  | m + 1, c, d, f, ⟨⟨⟨k1, k2, k3⟩, k5⟩, k4⟩, hd, hf, ho => ⟨⟨⟨k1, k2, by omega⟩, k5⟩, Wi.snoc h1 k4 hd hf ho⟩
/-- FORMALs so far: what hangs below the first of them -/
def SJ (t0 n0 : Int) (ν : MS) (x3 x4 x7 : Int32) : Prop := ∃ na : Int, (n0 ≤ na ∧ na ≤ (ν.1 19).toInt) ∧ KR ν 13 na (ν.1 19).toInt ∧ (x7 = -1 → na = (ν.1 19).toInt) ∧ (0 ≤ x7.toInt → na ≤ x7.toInt) ∧
  ((x3 = -1 ∧ NS ν n0 na) ∨ (0 ≤ x3.toInt ∧ CO ν n0 na x3 ∧ (n0 ≤ x4.toInt ∧ x4.toInt < (ν.1 19).toInt ∧ 0 ≤ x4.toInt) ∧ ν.2.1 27 x4.toNatClampNeg = -1 ∧ ∃ k : Nat, Wi ν n0 x4.toInt k x3 x4 ∧ 2 * (k : Int) + 2 + t0 ≤ (ν.1 32).toInt))
theorem SJ.rows {t0 t1 n0 : Int} {ν ν1 : MS} {x3 x4 x7 : Int32} (h : SJ t0 n0 ν x3 x4 x7) (hr : ν1.2.1 = ν.2.1) (hn : ν1.1 19 = ν.1 19) (ht : (ν.1 32).toInt + t1 ≤ (ν1.1 32).toInt + t0) : SJ t1 n0 ν1 x3 x4 x7 := by
  obtain ⟨na, h1, h2, h3, h4, h5⟩ := h
  have rb : ∀ n, RB (-1) n ν ν1 := fun n g _ _ i _ _ => by rw [hr]
  have h2' : KR ν1 13 na (ν.1 19).toInt := fun j j1 j2 => by rw [hr]; exact h2 j j1 j2
  refine ⟨na, by rw [hn]; exact h1, by rw [hn]; exact h2', by rw [hn]; exact h3, h4, ?_⟩
  rcases h5 with ⟨a1, a2⟩ | ⟨a1, a2, a3, a4, k, a5, a6⟩
  · exact Or.inl ⟨a1, fun j j1 j2 => by rw [hr]; exact a2 j j1 j2⟩
  · exact Or.inr ⟨a1, fun j j1 j2 j3 => by
      rw [hr] at j3
      obtain ⟨m, hm⟩ := a2 j j1 j2 j3
      exact ⟨m, Up.cg hr hm⟩, by rw [hn]; exact a3, by rw [hr]; exact a4, k, a5.row (by rw [hr]), by omega⟩
theorem SJ.add {t0 t1 n0 : Int} {ν ν1 : MS} {x3 x4 x7 f : Int32} (h : SJ t0 n0 ν x3 x4 x7) (h0 : 0 ≤ n0) (hr : RB (-1) (ν.1 19).toInt ν ν1) (hf : f.toInt = (ν.1 19).toInt) (hn : (ν1.1 19).toInt = (ν.1 19).toInt + 1) (hk : ν1.2.1 20 f.toNatClampNeg = 13) (hl : ν1.2.1 27 f.toNatClampNeg = -1) (ht : (ν.1 32).toInt + t1 + 2 ≤ (ν1.1 32).toInt + t0) (ht2 : t1 + 2 ≤ (ν1.1 32).toInt) :
    (0 ≤ x3.toInt → ∀ y, (y = x7 ∧ 0 ≤ x7.toInt) ∨ (y = f ∧ x7 = -1) → SJ t1 n0 (mA1 ν1 27 x4.toNatClampNeg f) x3 f y) ∧ (x3 = -1 → ∀ y, y = f → SJ t1 n0 ν1 f f y) := by
  obtain ⟨na, ⟨h1, h1'⟩, h2, h3, h4, h5⟩ := h
  have hcf := @ic f
  have k1 : KR ν1 13 na (ν1.1 19).toInt := fun j j1 j2 => by
    by_cases c : (j : Int) < (ν.1 19).toInt
    · exact (h2.rb hr (Int.le_refl _) (Or.inl (by omega))) j j1 c
    · rw [show j = f.toNatClampNeg by omega]; exact hk
  refine ⟨fun hx y hy => ?_, fun hx y hy => ?_⟩
  · rcases h5 with ⟨a1, -⟩ | ⟨a1, a2, ⟨a3, a3', a3''⟩, a4, k, a5, a6⟩
    · rw [a1] at hx; exact absurd hx (by decide)
    have hc4 := @ic x4
    have l4 : ν1.2.1 27 x4.toNatClampNeg = -1 := by rw [hr 27 (by omega) (by omega) _ (by omega) (by omega)]; exact a4
    have a2' := a2.rb hr h1' (Or.inl (by omega))
    have co : CO (mA1 ν1 27 x4.toNatClampNeg f) n0 na x3 := fun j j1 j2 j3 => by
      rw [kind_link] at j3
      obtain ⟨m, hm⟩ := a2' j j1 j2 j3
      exact ⟨m, hm.link l4⟩
    have a5' := a5.rb hr (by omega) (Or.inl (by omega))
    have w : Wi (mA1 ν1 27 x4.toNatClampNeg f) n0 f.toInt (k + 1) x3 f := Wi.snoc (by omega) (a5'.rb (e := x4.toInt) (n := x4.toInt) (RB.A (Or.inr (by omega))) (Int.le_refl _) (Or.inr (Int.le_refl _))) ⟨a3'', a3, by omega⟩ upd_at (by omega)
    refine ⟨na, ⟨h1, by show _ ≤ (ν1.1 19).toInt; omega⟩, fun j j1 j2 => by rw [kind_link]; exact k1 j j1 j2, fun e => ?_, fun e => ?_, Or.inr ⟨hx, co, ⟨by omega, by show _ < (ν1.1 19).toInt; omega, by omega⟩, ?_, k + 1, w, by show _ ≤ (ν1.1 32).toInt; omega⟩⟩
    · rcases hy with ⟨hy, hy2⟩ | ⟨hy, -⟩
      · rw [← hy, e] at hy2; exact absurd hy2 (by decide)
      · rw [e] at hy
        have := eq_i hy
        rw [show (-1 : Int32).toInt = -1 from rfl] at this
        omega
    · rcases hy with ⟨hy, hy2⟩ | ⟨hy, hy2⟩
      · rw [hy]; exact h4 hy2
      · have := h3 hy2
        rw [hy]; omega
    · show upd (ν1.2.1 27) x4.toNatClampNeg f f.toNatClampNeg = -1
      rw [upd_off (by omega)]; exact hl
  · rcases h5 with ⟨-, a2⟩ | ⟨a1, -⟩
    · subst hy
      refine ⟨na, ⟨h1, by omega⟩, k1, fun e => ?_, fun _ => by omega, Or.inr ⟨by omega, NS.co (a2.rb hr h1' (Or.inl (by omega))), ⟨by omega, by omega, by omega⟩, hl, 0, rfl, by omega⟩⟩
      have := eq_i e
      rw [show (-1 : Int32).toInt = -1 from rfl] at this
      omega
    · rw [hx] at a1; exact absurd a1 (by decide)
/-- a group that gets its TYPE -/
def SK (t0 n0 na nb : Int) (t : Int32) (κ : MS) (x3 x4 f : Int32) : Prop := CO κ n0 na x3 ∧ ((n0 ≤ x4.toInt ∧ x4.toInt < nb ∧ 0 ≤ x4.toInt) ∧ κ.2.1 27 x4.toNatClampNeg = -1 ∧ ∃ k : Nat, Wi κ n0 x4.toInt k x3 x4 ∧ 2 * (k : Int) + 2 + t0 ≤ (κ.1 32).toInt) ∧ KR κ 13 na nb ∧ CO κ nb (κ.1 19).toInt t ∧ na ≤ f.toInt
theorem SK.put {t0 n0 na nb : Int} {t x3 x4 f f' : Int32} {κ : MS} (h : SK t0 n0 na nb t κ x3 x4 f) (hf : 0 ≤ f.toInt) (h2 : f.toInt < nb) (hf' : na ≤ f'.toInt) : SK t0 n0 na nb t (mA1 κ 23 f.toNatClampNeg t) x3 x4 f' := by
  obtain ⟨a1, ⟨a2, a3, k, a4, a8⟩, a5, a6, a7⟩ := h
  have hc := @ic f
  exact ⟨a1.rb (e := f.toInt) (n := na) (RB.A (Or.inr (by omega))) (Int.le_refl _) (Or.inr a7), ⟨a2, by rw [row_off rfl]; exact a3, k, a4.row (row_off rfl), a8⟩, fun j j1 j2 => by rw [row_off rfl]; exact a5 j j1 j2, a6.rb (e := f.toInt) (n := (κ.1 19).toInt) (RB.A (Or.inr (by omega))) (Int.le_refl _) (Or.inl h2), hf'⟩
theorem SK.last {t0 n0 na nb : Int} {t x3 x4 : Int32} {κ : MS} (h : SK t0 n0 na nb t κ x3 x4 x4) (h3 : n0 ≤ na) (h4 : nb ≤ (κ.1 19).toInt) (ht : 0 ≤ t.toInt) (hx : 0 ≤ x3.toInt) (hnb : na ≤ nb) : SJ t0 n0 (mA1 κ 23 x4.toNatClampNeg t) x3 x4 (-1) := by
  have hf := h.2.1.1.2.2
  have hfb := h.2.1.1.2.1
  obtain ⟨a1, ⟨⟨a2, a2', a2''⟩, a3, k, a4, a8⟩, a5, a6, a7⟩ := h.put (f' := x4) hf hfb h.2.2.2.2
  have hc := @ic x4
  have hct := @ic t
  obtain ⟨k2, u⟩ := (a4.wn.wide (Int.le_refl _) (by omega : x4.toInt ≤ (κ.1 19).toInt)).to hf
  have pt : Par (mA1 κ 23 x4.toNatClampNeg t) x4.toNatClampNeg t.toNatClampNeg := Or.inl ⟨1, by decide, by rw [a5 x4.toNatClampNeg (by omega) (by omega)]; decide, by show (upd (κ.2.1 23) x4.toNatClampNeg t x4.toNatClampNeg).toInt = _; rw [upd_at]; omega⟩
  refine ⟨(κ.1 19).toInt, ⟨by omega, Int.le_refl _⟩, fun j j1 j2 => ?_, fun _ => rfl, fun e => absurd e (by decide), Or.inr ⟨hx, fun j j1 j2 j3 => ?_, ⟨a2, by show _ < (κ.1 19).toInt; omega, a2''⟩, a3, k, a4, a8⟩⟩
  · have j2 : (j : Int) < (κ.1 19).toInt := j2
    omega
  · by_cases c1 : (j : Int) < na
    · obtain ⟨m, hm⟩ := a1 j j1 c1 j3
      exact ⟨m, hm.wide (Int.le_refl _) (by omega)⟩
    · by_cases c2 : (j : Int) < nb
      · rw [a5 j (by omega) c2] at j3
        cases j3
      · obtain ⟨m, hm⟩ := a6.kid pt (by omega : n0 ≤ nb) (Int.le_refl _) (by omega) (by show _ < (κ.1 19).toInt; omega) (by omega) j2 j3
        exact hm.trans u
theorem Wi.ls {ν : MS} {lo hi lo' hi' : Int} (h1 : lo' ≤ lo) (h2 : hi ≤ hi') : ∀ {k : Nat} {a b : Int32}, Wi ν lo hi k a b → 0 ≤ b.toInt → lo' ≤ b.toInt → b.toInt < hi' → ν.2.1 27 b.toNatClampNeg = -1 → Lst (fun q => 0 ≤ q.toInt ∧ bt lo' hi' q.toNatClampNeg ∧ (ν.2.1 27 q.toNatClampNeg = -1 ∨ q.toInt < (ν.2.1 27 q.toNatClampNeg).toInt)) (ν.2.1 27) (k + 1) a
  | 0, a, b, h, b0, b1, b2, hn => by
    have hc := @ic b
    rw [show a = b from h]
    exact Or.inr ⟨⟨b0, ⟨by omega, by omega⟩, Or.inl hn⟩, hn⟩
  | k + 1, a, b, ⟨⟨⟨k1, k2, k3⟩, k5⟩, k4⟩, b0, b1, b2, hn => by
    have hc := @ic a
    exact Or.inr ⟨⟨k1, ⟨by omega, by omega⟩, Or.inr k5⟩, Wi.ls h1 h2 k4 b0 b1 b2 hn⟩
/-- so many FORMALs at most, by the tokens that were taken -/
def FW (t0 lo : Int) (ν : MS) (x : Int32) : Prop := ∃ m : Nat, 2 * (m : Int) + t0 ≤ (ν.1 32).toInt ∧ Lst (fun q => 0 ≤ q.toInt ∧ bt lo (ν.1 19).toInt q.toNatClampNeg ∧ (ν.2.1 27 q.toNatClampNeg = -1 ∨ q.toInt < (ν.2.1 27 q.toNatClampNeg).toInt)) (ν.2.1 27) m x
def LF (h : Nat) (t0 lo : Int) (ν : MS) (x : Int32) : Prop := LSt 9 h lo ν x ∧ FW t0 lo ν x
theorem LF.rb {h : Nat} {t0 lo e : Int} {ν ν1 : MS} {x : Int32} (hL : LF h t0 lo ν x) (hr : RB e (ν.1 19).toInt ν ν1) (hn : (ν.1 19).toInt ≤ (ν1.1 19).toInt) (ht : (ν.1 32).toInt ≤ (ν1.1 32).toInt) (he : e < lo ∨ (ν.1 19).toInt ≤ e) : LF h t0 lo ν1 x := by
  obtain ⟨h1, m, h2, h3⟩ := hL
  have e : ∀ q : Int32, (0 ≤ q.toInt ∧ bt lo (ν.1 19).toInt q.toNatClampNeg ∧ (ν.2.1 27 q.toNatClampNeg = -1 ∨ q.toInt < (ν.2.1 27 q.toNatClampNeg).toInt)) → ν1.2.1 27 q.toNatClampNeg = ν.2.1 27 q.toNatClampNeg := fun q hq => by
    have h4 := hq.2.1.1
    have h5 := hq.2.1.2
    exact hr 27 (by omega) (by omega) _ (by omega) (by omega)
  refine ⟨h1.rb hr hn he, m, by omega, h3.mono (fun q hq => ⟨hq.1, ⟨hq.2.1.1, by have := hq.2.1.2; omega⟩, by rw [e q hq]; exact hq.2.2⟩) e⟩
theorem SJ.fw {t0 t1 n0 : Int} {ν : MS} {x3 x4 x7 : Int32} (h : SJ t0 n0 ν x3 x4 x7) (h1 : t1 ≤ t0) (h2 : t1 ≤ (ν.1 32).toInt) : FW t1 n0 ν x3 := by
  obtain ⟨na, -, -, -, -, h5⟩ := h
  rcases h5 with ⟨a1, -⟩ | ⟨a1, -, ⟨a3, a3', a3''⟩, a4, k, a5, a6⟩
  · exact ⟨0, by omega, a1⟩
  · exact ⟨k + 1, by omega, a5.ls (Int.le_refl _) (by omega) a3'' a3 a3' a4⟩
/-- a SIGNATURE is the answer -/
def SgP (h : Nat) (μ : MS) (r : Int32) (μ1 : MS) : Prop := (PN 8 h μ r μ1 ∧ CO μ1 (μ.1 19).toInt (μ1.1 19).toInt r) ∧ FW (μ.1 32).toInt ((μ.1 19).toInt + 1) μ1 (μ1.2.1 22 r.toNatClampNeg)
def SigC (X : ev_X) (W : Nat → Prop) (P : MP) (d : Nat) : Prop := ∀ (μ : MS) (T : MS → Prop) (h : Nat), PS μ → psT μ + 10 ≤ d → hiT μ + 1 ≤ h → (μ.1 19).toInt ≤ 2 * (μ.1 32).toInt + 30 → (∀ μ1, kf SPA RPA μ μ1 → T μ1) → MC X W true d 309 [.ref P.1] P μ (fun r μ1 => SgP h μ r μ1) T
section PSA
variable {X : ev_X} {W : Nat → Prop} {d : Nat} {P : MP}
theorem st_sigW (hT1 : NodC X W P 312 0 9 0 d) : SigC X W P (d + 1) := fun μ T h9 hS hd hh hn hT => by
  have h0 := hS.2.2.2.2.1
  have hc := @ic (μ.1 19)
  have hat := hS.at
  have b37 := hS.2.2.2.2.2.1
  have b39 := hS.2.2.2.2.2.2.2.1
  have pd : ∀ {ν : MS} {b : Int}, PR (-1) b 0 0 0 μ ν → psT ν = psT μ - 14 * b ∧ hiT ν = hiT μ - 3 * b := fun {ν b} p => by
    obtain ⟨-, -, -, -, -, e1, -, e3, -⟩ := p
    unfold psT hiT
    rw [e1, e3]
    exact ⟨by omega, by omega⟩
  have hpos : 0 ≤ psT μ := by unfold psT; omega
  refine me_meth (by omega) rfl (v_signature_0 (MC.mono (c_node (by omega) hS (by omega)) (fun q μ1 hq => ?_) (fun _ h => h)))
  obtain ⟨rfl, p1, n1, a1, s1, nd1⟩ := hq
  have a1 := eq_i a1
  refine MC.mono (c_open (by omega) p1.2.1 (by decide) (fun _ h => hT _ (p1.1.tr h))) (fun _ μ2 h2 => ?_) (fun _ h => h)
  obtain ⟨-, rfl, hb20, hS2⟩ := h2
  have p2 : PR (-1) 1 0 0 0 μ (opS μ1) := p1.op hS2 hb20 rfl
  have e2 : ((opS μ1).1 32).toInt = (μ1.1 32).toInt + 1 := nx_i p1.2.1
  have g2 : ((opS μ1).1 19).toInt = (μ1.1 19).toInt := rfl
  have b1 := p1.2.2.2.2.2.1
  have h3 : 3 ≤ hiT μ := by unfold hiT; omega
  obtain ⟨h, rfl⟩ : ∃ h, h9 = h + 2 := ⟨h9 - 2, by omega⟩
  have nd2 : ND (opS μ1) (μ.1 19).toNatClampNeg 12 (-1) (-1) (-1) (-1) (-1) (-1) := nd1
  -- the end
  have fin : ∀ {ν : MS} {x3 b c : Int32} (r : Int32), r = μ.1 19 → PR (-1) 0 0 0 0 μ ν → (ν.1 19).toInt + 2 * (μ.1 32).toInt ≤ (μ.1 19).toInt + 2 * (ν.1 32).toInt → (μ.1 32).toInt < (ν.1 32).toInt → (μ.1 19).toInt < (ν.1 19).toInt → ND ν (μ.1 19).toNatClampNeg 12 x3 b c (-1) (-1) (-1) → LF (h + 1) (μ.1 32).toInt ((μ.1 19).toInt + 1) ν x3 → (b = -1 ∨ (G ν (h + 1) (bt ((μ.1 19).toInt + 1) (ν.1 19).toInt) 0 b ∧ ν.2.1 27 b.toNatClampNeg = -1)) → LSt 7 (h + 1) ((μ.1 19).toInt + 1) ν c → CVs ν ((μ.1 19).toInt + 1) (ν.1 19).toInt [b, x3] → SgP (h + 2) μ r ν := fun r hr p hb ha hlt hN f0 f1 f2 cv => by
    subst hr
    refine ⟨⟨⟨p, hb, ha, G.mk h0 (Int.le_refl _) hlt hN (by decide) (f0.1.fo (by omega) (by omega)) ?_ (f2.fo (by omega) (by omega)) True.intro True.intro, hN.2.2.2.2.2.2⟩, CO.fin cv h0 ⟨fun h => Par.fb hN (by decide) h, fun h => Par.fa hN (by decide) h, True.intro⟩ hlt⟩, by rw [hN.2.1]; exact f0.2⟩
    rcases f1 with f1 | f1
    · exact Or.inl f1
    · exact Or.inr ⟨f1.1.toR (Nat.le_refl _) (by omega) (Int.le_refl _) (Or.inl (by omega)) (RB.rf (e := -1)) (Int.le_refl _) (Or.inl (by omega)), f1.2⟩
  have nxC : ∀ {H : List Int32} {ν : MS}, CVs ν ((μ.1 19).toInt + 1) (ν.1 19).toInt H → CVs (nxS ν) ((μ.1 19).toInt + 1) ((nxS ν).1 19).toInt H := fun {H ν} c => c.rb (e := -1) (show RB (-1) _ ν (nxS ν) from RB.S) (Int.le_refl _) (Or.inl (by omega))
  -- from a state to its next token
  have nxL : ∀ {s hh : Nat} {ν : MS} {x : Int32}, LSt s hh ((μ.1 19).toInt + 1) ν x → LSt s hh ((μ.1 19).toInt + 1) (nxS ν) x := fun {s hh ν x} hl => hl.rb (e := -1) (show RB (-1) _ ν (nxS ν) from RB.S) (Int.le_refl _) (Or.inl (by omega))
  have nxF : ∀ {ν : MS} {x : Int32}, (ν.1 32).toInt ≤ ((nxS ν).1 32).toInt → LF (h + 1) (μ.1 32).toInt ((μ.1 19).toInt + 1) ν x → LF (h + 1) (μ.1 32).toInt ((μ.1 19).toInt + 1) (nxS ν) x := fun {ν x} ht hl => hl.rb (e := -1) (show RB (-1) _ ν (nxS ν) from RB.S) (Int.le_refl _) ht (Or.inl (by omega))
  have nxG : ∀ {ν : MS} {b : Int32}, (b = -1 ∨ (G ν (h + 1) (bt ((μ.1 19).toInt + 1) (ν.1 19).toInt) 0 b ∧ ν.2.1 27 b.toNatClampNeg = -1)) → (b = -1 ∨ (G (nxS ν) (h + 1) (bt ((μ.1 19).toInt + 1) ((nxS ν).1 19).toInt) 0 b ∧ (nxS ν).2.1 27 b.toNatClampNeg = -1)) := fun {ν b} hb => by
    rcases hb with hb | hb
    · exact Or.inl hb
    · exact Or.inr ⟨G.S hb.1, hb.2⟩
  have s325 : ∀ (ν : MS) (x2 x3 x4 x5 b c : Int32), PR (-1) 0 0 0 0 μ ν → (ν.1 19).toInt + 2 * (μ.1 32).toInt ≤ (μ.1 19).toInt + 2 * (ν.1 32).toInt → (μ.1 32).toInt < (ν.1 32).toInt → (μ.1 19).toInt < (ν.1 19).toInt → ND ν (μ.1 19).toNatClampNeg 12 x3 b c (-1) (-1) (-1) → LF (h + 1) (μ.1 32).toInt ((μ.1 19).toInt + 1) ν x3 → (b = -1 ∨ (G ν (h + 1) (bt ((μ.1 19).toInt + 1) (ν.1 19).toInt) 0 b ∧ ν.2.1 27 b.toNatClampNeg = -1)) → LSt 7 (h + 1) ((μ.1 19).toInt + 1) ν c → CVs ν ((μ.1 19).toInt + 1) (ν.1 19).toInt [b, x3] →
      ME X W true d 309 325 [(0, .ref P.1), (1, .int (μ.1 19)), (2, .int x2), (3, .int x3), (4, .int x4), (5, .int x5)] [] P ν (fun r μ1 => SgP (h + 2) μ r μ1) T := fun ν x2 x3 x4 x5 b c p hb ha hlt hN f0 f1 f2 cv => by
    refine v_signature_325 _ _ _ _ _ (MC.mono (c_expect (by omega) p.2.1 (by decide) (fun _ h => hT _ (p.1.tr h))) (fun _ ν1 h1 => ?_) (fun _ h => h))
    obtain ⟨-, rfl, hS1⟩ := h1
    have e1 := nx_at p.2.1
    have g1 : ((nxS ν).1 19).toInt = (ν.1 19).toInt := rfl
    exact v_signature_331 _ _ _ _ _ (fin _ rfl (p.nx hS1) (by omega) (by omega) (by omega) hN (nxF (by omega) f0) (nxG f1) (nxL f2) (nxC cv))
  have s287 : ∀ (ν : MS) (x2 x3 x4 x5 b : Int32), PR (-1) 0 0 0 0 μ ν → (ν.1 19).toInt + 2 * (μ.1 32).toInt ≤ (μ.1 19).toInt + 2 * (ν.1 32).toInt → (μ.1 32).toInt < (ν.1 32).toInt → (μ.1 19).toInt < (ν.1 19).toInt → ND ν (μ.1 19).toNatClampNeg 12 x3 b (-1) (-1) (-1) (-1) → LF (h + 1) (μ.1 32).toInt ((μ.1 19).toInt + 1) ν x3 → (b = -1 ∨ (G ν (h + 1) (bt ((μ.1 19).toInt + 1) (ν.1 19).toInt) 0 b ∧ ν.2.1 27 b.toNatClampNeg = -1)) → CVs ν ((μ.1 19).toInt + 1) (ν.1 19).toInt [b, x3] →
      ME X W true d 309 287 [(0, .ref P.1), (1, .int (μ.1 19)), (2, .int x2), (3, .int x3), (4, .int x4), (5, .int x5)] [] P ν (fun r μ1 => SgP (h + 2) μ r μ1) T := fun ν x2 x3 x4 x5 b p hb ha hlt hN f0 f1 cv => by
    refine v_signature_287 _ _ _ _ _ (MC.mono (c_is (by omega) p.2.1) (fun r ν1 h1 => ?_) (fun _ h => h))
    obtain ⟨rfl, rfl⟩ := h1
    refine ⟨fun _ => v_signature_331 _ _ _ _ _ (fin _ rfl p hb ha hlt hN f0 f1 LSt.nil cv), fun h1 => MC.mono (c_next (by omega) p.2.1 (by rw [is_t h1]; decide) (fun _ h => hT _ (p.1.tr h))) (fun _ ν2 h2 => ?_) (fun _ h => h)⟩
    obtain ⟨rfl, hS2⟩ := h2
    have q2 := p.nx hS2
    have e2 := nx_at p.2.1
    have g2 : ((nxS ν1).1 19).toInt = (ν1.1 19).toInt := rfl
    refine MC.mono (c_expect (by omega) q2.2.1 (by decide) (fun _ h => hT _ (q2.1.tr h))) (fun _ ν3 h3 => ?_) (fun _ h => h)
    obtain ⟨-, rfl, hS3⟩ := h3
    have q3 := q2.nx hS3
    have e3 := nx_at q2.2.1
    have g3 : ((nxS (nxS ν1)).1 19).toInt = (ν1.1 19).toInt := rfl
    have f03 := nxF (ν := nxS ν1) (by omega) (nxF (by omega) f0)
    have f13 := nxG (nxG f1)
    have cv3 := nxC (nxC cv)
    have hN3 : ND (nxS (nxS ν1)) (μ.1 19).toNatClampNeg 12 x3 b (-1) (-1) (-1) (-1) := hN
    refine MC.mono (c_is (by omega) q3.2.1) (fun r ν4 h4 => ?_) (fun _ h => h)
    obtain ⟨rfl, rfl⟩ := h4
    refine ⟨fun _ => s325 _ _ _ _ _ _ _ q3 (by omega) (by omega) (by omega) hN3 f03 f13 LSt.nil cv3, fun _ => MC.mono (c_qnames (by omega) q3.2.1 (by omega) (fun _ h => hT _ (q3.1.tr h))) (fun r5 ν5 h5 => ?_) (fun _ h => h)⟩
    obtain ⟨⟨z1, z2, m, z3⟩, zns⟩ := h5
    have q5 : PR (-1) 0 0 0 0 μ ν5 := q3.tr z1 rfl rfl rfl rfl
    have at5 := q5.2.1.at
    have l5 := z1.2.2.2.1
    have l5' := z1.2.2.1
    have rA : RB (μ.1 19).toInt (ν5.1 19).toInt ν5 (mA1 ν5 24 (μ.1 19).toNatClampNeg r5) := RB.A (Or.inr (by omega))
    have rz := z1.2.2.2.2.1
    have lq : LSt 7 (h + 1) ((μ.1 19).toInt + 1) ν5 r5 := ⟨m, z3.mono (fun y hy => hy.up (by omega) (by omega) (Int.le_refl _)) (fun _ _ => rfl)⟩
    refine ⟨q5.mi rfl rfl h0 (by omega), s325 _ _ _ _ _ b r5 (q5.A rfl rfl (Or.inl (by omega))) (by show (ν5.1 19).toInt + _ ≤ _ + 2 * (ν5.1 32).toInt; omega) (by show _ < (ν5.1 32).toInt; omega) (by show _ < (ν5.1 19).toInt; omega) (ND.pc (hN3.rb rz (by omega) (by omega))) ((f03.rb rz l5 l5' (Or.inl (by omega))).rb rA (Int.le_refl _) (Int.le_refl _) (Or.inl (by omega))) ?_ (lq.rb rA (Int.le_refl _) (Or.inl (by omega))) ((cv3.ns rz (Int.le_refl _) (Or.inl (by omega)) l5 zns).rb rA (Int.le_refl _) (Or.inl (by omega)))⟩
    rcases f13 with f | f
    · exact Or.inl f
    · obtain ⟨i1, i2, i3⟩ := f.1.in
      exact Or.inr ⟨((f.1.rb rz (Int.le_refl _) (Or.inl (by omega))).up (Nat.le_refl _) (Int.le_refl _) l5).put (Or.inl (by omega)), by rw [row_off rfl, rz 27 (by omega) (by omega) _ i3 (by omega)]; exact f.2⟩
  -- all FORMALs are there
  have s38 : ∀ (ν : MS) (x2 x3 x4 : Int32), PR (-1) 1 0 0 0 μ ν → (ν.1 19).toInt + 2 * (μ.1 32).toInt ≤ (μ.1 19).toInt + 2 * (ν.1 32).toInt → (μ.1 32).toInt < (ν.1 32).toInt → (μ.1 19).toInt < (ν.1 19).toInt → ND ν (μ.1 19).toNatClampNeg 12 (-1) (-1) (-1) (-1) (-1) (-1) → LF (h + 1) (μ.1 32).toInt ((μ.1 19).toInt + 1) ν x3 → LCO ν ((μ.1 19).toInt + 1) (ν.1 19).toInt x3 →
      MI (μ.1 19) (ν.2.2 22) ∧ MC X W true d 300 [.ref P.1, .int 101] P (mA1 ν 22 (μ.1 19).toNatClampNeg x3) (fun r1 μ1 => MC X W true d 296 [.ref P.1, .int 108] P μ1 (fun r2 μ2 => ((r2 = 0 → ME X W true d 309 287 [(0, .ref P.1), (1, .int (μ.1 19)), (2, .int x2), (3, .int x3), (4, .int x4), (5, .int 0)] [] P μ2 (fun r μ1 => SgP (h + 2) μ r μ1) T) ∧ (¬ r2 = 0 → MC X W true d 294 [.ref P.1] P μ2 (fun r3 μ3 => MC X W true d 312 [.ref P.1] P μ3 (fun r4 μ4 => (MI (μ.1 19) (μ4.2.2 23) ∧ ME X W true d 309 287 [(0, .ref P.1), (1, .int (μ.1 19)), (2, .int x2), (3, .int x3), (4, .int x4), (5, .int 0)] [] P (mA1 μ4 23 (μ.1 19).toNatClampNeg r4) (fun r μ1 => SgP (h + 2) μ r μ1) T)) T) T))) (fun _ => False)) T := fun ν x2 x3 x4 p hb ha hlt hN f0 fc => by
    have at0 := p.2.1.at
    have pA := p.A (g := 22) (i := (μ.1 19).toNatClampNeg) (x := x3) rfl rfl (Or.inl (by omega))
    have rA : RB (μ.1 19).toInt (ν.1 19).toInt ν (mA1 ν 22 (μ.1 19).toNatClampNeg x3) := RB.A (Or.inr (by omega))
    have hbr : 1 ≤ ((mA1 ν 22 (μ.1 19).toNatClampNeg x3).1 37).toInt := by have := pA.2.2.2.2.2.1; omega
    refine ⟨p.mi rfl rfl h0 (by omega), MC.mono (c_close (by omega) pA.2.1 (by decide) hbr (fun _ h => hT _ (pA.1.tr h))) (fun _ ν1 h1 => ?_) (fun _ h => h)⟩
    obtain ⟨rfl, hS1⟩ := h1
    have q1 := pA.cl (b' := 0) hS1 hbr (by decide)
    have e1 := nx_at pA.2.1
    have eA : ((mA1 ν 22 (μ.1 19).toNatClampNeg x3).1 32).toInt = (ν.1 32).toInt := rfl
    generalize hκ : mS1 (nxS (mA1 ν 22 (μ.1 19).toNatClampNeg x3)) 37 ((mA1 ν 22 (μ.1 19).toNatClampNeg x3).1 37 - 1) = κ at q1 hS1
    have k19 : (κ.1 19).toInt = (ν.1 19).toInt := by rw [← hκ]; rfl
    have k32 : (κ.1 32).toInt = (ν.1 32).toInt + 1 := by rw [← hκ]; show ((nxS (mA1 ν 22 (μ.1 19).toNatClampNeg x3)).1 32).toInt = _; omega
    have kN : ND κ (μ.1 19).toNatClampNeg 12 x3 (-1) (-1) (-1) (-1) (-1) := by rw [← hκ]; exact hN.pa
    have kr : RB (μ.1 19).toInt (ν.1 19).toInt ν κ := by rw [← hκ]; exact RB.tr rA (RB.tr (show RB _ _ (mA1 ν 22 (μ.1 19).toNatClampNeg x3) (nxS (mA1 ν 22 (μ.1 19).toNatClampNeg x3)) from RB.S) RB.S)
    have kf0 := f0.rb kr (by omega) (by omega) (Or.inl (by omega))
    have kcv : CVs κ ((μ.1 19).toInt + 1) (κ.1 19).toInt [x3] := by rw [k19]; exact (CVs.one fc).rb kr (Int.le_refl _) (Or.inl (by omega))
    refine MC.mono (c_is (by omega) q1.2.1) (fun r ν2 h2 => ?_) (fun _ h => h)
    obtain ⟨rfl, rfl⟩ := h2
    refine ⟨fun _ => s287 _ _ _ _ _ _ q1 (by omega) (by omega) (by omega) kN kf0 (Or.inl rfl) (kcv.more _), fun h2 => MC.mono (c_next (by omega) q1.2.1 (by rw [is_t h2]; decide) (fun _ h => hT _ (q1.1.tr h))) (fun _ ν3 h3 => ?_) (fun _ h => h)⟩
    obtain ⟨rfl, hS3⟩ := h3
    have q3 := q1.nx hS3
    have e3 := nx_at q1.2.1
    have g3 : ((nxS ν2).1 19).toInt = (ν2.1 19).toInt := rfl
    have d3 := pd q3
    refine MC.mono (hT1 _ _ (h + 1) q3.2.1 (by omega) (by omega) (by omega) (fun _ h => hT _ (q3.1.tr h))) (fun r4 ν4 h4 => ?_) (fun _ h => h)
    obtain ⟨⟨z1, z2, z3, z4, z5⟩, zc⟩ := h4
    have q4 : PR (-1) 0 0 0 0 μ ν4 := q3.tr z1 rfl rfl rfl rfl
    have at4 := q4.2.1.at
    have l4 := z1.2.2.2.1
    have rB : RB (μ.1 19).toInt (ν4.1 19).toInt ν4 (mA1 ν4 23 (μ.1 19).toNatClampNeg r4) := RB.A (Or.inr (by omega))
    have rz := z1.2.2.2.2.1
    exact ⟨q4.mi rfl rfl h0 (by omega), s287 _ _ _ _ _ r4 (q4.A rfl rfl (Or.inl (by omega))) (by show (ν4.1 19).toInt + _ ≤ _ + 2 * (ν4.1 32).toInt; omega) (by show _ < (ν4.1 32).toInt; omega) (by show _ < (ν4.1 19).toInt; omega) (ND.pb (ND.rb (μ := nxS ν2) kN rz (by omega) (by omega))) (((nxF (by omega) kf0).rb rz l4 z1.2.2.1 (Or.inl (by omega))).rb rB (Int.le_refl _) (Int.le_refl _) (Or.inl (by omega))) (Or.inr ⟨(z4.up (Nat.le_refl _) (by omega) (Int.le_refl _)).put (Or.inl (by omega)), by rw [row_off rfl]; exact z5⟩) (((nxC kcv).add rz (Int.le_refl _) (Or.inl (by omega)) (by omega) l4 (LCO.of z4.in.1 zc)).rb rB (Int.le_refl _) (Or.inl (by omega)))⟩
  have key : ∀ (j : Nat), (∀ (x2 x3 x4 x5 : Int32) (ν : MS), ((μ.1 8).toInt - (ν.1 32).toInt).toNat < j → PR (-1) 1 0 0 0 μ ν → (ν.1 19).toInt + 2 * (μ.1 32).toInt ≤ (μ.1 19).toInt + 2 * (ν.1 32).toInt → (μ.1 32).toInt < (ν.1 32).toInt → (μ.1 19).toInt < (ν.1 19).toInt → ND ν (μ.1 19).toNatClampNeg 12 (-1) (-1) (-1) (-1) (-1) (-1) → MJ (h + 1) ((μ.1 19).toInt + 1) ν x3 x4 (-1) → SJ ((μ.1 32).toInt + 1) ((μ.1 19).toInt + 1) ν x3 x4 (-1) →
      ME X W true d 309 38 [(0, .ref P.1), (1, .int (μ.1 19)), (2, .int x2), (3, .int x3), (4, .int x4), (5, .int x5)] [] P ν (fun r μ1 => SgP (h + 2) μ r μ1) T) ∧
      (∀ (x2 x3 x4 x5 x6 x7 x8 : Int32) (ν : MS), ((μ.1 8).toInt - (ν.1 32).toInt).toNat < j → PR (-1) 1 0 0 0 μ ν → (ν.1 19).toInt + 2 * (μ.1 32).toInt ≤ (μ.1 19).toInt + 2 * (ν.1 32).toInt → (μ.1 32).toInt < (ν.1 32).toInt → (μ.1 19).toInt < (ν.1 19).toInt → ND ν (μ.1 19).toNatClampNeg 12 (-1) (-1) (-1) (-1) (-1) (-1) → MJ (h + 1) ((μ.1 19).toInt + 1) ν x3 x4 x7 → (x8 = 0 → ¬ x7 = -1) → SJ (μ.1 32).toInt ((μ.1 19).toInt + 1) ν x3 x4 x7 ∧ (¬ x8 = 0 → SJ ((μ.1 32).toInt + 1) ((μ.1 19).toInt + 1) ν x3 x4 x7) →
      ME X W true d 309 66 [(0, .ref P.1), (1, .int (μ.1 19)), (2, .int x2), (3, .int x3), (4, .int x4), (5, .int x5), (6, .int x6), (7, .int x7), (8, .int x8)] [] P ν (fun r μ1 => SgP (h + 2) μ r μ1) T) := by
    intro j
    induction j with
    | zero => exact ⟨fun _ _ _ _ ν hj => by omega, fun _ _ _ _ _ _ _ ν hj => by omega⟩
    | succ j ih =>
      obtain ⟨ihA, ihB⟩ := ih
      have B : ∀ (x2 x3 x4 x5 x6 x7 x8 : Int32) (ν : MS), ((μ.1 8).toInt - (ν.1 32).toInt).toNat < j + 1 → PR (-1) 1 0 0 0 μ ν → (ν.1 19).toInt + 2 * (μ.1 32).toInt ≤ (μ.1 19).toInt + 2 * (ν.1 32).toInt → (μ.1 32).toInt < (ν.1 32).toInt → (μ.1 19).toInt < (ν.1 19).toInt → ND ν (μ.1 19).toNatClampNeg 12 (-1) (-1) (-1) (-1) (-1) (-1) → MJ (h + 1) ((μ.1 19).toInt + 1) ν x3 x4 x7 → (x8 = 0 → ¬ x7 = -1) → SJ (μ.1 32).toInt ((μ.1 19).toInt + 1) ν x3 x4 x7 ∧ (¬ x8 = 0 → SJ ((μ.1 32).toInt + 1) ((μ.1 19).toInt + 1) ν x3 x4 x7) →
          ME X W true d 309 66 [(0, .ref P.1), (1, .int (μ.1 19)), (2, .int x2), (3, .int x3), (4, .int x4), (5, .int x5), (6, .int x6), (7, .int x7), (8, .int x8)] [] P ν (fun r μ1 => SgP (h + 2) μ r μ1) T := fun x2 x3 x4 x5 x6 x7 x8 ν hj p hb ha hlt hN hM h87 hQ => by
        have t8 := p.2.1.2.2.1.2
        have e8 := eq_i (p.1.1 8 rfl)
        have at0 := p.2.1.at
        refine v_signature_66 _ _ _ _ _ _ _ _ ⟨fun h8 => ?_, fun hx8 => MC.mono (c_is (by omega) p.2.1) (fun r3 ν3 h3 => ?_) (fun _ h => h)⟩
        · -- the TYPE of the group
          refine MC.mono (c_expect (by omega) p.2.1 (by decide) (fun _ h => hT _ (p.1.tr h))) (fun _ ν1 h1 => ?_) (fun _ h => h)
          obtain ⟨-, rfl, hS1⟩ := h1
          have q1 := p.nx hS1
          have e1 := nx_at p.2.1
          have g1 : ((nxS ν).1 19).toInt = (ν.1 19).toInt := rfl
          have d1 := pd q1
          refine MC.mono (hT1 _ _ h q1.2.1 (by omega) (by omega) (by omega) (fun _ h => hT _ (q1.1.tr h))) (fun r2 ν2 h2 => ?_) (fun _ h => h)
          obtain ⟨⟨z1, z2, z3, z4, z5⟩, zc⟩ := h2
          have q2 : PR (-1) 1 0 0 0 μ ν2 := q1.tr z1 rfl rfl rfl rfl
          have l2 := z1.2.2.2.1
          have t2 := q2.2.1.2.2.1.2
          have e28 := eq_i (q2.1.1 8 rfl)
          have at2 := q2.2.1.at
          have rz : RB (-1) (ν.1 19).toInt ν ν2 := RB.tr (show RB (-1) _ ν (nxS ν) from RB.S) z1.2.2.2.2.1
          have nd2 : ND ν2 (μ.1 19).toNatClampNeg 12 (-1) (-1) (-1) (-1) (-1) (-1) := hN.rb rz (by omega) (by omega)
          obtain ⟨hx3, na, c, hna, hJ, hE⟩ := hM.ji (h87 h8) rz (by omega)
          have hx7 : 0 ≤ x7.toInt := hJ.1.1
          obtain ⟨nq, ⟨b1, b1'⟩, b2, -, b4, b5⟩ := hQ.1
          have b4 := b4 hx7
          have hSK : SK ((μ.1 32).toInt + 1) ((μ.1 19).toInt + 1) nq (ν.1 19).toInt r2 ν2 x3 x4 x7 := by
            rcases b5 with ⟨a1, -⟩ | ⟨-, a2, a3, a4, k, a5, a6⟩
            · rw [a1] at hx3; exact absurd hx3 (by decide)
            have hc4 := @ic x4
            exact ⟨a2.rb rz b1' (Or.inl (by omega)), ⟨a3, by rw [rz 27 (by omega) (by omega) _ (by omega) (by omega)]; exact a4, k, a5.rb rz (by omega) (Or.inl (by omega)), by have := z1.2.2.1; omega⟩, b2.rb rz (Int.le_refl _) (Or.inl (by omega)), zc, b4⟩
          have loop : ∀ (c : Nat) (f : Int32) (κ : MS), JI 13 9 (h + 1) ((μ.1 19).toInt + 1) na (ν.1 19).toInt κ c x3 f → (G κ h (bt (ν.1 19).toInt (κ.1 19).toInt) 0 r2 ∧ κ.2.1 27 r2.toNatClampNeg = -1) → PR (-1) 1 0 0 0 μ κ → κ.1 32 = ν2.1 32 → κ.1 19 = ν2.1 19 → ND κ (μ.1 19).toNatClampNeg 12 (-1) (-1) (-1) (-1) (-1) (-1) → Lst (fun i => κ.2.1 27 i.toNatClampNeg = -1 → i = x4) (κ.2.1 27) c f → SK ((μ.1 32).toInt + 1) ((μ.1 19).toInt + 1) nq (ν.1 19).toInt r2 κ x3 x4 f →
              ME X W true d 309 205 [(0, .ref P.1), (1, .int (μ.1 19)), (2, .int x2), (3, .int x3), (4, .int x4), (5, .int x5), (6, .int x6), (7, .int x7), (8, .int x8), (9, .int r2), (10, .int f)] [] P κ (fun r μ1 => SgP (h + 2) μ r μ1) T := by
            intro c
            induction c with
            | zero =>
              intro f κ hJ'
              obtain ⟨⟨w1, -⟩, -, hf⟩ := hJ'
              have e : f = -1 := hf
              rw [e] at w1
              exact absurd w1 (by decide)
            | succ c ihc =>
              intro f κ hJ' ht pκ k32 k19 kN kE kS
              have f0 := hJ'.1.1
              obtain ⟨⟨w1, w2⟩, w3⟩ := hJ'.step ht (by decide) (by decide)
              have k32i := eq_i k32
              have k19i := eq_i k19
              have hcf := @ic f
              have pκ1 : PR (-1) 1 0 0 0 μ (mA1 κ 23 f.toNatClampNeg r2) := pκ.A rfl rfl (Or.inl (by omega))
              have kN1 : ND (mA1 κ 23 f.toNatClampNeg r2) (μ.1 19).toNatClampNeg 12 (-1) (-1) (-1) (-1) (-1) (-1) := kN.off (by omega)
              refine v_signature_205 _ _ _ _ _ _ _ _ _ _ ⟨fun hneg => by omega, fun _ => ⟨pκ.mi rfl rfl f0 (by omega), pκ.mi rfl rfl f0 (by omega), ?_⟩⟩
              rcases kE with kE | ⟨kE1, kE2⟩
              · rw [kE] at f0
                exact absurd f0 (by decide)
              rcases w3 with ⟨w3, w4⟩ | ⟨c', w3, w4⟩
              · have fx := kE1 w3
                subst fx
                rw [w3]
                refine v_signature_205 _ _ _ _ _ _ _ _ _ _ ⟨fun _ => MC.mono (c_is (by omega) pκ1.2.1) (fun r5 κ5 h5 => ?_) (fun _ h => h), fun hneg => absurd hneg (by decide)⟩
                obtain ⟨rfl, rfl⟩ := h5
                have hQ5 : SJ ((μ.1 32).toInt + 1) ((μ.1 19).toInt + 1) (mA1 κ 23 f.toNatClampNeg r2) x3 f (-1) := kS.last b1 (by omega) ht.1.in.1 hx3 b1'
                have hM5 : MJ (h + 1) ((μ.1 19).toInt + 1) (mA1 κ 23 f.toNatClampNeg r2) x3 f (-1) := Or.inl ⟨rfl, Or.inr ⟨hx3, w4⟩⟩
                refine ⟨fun _ => v_signature_248 _ _ _ _ _ _ _ _ _ _ (ihA _ _ _ _ _ (by show ((μ.1 8).toInt - (κ.1 32).toInt).toNat < j; omega) pκ1 (by show (κ.1 19).toInt + _ ≤ _ + 2 * (κ.1 32).toInt; omega) (by show _ < (κ.1 32).toInt; omega) (by show _ < (κ.1 19).toInt; omega) kN1 hM5 hQ5), fun h5 => MC.mono (c_next (by omega) pκ1.2.1 (by rw [is_t h5]; decide) (fun _ h => hT _ (pκ1.1.tr h))) (fun _ κ6 h6 => ?_) (fun _ h => h)⟩
                obtain ⟨rfl, hS6⟩ := h6
                have e6 := nx_at pκ1.2.1
                have e6' : ((mA1 κ 23 f.toNatClampNeg r2).1 32).toInt = (κ.1 32).toInt := rfl
                exact v_signature_248 _ _ _ _ _ _ _ _ _ _ (ihA _ _ _ _ _ (by omega) (pκ1.nx hS6) (by show (κ.1 19).toInt + _ ≤ _ + 2 * ((nxS (mA1 κ 23 f.toNatClampNeg r2)).1 32).toInt; omega) (by omega) (by show _ < (κ.1 19).toInt; omega) kN1 (hM5.rows rfl rfl) (hQ5.rows rfl rfl (by omega)))
              · cases w3
                have hord : f.toInt < (κ.2.1 27 f.toNatClampNeg).toInt := by
                  have hp := w4.1.1
                  rcases hJ'.2.2 with e | ⟨⟨-, -, -, -, e5⟩, -⟩
                  · rw [e] at f0; exact absurd f0 (by decide)
                  · rcases e5 with e5 | e5
                    · rw [e5] at hp; exact absurd hp (by decide)
                    · exact e5
                exact ihc _ _ w4 ⟨ht.1.put (Or.inl (by omega)), by rw [row_off rfl]; exact ht.2⟩ pκ1 k32 k19 kN1 (Lst.mono (fun _ h => h) (fun _ _ => rfl) kE2) (kS.put f0 w2 (by have := kS.2.2.2.2; omega))
          exact loop c x7 ν2 hJ ⟨z4, z5⟩ q2 rfl rfl nd2 hE hSK
        · obtain ⟨rfl, rfl⟩ := h3
          have t87 : ME X W true d 309 87 [(0, .ref P.1), (1, .int (μ.1 19)), (2, .int x2), (3, .int x3), (4, .int x4), (5, .int x5), (6, .int x6), (7, .int x7), (8, .int x8)] [] P ν3 (fun r μ1 => SgP (h + 2) μ r μ1) T := v_signature_87 _ _ _ _ _ _ _ _ (MC.mono (c_unfit (by omega) p.2.1 (fun _ h => hT _ (p.1.tr h))) (fun _ _ h => h.elim) (fun _ h => h))
          refine ⟨fun _ => t87, fun h3 => ⟨fun _ => ?_, fun _ => t87⟩⟩
          refine v_signature_91 _ _ _ _ _ _ _ _ (MC.mono (c_node (by omega) p.2.1 (by omega)) (fun q κ1 hq => ?_) (fun _ h => h))
          obtain ⟨rfl, q1, n1', a1', s1', nd1'⟩ := hq
          have a1' := eq_i a1'
          have r1 : PR (-1) 1 0 0 0 μ κ1 := p.tr q1 rfl rfl rfl rfl
          refine MC.mono (c_name (by omega) r1.2.1 (fun _ h => hT _ (r1.1.tr h))) (fun v κ2 h2 => ?_) (fun _ h => h)
          obtain ⟨-, rfl, hS2'⟩ := h2
          have r2 := r1.nx hS2'
          have e2' := nx_at r1.2.1
          have hcf := @ic (ν3.1 19)
          have hfl : (μ.1 19).toInt ≤ ((ν3.1 19).toNatClampNeg : Int) := by omega
          have s151 : ∀ (x3' y4 : Int32) (κ : MS), PR (-1) 1 0 0 0 μ κ → κ.1 32 = (nxS κ1).1 32 → κ.1 19 = κ1.1 19 → ND κ (μ.1 19).toNatClampNeg 12 (-1) (-1) (-1) (-1) (-1) (-1) → (∀ y, (y = x7 ∧ 0 ≤ x7.toInt) ∨ (y = ν3.1 19 ∧ x7 = -1) → MJ (h + 1) ((μ.1 19).toInt + 1) κ x3' (ν3.1 19) y) → (∀ y, (y = x7 ∧ 0 ≤ x7.toInt) ∨ (y = ν3.1 19 ∧ x7 = -1) → SJ (μ.1 32).toInt ((μ.1 19).toInt + 1) κ x3' (ν3.1 19) y) →
              ME X W true d 309 151 [(0, .ref P.1), (1, .int (μ.1 19)), (2, .int (x2 + 1)), (3, .int x3'), (4, .int y4), (5, .int x5), (6, .int x6), (7, .int x7), (8, .int x8), (9, .int (ν3.1 19))] [] P κ (fun r μ1 => SgP (h + 2) μ r μ1) T := fun x3' y4 κ pκ k32 k19 kN kM kQ => by
            have k32i := eq_i k32
            have k19i := eq_i k19
            have s169 : ∀ y : Int32, MJ (h + 1) ((μ.1 19).toInt + 1) κ x3' (ν3.1 19) y → SJ (μ.1 32).toInt ((μ.1 19).toInt + 1) κ x3' (ν3.1 19) y → 0 ≤ y.toInt → ME X W true d 309 169 [(0, .ref P.1), (1, .int (μ.1 19)), (2, .int (x2 + 1)), (3, .int x3'), (4, .int (ν3.1 19)), (5, .int x5), (6, .int x6), (7, .int y), (8, .int x8), (9, .int (ν3.1 19))] [] P κ (fun r μ1 => SgP (h + 2) μ r μ1) T := fun y hy hyq hy0 => by
              have hne : ¬ y = -1 := fun e => by rw [e] at hy0; exact absurd hy0 (by decide)
              refine v_signature_169 _ _ _ _ _ _ _ _ _ (MC.mono (c_is (by omega) pκ.2.1) (fun r κ3 h3 => ?_) (fun _ h => h))
              obtain ⟨rfl, rfl⟩ := h3
              refine ⟨fun h0 => v_signature_186 _ _ _ _ _ _ _ _ _ (ihB _ _ _ _ _ _ _ _ (by omega) pκ (by omega) (by omega) (by omega) kN hy (fun _ => hne) ⟨hyq, fun e => absurd h0 e⟩), fun h3 => MC.mono (c_next (by omega) pκ.2.1 (by rw [is_t h3]; decide) (fun _ h => hT _ (pκ.1.tr h))) (fun _ κ4 h4 => ?_) (fun _ h => h)⟩
              obtain ⟨rfl, hS4⟩ := h4
              have e4 := nx_at pκ.2.1
              have g4 : ((nxS κ3).1 19).toInt = (κ3.1 19).toInt := rfl
              exact v_signature_186 _ _ _ _ _ _ _ _ _ (ihB _ _ _ _ _ _ _ _ (by omega) (pκ.nx hS4) (by omega) (by omega) (by omega) kN (hy.rows rfl rfl) (fun _ => hne) ⟨hyq.rows rfl rfl (by omega), fun _ => hyq.rows rfl rfl (by omega)⟩)
            refine v_signature_151 _ _ _ _ _ _ _ _ _ ⟨fun h7 => s169 _ (kM _ (Or.inl ⟨rfl, h7⟩)) (kQ _ (Or.inl ⟨rfl, h7⟩)) h7, fun h7 => ?_⟩
            have h7' : x7 = -1 := by
              rcases hM with ⟨hM, -⟩ | ⟨hM, -⟩
              · exact hM
              · omega
            exact s169 _ (kM _ (Or.inr ⟨rfl, h7'⟩)) (kQ _ (Or.inr ⟨rfl, h7'⟩)) (by omega)
          have gen : ∀ w : Int32, MI (ν3.1 19) ((nxS κ1).2.2 24) ∧ (((0 : Int) ≤ x3.toInt → (MI x4 ((nxS κ1).2.2 27) ∧ ME X W true d 309 151 [(0, .ref P.1), (1, .int (μ.1 19)), (2, .int (x2 + 1)), (3, .int x3), (4, .int x4), (5, .int x5), (6, .int x6), (7, .int x7), (8, .int x8), (9, .int (ν3.1 19))] [] P (mA1 (mA1 (mA1 (nxS κ1) 22 (ν3.1 19).toNatClampNeg v) 24 (ν3.1 19).toNatClampNeg w) 27 x4.toNatClampNeg (ν3.1 19)) (fun r μ1 => SgP (h + 2) μ r μ1) T)) ∧ (x3.toInt < (0 : Int) → ME X W true d 309 151 [(0, .ref P.1), (1, .int (μ.1 19)), (2, .int (x2 + 1)), (3, .int (ν3.1 19)), (4, .int x4), (5, .int x5), (6, .int x6), (7, .int x7), (8, .int x8), (9, .int (ν3.1 19))] [] P (mA1 (mA1 (nxS κ1) 22 (ν3.1 19).toNatClampNeg v) 24 (ν3.1 19).toNatClampNeg w) (fun r μ1 => SgP (h + 2) μ r μ1) T)) := fun w => by
            have r4 := (r2.A (g := 22) (i := (ν3.1 19).toNatClampNeg) (x := v) rfl rfl (Or.inl hfl)).A (g := 24) (i := (ν3.1 19).toNatClampNeg) (x := w) rfl rfl (Or.inl hfl)
            have nf : ND (mA1 (mA1 (nxS κ1) 22 (ν3.1 19).toNatClampNeg v) 24 (ν3.1 19).toNatClampNeg w) (ν3.1 19).toNatClampNeg 13 v (-1) w (-1) (-1) (-1) := ND.pc (ND.pa (show ND (nxS κ1) (ν3.1 19).toNatClampNeg 13 (-1) (-1) (-1) (-1) (-1) (-1) from nd1'))
            have rr : RB (-1) (ν3.1 19).toInt ν3 (mA1 (mA1 (nxS κ1) 22 (ν3.1 19).toNatClampNeg v) 24 (ν3.1 19).toNatClampNeg w) := RB.tr (show RB (-1) (ν3.1 19).toInt ν3 κ1 from q1.2.2.2.2.1) (RB.tr (show RB (-1) _ κ1 (nxS κ1) from RB.S) (RB.tr (RB.A (Or.inl (by omega))) (RB.A (Or.inl (by omega)))))
            have nt : ND (mA1 (mA1 (nxS κ1) 22 (ν3.1 19).toNatClampNeg v) 24 (ν3.1 19).toNatClampNeg w) (μ.1 19).toNatClampNeg 12 (-1) (-1) (-1) (-1) (-1) (-1) := hN.rb rr (by omega) (by omega)
            have hQA := (hQ.2 hx8).add (t1 := (μ.1 32).toInt) (by omega) rr rfl (by show (κ1.1 19).toInt = _; omega) nf.1 nf.2.2.2.2.2.2 (by show _ ≤ ((nxS κ1).1 32).toInt + _; omega) (by show _ ≤ ((nxS κ1).1 32).toInt; omega)
            refine ⟨r2.mi rfl rfl (by omega) (by omega), fun hx => ?_, fun hx => ?_⟩
            · obtain ⟨⟨w1, w2, w3⟩, w4⟩ := hM.add hx (by omega) rr rfl (by omega) (by show (κ1.1 19).toInt = _; omega) nf.1 nf.2.2.2.2.2.2 (by omega)
              have hc4 := @ic x4
              exact ⟨r2.mi rfl rfl w1 (by omega), s151 _ _ _ (r4.A rfl rfl (Or.inl (by omega))) rfl rfl (nt.off (by omega)) w4 (hQA.1 hx)⟩
            · have hM3 : x3 = -1 ∧ x7 = -1 := by
                rcases hM with ⟨k1, k2 | ⟨k2, -⟩⟩ | ⟨-, k2, -⟩
                · exact ⟨k2, k1⟩
                · omega
                · omega
              refine s151 _ _ _ r4 rfl rfl nt (fun y hy => ?_) (fun y hy => hQA.2 hM3.1 y (by
                rcases hy with ⟨rfl, hy⟩ | ⟨hy, -⟩
                · rw [hM3.2] at hy; exact absurd hy (by decide)
                · exact hy))
              have hy' : y = ν3.1 19 := by
                rcases hy with ⟨rfl, hy⟩ | ⟨hy, -⟩
                · rw [hM3.2] at hy; exact absurd hy (by decide)
                · exact hy
              subst hy'
              exact Or.inr ⟨by omega, by omega, (ν3.1 19).toInt, 0, 0, ⟨by omega, by omega, by omega⟩, rfl, rfl, ⟨by omega, by show _ < (κ1.1 19).toInt; omega⟩, Int.le_refl _, nf.1, nf.2.2.2.2.2.2⟩
          exact ⟨r2.mi rfl rfl (by omega) (by omega), fun _ => gen 0, fun _ => gen 1⟩
      refine ⟨fun x2 x3 x4 x5 ν hj p hb ha hlt hN hM hQ => ?_, B⟩
      refine v_signature_38 _ _ _ _ _ ⟨fun h5 => ?_, fun _ => MC.mono (c_is (by omega) p.2.1) (fun r5 ν5 h5 => ?_) (fun _ h => h)⟩
      · subst h5
        have hfw : FW (μ.1 32).toInt ((μ.1 19).toInt + 1) ν x3 := hQ.fw (by omega) (by omega)
        refine s38 ν x2 x3 x4 p hb ha hlt hN ?_ (by
          obtain ⟨nq, -, -, b3, -, b5⟩ := hQ
          have b3 := b3 rfl
          rw [b3] at b5
          rcases b5 with b5 | ⟨a1, a2, -⟩
          · exact Or.inl b5
          · exact Or.inr ⟨a1, a2⟩)
        refine ⟨?_, hfw⟩
        rcases hM with ⟨-, rfl | ⟨-, hM⟩⟩ | ⟨hM, -⟩
        · exact LSt.nil
        · exact hM.lst
        · exact absurd hM (by decide)
      · obtain ⟨rfl, rfl⟩ := h5
        refine ⟨fun _ => v_signature_60 _ _ _ _ _ _ (B _ _ _ _ _ _ _ _ hj p hb ha hlt hN hM (fun h => by cases h) ⟨hQ.rows rfl rfl (by omega), fun _ => hQ⟩), fun h5 => MC.mono (c_next (by omega) p.2.1 (by rw [is_t h5]; decide) (fun _ h => hT _ (p.1.tr h))) (fun _ ν6 h6 => ?_) (fun _ h => h)⟩
        obtain ⟨rfl, hS6⟩ := h6
        have e6 := nx_at p.2.1
        have g6 : ((nxS ν5).1 19).toInt = (ν5.1 19).toInt := rfl
        exact v_signature_60 _ _ _ _ _ _ (B _ _ _ _ _ _ _ _ (by omega) (p.nx hS6) (by omega) (by omega) (by omega) hN (hM.rows rfl rfl) (fun h => by cases h) ⟨hQ.rows rfl rfl (by omega), fun _ => hQ.rows rfl rfl (by omega)⟩)
  have gS : LSt 9 (h + 1) ((μ.1 19).toInt + 1) (opS μ1) (-1) := LSt.nil
  refine MC.mono (c_is (by omega) p2.2.1) (fun r ν hν => ?_) (fun _ h => h)
  obtain ⟨rfl, rfl⟩ := hν
  exact ⟨fun _ => (key _).1 _ _ _ _ _ (Nat.lt_succ_self _) p2 (by omega) (by omega) (by omega) nd2 (Or.inl ⟨rfl, Or.inl rfl⟩) ⟨_, ⟨by omega, Int.le_refl _⟩, fun j j1 j2 => by omega, fun _ => rfl, fun e => absurd e (by decide), Or.inl ⟨rfl, NS.nil (by omega)⟩⟩, fun _ => (key _).1 _ _ _ _ _ (Nat.lt_succ_self _) p2 (by omega) (by omega) (by omega) nd2 (Or.inl ⟨rfl, Or.inl rfl⟩) ⟨_, ⟨by omega, Int.le_refl _⟩, fun j j1 j2 => by omega, fun _ => rfl, fun e => absurd e (by decide), Or.inl ⟨rfl, NS.nil (by omega)⟩⟩⟩
theorem st_sig (hT1 : NodC X W P 312 0 9 0 d) : NodC X W P 309 8 10 1 (d + 1) := fun μ T h9 hS hd hh hn hT => MC.mono (st_sigW hT1 μ T h9 hS hd hh hn hT) (fun _ _ h => h.1) (fun _ h => h)
end PSA
