/-! contracts of the reference: a QNAME named; NAMEs that come again -/
/-- where an IMPORT leads -/
def IW (n : Int) (ν : MS) : Prop := ∀ s : Nat, (s : Int) < (ν.1 43).toInt → ν.2.1 45 s = 2 → (ν.2.1 47 s).toInt < n ∧ ((ν.2.1 47 s).toInt < 0 → ¬ ν.1 17 = 0)
/-- the symbol that a QNAME means -/
def rs (ν : MS) (q : Nat) : Int32 := if (ν.2.1 23 q).toInt < 0 then fdV ν (ν.2.1 29 q) (ν.2.1 22 q) else fiV ν (ν.2.1 47 (fdV ν (ν.2.1 29 q) (ν.2.1 22 q)).toNatClampNeg) (ν.2.1 23 q) 0
/-- a QNAME is a symbol of one of two kinds -/
def QK (ν : MS) (q k o : Int32) : Prop := ν.2.1 28 q.toNatClampNeg = rs ν q.toNatClampNeg ∧ 0 ≤ (ν.2.1 28 q.toNatClampNeg).toInt ∧ (ν.2.1 28 q.toNatClampNeg).toInt < (ν.1 43).toInt ∧ (ν.2.1 45 (ν.2.1 28 q.toNatClampNeg).toNatClampNeg = k ∨ ν.2.1 45 (ν.2.1 28 q.toNatClampNeg).toNatClampNeg = o) ∧ ν.2.1 20 q.toNatClampNeg = 11
/-- naming: the FAULT and the row of symbols alone; a FAULT stays -/
def NF (μ μ1 : MS) : Prop := kf [17, 18] [28] μ μ1 ∧ (¬ μ.1 17 = 0 → ¬ μ1.1 17 = 0) ∧ ∀ j : Nat, μ1.2.1 28 j = μ.2.1 28 j ∨ (μ.2.1 20 j = 11 ∧ μ1.2.1 28 j = rs μ j)
theorem fiF.cg {ν ν1 : MS} {nm im : Int32} (h44 : ν1.2.1 44 = ν.2.1 44) (h45 : ν1.2.1 45 = ν.2.1 45) : ∀ (j : Nat) (x : Int32), fiF ν1 nm im j x = fiF ν nm im j x
  | 0, _ => rfl
  | j + 1, x => by
    show (if _ then _ else _) = (if _ then _ else _)
    rw [h44, h45, fiF.cg h44 h45 j (x + 1)]
theorem fiV.cg {ν ν1 : MS} {s : List Nat} (h : kf s [28] ν ν1) {u nm im : Int32} : fiV ν1 u nm im = fiV ν u nm im := by
  unfold fiV
  rw [h.2.1 48 rfl, h.2.1 49 rfl, fiF.cg (h.2.1 44 rfl) (h.2.1 45 rfl)]
theorem fdV.cg {ν ν1 : MS} {s : List Nat} (h : kf s [28] ν ν1) {u nm : Int32} : fdV ν1 u nm = fdV ν u nm := by
  unfold fdV
  rw [fiV.cg h, fiV.cg h, h.2.1 50 rfl]
theorem rs.cg {ν ν1 : MS} {s : List Nat} (h : kf s [28] ν ν1) {q : Nat} : rs ν1 q = rs ν q := by
  unfold rs
  rw [fdV.cg h, fiV.cg h, h.2.1 22 rfl, h.2.1 23 rfl, h.2.1 29 rfl, h.2.1 47 rfl]
theorem NF.rf {μ : MS} : NF μ μ := ⟨kf.rf, id, fun _ => Or.inl rfl⟩
theorem NF.tr {μ μ1 μ2 : MS} (h : NF μ μ1) (k : NF μ1 μ2) : NF μ μ2 := ⟨h.1.tr k.1, fun e => k.2.1 (h.2.1 e), fun j => by
  rcases k.2.2 j with e | ⟨e1, e⟩
  · rw [e]; exact h.2.2 j
  · exact Or.inr ⟨by rw [h.1.2.1 20 rfl] at e1; exact e1, e.trans (rs.cg h.1)⟩⟩
/-- what is named stays named -/
theorem QK.nf {μ μ1 : MS} {q k o : Int32} (h : QK μ q k o) (hN : NF μ μ1) : QK μ1 q k o := by
  obtain ⟨h1, h2, h3, h4, h5⟩ := h
  have e : μ1.2.1 28 q.toNatClampNeg = μ.2.1 28 q.toNatClampNeg := by
    rcases hN.2.2 q.toNatClampNeg with e | ⟨-, e⟩
    · exact e
    · rw [e, h1]
  unfold QK
  rw [e, rs.cg hN.1, hN.1.1 43 rfl, hN.1.2.1 45 rfl, hN.1.2.1 20 rfl]
  exact ⟨h1, h2, h3, h4, h5⟩
section NMB
variable {X : ev_X} {W : Nat → Prop} {d : Nat} {P : MP} {μ : MS} {T : MS → Prop} {n : Int}
theorem c_ruleF {k l : Int32} (hd : 1 ≤ d) (hk : ¬ k = 0) : MC X W true d 290 [.ref P.1, .int k, .int l] P μ (fun _ μ1 => NF μ μ1 ∧ μ1.2.1 28 = μ.2.1 28 ∧ ¬ μ1.1 17 = 0) T :=
  MC.mono (c_rule hd) (fun _ μ1 h => by
    obtain ⟨h1, h2⟩ := h
    have h3 := h2.resolve_left hk
    exact ⟨⟨h1.up rfl rfl, fun _ => h3, fun j => Or.inl (by rw [h1.2.1 28 rfl])⟩, h1.2.1 28 rfl, h3⟩) (fun _ h => h)
theorem c_qualified {q k o : Int32} (hd : 3 ≤ d) (hL : LRow μ.2.2) (hU : US n μ) (hI : IW n μ) (hq0 : 0 ≤ q.toInt) (hq1 : q.toInt < 16000) (hu0 : 0 ≤ (μ.2.1 29 q.toNatClampNeg).toInt) (hu1 : (μ.2.1 29 q.toNatClampNeg).toInt < n) (hk11 : μ.2.1 20 q.toNatClampNeg = 11) :
    MC X W true d 350 [.ref P.1, .int q, .int k, .int o] P μ (fun _ μ1 => NF μ μ1 ∧ (∀ j, j ≠ q.toNatClampNeg → μ1.2.1 28 j = μ.2.1 28 j) ∧ (μ1.1 17 = 0 → QK μ1 q k o)) T := by
  obtain ⟨⟨s0, s1⟩, hn, hw⟩ := id hU
  have mi : ∀ {g : Nat}, rk g = true → rlen g = 16000 → MI q (μ.2.2 g) := fun hg hr => MI.of (hL.g hg hr) hq0 hq1
  have ms : ∀ {g : Nat} {x : Int32}, rk g = true → rlen g = 3200 → 0 ≤ x.toInt → x.toInt < (μ.1 43).toInt → MI x (μ.2.2 g) := fun hg hr h0 h1 => MI.of (hL.g hg hr) h0 (by omega)
  have good : ∀ s : Int32, s = rs μ q.toNatClampNeg → 0 ≤ s.toInt → s.toInt < (μ.1 43).toInt → (μ.2.1 45 s.toNatClampNeg = k ∨ μ.2.1 45 s.toNatClampNeg = o) → NF μ (mA1 μ 28 q.toNatClampNeg s) ∧ (∀ j, j ≠ q.toNatClampNeg → (mA1 μ 28 q.toNatClampNeg s).2.1 28 j = μ.2.1 28 j) ∧ ((mA1 μ 28 q.toNatClampNeg s).1 17 = 0 → QK (mA1 μ 28 q.toNatClampNeg s) q k o) := fun s hs h0 h1 h2 => by
    have kk : kf [] [28] μ (mA1 μ 28 q.toNatClampNeg s) := kf.rf.A rfl
    refine ⟨⟨kk.up rfl rfl, id, fun j => ?_⟩, fun j hj => upd_off hj, fun _ => ?_⟩
    · by_cases c : j = q.toNatClampNeg
      · rw [c]
        exact Or.inr ⟨hk11, upd_at.trans hs⟩
      · exact Or.inl (upd_off c)
    have e : (mA1 μ 28 q.toNatClampNeg s).2.1 28 q.toNatClampNeg = s := upd_at
    unfold QK
    rw [e, row_off (g' := 45) rfl, row_off (g' := 20) rfl, rs.cg kk]
    exact ⟨hs, h0, h1, h2, hk11⟩
  have bad : ∀ {l kk : Int32}, ¬ kk = 0 → MC X W true (d - 1) 290 [.ref P.1, .int kk, .int l] P μ (fun _ μ1 => NF μ μ1 ∧ (∀ j, j ≠ q.toNatClampNeg → μ1.2.1 28 j = μ.2.1 28 j) ∧ (μ1.1 17 = 0 → QK μ1 q k o)) (fun _ => False) := fun {l kk} hk => MC.mono (c_ruleF (by omega) hk) (fun _ μ1 h => ⟨h.1, fun j _ => by rw [h.2.1], fun e => absurd e h.2.2⟩) (fun _ h => h)
  refine me_meth (by omega) rfl (v_qualified_0 _ _ _ ⟨mi rfl rfl, mi rfl rfl, MC.mono (c_find (by omega) hL hU hu0 hu1) (fun r ν h => ?_) (fun _ h => h)⟩)
  obtain ⟨rfl, hv, hr⟩ := h
  refine ⟨fun h0 => ?_, fun _ => ⟨mi rfl rfl, bad (by decide)⟩⟩
  have hr : 0 ≤ r.toInt ∧ r.toInt < (ν.1 43).toInt := by
    rcases hr with hr | hr
    · rw [hr] at h0; exact absurd h0 (by decide)
    · exact hr
  have hcr := @ic r
  have rs1 : (ν.2.1 23 q.toNatClampNeg).toInt < 0 → r = rs ν q.toNatClampNeg := fun h => by unfold rs; rw [if_pos h]; exact hv
  refine ⟨mi rfl rfl, fun hb => ⟨ms rfl rfl hr.1 hr.2, fun e => ⟨mi rfl rfl, good r (rs1 hb) hr.1 hr.2 (Or.inl e)⟩, fun _ => ⟨ms rfl rfl hr.1 hr.2, fun e => ⟨mi rfl rfl, good r (rs1 hb) hr.1 hr.2 (Or.inr e)⟩, fun _ => ⟨mi rfl rfl, bad (by decide)⟩⟩⟩, fun hb => ⟨ms rfl rfl hr.1 hr.2, fun e2 => ⟨ms rfl rfl hr.1 hr.2, fun h1 => ⟨ms rfl rfl hr.1 hr.2, mi rfl rfl, ?_⟩, fun h1 => ?_⟩, fun _ => ⟨mi rfl rfl, bad (by decide)⟩⟩⟩
  · obtain ⟨i1, i2⟩ := hI r.toNatClampNeg (by omega) e2
    have hcw := @ic (ν.2.1 47 r.toNatClampNeg)
    obtain ⟨w1, w2, w3⟩ := hw (ν.2.1 47 r.toNatClampNeg).toNatClampNeg (by omega)
    refine MC.mono (c_findIn (by omega) hL h1 (by omega) w1 (by omega)) (fun r3 ν3 h3 => ?_) (fun _ h => h)
    obtain ⟨rfl, hv3, h3⟩ := h3
    have rs3 : r3 = rs ν3 q.toNatClampNeg := by unfold rs; rw [if_neg (by omega), ← hv]; exact hv3
    refine ⟨fun h4 => ?_, fun _ => ⟨mi rfl rfl, bad (by decide)⟩⟩
    have hr3 : 0 ≤ r3.toInt ∧ r3.toInt < (ν3.1 43).toInt := by
      rcases h3 with h3 | ⟨k1, k2, k3, -⟩
      · rw [h3] at h4; exact absurd h4 (by decide)
      · exact ⟨k1, by omega⟩
    exact ⟨ms rfl rfl hr3.1 hr3.2, fun e => ⟨mi rfl rfl, good r3 rs3 hr3.1 hr3.2 (Or.inl e)⟩, fun _ => ⟨ms rfl rfl hr3.1 hr3.2, fun e => ⟨mi rfl rfl, good r3 rs3 hr3.1 hr3.2 (Or.inr e)⟩, fun _ => ⟨mi rfl rfl, bad (by decide)⟩⟩⟩
  · obtain ⟨i1, i2⟩ := hI r.toNatClampNeg (by omega) e2
    exact ⟨NF.rf, fun _ _ => rfl, fun e => absurd e (i2 h1)⟩
/-- a row's nodes can be looked at -/
def RwL (ν : MS) : Nat → Int32 → Prop := Lst (fun i => 0 ≤ i.toInt ∧ i.toInt < 16000) (ν.2.1 27)
theorem RwL.kf {ν ν1 : MS} (h : ν1.2.1 27 = ν.2.1 27) {m : Nat} {x : Int32} (k : RwL ν m x) : RwL ν1 m x := by
  unfold RwL
  rw [h]; exact k
end NMB
