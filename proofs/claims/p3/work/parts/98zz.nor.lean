/-! contracts of the reference: a DOT behind a PLACE -/
abbrev T1s : List Nat := [17, 18, 67, 69, 74, 76, 77, 80, 91, 92]
abbrev T1r : List Nat := [24, 25, 66, 68, 70, 71, 75, 78, 79, 81]
/-- what slot 91 tells: nothing, or a METHOD -/
def S91 (ζ ν : MS) : Prop := ν.1 91 = -1 ∨ Nd ζ 11 (ν.1 91)
/-- one node's parts put, no more kept but a FAULT and CELLS -/
def T1 (ζ : MS) (ρ ω η : Nat → Int32) (b : Int32) (ν0 ν1 : MS) : Prop := P2 ζ ρ ω η ν1 ∧ (FM ν0 ν1 ∧ kf T1s T1r ν0 ν1 ∧ KP (ν0.2.1 81) (ν1.2.1 81)) ∧ (∀ j, ¬ j = b.toNatClampNeg → ν1.2.1 24 j = ν0.2.1 24 j ∧ ν1.2.1 25 j = ν0.2.1 25 j) ∧ (S91 ζ ν0 → S91 ζ ν1)
/-- a METHOD behind an object -/
def DtM (μ ζ : MS) (ρ : Nat → Int32) (b t : Int32) (ν1 : MS) : Prop := (Ob ζ t ∧ ν1.2.1 24 b.toNatClampNeg = 1) ∧ (RT μ ζ (ν1.1 92) ∧ Ob ζ (ν1.1 92) ∧ Sb ζ ρ t (ν1.1 92)) ∧ 0 ≤ (lvV ζ ρ (ν1.1 92)).toInt ∧ Nd ζ 11 (ν1.1 91) ∧ ∃ k, FstN ζ (ζ.2.1 22 b.toNatClampNeg) k (ζ.2.1 24 (lvV ζ ρ (ν1.1 92)).toNatClampNeg) (ν1.1 91)
/-- a FIELD of a RECORD -/
def DtF (ζ : MS) (b t r : Int32) (ν1 : MS) : Prop := (ζ.2.1 20 t.toNatClampNeg = 29 ∧ ν1.2.1 24 b.toNatClampNeg = 0) ∧ ∃ f, Nd ζ 10 f ∧ ((∃ k, Onl (ζ.2.1 27) k (ζ.2.1 22 t.toNatClampNeg) f) ∧ ζ.2.1 22 f.toNatClampNeg = ζ.2.1 22 b.toNatClampNeg) ∧ (∃ m, OfS ζ (ν1.2.1 81) m (ζ.2.1 22 t.toNatClampNeg) f 0 (ν1.2.1 25 b.toNatClampNeg)) ∧ r = rlV ζ (ζ.2.1 23 f.toNatClampNeg)
/-- a FIELD of an object -/
def DtO (μ ζ : MS) (ρ : Nat → Int32) (b t r : Int32) (ν1 : MS) : Prop := (Ob ζ t ∧ ν1.2.1 24 b.toNatClampNeg = 1) ∧ ∃ o f, (RT μ ζ o ∧ Ob ζ o ∧ Sb ζ ρ t o) ∧ (0 ≤ (lvV ζ ρ o).toInt ∧ Nd ζ 10 f ∧ ∃ k, FstN ζ (ζ.2.1 22 b.toNatClampNeg) k (ζ.2.1 23 (lvV ζ ρ o).toNatClampNeg) f) ∧ (∃ m n g h, CaS ζ ρ (ν1.2.1 81) m (waV ζ ρ o) 0 g ∧ OfS ζ (ν1.2.1 81) n (ζ.2.1 23 (lvV ζ ρ o).toNatClampNeg) f 0 h ∧ ν1.2.1 25 b.toNatClampNeg = g + h) ∧ r = rlV ζ (ζ.2.1 23 f.toNatClampNeg)
/-- what DOT answers -/
def DtR (μ ζ : MS) (ρ : Nat → Int32) (b t l : Int32) (ν0 : MS) (r : Int32) (ν1 : MS) : Prop := ((r = -1 ∧ ¬ l = 0) ∧ DtM μ ζ ρ b t ν1) ∨ (ν1.1 91 = ν0.1 91 ∧ ((r = -1 ∧ ¬ ν1.1 17 = 0) ∨ DtF ζ b t r ν1 ∨ DtO μ ζ ρ b t r ν1))
section NNAZ
variable {X : ev_X} {W : Nat → Prop} {d : Nat} {P : MP} {μ ν ν0 ν1 κ ζ : MS} {T : MS → Prop} {x y z s t q r e u v k l b : Int32} {ρ ω η M M' : Nat → Int32} {w c : Nat}
theorem p2_24 (h : P2 ζ ρ ω η ν) (hs : sfx (ζ.2.1 20 b.toNatClampNeg) = true) : P2 ζ ρ ω η (mA1 ν 24 b.toNatClampNeg v) := by
  have k : kf [] [24] ν (mA1 ν 24 b.toNatClampNeg v) := kf.rf.A rfl
  obtain ⟨⟨hF, hK⟩, a3, a4⟩ := h
  have hF' : TF ζ (mA1 ν 24 b.toNatClampNeg v) := ⟨hF.1.tr k rfl rfl, hF.2.1, hF.2.2.1, fun g hg j => by
    rcases hg with rfl | rfl | rfl
    · show upd (ν.2.1 24) b.toNatClampNeg v j = _ ∨ _
      by_cases c : j = b.toNatClampNeg
      · rw [c]; exact Or.inr hs
      · rw [upd_off c]; exact hF.2.2.2 24 (Or.inl rfl) j
    · exact hF.2.2.2 25 (Or.inr (Or.inl rfl)) j
    · exact hF.2.2.2 26 (Or.inr (Or.inr rfl)) j⟩
  exact ⟨⟨hF', JK.eq (ν := ν) rfl (fun _ _ => rfl) rfl hK⟩, a3, a4⟩
theorem p2_25 (h : P2 ζ ρ ω η ν) (hs : sfx (ζ.2.1 20 b.toNatClampNeg) = true) : P2 ζ ρ ω η (mA1 ν 25 b.toNatClampNeg v) := by
  have k : kf [] [25] ν (mA1 ν 25 b.toNatClampNeg v) := kf.rf.A rfl
  obtain ⟨⟨hF, hK⟩, a3, a4⟩ := h
  have hF' : TF ζ (mA1 ν 25 b.toNatClampNeg v) := ⟨hF.1.tr k rfl rfl, hF.2.1, hF.2.2.1, fun g hg j => by
    rcases hg with rfl | rfl | rfl
    · exact hF.2.2.2 24 (Or.inl rfl) j
    · show upd (ν.2.1 25) b.toNatClampNeg v j = _ ∨ _
      by_cases c : j = b.toNatClampNeg
      · rw [c]; exact Or.inr hs
      · rw [upd_off c]; exact hF.2.2.2 25 (Or.inr (Or.inl rfl)) j
    · exact hF.2.2.2 26 (Or.inr (Or.inr rfl)) j⟩
  exact ⟨⟨hF', JK.eq (ν := ν) rfl (fun _ _ => rfl) rfl hK⟩, a3, a4⟩
theorem p2_26 (h : P2 ζ ρ ω η ν) (hs : sfx (ζ.2.1 20 b.toNatClampNeg) = true) : P2 ζ ρ ω η (mA1 ν 26 b.toNatClampNeg v) := by
  have k : kf [] [26] ν (mA1 ν 26 b.toNatClampNeg v) := kf.rf.A rfl
  obtain ⟨⟨hF, hK⟩, a3, a4⟩ := h
  have hF' : TF ζ (mA1 ν 26 b.toNatClampNeg v) := ⟨hF.1.tr k rfl rfl, hF.2.1, hF.2.2.1, fun g hg j => by
    rcases hg with rfl | rfl | rfl
    · exact hF.2.2.2 24 (Or.inl rfl) j
    · exact hF.2.2.2 25 (Or.inr (Or.inl rfl)) j
    · show upd (ν.2.1 26) b.toNatClampNeg v j = _ ∨ _
      by_cases c : j = b.toNatClampNeg
      · rw [c]; exact Or.inr hs
      · rw [upd_off c]; exact hF.2.2.2 26 (Or.inr (Or.inr rfl)) j⟩
  exact ⟨⟨hF', JK.eq (ν := ν) rfl (fun _ _ => rfl) rfl hK⟩, a3, a4⟩
theorem p2_sl (h : P2 ζ ρ ω η ν) : P2 ζ ρ ω η (mS1 (mS1 ν 91 x) 92 y) := by
  have k : kf [91, 92] [] ν (mS1 (mS1 ν 91 x) 92 y) := (kf.rf.S rfl).S rfl
  obtain ⟨⟨a1, a2⟩, a3, a4⟩ := h
  exact ⟨⟨a1.kf k rfl rfl, JK.eq (ν := ν) rfl (fun _ _ => rfl) rfl a2⟩, a3, a4⟩
theorem T1.rf (h : P2 ζ ρ ω η ν) : T1 ζ ρ ω η b ν ν := ⟨h, ⟨fun g => g, kf.rf, KP.rf⟩, fun _ _ => ⟨rfl, rfl⟩, fun g => g⟩
theorem T1.tr (h : T1 ζ ρ ω η b ν0 ν) (g : T1 ζ ρ ω η b ν ν1) : T1 ζ ρ ω η b ν0 ν1 := ⟨g.1, ⟨fun a => g.2.1.1 (h.2.1.1 a), h.2.1.2.1.tr g.2.1.2.1, h.2.1.2.2.tr g.2.1.2.2⟩, fun j hj => ⟨(g.2.2.1 j hj).1.trans (h.2.2.1 j hj).1, (g.2.2.1 j hj).2.trans (h.2.2.1 j hj).2⟩, fun a => g.2.2.2 (h.2.2.2 a)⟩
theorem Q3.t1 (h : Q3 ζ ρ ω η ν0 ν1) : T1 ζ ρ ω η b ν0 ν1 := ⟨h.1, ⟨h.2.1, h.2.2.1.up rfl rfl, h.2.2.2⟩, fun j _ => ⟨by rw [h.2.2.1.2.1 24 rfl], by rw [h.2.2.1.2.1 25 rfl]⟩, fun a => by unfold S91; rw [h.2.2.1.1 91 rfl]; exact a⟩
theorem t1_24 (h : P2 ζ ρ ω η ν) (hs : sfx (ζ.2.1 20 b.toNatClampNeg) = true) : T1 ζ ρ ω η b ν (mA1 ν 24 b.toNatClampNeg v) := ⟨p2_24 h hs, ⟨fun g => g, kf.rf.A rfl, KP.rf⟩, fun _ hj => ⟨upd_off hj, rfl⟩, fun g => g⟩
theorem t1_25 (h : P2 ζ ρ ω η ν) (hs : sfx (ζ.2.1 20 b.toNatClampNeg) = true) : T1 ζ ρ ω η b ν (mA1 ν 25 b.toNatClampNeg v) := ⟨p2_25 h hs, ⟨fun g => g, kf.rf.A rfl, KP.rf⟩, fun _ hj => ⟨rfl, upd_off hj⟩, fun g => g⟩
theorem t1_sl (h : P2 ζ ρ ω η ν) (hm : Nd ζ 11 x) : T1 ζ ρ ω η b ν (mS1 (mS1 ν 91 x) 92 y) := ⟨p2_sl h, ⟨fun g => g, (kf.rf.S rfl).S rfl, KP.rf⟩, fun _ _ => ⟨rfl, rfl⟩, fun _ => Or.inr hm⟩
theorem fst_onl {nm f : Int32} : ∀ {k : Nat} {x : Int32}, FstN ζ nm k x f → Onl (ζ.2.1 27) k x f
  | 0, _, h => h.1.1
  | _ + 1, _, h => ⟨h.1.1, fst_onl h.2⟩
theorem rt_29 (hx : RT μ ζ x) (ek : ζ.2.1 20 x.toNatClampNeg = 29) : Nd ζ 0 x := by
  rcases hx with h | h
  · exact h.1
  · rcases h.2.1 with h | h <;> (rw [h] at ek; exact absurd ek (by decide))
theorem dt_bad (hB : TB μ ζ) {x1 k : Int32} (h : T1 ζ ρ ω η b ν κ) (e91 : κ.1 91 = ν.1 91) (hd : 2 ≤ d) (hk : ¬ k = 0) (hx : InN ζ x1) : MC X W true d 409 [.ref P.1, .int k, .int x1] P κ (fun r ν1 => T1 ζ ρ ω η b ν ν1 ∧ DtR μ ζ ρ b t l ν r ν1) T :=
  MC.mono (c_wrong hB h.1.1.1 hd hk hx) (fun _ _ g => ⟨h.tr (q2_flt h.1 g.2.1 g.2.2).q3.t1, Or.inr ⟨(g.2.1.1 91 rfl).trans e91, Or.inl ⟨g.1, g.2.2⟩⟩⟩) (fun _ h => h)
/-- a FIELD of a RECORD found or not -/
theorem dt_rec (hB : TB μ ζ) (hY : TY μ ζ) (hC : HoC μ ζ η) (hg : ag ζ η ∧ bg ζ) (hd : 1253 ≤ d) {x1 x6 : Int32} (hx1 : InN ζ x1) (bi : InN ζ b) (hs : sfx (ζ.2.1 20 b.toNatClampNeg) = true) (tn : Nd ζ 0 t) (kt : ζ.2.1 20 t.toNatClampNeg = 29) (h : T1 ζ ρ ω η b ν κ) (e91 : κ.1 91 = ν.1 91) (e24 : κ.2.1 24 b.toNatClampNeg = 0)
    (h6 : x6 = -1 ∨ (Nd ζ 10 x6 ∧ (∃ k, Onl (ζ.2.1 27) k (ζ.2.1 22 t.toNatClampNeg) x6) ∧ ζ.2.1 22 x6.toNatClampNeg = ζ.2.1 22 b.toNatClampNeg)) :
    ME X W true d 420 109 [(0, .ref P.1), (1, .int x1), (2, .int b), (3, .int t), (4, .int u), (5, .int l), (6, .int x6)] [] P κ (fun r ν1 => T1 ζ ρ ω η b ν ν1 ∧ DtR μ ζ ρ b t l ν r ν1) T := by
  have hF := h.1.1.1
  rcases h6 with e | ⟨fn, ⟨k, ho⟩, en⟩
  · subst e
    exact v_typeDot_109 _ _ _ _ _ _ ⟨fun h0 => absurd h0 (by decide), fun _ => MC.mono (dt_bad hB h e91 (by omega) (by decide) hx1) (fun _ _ g => g) (fun _ h => h)⟩
  have f0 := fn.in.1
  have k33 := k_33 fn
  obtain ⟨m, hl⟩ := nd_29 tn kt
  refine v_typeDot_109 _ _ _ _ _ _ ⟨fun _ => ⟨fn.mi hB hF rfl rfl, fun _ => ⟨tn.mi hB hF rfl rfl, fun h29 => ?_, fun _ => ⟨tn.mi hB hF rfl rfl, ?_⟩⟩, fun h34 => ?_⟩, fun h0 => absurd h0 (by omega)⟩
  · rw [hF.row (g := 20) rfl] at h29; exact absurd kt h29
  · rw [hF.row (g := 22) rfl]
    refine MC.mono (c_offsetIn hB hY hC hg h.1 hd ho hl) (fun r5 κ5 h5 => ?_) (fun _ h => h)
    obtain ⟨hQ, m5, hm5⟩ := h5
    have hF5 := hQ.1.1.1
    refine ⟨in_mi hB hF5 bi rfl rfl, fn.mi hB hF5 rfl rfl, ?_⟩
    rw [hF5.row (g := 23) rfl]
    have hT : T1 ζ ρ ω η b ν (mA1 κ5 25 b.toNatClampNeg r5) := (h.tr hQ.q3.t1).tr (t1_25 hQ.1 hs)
    refine MC.mono (c_real hB hT.1.1.1 (by omega) (fl_ty fn)) (fun r6 κ6 h6 => ?_) (fun _ h => h)
    obtain ⟨e1, e2, -⟩ := h6
    have e1 := e1.symm
    subst e1
    refine ⟨hT, Or.inr ⟨?_, Or.inr (Or.inl ⟨⟨kt, ?_⟩, x6, fn, ⟨⟨k, ho⟩, en⟩, ⟨m5, ?_⟩, e2⟩)⟩⟩
    · show κ5.1 91 = _
      rw [hQ.2.1.1 91 rfl]; exact e91
    · show κ5.2.1 24 _ = _
      rw [hQ.2.1.2.1 24 rfl]; exact e24
    · show OfS ζ (κ5.2.1 81) m5 _ x6 0 (upd (κ5.2.1 25) b.toNatClampNeg r5 b.toNatClampNeg)
      rw [upd_at]; exact hm5
  · rw [hF.row (g := 20) rfl, k33] at h34; exact absurd h34 (by decide)
theorem dt_41 (hB : TB μ ζ) (hY : TY μ ζ) (hC : HoC μ ζ η) (hg : ag ζ η ∧ bg ζ) (hd : 1253 ≤ d) {x1 : Int32} (hx1 : InN ζ x1) (bi : InN ζ b) (hs : sfx (ζ.2.1 20 b.toNatClampNeg) = true) (tn : Nd ζ 0 t) (kt : ζ.2.1 20 t.toNatClampNeg = 29) (h : T1 ζ ρ ω η b ν κ) (e91 : κ.1 91 = ν.1 91) (e24 : κ.2.1 24 b.toNatClampNeg = 0) : ∀ (m : Nat) (x6 x7 : Int32), Lst (Nd ζ 10) (ζ.2.1 27) m x7 → (∃ k, Onl (ζ.2.1 27) k (ζ.2.1 22 t.toNatClampNeg) x7) → (x6 = -1 ∨ (Nd ζ 10 x6 ∧ (∃ k, Onl (ζ.2.1 27) k (ζ.2.1 22 t.toNatClampNeg) x6) ∧ ζ.2.1 22 x6.toNatClampNeg = ζ.2.1 22 b.toNatClampNeg)) →
    ME X W true d 420 41 [(0, .ref P.1), (1, .int x1), (2, .int b), (3, .int t), (4, .int u), (5, .int l), (6, .int x6), (7, .int x7)] [] P κ (fun r ν1 => T1 ζ ρ ω η b ν ν1 ∧ DtR μ ζ ρ b t l ν r ν1) T := by
  have hF := h.1.1.1
  have nil : ∀ (x6 x7 : Int32), x7 = -1 → (x6 = -1 ∨ (Nd ζ 10 x6 ∧ (∃ k, Onl (ζ.2.1 27) k (ζ.2.1 22 t.toNatClampNeg) x6) ∧ ζ.2.1 22 x6.toNatClampNeg = ζ.2.1 22 b.toNatClampNeg)) → ME X W true d 420 41 [(0, .ref P.1), (1, .int x1), (2, .int b), (3, .int t), (4, .int u), (5, .int l), (6, .int x6), (7, .int x7)] [] P κ (fun r ν1 => T1 ζ ρ ω η b ν ν1 ∧ DtR μ ζ ρ b t l ν r ν1) T := fun x6 x7 e h6 => by
    subst e
    exact v_typeDot_41 _ _ _ _ _ _ _ ⟨fun _ => dt_rec hB hY hC hg hd hx1 bi hs tn kt h e91 e24 h6, fun h => absurd h (by decide)⟩
  intro m
  induction m with
  | zero => intro x6 x7 hl _ h6; exact nil x6 x7 hl h6
  | succ m ih =>
    intro x6 x7 hl ho h6
    rcases hl with hl | ⟨fn, hl⟩
    · exact nil x6 x7 hl h6
    obtain ⟨k, ho⟩ := ho
    have f0 := fn.in.1
    have ho1 : ∃ k, Onl (ζ.2.1 27) k (ζ.2.1 22 t.toNatClampNeg) (ζ.2.1 27 x7.toNatClampNeg) := ⟨k + 1, ho.snoc f0⟩
    refine v_typeDot_41 _ _ _ _ _ _ _ ⟨fun h0 => absurd h0 (by omega), fun _ => ⟨fn.mi hB hF rfl rfl, in_mi hB hF bi rfl rfl, fun _ => v_typeDot_71 _ _ _ _ _ _ _ ⟨fn.mi hB hF rfl rfl, ?_⟩, fun he => v_typeDot_71 _ _ _ _ _ _ _ ⟨fn.mi hB hF rfl rfl, ?_⟩⟩⟩
    · rw [hF.row (g := 27) rfl]
      exact ih x6 _ hl ho1 h6
    · rw [hF.row (g := 22) rfl] at he
      rw [hF.row (g := 27) rfl]
      exact ih x7 _ hl ho1 (Or.inr ⟨fn, ⟨k, ho⟩, he⟩)
/-- a member of an object found or not -/
theorem dt_obj (hZ : TZ μ ζ) (hY : TY μ ζ) (hC : HoC μ ζ η) (hR : RvO μ ζ ρ) (hg : ag ζ η ∧ bg ζ) (hall : NoRs ζ ρ) (hd : 1254 ≤ d) {x1 x6 : Int32} (hx1 : InN ζ x1) (bi : InN ζ b) (hs : sfx (ζ.2.1 20 b.toNatClampNeg) = true) (ht : RT μ ζ t) (ot : Ob ζ t) (h : T1 ζ ρ ω η b ν κ) (e91 : κ.1 91 = ν.1 91) (e24 : κ.2.1 24 b.toNatClampNeg = 1)
    (h6 : x6 = -1 ∨ ((RT μ ζ (κ.1 80) ∧ Ob ζ (κ.1 80) ∧ Sb ζ ρ t (κ.1 80)) ∧ 0 ≤ (lvV ζ ρ (κ.1 80)).toInt ∧ ((Nd ζ 10 x6 ∧ ∃ k, FstN ζ (ζ.2.1 22 b.toNatClampNeg) k (ζ.2.1 23 (lvV ζ ρ (κ.1 80)).toNatClampNeg) x6) ∨ (Nd ζ 11 x6 ∧ ∃ k, FstN ζ (ζ.2.1 22 b.toNatClampNeg) k (ζ.2.1 24 (lvV ζ ρ (κ.1 80)).toNatClampNeg) x6)))) :
    ME X W true d 420 109 [(0, .ref P.1), (1, .int x1), (2, .int b), (3, .int t), (4, .int u), (5, .int l), (6, .int x6)] [] P κ (fun r ν1 => T1 ζ ρ ω η b ν ν1 ∧ DtR μ ζ ρ b t l ν r ν1) T := by
  have hB := hZ.1
  have hF := h.1.1.1
  rcases h6 with e | ⟨⟨o1, o2, o3⟩, o4, ⟨fn, k, ho⟩ | ⟨mn, k, ho⟩⟩
  · subst e
    exact v_typeDot_109 _ _ _ _ _ _ ⟨fun h0 => absurd h0 (by decide), fun _ => MC.mono (dt_bad hB h e91 (by omega) (by decide) hx1) (fun _ _ g => g) (fun _ h => h)⟩
  · have f0 := fn.in.1
    have k33 := k_33 fn
    have t29 : ¬ ζ.2.1 20 t.toNatClampNeg = 29 := fun e => by
      rcases ot with h | h | h <;> (rw [e] at h; exact absurd h (by decide))
    have ln := (lv_nd hZ hR o1).resolve_left (fun e => by rw [e] at o4; exact absurd o4 (by decide))
    obtain ⟨⟨m, hl⟩, -⟩ := lv_row hZ ln
    refine v_typeDot_109 _ _ _ _ _ _ ⟨fun _ => ⟨fn.mi hB hF rfl rfl, fun _ => ⟨ht.mi hB hF rfl rfl, fun _ => ?_, fun h29 => ?_⟩, fun h34 => ?_⟩, fun h0 => absurd h0 (by omega)⟩
    · refine MC.mono (c_cellsAbove hZ hY hC hR hg hall h.1 hd o1) (fun r1 κ1 h1 => ?_) (fun _ h => h)
      obtain ⟨hQ, m1, hm1⟩ := h1
      have e80 : κ1.1 80 = κ.1 80 := hQ.2.1.1 80 rfl
      rw [e80]
      refine MC.mono (c_levelOf hZ hQ.1.1.1 hQ.1.2.1.1 hR (by omega) o1) (fun r2 κ2 h2 => ?_) (fun _ h => h)
      obtain ⟨e1, e2⟩ := h2
      have e1 := e1.symm
      subst e1
      subst e2
      refine ⟨ln.1.mi hB hQ.1.1.1 rfl rfl, ?_⟩
      rw [hQ.1.1.1.row (g := 23) rfl]
      refine MC.mono (c_offsetIn hB hY hC hg hQ.1 (by omega) (fst_onl ho) hl) (fun r3 κ3 h3 => ?_) (fun _ h => h)
      obtain ⟨hQ3, m3, hm3⟩ := h3
      have hF3 := hQ3.1.1.1
      refine ⟨in_mi hB hF3 bi rfl rfl, fn.mi hB hF3 rfl rfl, ?_⟩
      rw [hF3.row (g := 23) rfl]
      have hT : T1 ζ ρ ω η b ν (mA1 κ3 25 b.toNatClampNeg (r1 + r3)) := ((h.tr hQ.q3.t1).tr hQ3.q3.t1).tr (t1_25 hQ3.1 hs)
      refine MC.mono (c_real hB hT.1.1.1 (by omega) (fl_ty fn)) (fun r6 κ6 h6 => ?_) (fun _ h => h)
      obtain ⟨e1, e2, -⟩ := h6
      have e1 := e1.symm
      subst e1
      refine ⟨hT, Or.inr ⟨?_, Or.inr (Or.inr ⟨⟨ot, ?_⟩, κ.1 80, x6, ⟨o1, o2, o3⟩, ⟨o4, fn, k, ho⟩, ⟨m1, m3, r1, r3, hm1.keep hQ3.2.2, hm3, ?_⟩, e2⟩)⟩⟩
      · show κ3.1 91 = _
        rw [hQ3.2.1.1 91 rfl, hQ.2.1.1 91 rfl]; exact e91
      · show κ3.2.1 24 _ = _
        rw [hQ3.2.1.2.1 24 rfl, hQ.2.1.2.1 24 rfl]; exact e24
      · show upd (κ3.2.1 25) b.toNatClampNeg (r1 + r3) b.toNatClampNeg = _
        exact upd_at
    · rw [hF.row (g := 20) rfl] at h29; exact absurd h29 t29
    · rw [hF.row (g := 20) rfl, k33] at h34; exact absurd h34 (by decide)
  · have f0 := mn.in.1
    have k34 := k_34 mn
    refine v_typeDot_109 _ _ _ _ _ _ ⟨fun _ => ⟨mn.mi hB hF rfl rfl, fun h34 => ?_, fun _ => ⟨fun h5 => ?_, fun h5 => ?_⟩⟩, fun h0 => absurd h0 (by omega)⟩
    · rw [hF.row (g := 20) rfl] at h34; exact absurd k34 h34
    · exact ⟨h.tr (t1_sl h.1 mn), Or.inl ⟨⟨rfl, h5⟩, ⟨ot, e24⟩, ⟨o1, o2, o3⟩, o4, mn, k, ho⟩⟩
    · exact MC.mono (dt_bad hB h e91 (by omega) (by decide) hx1) (fun _ _ g => g) (fun _ h => h)
theorem c_typeDot (hZ : TZ μ ζ) (hY : TY μ ζ) (hC : HoC μ ζ η) (hR : RvO μ ζ ρ) (hg : ag ζ η ∧ bg ζ) (hall : NoRs ζ ρ) (hP : P2 ζ ρ ω η ν) (hd : 1255 ≤ d) {x1 : Int32} (hu : 0 ≤ u.toInt ∧ u.toInt < (μ.1 41).toInt) (hx1 : InN ζ x1) (bi : InN ζ b) (hs : sfx (ζ.2.1 20 b.toNatClampNeg) = true) (ht : RT μ ζ t) : MC X W true d 420 [.ref P.1, .int x1, .int b, .int t, .int u, .int l] P ν (fun r ν1 => T1 ζ ρ ω η b ν ν1 ∧ DtR μ ζ ρ b t l ν r ν1) T := by
  have hB := hZ.1
  have hF := hP.1.1
  refine me_meth (by omega) rfl (v_typeDot_0 _ _ _ _ _ (MC.mono (c_isObject hF (by omega) (ht.mi hB hF rfl rfl)) (fun r1 κ hκ => ?_) (fun _ h => h)))
  obtain ⟨e1, e2⟩ := hκ
  have e1 := e1.symm
  subst e1
  refine ⟨fun h0 => ⟨in_mi hB hF bi rfl rfl, ht.mi hB hF rfl rfl, fun h29 => ?_, fun h29 => ?_⟩, fun h0 => ⟨in_mi hB hF bi rfl rfl, ht.mi hB hF rfl rfl, fun h29 => ?_, fun h29 => ?_⟩⟩
  · have hT : T1 ζ ρ ω η b ν (mA1 ν 24 b.toNatClampNeg 0) := t1_24 hP hs
    refine MC.mono (c_isObject hT.1.1.1 (by omega) (ht.mi hB hT.1.1.1 rfl rfl)) (fun r2 κ hκ => ?_) (fun _ h => h)
    obtain ⟨e1, e3⟩ := hκ
    have e1 := e1.symm
    subst e1
    refine ⟨fun _ => v_typeDot_109 _ _ _ _ _ _ ⟨fun h0 => absurd h0 (by decide), fun _ => MC.mono (dt_bad hB hT rfl (by omega) (by decide) hx1) (fun _ _ g => g) (fun _ h => h)⟩, fun h => absurd (e3.trans (e2.symm.trans h0)) h⟩
  · rw [hF.row (g := 20) rfl] at h29
    have tn := rt_29 ht h29
    have hT : T1 ζ ρ ω η b ν (mA1 ν 24 b.toNatClampNeg 0) := t1_24 hP hs
    obtain ⟨m, hl⟩ := nd_29 tn h29
    refine ⟨tn.mi hB hF rfl rfl, ?_⟩
    rw [hF.row (g := 22) rfl]
    exact dt_41 hB hY hC hg (by omega) hx1 bi hs tn h29 hT rfl upd_at m _ _ hl ⟨0, rfl⟩ (Or.inl rfl)
  · have ot : Ob ζ t := obV_n (by rw [← e2]; exact h0)
    have hT : T1 ζ ρ ω η b ν (mA1 ν 24 b.toNatClampNeg 1) := t1_24 hP hs
    refine MC.mono (c_isObject hT.1.1.1 (by omega) (ht.mi hB hT.1.1.1 rfl rfl)) (fun r2 κ hκ => ?_) (fun _ h => h)
    obtain ⟨e1, e3⟩ := hκ
    have e1 := e1.symm
    subst e1
    refine ⟨fun h => absurd (e2.trans (e3.symm.trans h)) h0, fun _ => ⟨in_mi hB hT.1.1.1 bi rfl rfl, ?_⟩⟩
    rw [hT.1.1.1.row (g := 22) rfl]
    refine MC.mono (c_memberOf hZ hT.1.1.1 hT.1.1.2 hT.1.2.1.1 hR (by omega) hu ht) (fun r3 κ hκ => ?_) (fun _ h => h)
    obtain ⟨⟨a1, a2, a3⟩, a5⟩ := hκ
    have hQ : Q2 ζ ρ ω η (mA1 ν 24 b.toNatClampNeg 1) κ := ⟨hT.1.al a1 a2 a3 rfl rfl rfl rfl, fm_kf a3 rfl, a3.up rfl rfl⟩
    refine dt_obj hZ hY hC hR hg hall (by omega) hx1 bi hs ht ot (hT.tr hQ.q3.t1) ?_ ?_ a5
    · rw [a3.1 91 rfl]; rfl
    · rw [a3.2.1 24 rfl]; exact upd_at
  · exfalso
    rw [hF.row (g := 20) rfl] at h29
    have ot : Ob ζ t := obV_n (by rw [← e2]; exact h0)
    rcases ot with h | h | h <;> (rw [h29] at h; exact absurd h (by decide))
end NNAZ
