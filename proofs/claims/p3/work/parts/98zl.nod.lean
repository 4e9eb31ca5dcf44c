/-! contracts of the reference: REVEALs -/
/-- a FAULT stays -/
def FM (ν ν1 : MS) : Prop := ¬ ν.1 17 = 0 → ¬ ν1.1 17 = 0
/-- what hangs in the program -/
def HN (μ ζ : MS) : Prop := ∀ x : Int32, InN ζ x → (ζ.2.1 20 x.toNatClampNeg = 28 ∨ ζ.2.1 20 x.toNatClampNeg = 29 ∨ ζ.2.1 20 x.toNatClampNeg = 32 → Nd ζ 0 x) ∧ (ζ.2.1 20 x.toNatClampNeg = 12 → Nd ζ 8 x) ∧ (ζ.2.1 20 x.toNatClampNeg = 3 ∨ ζ.2.1 20 x.toNatClampNeg = 6 → ∃ w, DcO μ w x)
/-- a LEVEL's own type -/
def OwO (μ ζ ν : MS) : Prop := (∀ l : Int32, InN ζ l → ζ.2.1 20 l.toNatClampNeg = 32 → RT μ ζ (ν.2.1 73 l.toNatClampNeg) ∧ Ob ζ (ν.2.1 73 l.toNatClampNeg)) ∧ (ν.1 17 = 0 → ∀ l : Int32, InN ζ l → ζ.2.1 20 l.toNatClampNeg = 32 → lvV ζ (ν.2.1 72) (ν.2.1 73 l.toNatClampNeg) = l)
/-- REVEALs so far -/
def RW (μ ζ ν : MS) : Prop := TF ζ ν ∧ RvO μ ζ (ν.2.1 72) ∧ OwO μ ζ ν
section NNAL
variable {X : ev_X} {W : Nat → Prop} {d : Nat} {P : MP} {μ ν ν0 ν1 κ ζ : MS} {T : MS → Prop} {x y p q a b s t r e u : Int32} {ρ : Nat → Int32} {w c : Nat}
theorem tf_fl {s r : List Nat} (h : TF ζ ν) (k : kf s r ν ν1) (hm : FM ν ν1) (hs : s.all (fun x => TFs.contains x) = true) (hr : r.all (fun x => ([2, 55, 66, 68, 70, 71, 72, 73, 74, 75, 76, 78, 79, 81, 82, 84, 88, 94, 95, 96, 99, 105, 106, 107, 108, 109, 111, 112, 113, 114, 116, 117, 118, 119, 120, 121, 122, 123, 124, 125, 126, 132] : List Nat).contains x) = true) : TF ζ ν1 := by
  have hr' : r.all (fun x => TFr.contains x) = true := by
    rw [List.all_eq_true] at hr ⊢
    intro x hx
    have := hr x hx
    simp only [List.contains_eq_mem, decide_eq_true_eq, List.mem_cons, List.not_mem_nil, or_false] at this ⊢
    omega
  refine ⟨h.1.tr k hs hr', fun e => hm (h.2.1 e), fun j => ?_, fun g hg j => ?_⟩
  · rw [k.2.1 28 (kf_sub hr rfl)]; exact h.2.2.1 j
  · rw [k.2.1 g (kf_sub hr (by rcases hg with e | e | e <;> (rw [e]; rfl)))]; exact h.2.2.2 g hg j
theorem c_ruF {k l : Int32} (hd : 1 ≤ d) (hk : ¬ k = 0) : MC X W true d 290 [.ref P.1, .int k, .int l] P μ (fun _ μ1 => kf [17, 18] [] μ μ1 ∧ ¬ μ1.1 17 = 0) T :=
  MC.mono (c_rule hd) (fun _ _ h => ⟨h.1, h.2.resolve_left hk⟩) (fun _ h => h)
theorem in_eq (hx : InN ζ x) (hy : InN ζ y) (h : x.toNatClampNeg = y.toNatClampNeg) : x = y := i_eq (by have := hx.1; have := hy.1; have := @ic x; have := @ic y; omega)
theorem dk_4 (hx : RT μ ζ x) (h : ζ.2.1 20 x.toNatClampNeg = 4) : Dk μ ζ x := hx.resolve_left (fun g => by
  have hk : ([20, 21, 22, 23, 24, 25, 26, 27, 28, 29, 30, 31, 32] : List Int32).contains (ζ.2.1 20 x.toNatClampNeg) = true := g.1.kind
  rw [h] at hk; exact absurd hk (by decide))
theorem lv_32 (h : ζ.2.1 20 x.toNatClampNeg = 32) : lvV ζ ρ x = x := by unfold lvV; rw [if_pos h]
theorem lv_4 (h : ζ.2.1 20 x.toNatClampNeg = 4) (h0 : 0 ≤ (ρ x.toNatClampNeg).toInt) : lvV ζ ρ x = ζ.2.1 23 (ρ x.toNatClampNeg).toNatClampNeg := by
  unfold lvV
  rw [if_neg (fun e => by rw [h] at e; exact absurd e (by decide)), if_pos ⟨h, h0⟩]
theorem lv_pos (h : 0 ≤ (lvV ζ ρ x).toInt) : ζ.2.1 20 x.toNatClampNeg = 32 ∨ (ζ.2.1 20 x.toNatClampNeg = 4 ∧ 0 ≤ (ρ x.toNatClampNeg).toInt) := by
  unfold lvV at h
  by_cases k : ζ.2.1 20 x.toNatClampNeg = 32
  · exact Or.inl k
  · rw [if_neg k] at h
    by_cases k4 : ζ.2.1 20 x.toNatClampNeg = 4 ∧ 0 ≤ (ρ x.toNatClampNeg).toInt
    · exact Or.inr k4
    · rw [if_neg k4] at h; exact absurd h (by decide)
/-- what revealed answers -/
def RvR (μ ζ ν0 : MS) (ν1 : MS) : Prop := RW μ ζ ν1 ∧ FM ν0 ν1 ∧ kf [17, 18] [72, 73] ν0 ν1
theorem RW.flt (h : RW μ ζ ν) (k : kf [17, 18] [] ν ν1) (hf : ¬ ν1.1 17 = 0) : RvR μ ζ ν ν1 := by
  refine ⟨⟨tf_fl h.1 k (fun _ => hf) rfl rfl, ?_, ?_, fun e => absurd e hf⟩, fun _ => hf, k.up rfl rfl⟩
  · rw [k.2.1 72 rfl]; exact h.2.1
  · rw [k.2.1 73 rfl]; exact h.2.2.1
theorem c_revealed (hB : TB μ ζ) (hW : RW μ ζ ν) (hd : 6 ≤ d) (he : DcO μ w e) : MC X W true d 395 [.ref P.1, .int e] P ν (fun _ ν1 => RvR μ ζ ν ν1) T := by
  have hF := hW.1
  have dcn := hB.dc he
  have h16 := hB.n16
  have em : ∀ {κ : MS} {g : Nat}, TF ζ κ → rk g = true → rlen g = 16000 → MI e (κ.2.2 g) := fun hF hg hr => MI.of ((hF.1.2.2).g hg hr) dcn.1.1 (by have := dcn.1.2; omega)
  have r20 : ν.2.1 20 = ζ.2.1 20 := hF.row rfl
  have r23 : ν.2.1 23 = ζ.2.1 23 := hF.row rfl
  have same : RvR μ ζ ν ν := ⟨hW, fun h => h, kf.rf⟩
  refine me_meth (by omega) rfl (v_revealed_0 _ ⟨em hF rfl rfl, fun k5 => ?_, fun k5 => ⟨em hF rfl rfl, fun k6 => ?_, fun _ => same⟩⟩)
  · rw [r20] at k5
    refine MC.mono (c_opaqueOf hB hF (by omega) he (Or.inl k5)) (fun r1 κ hκ => ?_) (fun _ h => h)
    have e1 := hκ.1.symm
    subst e1
    refine ⟨fun _ => ⟨em hF rfl rfl, fun _ => same, fun h6 => ?_⟩, fun _ => ⟨em hF rfl rfl, MC.mono (c_ruF (by omega) (by decide)) (fun _ κ hκ => hW.flt hκ.1 hκ.2) (fun _ h => h)⟩⟩
    rw [r20, k5] at h6; exact absurd h6 (by decide)
  · rw [r20] at k6
    refine MC.mono (c_opaqueOf hB hF (by omega) he (Or.inr k6)) (fun t κ hκ => ?_) (fun _ h => h)
    obtain ⟨e1, -, ht⟩ := hκ
    have e1 := e1.symm
    subst e1
    refine ⟨fun h0 => ⟨em hF rfl rfl, fun h => absurd (by rw [r20]; exact k6) h, fun _ => ?_⟩, fun _ => ⟨em hF rfl rfl, MC.mono (c_ruF (by omega) (by decide)) (fun _ κ hκ => hW.flt hκ.1 hκ.2) (fun _ h => h)⟩⟩
    obtain ⟨tt, t4⟩ := ht.resolve_left (fun h => by rw [h] at h0; exact absurd h0 (by decide))
    obtain ⟨n1, n2⟩ := hB.rv he k6
    have ti := tt.inn
    have li : InN ζ (ζ.2.1 23 e.toNatClampNeg) := n1.in
    have m73 : MI (ζ.2.1 23 e.toNatClampNeg) (ν.2.2 73) := n1.mi hB hF rfl rfl
    have m72 : MI t (ν.2.2 72) := tt.mi hB hF rfl rfl
    rw [r23]
    have kA : kf [] [73] ν (mA1 ν 73 (ζ.2.1 23 e.toNatClampNeg).toNatClampNeg t) := kf.rf.A rfl
    have own : ∀ (l : Int32), InN ζ l → ζ.2.1 20 l.toNatClampNeg = 32 → RT μ ζ (upd (ν.2.1 73) (ζ.2.1 23 e.toNatClampNeg).toNatClampNeg t l.toNatClampNeg) ∧ Ob ζ (upd (ν.2.1 73) (ζ.2.1 23 e.toNatClampNeg).toNatClampNeg t l.toNatClampNeg) := fun l hl kl => by
      by_cases c : l.toNatClampNeg = (ζ.2.1 23 e.toNatClampNeg).toNatClampNeg
      · rw [c, upd_at]; exact ⟨tt, Or.inr (Or.inr t4)⟩
      · rw [upd_off c]; exact hW.2.2.1 l hl kl
    have hF' := hF.kf kA rfl rfl
    refine ⟨em hF rfl rfl, m73, m72, fun hr => ⟨em hF rfl rfl, MC.mono (c_ruF (by omega) (by decide)) (fun _ κ hκ => ?_) (fun _ h => h)⟩, fun hr => ⟨m72, ?_⟩⟩
    · obtain ⟨k1, k2⟩ := hκ
      refine ⟨⟨tf_fl hF' k1 (fun _ => k2) rfl rfl, ?_, ?_, fun e => absurd e k2⟩, fun _ => k2, (kA.up (s' := [17, 18]) (r' := [72, 73]) rfl rfl).tr (k1.up rfl rfl)⟩
      · rw [k1.2.1 72 rfl]; exact hW.2.1
      · rw [k1.2.1 73 rfl]; exact own
    · have hr : (ν.2.1 72 t.toNatClampNeg).toInt < 0 := hr
      have kB : kf [] [72, 73] ν (mA1 (mA1 ν 73 (ζ.2.1 23 e.toNatClampNeg).toNatClampNeg t) 72 t.toNatClampNeg e) := (kf.rf.A rfl).A rfl
      refine ⟨⟨hF.kf kB rfl rfl, fun j hj => ?_, own, fun h17 l hl kl => ?_⟩, fun h => h, kB.up rfl rfl⟩
      · show upd (ν.2.1 72) t.toNatClampNeg e j = -1 ∨ (ζ.2.1 20 (upd (ν.2.1 72) t.toNatClampNeg e j).toNatClampNeg = 6 ∧ ∃ w, DcO μ w (upd (ν.2.1 72) t.toNatClampNeg e j))
        by_cases c : j = t.toNatClampNeg
        · rw [c, upd_at]; exact Or.inr ⟨k6, w, he⟩
        · rw [upd_off c]; exact hW.2.1 j hj
      · show lvV ζ (upd (ν.2.1 72) t.toNatClampNeg e) (upd (ν.2.1 73) (ζ.2.1 23 e.toNatClampNeg).toNatClampNeg t l.toNatClampNeg) = l
        have h17 : ν.1 17 = 0 := h17
        by_cases c : l.toNatClampNeg = (ζ.2.1 23 e.toNatClampNeg).toNatClampNeg
        · rw [c, upd_at, lv_4 t4 (by rw [upd_at]; exact dcn.1.1), upd_at]
          exact in_eq li hl c.symm
        · rw [upd_off c]
          have old := hW.2.2.2 h17 l hl kl
          have hp : 0 ≤ (lvV ζ (ν.2.1 72) (ν.2.1 73 l.toNatClampNeg)).toInt := by rw [old]; exact hl.1
          rcases lv_pos hp with k | ⟨k, k0⟩
          · rw [lv_32 k] at old ⊢; exact old
          · have ct : ¬ (ν.2.1 73 l.toNatClampNeg).toNatClampNeg = t.toNatClampNeg := fun e => by rw [e] at k0; omega
            rw [lv_4 k k0] at old
            rw [lv_4 k (by rw [upd_off ct]; exact k0), upd_off ct]
            exact old
end NNAL
