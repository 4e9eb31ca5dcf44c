/-! contracts of the reference: types, step by step in the depth -/
/-- what the depth has to bear; how high a tree can get -/
def psT (μ : MS) : Int := 14 * (20 - (μ.1 37).toInt) + 6 * (20 - (μ.1 39).toInt)
def hiT (μ : MS) : Int := 3 * (20 - (μ.1 37).toInt) + 3 * (20 - (μ.1 39).toInt)
/-- a parser's method that answers with a node, within a depth -/
def NodC (X : ev_X) (W : Nat → Prop) (P : MP) (k s : Nat) (rd rh : Int) (d : Nat) : Prop := ∀ (μ : MS) (T : MS → Prop) (h : Nat), PS μ → psT μ + rd ≤ d → hiT μ + rh ≤ h → (μ.1 19).toInt ≤ 2 * (μ.1 32).toInt + 30 → (∀ μ1, kf SPA RPA μ μ1 → T μ1) → MC X W true d k [.ref P.1] P μ (fun r μ1 => PN s h μ r μ1 ∧ CO μ1 (μ.1 19).toInt (μ1.1 19).toInt r) T
/-- the same, of what begins a type -/
def NodB (X : ev_X) (W : Nat → Prop) (P : MP) (k s : Nat) (rd rh : Int) (d : Nat) : Prop := ∀ (μ : MS) (T : MS → Prop) (h : Nat), PS μ → srt μ ∈ bgT → psT μ + rd ≤ d → hiT μ + rh ≤ h → (μ.1 19).toInt ≤ 2 * (μ.1 32).toInt + 30 → (∀ μ1, kf SPA RPA μ μ1 → T μ1) → MC X W true d k [.ref P.1] P μ (fun r μ1 => PN s h μ r μ1 ∧ CO μ1 (μ.1 19).toInt (μ1.1 19).toInt r) T
section PRS
variable {e b n t s : Int} {μ ν : MS}
theorem PR.s39 (h : PR e b n t s μ ν) {x : Int32} {t' : Int} (hx : x.toInt = (μ.1 39).toInt + t') (h0 : 0 ≤ x.toInt) (h1 : x.toInt ≤ 20) : PR e b n t' s μ (mS1 ν 39 x) := by
  obtain ⟨g1, g2, g3, g4, g5, g6, g7, g8, g9⟩ := h
  obtain ⟨k1, k2, k3, k4, k5, k6, k7, k8, k9⟩ := g2
  exact ⟨g1.S rfl, ⟨k1, k2.kf (s := [39]) (r := []) (kf.rf.S rfl) rfl rfl, k3, k4, k5, k6, k7, ⟨h0, h1⟩, k9⟩, g3, g4, g5, g6, g7, hx, g9⟩
theorem PR.s34 (h : PR e b n t s μ ν) {x : Int32} : PR e b n t s μ (mS1 ν 34 x) := by
  obtain ⟨g1, g2, g3, g4, g5, g6⟩ := h
  exact ⟨g1.S rfl, g2.kf (s := [34]) (r := []) (kf.rf.S rfl) rfl rfl rfl rfl rfl rfl rfl rfl, g3, g4, g5, g6⟩
theorem G.S {h s' : Nat} {S : Nat → Prop} {i : Int32} {b' : Nat} {x : Int32} (hG : G ν h S s' i) : G (mS1 ν b' x) h S s' i := G.mono hG (Nat.le_refl _) (fun _ h => h) (fun _ _ _ _ _ => rfl) (fun _ _ _ => rfl)
theorem G.toR {h h' s' : Nat} {lo hi lo' hi' m e' : Int} {t' : Nat} {x : Int32} (hG : G μ h (bt lo hi) s' x) (hh : h ≤ h') (h1 : lo' ≤ lo) (h2 : hi ≤ hi') (ht : (t' : Int) < lo ∨ hi ≤ t') (hr : RB e' m μ ν) (hm : hi ≤ m) (he : e' < lo ∨ hi ≤ e') : G ν h' (fun j => bt lo' hi' j ∧ j ≠ t') s' x :=
  hG.to hh h1 h2 ht (fun g k1 k2 j hj => hr g k1 (by omega) j (by have := hj.2; omega) (by have := hj.1; have := hj.2; omega))
theorem Lst.toR {h h' s' : Nat} {lo hi lo' hi' m e' : Int} {t' q : Nat} {x : Int32} (hL : Lst (G μ h (bt lo hi) s') (μ.2.1 27) q x) (hh : h ≤ h') (h1 : lo' ≤ lo) (h2 : hi ≤ hi') (ht : (t' : Int) < lo ∨ hi ≤ t') (hr : RB e' m μ ν) (hm : hi ≤ m) (he : e' < lo ∨ hi ≤ e') : Lst (G ν h' (fun j => bt lo' hi' j ∧ j ≠ t') s') (ν.2.1 27) q x :=
  hL.to hh h1 h2 ht (fun g k1 k2 j hj => hr g k1 (by omega) j (by have := hj.2; omega) (by have := hj.1; have := hj.2; omega))
end PRS
section PRT
variable {X : ev_X} {W : Nat → Prop} {d : Nat} {P : MP}
theorem st_type (hI : NodB X W P 316 0 13 3 d) : NodC X W P 312 0 9 0 (d + 1) := fun μ T h hS hd hh hn hT => by
  have h0' := hS.2.2.2.2.1
  have b39 := hS.2.2.2.2.2.2.2.1
  have b37 := hS.2.2.2.2.2.1
  unfold psT at hd
  unfold hiT at hh
  refine me_meth (by omega) rfl (v_type_0 (MC.mono (c_beginsType (by omega) hS) (fun r ν hr => ?_) (fun _ h => h)))
  obtain ⟨rfl, hr⟩ := hr
  refine ⟨fun h0 => ⟨fun h20 => ?_, fun _ => MC.mono (c_line (by omega) hS.1 hS.at.1 hS.at.2) (fun r2 ν2 h2 => ?_) (fun _ h => h)⟩, fun _ => MC.mono (c_unfit (by omega) hS hT) (fun _ _ h => h.elim) (fun _ h => h)⟩
  · have h20 := ne_i h20
    rw [show (20 : Int32).toInt = 20 from rfl] at h20
    have e1 : (ν.1 39 + 1).toInt = (ν.1 39).toInt + 1 := ia1 (by omega)
    have p1 : PR (-1) 0 0 1 0 ν (mS1 ν 39 (ν.1 39 + 1)) := (PR.rf hS).s39 e1 (by omega) (by omega)
    refine MC.mono (hI _ _ h p1.2.1 (hr h0) (by show 14 * (20 - (ν.1 37).toInt) + 6 * (20 - (ν.1 39 + 1).toInt) + 13 ≤ _; omega) (by show 3 * (20 - (ν.1 37).toInt) + 3 * (20 - (ν.1 39 + 1).toInt) + 3 ≤ _; omega) hn (fun _ h => hT _ (p1.1.tr h))) (fun r2 ν2 h2 => ?_) (fun _ h => h)
    obtain ⟨⟨q1, q2, q3, q4, q5⟩, qc⟩ := h2
    have p2 : PR (-1) 0 0 1 0 ν ν2 := p1.tr q1 rfl rfl rfl rfl
    have e39 := p2.2.2.2.2.2.2.2.1
    have e2 : (ν2.1 39 - 1).toInt = (ν2.1 39).toInt - 1 := by
      rw [ib (by rw [show (1 : Int32).toInt = 1 from rfl]; omega) (by rw [show (1 : Int32).toInt = 1 from rfl]; omega)]; rfl
    exact ⟨⟨p2.s39 (by omega) (by omega) (by omega), q2, q3, G.S q4, q5⟩, qc.rb (e := -1) RB.S (Int.le_refl _) (Or.inl (by show (-1 : Int) < (ν.1 19).toInt; omega))⟩
  · subst h2
    exact MC.mono (c_first (by omega) hT) (fun _ _ h => h.elim) (fun _ h => h)
/-- a LEVEL that stands alone -/
theorem st_levelAlone (hI : NodB X W P 316 0 13 3 d) : NodC X W P 313 21 14 3 (d + 1) := fun μ T h hS hd hh hn hT => by
  have b39 := hS.2.2.2.2.2.2.2.1
  have b37 := hS.2.2.2.2.2.1
  have hd' : psT μ + 13 ≤ (d : Int) := by omega
  unfold psT at hd
  have fin : ∀ {r : Int32} {ν : MS}, PN 0 h μ r ν ∧ CO ν (μ.1 19).toInt (ν.1 19).toInt r → MI r (ν.2.2 20) ∧ ((ν.2.1 20 r.toNatClampNeg = 32 → PN 21 h μ r ν ∧ CO ν (μ.1 19).toInt (ν.1 19).toInt r) ∧ (¬ ν.2.1 20 r.toNatClampNeg = 32 → MC X W true d 295 [.ref P.1] P ν (fun _ ν1 => PN 21 h μ r ν1 ∧ CO ν1 (μ.1 19).toInt (ν1.1 19).toInt r) T)) := fun {r ν} hp => by
    obtain ⟨⟨q1, q2, q3, q4, q5⟩, qc⟩ := id hp
    obtain ⟨k1, k2, k3⟩ := q4.in
    have hc := @ic r
    have at1 := q1.2.1.at
    refine ⟨q1.mi rfl rfl k1 (by omega), fun h32 => ⟨⟨q1, q2, q3, ?_, q5⟩, qc⟩, fun _ => MC.mono (c_unfit (by omega) q1.2.1 (fun _ h => hT _ (q1.1.tr h))) (fun _ _ h => h.elim) (fun _ h => h)⟩
    cases h with
    | zero => exact q4.elim
    | succ h => exact ⟨q4.1, q4.2.1, by rw [h32]; decide, q4.2.2.2⟩
  refine me_meth (by omega) rfl (v_levelAlone_0 (MC.mono (c_is (by omega) hS) (fun r ν hr => ?_) (fun _ h => h)))
  obtain ⟨rfl, rfl⟩ := hr
  refine ⟨fun h1 => MC.mono (hI _ _ h hS (by rw [is_t h1]; decide) hd' hh hn hT) (fun r2 ν2 h2 => fin h2) (fun _ h => h), fun _ => MC.mono (c_is (by omega) hS) (fun r ν2 hr => ?_) (fun _ h => h)⟩
  obtain ⟨rfl, rfl⟩ := hr
  refine ⟨fun h1 => MC.mono (hI _ _ h hS (by rw [is_t h1]; decide) hd' hh hn hT) (fun r2 ν2 h2 => fin h2) (fun _ h => h), fun _ => MC.mono (c_is (by omega) hS) (fun r ν3 hr => ?_) (fun _ h => h)⟩
  obtain ⟨rfl, rfl⟩ := hr
  exact ⟨fun h1 => MC.mono (hI _ _ h hS (by rw [is_t h1]; decide) hd' hh hn hT) (fun r2 ν2 h2 => fin h2) (fun _ h => h), fun _ => MC.mono (c_unfit (by omega) hS hT) (fun _ _ h => h.elim) (fun _ h => h)⟩
end PRT
