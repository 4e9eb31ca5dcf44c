/-- the tables are as they should be -/
def ev_TabOk (cl : List vw_C) (tl : List FieldType) (ol : List String) (nl : List (String × Nat × MethodName × String)) (df : Nat → List Value) (mt : Nat → ev_M) (tb : Nat → Nat → Option ev_I) : Prop :=
  ∀ k pc x, tb k pc = some x → decode (mt k).2.2.1 pc = .ok (x.1, x.2.1) ∧ ev_hk cl tl ol df (mt k).2.1 (mt k).1.name (mt k).2.2.2.2.2 x.1 x.2.2.1 x.2.2.2.1 x.2.2.2.2.1 x.2.2.2.2.2 ∧ ev_ck cl nl mt (mt k).2.1 (mt k).2.2.2.2.2 x.1 x.2.2.1 x.2.2.2.1 x.2.2.2.2.1 x.2.2.2.2.2
def ev_MetOk (mt : Nat → ev_M) : Prop := ∀ k, (∃ ws', (mt k).2.2.2.2.2 = .code (mt k).1 (mt k).2.2.1 (mt k).2.2.2.1 (mt k).2.2.2.2.1 :: ws') ∧ plainName (mt k).1.cls = true ∧ (mt k).2.1 = (mt k).1.cls ∧ (mt k).2.2.2.1 ≤ 40
theorem ev_sl_len (B : ev_B) : ∀ (as : List Value), (lg_sl (as.map (ev_v B))).length = (lg_sl as).length
  | [] => rfl
  | v :: vs => by
    have ih := ev_sl_len B vs
    unfold lg_sl at ih ⊢
    rw [List.map_cons, List.flatMap_cons, List.flatMap_cons, List.length_append, List.length_append, ih]
    cases v with
    | retAddr i =>
      show (match va_rf (B.2.2 i) with | _ => _) = _
      rw [show ev_v B (.retAddr i) = va_rf (B.2.2 i) from rfl]
      cases B.2.2 i <;> rfl
    | _ => rfl
theorem ev_sound {l : Launch} {D : va_G} {cl : List vw_C} {dA : Nat → ClassId} {tl : List FieldType} {ol : List String} {nl : List (String × Nat × MethodName × String)} {oc : Nat → Nat} {df : Nat → List Value} {mt : Nat → ev_M} {tb : Nat → Nat → Option ev_I} {X : Nat → Nat → List Value → Nat → ev_T → ev_O → ev_S → Prop} {B : ev_B}
    (hdf : ∀ a, ∀ v ∈ df a, ev_nf v = true) (htl0 : tl[0]? = some .int) (htl1 : tl[1]? = some .byte) (hoc : ∀ j, 2 ≤ j → j < tl.length → cl[oc j]? = none ∨ ∃ r : vw_C, cl[oc j]? = some r ∧ tl[j]? = some (.object r.1)) (hT : ev_TabOk cl tl ol nl df mt tb) (hM : ev_MetOk mt)
    (hX : ∀ d k as sz t r τ, X d k as sz t r τ → ev_Met l D cl dA tl ol nl mt B d k as sz t r τ) :
    ∀ d k as sz t r τ, ev_C tl oc df mt tb X d k as sz t r τ → ev_Met l D cl dA tl ol nl mt B d k as sz t r τ := by
  intro d
  induction d with
  | zero => intro k as sz t r τ h; exact h.elim
  | succ d ih =>
    intro k as sz t r τ h
    rcases h with h | ⟨hle, n, h⟩
    · exact hX _ _ _ _ _ _ _ h
    obtain ⟨⟨ws', hw⟩, hpl, hown', hmx⟩ := hM k
    have hlen := ev_sl_len B as
    have hmt : mt k = (⟨(mt k).1.cls, (mt k).1.name, (mt k).1.desc⟩, (mt k).1.cls, (mt k).2.2.1, (mt k).2.2.2.1, (mt k).2.2.2.2.1, (mt k).2.2.2.2.2) := Prod.ext rfl (Prod.ext hown' rfl)
    cases r with
    | inl r =>
      refine Met.ofW (cc := (mt k).2.2.1) (maxL := (mt k).2.2.2.1) (ret := (mt k).2.2.2.2.1) hpl hw ?_
      intro p e s m args below meth c s₁ BL hml hv
      obtain ⟨rfl, hR, hN, hZ⟩ := hv
      have hown : s.vm.findClass (mt k).1.cls = some m.cls := findClass_of_methodNamed BL.named
      have hl := lv_entry (as.map (ev_v B)) (n := (mt k).2.2.2.1) (by rw [hlen]; exact Nat.le_of_ble_eq_true hle)
      rw [lg_entry_eq]
      rw [ev_args_B] at hl
      have hgo := ev_Lp_ok (R := (headSpec (mt k).2.2.2.2.2 (ev_rm (d + 1) τ.2.2.1 τ.2.2.2)).room) (below := below) (meth := meth) (args := (as.map (ev_v B)).toArray) (e := e) (p := p) hmt BL.exec BL.bytes hml BL.returns BL.notSynchronized (atoms_spec (ws := (mt k).2.2.2.2.2) BL.pre) hown (name_of_methodNamed BL.named BL.method).1 hN hdf htl0 htl1 hoc hT hM (ih) (Nat.le_refl _) (Nat.le_refl _) hZ n 0 (lv_args 0 as) [] (sz, t, 0, 0) (.inl r) τ (fun ci h => by cases h) h
      exact hgo.2.2 (Nat.le_refl _) (Nat.le_refl _) s.heap [] _ hl ⟨hR, va_S.rf⟩
    | inr ci =>
      refine vx_ofW (cc := (mt k).2.2.1) (maxL := (mt k).2.2.2.1) (ret := (mt k).2.2.2.2.1) hpl hw ?_
      intro p e s m args below meth c s₁ BL hml htab hv
      obtain ⟨rfl, hR, hN, hZ⟩ := hv
      have hown : s.vm.findClass (mt k).1.cls = some m.cls := findClass_of_methodNamed BL.named
      have hl := lv_entry (as.map (ev_v B)) (n := (mt k).2.2.2.1) (by rw [hlen]; exact Nat.le_of_ble_eq_true hle)
      rw [lg_entry_eq]
      rw [ev_args_B] at hl
      have hgo := ev_Lp_ok (R := (headSpec (mt k).2.2.2.2.2 (ev_rm (d + 1) τ.2.2.1 τ.2.2.2)).room) (below := below) (meth := meth) (args := (as.map (ev_v B)).toArray) (e := e) (p := p) hmt BL.exec BL.bytes hml BL.returns BL.notSynchronized (atoms_spec (ws := (mt k).2.2.2.2.2) BL.pre) hown (name_of_methodNamed BL.named BL.method).1 hN hdf htl0 htl1 hoc hT hM (ih) (Nat.le_refl _) (Nat.le_refl _) hZ n 0 (lv_args 0 as) [] (sz, t, 0, 0) (.inr ci) τ (fun _ _ => htab) h
      exact hgo.2.2 (Nat.le_refl _) (Nat.le_refl _) s.heap [] _ hl ⟨hR, va_S.rf⟩
