def ev_fl : List String := ["(D)D", "(DD)D", "(DDD)D", "(F)F", "(FF)F", "(FFF)F"]
theorem ev_flR : (Jvm.natives.all fun r => r.cls != "java/lang/Math" || ev_fl.contains r.desc) = true := by decide +kernel
theorem ev_math {x : MethodName} (hc : x.cls = "java/lang/Math") (hd : ev_fl.contains x.desc = false) : plainFor x = true := by
  unfold plainFor
  rw [Bool.or_eq_true]; right
  rw [Option.isNone_iff_eq_none, NativeRow.find?, List.find?_eq_none]
  intro r hr h
  have h9 := List.all_eq_true.mp ev_flR r hr
  simp only [Bool.and_eq_true, beq_iff_eq] at h
  rw [h.1.2, h.2, hc, hd] at h9
  simp at h9
/-- the tables are as they should be -/
def ev_TabOk (cl : List vw_C) (tl : List FieldType) (ol : List String) (nl : List (String × Nat × MethodName × String)) (df : Nat → List Value) (mt : Nat → ev_M) (tb : Nat → Nat → Option ev_I) : Prop :=
  ∀ k pc x, tb k pc = some x → decode (mt k).2.2.1 pc = .ok (x.1, x.2.1) ∧ ev_hk cl tl ol df (mt k).2.1 (mt k).1.name (mt k).2.2.2.2.2 x.1 x.2.2.1 x.2.2.2.1 x.2.2.2.2.1 x.2.2.2.2.2 ∧ ev_ck cl nl mt (mt k).2.1 (mt k).2.2.2.2.2 x.1 x.2.2.1 x.2.2.2.1 x.2.2.2.2.1 x.2.2.2.2.2
def ev_MetOk (mt : Nat → ev_M) (hd : Nat → Option ev_H) : Prop := ∀ k, (∃ ws', (mt k).2.2.2.2.2 = ev_hw mt hd k :: ws') ∧ plainFor (mt k).1 = true ∧ (mt k).2.1 = (mt k).1.cls ∧ (mt k).2.2.2.1 ≤ 40 ∧ ∀ x, hd k = some x → x.2.2.2 ≠ 0 ∧ Cond.classLink (mt k).2.1 x.2.2.2 "LevelUnitsModel$Stop" ∈ (mt k).2.2.2.2.2
theorem ev_sl_len (B : ev_B) : ∀ (as : List Value), (lg_sl (as.map (ev_v B))).length = (lg_sl as).length
  | [] => rfl
  | v :: vs => by
    have ih := ev_sl_len B vs
    unfold lg_sl at ih ⊢
    rw [List.map_cons, List.flatMap_cons, List.flatMap_cons, List.length_append, List.length_append, ih]
    cases v with
    | retAddr i =>
      show (match va_rf (B.2.2 i) with | _ => _) = _
      rw [show ev_v B (.retAddr i) = va_rf (B.2.2 i) from rfl]
      cases B.2.2 i <;> rfl
    | _ => rfl
theorem ev_ofW {l : Launch} {y : MethodName} {ws ws' : List Cond} {rm : Room} {Pc : Array Value → State → Prop} {Qc : Array Value → State → Outcome → State → Prop} {mc ms : Nat} {free : Addr → Prop} {cc : ByteArray} {maxL : Nat} {ret : Option FieldType}
    (hy : plainFor y = true) (hw : ws = Cond.code y cc maxL ret :: ws')
    (body : ∀ p e s m args below meth c s₁, BodyLoose p l y (headSpec ws rm) cc maxL ret e s m args below meth c s₁ → c.maxLocals = maxL → Pc args s →
      W p l e (headSpec ws rm).room s m args below meth c s.heap [] 0 0 (MQ below Qc args s mc ms free) (entryFrame m args maxL)) : Met l y ws rm Pc Qc mc ms free := by
  refine MetFree.of_bodySF (code := cc) (maxLocals := maxL) (ret := ret) hy ?_ ?_
  · intro args s m h hn
    obtain ⟨meth, c, h1, h2, h3, h4, h5, h6, -, -⟩ := Cond.code_spec hn (atoms_spec (ws := ws) h _ (by rw [hw]; exact List.mem_cons_self))
    exact ⟨meth, c, h1, h2, h3, h4, h5, h6⟩
  · intro p e s m args below meth c s₁ B hml hP _
    have hh0 : s₁.heap = s.heap := by rw [B.state]; rfl
    obtain ⟨t, a1, o, b1, b2, b3⟩ := body p e s m args below meth c s₁ B hml hP s₁ hh0 (Stand.of_body B)
    exact ⟨t, o, a1, b1, b2, ⟨b3.1, b3.2⟩⟩
theorem ev_ofWH {l : Launch} {y : MethodName} {ws ws' : List Cond} {rm : Room} {Pc : Array Value → State → Prop} {Qc : Array Value → State → Outcome → State → Prop} {mc ms : Nat} {free : Addr → Prop} {cc : ByteArray} {maxL : Nat} {ret : Option FieldType} {hh : List (Nat × Nat × Nat × Nat)}
    (hy : plainFor y = true) (hw : ws = Cond.codeWith y cc maxL ret hh :: ws')
    (body : ∀ p e s m args below meth c s₁, BodyLoose p l y (headSpec ws rm) cc maxL ret e s m args below meth c s₁ → c.maxLocals = maxL → Pc args s →
      W p l e (headSpec ws rm).room s m args below meth c s.heap [] 0 0 (MQ below Qc args s mc ms free) (entryFrame m args maxL)) : Met l y ws rm Pc Qc mc ms free := by
  refine MetFree.of_bodySF (code := cc) (maxLocals := maxL) (ret := ret) hy ?_ ?_
  · intro args s m h hn
    obtain ⟨m9, meth, c, hn9, h1, h2, h3, h4, -, h5, h6, -⟩ := Cond.codeWith_spec (atoms_spec (ws := ws) h _ (by rw [hw]; exact List.mem_cons_self))
    cases hn.symm.trans hn9
    exact ⟨meth, c, h1, h2, h3, h4, h5, h6⟩
  · intro p e s m args below meth c s₁ B hml hP _
    have hh0 : s₁.heap = s.heap := by rw [B.state]; rfl
    obtain ⟨t, a1, o, b1, b2, b3⟩ := body p e s m args below meth c s₁ B hml hP s₁ hh0 (Stand.of_body B)
    exact ⟨t, o, a1, b1, b2, b3⟩
/-- a method with a handler throws nothing here -/
theorem ev_Lp_hd {tl : List FieldType} {oc : Nat → Nat} {df : Nat → List Value} {mt : Nat → ev_M} {tb : Nat → Nat → Option ev_I} {hd : Nat → Option ev_H} {C : Nat → List Value → Nat → ev_T → ev_O → ev_S → Prop} {k ci : Nat} {x9 : ev_H} (hh : hd k = some x9) : ∀ (n pc : Nat) (lv : ev_L) (st : List Value) (σ : ev_S) (o : ev_O) (σ' : ev_S), ev_Lp tl oc df mt tb hd C k n pc lv st σ o σ' → o = .inr ci → False
  | 0, _, _, _, _, _, _, h, _ => h
  | n + 1, pc, lv, st, σ, o, σ', h, ho => by
    unfold ev_Lp at h
    split at h
    · exact h
    rcases h with ⟨pc1, st1, h1, h2⟩ | ⟨pc1, lv1, st1, h1, h2⟩ | ⟨pc1, st1, σ1, h1, h2⟩ | ⟨st1, h1, h2⟩ | ⟨v, h1, h3, h2⟩ | ⟨as, rest, v, τ, h1, h2, h3⟩ | ⟨as, rest, ci, τ, ix, h0, h1, h2, hh9, h4, h3⟩ | ⟨q, rest, ci, fs, g1, g2, g3, hq, hh9, g4, g5⟩ | ⟨as, rest, τ, ix, x9, k4, e9, h0, h1, h2, hh8, g7, g8, g9, e9a, e9b, g10, h3⟩
    · exact ev_Lp_hd hh n _ _ _ _ _ _ h2 ho
    · exact ev_Lp_hd hh n _ _ _ _ _ _ h2 ho
    · exact ev_Lp_hd hh n _ _ _ _ _ _ h2 ho
    · exact ev_Lp_hd hh n _ _ _ _ _ _ h2 ho
    · rw [h3] at ho; cases ho
    · exact ev_Lp_hd hh n _ _ _ _ _ _ h3 ho
    · rw [hh] at hh9; cases hh9
    · rw [hh] at hh9; cases hh9
    · exact ev_Lp_hd hh n _ _ _ _ _ _ h3 ho
theorem ev_sound {l : Launch} {D : va_G} {cl : List vw_C} {dA : Nat → ClassId} {tl : List FieldType} {ol : List String} {nl : List (String × Nat × MethodName × String)} {oc : Nat → Nat} {df : Nat → List Value} {mt : Nat → ev_M} {tb : Nat → Nat → Option ev_I} {hd : Nat → Option ev_H} {X : Nat → Nat → List Value → Nat → ev_T → ev_O → ev_S → Prop} {B : ev_B}
    (hdf : ∀ a, ∀ v ∈ df a, ev_nf v = true) (htl0 : tl[0]? = some .int) (htl1 : tl[1]? = some .byte) (htl6 : tl[6]? = some .boolean) (hoc : ∀ j, 2 ≤ j → j < tl.length → cl[oc j]? = none ∨ ∃ r : vw_C, cl[oc j]? = some r ∧ tl[j]? = some (.object r.1)) (hT : ev_TabOk cl tl ol nl df mt tb) (hM : ev_MetOk mt hd) (h12 : ∃ r : vw_C, cl[12]? = some r ∧ r.1 = "LevelUnitsModel$Stop")
    (hX : ∀ d k as sz t r τ, X d k as sz t r τ → ev_Met l D cl dA tl ol nl mt B d k as sz t r τ) :
    ∀ d k as sz t r τ, ev_C tl oc df mt tb hd X d k as sz t r τ → ev_Met l D cl dA tl ol nl mt B d k as sz t r τ := by
  intro d
  induction d with
  | zero => intro k as sz t r τ h; exact h.elim
  | succ d ih =>
    intro k as sz t r τ h
    rcases h with h | ⟨hle, n, h⟩
    · exact hX _ _ _ _ _ _ _ h
    obtain ⟨⟨ws', hw⟩, hpl, hown', hmx, -⟩ := hM k
    unfold ev_hw at hw
    have hlen := ev_sl_len B as
    have hmt : mt k = (⟨(mt k).1.cls, (mt k).1.name, (mt k).1.desc⟩, (mt k).1.cls, (mt k).2.2.1, (mt k).2.2.2.1, (mt k).2.2.2.2.1, (mt k).2.2.2.2.2) := Prod.ext rfl (Prod.ext hown' rfl)
    cases hh : hd k with
    | none =>
      rw [hh] at hw
      cases r with
      | inl r =>
        refine ev_ofW (cc := (mt k).2.2.1) (maxL := (mt k).2.2.2.1) (ret := (mt k).2.2.2.2.1) hpl hw ?_
        intro p e s m args below meth c s₁ BL hml hv
        obtain ⟨rfl, hR, hN, hZ⟩ := hv
        have hown : s.vm.findClass (mt k).1.cls = some m.cls := findClass_of_methodNamed BL.named
        have hl := lv_entry (as.map (ev_v B)) (n := (mt k).2.2.2.1) (by rw [hlen]; exact Nat.le_of_ble_eq_true hle)
        rw [lg_entry_eq]
        rw [ev_args_B] at hl
        have hgo := ev_Lp_ok (R := (headSpec (mt k).2.2.2.2.2 (ev_rm (d + 1) τ.2.2.1 τ.2.2.2)).room) (below := below) (meth := meth) (args := (as.map (ev_v B)).toArray) (e := e) (p := p) hmt BL.exec BL.bytes hml BL.returns BL.notSynchronized (atoms_spec (ws := (mt k).2.2.2.2.2) BL.pre) hown (name_of_methodNamed BL.named BL.method).1 hN hdf htl0 htl1 htl6 hoc hT hM h12 (fun x h => by rw [hh] at h; cases h) (ih) (Nat.le_refl _) (Nat.le_refl _) hZ n 0 (lv_args 0 as) [] (sz, t, 0, 0) (.inl r) τ (fun ci h => by cases h) h
        exact hgo.2.2 (Nat.le_refl _) (Nat.le_refl _) s.heap [] _ hl ⟨hR, va_S.rf⟩
      | inr ci =>
        refine vx_ofW (cc := (mt k).2.2.1) (maxL := (mt k).2.2.2.1) (ret := (mt k).2.2.2.2.1) hpl hw ?_
        intro p e s m args below meth c s₁ BL hml htab hv
        obtain ⟨rfl, hR, hN, hZ⟩ := hv
        have hown : s.vm.findClass (mt k).1.cls = some m.cls := findClass_of_methodNamed BL.named
        have hl := lv_entry (as.map (ev_v B)) (n := (mt k).2.2.2.1) (by rw [hlen]; exact Nat.le_of_ble_eq_true hle)
        rw [lg_entry_eq]
        rw [ev_args_B] at hl
        have hgo := ev_Lp_ok (R := (headSpec (mt k).2.2.2.2.2 (ev_rm (d + 1) τ.2.2.1 τ.2.2.2)).room) (below := below) (meth := meth) (args := (as.map (ev_v B)).toArray) (e := e) (p := p) hmt BL.exec BL.bytes hml BL.returns BL.notSynchronized (atoms_spec (ws := (mt k).2.2.2.2.2) BL.pre) hown (name_of_methodNamed BL.named BL.method).1 hN hdf htl0 htl1 htl6 hoc hT hM h12 (fun x h => by rw [hh] at h; cases h) (ih) (Nat.le_refl _) (Nat.le_refl _) hZ n 0 (lv_args 0 as) [] (sz, t, 0, 0) (.inr ci) τ (fun _ _ => htab) h
        exact hgo.2.2 (Nat.le_refl _) (Nat.le_refl _) s.heap [] _ hl ⟨hR, va_S.rf⟩
    | some x9 =>
      rw [hh] at hw
      cases r with
      | inl r =>
        refine ev_ofWH (cc := (mt k).2.2.1) (maxL := (mt k).2.2.2.1) (ret := (mt k).2.2.2.2.1) (hh := [x9]) hpl hw ?_
        intro p e s m args below meth c s₁ BL hml hv
        obtain ⟨rfl, hR, hN, hZ⟩ := hv
        have hown : s.vm.findClass (mt k).1.cls = some m.cls := findClass_of_methodNamed BL.named
        have hts := atoms_spec (ws := (mt k).2.2.2.2.2) BL.pre
        have hex := vx_table (x := (mt k).1) (hh := [x9]) BL (hts _ (by rw [hw]; exact List.mem_cons_self))
        have hl := lv_entry (as.map (ev_v B)) (n := (mt k).2.2.2.1) (by rw [hlen]; exact Nat.le_of_ble_eq_true hle)
        rw [lg_entry_eq]
        rw [ev_args_B] at hl
        have hgo := ev_Lp_ok (R := (headSpec (mt k).2.2.2.2.2 (ev_rm (d + 1) τ.2.2.1 τ.2.2.2)).room) (below := below) (meth := meth) (args := (as.map (ev_v B)).toArray) (e := e) (p := p) hmt BL.exec BL.bytes hml BL.returns BL.notSynchronized hts hown (name_of_methodNamed BL.named BL.method).1 hN hdf htl0 htl1 htl6 hoc hT hM h12 (fun x h => by rw [hh] at h; cases h; rw [hex]; rfl) (ih) (Nat.le_refl _) (Nat.le_refl _) hZ n 0 (lv_args 0 as) [] (sz, t, 0, 0) (.inl r) τ (fun ci h => by cases h) h
        exact hgo.2.2 (Nat.le_refl _) (Nat.le_refl _) s.heap [] _ hl ⟨hR, va_S.rf⟩
      | inr ci => exact (ev_Lp_hd hh n _ _ _ _ _ _ h rfl).elim
