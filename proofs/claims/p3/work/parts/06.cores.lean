def ev_rm (d mc ms : Nat) : Room := { frames := d + 8, cells := mc, slots := ms, locals := (d + 8) * 60 }
def ev_Pc (D : va_G) (cl : List vw_C) (dA : Nat → ClassId) (tl : List FieldType) (ol : List String) (nl : List (String × Nat × MethodName × String)) (B : ev_B) (sz : Nat) (t : ev_T) : State → Prop := fun U => ev_R D cl dA B t sz U.heap ∧ ev_N D cl dA tl ol nl U ∧ ev_Z B.1 B.2.2 U
def ev_Qc (D : va_G) (cl : List vw_C) (dA : Nat → ClassId) (B : ev_B) (r : Option Value) (τ : ev_S) : Array Value → State → Outcome → State → Prop := fun _ st oc u => oc = .returned (r.map (ev_v B)) ∧ ev_R D cl dA B τ.2.1 τ.1 u.heap ∧ va_F (ev_A B) st u
/-- the world behind a throw -/
def ev_XC (D : va_G) (cl : List vw_C) (dA : Nat → ClassId) (B : ev_B) (ci : Nat) (τ : ev_S) : String → State → State → Prop := fun E st u => (∃ r : vw_C, cl[ci]? = some r ∧ E = r.1) ∧ ev_R D cl dA B τ.2.1 τ.1 u.heap ∧ va_F (ev_A B) st u
def ev_Met (l : Launch) (D : va_G) (cl : List vw_C) (dA : Nat → ClassId) (tl : List FieldType) (ol : List String) (nl : List (String × Nat × MethodName × String)) (mt : Nat → ev_M) (B : ev_B) (d k : Nat) (as : List Value) (sz : Nat) (t : ev_T) (o : ev_O) (τ : ev_S) : Prop := match o with
  | .inl r => Met l (mt k).1 (mt k).2.2.2.2.2 (ev_rm d τ.2.2.1 τ.2.2.2) (va_Pc (as.map (ev_v B)) (ev_Pc D cl dA tl ol nl B sz t)) (ev_Qc D cl dA B r τ) τ.2.2.1 τ.2.2.2 (ev_A B)
  | .inr ci => vx_Met l (mt k).1 (mt k).2.2.2.2.2 (ev_rm d τ.2.2.1 τ.2.2.2) (va_Pc (as.map (ev_v B)) (ev_Pc D cl dA tl ol nl B sz t)) (fun _ _ _ _ => False) (ev_XC D cl dA B ci τ) τ.2.2.1 τ.2.2.2 (ev_A B)
/-- how a method's run ends -/
def ev_FQ (below : List Frame) (D : va_G) (cl : List vw_C) (dA : Nat → ClassId) (B : ev_B) (args : Array Value) (s : State) (o : ev_O) (τ : ev_S) : State → Prop := match o with
  | .inl r => MQ below (ev_Qc D cl dA B r τ) args s τ.2.2.1 τ.2.2.2 (ev_A B)
  | .inr ci => vx_MQ below (fun _ _ _ _ => False) (ev_XC D cl dA B ci τ) args s τ.2.2.1 τ.2.2.2 (ev_A B)
theorem ev_N.moved {D : va_G} {cl : List vw_C} {dA : Nat → ClassId} {tl : List FieldType} {ol : List String} {nl : List (String × Nat × MethodName × String)} {s U : State} (hW : s.WarmedH U.vm) (h : ev_N D cl dA tl ol nl s) : ev_N D cl dA tl ol nl U :=
  ⟨va_K.moved hW.alike h.1, fun C hC => va_AO.moved hW.alike (h.2.1 C hC), fun q hq => va_Nw.warmM hW (h.2.2.1 q hq), va_Nw.warmC hW h.2.2.2⟩
theorem ev_blind {D : va_G} {cl : List vw_C} {dA : Nat → ClassId} {tl : List FieldType} {ol : List String} {nl : List (String × Nat × MethodName × String)} {B : ev_B} {sz : Nat} {t : ev_T} {as : List Value} : FrameBlind (va_Pc as (ev_Pc D cl dA tl ol nl B sz t)) := fun a U g mk h =>
  ⟨h.1, h.2.1, ⟨va_K.moved (u := U) (U := U.calling g mk a) (Vm.Alike.refl U.vm) h.2.2.1.1, fun C hC => va_AO.moved (u := U) (U := U.calling g mk a) (Vm.Alike.refl U.vm) (h.2.2.1.2.1 C hC), fun q hq => va_Nw.same (u := U) rfl rfl (h.2.2.1.2.2.1 q hq), va_Nw.same (u := U) rfl rfl h.2.2.1.2.2.2⟩, ev_Z.calling h.2.2.2⟩
section EVS
variable {p : Program} {l : Launch} {e : Env} {R : Room} {s : State} {m : MethodId} {args : Array Value} {below : List Frame} {meth : Method} {c : Code} {H : Heap} {locs : List Loc} {cells slots : Nat} {Q : State → Prop}
variable {D : va_G} {cl : List vw_C} {dA : Nat → ClassId} {tl : List FieldType} {ol : List String} {nl : List (String × Nat × MethodName × String)} {oc : Nat → Nat} {df : Nat → List Value} {mt : Nat → ev_M} {tb : Nat → Nat → Option ev_I} {hd : Nat → Option ev_H}
theorem ev_goes {pc : Nat} {ls : Array Slot} {st0 rest : List Value} {a : Array Value} {mc ms : Nat} {B : ev_B} {r : Option Value} {t : ev_T} {sz : Nat} {τ : ev_S} (hr : va_Run p l e R s m args below meth c H locs cells slots mc ms (F0 m pc ls st0) rest (ev_Qc D cl dA B r τ a) (ev_A B)) (hI : ev_In D cl dA B s.heap H locs t sz)
    (kk : ∀ (H1 : Heap) (locs1 : List Loc), ev_In D cl dA B s.heap H1 locs1 τ.2.1 τ.1 → W p l e R s m args below meth c H1 locs1 (cells + mc) (slots + ms) Q (F0 m (pc + 3) ls ((r.map (ev_v B)).toList ++ rest))) : W p l e R s m args below meth c H locs cells slots Q (F0 m pc ls st0) := by
  intro T hT X
  obtain ⟨v, st₀, t, T', L, h0, X', hL, e1, e2, ⟨hv, hR, hz, hk⟩, st⟩ := hr T hT X
  cases hv
  rw [h0] at hz hk
  obtain ⟨t2, a1, b1⟩ := kk T'.heap (locs ++ L) ⟨by rw [e1]; exact hR, Nat.le_trans hI.2.1 (by rw [e1]; exact hz), fun q h1 h2 => by rw [e1, hk q (Nat.lt_of_lt_of_le h1 hI.2.1) h2]; exact hI.2.2.1 q h1 h2, fun q hq => by
      rcases List.mem_append.mp hq with h | h
      · exact hI.2.2.2 q h
      · exact hL q h⟩ T' rfl X'
  exact ⟨t2, st t2 a1, b1⟩
theorem ev_xh_le {i : Instr} {len a b tg pc pc' : Nat} {k : Int} {st st' : List Value} {σ σ' : ev_S} (h : ev_xh tl oc df i len a b tg k pc st σ = some (pc', st', σ')) : σ.2.2.1 ≤ σ'.2.2.1 ∧ σ.2.2.2 ≤ σ'.2.2.2 := by
  unfold ev_xh at h
  repeat' (split at h)
  all_goals first
    | (replace h := (ev_if_ok h).2; cases h; exact ⟨by simp, by simp⟩)
    | (rw [Bool.cond_eq_ite] at h; split at h <;> (replace h := (ev_if_ok h).2; cases h; exact ⟨by simp, by simp⟩))
    | cases h
theorem ev_room {pc : Nat} {ls : Array Slot} {rest r0 : List Value} {B : ev_B} (h : Nat.ble (ev_cat rest) 8 = true) : 2 * (F0 m pc ls r0).monitorRoom + ((rest.map (ev_v B)).map fun v => v.category).sum ≤ 8 := lv_room (by rw [ev_cat_ok]; exact Nat.le_of_ble_eq_true h)
theorem ev_goesX {pc : Nat} {ls : Array Slot} {st0 rest : List Value} {mc ms ci : Nat} {B : ev_B} {t : ev_T} {sz : Nat} {τ σ' : ev_S} (hr : vx_Run p l e R s m args below meth c H locs cells slots mc ms (F0 m pc ls st0) rest (fun _ _ _ => False) (ev_XC D cl dA B ci τ) (ev_A B)) (hI : ev_In D cl dA B s.heap H locs t sz)
    (htab : ∀ x ∈ c.exceptionTable.toList, False) (hlocks : meth.locks = false) (e1 : σ' = (τ.1, τ.2.1, cells + mc, slots + ms)) : W p l e R s m args below meth c H locs cells slots (ev_FQ below D cl dA B args s (.inr ci) σ') (F0 m pc ls st0) := by
  intro T hT X
  rcases hr T hT X with ⟨v, st₀, t2, T', L, h0, X', hL, e3, e2, hf, st⟩ | ⟨q, st₀, t2, T', L, E, ce, h0, X', hL, e3, e2, hx, hce, hcv, hcl, st⟩
  · exact hf.elim
  obtain ⟨hE, hR, hz, hk⟩ := hx
  rw [h0] at hz hk
  have hS : va_S (ev_A B) s.heap T'.heap (locs ++ L) := ⟨Nat.le_trans hI.2.1 (by rw [e3]; exact hz), fun q h1 h2 => by rw [e3, hk q (Nat.lt_of_lt_of_le h1 hI.2.1) h2]; exact hI.2.2.1 q h1 h2, fun q hq => by
      rcases List.mem_append.mp hq with h | h
      · exact hI.2.2.2 q h
      · exact hL q h⟩
  have hout : vx_W p l e R s m args below meth c T'.heap (locs ++ L) (cells + mc) (slots + ms) (ev_FQ below D cl dA B args s (.inr ci) σ') (F0 m pc ls rest) q := by
    subst e1
    exact vx_out (E := E) (ce := ce) (fun x hx => (htab x hx).elim) hlocks (by rw [e3]; exact hce) hcv hcl (fun u hu hW => ⟨hE, by rw [hu, e3]; exact hR, hS.F hu⟩) hS.2.2 (Nat.le_refl _) (Nat.le_refl _)
  obtain ⟨u, st2, hq⟩ := hout T' rfl X'
  exact ⟨u, st.trans st2, hq⟩
theorem ev_rt_ok {pc : Nat} {B : ev_B} {ls : Array Slot} {ret : Option FieldType} {i : Instr} {len : Nat} {st : List Value} {r : Option Value} {cc : ByteArray} {Qc : Array Value → State → Outcome → State → Prop} {free : Addr → Prop} (hx : p.tables.exec = Jvm.exec) (hb : c.code = cc) (hr : meth.sig.returnType = ret) (hlocks : meth.locks = false)
    (hd : decode cc pc = .ok (i, len)) (h : ev_rt ret i len st = some r) (hq : ∀ u : State, u.heap = H → s.WarmedH u.vm → Qc args s (.returned (r.map (ev_v B))) u) (hf : ∀ q ∈ locs, free q.base) : W p l e R s m args below meth c H locs cells slots (MQ below Qc args s cells slots free) (F0 m pc ls (st.map (ev_v B))) := by
  unfold ev_rt at h
  split at h
  · have h1 := (ev_if_ok h).1; replace h := (ev_if_ok h).2; cases h; cases ev_beq h1
    exact W.iret hx hb hr hq hf hd hlocks
  · have h1 := (ev_if_ok h).1; replace h := (ev_if_ok h).2; cases h; cases ev_beq h1
    exact W.iret hx hb hr hq hf hd hlocks
  · have h1 := (ev_if_ok h).1; replace h := (ev_if_ok h).2; cases h
    simp only [Bool.and_eq_true, Bool.or_eq_true, decide_eq_true_eq] at h1
    obtain ⟨h1, h2⟩ := h1; cases ev_beq h1
    refine W.zret hx hb hr ?_ hq hf hd hlocks
    rcases h2 with rfl | rfl
    · exact narrow_b0
    · exact narrow_b1
  · have h1 := (ev_if_ok h).1; replace h := (ev_if_ok h).2; cases h; cases ev_beq h1
    exact W.lret hx hb hr hq hf hd hlocks
  · have h1 := (ev_if_ok h).1; replace h := (ev_if_ok h).2; cases h; cases ev_beq h1
    exact W.aret hx hb hr (Or.inl ⟨_, rfl⟩) (Or.inr ⟨_, rfl⟩) hq hf hd hlocks
  · have h1 := (ev_if_ok h).1; replace h := (ev_if_ok h).2; cases h; cases ev_beq h1
    exact W.aret hx hb hr (Or.inl ⟨_, rfl⟩) (Or.inl rfl) hq hf hd hlocks
  · have h1 := (ev_if_ok h).1; replace h := (ev_if_ok h).2; cases h; cases ev_beq h1
    exact W.aret hx hb hr (Or.inr ⟨_, rfl⟩) (Or.inr ⟨_, rfl⟩) hq hf hd hlocks
  · have h1 := (ev_if_ok h).1; replace h := (ev_if_ok h).2; cases h; cases ev_beq h1
    exact W.aret hx hb hr (Or.inr ⟨_, rfl⟩) (Or.inl rfl) hq hf hd hlocks
  · rename_i a C
    have h1 := (ev_if_ok h).1; replace h := (ev_if_ok h).2; cases h; cases ev_beq h1
    have hq2 : ∀ u : State, u.heap = H → s.WarmedH u.vm → Qc args s (.returned (some (va_rf (B.2.2 a)))) u := hq
    show W p l e R s m args below meth c H locs cells slots (MQ below Qc args s cells slots free) (F0 m pc ls [va_rf (B.2.2 a)])
    cases hb9 : B.2.2 a with
    | none => rw [hb9] at hq2; exact W.aret hx hb hr (Or.inl ⟨_, rfl⟩) (Or.inl rfl) hq2 hf hd hlocks
    | some y => rw [hb9] at hq2; exact W.aret hx hb hr (Or.inl ⟨_, rfl⟩) (Or.inr ⟨_, rfl⟩) hq2 hf hd hlocks
  · rename_i a C
    have h1 := (ev_if_ok h).1; replace h := (ev_if_ok h).2; cases h; cases ev_beq h1
    have hq2 : ∀ u : State, u.heap = H → s.WarmedH u.vm → Qc args s (.returned (some (va_rf (B.2.2 a)))) u := hq
    show W p l e R s m args below meth c H locs cells slots (MQ below Qc args s cells slots free) (F0 m pc ls [va_rf (B.2.2 a)])
    cases hb9 : B.2.2 a with
    | none => rw [hb9] at hq2; exact W.aret hx hb hr (Or.inr ⟨_, rfl⟩) (Or.inl rfl) hq2 hf hd hlocks
    | some y => rw [hb9] at hq2; exact W.aret hx hb hr (Or.inr ⟨_, rfl⟩) (Or.inr ⟨_, rfl⟩) hq2 hf hd hlocks
  · have h1 := (ev_if_ok h).1; replace h := (ev_if_ok h).2; cases h; cases ev_beq h1
    exact W.vret hx hb hr hq hf hd hlocks
  · cases h
theorem ev_xm_ok {own : String} {cc : ByteArray} {pc nL a b tg len : Nat} {B : ev_B} {ls : Array Slot} {Ts : List Cond} {i : Instr} {k : Int} {st st1 : List Value} {t : ev_T} {sz : Nat} {lB : List (Nat × Value)} (hx : p.tables.exec = Jvm.exec) (hb : c.code = cc) (hml : c.maxLocals = nL) (hts : ∀ w ∈ Ts, w.before args s = true) (hown : s.vm.findClass own = some m.cls)
    (hd : decode cc pc = .ok (i, len)) (hk : ev_ck cl nl mt own Ts i a b tg k) (h : ev_xm i len tg st = some st1) (hl : lv_has ls nL lB) (hRf : 9 ≤ R.frames) (hRl : 540 ≤ R.locals) (hc : cells ≤ R.cells) (hs : slots ≤ R.slots)
    (hI : ev_In D cl dA B s.heap H locs t sz) (hZ : ev_Z B.1 B.2.2 s)
    (kk : ∀ (H : Heap) (locs : List Loc), ev_In D cl dA B s.heap H locs t sz → W p l e R s m args below meth c H locs cells slots Q (F0 m (pc + 3) ls (st1.map (ev_v B)))) : W p l e R s m args below meth c H locs cells slots Q (F0 m pc ls (st.map (ev_v B))) := by
  unfold ev_xm at h
  split at h
  · split at h <;> try cases h
    have h1 := (ev_if_ok h).1; replace h := (ev_if_ok h).2; cases h
    simp only [Bool.and_eq_true] at h1
    obtain ⟨h1, h2, h3⟩ := h1; cases ev_beq h1; cases ev_beq h2
    obtain ⟨-, -, -, k1⟩ := hk
    obtain ⟨k1, k2, k3⟩ := k1 rfl
    refine W.objInit hx hb hown (hts _ k1) (hts _ k2) (hts _ k3) rfl (by rw [hml]; exact hl.1) rfl hd (by omega) ?_ ?_
    · exact Nat.le_trans (Nat.add_le_add_right (ev_room h3) 12) (by omega)
    · exact W.eq (g2 := F0 m (pc + 3) ls (st1.map (ev_v B))) rfl (kk H locs hI)
  · split at h <;> try cases h
    · cases hz : Nat.beq tg 31 with
      | true =>
        rw [hz] at h
        have h1 := (ev_if_ok h).1; replace h := (ev_if_ok h).2; cases h
        simp only [Bool.and_eq_true] at h1
        obtain ⟨h1, h3⟩ := h1; cases ev_beq h1; cases ev_beq hz
        obtain ⟨-, -, -, -, -, k1⟩ := hk
        obtain ⟨k1, k2, k3, k4⟩ := k1 rfl
        have h3 := Nat.le_of_ble_eq_true h3
        refine va_mmax hx hb (by rw [hml]; exact hl.1.symm) hown (hts _ k1) (hts _ k2) (hts _ k3) (hts _ k4) (by omega) (by rw [ev_cat_ok]; omega) hc hs hd ?_
        exact kk H locs hI
      | false =>
        rw [hz] at h
        have h1 := (ev_if_ok h).1; replace h := (ev_if_ok h).2; cases h
        simp only [Bool.and_eq_true] at h1
        obtain ⟨h1, h2, h3⟩ := h1; cases ev_beq h1; cases ev_beq h2
        obtain ⟨-, -, k1, -, -⟩ := hk
        obtain ⟨k1, k2, k3, k4⟩ := k1 rfl
        have h3 := Nat.le_of_ble_eq_true h3
        refine va_mmin hx hb (by rw [hml]; exact hl.1.symm) hown (hts _ k1) (hts _ k2) (hts _ k3) (hts _ k4) (by omega) (by rw [ev_cat_ok]; omega) hc hs hd ?_
        exact kk H locs hI
    · have h1 := (ev_if_ok h).1; replace h := (ev_if_ok h).2; cases h
      simp only [Bool.and_eq_true] at h1
      obtain ⟨h1, h2, h3⟩ := h1; cases ev_beq h1; cases ev_beq h2
      obtain ⟨-, -, -, -, k1, -⟩ := hk
      obtain ⟨k1, k2, k3, k4⟩ := k1 rfl
      have h3 := Nat.le_of_ble_eq_true h3
      refine va_mmin_long hx hb (by rw [hml]; exact hl.1.symm) hown (hts _ k1) (hts _ k2) (hts _ k3) (hts _ k4) (by omega) (by rw [ev_cat_ok]; omega) hc hs hd ?_
      exact kk H locs hI
  · have hS : CallFix p m c cc nL s args Ts own := ⟨hx, hb, hml, hown, hts⟩
    have hK0 : ∀ U : State, va_K (D.1, D.2) ([] : List vw_C) [] U := fun U => ⟨fun c q h => by simp at h, fun k q h => by simp at h⟩
    have hP0 : ∀ H : Heap, va_P (D.1, D.2) ([] : List vw_C) [] H := fun H k q h => by simp at h
    have hD0 : va_D (fun _ => True) [] := ⟨fun i j p q h => by simp at h, fun k q h => by simp at h⟩
    have hnr : ∀ q : Nat, va_A [] H.size q → B.1 ≤ q := fun q h => by
      rcases h with ⟨k, e, h⟩ | h
      · simp at h
      · have := hI.1.1; omega
    split at h <;> try cases h
    · have h1 := (ev_if_ok h).1; replace h := (ev_if_ok h).2; cases h
      simp only [Bool.and_eq_true] at h1
      rename_i z9 r9
      obtain ⟨h1, h2, h3, h4⟩ := h1; cases ev_beq h1; cases ev_beq h2
      obtain ⟨-, -, -, k1, -⟩ := hk
      obtain ⟨q, v, z1, z3⟩ := hZ.kw h3
      obtain ⟨-, -, z5, -⟩ := hZ
      rw [List.map_cons, show ev_v B (.retAddr z9) = va_rf (B.2.2 z9) from rfl, z1]
      refine jd_goes (va_runV (As := []) hS (cj_length l D.1 D.2 q v 345 (fun j => nI (kwB j)) H.size (by decide)) (cwV 0 hts (k1 rfl) rfl rfl rfl (by decide +kernel) ⟨by show 1 + 1 ≤ _; omega, by show 8 + (1 + 11) + 20 ≤ _; omega⟩) ⟨fun a U g mk q => ?_, ks_recv z3 hI.2, fun U hU hW => ?_⟩ rfl rfl hl.1 rfl (ev_room h4) hd ⟨hc, hs⟩) hI (fun r hr H1 locs1 hI1 => ?_)
      · obtain ⟨q0, q1, qP, qK, qD, qN0, qN1⟩ := q
        exact ⟨q0, q1, qP, va_K.moved (u := U) (U := U.calling g mk a) (Vm.Alike.refl U.vm) qK, qD, ks.moved (u := U) (U := U.calling g mk a) (Vm.Alike.refl U.vm) qN0, va_Z.moved (u := U) (U := U.calling g mk a) (Vm.Alike.refl U.vm) qN1⟩
      · exact ⟨rfl, by rw [hU], hP0 _, hK0 _, hD0, by rw [hU]; exact ks.moved hW.alike ((z3.kept hI.2.2.1).narrow hnr), by rw [hU]; exact va_Z.moved hW.alike ((z5.kept hI.2.2.1).narrow hnr)⟩
      · rw [hr]; exact kk H1 locs1 hI1
    · rename_i x z r
      cases hz : (Nat.beq z 0 || Nat.beq z 2) with
      | true =>
        rw [hz] at h
        have h1 := (ev_if_ok h).1; replace h := (ev_if_ok h).2; cases h
        simp only [Bool.and_eq_true, decide_eq_true_eq] at h1
        obtain ⟨h1, h2, h4, h5, h6⟩ := h1; cases ev_beq h1; cases ev_beq h2
        replace h6 := Nat.le_of_ble_eq_true h6
        obtain ⟨-, -, -, -, k1, -⟩ := hk
        obtain ⟨q, v, z1, z3⟩ := hZ.kw hz
        obtain ⟨-, -, z5, z6, -⟩ := hZ
        generalize x.toNatClampNeg = y at h5 h6 kk
        subst h5
        rw [List.map_cons, List.map_cons, show ev_v B (.retAddr z) = va_rf (B.2.2 z) from rfl, z1]
        refine jd_goes (va_runV (As := [.int (nI y)]) hS (cj_charAt l D.1 D.2 q v 345 (fun j => nI (kwB j)) y H.size h6 (by decide)) (cwV 1 hts (k1 rfl) rfl rfl rfl (by decide +kernel) ⟨by show 3 + 1 ≤ _; omega, by show 8 + (2 + 11) + 64 ≤ _; omega⟩) ⟨fun a U g mk q => ?_, ks_recv z3 hI.2, fun U hU hW => ?_⟩ rfl rfl hl.1 rfl (ev_room h4) hd ⟨hc, hs⟩) hI (fun r hr H1 locs1 hI1 => ?_)
        · obtain ⟨q0, q1, qP, qK, qD, qN0, qN1, qN2⟩ := q
          exact ⟨q0, q1, qP, va_K.moved (u := U) (U := U.calling g mk a) (Vm.Alike.refl U.vm) qK, qD, ks.moved (u := U) (U := U.calling g mk a) (Vm.Alike.refl U.vm) qN0, va_Z.moved (u := U) (U := U.calling g mk a) (Vm.Alike.refl U.vm) qN1, va_Zq.moved (u := U) (U := U.calling g mk a) (Vm.Alike.refl U.vm) qN2⟩
        · exact ⟨rfl, by rw [hU], hP0 _, hK0 _, hD0, by rw [hU]; exact ks.moved hW.alike ((z3.kept hI.2.2.1).narrow hnr), by rw [hU]; exact va_Z.moved hW.alike ((z5.kept hI.2.2.1).narrow hnr), by rw [hU]; exact va_Zq.moved hW.alike ((z6.kept hI.2.2.1).narrow hnr)⟩
        · rw [hr.2, kwB_and y h6]; exact kk H1 locs1 hI1
      | false =>
        rw [hz] at h
        have h1 := (ev_if_ok h).1; replace h := (ev_if_ok h).2
        simp only [Bool.and_eq_true, decide_eq_true_eq] at h1
        obtain ⟨h1, h2, h3, h4, h5, h6⟩ := h1; cases ev_beq h1; cases ev_beq h2; cases ev_beq h3
        replace h6 := Nat.le_of_ble_eq_true h6
        split at h <;> cases h
        rename_i j hj
        obtain ⟨-, -, -, -, -, k1⟩ := hk
        obtain ⟨-, ⟨q, v, z1, z2, z3⟩, z5, -⟩ := hZ
        generalize x.toNatClampNeg = y at h5 h6 hj
        subst h5
        obtain ⟨j1, j2, j3⟩ := sgX_ok h6 hj
        rw [List.map_cons, List.map_cons, show ev_v B (.retAddr 1) = va_rf (B.2.2 1) from rfl, z1]
        refine jd_goes (va_runV (As := [.int (nI y)]) hS (cj_ix1 l D.1 D.2 q v 19 (fun j => nI (sgB j)) y j H.size h6 (by decide) (by decide) j1 j2 j3) (cwV 1 hts (k1 rfl) rfl rfl rfl (by decide +kernel) ⟨by show 3 + 1 ≤ _; omega, by show 8 + (2 + 11) + 70 ≤ _; omega⟩) ⟨fun a U g mk q => ?_, ks_recv z3 hI.2, fun U hU hW => ?_⟩ rfl rfl hl.1 rfl (ev_room h4) hd ⟨hc, hs⟩) hI (fun r hr H1 locs1 hI1 => ?_)
        · obtain ⟨q0, q1, qP, qK, qD, qN0, qN1⟩ := q
          exact ⟨q0, q1, qP, va_K.moved (u := U) (U := U.calling g mk a) (Vm.Alike.refl U.vm) qK, qD, ks.moved (u := U) (U := U.calling g mk a) (Vm.Alike.refl U.vm) qN0, va_Z.moved (u := U) (U := U.calling g mk a) (Vm.Alike.refl U.vm) qN1⟩
        · exact ⟨rfl, by rw [hU], hP0 _, hK0 _, hD0, by rw [hU]; exact ks.moved hW.alike ((z3.kept hI.2.2.1).narrow hnr), by rw [hU]; exact va_Z.moved hW.alike ((z5.kept hI.2.2.1).narrow hnr)⟩
        · rw [hr]; exact kk H1 locs1 hI1
  · cases h
/-- the word of a method's code -/
def ev_hw (mt : Nat → ev_M) (hd : Nat → Option ev_H) (k : Nat) : Cond := match hd k with
  | none => .code (mt k).1 (mt k).2.2.1 (mt k).2.2.2.1 (mt k).2.2.2.2.1
  | some x => .codeWith (mt k).1 (mt k).2.2.1 (mt k).2.2.2.1 (mt k).2.2.2.2.1 [x]
theorem ev_goesH {pc : Nat} {ls : Array Slot} {st0 rest : List Value} {mc ms nL : Nat} {own : String} {cc : ByteArray} {B : ev_B} {t : ev_T} {sz : Nat} {τ : ev_S} {lB : List (Nat × Value)} {x : ev_H} {k4 : Fin 4} (hx : p.tables.exec = Jvm.exec) (hb : c.code = cc) (hown : s.vm.findClass own = some m.cls) (hN : ev_N D cl dA tl ol nl s) (h12 : ∃ r : vw_C, cl[12]? = some r ∧ r.1 = "LevelUnitsModel$Stop")
    (hr : vx_Run p l e R s m args below meth c H locs cells slots mc ms (F0 m pc ls st0) rest (fun _ _ _ => False) (ev_XC D cl dA B 12 τ) (ev_A B)) (hI : ev_In D cl dA B s.heap H locs t sz) (hl : lv_has ls nL lB)
    (hex : c.exceptionTable.toList = [⟨x.1, x.2.1, x.2.2.1, x.2.2.2⟩]) (h0 : x.2.2.2 ≠ 0) (hlink : (Cond.classLink own x.2.2.2 "LevelUnitsModel$Stop").before args s = true) (h1 : x.1 ≤ pc) (h2 : pc < x.2.1) (hdg : decode cc x.2.2.1 = .ok (.astore_n k4, 1)) (hn : (k4 : Nat) < nL)
    (kk : ∀ (H1 : Heap) (locs1 : List Loc) (ls1 : Array Slot), ev_In D cl dA B s.heap H1 locs1 τ.2.1 τ.1 → lv_has ls1 nL (lB.filter (fun q => !(q.1 == (k4 : Nat)) && !(q.1 + 1 == (k4 : Nat) && q.2.category == 2))) → W p l e R s m args below meth c H1 locs1 (cells + mc) (slots + ms) Q (F0 m (x.2.2.1 + 1) ls1 [])) : W p l e R s m args below meth c H locs cells slots Q (F0 m pc ls st0) := by
  intro T hT X
  rcases hr T hT X with ⟨v, st₀, t2, T', L, h0', X', hL, e3, e2, hf, st⟩ | ⟨q, st₀, t2, T', L, E, ce, h0', X', hL, e3, e2, hx9, hce, hcv, hcl, st⟩
  · exact hf.elim
  obtain ⟨⟨r, hE1, hE2⟩, hR, hz, hk⟩ := hx9
  obtain ⟨r2, hE3, hE4⟩ := h12
  have hrr : r = r2 := Option.some.inj (hE1.symm.trans hE3)
  subst hrr
  rw [hE4] at hE2
  subst hE2
  rw [h0'] at hz hk
  have hS : va_S (ev_A B) s.heap T'.heap (locs ++ L) := ⟨Nat.le_trans hI.2.1 (by rw [e3]; exact hz), fun q h1 h2 => by rw [e3, hk q (Nat.lt_of_lt_of_le h1 hI.2.1) h2]; exact hI.2.2.1 q h1 h2, fun q hq => by
      rcases List.mem_append.mp hq with h | h
      · exact hI.2.2.2 q h
      · exact hL q h⟩
  have hout : vx_W p l e R s m args below meth c T'.heap (locs ++ L) (cells + mc) (slots + ms) Q (F0 m pc ls rest) q := by
    refine vx_catch (own := own) (name := "LevelUnitsModel$Stop") (E := "LevelUnitsModel$Stop") hown [] ⟨x.1, x.2.1, x.2.2.1, x.2.2.2⟩ [] (by rw [hex]; rfl) (fun z hz => nomatch hz) (by simp [covers, h1, h2]) h0 hlink (va_Nw.use rfl hN.2.2.2) (by rw [e3]; exact hce) hcv hcl ?_
    exact lv_astore_n hx hb hdg rfl hl hn rfl (fun ls1 hl1 => kk _ _ ls1 ⟨by rw [e3]; exact hR, hS⟩ ⟨hl1.1, hl1.2.1, fun q hq => hl1.2.2 q (List.mem_cons_of_mem _ hq)⟩)
  obtain ⟨u, st2, hq⟩ := hout T' rfl X'
  exact ⟨u, st.trans st2, hq⟩
theorem ev_lBf (B : ev_B) (lv : ev_L) (i : Nat) : (ev_lB B lv).filter (fun q => !(q.1 == i) && !(q.1 + 1 == i && q.2.category == 2)) = ev_lB B (lv.filter (fun q => !(q.1 == i) && !(q.1 + 1 == i && q.2.category == 2))) := by
  unfold ev_lB
  rw [List.filter_map]
  congr 1
  apply List.filter_congr
  intro q _
  simp only [Function.comp, ev_v_cat]
theorem ev_Lp_ok {own yn : String} {cc : ByteArray} {nL d k : Nat} {B : ev_B} {ret : Option FieldType} {Ts : List Cond} {C : Nat → List Value → Nat → ev_T → ev_O → ev_S → Prop}
    (hmt : mt k = (⟨own, yn, (mt k).1.desc⟩, own, cc, nL, ret, Ts)) (hx : p.tables.exec = Jvm.exec) (hb : c.code = cc) (hml : c.maxLocals = nL) (hr : meth.sig.returnType = ret) (hlocks : meth.locks = false) (hts : ∀ w ∈ Ts, w.before args s = true) (hown : s.vm.findClass own = some m.cls) (hmn : meth.name = yn) (hN : ev_N D cl dA tl ol nl s)
    (hdf : ∀ a, ∀ v ∈ df a, ev_nf v = true) (htl0 : tl[0]? = some .int) (htl1 : tl[1]? = some .byte) (htl6 : tl[6]? = some .boolean) (hoc : ∀ j, 2 ≤ j → j < tl.length → cl[oc j]? = none ∨ ∃ r : vw_C, cl[oc j]? = some r ∧ tl[j]? = some (.object r.1))
    (hT : ∀ k pc x, tb k pc = some x → decode (mt k).2.2.1 pc = .ok (x.1, x.2.1) ∧ ev_hk cl tl ol df (mt k).2.1 (mt k).1.name (mt k).2.2.2.2.2 x.1 x.2.2.1 x.2.2.2.1 x.2.2.2.2.1 x.2.2.2.2.2 ∧ ev_ck cl nl mt (mt k).2.1 (mt k).2.2.2.2.2 x.1 x.2.2.1 x.2.2.2.1 x.2.2.2.2.1 x.2.2.2.2.2)
    (hM : ∀ k, (∃ ws', (mt k).2.2.2.2.2 = ev_hw mt hd k :: ws') ∧ plainFor (mt k).1 = true ∧ (mt k).2.1 = (mt k).1.cls ∧ (mt k).2.2.2.1 ≤ 40 ∧ ∀ x, hd k = some x → x.2.2.2 ≠ 0 ∧ Cond.classLink (mt k).2.1 x.2.2.2 "LevelUnitsModel$Stop" ∈ (mt k).2.2.2.2.2)
    (h12 : ∃ r : vw_C, cl[12]? = some r ∧ r.1 = "LevelUnitsModel$Stop") (hex : ∀ x, hd k = some x → c.exceptionTable.toList = [⟨x.1, x.2.1, x.2.2.1, x.2.2.2⟩])
    (hC : ∀ k as sz t r τ, C k as sz t r τ → ev_Met l D cl dA tl ol nl mt B d k as sz t r τ) (hRf : d + 9 ≤ R.frames) (hRl : (d + 9) * 60 ≤ R.locals) (hZ : ev_Z B.1 B.2.2 s) :
    ∀ (n pc : Nat) (lv : ev_L) (st : List Value) (σ : ev_S) (r : ev_O) (σ' : ev_S), (∀ ci, r = .inr ci → ∀ x ∈ c.exceptionTable.toList, False) → ev_Lp tl oc df mt tb hd C k n pc lv st σ r σ' → σ.2.2.1 ≤ σ'.2.2.1 ∧ σ.2.2.2 ≤ σ'.2.2.2 ∧ (σ'.2.2.1 ≤ R.cells → σ'.2.2.2 ≤ R.slots → ∀ (H : Heap) (locs : List Loc) (ls : Array Slot), lv_has ls nL (ev_lB B lv) → ev_In D cl dA B s.heap H locs σ.2.1 σ.1 →
      W p l e R s m args below meth c H locs σ.2.2.1 σ.2.2.2 (ev_FQ below D cl dA B args s r σ') (F0 m pc ls (st.map (ev_v B)))) := by
  intro n
  induction n with
  | zero => intro pc lv st σ r σ' htab h; exact h.elim
  | succ n ih =>
    intro pc lv st σ r σ' htab h
    unfold ev_Lp at h
    split at h
    · exact h.elim
    rename_i x hx1
    obtain ⟨t1, t2, t3⟩ := hT k pc x hx1
    obtain ⟨i, len, a, b, tg, kk⟩ := x
    simp only at h t1 t2 t3
    rw [hmt] at t1 t2 t3
    simp only at t1 t2 t3
    rcases h with ⟨pc1, st1, h1, h2⟩ | ⟨pc1, lv1, st1, h1, h2⟩ | ⟨pc1, st1, σ1, h1, h2⟩ | ⟨st1, h1, h2⟩ | ⟨v, h1, rfl, h2⟩ | ⟨as, rest, v, τ, h1, h2, h3⟩ | ⟨as, rest, ci, τ, ix, h0, h1, h2, hh, rfl, h3⟩ | ⟨q, rest, ci, fs, rfl, rfl, rfl, hq, hh, rfl, rfl⟩ | ⟨as, rest, τ, ix, x9, k4, e9, h0, h1, h2, hh, g7, g8, g9, e9a, e9b, g10, h3⟩
    · obtain ⟨i1, i2, i3⟩ := ih _ _ _ _ _ _ htab h2
      exact ⟨i1, i2, fun r1 r2 H locs ls hl hI => ev_xc_ok hx hb t1 B h1 (i3 r1 r2 H locs ls hl hI)⟩
    · obtain ⟨i1, i2, i3⟩ := ih _ _ _ _ _ _ htab h2
      rw [show (mt k).2.2.2.1 = nL by rw [hmt]] at h1
      exact ⟨i1, i2, fun r1 r2 H locs ls hl hI => ev_xl_ok hx hb t1 B hl h1 (fun ls' hl' => i3 r1 r2 H locs ls' hl' hI)⟩
    · obtain ⟨i1, i2, i3⟩ := ih _ _ _ _ _ _ htab h2
      obtain ⟨j1, j2⟩ := ev_xh_le h1
      refine ⟨Nat.le_trans j1 i1, Nat.le_trans j2 i2, fun r1 r2 H locs ls hl hI => ?_⟩
      exact (ev_xh_ok hx hb (hml.trans hl.1.symm) (by omega) (by omega) hts hown hmn hN hdf htl0 htl1 htl6 hoc t1 t2 hI hZ h1).2.2 (Nat.le_trans i1 r1) (Nat.le_trans i2 r2) (fun H1 locs1 hI1 => i3 r1 r2 H1 locs1 ls hl hI1)
    · obtain ⟨i1, i2, i3⟩ := ih _ _ _ _ _ _ htab h2
      exact ⟨i1, i2, fun r1 r2 H locs ls hl hI => ev_xm_ok hx hb hml hts hown t1 t3 h1 hl (by omega) (by omega) (Nat.le_trans i1 r1) (Nat.le_trans i2 r2) hI hZ (fun H locs hI => i3 r1 r2 H locs ls hl hI)⟩
    · subst h2
      rw [show (mt k).2.2.2.2.1 = ret by rw [hmt]] at h1
      exact ⟨Nat.le_refl _, Nat.le_refl _, fun r1 r2 H locs ls hl hI => ev_rt_ok hx hb hr hlocks t1 h1 (fun u hu hW => ⟨rfl, by rw [hu]; exact hI.1, hI.2.F hu⟩) hI.2.2.2⟩
    · obtain ⟨i1, i2, i3⟩ := ih _ _ _ _ _ _ htab h3
      have hMet : Met l (mt a).1 (mt a).2.2.2.2.2 (ev_rm d τ.2.2.1 τ.2.2.2) (va_Pc (as.map (ev_v B)) (ev_Pc D cl dA tl ol nl B σ.1 σ.2.1)) (ev_Qc D cl dA B v τ) τ.2.2.1 τ.2.2.2 (ev_A B) := hC _ _ _ _ _ _ h2
      simp only at i1 i2 i3
      refine ⟨by omega, by omega, fun r1 r2 H locs ls hl hI => ?_⟩
      obtain ⟨⟨ws', hw⟩, -, hown', hmx, -⟩ := hM a
      have hR : (ev_rm d τ.2.2.1 τ.2.2.2).frames + 1 ≤ R.frames ∧ 8 + ((mt a).2.2.2.1 + 11) + (ev_rm d τ.2.2.1 τ.2.2.2).locals ≤ R.locals := ⟨hRf, by show 8 + ((mt a).2.2.2.1 + 11) + (d + 8) * 60 ≤ R.locals; omega⟩
      have hf : σ.2.2.1 + τ.2.2.1 ≤ R.cells ∧ σ.2.2.2 + τ.2.2.2 ≤ R.slots := ⟨Nat.le_trans i1 r1, Nat.le_trans i2 r2⟩
      have hS : CallFix p m c cc nL s args Ts own := ⟨hx, hb, hml, hown, hts⟩
      have hback : ∀ (H1 : Heap) (locs1 : List Loc), ev_In D cl dA B s.heap H1 locs1 τ.2.1 τ.1 → W p l e R s m args below meth c H1 locs1 (σ.2.2.1 + τ.2.2.1) (σ.2.2.2 + τ.2.2.2) (ev_FQ below D cl dA B args s r σ') (F0 m (pc + 3) ls ((v.map (ev_v B)).toList ++ rest.map (ev_v B))) := fun H1 locs1 hI1 => by
        have := i3 r1 r2 H1 locs1 ls hl hI1
        rw [List.map_append] at this
        cases v <;> exact this
      have hpay : ∀ U : State, U.heap = H → s.WarmedH U.vm → va_Pc (as.map (ev_v B)) (ev_Pc D cl dA tl ol nl B σ.1 σ.2.1) (as.map (ev_v B)).toArray U := fun U hU hW => ⟨rfl, by rw [hU]; exact hI.1, hN.moved hW, hZ.moved hW (by rw [hU]; exact hI.2.2.1)⟩
      unfold ev_cl at h1
      split at h1
      · have g1 := (ev_if_ok h1).1; replace h1 := (ev_if_ok h1).2
        simp only [Bool.and_eq_true] at g1
        obtain ⟨g1, g2⟩ := g1; cases ev_beq g1
        have g2 := ev_beq g2
        split at h1 <;> try cases h1
        rename_i as1 rest1 htk
        have g3 := (ev_if_ok h1).1; replace h1 := (ev_if_ok h1).2; cases h1
        obtain ⟨pre, e1, e2, e3⟩ := ev_tk_ok htk
        rw [List.append_nil] at e2
        subst e1; subst e2; subst e3
        have hst : ((pre ++ rest).map (ev_v B)) = (pre.reverse.map (ev_v B)).reverse ++ rest.map (ev_v B) := by simp
        rw [hst]
        obtain ⟨q1, q2, -, q9, -⟩ := t3
        have q1 := q1 g2
        obtain ⟨ws', hw⟩ := q9 g2
        have hn : (pre.reverse.map (ev_v B)).length = pre.length := by simp
        rcases q2 g2 with ⟨-, q3, q4⟩ | ⟨-, q4⟩ | ⟨-, q4, q5, q6, h9, q7⟩
        · exact ev_goes (va_runS hS hMet (cwS pre.length hts q4 hw rfl rfl ⟨q3, q1⟩ hR) ⟨ev_blind, hpay⟩ rfl hn hl.1 rfl (ev_room g3) t1 hf) hI hback
        · exact ev_goes (va_runS hS hMet (va_cwS pre.length hts q4 hw rfl rfl q1 hR) ⟨ev_blind, hpay⟩ rfl hn hl.1 rfl (ev_room g3) t1 hf) hI hback
        · exact ev_goes (va_runSN hS hMet ⟨va_cnB pre.length hts q4 hw rfl rfl (hN.2.2.1 _ q7) (hts _ q5) q1 hR, hts _ q6, trivial⟩ ⟨ev_blind, hpay⟩ rfl hn hl.1 rfl (ev_room g3) t1 hf) hI hback
      · have g1 := (ev_if_ok h1).1; replace h1 := (ev_if_ok h1).2
        simp only [Bool.and_eq_true] at g1
        obtain ⟨g1, g2⟩ := g1; cases ev_beq g1
        have g2 := ev_beq g2
        split at h1 <;> try cases h1
        rename_i as1 q rest1 htk
        split at h1 <;> try cases h1
        rename_i ci fs hq
        have g3 := (ev_if_ok h1).1; replace h1 := (ev_if_ok h1).2; cases h1
        rw [Bool.and_eq_true] at g3
        obtain ⟨g3, g4⟩ := g3
        have g4 := ev_beq g4
        obtain ⟨pre, e1, e2, e3⟩ := ev_tk_ok htk
        rw [List.append_nil] at e2
        subst e1; subst e2; subst e3
        have hst : ((pre ++ Value.ref q :: rest).map (ev_v B)) = (pre.reverse.map (ev_v B)).reverse ++ Value.ref (B.1 + q) :: rest.map (ev_v B) := by simp [ev_v]
        rw [hst]
        obtain ⟨q1, q2, q3, -⟩ := t3
        obtain ⟨r0, q5, q6⟩ := q2 g2
        have hn : (pre.reverse.map (ev_v B)).length = pre.length := by simp
        have hrecv := va_recv (D := D) (cl := cl) (q0 := 0) hN.1 (ev_one (hI.1.2 q _ hq).2) (by rw [g4]; exact q5) rfl
        rw [q6] at hrecv
        unfold ev_hw at hw
        cases hh : hd a with
        | none =>
          rw [hh] at hw
          exact ev_goes (va_runV hS hMet (cwV pre.length hts (q3 g2) hw rfl rfl ⟨rfl, q1 g2⟩ hR) ⟨ev_blind, hrecv, hpay⟩ rfl hn hl.1 rfl (ev_room g3) t1 hf) hI hback
        | some x9 =>
          rw [hh] at hw
          exact ev_goes (vx_runVW hS hMet (vx_cwVW pre.length hts (q3 g2) hw rfl rfl ⟨rfl, q1 g2⟩ hR) ⟨ev_blind, hrecv, hpay⟩ rfl hn hl.1 rfl (ev_room g3) t1 hf) hI hback
      · have g1 := (ev_if_ok h1).1; replace h1 := (ev_if_ok h1).2
        simp only [Bool.and_eq_true] at g1
        obtain ⟨g1, g2⟩ := g1; cases ev_beq g1
        have g2 := ev_beq g2
        split at h1 <;> try cases h1
        rename_i as1 q rest1 htk
        have g3 := (ev_if_ok h1).1; replace h1 := (ev_if_ok h1).2; cases h1
        obtain ⟨pre, e1, e2, e3⟩ := ev_tk_ok htk
        rw [List.append_nil] at e2
        subst e1; subst e2; subst e3
        have hst : ((pre ++ Value.ref q :: rest).map (ev_v B)) = (pre.reverse.map (ev_v B)).reverse ++ Value.ref (B.1 + q) :: rest.map (ev_v B) := by simp [ev_v]
        rw [hst]
        obtain ⟨q1, q2, q9, -⟩ := t3
        obtain ⟨ws', hw⟩ := q9 g2
        obtain ⟨q2, q3, q4, q5, q6, q7⟩ := q2 g2
        rw [q3] at hw
        have hn : (pre.reverse.map (ev_v B)).length = pre.length := by simp
        rcases q7 with ⟨-, q7⟩ | ⟨-, h9, q7⟩
        · exact ev_goes (va_runI hS hMet (cwI pre.length hts q4 hw rfl rfl (hts _ q5) (hts _ q7) (hts _ q6) q2 (q1 g2) hR) ⟨ev_blind, hpay⟩ rfl hn hl.1 rfl (ev_room g3) t1 hf) hI hback
        · exact ev_goes (va_runIN hS hMet ⟨va_cnB pre.length hts q4 hw rfl rfl (hN.2.2.1 _ q7) (hts _ q5) (q1 g2) hR, q2, hts _ q6⟩ ⟨ev_blind, hpay⟩ rfl hn hl.1 rfl (ev_room g3) t1 hf) hI hback
      · cases h1
    · have hMet : vx_Met l (mt a).1 (mt a).2.2.2.2.2 (ev_rm d τ.2.2.1 τ.2.2.2) (va_Pc (as.map (ev_v B)) (ev_Pc D cl dA tl ol nl B σ.1 σ.2.1)) (fun _ _ _ _ => False) (ev_XC D cl dA B ci τ) τ.2.2.1 τ.2.2.2 (ev_A B) := hC _ _ _ _ _ _ h2
      subst h3
      refine ⟨Nat.le_add_right _ _, Nat.le_add_right _ _, fun r1 r2 H locs ls hl hI => ?_⟩
      obtain ⟨⟨ws', hw⟩, -, hown', hmx, -⟩ := hM a
      have hR : (ev_rm d τ.2.2.1 τ.2.2.2).frames + 1 ≤ R.frames ∧ 8 + ((mt a).2.2.2.1 + 11) + (ev_rm d τ.2.2.1 τ.2.2.2).locals ≤ R.locals := ⟨hRf, by show 8 + ((mt a).2.2.2.1 + 11) + (d + 8) * 60 ≤ R.locals; omega⟩
      have hf : σ.2.2.1 + τ.2.2.1 ≤ R.cells ∧ σ.2.2.2 + τ.2.2.2 ≤ R.slots := ⟨r1, r2⟩
      have hS : CallFix p m c cc nL s args Ts own := ⟨hx, hb, hml, hown, hts⟩
      have hpay : ∀ U : State, U.heap = H → s.WarmedH U.vm → va_Pc (as.map (ev_v B)) (ev_Pc D cl dA tl ol nl B σ.1 σ.2.1) (as.map (ev_v B)).toArray U := fun U hU hW => ⟨rfl, by rw [hU]; exact hI.1, hN.moved hW, hZ.moved hW (by rw [hU]; exact hI.2.2.1)⟩
      subst h0
      unfold ev_cl at h1
      simp only at h1
      have g1 := (ev_if_ok h1).1; replace h1 := (ev_if_ok h1).2
      simp only [Bool.and_eq_true] at g1
      obtain ⟨g1, g2⟩ := g1; cases ev_beq g1
      have g2 := ev_beq g2
      split at h1 <;> try cases h1
      rename_i as1 q rest1 htk
      split at h1 <;> try cases h1
      rename_i ci9 fs hq
      have g3 := (ev_if_ok h1).1; replace h1 := (ev_if_ok h1).2; cases h1
      rw [Bool.and_eq_true] at g3
      obtain ⟨g3, g4⟩ := g3
      have g4 := ev_beq g4
      obtain ⟨pre, e1, e2, e3⟩ := ev_tk_ok htk
      rw [List.append_nil] at e2
      subst e1; subst e2; subst e3
      have hst : ((pre ++ Value.ref q :: rest).map (ev_v B)) = (pre.reverse.map (ev_v B)).reverse ++ Value.ref (B.1 + q) :: rest.map (ev_v B) := by simp [ev_v]
      rw [hst]
      obtain ⟨q1, q2, q3, -⟩ := t3
      obtain ⟨r0, q5, q6⟩ := q2 g2
      have hn : (pre.reverse.map (ev_v B)).length = pre.length := by simp
      have hrecv := va_recv (D := D) (cl := cl) (q0 := 0) hN.1 (ev_one (hI.1.2 q _ hq).2) (by rw [g4]; exact q5) rfl
      rw [q6] at hrecv
      unfold ev_hw at hw
      cases hh9 : hd a with
      | none =>
        rw [hh9] at hw
        exact ev_goesX (vx_runV hS hMet (cwV pre.length hts (q3 g2) hw rfl rfl ⟨rfl, q1 g2⟩ hR) ⟨ev_blind, hrecv, hpay⟩ rfl hn hl.1 rfl (ev_room g3) t1 hf) hI (htab _ rfl) hlocks rfl
      | some x9 =>
        rw [hh9] at hw
        exact ev_goesX (vx_runVX hS hMet (vx_cwVW pre.length hts (q3 g2) hw rfl rfl ⟨rfl, q1 g2⟩ hR) ⟨ev_blind, hrecv, hpay⟩ rfl hn hl.1 rfl (ev_room g3) t1 hf) hI (htab _ rfl) hlocks rfl
    · refine ⟨Nat.le_refl _, Nat.le_refl _, fun r1 r2 H locs ls hl hI => ?_⟩
      obtain ⟨r0, hc0, cell, q1, q2, q3, -⟩ := (hI.1.2 q _ hq).2
      have hcl9 : s.vm.findClass r0.1 = some cell.cls := by rw [q2]; exact (hN.1.1 ci _ hc0).2.1
      refine vx_athrow hx hb t1 ?_
      exact vx_out (E := r0.1) (ce := cell) (fun x hx => (htab _ rfl x hx).elim) hlocks q1 q3 hcl9 (fun u hu hW => ⟨⟨r0, hc0, rfl⟩, by rw [hu]; exact hI.1, hI.2.F hu⟩) hI.2.2.2 (Nat.le_refl _) (Nat.le_refl _)
    · have hMet : vx_Met l (mt a).1 (mt a).2.2.2.2.2 (ev_rm d τ.2.2.1 τ.2.2.2) (va_Pc (as.map (ev_v B)) (ev_Pc D cl dA tl ol nl B σ.1 σ.2.1)) (fun _ _ _ _ => False) (ev_XC D cl dA B 12 τ) τ.2.2.1 τ.2.2.2 (ev_A B) := hC _ _ _ _ _ _ h2
      obtain ⟨i1, i2, i3⟩ := ih _ _ _ _ _ _ htab h3
      simp only at i1 i2 i3
      refine ⟨by omega, by omega, fun r1 r2 H locs ls hl hI => ?_⟩
      have hdg9 := (hT k _ _ g9).1
      rw [e9a, e9b, hmt] at hdg9
      rw [show (mt k).2.2.2.1 = nL by rw [hmt]] at g10
      obtain ⟨-, -, -, -, hM9⟩ := hM k
      obtain ⟨n0, n1⟩ := hM9 x9 hh
      rw [hmt] at n1
      obtain ⟨⟨ws', hw⟩, -, hown', hmx, -⟩ := hM a
      have hR : (ev_rm d τ.2.2.1 τ.2.2.2).frames + 1 ≤ R.frames ∧ 8 + ((mt a).2.2.2.1 + 11) + (ev_rm d τ.2.2.1 τ.2.2.2).locals ≤ R.locals := ⟨hRf, by show 8 + ((mt a).2.2.2.1 + 11) + (d + 8) * 60 ≤ R.locals; omega⟩
      have hf : σ.2.2.1 + τ.2.2.1 ≤ R.cells ∧ σ.2.2.2 + τ.2.2.2 ≤ R.slots := ⟨by omega, by omega⟩
      have hS : CallFix p m c cc nL s args Ts own := ⟨hx, hb, hml, hown, hts⟩
      have hpay : ∀ U : State, U.heap = H → s.WarmedH U.vm → va_Pc (as.map (ev_v B)) (ev_Pc D cl dA tl ol nl B σ.1 σ.2.1) (as.map (ev_v B)).toArray U := fun U hU hW => ⟨rfl, by rw [hU]; exact hI.1, hN.moved hW, hZ.moved hW (by rw [hU]; exact hI.2.2.1)⟩
      subst h0
      unfold ev_cl at h1
      simp only at h1
      have g1 := (ev_if_ok h1).1; replace h1 := (ev_if_ok h1).2
      simp only [Bool.and_eq_true] at g1
      obtain ⟨g1, g2⟩ := g1; cases ev_beq g1
      have g2 := ev_beq g2
      split at h1 <;> try cases h1
      rename_i as1 q rest1 htk
      split at h1 <;> try cases h1
      rename_i ci9 fs hq
      have g3 := (ev_if_ok h1).1; replace h1 := (ev_if_ok h1).2; cases h1
      rw [Bool.and_eq_true] at g3
      obtain ⟨g3, g4⟩ := g3
      have g4 := ev_beq g4
      obtain ⟨pre, e1, e2, e3⟩ := ev_tk_ok htk
      rw [List.append_nil] at e2
      subst e1; subst e2; subst e3
      have hst : ((pre ++ Value.ref q :: rest).map (ev_v B)) = (pre.reverse.map (ev_v B)).reverse ++ Value.ref (B.1 + q) :: rest.map (ev_v B) := by simp [ev_v]
      rw [hst]
      obtain ⟨q1, q2, q3, -⟩ := t3
      obtain ⟨r0, q5, q6⟩ := q2 g2
      have hn : (pre.reverse.map (ev_v B)).length = pre.length := by simp
      have hrecv := va_recv (D := D) (cl := cl) (q0 := 0) hN.1 (ev_one (hI.1.2 q _ hq).2) (by rw [g4]; exact q5) rfl
      rw [q6] at hrecv
      have hkk : ∀ (H1 : Heap) (locs1 : List Loc) (ls1 : Array Slot), ev_In D cl dA B s.heap H1 locs1 τ.2.1 τ.1 → lv_has ls1 nL ((ev_lB B lv).filter (fun q => !(q.1 == (k4 : Nat)) && !(q.1 + 1 == (k4 : Nat) && q.2.category == 2))) → W p l e R s m args below meth c H1 locs1 (σ.2.2.1 + τ.2.2.1) (σ.2.2.2 + τ.2.2.2) (ev_FQ below D cl dA B args s r σ') (F0 m (x9.2.2.1 + 1) ls1 []) := fun H1 locs1 ls1 hI1 hl1 => i3 r1 r2 H1 locs1 ls1 (by rw [← ev_lBf]; exact hl1) hI1
      unfold ev_hw at hw
      cases hh9 : hd a with
      | none =>
        rw [hh9] at hw
        exact ev_goesH hx hb hown hN h12 (vx_runV hS hMet (cwV pre.length hts (q3 g2) hw rfl rfl ⟨rfl, q1 g2⟩ hR) ⟨ev_blind, hrecv, hpay⟩ rfl hn hl.1 rfl (ev_room g3) t1 hf) hI hl (hex x9 hh) n0 (hts _ n1) g7 g8 hdg9 g10 hkk
      | some y9 =>
        rw [hh9] at hw
        exact ev_goesH hx hb hown hN h12 (vx_runVX hS hMet (vx_cwVW pre.length hts (q3 g2) hw rfl rfl ⟨rfl, q1 g2⟩ hR) ⟨ev_blind, hrecv, hpay⟩ rfl hn hl.1 rfl (ev_room g3) t1 hf) hI hl (hex x9 hh) n0 (hts _ n1) g7 g8 hdg9 g10 hkk
end EVS
