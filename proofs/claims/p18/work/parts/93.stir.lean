/-! the seed out of the script, nine numbers out of the seed -/
theorem sI1_a {σ : fl_S} {a : Nat} {x : Nat × (Nat → Int32)} : sI (sI1 σ a x) a = some x := by
  show aU (sI σ) a x a = _
  exact aU_at
theorem st_eq {X : ev_X} {d : Nat} {σ : fl_S} (hz : sZ σ = 0) (seed : Int32) : EQ X d 126 39 [(1, .int seed)] [] σ (fun r τ => r = some (.ref 0) ∧ (∃ f, sI τ 0 = some (9, f)) ∧ sZ τ = 1 ∧ sc τ = sc σ + 1 ∧ ss τ = ss σ + 9) := by
  have key : ∀ (j k : Nat) (seed : Int32) (lv1 : ev_L) (τ : fl_S) (f : Nat → Int32), k + j = 9 → sI τ 0 = some (9, f) → sZ τ = 1 → sc τ = sc σ + 1 → ss τ = ss σ + 9 → lvK [(3, .int (Int32.ofNat k)), (2, .ref 0), (1, .int seed)] lv1 → EQ X d 126 46 lv1 [] τ (fun r τ => r = some (.ref 0) ∧ (∃ f, sI τ 0 = some (9, f)) ∧ sZ τ = 1 ∧ sc τ = sc σ + 1 ∧ ss τ = ss σ + 9) := by
    intro j
    induction j with
    | zero =>
      intro k seed lv1 τ f hk ha h1 h2 h3 hlv
      have hk : k = 9 := hk
      rw [hk] at hlv
      refine f_lv [(3, .int (Int32.ofNat 9)), (2, .ref 0), (1, .int seed)] hlv ?_
      refine f_go (pc1 := 48) (lv1 := [(3, .int (Int32.ofNat 9)), (2, .ref 0), (1, .int seed)]) (st1 := [.ref 0, .int (Int32.ofNat 9)]) 2 rfl ?_
      refine f_alI rfl ha ?_
      refine f_icmp (t := 89) rfl rfl true (nat_geT (m := 9) (n := 9) (by decide) (by decide) (by decide)) ?_
      refine f_go (pc1 := 90) (lv1 := [(3, .int (Int32.ofNat 9)), (2, .ref 0), (1, .int seed)]) (st1 := [.ref 0]) 1 rfl ?_
      exact f_rtQ rfl rfl ⟨rfl, ⟨f, ha⟩, h1, h2, h3⟩
    | succ j ih =>
      intro k seed lv1 τ f hk ha h1 h2 h3 hlv
      refine f_lv [(3, .int (Int32.ofNat k)), (2, .ref 0), (1, .int seed)] hlv ?_
      refine f_go (pc1 := 48) (lv1 := [(3, .int (Int32.ofNat k)), (2, .ref 0), (1, .int seed)]) (st1 := [.ref 0, .int (Int32.ofNat k)]) 2 rfl ?_
      refine f_alI rfl ha ?_
      refine f_icmp (t := 89) rfl rfl false (nat_lt (n := 9) (by omega) (by decide) (by omega)) ?_
      refine f_go (pc1 := 53) (lv1 := [(3, .int (Int32.ofNat k)), (2, .ref 0), (1, .int seed)]) (st1 := [.int seed]) 1 rfl ?_
      refine f_ldc rfl ?_
      refine f_go (pc1 := 60) (lv1 := [(3, .int (Int32.ofNat k)), (2, .ref 0), (1, .int seed)]) (st1 := [.int ((seed * 1103515245) + 12345)]) 3 rfl ?_
      refine f_go (pc1 := 67) (lv1 := [(1, .int ((seed * 1103515245) + 12345)), (3, .int (Int32.ofNat k)), (2, .ref 0)]) (st1 := [.int (((seed * 1103515245) + 12345) ^^^ ((Int32.toUInt32 ((seed * 1103515245) + 12345) >>> (Int32.toUInt32 15 &&& Int32.toUInt32 31)).toInt32))]) 6 rfl ?_
      refine f_ldc rfl ?_
      refine f_go (pc1 := 82) (lv1 := [(4, .int ((((seed * 1103515245) + 12345) ^^^ ((Int32.toUInt32 ((seed * 1103515245) + 12345) >>> (Int32.toUInt32 15 &&& Int32.toUInt32 31)).toInt32)) * (-2048144789))), (1, .int ((seed * 1103515245) + 12345)), (3, .int (Int32.ofNat k)), (2, .ref 0)]) (st1 := [.int (((((seed * 1103515245) + 12345) ^^^ ((Int32.toUInt32 ((seed * 1103515245) + 12345) >>> (Int32.toUInt32 15 &&& Int32.toUInt32 31)).toInt32)) * (-2048144789)) ^^^ ((Int32.toUInt32 ((((seed * 1103515245) + 12345) ^^^ ((Int32.toUInt32 ((seed * 1103515245) + 12345) >>> (Int32.toUInt32 15 &&& Int32.toUInt32 31)).toInt32)) * (-2048144789)) >>> (Int32.toUInt32 13 &&& Int32.toUInt32 31)).toInt32)), .int (Int32.ofNat k), .ref 0]) 9 rfl ?_
      refine f_iast rfl ha (i := k) (by omega) (by omega) ?_
      refine f_go (pc1 := 86) (lv1 := [(3, .int ((Int32.ofNat k) + 1)), (4, .int ((((seed * 1103515245) + 12345) ^^^ ((Int32.toUInt32 ((seed * 1103515245) + 12345) >>> (Int32.toUInt32 15 &&& Int32.toUInt32 31)).toInt32)) * (-2048144789))), (1, .int ((seed * 1103515245) + 12345)), (2, .ref 0)]) (st1 := []) 1 rfl ?_
      rw [nat_s]
      refine f_go (pc1 := 46) (lv1 := [(3, .int (Int32.ofNat (k + 1))), (4, .int ((((seed * 1103515245) + 12345) ^^^ ((Int32.toUInt32 ((seed * 1103515245) + 12345) >>> (Int32.toUInt32 15 &&& Int32.toUInt32 31)).toInt32)) * (-2048144789))), (1, .int ((seed * 1103515245) + 12345)), (2, .ref 0)]) (st1 := []) 1 rfl ?_
      refine f_lv [(3, .int (Int32.ofNat (k + 1))), (2, .ref 0), (1, .int ((seed * 1103515245) + 12345))] (fl_c rfl (fl_c rfl (fl_c rfl fl_0))) ?_
      exact ih (k + 1) _ _ _ _ (by omega) sI1_a h1 h2 h3 (fl_c rfl (fl_c rfl (fl_c rfl fl_0)))
  refine f_go (pc1 := 41) (lv1 := [(1, .int seed)]) (st1 := [.int 9]) 1 rfl ?_
  refine f_newi rfl (n := 9) (by omega) (by decide) ?_
  rw [hz]
  refine f_go (pc1 := 46) (lv1 := [(3, .int 0), (2, .ref 0), (1, .int seed)]) (st1 := []) 3 rfl ?_
  refine f_lv [(3, .int (Int32.ofNat 0)), (2, .ref 0), (1, .int seed)] (fl_c rfl (fl_c rfl (fl_c rfl fl_0))) ?_
  exact key 9 0 _ _ _ (fun _ => 0) rfl sI1_a (by show sZ σ + 1 = 1; omega) rfl rfl (fl_c rfl (fl_c rfl (fl_c rfl fl_0)))
theorem w_mono {p : Program} {l : Launch} {e : Env} {R : Room} {s : State} {m : MethodId} {args : Array Value} {below : List Frame} {meth : Method} {c : Code} {H : Heap} {locs : List Loc} {cells slots : Nat} {Q1 Q : State → Prop} {g : JFrame} (h : W p l e R s m args below meth c H locs cells slots Q1 g) (hq : ∀ t, Q1 t → Q t) : W p l e R s m args below meth c H locs cells slots Q g := fun T hT X => by
  obtain ⟨t, a, b⟩ := h T hT X
  exact ⟨t, a, hq t b⟩
def fl_z : fl_S := (fun _ _ => false, fun _ _ => .null, fun _ => none, fun _ => none, fun _ => none, 0, 0, 0)
theorem hp_z {t : ev_T} : Hp t fl_z := by
  unfold Hp
  refine ⟨fun ci a h => absurd (show false = true from h) Bool.false_ne_true, fun a x h => ?_, fun a x h => ?_, fun a x h => ?_, Nat.zero_le _⟩
  · exact absurd (show none = some x from h) (fun e => by simp at e)
  · exact absurd (show none = some x from h) (fun e => by simp at e)
  · exact absurd (show none = some x from h) (fun e => by simp at e)
def ev_X0 : ev_X := fun _ _ _ _ _ _ _ => False
theorem x0_sound {l : Launch} {D : va_G} {dA : Nat → ClassId} {B : ev_B} (d : Nat) : ∀ k as sz t r τ, Cd ev_X0 d k as sz t r τ → ev_Met l D vwCl dA ev_tl ev_ol ev_nl ev_ms B d k as sz t r τ := gl_sound (fun _ _ _ _ _ _ _ h => h.elim) d
def st_P (D : va_G) (dA : Nat → ClassId) (B : ev_B) (b L : Nat) (xs : Nat → Int32) : State → Prop := fun U => U.heap.size = B.1 ∧ ev_N D vwCl dA ev_tl ev_ol ev_nl U ∧ ev_Z B.1 B.2.2 U ∧ va_X b L xs U U.heap
def st_Q (D : va_G) (dA : Nat → ClassId) (B : ev_B) : Array Value → State → Outcome → State → Prop := fun a st oc u => ∃ t f, ev_g t 0 = some (.inl (0, 9, .inl f)) ∧ ev_Qc D vwCl dA B (some (.ref 0)) (1, t, 1, 9) a st oc u
set_option maxHeartbeats 4000000 in
theorem st_met {l : Launch} {D : va_G} {dA : Nat → ClassId} {B : ev_B} {b L : Nat} {xs : Nat → Int32} (hL : L ≤ 260) (hbl : b < B.1) : Met l yL_stirred (.code yL_stirred cL_stirred 6 (some (.array .int)) :: ev_big) (ev_rm 1 1 9) (va_Pc [.ref b] (st_P D dA B b L xs)) (st_Q D dA B) 1 9 (ev_A B) := by
  refine Met.ofW (cc := cL_stirred) (maxL := 6) (ret := some (.array .int)) (by decide) rfl ?_
  intro p e s m args below meth c s₁ BL hml hv
  obtain ⟨rfl, hsz, hN, hZ, hX⟩ := hv
  have hx := BL.exec
  have hb := BL.bytes
  have hr := BL.returns
  have hts := atoms_spec (ws := .code yL_stirred cL_stirred 6 (some (.array .int)) :: ev_big) BL.pre
  have hown : s.vm.findClass RL = some m.cls := findClass_of_methodNamed BL.named
  have hlocks := BL.notSynchronized
  have hmn : meth.name = "stirred" := (name_of_methodNamed BL.named BL.method).1
  have hbA : ¬ ev_A B b := fun h => absurd h (Nat.not_le.mpr hbl)
  have hbs : b < s.heap.size := by rw [hsz]; exact hbl
  have hS : va_S (ev_A B) s.heap s.heap [] := va_S.rf
  have hl := lv_entry ([.ref b]) (n := 6) (Nat.le_of_ble_eq_true rfl)
  rw [lg_entry_eq]
  generalize (lg_sl ([.ref b]) ++ List.replicate (6 - (lg_sl ([.ref b])).length) Slot.unset).toArray = ls at hl ⊢
  have hl : lv_has ls 6 [(0, .ref b)] := hl
  have fin : ∀ (seed : Int32) (ls : Array Slot), lv_has ls 6 [(1, .int seed)] → W p l e (headSpec (.code yL_stirred cL_stirred 6 (some (.array .int)) :: ev_big) (ev_rm 1 1 9)).room s m #[Value.ref b] below meth c s.heap [] 0 0 (MQ below (st_Q D dA B) #[Value.ref b] s 1 9 (ev_A B)) (F0 m 39 ls []) := by
    intro seed ls hl
    obtain ⟨r, σ', t', mc, ms, ⟨rfl, ⟨f, hf⟩, q1, q2, q3⟩, hH, c1, c2, n, hLp⟩ := st_eq (X := ev_X0) (d := 0) (σ := fl_z) rfl seed ev_mt 0 0 hp_z
    have e1 : mc = 1 := by have : sc fl_z + 1 = sc fl_z + mc := q2.symm.trans c1; omega
    have e2 : ms = 9 := by have : ss fl_z + 9 = ss fl_z + ms := q3.symm.trans c2; omega
    subst e1; subst e2
    rw [q1] at hLp
    have hg := (hH.2.1 0 _ hf).2
    have hgo := ev_Lp_ok (k := 126) (own := RL) (yn := "stirred") (cc := cL_stirred) (nL := 6) (ret := some (.array .int)) (d := 0) (B := B) (l := l) (D := D) (R := (headSpec (.code yL_stirred cL_stirred 6 (some (.array .int)) :: ev_big) (ev_rm 1 1 9)).room) (below := below) (meth := meth) (args := #[Value.ref b]) (e := e) (p := p) (mt := ev_ms) (dA := dA) (cl := vwCl) (ol := ev_ol) rfl hx hb hml hr hlocks hts hown hmn hN ev_df_nf rfl rfl ev_oc_ok ev_tb_ok ev_ms_ok (x0_sound (l := l) (D := D) (dA := dA) (B := B) 0) (Nat.le_refl _) (Nat.le_refl _) hZ n 39 [(1, .int seed)] [] (0, ev_mt, 0, 0) _ _ hLp
    refine w_mono (hgo.2.2 (Nat.le_refl _) (Nat.le_refl _) s.heap [] ls hl ⟨⟨hsz, fun a x hx => (gp_mt hx).elim⟩, va_S.rf⟩) ?_
    rintro t ⟨o, h1, h2, h3, h4⟩
    exact ⟨o, h1, h2, ⟨t', f, hg, h3⟩, h4⟩
  have key : ∀ (f k : Nat) (seed : Int32) (ls : Array Slot), k + f = L → lv_has ls 6 [(4, .int (nI k)), (3, .int (Int32.ofNat L)), (2, .ref b), (1, .int seed), (0, .ref b)] → W p l e (headSpec (.code yL_stirred cL_stirred 6 (some (.array .int)) :: ev_big) (ev_rm 1 1 9)).room s m #[Value.ref b] below meth c s.heap [] 0 0 (MQ below (st_Q D dA B) #[Value.ref b] s 1 9 (ev_A B)) (F0 m 11 ls []) := by
    intro f
    induction f with
    | zero =>
      intro k seed ls hk hl
      refine lv_iload hx hb dL_stirred_11 (lv_at hl 0 rfl) ?_
      refine lv_iload_n hx hb dL_stirred_13 rfl (lv_at hl 1 rfl) ?_
      refine lv_icmp_ge (tgt := 39) hx hb dL_stirred_14 (by decide) (fun _ => ?_) (fun c9 => absurd ((nI_leI (a := L) (b := k) (by omega) (by omega)).mpr (by omega)) c9)
      exact fin seed ls (lv_sub hl [3] rfl)
    | succ f ih =>
      intro k seed ls hk hl
      refine lv_iload hx hb dL_stirred_11 (lv_at hl 0 rfl) ?_
      refine lv_iload_n hx hb dL_stirred_13 rfl (lv_at hl 1 rfl) ?_
      refine lv_icmp_ge (tgt := 39) hx hb dL_stirred_14 (by decide) (fun c9 => absurd ((nI_leI (a := L) (b := k) (by omega) (by omega)).mp c9) (by omega)) (fun _ => ?_)
      refine lv_aload_n hx hb dL_stirred_17 rfl (lv_at hl 2 rfl) ?_
      refine lv_iload hx hb dL_stirred_18 (lv_at hl 0 rfl) ?_
      refine va_sld hx hb hX hbs hbA hS (i := nI k) (vp_in_nI (by omega) (by omega)) dL_stirred_20 ?_
      refine lv_topi (fun y1 _ => ?_)
      refine lv_istore (lv' := [(5, .int y1), (4, .int (nI k)), (3, .int (Int32.ofNat L)), (2, .ref b), (1, .int seed), (0, .ref b)]) hx hb dL_stirred_21 hl (by decide) rfl (fun ls hl => ?_)
      refine lv_iload_n hx hb dL_stirred_23 rfl (lv_at hl 4 rfl) ?_
      refine lv_iload hx hb dL_stirred_24 (lv_at hl 0 rfl) ?_
      refine lv_ixor hx hb dL_stirred_26 ?_
      refine lv_ldc hx hb hown (hts (.constant RL 40 (16777619)) (ev_mc bw_806)) dL_stirred_27 ?_
      refine lv_imul hx hb dL_stirred_29 ?_
      refine lv_iconst (v := 1) hx hb dL_stirred_30 (by decide) ?_
      refine lv_iadd hx hb dL_stirred_31 ?_
      refine lv_topi (fun y2 _ => ?_)
      refine lv_istore_n (lv' := [(1, .int y2), (5, .int y1), (4, .int (nI k)), (3, .int (Int32.ofNat L)), (2, .ref b), (0, .ref b)]) hx hb dL_stirred_32 rfl hl (by decide) rfl (fun ls hl => ?_)
      refine lv_iinc (v := nI (k + 1)) (lv' := [(4, .int (nI (k + 1))), (1, .int y2), (5, .int y1), (3, .int (Int32.ofNat L)), (2, .ref b), (0, .ref b)]) hx hb dL_stirred_33 hl (k := 2) rfl (nI_add k 1) (by decide) rfl (fun ls hl => ?_)
      refine lv_goto (tgt := 11) hx hb dL_stirred_36 (by decide) ?_
      exact ih (k + 1) y2 ls (by omega) (lv_sub hl [0, 3, 4, 1, 5] rfl)
  refine lv_bipush (v := 17) hx hb dL_stirred_0 (by decide) ?_
  refine lv_istore_n (lv' := [(1, .int 17), (0, .ref b)]) hx hb dL_stirred_2 rfl hl (by decide) rfl (fun ls hl => ?_)
  refine lv_aload_n hx hb dL_stirred_3 rfl (lv_at hl 1 rfl) ?_
  refine lv_astore_n (lv' := [(2, .ref b), (1, .int 17), (0, .ref b)]) hx hb dL_stirred_4 rfl hl (by decide) rfl (fun ls hl => ?_)
  refine lv_aload_n hx hb dL_stirred_5 rfl (lv_at hl 0 rfl) ?_
  refine va_slen hx hb hX hbs hbA hS dL_stirred_6 ?_
  refine lv_istore_n (lv' := [(3, .int (Int32.ofNat L)), (2, .ref b), (1, .int 17), (0, .ref b)]) hx hb dL_stirred_7 rfl hl (by decide) rfl (fun ls hl => ?_)
  refine lv_iconst (v := 0) hx hb dL_stirred_8 (by decide) ?_
  refine lv_istore (lv' := [(4, .int 0), (3, .int (Int32.ofNat L)), (2, .ref b), (1, .int 17), (0, .ref b)]) hx hb dL_stirred_9 hl (by decide) rfl (fun ls hl => ?_)
  exact key L 0 17 ls (Nat.zero_add _) hl
