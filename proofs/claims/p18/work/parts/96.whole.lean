/-! the law: from its start to its end -/
theorem TP_F {σ : fl_S} {x tp n b h : Nat} {TB : Nat → Int32} (he : Nat.beq h 321 = false) : sF (TP σ x tp n TB) b h = sF σ b h := by
  show sF (sU σ x 321 _) b h = _
  exact sU_gne he
theorem l_all {l : Launch} {D : va_G} {dA : Nat → ClassId} {B : ev_B} {σ : fl_S} {f : Nat → Int32} (hz : sZ σ = 1) (hs : sI σ 0 = some (9, f)) (hc : sc σ = 0) (he : ss σ = 0) :
    EQ (gl_X l D dA B) 61 125 4 [(0, .retAddr 2)] [.ref 0] σ (fun v σ' => v = some (.int 1) ∧ sc σ' ≤ 1000 ∧ ss σ' ≤ 200000) := by
  refine l_text (by decide) hz hs (fun L n m sh hi mo v w σL σ1 hD h1 h2 hU hS k1 k2 => ?_)
  obtain ⟨TB, hT, rfl⟩ := hS
  obtain ⟨u1, u2, u3, u4, u5, u6, ⟨s1, s2, s3, s4, s5, s6, s7⟩, ⟨⟨K0, a1⟩, ⟨V0, a2⟩, ⟨I0, a3⟩, ⟨H0, a4⟩, ⟨C0, a5⟩, ⟨A0, a6⟩, ⟨Z0, a7⟩⟩, uz⟩ := hU
  have hlen : (tx0 L n m sh hi mo (bdL n v w)).length ≤ 100 * (L + (n + m) + 7) := txS_le (fun c => txC_le) _ _
  have hD0 := hD
  obtain ⟨hL, hn, hm, -⟩ := hD0
  refine f_go (pc1 := 507) (lv1 := [(10, .int (Int32.ofNat mo)), (9, .int (Int32.ofNat hi)), (8, .int (Int32.ofNat sh)), (7, .int (Int32.ofNat L)), (6, .int w), (5, .int v), (4, .int (Int32.ofNat m)), (3, .int (Int32.ofNat n)), (2, .ref 1)]) (st1 := [.ref 1]) 1 rfl ?_
  refine f_vtQ rfl rfl u1 rfl (r_read (TB := TB) (K0 := K0) (V0 := V0) (I0 := I0) (H0 := H0) (C0 := C0) (A0 := A0) (Z0 := Z0) hD h1 h2 uz u1 u2 u3 ((TP_F rfl).trans u4) TP_len ((TP_F rfl).trans u5) ((TP_F rfl).trans u6) ((TP_F rfl).trans s1) ((TP_F rfl).trans s2) ((TP_F rfl).trans s3) ((TP_F rfl).trans s4) ((TP_F rfl).trans s5) ((TP_F rfl).trans s6) ((TP_F rfl).trans s7) a1 a2 a3 a4 a5 a6 a7 TP_Y (by omega) rfl hT) ?_
  rintro r σ2 ⟨rfl, lf, hDr, hF, c1, p1, k3, k4⟩
  show EQ _ 61 125 510 [(10, .int (Int32.ofNat mo)), (9, .int (Int32.ofNat hi)), (8, .int (Int32.ofNat sh)), (7, .int (Int32.ofNat L)), (6, .int w), (5, .int v), (4, .int (Int32.ofNat m)), (3, .int (Int32.ofNat n)), (2, .ref 1)] [.int 0] σ2 _
  refine f_go (pc1 := 515) (lv1 := [(10, .int (Int32.ofNat mo)), (9, .int (Int32.ofNat hi)), (8, .int (Int32.ofNat sh)), (7, .int (Int32.ofNat L)), (6, .int w), (5, .int v), (4, .int (Int32.ofNat m)), (3, .int (Int32.ofNat n)), (2, .ref 1)]) (st1 := []) 1 rfl ?_
  refine l_asks (by decide) hDr ⟨hF, c1, p1⟩ ⟨rfl, ?_, ?_⟩
  · have : sc (TP σL 1 2 (tx0 L n m sh hi mo (bdL n v w)).length TB) = sc σL := rfl
    omega
  · have : ss (TP σL 1 2 (tx0 L n m sh hi mo (bdL n v w)).length TB) = ss σL := rfl
    omega
theorem mq_Z {below : List Frame} {b : Nat} {s t : State} {mc ms : Nat} {B : ev_B} {D : va_G} {cl : List vw_C} {dA : Nat → ClassId} {τ : ev_S} (hB : B.1 = s.heap.size) (hmc : mc ≤ 600000) (hms : ms ≤ 7302249) (h : MQ below (ev_Qc D cl dA B (some (.int 1)) τ) #[Value.ref b] s mc ms (ev_A B) t) : lw_Z below #[Value.ref b] s t := by
  obtain ⟨o, h1, h2, ⟨rfl, -, -⟩, L, ⟨hv, hw, hs⟩, hL⟩ := h
  refine ⟨_, h1, h2, rfl, hv, hw, ?_⟩
  obtain ⟨e1, e2, e3, e4, e5, e6⟩ := hs
  refine ⟨e1, e2, by omega, e4, Nat.le_trans e5 hms, fun a c hc => ?_⟩
  obtain ⟨c', k1, k2, k3, k4⟩ := e6 a c hc
  refine ⟨c', k1, k2, k3, fun i _ => k4 i (fun hm => ?_)⟩
  have h3 : B.1 ≤ a := hL _ hm
  exact absurd (Array.getElem?_eq_some_iff.mp hc).1 (Nat.not_lt.mpr (by rw [← hB]; exact h3))
theorem st_blind {D : va_G} {dA : Nat → ClassId} {B : ev_B} {b L : Nat} {xs : Nat → Int32} : FrameBlind (va_Pc [.ref b] (st_P D dA B b L xs)) := fun a U g mk h =>
  ⟨h.1, h.2.1, ⟨va_K.moved (u := U) (U := U.calling g mk a) (Vm.Alike.refl U.vm) h.2.2.1.1, fun C hC => va_AO.moved (u := U) (U := U.calling g mk a) (Vm.Alike.refl U.vm) (h.2.2.1.2.1 C hC), fun q hq => va_Nw.same (u := U) rfl rfl (h.2.2.1.2.2 q hq)⟩, ev_Z.calling h.2.2.2.1, va_X.moved (u := U) (U := U.calling g mk a) (Vm.Alike.refl U.vm) h.2.2.2.2⟩
theorem st_goes {p : Program} {l : Launch} {e : Env} {R : Room} {s : State} {m : MethodId} {args : Array Value} {below : List Frame} {meth : Method} {c : Code} {Q : State → Prop} {D : va_G} {dA : Nat → ClassId} {pc : Nat} {ls : Array Slot} {st0 rest : List Value} {a : Array Value} {B : ev_B} (hB : B.1 = s.heap.size)
    (hr : va_Run p l e R s m args below meth c s.heap [] 0 0 1 9 (F0 m pc ls st0) rest (st_Q D dA B a) (ev_A B))
    (kk : ∀ (t : ev_T) (f : Nat → Int32) (H1 : Heap) (locs1 : List Loc), ev_g t 0 = some (.inl (0, 9, .inl f)) → ev_In D vwCl dA B s.heap H1 locs1 t 1 → W p l e R s m args below meth c H1 locs1 1 9 Q (F0 m (pc + 3) ls (.ref (B.1 + 0) :: rest))) : W p l e R s m args below meth c s.heap [] 0 0 Q (F0 m pc ls st0) := by
  intro T hT X
  obtain ⟨v, st₀, t, T', L, h0, X', hL, e1, e2, ⟨tt, f, hg, hv, hR, hz, hk⟩, st⟩ := hr T hT X
  cases hv
  rw [h0] at hz hk
  obtain ⟨t2, a1, b1⟩ := kk tt f T'.heap ([] ++ L) hg ⟨by rw [e1]; exact hR, by rw [e1]; exact hz, fun q h1 h2 => by rw [e1, hk q h1 h2], fun q hq => hL q (by simpa using hq)⟩ T' rfl X'
  exact ⟨t2, st t2 a1, b1⟩
def fl_1 (f : Nat → Int32) : fl_S := (fun _ _ => false, fun _ _ => .null, fun a => bif Nat.beq a 0 then some (9, f) else none, fun _ => none, fun _ => none, 1, 0, 0)
theorem hp_1 {t : ev_T} {f : Nat → Int32} (h : ev_g t 0 = some (.inl (0, 9, .inl f))) : Hp t (fl_1 f) := by
  unfold Hp
  refine ⟨fun ci a h => absurd (show false = true from h) Bool.false_ne_true, fun a x hx => ?_, fun a x h => ?_, fun a x h => ?_, (by decide : 1 ≤ 256)⟩
  · have hx : (bif Nat.beq a 0 then some (9, f) else none) = some x := hx
    by_cases e : a = 0
    · subst e
      cases (show some (9, f) = some x from hx)
      exact ⟨(by decide : 0 < 1), h⟩
    · rw [nb_ne e] at hx
      exact absurd (show none = some x from hx) (fun e => by simp at e)
  · exact absurd (show none = some x from h) (fun e => by simp at e)
  · exact absurd (show none = some x from h) (fun e => by simp at e)
set_option maxHeartbeats 4000000 in
theorem whole_start {p : Program} {e : Env} {s : State} {m : MethodId} {below : List Frame} {meth : Method} {c : Code} (l : Launch) (hflags : l.flags = flags0) {b L : Nat} {xs : Nat → Int32} (hL : L ≤ 260) (C0 : lw_At p s m meth c b L xs) : W p l e room_1 s m #[Value.ref b] below meth c s.heap [] 0 0 (lw_Z below #[Value.ref b] s) (entryFrame m ([Value.ref b] : List Value).toArray 19) := by
  obtain ⟨hx, hb, hr, hml, hown, htsT, hX, hbl, hlocks, hgv, hcd, hnm⟩ := id C0
  obtain ⟨D, dA, hN⟩ := law_N htsT
  obtain ⟨B, hB, hB2, hZ⟩ := law_Z htsT hgv
  have hown : s.vm.findClass RL = some m.cls := hown
  have hts : ∀ w ∈ (Cond.code yL_law cL_law 19 (some .boolean) :: ev_big), w.before #[Value.ref b] s = true := fun w hw => (List.mem_cons.mp hw).elim (fun e => by rw [e]; exact hcd) (fun h => htsT w (in_big w h))
  have hl := lv_entry ([.ref b]) (n := 19) (Nat.le_of_ble_eq_true rfl)
  rw [lg_entry_eq]
  generalize (lg_sl ([.ref b]) ++ List.replicate (19 - (lg_sl ([.ref b])).length) Slot.unset).toArray = ls at hl ⊢
  have hl : lv_has ls 19 [(0, .ref b)] := hl
  refine lv_aload_n hx hb dL_law_0 rfl (lv_at hl 0 rfl) ?_
  have hS : CallFix p m c cL_law 19 s #[Value.ref b] (Cond.code yL_law cL_law 19 (some .boolean) :: ev_big) RL := ⟨hx, hb, hml, hown, hts⟩
  obtain ⟨t1, -, t3⟩ := ev_tb_ok 125 1 (.invokestatic 43, 3, 126, 1, 1, 0) rfl
  obtain ⟨q1, q2, -, -⟩ := t3
  have q1 := q1 rfl
  have q4 : GoodIn (Cond.code yL_law cL_law 19 (some .boolean) :: ev_big) (wsS RL 43 yL_stirred (.code yL_stirred cL_stirred 6 (some (.array .int)) :: ev_big)) := by
    rcases q2 rfl with ⟨-, -, q4⟩ | ⟨h, -⟩ | ⟨h, -⟩
    · exact q4
    · exact absurd h (by decide)
    · exact absurd h (by decide)
  refine st_goes (D := D) (dA := dA) hB (va_runS (As := [.ref b]) (rest := []) hS (st_met (l := l) (D := D) (dA := dA) (B := B) (b := b) (L := L) (xs := xs) hL (by rw [hB]; exact hbl)) (cwS 1 hts q4 rfl rfl rfl ⟨rfl, q1⟩ ⟨by decide, by decide⟩) ⟨st_blind, fun U hU hW => ⟨rfl, by rw [hU, hB], hN.moved hW, hZ.moved hW (fun a _ _ => by rw [hU]), by rw [hU]; exact va_X.moved hW.alike hX⟩⟩ rfl rfl hl.1 rfl (lv_room (Nat.le_of_ble_eq_true rfl)) t1 ⟨by decide, by decide⟩) (fun t f H1 locs1 hg hI => ?_)
  obtain ⟨r, σ', t', mc, ms, ⟨rfl, g2, g3⟩, hH, c1, c2, n, hLp⟩ := l_all (l := l) (D := D) (dA := dA) (B := B) (σ := fl_1 f) rfl rfl rfl rfl t 1 9 (hp_1 hg)
  have e1 : mc ≤ 1000 := by have : sc σ' = 0 + mc := c1; omega
  have e2 : ms ≤ 200000 := by have : ss σ' = 0 + ms := c2; omega
  have hgo := ev_Lp_ok (k := 125) (own := RL) (yn := "law") (cc := cL_law) (nL := 19) (ret := some .boolean) (d := 61) (B := B) (l := l) (D := D) (R := room_1) (below := below) (meth := meth) (args := #[Value.ref b]) (e := e) (p := p) (mt := ev_ms) (dA := dA) (cl := vwCl) (ol := ev_ol) rfl hx hb hml hr hlocks hts hown hnm hN ev_df_nf rfl rfl ev_oc_ok ev_tb_ok ev_ms_ok (gl_sound (l := l) (D := D) (dA := dA) (B := B) (X := gl_X l D dA B) (fun _ _ _ _ _ _ _ h => h) 61) (by decide) (by decide) hZ n 4 [(0, .retAddr 2)] [.ref 0] (1, t, 1, 9) _ _ hLp
  have hl2 : lv_has ls 19 (ev_lB B [(0, .retAddr 2)]) := by
    show lv_has ls 19 [(0, va_rf (B.2.2 2))]
    rw [hB2]
    exact hl
  refine w_mono (hgo.2.2 (by show 1 + mc ≤ 600000; omega) (by show 9 + ms ≤ 7302249; omega) H1 locs1 ls hl2 hI) (fun t ht => mq_Z hB (by show 1 + mc ≤ 600000; omega) (by show 9 + ms ≤ 7302249; omega) ht)

