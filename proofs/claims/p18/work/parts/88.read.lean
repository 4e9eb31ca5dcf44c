/-! read, all of it -/
/-- the bytes of a drawing's text -/
def tx0 (L n m sh hi mo : Nat) (bd : Nat → Nat) : List Nat := txS (txC L n m sh hi mo bd) (L + (n + m) + 7) 0
/-- numbers not known, told from what was read and drawn -/
def rd_lf (n sh hi mo : Nat) (bd : Nat → Nat) (N p ln q : Nat) (K V I : Nat → Int32) (u : UInt32) : Int32 := bif Nat.ble 30000 u.toNat then I (u.toNat - 30000) else bif Nat.ble 20000 u.toNat then V (u.toNat - 20000) else bif Nat.ble 10000 u.toNat then K (u.toNat - 10000) else bif Nat.beq u.toNat 1012 then Int32.ofNat N else bif Nat.beq u.toNat 1013 then Int32.ofNat p else bif Nat.beq u.toNat 1014 then Int32.ofNat ln else bif Nat.beq u.toNat 1015 then Int32.ofNat q else Int32.ofNat (dcN n sh hi mo bd u.toNat)
section W88A
variable {n sh hi mo N p ln q : Nat} {bd : Nat → Nat} {K V I : Nat → Int32}
theorem u32_n {x : Nat} (h : x < 100000) : (UInt32.ofNat x).toNat = x := by
  rw [UInt32.toNat_ofNat']
  exact Nat.mod_eq_of_lt (by omega)
theorem rd_I {j : Nat} (h : j < 6001) : rd_lf n sh hi mo bd N p ln q K V I (UInt32.ofNat (30000 + j)) = I j := by
  unfold rd_lf
  rw [u32_n (by omega), bleT (show 30000 ≤ 30000 + j by omega), Nat.add_sub_cancel_left]
  rfl
theorem rd_V {j : Nat} (h : j < 6001) : rd_lf n sh hi mo bd N p ln q K V I (UInt32.ofNat (20000 + j)) = V j := by
  unfold rd_lf
  rw [u32_n (by omega), bleF (show 20000 + j < 30000 by omega), bleT (show 20000 ≤ 20000 + j by omega), Nat.add_sub_cancel_left]
  rfl
theorem rd_K {j : Nat} (h : j < 6001) : rd_lf n sh hi mo bd N p ln q K V I (UInt32.ofNat (10000 + j)) = K j := by
  unfold rd_lf
  rw [u32_n (by omega), bleF (show 10000 + j < 30000 by omega), bleF (show 10000 + j < 20000 by omega), bleT (show 10000 ≤ 10000 + j by omega), Nat.add_sub_cancel_left]
  rfl
theorem rd_s {x : Nat} (h : x < 1012) : rd_lf n sh hi mo bd N p ln q K V I (UInt32.ofNat x) = Int32.ofNat (dcN n sh hi mo bd x) := by
  unfold rd_lf
  rw [u32_n (by omega), bleF (show x < 30000 by omega), bleF (show x < 20000 by omega), bleF (show x < 10000 by omega), nb_ne (show x ≠ 1012 by omega), nb_ne (show x ≠ 1013 by omega), nb_ne (show x ≠ 1014 by omega), nb_ne (show x ≠ 1015 by omega)]
  rfl
end W88A
/-- which bytes may stand in a text -/
def okc (x : Nat) : Bool := Nat.ble x 127 && (!Nat.beq x 9 && (!Nat.beq x 13 && !Nat.beq x 40))
theorem okc_ok {x : Nat} (h : okc x = true) : x < 128 ∧ x ≠ 9 ∧ x ≠ 13 ∧ x ≠ 40 := by
  unfold okc at h
  simp only [Bool.and_eq_true, Bool.not_eq_true'] at h
  obtain ⟨h1, h2, h3, h4⟩ := h
  have := Nat.le_of_ble_eq_true h1
  refine ⟨by omega, fun e => ?_, fun e => ?_, fun e => ?_⟩ <;> subst e
  · cases h2
  · cases h3
  · cases h4
def okL (l : List Nat) : Bool := l.all okc
theorem ev_blh {α : Type} {P : α → Prop} {c : Bool} {x y : α} (hx : c = true → P x) (hy : c = false → P y) : P (bif c then x else y) := by
  cases c
  · exact hy rfl
  · exact hx rfl
theorem okq_t : (okL cI0 && (okL cI1 && (okL cT0 && (okL cT2 && okL cT4)))) = true := by decide +kernel
theorem okq_k : ((List.range 20).all fun k => okL (cLv k) && (okL (cOp k) && (okL (cT1 k) && okL (cT3 k)))) = true := by decide +kernel
theorem okq_r : ((List.range 20).all fun k => (List.range 8).all fun q => (List.range 3).all fun b => okL (cRg 97 k q b) && okL (cRg 98 k q b)) = true := by decide +kernel
theorem tx_okc {L n m sh hi mo : Nat} {bd : Nat → Nat} (hD : DB L n m sh hi mo bd) {c : Nat} (hc : c < L + (n + m) + 7) : okL (txC L n m sh hi mo bd c) = true := by
  obtain ⟨hL, hn, hm, h1, h2, h3, h4⟩ := hD
  have t := okq_t
  simp only [Bool.and_eq_true] at t
  obtain ⟨t1, t2, t3, t4, t5⟩ := t
  have tk : ∀ k, k < 20 → okL (cLv k) = true ∧ okL (cOp k) = true ∧ okL (cT1 k) = true ∧ okL (cT3 k) = true := fun k hk => by
    have := rall okq_k hk
    simpa only [Bool.and_eq_true] using this
  have tr : ∀ k q b, k < 20 → q < 8 → b < 3 → okL (cRg 97 k q b) = true ∧ okL (cRg 98 k q b) = true := fun k q b hk hq hb => by
    have := rall (rall (rall okq_r hk) hq) hb
    simpa only [Bool.and_eq_true] using this
  unfold txC
  refine ev_blh (P := fun l => okL l = true) (fun _ => t1) (fun e0 => ?_)
  refine ev_blh (P := fun l => okL l = true) (fun _ => ev_blh (P := fun l => okL l = true) (fun _ => t2) (fun _ => (tk _ (by omega)).1)) (fun e1 => ?_)
  refine ev_blh (P := fun l => okL l = true) (fun _ => (tk _ (by omega)).2.1) (fun e2 => ?_)
  refine ev_blh (P := fun l => okL l = true) (fun e3 => ?_) (fun e3 => ?_)
  · have e3 := Nat.le_of_ble_eq_true e3
    have e1 : ¬ c ≤ L := fun h => by rw [bleT h] at e1; cases e1
    have e2 : c ≠ L + 1 := fun h => by rw [h, nb_self] at e2; cases e2
    have hb := h4 (c - (L + 2)) (by omega)
    refine ev_blh (P := fun l => okL l = true) (fun _ => (tr _ _ _ (by omega) ?_ (by omega)).2) (fun _ => (tr _ _ _ (by omega) ?_ (by omega)).1)
    · exact Nat.lt_of_lt_of_le (Nat.mod_lt _ (by omega)) (by omega)
    · exact Nat.lt_of_lt_of_le (Nat.mod_lt _ (by omega)) (by omega)
  refine ev_blh (P := fun l => okL l = true) (fun _ => t3) (fun _ => ?_)
  refine ev_blh (P := fun l => okL l = true) (fun _ => (tk _ (by omega)).2.2.1) (fun _ => ?_)
  refine ev_blh (P := fun l => okL l = true) (fun _ => t4) (fun _ => ?_)
  exact ev_blh (P := fun l => okL l = true) (fun _ => (tk _ (by omega)).2.2.2) (fun _ => t5)
theorem txS_all {tx : Nat → List Nat} {NC : Nat} (h : ∀ c, c < NC → okL (tx c) = true) : ∀ (k c : Nat), c + k ≤ NC → okL (txS tx k c) = true
  | 0, c, _ => rfl
  | k + 1, c, hk => by
    have h1 := h c (by omega)
    have h2 := txS_all h k (c + 1) (by omega)
    unfold okL at h1 h2 ⊢
    show (tx c ++ txS tx k (c + 1)).all okc = true
    rw [List.all_append, h1, h2]
    rfl
set_option maxRecDepth 100000 in
theorem kT : ((List.range 4).all fun L => (List.range 4).all fun n => (List.range 4).all fun m => Nat.beq (tk_kd (L + 2) (n + 1) (m + 1) (tk_n (L + 2) (n + 1) (m + 1))) 0 && (List.range 230).all fun j => Nat.ble (tk_kd (L + 2) (n + 1) (m + 1) j) 999 && Nat.ble (tk_vl (L + 2) (n + 1) (m + 1) j) 1011) = true := by decide +kernel
theorem tk_ok {L n m : Nat} (hL : 2 ≤ L ∧ L ≤ 5) (hn : 1 ≤ n ∧ n ≤ 4) (hm : 1 ≤ m ∧ m ≤ 4) : tk_kd L n m (tk_n L n m) = 0 ∧ ∀ j, j < 230 → tk_kd L n m j ≤ 999 ∧ tk_vl L n m j ≤ 1011 := by
  have h := rall (rall (rall kT (show L - 2 < 4 by omega)) (show n - 1 < 4 by omega)) (show m - 1 < 4 by omega)
  rw [show L - 2 + 2 = L by omega, show n - 1 + 1 = n by omega, show m - 1 + 1 = m by omega, Bool.and_eq_true] at h
  refine ⟨Nat.eq_of_beq_eq_true h.1, fun j hj => ?_⟩
  have := rall h.2 hj
  rw [Bool.and_eq_true] at this
  exact ⟨Nat.le_of_ble_eq_true this.1, Nat.le_of_ble_eq_true this.2⟩
theorem rd_Dr {L n m sh hi mo N p ln q : Nat} {bd : Nat → Nat} {K V I : Nat → Int32} (hD : DB L n m sh hi mo bd) (h1 : sh ≤ hi) (h2 : mo ≤ hi) : Dr (rd_lf n sh hi mo bd N p ln q K V I) L n m sh hi mo bd := by
  obtain ⟨hL, hn, hm, g1, g2, g3, g4⟩ := hD
  refine ⟨hL, hn, hm, h1, g2, h2, rd_s (by decide), rd_s (by decide), rd_s (by decide), fun r hr => ⟨?_, g4 r hr⟩⟩
  have hb : 1000 ≤ r_b n r ∧ r_b n r < 1012 := by
    unfold r_b
    by_cases e : n ≤ r
    · rw [bleT e]; exact ⟨by show 1000 ≤ 1005 + (r - n); omega, by show 1005 + (r - n) < 1012; omega⟩
    · rw [bleF (show r < n by omega)]; exact ⟨by show 1000 ≤ 1001 + r; omega, by show 1001 + r < 1012; omega⟩
  unfold iv
  rw [bleT hb.1]
  show Value.int (rd_lf n sh hi mo bd N p ln q K V I (UInt32.ofNat (r_b n r))) = _
  rw [rd_s hb.2, dcN_b hn.2 hm.2 hr]
theorem EQ_mono {X : ev_X} {d k pc : Nat} {lv : ev_L} {st : List Value} {σ : fl_S} {Q1 Q : Option Value → fl_S → Prop} (h : EQ X d k pc lv st σ Q1) (hq : ∀ v σ1, Q1 v σ1 → Q v σ1) : EQ X d k pc lv st σ Q := fun t c s ht => by
  obtain ⟨r, σ', t', mc, ms, h1, h2⟩ := h t c s ht
  exact ⟨r, σ', t', mc, ms, hq _ _ h1, h2⟩
section W88
variable {l : Launch} {D : va_G} {dA : Nat → ClassId} {B : ev_B}
theorem r_read {L n m sh hi mo N : Nat} {bd : Nat → Nat} {TB : Nat → Int32} {K0 V0 I0 H0 C0 A0 Z0 : Nat → Int32} {σ : fl_S} (hD : DB L n m sh hi mo bd) (h1 : sh ≤ hi) (h2 : mo ≤ hi) (hz : sZ σ = 21)
    (c1 : sC σ 10 1 = true) (c3 : sC σ 7 3 = true) (c11 : sC σ 2 11 = true) (f1 : sF σ 1 320 = .ref 2) (f2 : sF σ 1 321 = .int (Int32.ofNat N)) (f3 : sF σ 1 322 = .ref 3) (f4 : sF σ 1 323 = .ref 11) (s1 : sF σ 3 224 = .ref 4) (s2 : sF σ 3 225 = .ref 5) (s3 : sF σ 3 226 = .ref 6) (s4 : sF σ 3 232 = .ref 7) (s5 : sF σ 3 233 = .ref 8) (s6 : sF σ 3 234 = .ref 9) (s7 : sF σ 3 235 = .ref 10)
    (a1 : sI σ 4 = some (6001, K0)) (a2 : sI σ 5 = some (6001, V0)) (a3 : sI σ 6 = some (6001, I0)) (a4 : sI σ 7 = some (256, H0)) (a5 : sI σ 8 = some (3001, C0)) (a6 : sI σ 9 = some (3001, A0)) (a7 : sI σ 10 = some (3001, Z0)) (ht : sY σ 2 = some (6000, TB)) (hN : N ≤ 6000) (hN0 : (tx0 L n m sh hi mo bd).length = N) (hT : ∀ j x, (tx0 L n m sh hi mo bd)[j]? = some x → TB j = Int32.ofNat x) :
    CQ (gl_X l D dA B) 61 4 [.ref 1] σ (fun v σ1 => v = some (.int 0) ∧ ∃ lf, Dr lf L n m sh hi mo bd ∧ FIN lf L n m sh hi mo bd (ps_z L n m + 1) σ1 ∧ sC σ1 10 1 = true ∧ sF σ1 1 324 = .ref (ps_z L n m + 1) ∧ sc σ1 ≤ sc σ + 200 ∧ ss σ1 ≤ ss σ + 7000) := by
  have hD0 := hD
  obtain ⟨hL, hn, hm, -⟩ := hD0
  obtain ⟨C, F, I9, Y, R, z, c, s9⟩ := σ
  have hz : z = 21 := hz
  subst hz
  obtain ⟨T, hTd⟩ : ∃ T : Nat → Nat, T = fun j => (tx0 L n m sh hi mo bd).getD j 0 := ⟨_, rfl⟩
  have hTg : ∀ j x, (tx0 L n m sh hi mo bd)[j]? = some x → T j = x := fun j x hx => by rw [hTd]; show (tx0 L n m sh hi mo bd).getD j 0 = x; rw [List.getD_eq_getElem?_getD, hx]; rfl
  have hTx : ∀ j, j < N → (tx0 L n m sh hi mo bd)[j]? = some (T j) := fun j hj => by
    have h9 : (tx0 L n m sh hi mo bd)[j]? = some ((tx0 L n m sh hi mo bd)[j]'(by omega)) := List.getElem?_eq_getElem _
    rw [h9, hTg j _ h9]
  have hok : okL (tx0 L n m sh hi mo bd) = true := txS_all (fun c hc => tx_okc hD hc) _ 0 (by omega)
  have hTc : ∀ j, j < N → T j < 128 ∧ T j ≠ 9 ∧ T j ≠ 13 ∧ T j ≠ 40 := fun j hj => okc_ok (List.all_eq_true.mp hok _ (List.mem_of_getElem? (hTx j hj)))
  have hTB : ∀ j, j < N → TB j = Int32.ofNat (T j) := fun j hj => hT j _ (hTx j hj)
  have hLx := lx_all (T := T) (n := N) (NC := L + (n + m) + 7) (tx := txC L n m sh hi mo bd) (nm := nmP L n m) (fun c hc => tx_ok hD hc) (L + (n + m) + 7) 0 0 (fun _ => 0) (fun _ => 0) (Nat.zero_add _) ⟨by rw [Nat.zero_add]; exact hN0, fun i x hx => by rw [Nat.zero_add]; exact hTg i x hx⟩ (fun id w hw => by rw [show nmP L n m 0 = [] from rfl] at hw; cases id <;> cases hw)
  obtain ⟨o1, o2⟩ := ofC_ok (R := n + m) hL (by omega)
  obtain ⟨q1, -, q3⟩ := tkS_at (NC := L + (n + m) + 7) (tk := fun c => (List.range (lnC L (n + m) c)).map (fun i => (tk_kd L n m (ofC L (n + m) c + i), dcN n sh hi mo bd (tk_vl L n m (ofC L (n + m) c + i))))) (of := ofC L (n + m)) (g := fun j => (tk_kd L n m j, dcN n sh hi mo bd (tk_vl L n m j))) o2 (fun c _ => rfl) (L + (n + m) + 7) 0 (by omega)
  rw [Nat.zero_add] at q1 q3
  have hn9 : ofC L (n + m) (L + (n + m) + 7) = tk_n L n m := by rw [o1]; unfold tk_n; omega
  rw [hn9] at q1 q3
  have q1 : (tkS (fun c => (List.range (lnC L (n + m) c)).map (fun i => (tk_kd L n m (ofC L (n + m) c + i), dcN n sh hi mo bd (tk_vl L n m (ofC L (n + m) c + i))))) (L + (n + m) + 7) 0).length = tk_n L n m := q1
  have q3 : ∀ j, j < tk_n L n m → ∃ l, (tkS (fun c => (List.range (lnC L (n + m) c)).map (fun i => (tk_kd L n m (ofC L (n + m) c + i), dcN n sh hi mo bd (tk_vl L n m (ofC L (n + m) c + i))))) (L + (n + m) + 7) 0)[j]? = some (tkI l (tk_kd L n m j, dcN n sh hi mo bd (tk_vl L n m j))) := fun j hj => q3 j (Nat.zero_le _) hj
  have hLx : Lx T N (WDt T) (SGt T N) (SEt T N) (sgnt T N) _ 0 1 0 (fun _ => 0) (fun _ => 0) := hLx
  generalize tkS (fun c => (List.range (lnC L (n + m) c)).map (fun i => (tk_kd L n m (ofC L (n + m) c + i), dcN n sh hi mo bd (tk_vl L n m (ofC L (n + m) c + i))))) (L + (n + m) + 7) 0 = full at hLx q1 q3
  have hkn : tk_n L n m < 230 := by unfold tk_n; omega
  refine f_meth (by omega) rfl ?_
  refine f_go (pc1 := 2) (lv1 := [(0, .ref 1)]) (st1 := [.null, .ref 1]) 2 rfl ?_
  refine f_putf rfl rfl (g := 324) rfl c1 rfl ?_
  refine f_go (pc1 := 6) (lv1 := [(0, .ref 1)]) (st1 := [.ref 1]) 1 rfl ?_
  refine f_getf rfl rfl (g := 323) rfl c1 ((sU_gne rfl).trans f4) ?_
  refine f_vt rfl rfl c11 rfl (g_clear (by omega) c11) ?_
  refine f_go (pc1 := 13) (lv1 := [(0, .ref 1)]) (st1 := [.ref 1]) 1 rfl ?_
  refine f_getf rfl rfl (g := 322) rfl c1 ((sU_gne rfl).trans ((sU_gne rfl).trans ((sU_gne rfl).trans f3))) ?_
  refine f_go (pc1 := 17) (lv1 := [(0, .ref 1)]) (st1 := [.ref 1, .ref 3]) 1 rfl ?_
  refine f_getf rfl rfl (g := 320) rfl c1 ((sU_gne rfl).trans ((sU_gne rfl).trans ((sU_gne rfl).trans f1))) ?_
  refine f_go (pc1 := 21) (lv1 := [(0, .ref 1)]) (st1 := [.ref 1, .ref 2, .ref 3]) 1 rfl ?_
  refine f_getf rfl rfl (g := 321) rfl c1 ((sU_gne rfl).trans ((sU_gne rfl).trans ((sU_gne rfl).trans f2))) ?_
  have hb1 : ∀ g v, Nat.beq g 324 = false → Nat.beq g 64 = false → Nat.beq g 72 = false → sF (C, F, I9, Y, R, 21, c, s9) 3 g = v → sF (sU (sU (sU (C, F, I9, Y, R, 21, c, s9) 1 324 .null) 11 64 .null) 11 72 (.int 0)) 3 g = v := fun g v e1 e2 e3 e => (sU_gne e3).trans ((sU_gne e2).trans ((sU_gne e1).trans e))
  have hSW : SW (sU (sU (sU (sU (sU (C, F, I9, Y, R, 21, c, s9) 1 324 .null) 11 64 .null) 11 72 (.int 0)) 3 228 (.ref 2)) 3 229 (.int (Int32.ofNat N))) 3 2 N T := ⟨c3, (sU_gne rfl).trans ((sU_gne rfl).trans (hb1 224 _ rfl rfl rfl s1)), (sU_gne rfl).trans ((sU_gne rfl).trans (hb1 225 _ rfl rfl rfl s2)), (sU_gne rfl).trans ((sU_gne rfl).trans (hb1 226 _ rfl rfl rfl s3)), (sU_gne rfl).trans ((sU_gne rfl).trans (hb1 232 _ rfl rfl rfl s4)), (sU_gne rfl).trans ((sU_gne rfl).trans (hb1 233 _ rfl rfl rfl s5)), (sU_gne rfl).trans ((sU_gne rfl).trans (hb1 234 _ rfl rfl rfl s6)), (sU_gne rfl).trans ((sU_gne rfl).trans (hb1 235 _ rfl rfl rfl s7)), (sU_gne rfl).trans sU_at, sU_at, ⟨TB, ht, hTB⟩, hN, hTc⟩
  refine f_vtQ rfl rfl c3 rfl (g_scan (d := 60) (σ := sU (sU (sU (C, F, I9, Y, R, 21, c, s9) 1 324 .null) 11 64 .null) 11 72 (.int 0)) (by decide) (s := 3) (tx := 2) (n := N) (T := T) (TB := TB) (WD := WDt T) (SG := SGt T N) (SE := SEt T N) (sgn := sgnt T N) c3 (hb1 224 _ rfl rfl rfl s1) (hb1 225 _ rfl rfl rfl s2) (hb1 226 _ rfl rfl rfl s3) (hb1 232 _ rfl rfl rfl s4) (hb1 233 _ rfl rfl rfl s5) (hb1 234 _ rfl rfl rfl s6) (hb1 235 _ rfl rfl rfl s7) a1 a2 a3 a4 a5 a6 a7 ht hTB hN hTc (fun p' q len ln k m K V L H C A Z hq => g_wordAt (by decide) hSW hq) (fun q ln k m K V L H C A Z hq hs hk => g_scanSign (by decide) hSW hq hs hk) (full := full) (by omega) hLx) ?_
  rintro v σ1 ⟨rfl, p, ln, q, K, V, I, H, C', A, Z, hKV, hK0, rfl⟩
  rw [q1] at hK0 ⊢
  clear hSW hLx
  show EQ _ 60 4 27 [(0, .ref 1)] [] _ _
  refine f_go (pc1 := 29) (lv1 := [(0, .ref 1)]) (st1 := [.int 0, .ref 1]) 2 rfl ?_
  refine f_putf rfl rfl (g := 321) rfl c1 rfl ?_
  refine f_new rfl (show 21 < 256 by decide) rfl ?_
  refine f_go (pc1 := 37) (lv1 := [(0, .ref 1)]) (st1 := [.ref 1, .ref 21, .ref 21]) 2 rfl ?_
  refine f_getf rfl rfl (g := 322) rfl (v := .ref 3) c1 f3 ?_
  refine f_sp rfl rfl rfl rfl (g_psInit (by omega) rfl (show 22 + 5 ≤ 256 by decide)) ?_
  refine f_go (pc1 := 45) (lv1 := [(1, .ref 21), (0, .ref 1)]) (st1 := [.ref 21]) 2 rfl ?_
  have hDr := rd_Dr (N := N) (p := p) (ln := ln) (q := q) (K := K) (V := V) (I := I) hD h1 h2
  obtain ⟨t0, t1⟩ := tk_ok hL hn hm
  refine f_vtQ rfl rfl rfl rfl (g_parse (lf := rd_lf n sh hi mo bd N p ln q K V I) (K := K) (V := V) (I := I) (O := fun _ => 0) (W := fun _ => 0) hL hn hm rfl ⟨c1, ?_⟩ ⟨c3, ?_⟩ ⟨rfl, rfl⟩ ⟨rfl, rfl⟩ ⟨rfl, rfl⟩ ⟨rfl, rfl⟩ rfl rfl rfl rfl rfl ?_ ?_ ?_ (fun _ _ => rfl) (fun _ _ => rfl)) ?_
  · show [F 1 320, .int 0, F 1 322, F 1 323, .null] = _
    rw [show F 1 320 = .ref 2 from f1, show F 1 322 = .ref 3 from f3, show F 1 323 = .ref 11 from f4]
    rfl
  · show [F 3 224, F 3 225, F 3 226, .int (Int32.ofNat (tk_n L n m)), .ref 2, .int (Int32.ofNat N), .int (Int32.ofNat p), .int (Int32.ofNat ln), F 3 232, F 3 233, F 3 234, F 3 235, .int (Int32.ofNat q)] = _
    rw [show F 3 224 = .ref 4 from s1, show F 3 225 = .ref 5 from s2, show F 3 226 = .ref 6 from s3, show F 3 232 = .ref 7 from s4, show F 3 233 = .ref 8 from s5, show F 3 234 = .ref 9 from s6, show F 3 235 = .ref 10 from s7]
    rfl
  · intro j hj
    unfold ps_K
    by_cases e : j ≤ tk_n L n m
    · rw [bleT e]
      show ev_iv _ (tk_z (tk_kd L n m j)) = _
      rw [tk_z_iv, bleF (show tk_kd L n m j < 1000 by have := (t1 j (by omega)).1; omega)]
      show Int32.ofNat (tk_kd L n m j) = _
      by_cases e2 : j = tk_n L n m
      · rw [e2, t0, hK0]; rfl
      · obtain ⟨l9, h9⟩ := q3 j (by omega)
        exact (hKV j _ h9).1.symm
    · rw [bleF (show tk_n L n m < j by omega)]
      show ev_iv _ (tk_z (10000 + j)) = _
      rw [tk_z_iv, bleT (show 1000 ≤ 10000 + j by omega)]
      exact rd_K hj
  · intro j hj
    unfold ps_V
    by_cases e : j + 1 ≤ tk_n L n m
    · rw [bleT e]
      show ev_iv _ (tk_z (tk_vl L n m j)) = _
      obtain ⟨l9, h9⟩ := q3 j (by omega)
      have h8 : V j = Int32.ofNat (dcN n sh hi mo bd (tk_vl L n m j)) := (hKV j _ h9).2.1
      rw [tk_z_iv, h8]
      by_cases e2 : 1000 ≤ tk_vl L n m j
      · rw [bleT e2]
        exact rd_s (by have := (t1 j (by omega)).2; omega)
      · rw [bleF (show tk_vl L n m j < 1000 by omega), dcN_s (by omega)]
        rfl
    · rw [bleF (show tk_n L n m < j + 1 by omega)]
      show ev_iv _ (tk_z (20000 + j)) = _
      rw [tk_z_iv, bleT (show 1000 ≤ 20000 + j by omega)]
      exact rd_V hj
  · intro j hj
    show ev_iv _ (tk_z (30000 + j)) = _
    rw [tk_z_iv, bleT (show 1000 ≤ 30000 + j by omega)]
    exact rd_I hj
  · rintro v σ2 ⟨rfl, w1, w2, w3, w4⟩
    refine EQ_mono (r_tail (d := 61) (by decide) hDr w1 w2) ?_
    rintro v σ3 ⟨r1, r2, r3, r4, r5, r6⟩
    have w3 : sc σ2 ≤ c + 1 + 5 + 128 := w3
    have w4 : ss σ2 ≤ s9 + 20 + 4 + 200 + 60 + 4096 := w4
    refine ⟨r1, _, hDr, r2, r3, r4, ?_, ?_⟩
    · show sc σ3 ≤ c + 200
      omega
    · show ss σ3 ≤ s9 + 7000
      omega
end W88
