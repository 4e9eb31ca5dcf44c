/-! tokens -/
theorem i32_sub {a b : Nat} (h : b ≤ a) : Int32.ofNat a - Int32.ofNat b = Int32.ofNat (a - b) := by
  have e : Int32.ofNat a = Int32.ofNat (a - b) + Int32.ofNat b := by rw [← Int32.ofNat_add, Nat.sub_add_cancel h]
  rw [e, Int32.add_sub_cancel]
def nmc (c : Nat) : Bool := letr c || digt c || decide (c = 95)
/-- where a name ends -/
def nmE (T : Nat → Nat) (n : Nat) : Nat → Nat → Nat
  | 0, q => q
  | f + 1, q => if q < n ∧ nmc (T q) = true then nmE T n f (q + 1) else q
theorem nmE_le (T : Nat → Nat) (n : Nat) : ∀ f q, q ≤ n → q ≤ nmE T n f q ∧ nmE T n f q ≤ n
  | 0, q, h => ⟨Nat.le_refl _, h⟩
  | f + 1, q, h => by
    unfold nmE
    by_cases e : q < n ∧ nmc (T q) = true
    · rw [if_pos e]
      have := nmE_le T n f (q + 1) (by omega)
      exact ⟨by omega, this.2⟩
    · rw [if_neg e]
      exact ⟨Nat.le_refl _, h⟩
section SNAME
variable {X : ev_X} {d : Nat} {σ : fl_S} {Q : Option Value → fl_S → Prop}
theorem g_sn1 (hd : 2 ≤ d) {s tx n p0 ln k m : Nat} {T : Nat → Nat} {K V L H C A Z : Nat → Int32} (hS : SW σ s tx n T) : ∀ (f q : Nat) (lv1 : ev_L), n - q ≤ f → q ≤ n → lvK [(1, .int (Int32.ofNat p0)), (0, .ref s)] lv1 → EQ X (d - 1) 21 66 [(1, .int (Int32.ofNat p0)), (0, .ref s)] [] (SS σ s (nmE T n f q) ln k m K V L H C A Z) Q → EQ X (d - 1) 21 5 lv1 [] (SS σ s q ln k m K V L H C A Z) Q := by
  have hS9 := hS
  obtain ⟨c_s, k1, k2, k3, k4, k5, k6, k7, s_text, s_size, ⟨TB, htx, hTB⟩, hn6, hT⟩ := hS
  intro f
  induction f with
  | zero =>
    intro q lv1 hf hq hlv next
    refine f_lv _ hlv ?_
    refine f_go (pc1 := 6) (lv1 := [(1, .int (Int32.ofNat p0)), (0, .ref s)]) (st1 := [.ref s]) 1 rfl ?_
    refine f_getf rfl rfl (g := 230) rfl c_s SS_230 ?_
    refine f_go (pc1 := 10) (lv1 := [(1, .int (Int32.ofNat p0)), (0, .ref s)]) (st1 := [.ref s, .int (Int32.ofNat q)]) 1 rfl ?_
    refine f_getf rfl rfl (g := 229) rfl c_s s_size ?_
    refine f_icmp (t := 66) rfl rfl true (nat_geT (by omega) (by omega) (by omega)) ?_
    exact next
  | succ f ih =>
    intro q lv1 hf hq hlv next
    refine f_lv _ hlv ?_
    by_cases x1 : q < n
    · obtain ⟨y1, y2⟩ := hT q x1
      refine f_go (pc1 := 6) (lv1 := [(1, .int (Int32.ofNat p0)), (0, .ref s)]) (st1 := [.ref s]) 1 rfl ?_
      refine f_getf rfl rfl (g := 230) rfl c_s SS_230 ?_
      refine f_go (pc1 := 10) (lv1 := [(1, .int (Int32.ofNat p0)), (0, .ref s)]) (st1 := [.ref s, .int (Int32.ofNat q)]) 1 rfl ?_
      refine f_getf rfl rfl (g := 229) rfl c_s s_size ?_
      refine f_icmp (t := 66) rfl rfl false (nat_lt (by omega) (by omega) x1) ?_
      refine f_go (pc1 := 17) (lv1 := [(1, .int (Int32.ofNat p0)), (0, .ref s)]) (st1 := [.ref s]) 1 rfl ?_
      refine f_getf rfl rfl (g := 228) rfl c_s s_text ?_
      refine f_go (pc1 := 21) (lv1 := [(1, .int (Int32.ofNat p0)), (0, .ref s)]) (st1 := [.ref s, .ref tx]) 1 rfl ?_
      refine f_getf rfl rfl (g := 230) rfl c_s SS_230 ?_
      refine f_bald rfl htx (i := q) (show q < 6000 by omega) (by omega) (hTB q x1) ?_
      refine f_go (pc1 := 29) (lv1 := [(1, .int (Int32.ofNat p0)), (0, .ref s)]) (st1 := [.int (Int32.ofNat (T q) &&& 255)]) 2 rfl ?_
      rw [b255 (T q) (hT q x1).1]
      refine f_go (pc1 := 31) (lv1 := [(2, .int (Int32.ofNat (T q))), (1, .int (Int32.ofNat p0)), (0, .ref s)]) (st1 := [.int (Int32.ofNat (T q))]) 2 rfl ?_
      refine f_st rfl rfl rfl rfl (g_isLetter (by omega) y1) ?_
      cases x2 : letr (T q) with
      | true =>
        show EQ _ _ 21 34 [(2, .int (Int32.ofNat (T q))), (1, .int (Int32.ofNat p0)), (0, .ref s)] [.int 1] _ _
        refine f_go (pc1 := 55) (lv1 := [(2, .int (Int32.ofNat (T q))), (1, .int (Int32.ofNat p0)), (0, .ref s)]) (st1 := [.ref s, .ref s]) 3 rfl ?_
        refine f_getf rfl rfl (g := 230) rfl c_s SS_230 ?_
        refine f_go (pc1 := 60) (lv1 := [(2, .int (Int32.ofNat (T q))), (1, .int (Int32.ofNat p0)), (0, .ref s)]) (st1 := [.int ((Int32.ofNat q) + 1), .ref s]) 2 rfl ?_
        rw [show ((Int32.ofNat q) + 1 : Int32) = (Int32.ofNat (q + 1)) from (nat_s q)]
        refine f_putf rfl rfl (g := 230) rfl c_s rfl ?_
        rw [SS_put230]
        refine f_go (pc1 := 5) (lv1 := [(2, .int (Int32.ofNat (T q))), (1, .int (Int32.ofNat p0)), (0, .ref s)]) (st1 := []) 1 rfl ?_
        rw [show nmE T n (f + 1) q = nmE T n f (q + 1) by simp [nmE, x1, nmc, x2]] at next
        exact ih (q + 1) _ (by omega) (by omega) (fl_c rfl (fl_c rfl fl_0)) next
      | false =>
        show EQ _ _ 21 34 [(2, .int (Int32.ofNat (T q))), (1, .int (Int32.ofNat p0)), (0, .ref s)] [.int 0] _ _
        refine f_go (pc1 := 38) (lv1 := [(2, .int (Int32.ofNat (T q))), (1, .int (Int32.ofNat p0)), (0, .ref s)]) (st1 := [.int (Int32.ofNat (T q))]) 2 rfl ?_
        refine f_st rfl rfl rfl rfl (g_isDigit (by omega) y1) ?_
        cases x3 : digt (T q) with
        | true =>
          show EQ _ _ 21 41 [(2, .int (Int32.ofNat (T q))), (1, .int (Int32.ofNat p0)), (0, .ref s)] [.int 1] _ _
          refine f_go (pc1 := 55) (lv1 := [(2, .int (Int32.ofNat (T q))), (1, .int (Int32.ofNat p0)), (0, .ref s)]) (st1 := [.ref s, .ref s]) 3 rfl ?_
          refine f_getf rfl rfl (g := 230) rfl c_s SS_230 ?_
          refine f_go (pc1 := 60) (lv1 := [(2, .int (Int32.ofNat (T q))), (1, .int (Int32.ofNat p0)), (0, .ref s)]) (st1 := [.int ((Int32.ofNat q) + 1), .ref s]) 2 rfl ?_
          rw [show ((Int32.ofNat q) + 1 : Int32) = (Int32.ofNat (q + 1)) from (nat_s q)]
          refine f_putf rfl rfl (g := 230) rfl c_s rfl ?_
          rw [SS_put230]
          refine f_go (pc1 := 5) (lv1 := [(2, .int (Int32.ofNat (T q))), (1, .int (Int32.ofNat p0)), (0, .ref s)]) (st1 := []) 1 rfl ?_
          rw [show nmE T n (f + 1) q = nmE T n f (q + 1) by simp [nmE, x1, nmc, x3]] at next
          exact ih (q + 1) _ (by omega) (by omega) (fl_c rfl (fl_c rfl fl_0)) next
        | false =>
          show EQ _ _ 21 41 [(2, .int (Int32.ofNat (T q))), (1, .int (Int32.ofNat p0)), (0, .ref s)] [.int 0] _ _
          refine f_go (pc1 := 47) (lv1 := [(2, .int (Int32.ofNat (T q))), (1, .int (Int32.ofNat p0)), (0, .ref s)]) (st1 := [.int 95, .int (Int32.ofNat (T q))]) 3 rfl ?_
          by_cases x4 : T q = 95
          ·
            refine f_icmp (t := 53) rfl rfl true (ic_eq (by rw [x4]; rfl)) ?_
            refine f_go (pc1 := 55) (lv1 := [(2, .int (Int32.ofNat (T q))), (1, .int (Int32.ofNat p0)), (0, .ref s)]) (st1 := [.ref s, .ref s]) 2 rfl ?_
            refine f_getf rfl rfl (g := 230) rfl c_s SS_230 ?_
            refine f_go (pc1 := 60) (lv1 := [(2, .int (Int32.ofNat (T q))), (1, .int (Int32.ofNat p0)), (0, .ref s)]) (st1 := [.int ((Int32.ofNat q) + 1), .ref s]) 2 rfl ?_
            rw [show ((Int32.ofNat q) + 1 : Int32) = (Int32.ofNat (q + 1)) from (nat_s q)]
            refine f_putf rfl rfl (g := 230) rfl c_s rfl ?_
            rw [SS_put230]
            refine f_go (pc1 := 5) (lv1 := [(2, .int (Int32.ofNat (T q))), (1, .int (Int32.ofNat p0)), (0, .ref s)]) (st1 := []) 1 rfl ?_
            rw [show nmE T n (f + 1) q = nmE T n f (q + 1) by simp [nmE, x1, nmc, x4]] at next
            exact ih (q + 1) _ (by omega) (by omega) (fl_c rfl (fl_c rfl fl_0)) next
          ·
            refine f_icmp (t := 53) rfl rfl false (ic_eqn (fun e => x4 ((nat_e (n := 95) (by omega) (by decide)).mp e))) ?_
            refine f_go (pc1 := 66) (lv1 := [(2, .int (Int32.ofNat (T q))), (1, .int (Int32.ofNat p0)), (0, .ref s)]) (st1 := []) 1 rfl ?_
            rw [show nmE T n (f + 1) q = q by simp [nmE, nmc, x2, x3, x4]] at next
            refine f_lv [(1, .int (Int32.ofNat p0)), (0, .ref s)] (fl_c rfl (fl_c rfl fl_0)) ?_
            exact next
    ·
      refine f_go (pc1 := 6) (lv1 := [(1, .int (Int32.ofNat p0)), (0, .ref s)]) (st1 := [.ref s]) 1 rfl ?_
      refine f_getf rfl rfl (g := 230) rfl c_s SS_230 ?_
      refine f_go (pc1 := 10) (lv1 := [(1, .int (Int32.ofNat p0)), (0, .ref s)]) (st1 := [.ref s, .int (Int32.ofNat q)]) 1 rfl ?_
      refine f_getf rfl rfl (g := 229) rfl c_s s_size ?_
      refine f_icmp (t := 66) rfl rfl true (nat_geT (by omega) (by omega) (by omega)) ?_
      rw [show nmE T n (f + 1) q = q by simp [nmE, x1]] at next
      exact next
end SNAME
theorem g_scanName_w {X : ev_X} {d : Nat} {σ : fl_S} (hd : 4 ≤ d) {s tx n p ln k m : Nat} {T : Nat → Nat} {K V L H C A Z : Nat → Int32} {w : Int32} (hS : SW σ s tx n T) (hp : p < n) (hk : k ≤ 6000) (h16 : (nmE T n (n - p) p) - p ≤ 16) (hW : CF X (d - 1) 22 [.ref s, .int (Int32.ofNat p), .int (Int32.ofNat ((nmE T n (n - p) p) - p))] (SS σ s (nmE T n (n - p) p) ln k m K V L H C A Z) (some (.int w)) (SS σ s (nmE T n (n - p) p) ln k m K V L H C A Z)) (w0 : ¬ w = 0) (w1 : ¬ w = 1) (w2 : ¬ w = -1) : CF X d 21 [.ref s] (SS σ s p ln k m K V L H C A Z) (some (.int 1)) (SS σ s (nmE T n (n - p) p) ln (k + 1) m (upd K k w) (upd V k 0) (upd L k (Int32.ofNat ln)) H C A Z) := by
  have hS9 := hS
  obtain ⟨c_s, k1, k2, k3, k4, k5, k6, k7, s_text, s_size, ⟨TB, htx, hTB⟩, hn6, hT⟩ := hS
  obtain ⟨e1, e2⟩ := nmE_le T n (n - p) p (Nat.le_of_lt hp)
  generalize hE : nmE T n (n - p) p = e at *
  refine f_meth (by omega) rfl ?_
  refine f_go (pc1 := 1) (lv1 := [(0, .ref s)]) (st1 := [.ref s]) 1 rfl ?_
  refine f_getf rfl rfl (g := 230) rfl c_s SS_230 ?_
  refine f_go (pc1 := 5) (lv1 := [(1, .int (Int32.ofNat p)), (0, .ref s)]) (st1 := []) 1 rfl ?_
  refine f_lv [(1, .int (Int32.ofNat p)), (0, .ref s)] (fl_c rfl (fl_c rfl fl_0)) ?_
  refine g_sn1 (by omega) hS9 (n - p) p _ (Nat.le_refl _) (Nat.le_of_lt hp) (fl_c rfl (fl_c rfl fl_0)) ?_
  rw [hE]
  refine f_go (pc1 := 67) (lv1 := [(1, .int (Int32.ofNat p)), (0, .ref s)]) (st1 := [.ref s]) 1 rfl ?_
  refine f_getf rfl rfl (g := 230) rfl c_s SS_230 ?_
  refine f_go (pc1 := 72) (lv1 := [(1, .int (Int32.ofNat p)), (0, .ref s)]) (st1 := [.int ((Int32.ofNat e) - (Int32.ofNat p))]) 2 rfl ?_
  rw [show ((Int32.ofNat e) - (Int32.ofNat p) : Int32) = (Int32.ofNat (e - p)) from (i32_sub e1)]
  refine f_go (pc1 := 76) (lv1 := [(2, .int (Int32.ofNat (e - p))), (1, .int (Int32.ofNat p)), (0, .ref s)]) (st1 := [.int 16, .int (Int32.ofNat (e - p))]) 3 rfl ?_
  refine f_icmp (t := 90) rfl rfl true (nat_leT (n := 16) (by omega) (by decide) h16) ?_
  refine f_go (pc1 := 93) (lv1 := [(2, .int (Int32.ofNat (e - p))), (1, .int (Int32.ofNat p)), (0, .ref s)]) (st1 := [.int (Int32.ofNat (e - p)), .int (Int32.ofNat p), .ref s]) 3 rfl ?_
  refine f_vt rfl rfl c_s rfl hW ?_
  refine f_go (pc1 := 99) (lv1 := [(3, .int w), (2, .int (Int32.ofNat (e - p))), (1, .int (Int32.ofNat p)), (0, .ref s)]) (st1 := [.int (-1), .int w]) 3 rfl ?_
  refine f_icmp (t := 113) rfl rfl false (ic_eqn w2) ?_
  refine f_go (pc1 := 106) (lv1 := [(3, .int w), (2, .int (Int32.ofNat (e - p))), (1, .int (Int32.ofNat p)), (0, .ref s)]) (st1 := [.ref s, .int 0, .int w, .ref s]) 4 rfl ?_
  refine f_getf rfl rfl (g := 231) rfl c_s SS_231 ?_
  refine f_vt rfl rfl c_s rfl (g_putToken (by omega) hS9 hk w0 w1) ?_
  exact f_rt rfl rfl
theorem g_scanName_n {X : ev_X} {d : Nat} {σ : fl_S} (hd : 4 ≤ d) {s tx n p ln k m : Nat} {T : Nat → Nat} {K V L H C A Z : Nat → Int32} {w : Int32} (hS : SW σ s tx n T) (hp : p < n) (hk : k ≤ 6000) (h16 : (nmE T n (n - p) p) - p ≤ 16) (hW : CF X (d - 1) 22 [.ref s, .int (Int32.ofNat p), .int (Int32.ofNat ((nmE T n (n - p) p) - p))] (SS σ s (nmE T n (n - p) p) ln k m K V L H C A Z) (some (.int w)) (SS σ s (nmE T n (n - p) p) ln k m K V L H C A Z)) (w2 : w = -1) {sa sl : Nat → Nat} {KS : Nat → List Nat} (hI : NMI T n m H C A Z sa sl KS) (hm : m < 3001) : CQ X d 21 [.ref s] (SS σ s p ln k m K V L H C A Z) (fun v σ1 => v = some (.int 1) ∧ ((∃ id, id < m ∧ EqS T sa sl p ((nmE T n (n - p) p) - p) id ∧ σ1 = SS σ s (nmE T n (n - p) p) ln (k + 1) m (upd K k 2) (upd V k (Int32.ofNat id)) (upd L k (Int32.ofNat ln)) H C A Z) ∨ ((∀ id, id < m → ¬ EqS T sa sl p ((nmE T n (n - p) p) - p) id) ∧ σ1 = SS σ s (nmE T n (n - p) p) ln (k + 1) (m + 1) (upd K k 2) (upd V k (Int32.ofNat m)) (upd L k (Int32.ofNat ln)) (upd H (hN T p ((nmE T n (n - p) p) - p)) (Int32.ofNat m)) (upd C m (H (hN T p ((nmE T n (n - p) p) - p)))) (upd A m (Int32.ofNat p)) (upd Z m (Int32.ofNat ((nmE T n (n - p) p) - p)))))) := by
  have hS9 := hS
  obtain ⟨c_s, k1, k2, k3, k4, k5, k6, k7, s_text, s_size, ⟨TB, htx, hTB⟩, hn6, hT⟩ := hS
  obtain ⟨e1, e2⟩ := nmE_le T n (n - p) p (Nat.le_of_lt hp)
  generalize hE : nmE T n (n - p) p = e at *
  refine f_meth (by omega) rfl ?_
  refine f_go (pc1 := 1) (lv1 := [(0, .ref s)]) (st1 := [.ref s]) 1 rfl ?_
  refine f_getf rfl rfl (g := 230) rfl c_s SS_230 ?_
  refine f_go (pc1 := 5) (lv1 := [(1, .int (Int32.ofNat p)), (0, .ref s)]) (st1 := []) 1 rfl ?_
  refine f_lv [(1, .int (Int32.ofNat p)), (0, .ref s)] (fl_c rfl (fl_c rfl fl_0)) ?_
  refine g_sn1 (by omega) hS9 (n - p) p _ (Nat.le_refl _) (Nat.le_of_lt hp) (fl_c rfl (fl_c rfl fl_0)) ?_
  rw [hE]
  subst w2
  refine f_go (pc1 := 67) (lv1 := [(1, .int (Int32.ofNat p)), (0, .ref s)]) (st1 := [.ref s]) 1 rfl ?_
  refine f_getf rfl rfl (g := 230) rfl c_s SS_230 ?_
  refine f_go (pc1 := 72) (lv1 := [(1, .int (Int32.ofNat p)), (0, .ref s)]) (st1 := [.int ((Int32.ofNat e) - (Int32.ofNat p))]) 2 rfl ?_
  rw [show ((Int32.ofNat e) - (Int32.ofNat p) : Int32) = (Int32.ofNat (e - p)) from (i32_sub e1)]
  refine f_go (pc1 := 76) (lv1 := [(2, .int (Int32.ofNat (e - p))), (1, .int (Int32.ofNat p)), (0, .ref s)]) (st1 := [.int 16, .int (Int32.ofNat (e - p))]) 3 rfl ?_
  refine f_icmp (t := 90) rfl rfl true (nat_leT (n := 16) (by omega) (by decide) h16) ?_
  refine f_go (pc1 := 93) (lv1 := [(2, .int (Int32.ofNat (e - p))), (1, .int (Int32.ofNat p)), (0, .ref s)]) (st1 := [.int (Int32.ofNat (e - p)), .int (Int32.ofNat p), .ref s]) 3 rfl ?_
  refine f_vt rfl rfl c_s rfl hW ?_
  refine f_go (pc1 := 118) (lv1 := [(3, .int (-1)), (2, .int (Int32.ofNat (e - p))), (1, .int (Int32.ofNat p)), (0, .ref s)]) (st1 := [.int (Int32.ofNat (e - p)), .int (Int32.ofNat p), .ref s, .int 2, .ref s]) 9 rfl ?_
  refine f_vtQ rfl rfl c_s rfl (g_nameAt (by omega) hS9 hI hm (by omega)) ?_
  rintro v σ1 (⟨id, h1, h2, rfl, rfl⟩ | ⟨h1, rfl, rfl⟩)
  ·
    refine f_go (pc1 := 122) (lv1 := [(3, .int (-1)), (2, .int (Int32.ofNat (e - p))), (1, .int (Int32.ofNat p)), (0, .ref s)]) (st1 := [.ref s, .int (Int32.ofNat id), .int 2, .ref s]) 1 rfl ?_
    refine f_getf rfl rfl (g := 231) rfl c_s SS_231 ?_
    refine f_vt rfl rfl c_s rfl (g_putToken (by omega) hS9 hk (by decide) (by decide)) ?_
    exact f_rtQ rfl rfl ⟨rfl, Or.inl ⟨id, h1, h2, rfl⟩⟩
  ·
    refine f_go (pc1 := 122) (lv1 := [(3, .int (-1)), (2, .int (Int32.ofNat (e - p))), (1, .int (Int32.ofNat p)), (0, .ref s)]) (st1 := [.ref s, .int (Int32.ofNat m), .int 2, .ref s]) 1 rfl ?_
    refine f_getf rfl rfl (g := 231) rfl c_s SS_231 ?_
    refine f_vt rfl rfl c_s rfl (g_putToken (by omega) hS9 hk (by decide) (by decide)) ?_
    exact f_rtQ rfl rfl ⟨rfl, Or.inr ⟨h1, rfl⟩⟩
theorem g_scanNum0 {X : ev_X} {d : Nat} {σ : fl_S} (hd : 3 ≤ d) {s tx n p ln k m : Nat} {T : Nat → Nat} {K V L H C A Z : Nat → Int32} (hS : SW σ s tx n T) (hp : p < n) (hk : k ≤ 6000) (hc : T p = 48) (hp1 : p + 1 < n) (hd1 : digt (T (p + 1)) = false) (hl1 : letr (T (p + 1)) = false) (hu1 : ¬ T (p + 1) = 95) : CF X d 25 [.ref s] (SS σ s p ln k m K V L H C A Z) (some (.int 1)) (SS σ s (p + 1) ln (k + 1) m (upd K k 3) (upd V k 0) (upd L k (Int32.ofNat ln)) H C A Z) := by
  have hS9 := hS
  obtain ⟨c_s, k1, k2, k3, k4, k5, k6, k7, s_text, s_size, ⟨TB, htx, hTB⟩, hn6, hT⟩ := hS
  obtain ⟨y1, y2⟩ := hT p hp
  obtain ⟨z1, z2⟩ := hT (p + 1) hp1
  refine f_meth (by omega) rfl ?_
  refine f_go (pc1 := 1) (lv1 := [(0, .ref s)]) (st1 := [.ref s]) 1 rfl ?_
  refine f_getf rfl rfl (g := 230) rfl c_s SS_230 ?_
  refine f_go (pc1 := 8) (lv1 := [(2, .long 0), (1, .int (Int32.ofNat p)), (0, .ref s)]) (st1 := [.ref s]) 4 rfl ?_
  refine f_getf rfl rfl (g := 230) rfl c_s SS_230 ?_
  refine f_go (pc1 := 12) (lv1 := [(2, .long 0), (1, .int (Int32.ofNat p)), (0, .ref s)]) (st1 := [.ref s, .int (Int32.ofNat p)]) 1 rfl ?_
  refine f_getf rfl rfl (g := 229) rfl c_s s_size ?_
  refine f_icmp (t := 77) rfl rfl false (nat_lt (by omega) (by omega) hp) ?_
  refine f_go (pc1 := 19) (lv1 := [(2, .long 0), (1, .int (Int32.ofNat p)), (0, .ref s)]) (st1 := [.ref s]) 1 rfl ?_
  refine f_getf rfl rfl (g := 228) rfl c_s s_text ?_
  refine f_go (pc1 := 23) (lv1 := [(2, .long 0), (1, .int (Int32.ofNat p)), (0, .ref s)]) (st1 := [.ref s, .ref tx]) 1 rfl ?_
  refine f_getf rfl rfl (g := 230) rfl c_s SS_230 ?_
  refine f_bald rfl htx (i := p) (show p < 6000 by omega) (by omega) (hTB p hp) ?_
  refine f_go (pc1 := 31) (lv1 := [(2, .long 0), (1, .int (Int32.ofNat p)), (0, .ref s)]) (st1 := [.int (Int32.ofNat (T p) &&& 255)]) 2 rfl ?_
  rw [b255 (T p) (hT p hp).1]
  refine f_st rfl rfl rfl rfl (g_isDigit (by omega) y1) ?_
  rw [show digt (T p) = true by rw [hc]; rfl, if_pos rfl]
  refine f_go (pc1 := 38) (lv1 := [(2, .long 0), (1, .int (Int32.ofNat p)), (0, .ref s)]) (st1 := [.long 0]) 2 rfl ?_
  refine f_ldc2 rfl ?_
  refine f_go (pc1 := 42) (lv1 := [(2, .long 0), (1, .int (Int32.ofNat p)), (0, .ref s)]) (st1 := [.long (0 * (Int64.ofInt 10))]) 1 rfl ?_
  refine f_go (pc1 := 43) (lv1 := [(2, .long 0), (1, .int (Int32.ofNat p)), (0, .ref s)]) (st1 := [.ref s, .long (0 * (Int64.ofInt 10))]) 1 rfl ?_
  refine f_getf rfl rfl (g := 228) rfl c_s s_text ?_
  refine f_go (pc1 := 47) (lv1 := [(2, .long 0), (1, .int (Int32.ofNat p)), (0, .ref s)]) (st1 := [.ref s, .ref tx, .long (0 * (Int64.ofInt 10))]) 1 rfl ?_
  refine f_getf rfl rfl (g := 230) rfl c_s SS_230 ?_
  refine f_bald rfl htx (i := p) (show p < 6000 by omega) (by omega) (hTB p hp) ?_
  rw [hc]
  refine f_go (pc1 := 52) (lv1 := [(2, .long 0), (1, .int (Int32.ofNat p)), (0, .ref s)]) (st1 := [.long (Int32.toInt64 (Int32.ofNat 48)), .long (0 * (Int64.ofInt 10))]) 1 rfl ?_
  refine f_go (pc1 := 53) (lv1 := [(2, .long 0), (1, .int (Int32.ofNat p)), (0, .ref s)]) (st1 := [.long ((0 * (Int64.ofInt 10)) + (Int32.toInt64 (Int32.ofNat 48)))]) 1 rfl ?_
  refine f_ldc2 rfl ?_
  refine f_go (pc1 := 57) (lv1 := [(2, .long 0), (1, .int (Int32.ofNat p)), (0, .ref s)]) (st1 := [.long (((0 * (Int64.ofInt 10)) + (Int32.toInt64 (Int32.ofNat 48))) - (Int64.ofInt 48))]) 1 rfl ?_
  refine f_ldc2 rfl ?_
  refine f_xm (st1 := [.long 0]) rfl rfl ?_
  refine f_go (pc1 := 66) (lv1 := [(2, .long 0), (1, .int (Int32.ofNat p)), (0, .ref s)]) (st1 := [.ref s, .ref s]) 3 rfl ?_
  refine f_getf rfl rfl (g := 230) rfl c_s SS_230 ?_
  refine f_go (pc1 := 71) (lv1 := [(2, .long 0), (1, .int (Int32.ofNat p)), (0, .ref s)]) (st1 := [.int ((Int32.ofNat p) + 1), .ref s]) 2 rfl ?_
  rw [show ((Int32.ofNat p) + 1 : Int32) = (Int32.ofNat (p + 1)) from (nat_s p)]
  refine f_putf rfl rfl (g := 230) rfl c_s rfl ?_
  rw [SS_put230]
  refine f_go (pc1 := 8) (lv1 := [(2, .long 0), (1, .int (Int32.ofNat p)), (0, .ref s)]) (st1 := [.ref s]) 2 rfl ?_
  refine f_getf rfl rfl (g := 230) rfl c_s SS_230 ?_
  refine f_go (pc1 := 12) (lv1 := [(2, .long 0), (1, .int (Int32.ofNat p)), (0, .ref s)]) (st1 := [.ref s, .int (Int32.ofNat (p + 1))]) 1 rfl ?_
  refine f_getf rfl rfl (g := 229) rfl c_s s_size ?_
  refine f_icmp (t := 77) rfl rfl false (nat_lt (by omega) (by omega) hp1) ?_
  refine f_go (pc1 := 19) (lv1 := [(2, .long 0), (1, .int (Int32.ofNat p)), (0, .ref s)]) (st1 := [.ref s]) 1 rfl ?_
  refine f_getf rfl rfl (g := 228) rfl c_s s_text ?_
  refine f_go (pc1 := 23) (lv1 := [(2, .long 0), (1, .int (Int32.ofNat p)), (0, .ref s)]) (st1 := [.ref s, .ref tx]) 1 rfl ?_
  refine f_getf rfl rfl (g := 230) rfl c_s SS_230 ?_
  refine f_bald rfl htx (i := p + 1) (show p + 1 < 6000 by omega) (by omega) (hTB (p + 1) hp1) ?_
  refine f_go (pc1 := 31) (lv1 := [(2, .long 0), (1, .int (Int32.ofNat p)), (0, .ref s)]) (st1 := [.int (Int32.ofNat (T (p + 1)) &&& 255)]) 2 rfl ?_
  rw [b255 (T (p + 1)) (hT (p + 1) hp1).1]
  refine f_st rfl rfl rfl rfl (g_isDigit (by omega) z1) ?_
  rw [hd1, if_neg (by decide)]
  refine f_go (pc1 := 78) (lv1 := [(2, .long 0), (1, .int (Int32.ofNat p)), (0, .ref s)]) (st1 := [.ref s]) 2 rfl ?_
  refine f_getf rfl rfl (g := 230) rfl c_s SS_230 ?_
  refine f_go (pc1 := 83) (lv1 := [(2, .long 0), (1, .int (Int32.ofNat p)), (0, .ref s)]) (st1 := [.int ((Int32.ofNat (p + 1)) - (Int32.ofNat p))]) 2 rfl ?_
  rw [show ((Int32.ofNat (p + 1)) - (Int32.ofNat p) : Int32) = 1 from (by rw [i32_sub (by omega)]; rw [show p + 1 - p = 1 by omega]; rfl)]
  refine f_go (pc1 := 89) (lv1 := [(2, .long 0), (1, .int (Int32.ofNat p)), (0, .ref s)]) (st1 := [.long 0]) 3 rfl ?_
  refine f_ldc2 rfl ?_
  refine f_go (pc1 := 93) (lv1 := [(2, .long 0), (1, .int (Int32.ofNat p)), (0, .ref s)]) (st1 := [.int (-1)]) 1 rfl ?_
  refine f_go (pc1 := 108) (lv1 := [(2, .long 0), (1, .int (Int32.ofNat p)), (0, .ref s)]) (st1 := [.ref s]) 2 rfl ?_
  refine f_getf rfl rfl (g := 230) rfl c_s SS_230 ?_
  refine f_go (pc1 := 112) (lv1 := [(2, .long 0), (1, .int (Int32.ofNat p)), (0, .ref s)]) (st1 := [.ref s, .int (Int32.ofNat (p + 1))]) 1 rfl ?_
  refine f_getf rfl rfl (g := 229) rfl c_s s_size ?_
  refine f_icmp (t := 162) rfl rfl false (nat_lt (by omega) (by omega) hp1) ?_
  refine f_go (pc1 := 119) (lv1 := [(2, .long 0), (1, .int (Int32.ofNat p)), (0, .ref s)]) (st1 := [.ref s]) 1 rfl ?_
  refine f_getf rfl rfl (g := 228) rfl c_s s_text ?_
  refine f_go (pc1 := 123) (lv1 := [(2, .long 0), (1, .int (Int32.ofNat p)), (0, .ref s)]) (st1 := [.ref s, .ref tx]) 1 rfl ?_
  refine f_getf rfl rfl (g := 230) rfl c_s SS_230 ?_
  refine f_bald rfl htx (i := p + 1) (show p + 1 < 6000 by omega) (by omega) (hTB (p + 1) hp1) ?_
  refine f_go (pc1 := 131) (lv1 := [(2, .long 0), (1, .int (Int32.ofNat p)), (0, .ref s)]) (st1 := [.int (Int32.ofNat (T (p + 1)) &&& 255)]) 2 rfl ?_
  rw [b255 (T (p + 1)) (hT (p + 1) hp1).1]
  refine f_st rfl rfl rfl rfl (g_isLetter (by omega) z1) ?_
  rw [hl1, if_neg (by decide)]
  refine f_go (pc1 := 138) (lv1 := [(2, .long 0), (1, .int (Int32.ofNat p)), (0, .ref s)]) (st1 := [.ref s]) 2 rfl ?_
  refine f_getf rfl rfl (g := 228) rfl c_s s_text ?_
  refine f_go (pc1 := 142) (lv1 := [(2, .long 0), (1, .int (Int32.ofNat p)), (0, .ref s)]) (st1 := [.ref s, .ref tx]) 1 rfl ?_
  refine f_getf rfl rfl (g := 230) rfl c_s SS_230 ?_
  refine f_bald rfl htx (i := p + 1) (show p + 1 < 6000 by omega) (by omega) (hTB (p + 1) hp1) ?_
  refine f_go (pc1 := 148) (lv1 := [(2, .long 0), (1, .int (Int32.ofNat p)), (0, .ref s)]) (st1 := [.int 95, .int (Int32.ofNat (T (p + 1)))]) 1 rfl ?_
  refine f_icmp (t := 162) rfl rfl true (ic_ne (fun e => hu1 ((nat_e (n := 95) (by omega) (by decide)).mp e))) ?_
  refine f_go (pc1 := 165) (lv1 := [(2, .long 0), (1, .int (Int32.ofNat p)), (0, .ref s)]) (st1 := [.long 0, .int 3, .ref s]) 3 rfl ?_
  refine f_go (pc1 := 166) (lv1 := [(2, .long 0), (1, .int (Int32.ofNat p)), (0, .ref s)]) (st1 := [.int 0, .int 3, .ref s]) 1 rfl ?_
  refine f_go (pc1 := 167) (lv1 := [(2, .long 0), (1, .int (Int32.ofNat p)), (0, .ref s)]) (st1 := [.ref s, .int 0, .int 3, .ref s]) 1 rfl ?_
  refine f_getf rfl rfl (g := 231) rfl c_s SS_231 ?_
  refine f_vt rfl rfl c_s rfl (g_putToken (by omega) hS9 hk (by decide) (by decide)) ?_
  exact f_rt rfl rfl
theorem g_scanNum1 {X : ev_X} {d : Nat} {σ : fl_S} (hd : 3 ≤ d) {s tx n p ln k m : Nat} {T : Nat → Nat} {K V L H C A Z : Nat → Int32} (hS : SW σ s tx n T) (hp : p < n) (hk : k ≤ 6000) (hc : T p = 49) (hp1 : p + 1 < n) (hd1 : digt (T (p + 1)) = false) (hl1 : letr (T (p + 1)) = false) (hu1 : ¬ T (p + 1) = 95) : CF X d 25 [.ref s] (SS σ s p ln k m K V L H C A Z) (some (.int 1)) (SS σ s (p + 1) ln (k + 1) m (upd K k 3) (upd V k 1) (upd L k (Int32.ofNat ln)) H C A Z) := by
  have hS9 := hS
  obtain ⟨c_s, k1, k2, k3, k4, k5, k6, k7, s_text, s_size, ⟨TB, htx, hTB⟩, hn6, hT⟩ := hS
  obtain ⟨y1, y2⟩ := hT p hp
  obtain ⟨z1, z2⟩ := hT (p + 1) hp1
  refine f_meth (by omega) rfl ?_
  refine f_go (pc1 := 1) (lv1 := [(0, .ref s)]) (st1 := [.ref s]) 1 rfl ?_
  refine f_getf rfl rfl (g := 230) rfl c_s SS_230 ?_
  refine f_go (pc1 := 8) (lv1 := [(2, .long 0), (1, .int (Int32.ofNat p)), (0, .ref s)]) (st1 := [.ref s]) 4 rfl ?_
  refine f_getf rfl rfl (g := 230) rfl c_s SS_230 ?_
  refine f_go (pc1 := 12) (lv1 := [(2, .long 0), (1, .int (Int32.ofNat p)), (0, .ref s)]) (st1 := [.ref s, .int (Int32.ofNat p)]) 1 rfl ?_
  refine f_getf rfl rfl (g := 229) rfl c_s s_size ?_
  refine f_icmp (t := 77) rfl rfl false (nat_lt (by omega) (by omega) hp) ?_
  refine f_go (pc1 := 19) (lv1 := [(2, .long 0), (1, .int (Int32.ofNat p)), (0, .ref s)]) (st1 := [.ref s]) 1 rfl ?_
  refine f_getf rfl rfl (g := 228) rfl c_s s_text ?_
  refine f_go (pc1 := 23) (lv1 := [(2, .long 0), (1, .int (Int32.ofNat p)), (0, .ref s)]) (st1 := [.ref s, .ref tx]) 1 rfl ?_
  refine f_getf rfl rfl (g := 230) rfl c_s SS_230 ?_
  refine f_bald rfl htx (i := p) (show p < 6000 by omega) (by omega) (hTB p hp) ?_
  refine f_go (pc1 := 31) (lv1 := [(2, .long 0), (1, .int (Int32.ofNat p)), (0, .ref s)]) (st1 := [.int (Int32.ofNat (T p) &&& 255)]) 2 rfl ?_
  rw [b255 (T p) (hT p hp).1]
  refine f_st rfl rfl rfl rfl (g_isDigit (by omega) y1) ?_
  rw [show digt (T p) = true by rw [hc]; rfl, if_pos rfl]
  refine f_go (pc1 := 38) (lv1 := [(2, .long 0), (1, .int (Int32.ofNat p)), (0, .ref s)]) (st1 := [.long 0]) 2 rfl ?_
  refine f_ldc2 rfl ?_
  refine f_go (pc1 := 42) (lv1 := [(2, .long 0), (1, .int (Int32.ofNat p)), (0, .ref s)]) (st1 := [.long (0 * (Int64.ofInt 10))]) 1 rfl ?_
  refine f_go (pc1 := 43) (lv1 := [(2, .long 0), (1, .int (Int32.ofNat p)), (0, .ref s)]) (st1 := [.ref s, .long (0 * (Int64.ofInt 10))]) 1 rfl ?_
  refine f_getf rfl rfl (g := 228) rfl c_s s_text ?_
  refine f_go (pc1 := 47) (lv1 := [(2, .long 0), (1, .int (Int32.ofNat p)), (0, .ref s)]) (st1 := [.ref s, .ref tx, .long (0 * (Int64.ofInt 10))]) 1 rfl ?_
  refine f_getf rfl rfl (g := 230) rfl c_s SS_230 ?_
  refine f_bald rfl htx (i := p) (show p < 6000 by omega) (by omega) (hTB p hp) ?_
  rw [hc]
  refine f_go (pc1 := 52) (lv1 := [(2, .long 0), (1, .int (Int32.ofNat p)), (0, .ref s)]) (st1 := [.long (Int32.toInt64 (Int32.ofNat 49)), .long (0 * (Int64.ofInt 10))]) 1 rfl ?_
  refine f_go (pc1 := 53) (lv1 := [(2, .long 0), (1, .int (Int32.ofNat p)), (0, .ref s)]) (st1 := [.long ((0 * (Int64.ofInt 10)) + (Int32.toInt64 (Int32.ofNat 49)))]) 1 rfl ?_
  refine f_ldc2 rfl ?_
  refine f_go (pc1 := 57) (lv1 := [(2, .long 0), (1, .int (Int32.ofNat p)), (0, .ref s)]) (st1 := [.long (((0 * (Int64.ofInt 10)) + (Int32.toInt64 (Int32.ofNat 49))) - (Int64.ofInt 48))]) 1 rfl ?_
  refine f_ldc2 rfl ?_
  refine f_xm (st1 := [.long 1]) rfl rfl ?_
  refine f_go (pc1 := 66) (lv1 := [(2, .long 1), (1, .int (Int32.ofNat p)), (0, .ref s)]) (st1 := [.ref s, .ref s]) 3 rfl ?_
  refine f_getf rfl rfl (g := 230) rfl c_s SS_230 ?_
  refine f_go (pc1 := 71) (lv1 := [(2, .long 1), (1, .int (Int32.ofNat p)), (0, .ref s)]) (st1 := [.int ((Int32.ofNat p) + 1), .ref s]) 2 rfl ?_
  rw [show ((Int32.ofNat p) + 1 : Int32) = (Int32.ofNat (p + 1)) from (nat_s p)]
  refine f_putf rfl rfl (g := 230) rfl c_s rfl ?_
  rw [SS_put230]
  refine f_go (pc1 := 8) (lv1 := [(2, .long 1), (1, .int (Int32.ofNat p)), (0, .ref s)]) (st1 := [.ref s]) 2 rfl ?_
  refine f_getf rfl rfl (g := 230) rfl c_s SS_230 ?_
  refine f_go (pc1 := 12) (lv1 := [(2, .long 1), (1, .int (Int32.ofNat p)), (0, .ref s)]) (st1 := [.ref s, .int (Int32.ofNat (p + 1))]) 1 rfl ?_
  refine f_getf rfl rfl (g := 229) rfl c_s s_size ?_
  refine f_icmp (t := 77) rfl rfl false (nat_lt (by omega) (by omega) hp1) ?_
  refine f_go (pc1 := 19) (lv1 := [(2, .long 1), (1, .int (Int32.ofNat p)), (0, .ref s)]) (st1 := [.ref s]) 1 rfl ?_
  refine f_getf rfl rfl (g := 228) rfl c_s s_text ?_
  refine f_go (pc1 := 23) (lv1 := [(2, .long 1), (1, .int (Int32.ofNat p)), (0, .ref s)]) (st1 := [.ref s, .ref tx]) 1 rfl ?_
  refine f_getf rfl rfl (g := 230) rfl c_s SS_230 ?_
  refine f_bald rfl htx (i := p + 1) (show p + 1 < 6000 by omega) (by omega) (hTB (p + 1) hp1) ?_
  refine f_go (pc1 := 31) (lv1 := [(2, .long 1), (1, .int (Int32.ofNat p)), (0, .ref s)]) (st1 := [.int (Int32.ofNat (T (p + 1)) &&& 255)]) 2 rfl ?_
  rw [b255 (T (p + 1)) (hT (p + 1) hp1).1]
  refine f_st rfl rfl rfl rfl (g_isDigit (by omega) z1) ?_
  rw [hd1, if_neg (by decide)]
  refine f_go (pc1 := 78) (lv1 := [(2, .long 1), (1, .int (Int32.ofNat p)), (0, .ref s)]) (st1 := [.ref s]) 2 rfl ?_
  refine f_getf rfl rfl (g := 230) rfl c_s SS_230 ?_
  refine f_go (pc1 := 83) (lv1 := [(2, .long 1), (1, .int (Int32.ofNat p)), (0, .ref s)]) (st1 := [.int ((Int32.ofNat (p + 1)) - (Int32.ofNat p))]) 2 rfl ?_
  rw [show ((Int32.ofNat (p + 1)) - (Int32.ofNat p) : Int32) = 1 from (by rw [i32_sub (by omega)]; rw [show p + 1 - p = 1 by omega]; rfl)]
  refine f_go (pc1 := 89) (lv1 := [(2, .long 1), (1, .int (Int32.ofNat p)), (0, .ref s)]) (st1 := [.long 1]) 3 rfl ?_
  refine f_ldc2 rfl ?_
  refine f_go (pc1 := 93) (lv1 := [(2, .long 1), (1, .int (Int32.ofNat p)), (0, .ref s)]) (st1 := [.int (-1)]) 1 rfl ?_
  refine f_go (pc1 := 108) (lv1 := [(2, .long 1), (1, .int (Int32.ofNat p)), (0, .ref s)]) (st1 := [.ref s]) 2 rfl ?_
  refine f_getf rfl rfl (g := 230) rfl c_s SS_230 ?_
  refine f_go (pc1 := 112) (lv1 := [(2, .long 1), (1, .int (Int32.ofNat p)), (0, .ref s)]) (st1 := [.ref s, .int (Int32.ofNat (p + 1))]) 1 rfl ?_
  refine f_getf rfl rfl (g := 229) rfl c_s s_size ?_
  refine f_icmp (t := 162) rfl rfl false (nat_lt (by omega) (by omega) hp1) ?_
  refine f_go (pc1 := 119) (lv1 := [(2, .long 1), (1, .int (Int32.ofNat p)), (0, .ref s)]) (st1 := [.ref s]) 1 rfl ?_
  refine f_getf rfl rfl (g := 228) rfl c_s s_text ?_
  refine f_go (pc1 := 123) (lv1 := [(2, .long 1), (1, .int (Int32.ofNat p)), (0, .ref s)]) (st1 := [.ref s, .ref tx]) 1 rfl ?_
  refine f_getf rfl rfl (g := 230) rfl c_s SS_230 ?_
  refine f_bald rfl htx (i := p + 1) (show p + 1 < 6000 by omega) (by omega) (hTB (p + 1) hp1) ?_
  refine f_go (pc1 := 131) (lv1 := [(2, .long 1), (1, .int (Int32.ofNat p)), (0, .ref s)]) (st1 := [.int (Int32.ofNat (T (p + 1)) &&& 255)]) 2 rfl ?_
  rw [b255 (T (p + 1)) (hT (p + 1) hp1).1]
  refine f_st rfl rfl rfl rfl (g_isLetter (by omega) z1) ?_
  rw [hl1, if_neg (by decide)]
  refine f_go (pc1 := 138) (lv1 := [(2, .long 1), (1, .int (Int32.ofNat p)), (0, .ref s)]) (st1 := [.ref s]) 2 rfl ?_
  refine f_getf rfl rfl (g := 228) rfl c_s s_text ?_
  refine f_go (pc1 := 142) (lv1 := [(2, .long 1), (1, .int (Int32.ofNat p)), (0, .ref s)]) (st1 := [.ref s, .ref tx]) 1 rfl ?_
  refine f_getf rfl rfl (g := 230) rfl c_s SS_230 ?_
  refine f_bald rfl htx (i := p + 1) (show p + 1 < 6000 by omega) (by omega) (hTB (p + 1) hp1) ?_
  refine f_go (pc1 := 148) (lv1 := [(2, .long 1), (1, .int (Int32.ofNat p)), (0, .ref s)]) (st1 := [.int 95, .int (Int32.ofNat (T (p + 1)))]) 1 rfl ?_
  refine f_icmp (t := 162) rfl rfl true (ic_ne (fun e => hu1 ((nat_e (n := 95) (by omega) (by decide)).mp e))) ?_
  refine f_go (pc1 := 165) (lv1 := [(2, .long 1), (1, .int (Int32.ofNat p)), (0, .ref s)]) (st1 := [.long 1, .int 3, .ref s]) 3 rfl ?_
  refine f_go (pc1 := 166) (lv1 := [(2, .long 1), (1, .int (Int32.ofNat p)), (0, .ref s)]) (st1 := [.int 1, .int 3, .ref s]) 1 rfl ?_
  refine f_go (pc1 := 167) (lv1 := [(2, .long 1), (1, .int (Int32.ofNat p)), (0, .ref s)]) (st1 := [.ref s, .int 1, .int 3, .ref s]) 1 rfl ?_
  refine f_getf rfl rfl (g := 231) rfl c_s SS_231 ?_
  refine f_vt rfl rfl c_s rfl (g_putToken (by omega) hS9 hk (by decide) (by decide)) ?_
  exact f_rt rfl rfl
theorem g_scanNum2 {X : ev_X} {d : Nat} {σ : fl_S} (hd : 3 ≤ d) {s tx n p ln k m : Nat} {T : Nat → Nat} {K V L H C A Z : Nat → Int32} (hS : SW σ s tx n T) (hp : p < n) (hk : k ≤ 6000) (hc : T p = 50) (hp1 : p + 1 < n) (hd1 : digt (T (p + 1)) = false) (hl1 : letr (T (p + 1)) = false) (hu1 : ¬ T (p + 1) = 95) : CF X d 25 [.ref s] (SS σ s p ln k m K V L H C A Z) (some (.int 1)) (SS σ s (p + 1) ln (k + 1) m (upd K k 3) (upd V k 2) (upd L k (Int32.ofNat ln)) H C A Z) := by
  have hS9 := hS
  obtain ⟨c_s, k1, k2, k3, k4, k5, k6, k7, s_text, s_size, ⟨TB, htx, hTB⟩, hn6, hT⟩ := hS
  obtain ⟨y1, y2⟩ := hT p hp
  obtain ⟨z1, z2⟩ := hT (p + 1) hp1
  refine f_meth (by omega) rfl ?_
  refine f_go (pc1 := 1) (lv1 := [(0, .ref s)]) (st1 := [.ref s]) 1 rfl ?_
  refine f_getf rfl rfl (g := 230) rfl c_s SS_230 ?_
  refine f_go (pc1 := 8) (lv1 := [(2, .long 0), (1, .int (Int32.ofNat p)), (0, .ref s)]) (st1 := [.ref s]) 4 rfl ?_
  refine f_getf rfl rfl (g := 230) rfl c_s SS_230 ?_
  refine f_go (pc1 := 12) (lv1 := [(2, .long 0), (1, .int (Int32.ofNat p)), (0, .ref s)]) (st1 := [.ref s, .int (Int32.ofNat p)]) 1 rfl ?_
  refine f_getf rfl rfl (g := 229) rfl c_s s_size ?_
  refine f_icmp (t := 77) rfl rfl false (nat_lt (by omega) (by omega) hp) ?_
  refine f_go (pc1 := 19) (lv1 := [(2, .long 0), (1, .int (Int32.ofNat p)), (0, .ref s)]) (st1 := [.ref s]) 1 rfl ?_
  refine f_getf rfl rfl (g := 228) rfl c_s s_text ?_
  refine f_go (pc1 := 23) (lv1 := [(2, .long 0), (1, .int (Int32.ofNat p)), (0, .ref s)]) (st1 := [.ref s, .ref tx]) 1 rfl ?_
  refine f_getf rfl rfl (g := 230) rfl c_s SS_230 ?_
  refine f_bald rfl htx (i := p) (show p < 6000 by omega) (by omega) (hTB p hp) ?_
  refine f_go (pc1 := 31) (lv1 := [(2, .long 0), (1, .int (Int32.ofNat p)), (0, .ref s)]) (st1 := [.int (Int32.ofNat (T p) &&& 255)]) 2 rfl ?_
  rw [b255 (T p) (hT p hp).1]
  refine f_st rfl rfl rfl rfl (g_isDigit (by omega) y1) ?_
  rw [show digt (T p) = true by rw [hc]; rfl, if_pos rfl]
  refine f_go (pc1 := 38) (lv1 := [(2, .long 0), (1, .int (Int32.ofNat p)), (0, .ref s)]) (st1 := [.long 0]) 2 rfl ?_
  refine f_ldc2 rfl ?_
  refine f_go (pc1 := 42) (lv1 := [(2, .long 0), (1, .int (Int32.ofNat p)), (0, .ref s)]) (st1 := [.long (0 * (Int64.ofInt 10))]) 1 rfl ?_
  refine f_go (pc1 := 43) (lv1 := [(2, .long 0), (1, .int (Int32.ofNat p)), (0, .ref s)]) (st1 := [.ref s, .long (0 * (Int64.ofInt 10))]) 1 rfl ?_
  refine f_getf rfl rfl (g := 228) rfl c_s s_text ?_
  refine f_go (pc1 := 47) (lv1 := [(2, .long 0), (1, .int (Int32.ofNat p)), (0, .ref s)]) (st1 := [.ref s, .ref tx, .long (0 * (Int64.ofInt 10))]) 1 rfl ?_
  refine f_getf rfl rfl (g := 230) rfl c_s SS_230 ?_
  refine f_bald rfl htx (i := p) (show p < 6000 by omega) (by omega) (hTB p hp) ?_
  rw [hc]
  refine f_go (pc1 := 52) (lv1 := [(2, .long 0), (1, .int (Int32.ofNat p)), (0, .ref s)]) (st1 := [.long (Int32.toInt64 (Int32.ofNat 50)), .long (0 * (Int64.ofInt 10))]) 1 rfl ?_
  refine f_go (pc1 := 53) (lv1 := [(2, .long 0), (1, .int (Int32.ofNat p)), (0, .ref s)]) (st1 := [.long ((0 * (Int64.ofInt 10)) + (Int32.toInt64 (Int32.ofNat 50)))]) 1 rfl ?_
  refine f_ldc2 rfl ?_
  refine f_go (pc1 := 57) (lv1 := [(2, .long 0), (1, .int (Int32.ofNat p)), (0, .ref s)]) (st1 := [.long (((0 * (Int64.ofInt 10)) + (Int32.toInt64 (Int32.ofNat 50))) - (Int64.ofInt 48))]) 1 rfl ?_
  refine f_ldc2 rfl ?_
  refine f_xm (st1 := [.long 2]) rfl rfl ?_
  refine f_go (pc1 := 66) (lv1 := [(2, .long 2), (1, .int (Int32.ofNat p)), (0, .ref s)]) (st1 := [.ref s, .ref s]) 3 rfl ?_
  refine f_getf rfl rfl (g := 230) rfl c_s SS_230 ?_
  refine f_go (pc1 := 71) (lv1 := [(2, .long 2), (1, .int (Int32.ofNat p)), (0, .ref s)]) (st1 := [.int ((Int32.ofNat p) + 1), .ref s]) 2 rfl ?_
  rw [show ((Int32.ofNat p) + 1 : Int32) = (Int32.ofNat (p + 1)) from (nat_s p)]
  refine f_putf rfl rfl (g := 230) rfl c_s rfl ?_
  rw [SS_put230]
  refine f_go (pc1 := 8) (lv1 := [(2, .long 2), (1, .int (Int32.ofNat p)), (0, .ref s)]) (st1 := [.ref s]) 2 rfl ?_
  refine f_getf rfl rfl (g := 230) rfl c_s SS_230 ?_
  refine f_go (pc1 := 12) (lv1 := [(2, .long 2), (1, .int (Int32.ofNat p)), (0, .ref s)]) (st1 := [.ref s, .int (Int32.ofNat (p + 1))]) 1 rfl ?_
  refine f_getf rfl rfl (g := 229) rfl c_s s_size ?_
  refine f_icmp (t := 77) rfl rfl false (nat_lt (by omega) (by omega) hp1) ?_
  refine f_go (pc1 := 19) (lv1 := [(2, .long 2), (1, .int (Int32.ofNat p)), (0, .ref s)]) (st1 := [.ref s]) 1 rfl ?_
  refine f_getf rfl rfl (g := 228) rfl c_s s_text ?_
  refine f_go (pc1 := 23) (lv1 := [(2, .long 2), (1, .int (Int32.ofNat p)), (0, .ref s)]) (st1 := [.ref s, .ref tx]) 1 rfl ?_
  refine f_getf rfl rfl (g := 230) rfl c_s SS_230 ?_
  refine f_bald rfl htx (i := p + 1) (show p + 1 < 6000 by omega) (by omega) (hTB (p + 1) hp1) ?_
  refine f_go (pc1 := 31) (lv1 := [(2, .long 2), (1, .int (Int32.ofNat p)), (0, .ref s)]) (st1 := [.int (Int32.ofNat (T (p + 1)) &&& 255)]) 2 rfl ?_
  rw [b255 (T (p + 1)) (hT (p + 1) hp1).1]
  refine f_st rfl rfl rfl rfl (g_isDigit (by omega) z1) ?_
  rw [hd1, if_neg (by decide)]
  refine f_go (pc1 := 78) (lv1 := [(2, .long 2), (1, .int (Int32.ofNat p)), (0, .ref s)]) (st1 := [.ref s]) 2 rfl ?_
  refine f_getf rfl rfl (g := 230) rfl c_s SS_230 ?_
  refine f_go (pc1 := 83) (lv1 := [(2, .long 2), (1, .int (Int32.ofNat p)), (0, .ref s)]) (st1 := [.int ((Int32.ofNat (p + 1)) - (Int32.ofNat p))]) 2 rfl ?_
  rw [show ((Int32.ofNat (p + 1)) - (Int32.ofNat p) : Int32) = 1 from (by rw [i32_sub (by omega)]; rw [show p + 1 - p = 1 by omega]; rfl)]
  refine f_go (pc1 := 89) (lv1 := [(2, .long 2), (1, .int (Int32.ofNat p)), (0, .ref s)]) (st1 := [.long 2]) 3 rfl ?_
  refine f_ldc2 rfl ?_
  refine f_go (pc1 := 93) (lv1 := [(2, .long 2), (1, .int (Int32.ofNat p)), (0, .ref s)]) (st1 := [.int (-1)]) 1 rfl ?_
  refine f_go (pc1 := 108) (lv1 := [(2, .long 2), (1, .int (Int32.ofNat p)), (0, .ref s)]) (st1 := [.ref s]) 2 rfl ?_
  refine f_getf rfl rfl (g := 230) rfl c_s SS_230 ?_
  refine f_go (pc1 := 112) (lv1 := [(2, .long 2), (1, .int (Int32.ofNat p)), (0, .ref s)]) (st1 := [.ref s, .int (Int32.ofNat (p + 1))]) 1 rfl ?_
  refine f_getf rfl rfl (g := 229) rfl c_s s_size ?_
  refine f_icmp (t := 162) rfl rfl false (nat_lt (by omega) (by omega) hp1) ?_
  refine f_go (pc1 := 119) (lv1 := [(2, .long 2), (1, .int (Int32.ofNat p)), (0, .ref s)]) (st1 := [.ref s]) 1 rfl ?_
  refine f_getf rfl rfl (g := 228) rfl c_s s_text ?_
  refine f_go (pc1 := 123) (lv1 := [(2, .long 2), (1, .int (Int32.ofNat p)), (0, .ref s)]) (st1 := [.ref s, .ref tx]) 1 rfl ?_
  refine f_getf rfl rfl (g := 230) rfl c_s SS_230 ?_
  refine f_bald rfl htx (i := p + 1) (show p + 1 < 6000 by omega) (by omega) (hTB (p + 1) hp1) ?_
  refine f_go (pc1 := 131) (lv1 := [(2, .long 2), (1, .int (Int32.ofNat p)), (0, .ref s)]) (st1 := [.int (Int32.ofNat (T (p + 1)) &&& 255)]) 2 rfl ?_
  rw [b255 (T (p + 1)) (hT (p + 1) hp1).1]
  refine f_st rfl rfl rfl rfl (g_isLetter (by omega) z1) ?_
  rw [hl1, if_neg (by decide)]
  refine f_go (pc1 := 138) (lv1 := [(2, .long 2), (1, .int (Int32.ofNat p)), (0, .ref s)]) (st1 := [.ref s]) 2 rfl ?_
  refine f_getf rfl rfl (g := 228) rfl c_s s_text ?_
  refine f_go (pc1 := 142) (lv1 := [(2, .long 2), (1, .int (Int32.ofNat p)), (0, .ref s)]) (st1 := [.ref s, .ref tx]) 1 rfl ?_
  refine f_getf rfl rfl (g := 230) rfl c_s SS_230 ?_
  refine f_bald rfl htx (i := p + 1) (show p + 1 < 6000 by omega) (by omega) (hTB (p + 1) hp1) ?_
  refine f_go (pc1 := 148) (lv1 := [(2, .long 2), (1, .int (Int32.ofNat p)), (0, .ref s)]) (st1 := [.int 95, .int (Int32.ofNat (T (p + 1)))]) 1 rfl ?_
  refine f_icmp (t := 162) rfl rfl true (ic_ne (fun e => hu1 ((nat_e (n := 95) (by omega) (by decide)).mp e))) ?_
  refine f_go (pc1 := 165) (lv1 := [(2, .long 2), (1, .int (Int32.ofNat p)), (0, .ref s)]) (st1 := [.long 2, .int 3, .ref s]) 3 rfl ?_
  refine f_go (pc1 := 166) (lv1 := [(2, .long 2), (1, .int (Int32.ofNat p)), (0, .ref s)]) (st1 := [.int 2, .int 3, .ref s]) 1 rfl ?_
  refine f_go (pc1 := 167) (lv1 := [(2, .long 2), (1, .int (Int32.ofNat p)), (0, .ref s)]) (st1 := [.ref s, .int 2, .int 3, .ref s]) 1 rfl ?_
  refine f_getf rfl rfl (g := 231) rfl c_s SS_231 ?_
  refine f_vt rfl rfl c_s rfl (g_putToken (by omega) hS9 hk (by decide) (by decide)) ?_
  exact f_rt rfl rfl
