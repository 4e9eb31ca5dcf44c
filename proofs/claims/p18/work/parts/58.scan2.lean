/-! the scanner's small methods -/
def prt (T : Nat → Nat) (n p a b : Nat) : Bool := decide (p + 1 < n) && (decide (T p = a) && decide (T (p + 1) = b))
theorem g_isPair {X : ev_X} {d : Nat} {σ : fl_S} (hd : 1 ≤ d) {s tx n p ln k m : Nat} {T : Nat → Nat} {K V L H C A Z : Nat → Int32} {a b : Nat} (hS : SW σ s tx n T) (hp : p < n) (ha : a < 128) (hb : b < 128) : CF X d 18 [.ref s, .int (Int32.ofNat a), .int (Int32.ofNat b)] (SS σ s p ln k m K V L H C A Z) (some (.int (if prt T n p a b = true then 1 else 0))) (SS σ s p ln k m K V L H C A Z) := by
  have hS9 := hS
  obtain ⟨c_s, k1, k2, k3, k4, k5, k6, k7, s_text, s_size, ⟨TB, htx, hTB⟩, hn6, hT⟩ := hS
  refine f_meth hd rfl ?_
  refine f_go (pc1 := 1) (lv1 := [(0, .ref s), (1, .int (Int32.ofNat a)), (2, .int (Int32.ofNat b))]) (st1 := [.ref s]) 1 rfl ?_
  refine f_getf rfl rfl (g := 230) rfl c_s SS_230 ?_
  refine f_go (pc1 := 6) (lv1 := [(0, .ref s), (1, .int (Int32.ofNat a)), (2, .int (Int32.ofNat b))]) (st1 := [.int ((Int32.ofNat p) + 1)]) 2 rfl ?_
  rw [show ((Int32.ofNat p) + 1 : Int32) = (Int32.ofNat (p + 1)) from (nat_s p)]
  refine f_go (pc1 := 7) (lv1 := [(0, .ref s), (1, .int (Int32.ofNat a)), (2, .int (Int32.ofNat b))]) (st1 := [.ref s, .int (Int32.ofNat (p + 1))]) 1 rfl ?_
  refine f_getf rfl rfl (g := 229) rfl c_s s_size ?_
  by_cases x1 : p + 1 < n
  ·
    refine f_icmp (t := 45) rfl rfl false (nat_lt (by omega) (by omega) x1) ?_
    refine f_go (pc1 := 14) (lv1 := [(0, .ref s), (1, .int (Int32.ofNat a)), (2, .int (Int32.ofNat b))]) (st1 := [.ref s]) 1 rfl ?_
    refine f_getf rfl rfl (g := 228) rfl c_s s_text ?_
    refine f_go (pc1 := 18) (lv1 := [(0, .ref s), (1, .int (Int32.ofNat a)), (2, .int (Int32.ofNat b))]) (st1 := [.ref s, .ref tx]) 1 rfl ?_
    refine f_getf rfl rfl (g := 230) rfl c_s SS_230 ?_
    refine f_bald rfl htx (i := p) (show p < 6000 by omega) (by omega) (hTB p hp) ?_
    refine f_go (pc1 := 23) (lv1 := [(0, .ref s), (1, .int (Int32.ofNat a)), (2, .int (Int32.ofNat b))]) (st1 := [.int (Int32.ofNat a), .int (Int32.ofNat (T p))]) 1 rfl ?_
    by_cases x2 : T p = a
    ·
      refine f_icmp (t := 45) rfl rfl false (ic_nen (by rw [x2])) ?_
      refine f_go (pc1 := 27) (lv1 := [(0, .ref s), (1, .int (Int32.ofNat a)), (2, .int (Int32.ofNat b))]) (st1 := [.ref s]) 1 rfl ?_
      refine f_getf rfl rfl (g := 228) rfl c_s s_text ?_
      refine f_go (pc1 := 31) (lv1 := [(0, .ref s), (1, .int (Int32.ofNat a)), (2, .int (Int32.ofNat b))]) (st1 := [.ref s, .ref tx]) 1 rfl ?_
      refine f_getf rfl rfl (g := 230) rfl c_s SS_230 ?_
      refine f_go (pc1 := 36) (lv1 := [(0, .ref s), (1, .int (Int32.ofNat a)), (2, .int (Int32.ofNat b))]) (st1 := [.int ((Int32.ofNat p) + 1), .ref tx]) 2 rfl ?_
      rw [show ((Int32.ofNat p) + 1 : Int32) = (Int32.ofNat (p + 1)) from (nat_s p)]
      refine f_bald rfl htx (i := p + 1) (show p + 1 < 6000 by omega) (by omega) (hTB (p + 1) x1) ?_
      refine f_go (pc1 := 38) (lv1 := [(0, .ref s), (1, .int (Int32.ofNat a)), (2, .int (Int32.ofNat b))]) (st1 := [.int (Int32.ofNat b), .int (Int32.ofNat (T (p + 1)))]) 1 rfl ?_
      by_cases x3 : T (p + 1) = b
      ·
        refine f_icmp (t := 45) rfl rfl false (ic_nen (by rw [x3])) ?_
        refine f_go (pc1 := 46) (lv1 := [(0, .ref s), (1, .int (Int32.ofNat a)), (2, .int (Int32.ofNat b))]) (st1 := [.int 1]) 2 rfl ?_
        rw [show prt T n p a b = true by simp [prt, x1, x2, x3]]
        exact f_rt rfl rfl
      ·
        refine f_icmp (t := 45) rfl rfl true (ic_ne (fun e => x3 ((nat_e (by have := (hT (p + 1) x1).1; omega) (by omega)).mp e))) ?_
        refine f_go (pc1 := 46) (lv1 := [(0, .ref s), (1, .int (Int32.ofNat a)), (2, .int (Int32.ofNat b))]) (st1 := [.int 0]) 1 rfl ?_
        rw [show prt T n p a b = false by simp [prt, x3]]
        exact f_rt rfl rfl
    ·
      refine f_icmp (t := 45) rfl rfl true (ic_ne (fun e => x2 ((nat_e (by have := (hT p hp).1; omega) (by omega)).mp e))) ?_
      refine f_go (pc1 := 46) (lv1 := [(0, .ref s), (1, .int (Int32.ofNat a)), (2, .int (Int32.ofNat b))]) (st1 := [.int 0]) 1 rfl ?_
      rw [show prt T n p a b = false by simp [prt, x2]]
      exact f_rt rfl rfl
  ·
    refine f_icmp (t := 45) rfl rfl true (nat_geT (by omega) (by omega) (by omega)) ?_
    refine f_go (pc1 := 46) (lv1 := [(0, .ref s), (1, .int (Int32.ofNat a)), (2, .int (Int32.ofNat b))]) (st1 := [.int 0]) 1 rfl ?_
    rw [show prt T n p a b = false by simp [prt, x1]]
    exact f_rt rfl rfl
theorem g_putToken {X : ev_X} {d : Nat} {σ : fl_S} (hd : 1 ≤ d) {s tx n p ln k m : Nat} {T : Nat → Nat} {K V L H C A Z : Nat → Int32} {kd v l : Int32} (hS : SW σ s tx n T) (hk : k ≤ 6000) (h0 : ¬ kd = 0) (h1 : ¬ kd = 1) : CF X d 16 [.ref s, .int kd, .int v, .int l] (SS σ s p ln k m K V L H C A Z) (some (.int 1)) (SS σ s p ln (k + 1) m (upd K k kd) (upd V k v) (upd L k l) H C A Z) := by
  have hS9 := hS
  obtain ⟨c_s, k1, k2, k3, k4, k5, k6, k7, s_text, s_size, ⟨TB, htx, hTB⟩, hn6, hT⟩ := hS
  refine f_meth hd rfl ?_
  refine f_go (pc1 := 1) (lv1 := [(0, .ref s), (1, .int kd), (2, .int v), (3, .int l)]) (st1 := [.ref s]) 1 rfl ?_
  refine f_getf rfl rfl (g := 227) rfl c_s SS_227 ?_
  refine f_go (pc1 := 7) (lv1 := [(0, .ref s), (1, .int kd), (2, .int v), (3, .int l)]) (st1 := [.int 6000, .int (Int32.ofNat k)]) 1 rfl ?_
  refine f_icmp (t := 12) rfl rfl true (nat_leT (n := 6000) (by omega) (by decide) hk) ?_
  refine f_go (pc1 := 13) (lv1 := [(0, .ref s), (1, .int kd), (2, .int v), (3, .int l)]) (st1 := [.ref s]) 1 rfl ?_
  refine f_getf rfl rfl (g := 224) rfl c_s k1 ?_
  refine f_go (pc1 := 17) (lv1 := [(0, .ref s), (1, .int kd), (2, .int v), (3, .int l)]) (st1 := [.ref s, .ref (s + 1)]) 1 rfl ?_
  refine f_getf rfl rfl (g := 227) rfl c_s SS_227 ?_
  refine f_go (pc1 := 21) (lv1 := [(0, .ref s), (1, .int kd), (2, .int v), (3, .int l)]) (st1 := [.int kd, .int (Int32.ofNat k), .ref (s + 1)]) 1 rfl ?_
  refine f_iast rfl SS_K (i := k) (by omega) (by omega) ?_
  rw [SS_putK]
  refine f_go (pc1 := 23) (lv1 := [(0, .ref s), (1, .int kd), (2, .int v), (3, .int l)]) (st1 := [.ref s]) 1 rfl ?_
  refine f_getf rfl rfl (g := 225) rfl c_s k2 ?_
  refine f_go (pc1 := 27) (lv1 := [(0, .ref s), (1, .int kd), (2, .int v), (3, .int l)]) (st1 := [.ref s, .ref (s + 2)]) 1 rfl ?_
  refine f_getf rfl rfl (g := 227) rfl c_s SS_227 ?_
  refine f_go (pc1 := 31) (lv1 := [(0, .ref s), (1, .int kd), (2, .int v), (3, .int l)]) (st1 := [.int v, .int (Int32.ofNat k), .ref (s + 2)]) 1 rfl ?_
  refine f_iast rfl SS_V (i := k) (by omega) (by omega) ?_
  rw [SS_putV]
  refine f_go (pc1 := 33) (lv1 := [(0, .ref s), (1, .int kd), (2, .int v), (3, .int l)]) (st1 := [.ref s]) 1 rfl ?_
  refine f_getf rfl rfl (g := 226) rfl c_s k3 ?_
  refine f_go (pc1 := 37) (lv1 := [(0, .ref s), (1, .int kd), (2, .int v), (3, .int l)]) (st1 := [.ref s, .ref (s + 3)]) 1 rfl ?_
  refine f_getf rfl rfl (g := 227) rfl c_s SS_227 ?_
  refine f_go (pc1 := 41) (lv1 := [(0, .ref s), (1, .int kd), (2, .int v), (3, .int l)]) (st1 := [.int l, .int (Int32.ofNat k), .ref (s + 3)]) 1 rfl ?_
  refine f_iast rfl SS_L (i := k) (by omega) (by omega) ?_
  rw [SS_putL]
  refine f_go (pc1 := 44) (lv1 := [(0, .ref s), (1, .int kd), (2, .int v), (3, .int l)]) (st1 := [.int 1, .int kd]) 2 rfl ?_
  refine f_icmp (t := 51) rfl rfl false (ic_eqn h1) ?_
  refine f_go (pc1 := 48) (lv1 := [(0, .ref s), (1, .int kd), (2, .int v), (3, .int l)]) (st1 := [.int kd]) 1 rfl ?_
  refine f_ifc (t := 53) rfl rfl true (ic_ne h0) ?_
  refine f_go (pc1 := 55) (lv1 := [(0, .ref s), (1, .int kd), (2, .int v), (3, .int l)]) (st1 := [.ref s, .ref s]) 2 rfl ?_
  refine f_getf rfl rfl (g := 227) rfl c_s SS_227 ?_
  refine f_go (pc1 := 60) (lv1 := [(0, .ref s), (1, .int kd), (2, .int v), (3, .int l)]) (st1 := [.int ((Int32.ofNat k) + 1), .ref s]) 2 rfl ?_
  rw [show ((Int32.ofNat k) + 1 : Int32) = (Int32.ofNat (k + 1)) from (nat_s k)]
  refine f_putf rfl rfl (g := 227) rfl c_s rfl ?_
  rw [SS_put227]
  refine f_go (pc1 := 64) (lv1 := [(0, .ref s), (1, .int kd), (2, .int v), (3, .int l)]) (st1 := [.int 1]) 1 rfl ?_
  exact f_rt rfl rfl
theorem g_putToken0 {X : ev_X} {d : Nat} {σ : fl_S} (hd : 1 ≤ d) {s tx n p ln k m : Nat} {T : Nat → Nat} {K V L H C A Z : Nat → Int32} { v l : Int32} (hS : SW σ s tx n T) (hk : k ≤ 6000)  : CF X d 16 [.ref s, .int 0, .int v, .int l] (SS σ s p ln k m K V L H C A Z) (some (.int 0)) (SS σ s p ln k m (upd K k 0) (upd V k v) (upd L k l) H C A Z) := by
  have hS9 := hS
  obtain ⟨c_s, k1, k2, k3, k4, k5, k6, k7, s_text, s_size, ⟨TB, htx, hTB⟩, hn6, hT⟩ := hS
  refine f_meth hd rfl ?_
  refine f_go (pc1 := 1) (lv1 := [(0, .ref s), (1, .int 0), (2, .int v), (3, .int l)]) (st1 := [.ref s]) 1 rfl ?_
  refine f_getf rfl rfl (g := 227) rfl c_s SS_227 ?_
  refine f_go (pc1 := 7) (lv1 := [(0, .ref s), (1, .int 0), (2, .int v), (3, .int l)]) (st1 := [.int 6000, .int (Int32.ofNat k)]) 1 rfl ?_
  refine f_icmp (t := 12) rfl rfl true (nat_leT (n := 6000) (by omega) (by decide) hk) ?_
  refine f_go (pc1 := 13) (lv1 := [(0, .ref s), (1, .int 0), (2, .int v), (3, .int l)]) (st1 := [.ref s]) 1 rfl ?_
  refine f_getf rfl rfl (g := 224) rfl c_s k1 ?_
  refine f_go (pc1 := 17) (lv1 := [(0, .ref s), (1, .int 0), (2, .int v), (3, .int l)]) (st1 := [.ref s, .ref (s + 1)]) 1 rfl ?_
  refine f_getf rfl rfl (g := 227) rfl c_s SS_227 ?_
  refine f_go (pc1 := 21) (lv1 := [(0, .ref s), (1, .int 0), (2, .int v), (3, .int l)]) (st1 := [.int 0, .int (Int32.ofNat k), .ref (s + 1)]) 1 rfl ?_
  refine f_iast rfl SS_K (i := k) (by omega) (by omega) ?_
  rw [SS_putK]
  refine f_go (pc1 := 23) (lv1 := [(0, .ref s), (1, .int 0), (2, .int v), (3, .int l)]) (st1 := [.ref s]) 1 rfl ?_
  refine f_getf rfl rfl (g := 225) rfl c_s k2 ?_
  refine f_go (pc1 := 27) (lv1 := [(0, .ref s), (1, .int 0), (2, .int v), (3, .int l)]) (st1 := [.ref s, .ref (s + 2)]) 1 rfl ?_
  refine f_getf rfl rfl (g := 227) rfl c_s SS_227 ?_
  refine f_go (pc1 := 31) (lv1 := [(0, .ref s), (1, .int 0), (2, .int v), (3, .int l)]) (st1 := [.int v, .int (Int32.ofNat k), .ref (s + 2)]) 1 rfl ?_
  refine f_iast rfl SS_V (i := k) (by omega) (by omega) ?_
  rw [SS_putV]
  refine f_go (pc1 := 33) (lv1 := [(0, .ref s), (1, .int 0), (2, .int v), (3, .int l)]) (st1 := [.ref s]) 1 rfl ?_
  refine f_getf rfl rfl (g := 226) rfl c_s k3 ?_
  refine f_go (pc1 := 37) (lv1 := [(0, .ref s), (1, .int 0), (2, .int v), (3, .int l)]) (st1 := [.ref s, .ref (s + 3)]) 1 rfl ?_
  refine f_getf rfl rfl (g := 227) rfl c_s SS_227 ?_
  refine f_go (pc1 := 41) (lv1 := [(0, .ref s), (1, .int 0), (2, .int v), (3, .int l)]) (st1 := [.int l, .int (Int32.ofNat k), .ref (s + 3)]) 1 rfl ?_
  refine f_iast rfl SS_L (i := k) (by omega) (by omega) ?_
  rw [SS_putL]
  refine f_go (pc1 := 52) (lv1 := [(0, .ref s), (1, .int 0), (2, .int v), (3, .int l)]) (st1 := [.int 0]) 6 rfl ?_
  exact f_rt rfl rfl
/-- blanks skipped: where, and in which line -/
def skB (T : Nat → Nat) (n : Nat) : Nat → Nat → Nat → Nat × Nat
  | 0, p, ln => (p, ln)
  | f + 1, p, ln => if p < n then (if T p = 10 then skB T n f (p + 1) (ln + 1) else if T p = 32 then skB T n f (p + 1) ln else (p, ln)) else (p, ln)
theorem g_skipBlanks {X : ev_X} {d : Nat} {σ : fl_S} (hd : 2 ≤ d) {s tx n k m : Nat} {T : Nat → Nat} {K V L H C A Z : Nat → Int32} (hS : SW σ s tx n T) : ∀ (f p ln : Nat), n - p ≤ f → p ≤ n → CF X d 17 [.ref s] (SS σ s p ln k m K V L H C A Z) (some (.int 0)) (SS σ s (skB T n f p ln).1 (skB T n f p ln).2 k m K V L H C A Z) := by
  have hS9 := hS
  obtain ⟨c_s, k1, k2, k3, k4, k5, k6, k7, s_text, s_size, ⟨TB, htx, hTB⟩, hn6, hT⟩ := hS
  intro f p ln hf hp
  refine f_meth (by omega) rfl ?_
  have key : ∀ (f p ln : Nat) (lv1 : ev_L), n - p ≤ f → p ≤ n → lvK [(0, .ref s)] lv1 → EF X (d - 1) 17 0 lv1 [] (SS σ s p ln k m K V L H C A Z) (some (.int 0)) (SS σ s (skB T n f p ln).1 (skB T n f p ln).2 k m K V L H C A Z) := by
    intro f
    induction f with
    | zero =>
      intro p ln lv1 hf hp hlv
      refine f_lv _ hlv ?_
      refine f_go (pc1 := 1) (lv1 := [(0, .ref s)]) (st1 := [.ref s]) 1 rfl ?_
      refine f_getf rfl rfl (g := 230) rfl c_s SS_230 ?_
      refine f_go (pc1 := 5) (lv1 := [(0, .ref s)]) (st1 := [.ref s, .int (Int32.ofNat p)]) 1 rfl ?_
      refine f_getf rfl rfl (g := 229) rfl c_s s_size ?_
      refine f_icmp (t := 105) rfl rfl true (nat_geT (by omega) (by omega) (by omega)) ?_
      refine f_go (pc1 := 106) (lv1 := [(0, .ref s)]) (st1 := [.int 0]) 1 rfl ?_
      exact f_rt rfl rfl
    | succ f ih =>
      intro p ln lv1 hf hp hlv
      refine f_lv _ hlv ?_
      by_cases x1 : p < n
      ·
        refine f_go (pc1 := 1) (lv1 := [(0, .ref s)]) (st1 := [.ref s]) 1 rfl ?_
        refine f_getf rfl rfl (g := 230) rfl c_s SS_230 ?_
        refine f_go (pc1 := 5) (lv1 := [(0, .ref s)]) (st1 := [.ref s, .int (Int32.ofNat p)]) 1 rfl ?_
        refine f_getf rfl rfl (g := 229) rfl c_s s_size ?_
        refine f_icmp (t := 105) rfl rfl false (nat_lt (by omega) (by omega) x1) ?_
        refine f_go (pc1 := 12) (lv1 := [(0, .ref s)]) (st1 := [.ref s]) 1 rfl ?_
        refine f_getf rfl rfl (g := 228) rfl c_s s_text ?_
        refine f_go (pc1 := 16) (lv1 := [(0, .ref s)]) (st1 := [.ref s, .ref tx]) 1 rfl ?_
        refine f_getf rfl rfl (g := 230) rfl c_s SS_230 ?_
        refine f_bald rfl htx (i := p) (show p < 6000 by omega) (by omega) (hTB p x1) ?_
        refine f_go (pc1 := 24) (lv1 := [(0, .ref s)]) (st1 := [.int (Int32.ofNat (T p) &&& 255)]) 2 rfl ?_
        rw [b255 (T p) (hT p x1).1]
        refine f_go (pc1 := 28) (lv1 := [(1, .int (Int32.ofNat (T p))), (0, .ref s)]) (st1 := [.int 10, .int (Int32.ofNat (T p))]) 3 rfl ?_
        obtain ⟨y1, y2, y3, y4⟩ := hT p x1
        by_cases x2 : T p = 10
        ·
          refine f_icmp (t := 44) rfl rfl false (ic_nen (by rw [x2]; rfl)) ?_
          refine f_go (pc1 := 33) (lv1 := [(1, .int (Int32.ofNat (T p))), (0, .ref s)]) (st1 := [.ref s, .ref s]) 2 rfl ?_
          refine f_getf rfl rfl (g := 231) rfl c_s SS_231 ?_
          refine f_go (pc1 := 38) (lv1 := [(1, .int (Int32.ofNat (T p))), (0, .ref s)]) (st1 := [.int ((Int32.ofNat ln) + 1), .ref s]) 2 rfl ?_
          rw [show ((Int32.ofNat ln) + 1 : Int32) = (Int32.ofNat (ln + 1)) from (nat_s ln)]
          refine f_putf rfl rfl (g := 231) rfl c_s rfl ?_
          rw [SS_put231]
          refine f_go (pc1 := 94) (lv1 := [(1, .int (Int32.ofNat (T p))), (0, .ref s)]) (st1 := [.ref s, .ref s]) 3 rfl ?_
          refine f_getf rfl rfl (g := 230) rfl c_s SS_230 ?_
          refine f_go (pc1 := 99) (lv1 := [(1, .int (Int32.ofNat (T p))), (0, .ref s)]) (st1 := [.int ((Int32.ofNat p) + 1), .ref s]) 2 rfl ?_
          rw [show ((Int32.ofNat p) + 1 : Int32) = (Int32.ofNat (p + 1)) from (nat_s p)]
          refine f_putf rfl rfl (g := 230) rfl c_s rfl ?_
          rw [SS_put230]
          refine f_go (pc1 := 0) (lv1 := [(1, .int (Int32.ofNat (T p))), (0, .ref s)]) (st1 := []) 1 rfl ?_
          rw [show skB T n (f + 1) p ln = skB T n f (p + 1) (ln + 1) by simp [skB, x1, x2]]
          exact ih (p + 1) (ln + 1) _ (by omega) (by omega) (fl_c rfl fl_0)
        ·
          refine f_icmp (t := 44) rfl rfl true (ic_ne (fun e => x2 ((nat_e (n := 10) (by omega) (by decide)).mp e))) ?_
          refine f_go (pc1 := 49) (lv1 := [(1, .int (Int32.ofNat (T p))), (0, .ref s)]) (st1 := [.int 42, .int 40, .ref s]) 3 rfl ?_
          have hpr := g_isPair (X := X) (d := d - 1) (σ := σ) (k := k) (m := m) (ln := ln) (K := K) (V := V) (L := L) (H := H) (C := C) (A := A) (Z := Z) (by omega) (a := 40) (b := 42) hS9 x1 (by decide) (by decide)
          rw [show prt T n p 40 42 = false by simp [prt, y4], if_neg (by decide)] at hpr
          refine f_vt rfl rfl c_s rfl hpr ?_
          refine f_go (pc1 := 75) (lv1 := [(1, .int (Int32.ofNat (T p))), (0, .ref s)]) (st1 := [.int 32, .int (Int32.ofNat (T p))]) 3 rfl ?_
          by_cases x3 : T p = 32
          ·
            refine f_icmp (t := 92) rfl rfl true (ic_eq (by rw [x3]; rfl)) ?_
            refine f_go (pc1 := 94) (lv1 := [(1, .int (Int32.ofNat (T p))), (0, .ref s)]) (st1 := [.ref s, .ref s]) 2 rfl ?_
            refine f_getf rfl rfl (g := 230) rfl c_s SS_230 ?_
            refine f_go (pc1 := 99) (lv1 := [(1, .int (Int32.ofNat (T p))), (0, .ref s)]) (st1 := [.int ((Int32.ofNat p) + 1), .ref s]) 2 rfl ?_
            rw [show ((Int32.ofNat p) + 1 : Int32) = (Int32.ofNat (p + 1)) from (nat_s p)]
            refine f_putf rfl rfl (g := 230) rfl c_s rfl ?_
            rw [SS_put230]
            refine f_go (pc1 := 0) (lv1 := [(1, .int (Int32.ofNat (T p))), (0, .ref s)]) (st1 := []) 1 rfl ?_
            rw [show skB T n (f + 1) p ln = skB T n f (p + 1) ln by simp [skB, x1, x3]]
            exact ih (p + 1) ln _ (by omega) (by omega) (fl_c rfl fl_0)
          ·
            refine f_icmp (t := 92) rfl rfl false (ic_eqn (fun e => x3 ((nat_e (n := 32) (by omega) (by decide)).mp e))) ?_
            refine f_go (pc1 := 81) (lv1 := [(1, .int (Int32.ofNat (T p))), (0, .ref s)]) (st1 := [.int 9, .int (Int32.ofNat (T p))]) 2 rfl ?_
            refine f_icmp (t := 92) rfl rfl false (ic_eqn (fun e => y2 ((nat_e (n := 9) (by omega) (by decide)).mp e))) ?_
            refine f_go (pc1 := 87) (lv1 := [(1, .int (Int32.ofNat (T p))), (0, .ref s)]) (st1 := [.int 13, .int (Int32.ofNat (T p))]) 2 rfl ?_
            refine f_icmp (t := 92) rfl rfl false (ic_eqn (fun e => y3 ((nat_e (n := 13) (by omega) (by decide)).mp e))) ?_
            refine f_go (pc1 := 91) (lv1 := [(1, .int (Int32.ofNat (T p))), (0, .ref s)]) (st1 := [.int 0]) 1 rfl ?_
            rw [show skB T n (f + 1) p ln = (p, ln) by simp [skB, x1, x2, x3]]
            exact f_rt rfl rfl
      ·
        refine f_go (pc1 := 1) (lv1 := [(0, .ref s)]) (st1 := [.ref s]) 1 rfl ?_
        refine f_getf rfl rfl (g := 230) rfl c_s SS_230 ?_
        refine f_go (pc1 := 5) (lv1 := [(0, .ref s)]) (st1 := [.ref s, .int (Int32.ofNat p)]) 1 rfl ?_
        refine f_getf rfl rfl (g := 229) rfl c_s s_size ?_
        refine f_icmp (t := 105) rfl rfl true (nat_geT (by omega) (by omega) (by omega)) ?_
        refine f_go (pc1 := 106) (lv1 := [(0, .ref s)]) (st1 := [.int 0]) 1 rfl ?_
        rw [show skB T n (f + 1) p ln = (p, ln) by simp [skB, x1]]
        exact f_rt rfl rfl
  exact key f p ln _ hf hp (fl_c rfl fl_0)
