/-! the law's own methods: the text that it feeds -/
section REM
variable {X : ev_X} {d k pc : Nat} {lv : ev_L} {st : List Value} {σ : fl_S} {Q : Option Value → fl_S → Prop}
theorem i32_rem {a b : Nat} (ha : a < 2147483648) (hb : b < 2147483648) (h0 : 0 < b) : Int32.ofNat a - Int32.ofNat a / Int32.ofNat b * Int32.ofNat b = Int32.ofNat (a % b) := by
  have h1 : Int32.ofNat a / Int32.ofNat b = Int32.ofNat (a / b) := pk_div (a := a) (d := b) ha h0 hb
  rw [h1, ← Int32.ofNat_mul, i32_sub (Nat.div_mul_le_self a b)]
  have := Nat.div_add_mod a b
  rw [Nat.mul_comm] at this
  rw [show a - a / b * b = a % b by omega]
theorem f_irem {a b q1 q2 tg : Nat} {kk : Int} (hb : ev_tb k pc = some (.irem, 1, q1, q2, tg, kk)) (ha : a < 2147483648) (hb2 : b < 2147483648) (h0 : 0 < b) (next : EQ X d k (pc + 1) lv (.int (Int32.ofNat (a % b)) :: st) σ Q) : EQ X d k pc lv (.int (Int32.ofNat b) :: .int (Int32.ofNat a) :: st) σ Q := by
  refine f_step (fun _ _ _ _ _ _ e => e_xc hb ?_ e) next
  show ev_if (Nat.beq 1 1 && !decide (Int32.ofNat b = 0)) (some (pc + 1, .int (Int32.ofNat a - Int32.ofNat a / Int32.ofNat b * Int32.ofNat b) :: st)) = _
  rw [i32_rem ha hb2 h0, decide_eq_false (fun e => by have := (nat_e (n := 0) hb2 (by decide)).mp e; omega)]
  rfl
end REM
/-- what stands on the tape -/
def TX (TB : Nat → Int32) (s : List Nat) : Prop := ∀ j x, s[j]? = some x → TB j = Int32.ofNat x
def LTx (σ : fl_S) (x tp : Nat) (s : List Nat) (σ1 : fl_S) : Prop := ∃ TB, TX TB s ∧ σ1 = TP σ x tp s.length TB
theorem upd_s {F G : Nat → Int32} {p k k2 : Nat} {v : Int32} (hk : k2 = p + k) (h : ∀ i, F (p + i) = G i) : ∀ i, upd F k2 v (p + i) = upd G k v i := fun i => by
  unfold upd
  by_cases e : i = k
  · rw [if_pos e, if_pos (show p + i = k2 by omega)]
  · rw [if_neg e, if_neg (show ¬ p + i = k2 by omega)]
    exact h i
theorem upd_l {F G : Nat → Int32} {p k : Nat} {v : Int32} (hk : p ≤ k) (h : ∀ i, i < p → F i = G i) : ∀ i, i < p → upd F k v i = G i := fun i hi => by
  unfold upd
  rw [if_neg (show ¬ i = k by omega)]
  exact h i hi
theorem put4_s {F G : Nat → Int32} {p k k2 : Nat} {v : Int32} (hk : k2 = p + k) (h : ∀ i, F (p + i) = G i) : ∀ i, put4 F k2 v (p + i) = put4 G k v i := upd_s (by omega) (upd_s (by omega) (upd_s (by omega) (upd_s hk h)))
theorem put4_l {F G : Nat → Int32} {p k : Nat} {v : Int32} (hk : p ≤ k) (h : ∀ i, i < p → F i = G i) : ∀ i, i < p → put4 F k v i = G i := upd_l (by omega) (upd_l (by omega) (upd_l (by omega) (upd_l hk h)))
theorem put20_l {F : Nat → Int32} {p : Nat} {a b c e f : Int32} : ∀ i, i < p → put20 F p a b c e f i = F i := put4_l (by omega) (put4_l (by omega) (put4_l (by omega) (put4_l (by omega) (put4_l (Nat.le_refl _) (fun _ _ => rfl)))))
/-- the bytes of five words -/
def b20 (a b c e f : Int32) : Nat → Int32 := put20 (fun _ => 0) 0 a b c e f
theorem upd_a {F G : Nat → Int32} {k : Nat} {v : Int32} (h : ∀ i, i < k → F i = G i) : ∀ i, i < k + 1 → upd F k v i = upd G k v i := fun i hi => by
  unfold upd
  by_cases e : i = k
  · rw [if_pos e, if_pos e]
  · rw [if_neg e, if_neg e]
    exact h i (by omega)
theorem put4_a {F G : Nat → Int32} {k : Nat} {v : Int32} (h : ∀ i, i < k → F i = G i) : ∀ i, i < k + 4 → put4 F k v i = put4 G k v i := upd_a (upd_a (upd_a (upd_a h)))
theorem put20_z {G : Nat → Int32} {a b c e f : Int32} : ∀ i, i < 20 → put20 G 0 a b c e f i = b20 a b c e f i := put4_a (put4_a (put4_a (put4_a (put4_a (fun i hi => absurd hi (Nat.not_lt_zero _))))))
theorem put20_s {F : Nat → Int32} {p i : Nat} {a b c e f : Int32} (hi : i < 20) : put20 F p a b c e f (p + i) = b20 a b c e f i := by
  have h : ∀ i, put20 F p a b c e f (p + i) = put20 (fun i => F (p + i)) 0 a b c e f i := put4_s (by omega) (put4_s (by omega) (put4_s (by omega) (put4_s (by omega) (put4_s (by omega) (fun _ => rfl)))))
  rw [h, put20_z i hi]
/-- that the first of them are these -/
def okb (a b c e f : Int32) (w : List Nat) : Bool := Nat.ble w.length 20 && (List.range w.length).all fun i => decide (b20 a b c e f i = Int32.ofNat (w.getD i 0))
theorem TX_put {TB : Nat → Int32} {s w : List Nat} {a b c e f : Int32} (hs : TX TB s) (hw : okb a b c e f w = true) : w.length ≤ 20 ∧ TX (put20 TB s.length a b c e f) (s ++ w) := by
  unfold okb at hw
  rw [Bool.and_eq_true] at hw
  have h1 := Nat.le_of_ble_eq_true hw.1
  refine ⟨h1, fun j x hx => ?_⟩
  by_cases h : j < s.length
  · rw [List.getElem?_append_left h] at hx
    rw [put20_l j h]
    exact hs j x hx
  · rw [List.getElem?_append_right (by omega)] at hx
    have hj : j - s.length < w.length := by
      rcases Nat.lt_or_ge (j - s.length) w.length with h | h
      · exact h
      · rw [List.getElem?_eq_none h] at hx; cases hx
    have h2 := of_decide_eq_true (rall hw.2 hj)
    rw [List.getD_eq_getElem?_getD, hx] at h2
    rw [show j = s.length + (j - s.length) by omega, put20_s (by omega)]
    exact h2
theorem b20_c : ∀ c, c < 128 → okb (Int32.ofNat c <<< (24 &&& 31)) 0 0 0 0 [c] = true := by decide +kernel
/-- a ring's bound, drawn -/
def bdV (v : Int32) (k : Nat) : Nat := 1 + (((Int32.toUInt32 v >>> (Int32.toUInt32 (Int32.ofNat k) &&& Int32.toUInt32 31)).toInt32) &&& 1).toBitVec.toNat
theorem i32_bv (x : Int32) : Int32.ofNat x.toBitVec.toNat = x := by
  apply Int32.toBitVec_inj.mp
  show BitVec.ofNat 32 x.toBitVec.toNat = x.toBitVec
  simp
theorem i32_and {x : Int32} {k : Nat} (hk : k < 2147483648) : (x &&& Int32.ofNat k).toBitVec.toNat ≤ k := by
  show (x.toBitVec &&& BitVec.ofNat 32 k).toNat ≤ k
  rw [BitVec.toNat_and, BitVec.toNat_ofNat, Nat.mod_eq_of_lt (by omega)]
  exact Nat.and_le_right
theorem bdV_12 (v : Int32) (k : Nat) : bdV v k = 1 ∨ bdV v k = 2 := by
  unfold bdV
  have := i32_and (x := (Int32.toUInt32 v >>> (Int32.toUInt32 (Int32.ofNat k) &&& Int32.toUInt32 31)).toInt32) (k := 1) (by decide)
  have : (((Int32.toUInt32 v >>> (Int32.toUInt32 (Int32.ofNat k) &&& Int32.toUInt32 31)).toInt32) &&& 1).toBitVec.toNat ≤ 1 := this
  omega
theorem g_put {X : ev_X} {d : Nat} {σ σ1 : fl_S} (hd : 3 ≤ d) {x tp : Nat} {s w : List Nat} {n : Nat} {a b c e f : Int32} (c_x : sC σ 10 x = true) (x_tape : sF σ x 320 = .ref tp) (hs : LTx σ x tp s σ1) (hl : s.length + 20 ≤ 6000) (hw : okb a b c e f w = true) (hn : w.length = n) : CQ X d 120 [.ref x, .int (Int32.ofNat n), .int a, .int b, .int c, .int e, .int f] σ1 (fun v σ2 => v = none ∧ LTx σ x tp (s ++ w) σ2) := by
  obtain ⟨TB, hT, rfl⟩ := hs
  subst hn
  obtain ⟨h1, h2⟩ := TX_put hT hw
  refine f_meth (by omega) rfl ?_
  refine f_go (pc1 := 9) (lv1 := [(0, .ref x), (1, .int (Int32.ofNat w.length)), (2, .int a), (3, .int b), (4, .int c), (5, .int e), (6, .int f)]) (st1 := [.int f, .int e, .int c, .int b, .int a, .ref x]) 6 rfl ?_
  refine f_vt rfl rfl c_x rfl (g_feed (by omega) c_x x_tape hl) ?_
  refine f_go (pc1 := 17) (lv1 := [(0, .ref x), (1, .int (Int32.ofNat w.length)), (2, .int a), (3, .int b), (4, .int c), (5, .int e), (6, .int f)]) (st1 := [.int (Int32.ofNat w.length), .int 20, .ref x]) 4 rfl ?_
  refine f_go (pc1 := 18) (lv1 := [(0, .ref x), (1, .int (Int32.ofNat w.length)), (2, .int a), (3, .int b), (4, .int c), (5, .int e), (6, .int f)]) (st1 := [.int (Int32.ofNat 20 - Int32.ofNat w.length), .ref x]) 1 rfl ?_
  rw [i32_sub h1]
  refine f_vt rfl rfl c_x rfl (g_back (n := s.length + 20) (by omega) c_x x_tape (by omega) hl) ?_
  refine f_go (pc1 := 22) (lv1 := [(0, .ref x), (1, .int (Int32.ofNat w.length)), (2, .int a), (3, .int b), (4, .int c), (5, .int e), (6, .int f)]) (st1 := []) 1 rfl ?_
  exact f_rtQ rfl rfl ⟨rfl, _, h2, by rw [List.length_append, show s.length + 20 - (20 - w.length) = s.length + w.length by omega]⟩
theorem g_sign {X : ev_X} {d : Nat} {σ σ1 : fl_S} (hd : 3 ≤ d) {x tp : Nat} {s : List Nat} {c : Nat} (c_x : sC σ 10 x = true) (x_tape : sF σ x 320 = .ref tp) (hs : LTx σ x tp s σ1) (hl : s.length + 20 ≤ 6000) (hc : c < 128) : CQ X d 121 [.ref x, .int (Int32.ofNat c)] σ1 (fun v σ2 => v = none ∧ LTx σ x tp (s ++ [c]) σ2) := by
  obtain ⟨TB, hT, rfl⟩ := hs
  obtain ⟨h1, h2⟩ := TX_put hT (b20_c c hc)
  refine f_meth (by omega) rfl ?_
  refine f_go (pc1 := 9) (lv1 := [(0, .ref x), (1, .int (Int32.ofNat c))]) (st1 := [.int 0, .int 0, .int 0, .int 0, .int ((Int32.ofNat c) <<< (24 &&& 31)), .ref x]) 8 rfl ?_
  refine f_vt rfl rfl c_x rfl (g_feed (by omega) c_x x_tape hl) ?_
  refine f_go (pc1 := 16) (lv1 := [(0, .ref x), (1, .int (Int32.ofNat c))]) (st1 := [.int 19, .ref x]) 3 rfl ?_
  refine f_vt rfl rfl c_x rfl (g_back (n := s.length + 20) (j := 19) (by omega) c_x x_tape (by omega) hl) ?_
  refine f_go (pc1 := 20) (lv1 := [(0, .ref x), (1, .int (Int32.ofNat c))]) (st1 := []) 1 rfl ?_
  exact f_rtQ rfl rfl ⟨rfl, _, h2, by rw [List.length_append, show s.length + 20 - 19 = s.length + 1 by omega]; rfl⟩
theorem g_bound {X : ev_X} {d : Nat} {σ : fl_S} (hd : 1 ≤ d) {v : Int32} {k : Nat} : CF X d 123 [.int v, .int (Int32.ofNat k)] σ (some (.int (Int32.ofNat (48 + bdV v k)))) σ := by
  refine f_meth hd rfl ?_
  refine f_go (pc1 := 8) (lv1 := [(0, .int v), (1, .int (Int32.ofNat k))]) (st1 := [.int (49 + (((Int32.toUInt32 v >>> (Int32.toUInt32 (Int32.ofNat k) &&& Int32.toUInt32 31)).toInt32) &&& 1))]) 7 rfl ?_
  rw [show 49 + (((Int32.toUInt32 v >>> (Int32.toUInt32 (Int32.ofNat k) &&& Int32.toUInt32 31)).toInt32) &&& 1) = Int32.ofNat (48 + bdV v k) by
    unfold bdV
    rw [show 48 + (1 + (((Int32.toUInt32 v >>> (Int32.toUInt32 (Int32.ofNat k) &&& Int32.toUInt32 31)).toInt32) &&& 1).toBitVec.toNat) = 49 + (((Int32.toUInt32 v >>> (Int32.toUInt32 (Int32.ofNat k) &&& Int32.toUInt32 31)).toInt32) &&& 1).toBitVec.toNat by omega, Int32.ofNat_add, i32_bv]
    rfl]
  exact f_rt rfl rfl
theorem g_at {X : ev_X} {d : Nat} {σ : fl_S} (hd : 1 ≤ d) {q k : Nat} {f : Nat → Int32} (hq : sI σ q = some (9, f)) (hk : k < 9) : CF X d 119 [.ref q, .int (Int32.ofNat k)] σ (some (.int (f k))) σ := by
  refine f_meth hd rfl ?_
  refine f_go (pc1 := 2) (lv1 := [(0, .ref q), (1, .int (Int32.ofNat k))]) (st1 := [.ref q, .int (Int32.ofNat k)]) 2 rfl ?_
  refine f_alI rfl hq ?_
  refine f_icmp (t := 12) rfl rfl false (nat_lt (by omega) (by omega) hk) ?_
  refine f_go (pc1 := 8) (lv1 := [(0, .ref q), (1, .int (Int32.ofNat k))]) (st1 := [.int (Int32.ofNat k), .ref q]) 2 rfl ?_
  refine f_iald rfl hq (i := k) hk (by omega) rfl ?_
  refine f_go (pc1 := 13) (lv1 := [(0, .ref q), (1, .int (Int32.ofNat k))]) (st1 := [.int (f k)]) 1 rfl ?_
  exact f_rt rfl rfl
/-- a ring's lines, the first k of them -/
def rgL (nm n : Nat) (v : Int32) : Nat → List Nat
  | 0 => []
  | k + 1 => rgL nm n v k ++ cRg nm k (Nat.mod (k + 1) n) (bdV v k)
theorem cRg_len {nm k q b : Nat} : (cRg nm k q b).length = 34 := rfl
theorem rgL_len {nm n : Nat} {v : Int32} : ∀ k, (rgL nm n v k).length = 34 * k
  | 0 => rfl
  | k + 1 => by
    show (rgL nm n v k ++ cRg nm k (Nat.mod (k + 1) n) (bdV v k)).length = _
    rw [List.length_append, rgL_len k, cRg_len]
    omega
theorem kw_TY : okb 1415139397 536870912 0 0 0 [84, 89, 80, 69, 32] = true := by decide +kernel
theorem kw_RA : okb 540876882 1162223681 1381122393 542847022 771751936 [32, 61, 32, 82, 69, 70, 32, 65, 82, 82, 65, 89, 32, 91, 48, 46, 46] = true := by decide +kernel
theorem kw_OF : okb 1562398534 536870912 0 0 0 [93, 32, 79, 70, 32] = true := by decide +kernel
theorem kw_NL : okb 990511104 0 0 0 0 [59, 10] = true := by decide +kernel
theorem g_ring {X : ev_X} {d : Nat} {σ σ1 : fl_S} (hd : 4 ≤ d) {x tp : Nat} {s : List Nat} {nm n : Nat} {v : Int32} (c_x : sC σ 10 x = true) (x_tape : sF σ x 320 = .ref tp) (hs : LTx σ x tp s σ1) (hl : s.length + 200 ≤ 6000) (hm : nm < 128) (hn0 : 0 < n) (hn : n ≤ 4) : CQ X d 122 [.ref x, .int (Int32.ofNat nm), .int (Int32.ofNat n), .int v] σ1 (fun r σ2 => r = none ∧ LTx σ x tp (s ++ rgL nm n v n) σ2) := by
  refine f_meth (by omega) rfl ?_
  have key : ∀ (j k : Nat) (lv1 : ev_L) (σ2 : fl_S), k + j = n → LTx σ x tp (s ++ rgL nm n v k) σ2 → lvK [(4, .int (Int32.ofNat k)), (0, .ref x), (1, .int (Int32.ofNat nm)), (2, .int (Int32.ofNat n)), (3, .int v)] lv1 → EQ X (d - 1) 122 3 lv1 [] σ2 (fun r σ2 => r = none ∧ LTx σ x tp (s ++ rgL nm n v n) σ2) := by
    intro j
    induction j with
    | zero =>
      intro k lv1 σ2 hk hS hlv
      have hk : k = n := hk
      subst hk
      refine f_lv [(4, .int (Int32.ofNat k)), (0, .ref x), (1, .int (Int32.ofNat nm)), (2, .int (Int32.ofNat k)), (3, .int v)] hlv ?_
      refine f_go (pc1 := 6) (lv1 := [(4, .int (Int32.ofNat k)), (0, .ref x), (1, .int (Int32.ofNat nm)), (2, .int (Int32.ofNat k)), (3, .int v)]) (st1 := [.int (Int32.ofNat k), .int (Int32.ofNat k)]) 2 rfl ?_
      refine f_icmp (t := 108) rfl rfl true (nat_geT (by omega) (by omega) (Nat.le_refl _)) ?_
      exact f_rtQ rfl rfl ⟨rfl, hS⟩
    | succ j ih =>
      intro k lv1 σ2 hk hS hlv
      have hlen : (s ++ rgL nm n v k).length + 64 ≤ 6000 := by rw [List.length_append, rgL_len]; omega
      have hmod : Nat.mod (k + 1) n < n := Nat.mod_lt _ hn0
      have hbd := bdV_12 v k
      refine f_lv [(4, .int (Int32.ofNat k)), (0, .ref x), (1, .int (Int32.ofNat nm)), (2, .int (Int32.ofNat n)), (3, .int v)] hlv ?_
      refine f_go (pc1 := 6) (lv1 := [(4, .int (Int32.ofNat k)), (0, .ref x), (1, .int (Int32.ofNat nm)), (2, .int (Int32.ofNat n)), (3, .int v)]) (st1 := [.int (Int32.ofNat n), .int (Int32.ofNat k)]) 2 rfl ?_
      refine f_icmp (t := 108) rfl rfl false (nat_lt (by omega) (by omega) (by omega)) ?_
      refine f_go (pc1 := 11) (lv1 := [(4, .int (Int32.ofNat k)), (0, .ref x), (1, .int (Int32.ofNat nm)), (2, .int (Int32.ofNat n)), (3, .int v)]) (st1 := [.int 5, .ref x]) 2 rfl ?_
      refine f_ldc rfl ?_
      refine f_ldc rfl ?_
      refine f_go (pc1 := 18) (lv1 := [(4, .int (Int32.ofNat k)), (0, .ref x), (1, .int (Int32.ofNat nm)), (2, .int (Int32.ofNat n)), (3, .int v)]) (st1 := [.int 0, .int 0, .int 0, .int 536870912, .int 1415139397, .int 5, .ref x]) 3 rfl ?_
      refine f_stQ rfl rfl rfl rfl (g_put (by omega) c_x x_tape hS (by simp only [List.length_append, List.length_cons, List.length_nil] at hlen ⊢; omega) kw_TY rfl) ?_
      rintro r τ3 ⟨rfl, hS⟩
      show EQ _ _ 122 21 [(4, .int (Int32.ofNat k)), (0, .ref x), (1, .int (Int32.ofNat nm)), (2, .int (Int32.ofNat n)), (3, .int v)] [] _ _
      refine f_go (pc1 := 23) (lv1 := [(4, .int (Int32.ofNat k)), (0, .ref x), (1, .int (Int32.ofNat nm)), (2, .int (Int32.ofNat n)), (3, .int v)]) (st1 := [.int (Int32.ofNat nm), .ref x]) 2 rfl ?_
      refine f_stQ rfl rfl rfl rfl (g_sign (c := nm) (by omega) c_x x_tape hS (by simp only [List.length_append, List.length_cons, List.length_nil] at hlen ⊢; omega) hm) ?_
      rintro r τ4 ⟨rfl, hS⟩
      show EQ _ _ 122 26 [(4, .int (Int32.ofNat k)), (0, .ref x), (1, .int (Int32.ofNat nm)), (2, .int (Int32.ofNat n)), (3, .int v)] [] _ _
      refine f_go (pc1 := 32) (lv1 := [(4, .int (Int32.ofNat k)), (0, .ref x), (1, .int (Int32.ofNat nm)), (2, .int (Int32.ofNat n)), (3, .int v)]) (st1 := [.int (48 + (Int32.ofNat k)), .ref x]) 4 rfl ?_
      rw [show (48 : Int32) + Int32.ofNat k = Int32.ofNat (48 + k) from (Int32.ofNat_add 48 k).symm]
      refine f_stQ rfl rfl rfl rfl (g_sign (c := (48 + k)) (by omega) c_x x_tape hS (by simp only [List.length_append, List.length_cons, List.length_nil] at hlen ⊢; omega) (by omega)) ?_
      rintro r τ5 ⟨rfl, hS⟩
      show EQ _ _ 122 35 [(4, .int (Int32.ofNat k)), (0, .ref x), (1, .int (Int32.ofNat nm)), (2, .int (Int32.ofNat n)), (3, .int v)] [] _ _
      refine f_go (pc1 := 38) (lv1 := [(4, .int (Int32.ofNat k)), (0, .ref x), (1, .int (Int32.ofNat nm)), (2, .int (Int32.ofNat n)), (3, .int v)]) (st1 := [.int 17, .ref x]) 2 rfl ?_
      refine f_ldc rfl ?_
      refine f_ldc rfl ?_
      refine f_ldc rfl ?_
      refine f_ldc rfl ?_
      refine f_ldc rfl ?_
      refine f_stQ rfl rfl rfl rfl (g_put (by omega) c_x x_tape hS (by simp only [List.length_append, List.length_cons, List.length_nil] at hlen ⊢; omega) kw_RA rfl) ?_
      rintro r τ6 ⟨rfl, hS⟩
      show EQ _ _ 122 51 [(4, .int (Int32.ofNat k)), (0, .ref x), (1, .int (Int32.ofNat nm)), (2, .int (Int32.ofNat n)), (3, .int v)] [] _ _
      refine f_go (pc1 := 55) (lv1 := [(4, .int (Int32.ofNat k)), (0, .ref x), (1, .int (Int32.ofNat nm)), (2, .int (Int32.ofNat n)), (3, .int v)]) (st1 := [.int (Int32.ofNat k), .int v, .ref x]) 3 rfl ?_
      refine f_st rfl rfl rfl rfl (g_bound (by omega)) ?_
      refine f_stQ rfl rfl rfl rfl (g_sign (c := (48 + bdV v k)) (by omega) c_x x_tape hS (by simp only [List.length_append, List.length_cons, List.length_nil] at hlen ⊢; omega) (by omega)) ?_
      rintro r τ7 ⟨rfl, hS⟩
      show EQ _ _ 122 61 [(4, .int (Int32.ofNat k)), (0, .ref x), (1, .int (Int32.ofNat nm)), (2, .int (Int32.ofNat n)), (3, .int v)] [] _ _
      refine f_go (pc1 := 63) (lv1 := [(4, .int (Int32.ofNat k)), (0, .ref x), (1, .int (Int32.ofNat nm)), (2, .int (Int32.ofNat n)), (3, .int v)]) (st1 := [.int 5, .ref x]) 2 rfl ?_
      refine f_ldc rfl ?_
      refine f_ldc rfl ?_
      refine f_go (pc1 := 70) (lv1 := [(4, .int (Int32.ofNat k)), (0, .ref x), (1, .int (Int32.ofNat nm)), (2, .int (Int32.ofNat n)), (3, .int v)]) (st1 := [.int 0, .int 0, .int 0, .int 536870912, .int 1562398534, .int 5, .ref x]) 3 rfl ?_
      refine f_stQ rfl rfl rfl rfl (g_put (by omega) c_x x_tape hS (by simp only [List.length_append, List.length_cons, List.length_nil] at hlen ⊢; omega) kw_OF rfl) ?_
      rintro r τ8 ⟨rfl, hS⟩
      show EQ _ _ 122 73 [(4, .int (Int32.ofNat k)), (0, .ref x), (1, .int (Int32.ofNat nm)), (2, .int (Int32.ofNat n)), (3, .int v)] [] _ _
      refine f_go (pc1 := 75) (lv1 := [(4, .int (Int32.ofNat k)), (0, .ref x), (1, .int (Int32.ofNat nm)), (2, .int (Int32.ofNat n)), (3, .int v)]) (st1 := [.int (Int32.ofNat nm), .ref x]) 2 rfl ?_
      refine f_stQ rfl rfl rfl rfl (g_sign (c := nm) (by omega) c_x x_tape hS (by simp only [List.length_append, List.length_cons, List.length_nil] at hlen ⊢; omega) hm) ?_
      rintro r τ9 ⟨rfl, hS⟩
      show EQ _ _ 122 78 [(4, .int (Int32.ofNat k)), (0, .ref x), (1, .int (Int32.ofNat nm)), (2, .int (Int32.ofNat n)), (3, .int v)] [] _ _
      refine f_go (pc1 := 85) (lv1 := [(4, .int (Int32.ofNat k)), (0, .ref x), (1, .int (Int32.ofNat nm)), (2, .int (Int32.ofNat n)), (3, .int v)]) (st1 := [.int ((Int32.ofNat k) + 1), .int 48, .ref x]) 5 rfl ?_
      rw [show ((Int32.ofNat k) + 1 : Int32) = (Int32.ofNat (k + 1)) from (nat_s k)]
      refine f_go (pc1 := 86) (lv1 := [(4, .int (Int32.ofNat k)), (0, .ref x), (1, .int (Int32.ofNat nm)), (2, .int (Int32.ofNat n)), (3, .int v)]) (st1 := [.int (Int32.ofNat n), .int (Int32.ofNat (k + 1)), .int 48, .ref x]) 1 rfl ?_
      refine f_irem rfl (by omega) (by omega) hn0 ?_
      refine f_go (pc1 := 88) (lv1 := [(4, .int (Int32.ofNat k)), (0, .ref x), (1, .int (Int32.ofNat nm)), (2, .int (Int32.ofNat n)), (3, .int v)]) (st1 := [.int (48 + (Int32.ofNat ((k + 1) % n))), .ref x]) 1 rfl ?_
      rw [show (48 : Int32) + Int32.ofNat ((k + 1) % n) = Int32.ofNat (48 + (k + 1) % n) from (Int32.ofNat_add 48 _).symm]
      refine f_stQ rfl rfl rfl rfl (g_sign (c := (48 + (k + 1) % n)) (by omega) c_x x_tape hS (by simp only [List.length_append, List.length_cons, List.length_nil] at hlen ⊢; omega) (by have : (k + 1) % n < n := hmod; omega)) ?_
      rintro r τ10 ⟨rfl, hS⟩
      show EQ _ _ 122 91 [(4, .int (Int32.ofNat k)), (0, .ref x), (1, .int (Int32.ofNat nm)), (2, .int (Int32.ofNat n)), (3, .int v)] [] _ _
      refine f_go (pc1 := 93) (lv1 := [(4, .int (Int32.ofNat k)), (0, .ref x), (1, .int (Int32.ofNat nm)), (2, .int (Int32.ofNat n)), (3, .int v)]) (st1 := [.int 2, .ref x]) 2 rfl ?_
      refine f_ldc rfl ?_
      refine f_go (pc1 := 99) (lv1 := [(4, .int (Int32.ofNat k)), (0, .ref x), (1, .int (Int32.ofNat nm)), (2, .int (Int32.ofNat n)), (3, .int v)]) (st1 := [.int 0, .int 0, .int 0, .int 0, .int 990511104, .int 2, .ref x]) 4 rfl ?_
      refine f_stQ rfl rfl rfl rfl (g_put (by omega) c_x x_tape hS (by simp only [List.length_append, List.length_cons, List.length_nil] at hlen ⊢; omega) kw_NL rfl) ?_
      rintro r τ11 ⟨rfl, hS⟩
      show EQ _ _ 122 102 [(4, .int (Int32.ofNat k)), (0, .ref x), (1, .int (Int32.ofNat nm)), (2, .int (Int32.ofNat n)), (3, .int v)] [] _ _
      refine f_go (pc1 := 105) (lv1 := [(4, .int ((Int32.ofNat k) + 1)), (0, .ref x), (1, .int (Int32.ofNat nm)), (2, .int (Int32.ofNat n)), (3, .int v)]) (st1 := []) 1 rfl ?_
      rw [nat_s]
      refine f_go (pc1 := 3) (lv1 := [(4, .int (Int32.ofNat (k + 1))), (0, .ref x), (1, .int (Int32.ofNat nm)), (2, .int (Int32.ofNat n)), (3, .int v)]) (st1 := []) 1 rfl ?_
      refine f_lv [(4, .int (Int32.ofNat (k + 1))), (0, .ref x), (1, .int (Int32.ofNat nm)), (2, .int (Int32.ofNat n)), (3, .int v)] (fl_c rfl (fl_c rfl (fl_c rfl (fl_c rfl (fl_c rfl fl_0))))) ?_
      refine ih (k + 1) _ _ (by omega) ?_ (fl_c rfl (fl_c rfl (fl_c rfl (fl_c rfl (fl_c rfl fl_0)))))
      have e : s ++ rgL nm n v (k + 1) = s ++ rgL nm n v k ++ [84, 89, 80, 69, 32] ++ [nm] ++ [48 + k] ++ [32, 61, 32, 82, 69, 70, 32, 65, 82, 82, 65, 89, 32, 91, 48, 46, 46] ++ [48 + bdV v k] ++ [93, 32, 79, 70, 32] ++ [nm] ++ [48 + (k + 1) % n] ++ [59, 10] := by
        show s ++ (rgL nm n v k ++ cRg nm k (Nat.mod (k + 1) n) (bdV v k)) = _
        unfold cRg
        simp only [List.append_assoc]
        rfl
      rw [e]
      exact hS
  refine f_go (pc1 := 3) (lv1 := [(4, .int 0), (0, .ref x), (1, .int (Int32.ofNat nm)), (2, .int (Int32.ofNat n)), (3, .int v)]) (st1 := []) 2 rfl ?_
  refine f_lv [(4, .int (Int32.ofNat 0)), (0, .ref x), (1, .int (Int32.ofNat nm)), (2, .int (Int32.ofNat n)), (3, .int v)] (fl_c rfl (fl_c rfl (fl_c rfl (fl_c rfl (fl_c rfl fl_0))))) ?_
  exact key n 0 _ σ1 (Nat.zero_add _) (by rw [show s ++ rgL nm n v 0 = s from List.append_nil s]; exact hs) (fl_c rfl (fl_c rfl (fl_c rfl (fl_c rfl (fl_c rfl fl_0)))))
/-- whether two endless writings agree, the first k places -/
def smK (n : Nat) (v : Int32) (i m : Nat) (w : Int32) (j : Nat) : Nat → Bool
  | 0 => true
  | k + 1 => smK n v i m w j k && decide (bdV v ((i + k) % n) = bdV w ((j + k) % m))
theorem g_same {X : ev_X} {d : Nat} {σ : fl_S} (hd : 2 ≤ d) {n m i j : Nat} {v w : Int32} (hn : 0 < n ∧ n ≤ 4) (hm : 0 < m ∧ m ≤ 4) (hi : i < 4) (hj : j < 4) : CF X d 124 [.int (Int32.ofNat n), .int v, .int (Int32.ofNat i), .int (Int32.ofNat m), .int w, .int (Int32.ofNat j)] σ (some (.int (bif smK n v i m w j (n * m) then 1 else 0))) σ := by
  have hnm : n * m ≤ 16 := Nat.mul_le_mul hn.2 hm.2
  refine f_meth (by omega) rfl ?_
  have key : ∀ (f k : Nat) (lv1 : ev_L), k + f = n * m → lvK [(7, .int (Int32.ofNat k)), (6, .int (bif smK n v i m w j k then 1 else 0)), (0, .int (Int32.ofNat n)), (1, .int v), (2, .int (Int32.ofNat i)), (3, .int (Int32.ofNat m)), (4, .int w), (5, .int (Int32.ofNat j))] lv1 → EF X (d - 1) 124 6 lv1 [] σ (some (.int (bif smK n v i m w j (n * m) then 1 else 0))) σ := by
    intro f
    induction f with
    | zero =>
      intro k lv1 hk hlv
      have hk : k = n * m := hk
      rw [← hk] at hnm ⊢
      refine f_lv [(7, .int (Int32.ofNat k)), (6, .int (bif smK n v i m w j k then 1 else 0)), (0, .int (Int32.ofNat n)), (1, .int v), (2, .int (Int32.ofNat i)), (3, .int (Int32.ofNat m)), (4, .int w), (5, .int (Int32.ofNat j))] hlv ?_
      refine f_go (pc1 := 11) (lv1 := [(7, .int (Int32.ofNat k)), (6, .int (bif smK n v i m w j k then 1 else 0)), (0, .int (Int32.ofNat n)), (1, .int v), (2, .int (Int32.ofNat i)), (3, .int (Int32.ofNat m)), (4, .int w), (5, .int (Int32.ofNat j))]) (st1 := [.int ((Int32.ofNat n) * (Int32.ofNat m)), .int (Int32.ofNat k)]) 4 rfl ?_
      rw [show ((Int32.ofNat n) * (Int32.ofNat m) : Int32) = (Int32.ofNat (n * m)) from (Int32.ofNat_mul n m).symm]
      refine f_icmp (t := 57) rfl rfl true (nat_geT (by omega) (by omega) (by omega)) ?_
      refine f_go (pc1 := 59) (lv1 := [(7, .int (Int32.ofNat k)), (6, .int (bif smK n v i m w j k then 1 else 0)), (0, .int (Int32.ofNat n)), (1, .int v), (2, .int (Int32.ofNat i)), (3, .int (Int32.ofNat m)), (4, .int w), (5, .int (Int32.ofNat j))]) (st1 := [.int (bif smK n v i m w j k then 1 else 0)]) 1 rfl ?_
      cases smK n v i m w j k
      · exact f_rt rfl rfl
      · exact f_rt rfl rfl
    | succ f ih =>
      intro k lv1 hk hlv
      cases hb : smK n v i m w j k with
      | false =>
        rw [hb] at hlv
        refine f_lv [(7, .int (Int32.ofNat k)), (6, .int 0), (0, .int (Int32.ofNat n)), (1, .int v), (2, .int (Int32.ofNat i)), (3, .int (Int32.ofNat m)), (4, .int w), (5, .int (Int32.ofNat j))] hlv ?_
        refine f_go (pc1 := 11) (lv1 := [(7, .int (Int32.ofNat k)), (6, .int 0), (0, .int (Int32.ofNat n)), (1, .int v), (2, .int (Int32.ofNat i)), (3, .int (Int32.ofNat m)), (4, .int w), (5, .int (Int32.ofNat j))]) (st1 := [.int ((Int32.ofNat n) * (Int32.ofNat m)), .int (Int32.ofNat k)]) 4 rfl ?_
        rw [show ((Int32.ofNat n) * (Int32.ofNat m) : Int32) = (Int32.ofNat (n * m)) from (Int32.ofNat_mul n m).symm]
        refine f_icmp (t := 57) rfl rfl false (nat_lt (by omega) (by omega) (by omega)) ?_
        refine f_go (pc1 := 48) (lv1 := [(7, .int (Int32.ofNat k)), (6, .int 0), (0, .int (Int32.ofNat n)), (1, .int v), (2, .int (Int32.ofNat i)), (3, .int (Int32.ofNat m)), (4, .int w), (5, .int (Int32.ofNat j))]) (st1 := []) 2 rfl ?_
        refine f_go (pc1 := 54) (lv1 := [(7, .int ((Int32.ofNat k) + 1)), (6, .int 0), (0, .int (Int32.ofNat n)), (1, .int v), (2, .int (Int32.ofNat i)), (3, .int (Int32.ofNat m)), (4, .int w), (5, .int (Int32.ofNat j))]) (st1 := []) 3 rfl ?_
        rw [nat_s]
        refine f_go (pc1 := 6) (lv1 := [(7, .int (Int32.ofNat (k + 1))), (6, .int 0), (0, .int (Int32.ofNat n)), (1, .int v), (2, .int (Int32.ofNat i)), (3, .int (Int32.ofNat m)), (4, .int w), (5, .int (Int32.ofNat j))]) (st1 := []) 1 rfl ?_
        refine f_lv [(7, .int (Int32.ofNat (k + 1))), (6, .int 0), (0, .int (Int32.ofNat n)), (1, .int v), (2, .int (Int32.ofNat i)), (3, .int (Int32.ofNat m)), (4, .int w), (5, .int (Int32.ofNat j))] (fl_c rfl (fl_c rfl (fl_c rfl (fl_c rfl (fl_c rfl (fl_c rfl (fl_c rfl (fl_c rfl fl_0)))))))) ?_
        refine ih (k + 1) _ (by omega) ?_
        rw [show smK n v i m w j (k + 1) = false by show (smK n v i m w j k && decide _) = _; rw [hb, Bool.false_and]]
        exact (fl_c rfl (fl_c rfl (fl_c rfl (fl_c rfl (fl_c rfl (fl_c rfl (fl_c rfl (fl_c rfl fl_0))))))))
      | true =>
        rw [hb] at hlv
        refine f_lv [(7, .int (Int32.ofNat k)), (6, .int 1), (0, .int (Int32.ofNat n)), (1, .int v), (2, .int (Int32.ofNat i)), (3, .int (Int32.ofNat m)), (4, .int w), (5, .int (Int32.ofNat j))] hlv ?_
        refine f_go (pc1 := 11) (lv1 := [(7, .int (Int32.ofNat k)), (6, .int 1), (0, .int (Int32.ofNat n)), (1, .int v), (2, .int (Int32.ofNat i)), (3, .int (Int32.ofNat m)), (4, .int w), (5, .int (Int32.ofNat j))]) (st1 := [.int ((Int32.ofNat n) * (Int32.ofNat m)), .int (Int32.ofNat k)]) 4 rfl ?_
        rw [show ((Int32.ofNat n) * (Int32.ofNat m) : Int32) = (Int32.ofNat (n * m)) from (Int32.ofNat_mul n m).symm]
        refine f_icmp (t := 57) rfl rfl false (nat_lt (by omega) (by omega) (by omega)) ?_
        refine f_go (pc1 := 24) (lv1 := [(7, .int (Int32.ofNat k)), (6, .int 1), (0, .int (Int32.ofNat n)), (1, .int v), (2, .int (Int32.ofNat i)), (3, .int (Int32.ofNat m)), (4, .int w), (5, .int (Int32.ofNat j))]) (st1 := [.int ((Int32.ofNat i) + (Int32.ofNat k)), .int v]) 6 rfl ?_
        rw [show ((Int32.ofNat i) + (Int32.ofNat k) : Int32) = (Int32.ofNat (i + k)) from (Int32.ofNat_add i k).symm]
        refine f_go (pc1 := 25) (lv1 := [(7, .int (Int32.ofNat k)), (6, .int 1), (0, .int (Int32.ofNat n)), (1, .int v), (2, .int (Int32.ofNat i)), (3, .int (Int32.ofNat m)), (4, .int w), (5, .int (Int32.ofNat j))]) (st1 := [.int (Int32.ofNat n), .int (Int32.ofNat (i + k)), .int v]) 1 rfl ?_
        refine f_irem rfl (by omega) (by omega) hn.1 ?_
        refine f_st rfl rfl rfl rfl (g_bound (by omega)) ?_
        refine f_go (pc1 := 36) (lv1 := [(7, .int (Int32.ofNat k)), (6, .int 1), (0, .int (Int32.ofNat n)), (1, .int v), (2, .int (Int32.ofNat i)), (3, .int (Int32.ofNat m)), (4, .int w), (5, .int (Int32.ofNat j))]) (st1 := [.int ((Int32.ofNat j) + (Int32.ofNat k)), .int w, .int (Int32.ofNat (48 + bdV v ((i + k) % n)))]) 4 rfl ?_
        rw [show ((Int32.ofNat j) + (Int32.ofNat k) : Int32) = (Int32.ofNat (j + k)) from (Int32.ofNat_add j k).symm]
        refine f_go (pc1 := 37) (lv1 := [(7, .int (Int32.ofNat k)), (6, .int 1), (0, .int (Int32.ofNat n)), (1, .int v), (2, .int (Int32.ofNat i)), (3, .int (Int32.ofNat m)), (4, .int w), (5, .int (Int32.ofNat j))]) (st1 := [.int (Int32.ofNat m), .int (Int32.ofNat (j + k)), .int w, .int (Int32.ofNat (48 + bdV v ((i + k) % n)))]) 1 rfl ?_
        refine f_irem rfl (by omega) (by omega) hm.1 ?_
        refine f_st rfl rfl rfl rfl (g_bound (by omega)) ?_
        have h1 := bdV_12 v ((i + k) % n)
        have h2 := bdV_12 w ((j + k) % m)
        by_cases e : bdV v ((i + k) % n) = bdV w ((j + k) % m)
        ·
          refine f_icmp (t := 48) rfl rfl false (ic_nen (by rw [e])) ?_
          refine f_go (pc1 := 49) (lv1 := [(7, .int (Int32.ofNat k)), (6, .int 1), (0, .int (Int32.ofNat n)), (1, .int v), (2, .int (Int32.ofNat i)), (3, .int (Int32.ofNat m)), (4, .int w), (5, .int (Int32.ofNat j))]) (st1 := [.int 1]) 2 rfl ?_
          refine f_go (pc1 := 54) (lv1 := [(7, .int ((Int32.ofNat k) + 1)), (6, .int 1), (0, .int (Int32.ofNat n)), (1, .int v), (2, .int (Int32.ofNat i)), (3, .int (Int32.ofNat m)), (4, .int w), (5, .int (Int32.ofNat j))]) (st1 := []) 2 rfl ?_
          rw [nat_s]
          refine f_go (pc1 := 6) (lv1 := [(7, .int (Int32.ofNat (k + 1))), (6, .int 1), (0, .int (Int32.ofNat n)), (1, .int v), (2, .int (Int32.ofNat i)), (3, .int (Int32.ofNat m)), (4, .int w), (5, .int (Int32.ofNat j))]) (st1 := []) 1 rfl ?_
          refine f_lv [(7, .int (Int32.ofNat (k + 1))), (6, .int 1), (0, .int (Int32.ofNat n)), (1, .int v), (2, .int (Int32.ofNat i)), (3, .int (Int32.ofNat m)), (4, .int w), (5, .int (Int32.ofNat j))] (fl_c rfl (fl_c rfl (fl_c rfl (fl_c rfl (fl_c rfl (fl_c rfl (fl_c rfl (fl_c rfl fl_0)))))))) ?_
          refine ih (k + 1) _ (by omega) ?_
          rw [show smK n v i m w j (k + 1) = true by show (smK n v i m w j k && decide _) = _; rw [hb, decide_eq_true e]; rfl]
          exact (fl_c rfl (fl_c rfl (fl_c rfl (fl_c rfl (fl_c rfl (fl_c rfl (fl_c rfl (fl_c rfl fl_0))))))))
        ·
          refine f_icmp (t := 48) rfl rfl true (ic_ne (fun q => e (by have := (nat_e (by omega) (by omega)).mp q; omega))) ?_
          refine f_go (pc1 := 49) (lv1 := [(7, .int (Int32.ofNat k)), (6, .int 1), (0, .int (Int32.ofNat n)), (1, .int v), (2, .int (Int32.ofNat i)), (3, .int (Int32.ofNat m)), (4, .int w), (5, .int (Int32.ofNat j))]) (st1 := [.int 0]) 1 rfl ?_
          refine f_go (pc1 := 54) (lv1 := [(7, .int ((Int32.ofNat k) + 1)), (6, .int 0), (0, .int (Int32.ofNat n)), (1, .int v), (2, .int (Int32.ofNat i)), (3, .int (Int32.ofNat m)), (4, .int w), (5, .int (Int32.ofNat j))]) (st1 := []) 2 rfl ?_
          rw [nat_s]
          refine f_go (pc1 := 6) (lv1 := [(7, .int (Int32.ofNat (k + 1))), (6, .int 0), (0, .int (Int32.ofNat n)), (1, .int v), (2, .int (Int32.ofNat i)), (3, .int (Int32.ofNat m)), (4, .int w), (5, .int (Int32.ofNat j))]) (st1 := []) 1 rfl ?_
          refine f_lv [(7, .int (Int32.ofNat (k + 1))), (6, .int 0), (0, .int (Int32.ofNat n)), (1, .int v), (2, .int (Int32.ofNat i)), (3, .int (Int32.ofNat m)), (4, .int w), (5, .int (Int32.ofNat j))] (fl_c rfl (fl_c rfl (fl_c rfl (fl_c rfl (fl_c rfl (fl_c rfl (fl_c rfl (fl_c rfl fl_0)))))))) ?_
          refine ih (k + 1) _ (by omega) ?_
          rw [show smK n v i m w j (k + 1) = false by show (smK n v i m w j k && decide _) = _; rw [hb, decide_eq_false e]; rfl]
          exact (fl_c rfl (fl_c rfl (fl_c rfl (fl_c rfl (fl_c rfl (fl_c rfl (fl_c rfl (fl_c rfl fl_0))))))))
  refine f_go (pc1 := 6) (lv1 := [(7, .int 0), (6, .int 1), (0, .int (Int32.ofNat n)), (1, .int v), (2, .int (Int32.ofNat i)), (3, .int (Int32.ofNat m)), (4, .int w), (5, .int (Int32.ofNat j))]) (st1 := []) 4 rfl ?_
  refine f_lv [(7, .int (Int32.ofNat 0)), (6, .int 1), (0, .int (Int32.ofNat n)), (1, .int v), (2, .int (Int32.ofNat i)), (3, .int (Int32.ofNat m)), (4, .int w), (5, .int (Int32.ofNat j))] (fl_c rfl (fl_c rfl (fl_c rfl (fl_c rfl (fl_c rfl (fl_c rfl (fl_c rfl (fl_c rfl fl_0)))))))) ?_
  exact key (n * m) 0 _ (Nat.zero_add _) (fl_c rfl (fl_c rfl (fl_c rfl (fl_c rfl (fl_c rfl (fl_c rfl (fl_c rfl (fl_c rfl fl_0))))))))
