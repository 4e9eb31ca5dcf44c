/-! objects made; the tape -/
section NEWB
variable {X : ev_X} {d k pc : Nat} {lv : ev_L} {st : List Value} {σ : fl_S} {Q : Option Value → fl_S → Prop}
theorem f_newb {n a b tg : Nat} {kk : Int} (hb : ev_tb k pc = some (.newarray .byte, 2, a, b, tg, kk)) (hz : sZ σ < 256) (hn : n ≤ 134217728) (next : EQ X d k (pc + 2) lv (.ref (sZ σ) :: st) (sY1 (sZ1 σ n) (sZ σ) (n, fun _ => 0)) Q) : EQ X d k pc lv (.int (Int32.ofNat n) :: st) σ Q := fun t c s ht => by
  have hf := ht.free
  have h1 := (ht.sz (n := n) hz).putY (a := sZ σ) (x := (n, fun _ => 0)) (Nat.lt_succ_self _) hf.1 hf.2.1 hf.2.2.2
  obtain ⟨r, σ', t', mc, ms, qq, a', b', c', e⟩ := next _ (c + 1) (s + n) h1
  refine ⟨r, σ', t', 1 + mc, n + ms, qq, a', by rw [b']; show sc σ + 1 + mc = _; omega, by rw [c']; show ss σ + n + ms = _; omega, ?_⟩
  rw [← Nat.add_assoc, ← Nat.add_assoc]
  refine e_xh hb ?_ e
  have hm : n < 2147483648 := by omega
  show ev_if ((Nat.beq 2 2 && !decide (Int32.ofNat n < 0)) && (Nat.ble ((Int32.ofNat n).toNatClampNeg * 1) 536870912 && Nat.ble (sZ σ + 1) 256)) _ = _
  rw [nat_nn hm, nat_c hm, show Nat.ble (sZ σ + 1) 256 = true from Nat.ble_eq.mpr hz, show Nat.ble (n * 1) 536870912 = true from Nat.ble_eq.mpr (by omega)]
  rfl
end NEWB
/-- so many bytes on the tape -/
def TP (σ : fl_S) (x tp n : Nat) (TB : Nat → Int32) : fl_S := sY1 (sU σ x 321 (.int (Int32.ofNat n))) tp (6000, TB)
section TPS
variable {σ : fl_S} {x tp n : Nat} {TB : Nat → Int32}
theorem TP_len : sF (TP σ x tp n TB) x 321 = .int (Int32.ofNat n) := by
  show FU (sF σ) x 321 _ x 321 = _
  exact FU_at
theorem TP_Y : sY (TP σ x tp n TB) tp = some (6000, TB) := by
  show aU (sY σ) tp _ tp = _
  exact aU_at
theorem TP_put {m : Nat} : sU (TP σ x tp n TB) x 321 (.int (Int32.ofNat m)) = TP σ x tp m TB := by
  refine Prod.ext rfl (Prod.ext ?_ rfl)
  funext b h
  show FU (FU (sF σ) x 321 _) x 321 _ b h = FU (sF σ) x 321 _ b h
  unfold FU
  cases Nat.beq h 321 <;> cases Nat.beq b x <;> rfl
theorem TP_w {f : Nat → Int32} : sY1 (TP σ x tp n TB) tp (6000, f) = TP σ x tp n f := by
  refine Prod.ext rfl (Prod.ext rfl (Prod.ext rfl (Prod.ext ?_ rfl)))
  funext b
  show aU (aU (sY σ) tp _) tp _ b = aU (sY σ) tp _ b
  unfold aU
  cases Nat.beq b tp <;> rfl
end TPS
/-- a byte of four -/
def bt (w s : Int32) : Int32 := ((Int32.toUInt32 w >>> (Int32.toUInt32 s &&& Int32.toUInt32 31)).toInt32).toInt8.toInt32.toInt8.toInt32
def put4 (TB : Nat → Int32) (n : Nat) (w : Int32) : Nat → Int32 := upd (upd (upd (upd TB n (bt w 24)) (n + 1) (bt w 16)) (n + 2) (bt w 8)) (n + 3) (bt w 0)
theorem g_putBytes {X : ev_X} {d : Nat} {σ : fl_S} (hd : 1 ≤ d) {x tp n : Nat} {TB : Nat → Int32} {w : Int32} (c_x : sC σ 10 x = true) (x_tape : sF σ x 320 = .ref tp) (hn : n + 4 ≤ 6000) : CF X d 2 [.ref x, .int w] (TP σ x tp n TB) none (TP σ x tp (n + 4) (put4 TB n w)) := by
  refine f_meth hd rfl ?_
  refine f_go (pc1 := 8) (lv1 := [(2, .int 24), (0, .ref x), (1, .int w)]) (st1 := [.ref x]) 5 rfl ?_
  refine f_getf rfl rfl (g := 321) rfl c_x TP_len ?_
  refine f_go (pc1 := 14) (lv1 := [(2, .int 24), (0, .ref x), (1, .int w)]) (st1 := [.int 6000, .int (Int32.ofNat n)]) 1 rfl ?_
  refine f_icmp (t := 46) rfl rfl false (nat_lt (n := 6000) (by omega) (by decide) (by omega)) ?_
  refine f_go (pc1 := 18) (lv1 := [(2, .int 24), (0, .ref x), (1, .int w)]) (st1 := [.ref x]) 1 rfl ?_
  refine f_getf rfl rfl (g := 320) rfl c_x x_tape ?_
  refine f_go (pc1 := 22) (lv1 := [(2, .int 24), (0, .ref x), (1, .int w)]) (st1 := [.ref x, .ref tp]) 1 rfl ?_
  refine f_getf rfl rfl (g := 321) rfl c_x TP_len ?_
  refine f_go (pc1 := 28) (lv1 := [(2, .int 24), (0, .ref x), (1, .int w)]) (st1 := [.int ((Int32.toUInt32 w >>> (Int32.toUInt32 24 &&& Int32.toUInt32 31)).toInt32), .int (Int32.ofNat n), .ref tp]) 3 rfl ?_
  refine f_go (pc1 := 29) (lv1 := [(2, .int 24), (0, .ref x), (1, .int w)]) (st1 := [.int (((Int32.toUInt32 w >>> (Int32.toUInt32 24 &&& Int32.toUInt32 31)).toInt32).toInt8.toInt32), .int (Int32.ofNat n), .ref tp]) 1 rfl ?_
  refine f_bast rfl TP_Y (i := n) (show n < 6000 by omega) (by omega) ?_
  rw [TP_w]
  refine f_go (pc1 := 32) (lv1 := [(2, .int 24), (0, .ref x), (1, .int w)]) (st1 := [.ref x, .ref x]) 2 rfl ?_
  refine f_getf rfl rfl (g := 321) rfl c_x TP_len ?_
  refine f_go (pc1 := 37) (lv1 := [(2, .int 24), (0, .ref x), (1, .int w)]) (st1 := [.int ((Int32.ofNat n) + 1), .ref x]) 2 rfl ?_
  rw [show ((Int32.ofNat n) + 1 : Int32) = (Int32.ofNat (n + 1)) from (nat_s n)]
  refine f_putf rfl rfl (g := 321) rfl c_x rfl ?_
  rw [TP_put]
  refine f_go (pc1 := 3) (lv1 := [(2, .int 16), (0, .ref x), (1, .int w)]) (st1 := []) 2 rfl ?_
  refine f_go (pc1 := 8) (lv1 := [(2, .int 16), (0, .ref x), (1, .int w)]) (st1 := [.ref x]) 3 rfl ?_
  refine f_getf rfl rfl (g := 321) rfl c_x TP_len ?_
  refine f_go (pc1 := 14) (lv1 := [(2, .int 16), (0, .ref x), (1, .int w)]) (st1 := [.int 6000, .int (Int32.ofNat (n + 1))]) 1 rfl ?_
  refine f_icmp (t := 46) rfl rfl false (nat_lt (n := 6000) (by omega) (by decide) (by omega)) ?_
  refine f_go (pc1 := 18) (lv1 := [(2, .int 16), (0, .ref x), (1, .int w)]) (st1 := [.ref x]) 1 rfl ?_
  refine f_getf rfl rfl (g := 320) rfl c_x x_tape ?_
  refine f_go (pc1 := 22) (lv1 := [(2, .int 16), (0, .ref x), (1, .int w)]) (st1 := [.ref x, .ref tp]) 1 rfl ?_
  refine f_getf rfl rfl (g := 321) rfl c_x TP_len ?_
  refine f_go (pc1 := 28) (lv1 := [(2, .int 16), (0, .ref x), (1, .int w)]) (st1 := [.int ((Int32.toUInt32 w >>> (Int32.toUInt32 16 &&& Int32.toUInt32 31)).toInt32), .int (Int32.ofNat (n + 1)), .ref tp]) 3 rfl ?_
  refine f_go (pc1 := 29) (lv1 := [(2, .int 16), (0, .ref x), (1, .int w)]) (st1 := [.int (((Int32.toUInt32 w >>> (Int32.toUInt32 16 &&& Int32.toUInt32 31)).toInt32).toInt8.toInt32), .int (Int32.ofNat (n + 1)), .ref tp]) 1 rfl ?_
  refine f_bast rfl TP_Y (i := (n + 1)) (show (n + 1) < 6000 by omega) (by omega) ?_
  rw [TP_w]
  refine f_go (pc1 := 32) (lv1 := [(2, .int 16), (0, .ref x), (1, .int w)]) (st1 := [.ref x, .ref x]) 2 rfl ?_
  refine f_getf rfl rfl (g := 321) rfl c_x TP_len ?_
  refine f_go (pc1 := 37) (lv1 := [(2, .int 16), (0, .ref x), (1, .int w)]) (st1 := [.int ((Int32.ofNat (n + 1)) + 1), .ref x]) 2 rfl ?_
  rw [show ((Int32.ofNat (n + 1)) + 1 : Int32) = (Int32.ofNat ((n + 1) + 1)) from (nat_s (n + 1))]
  refine f_putf rfl rfl (g := 321) rfl c_x rfl ?_
  rw [TP_put]
  refine f_go (pc1 := 3) (lv1 := [(2, .int 8), (0, .ref x), (1, .int w)]) (st1 := []) 2 rfl ?_
  refine f_go (pc1 := 8) (lv1 := [(2, .int 8), (0, .ref x), (1, .int w)]) (st1 := [.ref x]) 3 rfl ?_
  refine f_getf rfl rfl (g := 321) rfl c_x TP_len ?_
  refine f_go (pc1 := 14) (lv1 := [(2, .int 8), (0, .ref x), (1, .int w)]) (st1 := [.int 6000, .int (Int32.ofNat (n + 2))]) 1 rfl ?_
  refine f_icmp (t := 46) rfl rfl false (nat_lt (n := 6000) (by omega) (by decide) (by omega)) ?_
  refine f_go (pc1 := 18) (lv1 := [(2, .int 8), (0, .ref x), (1, .int w)]) (st1 := [.ref x]) 1 rfl ?_
  refine f_getf rfl rfl (g := 320) rfl c_x x_tape ?_
  refine f_go (pc1 := 22) (lv1 := [(2, .int 8), (0, .ref x), (1, .int w)]) (st1 := [.ref x, .ref tp]) 1 rfl ?_
  refine f_getf rfl rfl (g := 321) rfl c_x TP_len ?_
  refine f_go (pc1 := 28) (lv1 := [(2, .int 8), (0, .ref x), (1, .int w)]) (st1 := [.int ((Int32.toUInt32 w >>> (Int32.toUInt32 8 &&& Int32.toUInt32 31)).toInt32), .int (Int32.ofNat (n + 2)), .ref tp]) 3 rfl ?_
  refine f_go (pc1 := 29) (lv1 := [(2, .int 8), (0, .ref x), (1, .int w)]) (st1 := [.int (((Int32.toUInt32 w >>> (Int32.toUInt32 8 &&& Int32.toUInt32 31)).toInt32).toInt8.toInt32), .int (Int32.ofNat (n + 2)), .ref tp]) 1 rfl ?_
  refine f_bast rfl TP_Y (i := (n + 2)) (show (n + 2) < 6000 by omega) (by omega) ?_
  rw [TP_w]
  refine f_go (pc1 := 32) (lv1 := [(2, .int 8), (0, .ref x), (1, .int w)]) (st1 := [.ref x, .ref x]) 2 rfl ?_
  refine f_getf rfl rfl (g := 321) rfl c_x TP_len ?_
  refine f_go (pc1 := 37) (lv1 := [(2, .int 8), (0, .ref x), (1, .int w)]) (st1 := [.int ((Int32.ofNat (n + 2)) + 1), .ref x]) 2 rfl ?_
  rw [show ((Int32.ofNat (n + 2)) + 1 : Int32) = (Int32.ofNat ((n + 2) + 1)) from (nat_s (n + 2))]
  refine f_putf rfl rfl (g := 321) rfl c_x rfl ?_
  rw [TP_put]
  refine f_go (pc1 := 3) (lv1 := [(2, .int 0), (0, .ref x), (1, .int w)]) (st1 := []) 2 rfl ?_
  refine f_go (pc1 := 8) (lv1 := [(2, .int 0), (0, .ref x), (1, .int w)]) (st1 := [.ref x]) 3 rfl ?_
  refine f_getf rfl rfl (g := 321) rfl c_x TP_len ?_
  refine f_go (pc1 := 14) (lv1 := [(2, .int 0), (0, .ref x), (1, .int w)]) (st1 := [.int 6000, .int (Int32.ofNat (n + 3))]) 1 rfl ?_
  refine f_icmp (t := 46) rfl rfl false (nat_lt (n := 6000) (by omega) (by decide) (by omega)) ?_
  refine f_go (pc1 := 18) (lv1 := [(2, .int 0), (0, .ref x), (1, .int w)]) (st1 := [.ref x]) 1 rfl ?_
  refine f_getf rfl rfl (g := 320) rfl c_x x_tape ?_
  refine f_go (pc1 := 22) (lv1 := [(2, .int 0), (0, .ref x), (1, .int w)]) (st1 := [.ref x, .ref tp]) 1 rfl ?_
  refine f_getf rfl rfl (g := 321) rfl c_x TP_len ?_
  refine f_go (pc1 := 28) (lv1 := [(2, .int 0), (0, .ref x), (1, .int w)]) (st1 := [.int ((Int32.toUInt32 w >>> (Int32.toUInt32 0 &&& Int32.toUInt32 31)).toInt32), .int (Int32.ofNat (n + 3)), .ref tp]) 3 rfl ?_
  refine f_go (pc1 := 29) (lv1 := [(2, .int 0), (0, .ref x), (1, .int w)]) (st1 := [.int (((Int32.toUInt32 w >>> (Int32.toUInt32 0 &&& Int32.toUInt32 31)).toInt32).toInt8.toInt32), .int (Int32.ofNat (n + 3)), .ref tp]) 1 rfl ?_
  refine f_bast rfl TP_Y (i := (n + 3)) (show (n + 3) < 6000 by omega) (by omega) ?_
  rw [TP_w]
  refine f_go (pc1 := 32) (lv1 := [(2, .int 0), (0, .ref x), (1, .int w)]) (st1 := [.ref x, .ref x]) 2 rfl ?_
  refine f_getf rfl rfl (g := 321) rfl c_x TP_len ?_
  refine f_go (pc1 := 37) (lv1 := [(2, .int 0), (0, .ref x), (1, .int w)]) (st1 := [.int ((Int32.ofNat (n + 3)) + 1), .ref x]) 2 rfl ?_
  rw [show ((Int32.ofNat (n + 3)) + 1 : Int32) = (Int32.ofNat ((n + 3) + 1)) from (nat_s (n + 3))]
  refine f_putf rfl rfl (g := 321) rfl c_x rfl ?_
  rw [TP_put]
  refine f_go (pc1 := 3) (lv1 := [(2, .int (-8)), (0, .ref x), (1, .int w)]) (st1 := []) 2 rfl ?_
  refine f_go (pc1 := 46) (lv1 := [(2, .int (-8)), (0, .ref x), (1, .int w)]) (st1 := []) 2 rfl ?_
  exact f_rt rfl rfl
def put20 (TB : Nat → Int32) (n : Nat) (a b c e f : Int32) : Nat → Int32 := put4 (put4 (put4 (put4 (put4 TB n a) (n + 4) b) (n + 8) c) (n + 12) e) (n + 16) f
theorem g_feed {X : ev_X} {d : Nat} {σ : fl_S} (hd : 2 ≤ d) {x tp n : Nat} {TB : Nat → Int32} {a b c e f : Int32} (c_x : sC σ 10 x = true) (x_tape : sF σ x 320 = .ref tp) (hn : n + 20 ≤ 6000) : CF X d 1 [.ref x, .int a, .int b, .int c, .int e, .int f] (TP σ x tp n TB) (some (.int (Int32.ofNat (n + 20)))) (TP σ x tp (n + 20) (put20 TB n a b c e f)) := by
  refine f_meth (by omega) rfl ?_
  refine f_go (pc1 := 1) (lv1 := [(0, .ref x), (1, .int a), (2, .int b), (3, .int c), (4, .int e), (5, .int f)]) (st1 := [.ref x]) 1 rfl ?_
  refine f_getf rfl rfl (g := 321) rfl c_x TP_len ?_
  refine f_go (pc1 := 7) (lv1 := [(0, .ref x), (1, .int a), (2, .int b), (3, .int c), (4, .int e), (5, .int f)]) (st1 := [.int ((Int32.ofNat n) + 20)]) 2 rfl ?_
  rw [show ((Int32.ofNat n) + 20 : Int32) = (Int32.ofNat (n + 20)) from (Int32.ofNat_add n 20).symm]
  refine f_go (pc1 := 10) (lv1 := [(0, .ref x), (1, .int a), (2, .int b), (3, .int c), (4, .int e), (5, .int f)]) (st1 := [.int 6000, .int (Int32.ofNat (n + 20))]) 1 rfl ?_
  refine f_icmp (t := 15) rfl rfl true (nat_leT (n := 6000) (by omega) (by decide) hn) ?_
  refine f_go (pc1 := 17) (lv1 := [(0, .ref x), (1, .int a), (2, .int b), (3, .int c), (4, .int e), (5, .int f)]) (st1 := [.int a, .ref x]) 2 rfl ?_
  refine f_vt rfl rfl c_x rfl (g_putBytes (n := n) (by omega) c_x x_tape (by omega)) ?_
  refine f_go (pc1 := 22) (lv1 := [(0, .ref x), (1, .int a), (2, .int b), (3, .int c), (4, .int e), (5, .int f)]) (st1 := [.int b, .ref x]) 2 rfl ?_
  refine f_vt rfl rfl c_x rfl (g_putBytes (n := n + 4) (by omega) c_x x_tape (by omega)) ?_
  refine f_go (pc1 := 27) (lv1 := [(0, .ref x), (1, .int a), (2, .int b), (3, .int c), (4, .int e), (5, .int f)]) (st1 := [.int c, .ref x]) 2 rfl ?_
  refine f_vt rfl rfl c_x rfl (g_putBytes (n := n + 8) (by omega) c_x x_tape (by omega)) ?_
  refine f_go (pc1 := 33) (lv1 := [(0, .ref x), (1, .int a), (2, .int b), (3, .int c), (4, .int e), (5, .int f)]) (st1 := [.int e, .ref x]) 2 rfl ?_
  refine f_vt rfl rfl c_x rfl (g_putBytes (n := n + 12) (by omega) c_x x_tape (by omega)) ?_
  refine f_go (pc1 := 39) (lv1 := [(0, .ref x), (1, .int a), (2, .int b), (3, .int c), (4, .int e), (5, .int f)]) (st1 := [.int f, .ref x]) 2 rfl ?_
  refine f_vt rfl rfl c_x rfl (g_putBytes (n := n + 16) (by omega) c_x x_tape (by omega)) ?_
  refine f_go (pc1 := 43) (lv1 := [(0, .ref x), (1, .int a), (2, .int b), (3, .int c), (4, .int e), (5, .int f)]) (st1 := [.ref x]) 1 rfl ?_
  refine f_getf rfl rfl (g := 321) rfl c_x TP_len ?_
  exact f_rt rfl rfl
theorem g_back {X : ev_X} {d : Nat} {σ : fl_S} (hd : 1 ≤ d) {x tp n : Nat} {TB : Nat → Int32} {j : Nat} (c_x : sC σ 10 x = true) (x_tape : sF σ x 320 = .ref tp) (hj : j ≤ n) (hn : n ≤ 6000) : CF X d 3 [.ref x, .int (Int32.ofNat j)] (TP σ x tp n TB) (some (.int (Int32.ofNat (n - j)))) (TP σ x tp (n - j) TB) := by
  refine f_meth (by omega) rfl ?_
  refine f_go (pc1 := 1) (lv1 := [(0, .ref x), (1, .int (Int32.ofNat j))]) (st1 := [.int (Int32.ofNat j)]) 1 rfl ?_
  refine f_ifc (t := 12) rfl rfl false (nat_lt0 (by omega)) ?_
  refine f_go (pc1 := 6) (lv1 := [(0, .ref x), (1, .int (Int32.ofNat j))]) (st1 := [.ref x, .int (Int32.ofNat j)]) 2 rfl ?_
  refine f_getf rfl rfl (g := 321) rfl c_x TP_len ?_
  refine f_icmp (t := 14) rfl rfl true (nat_leT (by omega) (by omega) hj) ?_
  refine f_go (pc1 := 16) (lv1 := [(0, .ref x), (1, .int (Int32.ofNat j))]) (st1 := [.ref x, .ref x]) 2 rfl ?_
  refine f_getf rfl rfl (g := 321) rfl c_x TP_len ?_
  refine f_go (pc1 := 21) (lv1 := [(0, .ref x), (1, .int (Int32.ofNat j))]) (st1 := [.int ((Int32.ofNat n) - (Int32.ofNat j)), .ref x]) 2 rfl ?_
  rw [show ((Int32.ofNat n) - (Int32.ofNat j) : Int32) = (Int32.ofNat (n - j)) from (i32_sub hj)]
  refine f_putf rfl rfl (g := 321) rfl c_x rfl ?_
  rw [TP_put]
  refine f_go (pc1 := 25) (lv1 := [(0, .ref x), (1, .int (Int32.ofNat j))]) (st1 := [.ref x]) 1 rfl ?_
  refine f_getf rfl rfl (g := 321) rfl c_x TP_len ?_
  exact f_rt rfl rfl
theorem g_ckTypes {X : ev_X} {d : Nat} {σ : fl_S} (hd : 1 ≤ d) {c : Nat} (c_c : sC σ 0 c = true) (c_found : sF σ c 6 = .int 2147483647) : CF X d 110 [.ref c, .null] σ (some (.int 0)) σ := by
  refine f_meth (by omega) rfl ?_
  refine f_go (pc1 := 39) (lv1 := [(2, .null), (0, .ref c), (1, .null)]) (st1 := [.ref c]) 5 rfl ?_
  refine f_getf rfl rfl (g := 6) rfl c_c c_found ?_
  refine f_ldc rfl ?_
  refine f_go (pc1 := 55) (lv1 := [(2, .null), (0, .ref c), (1, .null)]) (st1 := [.int 0]) 3 rfl ?_
  exact f_rt rfl rfl
theorem g_ckExc {X : ev_X} {d : Nat} {σ : fl_S} (hd : 1 ≤ d) {c : Nat} (c_c : sC σ 0 c = true) (c_found : sF σ c 6 = .int 2147483647) : CF X d 111 [.ref c, .null] σ (some (.int 0)) σ := by
  refine f_meth (by omega) rfl ?_
  refine f_go (pc1 := 61) (lv1 := [(2, .null), (0, .ref c), (1, .null)]) (st1 := [.ref c]) 5 rfl ?_
  refine f_getf rfl rfl (g := 6) rfl c_c c_found ?_
  refine f_ldc rfl ?_
  refine f_go (pc1 := 77) (lv1 := [(2, .null), (0, .ref c), (1, .null)]) (st1 := [.int 0]) 3 rfl ?_
  exact f_rt rfl rfl
theorem g_ckInit {X : ev_X} {d : Nat} {σ : fl_S} (hd : 1 ≤ d) {c ty : Nat} (c_c : sC σ 0 c = true) (hz : sZ σ < 256) : CF X d 109 [.ref c, .ref ty] σ none (sU (sU (sU (sR1 (sZ1 (σ) 200) (sZ σ) (3, 200, fun _ => none)) c 2 (.ref (sZ σ))) c 6 (.int 2147483647)) c 0 (.ref ty)) := by
  refine f_meth (by omega) rfl ?_
  refine f_go (pc1 := 1) (lv1 := [(0, .ref c), (1, .ref ty)]) (st1 := [.ref c]) 1 rfl ?_
  refine f_xm (st1 := []) rfl rfl ?_
  refine f_go (pc1 := 8) (lv1 := [(0, .ref c), (1, .ref ty)]) (st1 := [.int 200, .ref c]) 2 rfl ?_
  refine f_newq rfl (n := 200) hz (by decide) ?_
  refine f_putf rfl rfl (g := 2) rfl c_c rfl ?_
  have hu10 : sF (sU (sR1 (sZ1 (σ) 200) (sZ σ) (3, 200, fun _ => none)) c 2 (.ref (sZ σ))) c 2 = .ref (sZ σ) := sU_at
  refine f_go (pc1 := 15) (lv1 := [(0, .ref c), (1, .ref ty)]) (st1 := [.ref c]) 1 rfl ?_
  refine f_ldc rfl ?_
  refine f_putf rfl rfl (g := 6) rfl c_c rfl ?_
  have hu11 : sF (sU (sU (sR1 (sZ1 (σ) 200) (sZ σ) (3, 200, fun _ => none)) c 2 (.ref (sZ σ))) c 6 (.int 2147483647)) c 6 = .int 2147483647 := sU_at
  refine f_go (pc1 := 22) (lv1 := [(0, .ref c), (1, .ref ty)]) (st1 := [.ref ty, .ref c]) 2 rfl ?_
  refine f_putf rfl rfl (g := 0) rfl c_c rfl ?_
  have hu12 : sF (sU (sU (sU (sR1 (sZ1 (σ) 200) (sZ σ) (3, 200, fun _ => none)) c 2 (.ref (sZ σ))) c 6 (.int 2147483647)) c 0 (.ref ty)) c 0 = .ref ty := sU_at
  exact f_rt rfl rfl
theorem g_clear {X : ev_X} {d : Nat} {σ : fl_S} (hd : 1 ≤ d) {c : Nat} (c_c : sC σ 2 c = true) : CF X d 113 [.ref c] σ none (sU (sU σ c 64 .null) c 72 (.int 0)) := by
  refine f_meth (by omega) rfl ?_
  refine f_go (pc1 := 2) (lv1 := [(0, .ref c)]) (st1 := [.null, .ref c]) 2 rfl ?_
  refine f_putf rfl rfl (g := 64) rfl c_c rfl ?_
  have hu13 : sF (sU σ c 64 .null) c 64 = .null := sU_at
  refine f_go (pc1 := 7) (lv1 := [(0, .ref c)]) (st1 := [.int 0, .ref c]) 2 rfl ?_
  refine f_putf rfl rfl (g := 72) rfl c_c rfl ?_
  have hu14 : sF (sU (sU σ c 64 .null) c 72 (.int 0)) c 72 = .int 0 := sU_at
  exact f_rt rfl rfl
