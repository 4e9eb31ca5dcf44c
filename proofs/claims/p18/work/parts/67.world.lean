/-! what parse leaves of a drawing: levels L, rings n and m; cells by numbers -/
def vq (x y : Value) : Bool := match x, y with
  | .int a, .int b => Nat.beq a.toUInt32.toNat b.toUInt32.toNat
  | .float a, .float b => Nat.beq a.toNat b.toNat
  | .ref a, .ref b => Nat.beq a b
  | .null, .null => true
  | _, _ => false
theorem i32_inj {a b : Int32} (h : a.toUInt32 = b.toUInt32) : a = b := by
  cases a
  cases b
  exact congrArg Int32.ofUInt32 h
theorem vq_ok {x y : Value} (h : vq x y = true) : x = y := by
  cases x <;> cases y <;> first | rfl | exact congrArg Value.ref (Nat.eq_of_beq_eq_true h) | exact congrArg Value.float (UInt32.toNat_inj.mp (Nat.eq_of_beq_eq_true h)) | exact congrArg Value.int (i32_inj (UInt32.toNat_inj.mp (Nat.eq_of_beq_eq_true h))) | cases h
/-- a cell of class ci with some fields -/
def ck (t : ev_T) (a ci : Nat) (fs : List (Nat × Value)) : Bool := match ev_g t a with
  | some (.inr (cj, ws)) => Nat.beq cj ci && fs.all fun q => vq ((ws[Nat.mod q.1 32]?).getD .null) q.2
  | _ => false
def Wc (lf : UInt32 → Int32) (σ : fl_S) (a ci : Nat) (fs : List (Nat × Value)) : Prop := sC σ ci a = true ∧ ∀ g v, (g, v) ∈ fs → sF σ a g = gl_v lf v
theorem ck_ok {t : ev_T} {a ci : Nat} {fs : List (Nat × Value)} {lf : UInt32 → Int32} {sz c s : Nat} (h : ck t a ci fs = true) : Wc lf (fl_of lf t sz c s) a ci fs := by
  unfold ck at h
  match hg : ev_g t a, h with
  | some (.inr (cj, ws)), h =>
    simp only [Bool.and_eq_true, List.all_eq_true] at h
    refine ⟨?_, fun g v hq => ?_⟩
    · show fl_cl t ci a = true
      unfold fl_cl
      rw [hg]
      exact h.1
    · show fl_fd lf t a g = _
      unfold fl_fd
      rw [hg]
      have := vq_ok (h.2 (g, v) hq)
      show gl_v lf _ = _
      rw [this]
def i32 (x : Nat) : Value := .int (Int32.ofNat x)
/-- a number that may be drawn -/
def iv (x : Nat) : Value := bif Nat.ble 1000 x then .float (UInt32.ofNat x) else .int (Int32.ofNat x)

def a_dl (k : Nat) : Nat := bif Nat.beq k 0 then 28 else 26 + 5 * k
def a_lv (k : Nat) : Nat := 29 + 5 * k
def a_fd (k : Nat) : Nat := 30 + 5 * k
def a_nl (k : Nat) : Nat := 27 + 5 * k
def a_ol (k : Nat) : Nat := 28 + 5 * k
def a_do (L : Nat) : Nat := 26 + 5 * L
def a_oN (L : Nat) : Nat := 27 + 5 * L
def a_on (L : Nat) : Nat := 28 + 5 * L
def a_oo (L : Nat) : Nat := 29 + 5 * L
def a_rg (L r : Nat) : Nat := 30 + 5 * L + 5 * r
def a_T (L n m : Nat) : Nat := 30 + 5 * L + 5 * (n + m)
def n_T (L n m : Nat) : Nat := 2 * L + 2 + n + m
def x_T (L n m : Nat) : Nat := 2 * L + 4 + 3 * (n + m)
def r_s (n m r : Nat) : Nat := bif Nat.ble n r then n + Nat.mod (r - n + 1) m else Nat.mod (r + 1) n
def r_b (n r : Nat) : Nat := bif Nat.ble n r then 1005 + (r - n) else 1001 + r
def w_ps (L n m : Nat) : List (Nat × Value) := [(192, .ref 3), (195, i32 (0)), (205, .ref (a_T L n m + 14)), (207, .ref 27), (208, .null), (209, .ref 24), (210, .ref 25), (211, .ref 26)]
def w_sc (L n m : Nat) : List (Nat × Value) := [(227, i32 (tk_n L n m))]
def w_x (L n m : Nat) : List (Nat × Value) := [(320, .ref 2), (321, i32 (0)), (322, .ref 3), (323, .ref 11), (324, .null)]
def w_root (L n m : Nat) : List (Nat × Value) := [(128, i32 (10)), (129, i32 (0)), (131, .null), (132, i32 (0)), (133, i32 (0)), (134, .null), (135, .null), (136, .null), (137, .null), (138, .null), (139, .null), (140, .null), (141, .null), (142, i32 (0)), (143, .int (-1)), (144, .null), (145, i32 (0)), (146, .ref 25), (147, .null)]
def w_int (L n m : Nat) : List (Nat × Value) := [(128, i32 (0)), (129, i32 (1)), (131, .null), (132, i32 (0)), (133, i32 (0)), (134, .null), (135, .null), (136, .null), (137, .null), (138, .null), (139, .null), (140, .null), (141, .null), (142, i32 (0)), (143, .int (-1)), (144, .null), (145, i32 (0)), (146, .ref 26), (147, .null)]
def w_bool (L n m : Nat) : List (Nat × Value) := [(128, i32 (1)), (129, i32 (2)), (131, .null), (132, i32 (0)), (133, i32 (0)), (134, .null), (135, .null), (136, .null), (137, .null), (138, .null), (139, .null), (140, .null), (141, .null), (142, i32 (0)), (143, .int (-1)), (144, .null), (145, i32 (0)), (146, .ref 29), (147, .null)]
def w_u0 (L n m : Nat) : List (Nat × Value) := [(32, i32 (0)), (33, i32 (0)), (36, .ref (27)), (37, .ref (a_T L n m)), (38, .null), (39, .null), (40, .null), (41, i32 0), (42, i32 (0)), (43, .ref 28), (44, .null), (46, .null), (47, .null), (48, i32 (0)), (49, i32 (0)), (50, .null)]
def w_dl (L n m k : Nat) : List (Nat × Value) := [(32, i32 (3)), (33, i32 (2 * k + 1)), (36, .ref (27)), (37, .ref (31 + 5 * k)), (38, .ref (a_lv k)), (39, .null), (40, .null), (41, i32 0), (42, i32 (0)), (43, .null), (44, .null), (46, .null), (47, .null), (48, i32 (0)), (49, i32 (0)), (50, .null)]
def w_lv (L n m k : Nat) : List (Nat × Value) := [(128, i32 (11)), (129, i32 (2 * k + 3)), (131, .ref (27)), (132, i32 (0)), (133, i32 0), (134, (bif Nat.beq k 0 then .ref 24 else .ref (a_nl k))), (135, .ref (a_fd k)), (136, .null), (137, .null), (138, .null), (139, .null), (140, .null), (141, .null), (142, i32 (0)), (143, .int (-1)), (144, .null), (145, i32 (0)), (146, .ref (32 + 5 * k)), (147, .null)]
def w_fd (L n m k : Nat) : List (Nat × Value) := [(32, i32 (10)), (33, i32 (2 * k + 2)), (36, .ref (27)), (37, .null), (38, .ref 25), (39, .null), (40, .null), (41, i32 0), (42, i32 (0)), (43, .null), (44, .null), (46, .null), (47, .null), (48, i32 (0)), (49, i32 (0)), (50, .null)]
def w_nl (L n m k : Nat) : List (Nat × Value) := [(128, i32 (13)), (129, i32 (2 * k + 2)), (131, .ref (27)), (132, i32 (0)), (133, i32 0), (134, .null), (135, .null), (136, .null), (137, .ref (a_ol k)), (138, .null), (139, .null), (140, .null), (141, .null), (142, i32 (0)), (143, .int (-1)), (144, .null), (145, i32 (0)), (146, .ref (a_lv k)), (147, .null)]
def w_ol (L n m k : Nat) : List (Nat × Value) := [(160, i32 (315)), (161, i32 (2 * k - 1)), (162, .int (-1)), (164, .null), (165, .null), (166, .null), (167, .null)]
def w_do (L n m : Nat) : List (Nat × Value) := [(32, i32 (4)), (33, i32 (2 * L + 1)), (36, .ref (27)), (37, .ref (a_rg L 0)), (38, .ref (a_oN L)), (39, .ref (a_on L)), (40, .null), (41, i32 0), (42, i32 (0)), (43, .null), (44, .null), (46, .null), (47, .null), (48, i32 (0)), (49, i32 (0)), (50, .null)]
def w_oN (L n m : Nat) : List (Nat × Value) := [(128, i32 (12)), (129, i32 (2 * L + 2)), (131, .ref (27)), (132, i32 (0)), (133, i32 0), (134, .null), (135, .null), (136, .null), (137, .null), (138, .ref (a_do L)), (139, .null), (140, .null), (141, .null), (142, i32 (0)), (143, .int (-1)), (144, .null), (145, i32 (0)), (146, .ref (a_on L)), (147, .null)]
def w_on (L n m : Nat) : List (Nat × Value) := [(128, i32 (13)), (129, i32 (2 * L + 3)), (131, .ref (27)), (132, i32 (0)), (133, i32 0), (134, .null), (135, .null), (136, .null), (137, .ref (a_oo L)), (138, .null), (139, .null), (140, .null), (141, .null), (142, i32 (0)), (143, .int (-1)), (144, .null), (145, i32 (0)), (146, .ref (a_rg L 0 + 1)), (147, .null)]
def w_oo (L n m : Nat) : List (Nat × Value) := [(160, i32 (315)), (161, iv 1009), (162, .int (-1)), (164, .null), (165, .null), (166, .null), (167, .null)]
def w_rd (L n m r : Nat) : List (Nat × Value) := [(32, i32 (3)), (33, i32 (2 * L + 2 + r)), (36, .ref (27)), (37, (bif Nat.beq (r + 1) (n + m) then .null else .ref (a_rg L (r + 1)))), (38, .ref (a_rg L r + 1)), (39, .null), (40, .null), (41, i32 0), (42, i32 (0)), (43, .null), (44, .null), (46, .null), (47, .null), (48, i32 (0)), (49, i32 (0)), (50, .null)]
def w_rr (L n m r : Nat) : List (Nat × Value) := [(128, i32 (5)), (129, i32 (2 * L + 4 + 3 * r)), (131, .ref (27)), (132, i32 (0)), (133, i32 0), (134, .ref (a_rg L r + 2)), (135, .null), (136, .null), (137, .null), (138, .null), (139, .null), (140, .null), (141, .null), (142, i32 (0)), (143, .int (-1)), (144, .null), (145, i32 (0)), (146, .ref (a_rg L r + 2)), (147, .null)]
def w_ra (L n m r : Nat) : List (Nat × Value) := [(128, i32 (3)), (129, i32 (2 * L + 5 + 3 * r)), (131, .ref (27)), (132, i32 (0)), (133, iv (r_b n r)), (134, .ref (a_rg L r + 3)), (135, .null), (136, .null), (137, .null), (138, .null), (139, .null), (140, .null), (141, .null), (142, i32 (0)), (143, .int (-1)), (144, .null), (145, i32 (0)), (146, .ref (a_rg L r + 3)), (147, .null)]
def w_rn (L n m r : Nat) : List (Nat × Value) := [(128, i32 (13)), (129, i32 (2 * L + 6 + 3 * r)), (131, .ref (27)), (132, i32 (0)), (133, i32 0), (134, .null), (135, .null), (136, .null), (137, .ref (a_rg L r + 4)), (138, .null), (139, .null), (140, .null), (141, .null), (142, i32 (0)), (143, .int (-1)), (144, .null), (145, i32 (0)), (146, (bif Nat.beq (r + 1) (n + m) then .ref (a_T L n m + 4) else .ref (a_rg L (r + 1) + 1))), (147, .null)]
def w_ro (L n m r : Nat) : List (Nat × Value) := [(160, i32 (315)), (161, i32 (2 * L + 2 + r_s n m r)), (162, .int (-1)), (164, .null), (165, .null), (166, .null), (167, .null)]
def w_u1 (L n m : Nat) : List (Nat × Value) := [(32, i32 (0)), (33, i32 (n_T L n m)), (36, .ref (a_T L n m)), (37, .ref (a_T L n m + 6)), (38, .null), (39, .null), (40, .null), (41, i32 (1)), (42, i32 (0)), (43, .ref (a_T L n m + 1)), (44, .null), (46, .null), (47, .null), (48, i32 (0)), (49, i32 (0)), (50, .null)]
def w_im1 (L n m : Nat) : List (Nat × Value) := [(32, i32 (2)), (33, i32 (0)), (36, .ref (a_T L n m)), (37, .ref (a_T L n m + 2)), (38, .null), (39, .null), (40, .null), (41, i32 0), (42, i32 (0)), (43, .null), (44, .null), (46, .null), (47, .null), (48, i32 (0)), (49, i32 (0)), (50, .null)]
def w_dh (L n m : Nat) : List (Nat × Value) := [(32, i32 (6)), (33, .int (-1)), (36, .ref (a_T L n m)), (37, .null), (38, .null), (39, .ref (a_T L n m + 4)), (40, .ref (a_T L n m + 3)), (41, i32 0), (42, i32 (0)), (43, .null), (44, .null), (46, .null), (47, .null), (48, i32 (0)), (49, i32 (0)), (50, .null)]
def w_oh (L n m : Nat) : List (Nat × Value) := [(160, i32 (315)), (161, i32 (2 * L + 1)), (162, i32 (0)), (164, .null), (165, .null), (166, .null), (167, .null)]
def w_hn (L n m : Nat) : List (Nat × Value) := [(128, i32 (13)), (129, i32 (x_T L n m)), (131, .ref (a_T L n m)), (132, i32 (0)), (133, i32 0), (134, .null), (135, .null), (136, .null), (137, .ref (a_T L n m + 5)), (138, .null), (139, .null), (140, .null), (141, .null), (142, i32 (0)), (143, .int (-1)), (144, .null), (145, i32 (0)), (146, .ref (a_T L n m + 12)), (147, .null)]
def w_ho (L n m : Nat) : List (Nat × Value) := [(160, i32 (315)), (161, iv 1011), (162, i32 (0)), (164, .null), (165, .null), (166, .null), (167, .null)]
def w_u2 (L n m : Nat) : List (Nat × Value) := [(32, i32 (0)), (33, i32 (n_T L n m + 1)), (36, .ref (a_T L n m + 6)), (37, .ref (a_T L n m + 9)), (38, .null), (39, .null), (40, .null), (41, i32 (2)), (42, i32 (0)), (43, .ref (a_T L n m + 7)), (44, .null), (46, .null), (47, .null), (48, i32 (0)), (49, i32 (0)), (50, .null)]
def w_ima (L n m : Nat) : List (Nat × Value) := [(32, i32 (2)), (33, i32 (0)), (36, .ref (a_T L n m + 6)), (37, .ref (a_T L n m + 8)), (38, .null), (39, .null), (40, .null), (41, i32 0), (42, i32 (0)), (43, .null), (44, .null), (46, .null), (47, .null), (48, i32 (0)), (49, i32 (0)), (50, .null)]
def w_imb (L n m : Nat) : List (Nat × Value) := [(32, i32 (2)), (33, i32 (n_T L n m)), (36, .ref (a_T L n m + 6)), (37, .null), (38, .null), (39, .null), (40, .null), (41, i32 0), (42, i32 (0)), (43, .null), (44, .null), (46, .null), (47, .null), (48, i32 (0)), (49, i32 (0)), (50, .null)]
def w_u3 (L n m : Nat) : List (Nat × Value) := [(32, i32 (1)), (33, i32 (0)), (36, .ref (a_T L n m + 9)), (37, .ref (a_T L n m + 17)), (38, .null), (39, .null), (40, .null), (41, i32 (3)), (42, i32 (0)), (43, .ref (a_T L n m + 10)), (44, .ref (a_T L n m + 16)), (46, .null), (47, .null), (48, i32 (0)), (49, i32 (0)), (50, .null)]
def w_dr (L n m : Nat) : List (Nat × Value) := [(32, i32 (5)), (33, .int (-1)), (36, .ref (a_T L n m + 9)), (37, .null), (38, .ref (a_T L n m + 14)), (39, .null), (40, .ref (a_T L n m + 11)), (41, i32 0), (42, i32 (0)), (43, .null), (44, .null), (46, .null), (47, .null), (48, i32 (0)), (49, i32 (0)), (50, .null)]
def w_orr (L n m : Nat) : List (Nat × Value) := [(160, i32 (315)), (161, i32 (2 * L + 1)), (162, .int (-1)), (164, .null), (165, .null), (166, .null), (167, .null)]
def w_vn (L n m : Nat) : List (Nat × Value) := [(128, i32 (13)), (129, i32 (x_T L n m + 1)), (131, .ref (a_T L n m + 9)), (132, i32 (0)), (133, i32 0), (134, .null), (135, .null), (136, .null), (137, .ref (a_T L n m + 13)), (138, .null), (139, .null), (140, .null), (141, .null), (142, i32 (0)), (143, .int (-1)), (144, .null), (145, i32 (0)), (146, .ref (a_T L n m + 14)), (147, .null)]
def w_vo (L n m : Nat) : List (Nat × Value) := [(160, i32 (315)), (161, iv 1010), (162, .int (-1)), (164, .null), (165, .null), (166, .null), (167, .null)]
def w_vl (L n m : Nat) : List (Nat × Value) := [(128, i32 (11)), (129, i32 (x_T L n m + 2)), (131, .ref (a_T L n m + 9)), (132, i32 (0)), (133, i32 0), (134, .ref (a_T L n m + 12)), (135, .ref (a_T L n m + 15)), (136, .null), (137, .null), (138, .ref (a_T L n m + 10)), (139, .null), (140, .null), (141, .null), (142, i32 (0)), (143, .int (-1)), (144, .null), (145, i32 (0)), (146, .null), (147, .null)]
def w_fz (L n m : Nat) : List (Nat × Value) := [(32, i32 (10)), (33, i32 (n_T L n m + 2)), (36, .ref (a_T L n m + 9)), (37, .null), (38, .ref 25), (39, .null), (40, .null), (41, i32 0), (42, i32 (0)), (43, .null), (44, .null), (46, .null), (47, .null), (48, i32 (0)), (49, i32 (0)), (50, .null)]
def w_u4 (L n m : Nat) : List (Nat × Value) := [(32, i32 (1)), (33, i32 (n_T L n m + 3)), (36, .ref (a_T L n m + 17)), (37, .null), (38, .null), (39, .null), (40, .null), (41, i32 (4)), (42, i32 (0)), (43, .ref (a_T L n m + 18)), (44, .ref (a_T L n m + 19)), (46, .null), (47, .null), (48, i32 (0)), (49, i32 (0)), (50, .null)]
def w_im4 (L n m : Nat) : List (Nat × Value) := [(32, i32 (2)), (33, i32 (0)), (36, .ref (a_T L n m + 17)), (37, .null), (38, .null), (39, .null), (40, .null), (41, i32 0), (42, i32 (0)), (43, .null), (44, .null), (46, .null), (47, .null), (48, i32 (0)), (49, i32 (0)), (50, .null)]
def wB (L n m : Nat) (t : ev_T) : Bool := ck t (21) 6 (w_ps L n m) && (ck t (3) 7 (w_sc L n m) && (ck t (1) 10 (w_x L n m) && (ck t (24) 4 (w_root L n m) && (ck t (25) 4 (w_int L n m) && (ck t (26) 4 (w_bool L n m) && (ck t (27) 1 (w_u0 L n m) && (ck t (a_do L) 1 (w_do L n m) && (ck t (a_oN L) 4 (w_oN L n m) && (ck t (a_on L) 4 (w_on L n m) && (ck t (a_oo L) 5 (w_oo L n m) && (ck t (a_T L n m) 1 (w_u1 L n m) && (ck t (a_T L n m + 1) 1 (w_im1 L n m) && (ck t (a_T L n m + 2) 1 (w_dh L n m) && (ck t (a_T L n m + 3) 5 (w_oh L n m) && (ck t (a_T L n m + 4) 4 (w_hn L n m) && (ck t (a_T L n m + 5) 5 (w_ho L n m) && (ck t (a_T L n m + 6) 1 (w_u2 L n m) && (ck t (a_T L n m + 7) 1 (w_ima L n m) && (ck t (a_T L n m + 8) 1 (w_imb L n m) && (ck t (a_T L n m + 9) 1 (w_u3 L n m) && (ck t (a_T L n m + 10) 1 (w_dr L n m) && (ck t (a_T L n m + 11) 5 (w_orr L n m) && (ck t (a_T L n m + 12) 4 (w_vn L n m) && (ck t (a_T L n m + 13) 5 (w_vo L n m) && (ck t (a_T L n m + 14) 4 (w_vl L n m) && (ck t (a_T L n m + 15) 1 (w_fz L n m) && (ck t (a_T L n m + 17) 1 (w_u4 L n m) && (ck t (a_T L n m + 18) 1 (w_im4 L n m) && (((List.range L).all fun k => ck t (a_dl k) 1 (w_dl L n m k) && ck t (a_lv k) 4 (w_lv L n m k) && ck t (a_fd k) 1 (w_fd L n m k) && (Nat.beq k 0 || (ck t (a_nl k) 4 (w_nl L n m k) && ck t (a_ol k) 5 (w_ol L n m k)))) && ((List.range (n + m)).all fun r => ck t (a_rg L r) 1 (w_rd L n m r) && ck t (a_rg L r + 1) 4 (w_rr L n m r) && ck t (a_rg L r + 2) 4 (w_ra L n m r) && ck t (a_rg L r + 3) 4 (w_rn L n m r) && ck t (a_rg L r + 4) 5 (w_ro L n m r)))))))))))))))))))))))))))))))
def Wd (lf : UInt32 → Int32) (L n m : Nat) (σ : fl_S) : Prop := Wc lf σ (21) 6 (w_ps L n m) ∧ Wc lf σ (3) 7 (w_sc L n m) ∧ Wc lf σ (1) 10 (w_x L n m) ∧ Wc lf σ (24) 4 (w_root L n m) ∧ Wc lf σ (25) 4 (w_int L n m) ∧ Wc lf σ (26) 4 (w_bool L n m) ∧ Wc lf σ (27) 1 (w_u0 L n m) ∧ Wc lf σ (a_do L) 1 (w_do L n m) ∧ Wc lf σ (a_oN L) 4 (w_oN L n m) ∧ Wc lf σ (a_on L) 4 (w_on L n m) ∧ Wc lf σ (a_oo L) 5 (w_oo L n m) ∧ Wc lf σ (a_T L n m) 1 (w_u1 L n m) ∧ Wc lf σ (a_T L n m + 1) 1 (w_im1 L n m) ∧ Wc lf σ (a_T L n m + 2) 1 (w_dh L n m) ∧ Wc lf σ (a_T L n m + 3) 5 (w_oh L n m) ∧ Wc lf σ (a_T L n m + 4) 4 (w_hn L n m) ∧ Wc lf σ (a_T L n m + 5) 5 (w_ho L n m) ∧ Wc lf σ (a_T L n m + 6) 1 (w_u2 L n m) ∧ Wc lf σ (a_T L n m + 7) 1 (w_ima L n m) ∧ Wc lf σ (a_T L n m + 8) 1 (w_imb L n m) ∧ Wc lf σ (a_T L n m + 9) 1 (w_u3 L n m) ∧ Wc lf σ (a_T L n m + 10) 1 (w_dr L n m) ∧ Wc lf σ (a_T L n m + 11) 5 (w_orr L n m) ∧ Wc lf σ (a_T L n m + 12) 4 (w_vn L n m) ∧ Wc lf σ (a_T L n m + 13) 5 (w_vo L n m) ∧ Wc lf σ (a_T L n m + 14) 4 (w_vl L n m) ∧ Wc lf σ (a_T L n m + 15) 1 (w_fz L n m) ∧ Wc lf σ (a_T L n m + 17) 1 (w_u4 L n m) ∧ Wc lf σ (a_T L n m + 18) 1 (w_im4 L n m) ∧ (∀ k, k < L → Wc lf σ (a_dl k) 1 (w_dl L n m k) ∧ Wc lf σ (a_lv k) 4 (w_lv L n m k) ∧ Wc lf σ (a_fd k) 1 (w_fd L n m k) ∧ (0 < k → Wc lf σ (a_nl k) 4 (w_nl L n m k) ∧ Wc lf σ (a_ol k) 5 (w_ol L n m k))) ∧ ∀ r, r < n + m → Wc lf σ (a_rg L r) 1 (w_rd L n m r) ∧ Wc lf σ (a_rg L r + 1) 4 (w_rr L n m r) ∧ Wc lf σ (a_rg L r + 2) 4 (w_ra L n m r) ∧ Wc lf σ (a_rg L r + 3) 4 (w_rn L n m r) ∧ Wc lf σ (a_rg L r + 4) 5 (w_ro L n m r)
theorem wB_ok {L n m : Nat} {t : ev_T} {lf : UInt32 → Int32} {sz c s : Nat} (h : wB L n m t = true) : Wd lf L n m (fl_of lf t sz c s) := by
  unfold wB at h
  simp only [Bool.and_eq_true, List.all_eq_true, List.mem_range] at h
  obtain ⟨h0, h1, h2, h3, h4, h5, h6, h7, h8, h9, h10, h11, h12, h13, h14, h15, h16, h17, h18, h19, h20, h21, h22, h23, h24, h25, h26, h27, h28, hk, hr⟩ := h
  refine ⟨ck_ok h0, ck_ok h1, ck_ok h2, ck_ok h3, ck_ok h4, ck_ok h5, ck_ok h6, ck_ok h7, ck_ok h8, ck_ok h9, ck_ok h10, ck_ok h11, ck_ok h12, ck_ok h13, ck_ok h14, ck_ok h15, ck_ok h16, ck_ok h17, ck_ok h18, ck_ok h19, ck_ok h20, ck_ok h21, ck_ok h22, ck_ok h23, ck_ok h24, ck_ok h25, ck_ok h26, ck_ok h27, ck_ok h28, fun k hk0 => ?_, fun r hr0 => ?_⟩
  · obtain ⟨⟨⟨b0, b1⟩, b2⟩, b3⟩ := hk k hk0
    refine ⟨ck_ok b0, ck_ok b1, ck_ok b2, fun hp => ?_⟩
    simp only [Bool.or_eq_true, Bool.and_eq_true] at b3
    rcases b3 with b3 | b3
    · exact absurd (Nat.eq_of_beq_eq_true b3) (by omega)
    · exact ⟨ck_ok b3.1, ck_ok b3.2⟩
  · obtain ⟨⟨⟨⟨b0, b1⟩, b2⟩, b3⟩, b4⟩ := hr r hr0
    exact ⟨ck_ok b0, ck_ok b1, ck_ok b2, ck_ok b3, ck_ok b4⟩
def ps_z (L n m : Nat) : Nat := a_T L n m + 20
def ps_ck (L n m : Nat) (x : Option (Option Value × ev_S)) : Bool := match x with
  | some (none, τ) => fl_ok τ.2.1 τ.1 && (wB L n m τ.2.1 && (Nat.beq τ.1 (ps_z L n m) && (Nat.ble τ.2.2.1 128 && Nat.ble τ.2.2.2 4096)))
  | _ => false
