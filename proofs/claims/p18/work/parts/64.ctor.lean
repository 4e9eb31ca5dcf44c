/-! constructors -/
def scInitS (σ : fl_S) (a : Nat) : fl_S := sU (sI1 (sZ1 (sU (sI1 (sZ1 (sU (sI1 (sZ1 (sU (sI1 (sZ1 (sU (sI1 (sZ1 (sU (sI1 (sZ1 (sU (sI1 (sZ1 σ 6001) (sZ σ) (6001, fun _ => 0)) a 224 (.ref (sZ σ))) 6001) (sZ σ + 1) (6001, fun _ => 0)) a 225 (.ref (sZ σ + 1))) 6001) (sZ σ + 2) (6001, fun _ => 0)) a 226 (.ref (sZ σ + 2))) 256) (sZ σ + 3) (256, fun _ => 0)) a 232 (.ref (sZ σ + 3))) 3001) (sZ σ + 4) (3001, fun _ => 0)) a 233 (.ref (sZ σ + 4))) 3001) (sZ σ + 5) (3001, fun _ => 0)) a 234 (.ref (sZ σ + 5))) 3001) (sZ σ + 6) (3001, fun _ => 0)) a 235 (.ref (sZ σ + 6))
theorem g_scInit {X : ev_X} {d : Nat} {σ : fl_S} (hd : 1 ≤ d) {a : Nat} (c_a : sC σ 7 a = true) (hz : sZ σ + 7 ≤ 256) : CF X d 13 [.ref a] σ none (scInitS σ a) := by
  refine f_meth (by omega) rfl ?_
  refine f_go (pc1 := 1) (lv1 := [(0, .ref a)]) (st1 := [.ref a]) 1 rfl ?_
  refine f_xm (st1 := []) rfl rfl ?_
  refine f_go (pc1 := 8) (lv1 := [(0, .ref a)]) (st1 := [.int 6001, .ref a]) 2 rfl ?_
  refine f_newi rfl (n := 6001) (show sZ σ + 0 < 256 by omega) (by decide) ?_
  refine f_putf rfl rfl (g := 224) rfl c_a rfl ?_
  have hu24 : sF (sU (sI1 (sZ1 σ 6001) (sZ σ) (6001, fun _ => 0)) a 224 (.ref (sZ σ))) a 224 = .ref (sZ σ) := sU_at
  refine f_go (pc1 := 17) (lv1 := [(0, .ref a)]) (st1 := [.int 6001, .ref a]) 2 rfl ?_
  refine f_newi rfl (n := 6001) (show sZ σ + 1 < 256 by omega) (by decide) ?_
  refine f_putf rfl rfl (g := 225) rfl c_a rfl ?_
  have hu25 : sF (sU (sI1 (sZ1 (sU (sI1 (sZ1 σ 6001) (sZ σ) (6001, fun _ => 0)) a 224 (.ref (sZ σ))) 6001) (sZ σ + 1) (6001, fun _ => 0)) a 225 (.ref (sZ σ + 1))) a 225 = .ref (sZ σ + 1) := sU_at
  refine f_go (pc1 := 26) (lv1 := [(0, .ref a)]) (st1 := [.int 6001, .ref a]) 2 rfl ?_
  refine f_newi rfl (n := 6001) (show sZ σ + 2 < 256 by omega) (by decide) ?_
  refine f_putf rfl rfl (g := 226) rfl c_a rfl ?_
  have hu26 : sF (sU (sI1 (sZ1 (sU (sI1 (sZ1 (sU (sI1 (sZ1 σ 6001) (sZ σ) (6001, fun _ => 0)) a 224 (.ref (sZ σ))) 6001) (sZ σ + 1) (6001, fun _ => 0)) a 225 (.ref (sZ σ + 1))) 6001) (sZ σ + 2) (6001, fun _ => 0)) a 226 (.ref (sZ σ + 2))) a 226 = .ref (sZ σ + 2) := sU_at
  refine f_go (pc1 := 35) (lv1 := [(0, .ref a)]) (st1 := [.int 256, .ref a]) 2 rfl ?_
  refine f_newi rfl (n := 256) (show sZ σ + 3 < 256 by omega) (by decide) ?_
  refine f_putf rfl rfl (g := 232) rfl c_a rfl ?_
  have hu27 : sF (sU (sI1 (sZ1 (sU (sI1 (sZ1 (sU (sI1 (sZ1 (sU (sI1 (sZ1 σ 6001) (sZ σ) (6001, fun _ => 0)) a 224 (.ref (sZ σ))) 6001) (sZ σ + 1) (6001, fun _ => 0)) a 225 (.ref (sZ σ + 1))) 6001) (sZ σ + 2) (6001, fun _ => 0)) a 226 (.ref (sZ σ + 2))) 256) (sZ σ + 3) (256, fun _ => 0)) a 232 (.ref (sZ σ + 3))) a 232 = .ref (sZ σ + 3) := sU_at
  refine f_go (pc1 := 44) (lv1 := [(0, .ref a)]) (st1 := [.int 3001, .ref a]) 2 rfl ?_
  refine f_newi rfl (n := 3001) (show sZ σ + 4 < 256 by omega) (by decide) ?_
  refine f_putf rfl rfl (g := 233) rfl c_a rfl ?_
  have hu28 : sF (sU (sI1 (sZ1 (sU (sI1 (sZ1 (sU (sI1 (sZ1 (sU (sI1 (sZ1 (sU (sI1 (sZ1 σ 6001) (sZ σ) (6001, fun _ => 0)) a 224 (.ref (sZ σ))) 6001) (sZ σ + 1) (6001, fun _ => 0)) a 225 (.ref (sZ σ + 1))) 6001) (sZ σ + 2) (6001, fun _ => 0)) a 226 (.ref (sZ σ + 2))) 256) (sZ σ + 3) (256, fun _ => 0)) a 232 (.ref (sZ σ + 3))) 3001) (sZ σ + 4) (3001, fun _ => 0)) a 233 (.ref (sZ σ + 4))) a 233 = .ref (sZ σ + 4) := sU_at
  refine f_go (pc1 := 53) (lv1 := [(0, .ref a)]) (st1 := [.int 3001, .ref a]) 2 rfl ?_
  refine f_newi rfl (n := 3001) (show sZ σ + 5 < 256 by omega) (by decide) ?_
  refine f_putf rfl rfl (g := 234) rfl c_a rfl ?_
  have hu29 : sF (sU (sI1 (sZ1 (sU (sI1 (sZ1 (sU (sI1 (sZ1 (sU (sI1 (sZ1 (sU (sI1 (sZ1 (sU (sI1 (sZ1 σ 6001) (sZ σ) (6001, fun _ => 0)) a 224 (.ref (sZ σ))) 6001) (sZ σ + 1) (6001, fun _ => 0)) a 225 (.ref (sZ σ + 1))) 6001) (sZ σ + 2) (6001, fun _ => 0)) a 226 (.ref (sZ σ + 2))) 256) (sZ σ + 3) (256, fun _ => 0)) a 232 (.ref (sZ σ + 3))) 3001) (sZ σ + 4) (3001, fun _ => 0)) a 233 (.ref (sZ σ + 4))) 3001) (sZ σ + 5) (3001, fun _ => 0)) a 234 (.ref (sZ σ + 5))) a 234 = .ref (sZ σ + 5) := sU_at
  refine f_go (pc1 := 62) (lv1 := [(0, .ref a)]) (st1 := [.int 3001, .ref a]) 2 rfl ?_
  refine f_newi rfl (n := 3001) (show sZ σ + 6 < 256 by omega) (by decide) ?_
  refine f_putf rfl rfl (g := 235) rfl c_a rfl ?_
  have hu30 : sF (sU (sI1 (sZ1 (sU (sI1 (sZ1 (sU (sI1 (sZ1 (sU (sI1 (sZ1 (sU (sI1 (sZ1 (sU (sI1 (sZ1 (sU (sI1 (sZ1 σ 6001) (sZ σ) (6001, fun _ => 0)) a 224 (.ref (sZ σ))) 6001) (sZ σ + 1) (6001, fun _ => 0)) a 225 (.ref (sZ σ + 1))) 6001) (sZ σ + 2) (6001, fun _ => 0)) a 226 (.ref (sZ σ + 2))) 256) (sZ σ + 3) (256, fun _ => 0)) a 232 (.ref (sZ σ + 3))) 3001) (sZ σ + 4) (3001, fun _ => 0)) a 233 (.ref (sZ σ + 4))) 3001) (sZ σ + 5) (3001, fun _ => 0)) a 234 (.ref (sZ σ + 5))) 3001) (sZ σ + 6) (3001, fun _ => 0)) a 235 (.ref (sZ σ + 6))) a 235 = .ref (sZ σ + 6) := sU_at
  exact f_rt rfl rfl
def maInitS (σ : fl_S) (a : Nat) : fl_S := sU (sI1 (sZ1 (sU (sI1 (sZ1 (sU (sI1 (sZ1 (sU (sR1 (sZ1 (sU (sI1 (sZ1 (sU (sR1 (sZ1 (sU (sI1 (sZ1 (sU (sI1 (sZ1 (sU (sI1 (sZ1 σ 5000) (sZ σ) (5000, fun _ => 0)) a 65 (.ref (sZ σ))) 20000) (sZ σ + 1) (20000, fun _ => 0)) a 66 (.ref (sZ σ + 1))) 2002) (sZ σ + 2) (2002, fun _ => 0)) a 67 (.ref (sZ σ + 2))) 2001) (sZ σ + 3) (3, 2001, fun _ => none)) a 68 (.ref (sZ σ + 3))) 2001) (sZ σ + 4) (2001, fun _ => 0)) a 69 (.ref (sZ σ + 4))) 64) (sZ σ + 5) (4, 64, fun _ => none)) a 71 (.ref (sZ σ + 5))) 500) (sZ σ + 6) (500, fun _ => 0)) a 75 (.ref (sZ σ + 6))) 200) (sZ σ + 7) (200, fun _ => 0)) a 77 (.ref (sZ σ + 7))) 16000) (sZ σ + 8) (16000, fun _ => 0)) a 79 (.ref (sZ σ + 8))
theorem g_maInit {X : ev_X} {d : Nat} {σ : fl_S} (hd : 1 ≤ d) {a : Nat} (c_a : sC σ 2 a = true) (hz : sZ σ + 9 ≤ 256) : CF X d 112 [.ref a] σ none (maInitS σ a) := by
  refine f_meth (by omega) rfl ?_
  refine f_go (pc1 := 1) (lv1 := [(0, .ref a)]) (st1 := [.ref a]) 1 rfl ?_
  refine f_xm (st1 := []) rfl rfl ?_
  refine f_go (pc1 := 8) (lv1 := [(0, .ref a)]) (st1 := [.int 5000, .ref a]) 2 rfl ?_
  refine f_newi rfl (n := 5000) (show sZ σ + 0 < 256 by omega) (by decide) ?_
  refine f_putf rfl rfl (g := 65) rfl c_a rfl ?_
  have hu31 : sF (sU (sI1 (sZ1 σ 5000) (sZ σ) (5000, fun _ => 0)) a 65 (.ref (sZ σ))) a 65 = .ref (sZ σ) := sU_at
  refine f_go (pc1 := 17) (lv1 := [(0, .ref a)]) (st1 := [.int 20000, .ref a]) 2 rfl ?_
  refine f_newi rfl (n := 20000) (show sZ σ + 1 < 256 by omega) (by decide) ?_
  refine f_putf rfl rfl (g := 66) rfl c_a rfl ?_
  have hu32 : sF (sU (sI1 (sZ1 (sU (sI1 (sZ1 σ 5000) (sZ σ) (5000, fun _ => 0)) a 65 (.ref (sZ σ))) 20000) (sZ σ + 1) (20000, fun _ => 0)) a 66 (.ref (sZ σ + 1))) a 66 = .ref (sZ σ + 1) := sU_at
  refine f_go (pc1 := 26) (lv1 := [(0, .ref a)]) (st1 := [.int 2002, .ref a]) 2 rfl ?_
  refine f_newi rfl (n := 2002) (show sZ σ + 2 < 256 by omega) (by decide) ?_
  refine f_putf rfl rfl (g := 67) rfl c_a rfl ?_
  have hu33 : sF (sU (sI1 (sZ1 (sU (sI1 (sZ1 (sU (sI1 (sZ1 σ 5000) (sZ σ) (5000, fun _ => 0)) a 65 (.ref (sZ σ))) 20000) (sZ σ + 1) (20000, fun _ => 0)) a 66 (.ref (sZ σ + 1))) 2002) (sZ σ + 2) (2002, fun _ => 0)) a 67 (.ref (sZ σ + 2))) a 67 = .ref (sZ σ + 2) := sU_at
  refine f_go (pc1 := 35) (lv1 := [(0, .ref a)]) (st1 := [.int 2001, .ref a]) 2 rfl ?_
  refine f_newq rfl (n := 2001) (show sZ σ + 3 < 256 by omega) (by decide) ?_
  refine f_putf rfl rfl (g := 68) rfl c_a rfl ?_
  have hu34 : sF (sU (sR1 (sZ1 (sU (sI1 (sZ1 (sU (sI1 (sZ1 (sU (sI1 (sZ1 σ 5000) (sZ σ) (5000, fun _ => 0)) a 65 (.ref (sZ σ))) 20000) (sZ σ + 1) (20000, fun _ => 0)) a 66 (.ref (sZ σ + 1))) 2002) (sZ σ + 2) (2002, fun _ => 0)) a 67 (.ref (sZ σ + 2))) 2001) (sZ σ + 3) (3, 2001, fun _ => none)) a 68 (.ref (sZ σ + 3))) a 68 = .ref (sZ σ + 3) := sU_at
  refine f_go (pc1 := 45) (lv1 := [(0, .ref a)]) (st1 := [.int 2001, .ref a]) 2 rfl ?_
  refine f_newi rfl (n := 2001) (show sZ σ + 4 < 256 by omega) (by decide) ?_
  refine f_putf rfl rfl (g := 69) rfl c_a rfl ?_
  have hu35 : sF (sU (sI1 (sZ1 (sU (sR1 (sZ1 (sU (sI1 (sZ1 (sU (sI1 (sZ1 (sU (sI1 (sZ1 σ 5000) (sZ σ) (5000, fun _ => 0)) a 65 (.ref (sZ σ))) 20000) (sZ σ + 1) (20000, fun _ => 0)) a 66 (.ref (sZ σ + 1))) 2002) (sZ σ + 2) (2002, fun _ => 0)) a 67 (.ref (sZ σ + 2))) 2001) (sZ σ + 3) (3, 2001, fun _ => none)) a 68 (.ref (sZ σ + 3))) 2001) (sZ σ + 4) (2001, fun _ => 0)) a 69 (.ref (sZ σ + 4))) a 69 = .ref (sZ σ + 4) := sU_at
  refine f_go (pc1 := 53) (lv1 := [(0, .ref a)]) (st1 := [.int 64, .ref a]) 2 rfl ?_
  refine f_newq rfl (n := 64) (show sZ σ + 5 < 256 by omega) (by decide) ?_
  refine f_putf rfl rfl (g := 71) rfl c_a rfl ?_
  have hu36 : sF (sU (sR1 (sZ1 (sU (sI1 (sZ1 (sU (sR1 (sZ1 (sU (sI1 (sZ1 (sU (sI1 (sZ1 (sU (sI1 (sZ1 σ 5000) (sZ σ) (5000, fun _ => 0)) a 65 (.ref (sZ σ))) 20000) (sZ σ + 1) (20000, fun _ => 0)) a 66 (.ref (sZ σ + 1))) 2002) (sZ σ + 2) (2002, fun _ => 0)) a 67 (.ref (sZ σ + 2))) 2001) (sZ σ + 3) (3, 2001, fun _ => none)) a 68 (.ref (sZ σ + 3))) 2001) (sZ σ + 4) (2001, fun _ => 0)) a 69 (.ref (sZ σ + 4))) 64) (sZ σ + 5) (4, 64, fun _ => none)) a 71 (.ref (sZ σ + 5))) a 71 = .ref (sZ σ + 5) := sU_at
  refine f_go (pc1 := 63) (lv1 := [(0, .ref a)]) (st1 := [.int 500, .ref a]) 2 rfl ?_
  refine f_newi rfl (n := 500) (show sZ σ + 6 < 256 by omega) (by decide) ?_
  refine f_putf rfl rfl (g := 75) rfl c_a rfl ?_
  have hu37 : sF (sU (sI1 (sZ1 (sU (sR1 (sZ1 (sU (sI1 (sZ1 (sU (sR1 (sZ1 (sU (sI1 (sZ1 (sU (sI1 (sZ1 (sU (sI1 (sZ1 σ 5000) (sZ σ) (5000, fun _ => 0)) a 65 (.ref (sZ σ))) 20000) (sZ σ + 1) (20000, fun _ => 0)) a 66 (.ref (sZ σ + 1))) 2002) (sZ σ + 2) (2002, fun _ => 0)) a 67 (.ref (sZ σ + 2))) 2001) (sZ σ + 3) (3, 2001, fun _ => none)) a 68 (.ref (sZ σ + 3))) 2001) (sZ σ + 4) (2001, fun _ => 0)) a 69 (.ref (sZ σ + 4))) 64) (sZ σ + 5) (4, 64, fun _ => none)) a 71 (.ref (sZ σ + 5))) 500) (sZ σ + 6) (500, fun _ => 0)) a 75 (.ref (sZ σ + 6))) a 75 = .ref (sZ σ + 6) := sU_at
  refine f_go (pc1 := 72) (lv1 := [(0, .ref a)]) (st1 := [.int 200, .ref a]) 2 rfl ?_
  refine f_newi rfl (n := 200) (show sZ σ + 7 < 256 by omega) (by decide) ?_
  refine f_putf rfl rfl (g := 77) rfl c_a rfl ?_
  have hu38 : sF (sU (sI1 (sZ1 (sU (sI1 (sZ1 (sU (sR1 (sZ1 (sU (sI1 (sZ1 (sU (sR1 (sZ1 (sU (sI1 (sZ1 (sU (sI1 (sZ1 (sU (sI1 (sZ1 σ 5000) (sZ σ) (5000, fun _ => 0)) a 65 (.ref (sZ σ))) 20000) (sZ σ + 1) (20000, fun _ => 0)) a 66 (.ref (sZ σ + 1))) 2002) (sZ σ + 2) (2002, fun _ => 0)) a 67 (.ref (sZ σ + 2))) 2001) (sZ σ + 3) (3, 2001, fun _ => none)) a 68 (.ref (sZ σ + 3))) 2001) (sZ σ + 4) (2001, fun _ => 0)) a 69 (.ref (sZ σ + 4))) 64) (sZ σ + 5) (4, 64, fun _ => none)) a 71 (.ref (sZ σ + 5))) 500) (sZ σ + 6) (500, fun _ => 0)) a 75 (.ref (sZ σ + 6))) 200) (sZ σ + 7) (200, fun _ => 0)) a 77 (.ref (sZ σ + 7))) a 77 = .ref (sZ σ + 7) := sU_at
  refine f_go (pc1 := 81) (lv1 := [(0, .ref a)]) (st1 := [.int 16000, .ref a]) 2 rfl ?_
  refine f_newi rfl (n := 16000) (show sZ σ + 8 < 256 by omega) (by decide) ?_
  refine f_putf rfl rfl (g := 79) rfl c_a rfl ?_
  have hu39 : sF (sU (sI1 (sZ1 (sU (sI1 (sZ1 (sU (sI1 (sZ1 (sU (sR1 (sZ1 (sU (sI1 (sZ1 (sU (sR1 (sZ1 (sU (sI1 (sZ1 (sU (sI1 (sZ1 (sU (sI1 (sZ1 σ 5000) (sZ σ) (5000, fun _ => 0)) a 65 (.ref (sZ σ))) 20000) (sZ σ + 1) (20000, fun _ => 0)) a 66 (.ref (sZ σ + 1))) 2002) (sZ σ + 2) (2002, fun _ => 0)) a 67 (.ref (sZ σ + 2))) 2001) (sZ σ + 3) (3, 2001, fun _ => none)) a 68 (.ref (sZ σ + 3))) 2001) (sZ σ + 4) (2001, fun _ => 0)) a 69 (.ref (sZ σ + 4))) 64) (sZ σ + 5) (4, 64, fun _ => none)) a 71 (.ref (sZ σ + 5))) 500) (sZ σ + 6) (500, fun _ => 0)) a 75 (.ref (sZ σ + 6))) 200) (sZ σ + 7) (200, fun _ => 0)) a 77 (.ref (sZ σ + 7))) 16000) (sZ σ + 8) (16000, fun _ => 0)) a 79 (.ref (sZ σ + 8))) a 79 = .ref (sZ σ + 8) := sU_at
  exact f_rt rfl rfl
def luInitS (σ : fl_S) (a : Nat) : fl_S := sU (maInitS (sN (sU (scInitS (sN (sU (sY1 (sZ1 σ 6000) (sZ σ) (6000, fun _ => 0)) a 320 (.ref (sZ σ))) 7 13) (sZ σ + 1)) a 322 (.ref (sZ σ + 1))) 2 19) (sZ σ + 9)) a 323 (.ref (sZ σ + 9))
theorem g_luInit {X : ev_X} {d : Nat} {σ : fl_S} (hd : 2 ≤ d) {a : Nat} (c_a : sC σ 10 a = true) (hz : sZ σ + 19 ≤ 256) : CF X d 0 [.ref a] σ none (luInitS σ a) := by
  refine f_meth (by omega) rfl ?_
  refine f_go (pc1 := 1) (lv1 := [(0, .ref a)]) (st1 := [.ref a]) 1 rfl ?_
  refine f_xm (st1 := []) rfl rfl ?_
  refine f_go (pc1 := 8) (lv1 := [(0, .ref a)]) (st1 := [.int 6000, .ref a]) 2 rfl ?_
  refine f_newb rfl (n := 6000) (show sZ σ + 0 < 256 by omega) (by decide) ?_
  refine f_putf rfl rfl (g := 320) rfl c_a rfl ?_
  have hu40 : sF (sU (sY1 (sZ1 σ 6000) (sZ σ) (6000, fun _ => 0)) a 320 (.ref (sZ σ))) a 320 = .ref (sZ σ) := sU_at
  refine f_go (pc1 := 14) (lv1 := [(0, .ref a)]) (st1 := [.ref a]) 1 rfl ?_
  refine f_new rfl (show sZ σ + 1 < 256 by omega) rfl ?_
  have c_n1 : sC (sN (sU (sY1 (sZ1 σ 6000) (sZ σ) (6000, fun _ => 0)) a 320 (.ref (sZ σ))) 7 13) 7 (sZ σ + 1) = true := by show (bif (Nat.beq 7 7 && Nat.beq (sZ σ + 1) (sZ σ + 1)) then true else _) = true; rw [nb_self, nb_self]; rfl
  refine f_go (pc1 := 18) (lv1 := [(0, .ref a)]) (st1 := [.ref (sZ σ + 1), .ref (sZ σ + 1), .ref a]) 1 rfl ?_
  refine f_sp rfl rfl rfl rfl (g_scInit (by omega) c_n1 (show sZ σ + 2 + 7 ≤ 256 by omega)) ?_
  refine f_putf rfl rfl (g := 322) rfl c_a rfl ?_
  have hu41 : sF (sU (scInitS (sN (sU (sY1 (sZ1 σ 6000) (sZ σ) (6000, fun _ => 0)) a 320 (.ref (sZ σ))) 7 13) (sZ σ + 1)) a 322 (.ref (sZ σ + 1))) a 322 = .ref (sZ σ + 1) := sU_at
  refine f_go (pc1 := 25) (lv1 := [(0, .ref a)]) (st1 := [.ref a]) 1 rfl ?_
  refine f_new rfl (show sZ σ + 9 < 256 by omega) rfl ?_
  have c_n9 : sC (sN (sU (scInitS (sN (sU (sY1 (sZ1 σ 6000) (sZ σ) (6000, fun _ => 0)) a 320 (.ref (sZ σ))) 7 13) (sZ σ + 1)) a 322 (.ref (sZ σ + 1))) 2 19) 2 (sZ σ + 9) = true := by show (bif (Nat.beq 2 2 && Nat.beq (sZ σ + 9) (sZ σ + 9)) then true else _) = true; rw [nb_self, nb_self]; rfl
  refine f_go (pc1 := 29) (lv1 := [(0, .ref a)]) (st1 := [.ref (sZ σ + 9), .ref (sZ σ + 9), .ref a]) 1 rfl ?_
  refine f_sp rfl rfl rfl rfl (g_maInit (by omega) c_n9 (show sZ σ + 10 + 9 ≤ 256 by omega)) ?_
  refine f_putf rfl rfl (g := 323) rfl c_a rfl ?_
  have hu42 : sF (sU (maInitS (sN (sU (scInitS (sN (sU (sY1 (sZ1 σ 6000) (sZ σ) (6000, fun _ => 0)) a 320 (.ref (sZ σ))) 7 13) (sZ σ + 1)) a 322 (.ref (sZ σ + 1))) 2 19) (sZ σ + 9)) a 323 (.ref (sZ σ + 9))) a 323 = .ref (sZ σ + 9) := sU_at
  exact f_rt rfl rfl
theorem sN_C {σ : fl_S} {ci n c a : Nat} (h : sC σ c a = true) : sC (sN σ ci n) c a = true := by
  show (bif (Nat.beq c ci && Nat.beq a (sZ σ)) then true else sC σ c a) = true
  rw [h]
  cases (Nat.beq c ci && Nat.beq a (sZ σ)) <;> rfl
def psInitS (σ : fl_S) (a sc : Nat) : fl_S := sU (sU (sU (sU (sU (sU (sU (sU (sU (sN (sU (sU (sU (sU (sU (sU (sN (sU (sU (sU (sU (sU (sU (sN (sU (sU (sI1 (sZ1 (sU (sI1 (sZ1 σ 4) (sZ σ) (4, fun _ => 0)) a 196 (.ref (sZ σ))) 200) (sZ σ + 1) (200, fun _ => 0)) a 197 (.ref (sZ σ + 1))) a 192 (.ref sc)) 4 20) (sZ σ + 2) 143 (.int (-1))) (sZ σ + 2) 128 (.int 10)) (sZ σ + 2) 129 (.int 0)) (sZ σ + 2) 130 (.int 0)) (sZ σ + 2) 131 .null) a 209 (.ref (sZ σ + 2))) 4 20) (sZ σ + 3) 143 (.int (-1))) (sZ σ + 3) 128 (.int 0)) (sZ σ + 3) 129 (.int 1)) (sZ σ + 3) 130 (.int 0)) (sZ σ + 3) 131 .null) a 210 (.ref (sZ σ + 3))) 4 20) (sZ σ + 4) 143 (.int (-1))) (sZ σ + 4) 128 (.int 1)) (sZ σ + 4) 129 (.int 2)) (sZ σ + 4) 130 (.int 0)) (sZ σ + 4) 131 .null) a 211 (.ref (sZ σ + 4))) (sZ σ + 2) 146 (.ref (sZ σ + 3))) (sZ σ + 3) 146 (.ref (sZ σ + 4))) a 205 (.ref (sZ σ + 4))
theorem g_psInit {X : ev_X} {d : Nat} {σ : fl_S} (hd : 2 ≤ d) {a sc : Nat} (c_a : sC σ 6 a = true) (hz : sZ σ + 5 ≤ 256) : CF X d 27 [.ref a, .ref sc] σ none (psInitS σ a sc) := by
  refine f_meth (by omega) rfl ?_
  refine f_go (pc1 := 1) (lv1 := [(0, .ref a), (1, .ref sc)]) (st1 := [.ref a]) 1 rfl ?_
  refine f_xm (st1 := []) rfl rfl ?_
  refine f_go (pc1 := 6) (lv1 := [(0, .ref a), (1, .ref sc)]) (st1 := [.int 4, .ref a]) 2 rfl ?_
  refine f_newi rfl (n := 4) (show sZ σ + 0 < 256 by omega) (by decide) ?_
  refine f_putf rfl rfl (g := 196) rfl c_a rfl ?_
  have hu43 : sF (sU (sI1 (sZ1 σ 4) (sZ σ) (4, fun _ => 0)) a 196 (.ref (sZ σ))) a 196 = .ref (sZ σ) := sU_at
  refine f_go (pc1 := 15) (lv1 := [(0, .ref a), (1, .ref sc)]) (st1 := [.int 200, .ref a]) 2 rfl ?_
  refine f_newi rfl (n := 200) (show sZ σ + 1 < 256 by omega) (by decide) ?_
  refine f_putf rfl rfl (g := 197) rfl c_a rfl ?_
  have hu44 : sF (sU (sI1 (sZ1 (sU (sI1 (sZ1 σ 4) (sZ σ) (4, fun _ => 0)) a 196 (.ref (sZ σ))) 200) (sZ σ + 1) (200, fun _ => 0)) a 197 (.ref (sZ σ + 1))) a 197 = .ref (sZ σ + 1) := sU_at
  refine f_go (pc1 := 22) (lv1 := [(0, .ref a), (1, .ref sc)]) (st1 := [.ref sc, .ref a]) 2 rfl ?_
  refine f_putf rfl rfl (g := 192) rfl c_a rfl ?_
  have hu45 : sF (sU (sU (sI1 (sZ1 (sU (sI1 (sZ1 σ 4) (sZ σ) (4, fun _ => 0)) a 196 (.ref (sZ σ))) 200) (sZ σ + 1) (200, fun _ => 0)) a 197 (.ref (sZ σ + 1))) a 192 (.ref sc)) a 192 = .ref sc := sU_at
  refine f_go (pc1 := 26) (lv1 := [(0, .ref a), (1, .ref sc)]) (st1 := [.ref a]) 1 rfl ?_
  refine f_new rfl (show sZ σ + 2 < 256 by omega) rfl ?_
  have c_n2 : sC (sN (sU (sU (sI1 (sZ1 (sU (sI1 (sZ1 σ 4) (sZ σ) (4, fun _ => 0)) a 196 (.ref (sZ σ))) 200) (sZ σ + 1) (200, fun _ => 0)) a 197 (.ref (sZ σ + 1))) a 192 (.ref sc)) 4 20) 4 (sZ σ + 2) = true := by show (bif (Nat.beq 4 4 && Nat.beq (sZ σ + 2) (sZ σ + 2)) then true else _) = true; rw [nb_self, nb_self]; rfl
  refine f_go (pc1 := 35) (lv1 := [(0, .ref a), (1, .ref sc)]) (st1 := [.null, .int 0, .int 0, .int 10, .ref (sZ σ + 2), .ref (sZ σ + 2), .ref a]) 5 rfl ?_
  refine f_sp rfl rfl rfl rfl (g_nodeInit (by omega) c_n2) ?_
  refine f_putf rfl rfl (g := 209) rfl c_a rfl ?_
  have hu46 : sF (sU (sU (sU (sU (sU (sU (sN (sU (sU (sI1 (sZ1 (sU (sI1 (sZ1 σ 4) (sZ σ) (4, fun _ => 0)) a 196 (.ref (sZ σ))) 200) (sZ σ + 1) (200, fun _ => 0)) a 197 (.ref (sZ σ + 1))) a 192 (.ref sc)) 4 20) (sZ σ + 2) 143 (.int (-1))) (sZ σ + 2) 128 (.int 10)) (sZ σ + 2) 129 (.int 0)) (sZ σ + 2) 130 (.int 0)) (sZ σ + 2) 131 .null) a 209 (.ref (sZ σ + 2))) a 209 = .ref (sZ σ + 2) := sU_at
  refine f_go (pc1 := 42) (lv1 := [(0, .ref a), (1, .ref sc)]) (st1 := [.ref a]) 1 rfl ?_
  refine f_new rfl (show sZ σ + 3 < 256 by omega) rfl ?_
  have c_n3 : sC (sN (sU (sU (sU (sU (sU (sU (sN (sU (sU (sI1 (sZ1 (sU (sI1 (sZ1 σ 4) (sZ σ) (4, fun _ => 0)) a 196 (.ref (sZ σ))) 200) (sZ σ + 1) (200, fun _ => 0)) a 197 (.ref (sZ σ + 1))) a 192 (.ref sc)) 4 20) (sZ σ + 2) 143 (.int (-1))) (sZ σ + 2) 128 (.int 10)) (sZ σ + 2) 129 (.int 0)) (sZ σ + 2) 130 (.int 0)) (sZ σ + 2) 131 .null) a 209 (.ref (sZ σ + 2))) 4 20) 4 (sZ σ + 3) = true := by show (bif (Nat.beq 4 4 && Nat.beq (sZ σ + 3) (sZ σ + 3)) then true else _) = true; rw [nb_self, nb_self]; rfl
  refine f_go (pc1 := 50) (lv1 := [(0, .ref a), (1, .ref sc)]) (st1 := [.null, .int 0, .int 1, .int 0, .ref (sZ σ + 3), .ref (sZ σ + 3), .ref a]) 5 rfl ?_
  refine f_sp rfl rfl rfl rfl (g_nodeInit (by omega) c_n3) ?_
  refine f_putf rfl rfl (g := 210) rfl c_a rfl ?_
  have hu47 : sF (sU (sU (sU (sU (sU (sU (sN (sU (sU (sU (sU (sU (sU (sN (sU (sU (sI1 (sZ1 (sU (sI1 (sZ1 σ 4) (sZ σ) (4, fun _ => 0)) a 196 (.ref (sZ σ))) 200) (sZ σ + 1) (200, fun _ => 0)) a 197 (.ref (sZ σ + 1))) a 192 (.ref sc)) 4 20) (sZ σ + 2) 143 (.int (-1))) (sZ σ + 2) 128 (.int 10)) (sZ σ + 2) 129 (.int 0)) (sZ σ + 2) 130 (.int 0)) (sZ σ + 2) 131 .null) a 209 (.ref (sZ σ + 2))) 4 20) (sZ σ + 3) 143 (.int (-1))) (sZ σ + 3) 128 (.int 0)) (sZ σ + 3) 129 (.int 1)) (sZ σ + 3) 130 (.int 0)) (sZ σ + 3) 131 .null) a 210 (.ref (sZ σ + 3))) a 210 = .ref (sZ σ + 3) := sU_at
  refine f_go (pc1 := 57) (lv1 := [(0, .ref a), (1, .ref sc)]) (st1 := [.ref a]) 1 rfl ?_
  refine f_new rfl (show sZ σ + 4 < 256 by omega) rfl ?_
  have c_n4 : sC (sN (sU (sU (sU (sU (sU (sU (sN (sU (sU (sU (sU (sU (sU (sN (sU (sU (sI1 (sZ1 (sU (sI1 (sZ1 σ 4) (sZ σ) (4, fun _ => 0)) a 196 (.ref (sZ σ))) 200) (sZ σ + 1) (200, fun _ => 0)) a 197 (.ref (sZ σ + 1))) a 192 (.ref sc)) 4 20) (sZ σ + 2) 143 (.int (-1))) (sZ σ + 2) 128 (.int 10)) (sZ σ + 2) 129 (.int 0)) (sZ σ + 2) 130 (.int 0)) (sZ σ + 2) 131 .null) a 209 (.ref (sZ σ + 2))) 4 20) (sZ σ + 3) 143 (.int (-1))) (sZ σ + 3) 128 (.int 0)) (sZ σ + 3) 129 (.int 1)) (sZ σ + 3) 130 (.int 0)) (sZ σ + 3) 131 .null) a 210 (.ref (sZ σ + 3))) 4 20) 4 (sZ σ + 4) = true := by show (bif (Nat.beq 4 4 && Nat.beq (sZ σ + 4) (sZ σ + 4)) then true else _) = true; rw [nb_self, nb_self]; rfl
  refine f_go (pc1 := 65) (lv1 := [(0, .ref a), (1, .ref sc)]) (st1 := [.null, .int 0, .int 2, .int 1, .ref (sZ σ + 4), .ref (sZ σ + 4), .ref a]) 5 rfl ?_
  refine f_sp rfl rfl rfl rfl (g_nodeInit (by omega) c_n4) ?_
  refine f_putf rfl rfl (g := 211) rfl c_a rfl ?_
  have hu48 : sF (sU (sU (sU (sU (sU (sU (sN (sU (sU (sU (sU (sU (sU (sN (sU (sU (sU (sU (sU (sU (sN (sU (sU (sI1 (sZ1 (sU (sI1 (sZ1 σ 4) (sZ σ) (4, fun _ => 0)) a 196 (.ref (sZ σ))) 200) (sZ σ + 1) (200, fun _ => 0)) a 197 (.ref (sZ σ + 1))) a 192 (.ref sc)) 4 20) (sZ σ + 2) 143 (.int (-1))) (sZ σ + 2) 128 (.int 10)) (sZ σ + 2) 129 (.int 0)) (sZ σ + 2) 130 (.int 0)) (sZ σ + 2) 131 .null) a 209 (.ref (sZ σ + 2))) 4 20) (sZ σ + 3) 143 (.int (-1))) (sZ σ + 3) 128 (.int 0)) (sZ σ + 3) 129 (.int 1)) (sZ σ + 3) 130 (.int 0)) (sZ σ + 3) 131 .null) a 210 (.ref (sZ σ + 3))) 4 20) (sZ σ + 4) 143 (.int (-1))) (sZ σ + 4) 128 (.int 1)) (sZ σ + 4) 129 (.int 2)) (sZ σ + 4) 130 (.int 0)) (sZ σ + 4) 131 .null) a 211 (.ref (sZ σ + 4))) a 211 = .ref (sZ σ + 4) := sU_at
  have r0 : sF (sU (sU (sU (sU (sU (sU (sN (sU (sU (sU (sU (sU (sU (sN (sU (sU (sU (sU (sU (sU (sN (sU (sU (sI1 (sZ1 (sU (sI1 (sZ1 σ 4) (sZ σ) (4, fun _ => 0)) a 196 (.ref (sZ σ))) 200) (sZ σ + 1) (200, fun _ => 0)) a 197 (.ref (sZ σ + 1))) a 192 (.ref sc)) 4 20) (sZ σ + 2) 143 (.int (-1))) (sZ σ + 2) 128 (.int 10)) (sZ σ + 2) 129 (.int 0)) (sZ σ + 2) 130 (.int 0)) (sZ σ + 2) 131 .null) a 209 (.ref (sZ σ + 2))) 4 20) (sZ σ + 3) 143 (.int (-1))) (sZ σ + 3) 128 (.int 0)) (sZ σ + 3) 129 (.int 1)) (sZ σ + 3) 130 (.int 0)) (sZ σ + 3) 131 .null) a 210 (.ref (sZ σ + 3))) 4 20) (sZ σ + 4) 143 (.int (-1))) (sZ σ + 4) 128 (.int 1)) (sZ σ + 4) 129 (.int 2)) (sZ σ + 4) 130 (.int 0)) (sZ σ + 4) 131 .null) a 211 (.ref (sZ σ + 4))) a 209 = .ref (sZ σ + 2) := by
    show sF (sU (sU (sU (sU (sU (sU (sN (sU (sU (sI1 (sZ1 (sU (sI1 (sZ1 σ 4) (sZ σ) (4, fun _ => 0)) a 196 (.ref (sZ σ))) 200) (sZ σ + 1) (200, fun _ => 0)) a 197 (.ref (sZ σ + 1))) a 192 (.ref sc)) 4 20) (sZ σ + 2) 143 (.int (-1))) (sZ σ + 2) 128 (.int 10)) (sZ σ + 2) 129 (.int 0)) (sZ σ + 2) 130 (.int 0)) (sZ σ + 2) 131 .null) a 209 (.ref (sZ σ + 2))) a 209 = _
    exact hu46
  have k0 : sC (sU (sU (sU (sU (sU (sU (sN (sU (sU (sU (sU (sU (sU (sN (sU (sU (sU (sU (sU (sU (sN (sU (sU (sI1 (sZ1 (sU (sI1 (sZ1 σ 4) (sZ σ) (4, fun _ => 0)) a 196 (.ref (sZ σ))) 200) (sZ σ + 1) (200, fun _ => 0)) a 197 (.ref (sZ σ + 1))) a 192 (.ref sc)) 4 20) (sZ σ + 2) 143 (.int (-1))) (sZ σ + 2) 128 (.int 10)) (sZ σ + 2) 129 (.int 0)) (sZ σ + 2) 130 (.int 0)) (sZ σ + 2) 131 .null) a 209 (.ref (sZ σ + 2))) 4 20) (sZ σ + 3) 143 (.int (-1))) (sZ σ + 3) 128 (.int 0)) (sZ σ + 3) 129 (.int 1)) (sZ σ + 3) 130 (.int 0)) (sZ σ + 3) 131 .null) a 210 (.ref (sZ σ + 3))) 4 20) (sZ σ + 4) 143 (.int (-1))) (sZ σ + 4) 128 (.int 1)) (sZ σ + 4) 129 (.int 2)) (sZ σ + 4) 130 (.int 0)) (sZ σ + 4) 131 .null) a 211 (.ref (sZ σ + 4))) 4 (sZ σ + 2) = true := by
    show sC (sN (sU (sU (sU (sU (sU (sU (sN (sU (sU (sU (sU (sU (sU (sN (sU (sU (sI1 (sZ1 (sU (sI1 (sZ1 σ 4) (sZ σ) (4, fun _ => 0)) a 196 (.ref (sZ σ))) 200) (sZ σ + 1) (200, fun _ => 0)) a 197 (.ref (sZ σ + 1))) a 192 (.ref sc)) 4 20) (sZ σ + 2) 143 (.int (-1))) (sZ σ + 2) 128 (.int 10)) (sZ σ + 2) 129 (.int 0)) (sZ σ + 2) 130 (.int 0)) (sZ σ + 2) 131 .null) a 209 (.ref (sZ σ + 2))) 4 20) (sZ σ + 3) 143 (.int (-1))) (sZ σ + 3) 128 (.int 0)) (sZ σ + 3) 129 (.int 1)) (sZ σ + 3) 130 (.int 0)) (sZ σ + 3) 131 .null) a 210 (.ref (sZ σ + 3))) 4 20) 4 (sZ σ + 2) = true
    exact (sN_C (ci := 4) (n := 20) (sN_C (ci := 4) (n := 20) c_n2))
  have r1 : sF (sU (sU (sU (sU (sU (sU (sN (sU (sU (sU (sU (sU (sU (sN (sU (sU (sU (sU (sU (sU (sN (sU (sU (sI1 (sZ1 (sU (sI1 (sZ1 σ 4) (sZ σ) (4, fun _ => 0)) a 196 (.ref (sZ σ))) 200) (sZ σ + 1) (200, fun _ => 0)) a 197 (.ref (sZ σ + 1))) a 192 (.ref sc)) 4 20) (sZ σ + 2) 143 (.int (-1))) (sZ σ + 2) 128 (.int 10)) (sZ σ + 2) 129 (.int 0)) (sZ σ + 2) 130 (.int 0)) (sZ σ + 2) 131 .null) a 209 (.ref (sZ σ + 2))) 4 20) (sZ σ + 3) 143 (.int (-1))) (sZ σ + 3) 128 (.int 0)) (sZ σ + 3) 129 (.int 1)) (sZ σ + 3) 130 (.int 0)) (sZ σ + 3) 131 .null) a 210 (.ref (sZ σ + 3))) 4 20) (sZ σ + 4) 143 (.int (-1))) (sZ σ + 4) 128 (.int 1)) (sZ σ + 4) 129 (.int 2)) (sZ σ + 4) 130 (.int 0)) (sZ σ + 4) 131 .null) a 211 (.ref (sZ σ + 4))) a 210 = .ref (sZ σ + 3) := by
    show sF (sU (sU (sU (sU (sU (sU (sN (sU (sU (sU (sU (sU (sU (sN (sU (sU (sI1 (sZ1 (sU (sI1 (sZ1 σ 4) (sZ σ) (4, fun _ => 0)) a 196 (.ref (sZ σ))) 200) (sZ σ + 1) (200, fun _ => 0)) a 197 (.ref (sZ σ + 1))) a 192 (.ref sc)) 4 20) (sZ σ + 2) 143 (.int (-1))) (sZ σ + 2) 128 (.int 10)) (sZ σ + 2) 129 (.int 0)) (sZ σ + 2) 130 (.int 0)) (sZ σ + 2) 131 .null) a 209 (.ref (sZ σ + 2))) 4 20) (sZ σ + 3) 143 (.int (-1))) (sZ σ + 3) 128 (.int 0)) (sZ σ + 3) 129 (.int 1)) (sZ σ + 3) 130 (.int 0)) (sZ σ + 3) 131 .null) a 210 (.ref (sZ σ + 3))) a 210 = _
    exact hu47
  have k1 : sC (sU (sU (sU (sU (sU (sU (sN (sU (sU (sU (sU (sU (sU (sN (sU (sU (sU (sU (sU (sU (sN (sU (sU (sI1 (sZ1 (sU (sI1 (sZ1 σ 4) (sZ σ) (4, fun _ => 0)) a 196 (.ref (sZ σ))) 200) (sZ σ + 1) (200, fun _ => 0)) a 197 (.ref (sZ σ + 1))) a 192 (.ref sc)) 4 20) (sZ σ + 2) 143 (.int (-1))) (sZ σ + 2) 128 (.int 10)) (sZ σ + 2) 129 (.int 0)) (sZ σ + 2) 130 (.int 0)) (sZ σ + 2) 131 .null) a 209 (.ref (sZ σ + 2))) 4 20) (sZ σ + 3) 143 (.int (-1))) (sZ σ + 3) 128 (.int 0)) (sZ σ + 3) 129 (.int 1)) (sZ σ + 3) 130 (.int 0)) (sZ σ + 3) 131 .null) a 210 (.ref (sZ σ + 3))) 4 20) (sZ σ + 4) 143 (.int (-1))) (sZ σ + 4) 128 (.int 1)) (sZ σ + 4) 129 (.int 2)) (sZ σ + 4) 130 (.int 0)) (sZ σ + 4) 131 .null) a 211 (.ref (sZ σ + 4))) 4 (sZ σ + 3) = true := by
    show sC (sN (sU (sU (sU (sU (sU (sU (sN (sU (sU (sU (sU (sU (sU (sN (sU (sU (sI1 (sZ1 (sU (sI1 (sZ1 σ 4) (sZ σ) (4, fun _ => 0)) a 196 (.ref (sZ σ))) 200) (sZ σ + 1) (200, fun _ => 0)) a 197 (.ref (sZ σ + 1))) a 192 (.ref sc)) 4 20) (sZ σ + 2) 143 (.int (-1))) (sZ σ + 2) 128 (.int 10)) (sZ σ + 2) 129 (.int 0)) (sZ σ + 2) 130 (.int 0)) (sZ σ + 2) 131 .null) a 209 (.ref (sZ σ + 2))) 4 20) (sZ σ + 3) 143 (.int (-1))) (sZ σ + 3) 128 (.int 0)) (sZ σ + 3) 129 (.int 1)) (sZ σ + 3) 130 (.int 0)) (sZ σ + 3) 131 .null) a 210 (.ref (sZ σ + 3))) 4 20) 4 (sZ σ + 3) = true
    exact (sN_C (ci := 4) (n := 20) c_n3)
  have r2 : sF (sU (sU (sU (sU (sU (sU (sN (sU (sU (sU (sU (sU (sU (sN (sU (sU (sU (sU (sU (sU (sN (sU (sU (sI1 (sZ1 (sU (sI1 (sZ1 σ 4) (sZ σ) (4, fun _ => 0)) a 196 (.ref (sZ σ))) 200) (sZ σ + 1) (200, fun _ => 0)) a 197 (.ref (sZ σ + 1))) a 192 (.ref sc)) 4 20) (sZ σ + 2) 143 (.int (-1))) (sZ σ + 2) 128 (.int 10)) (sZ σ + 2) 129 (.int 0)) (sZ σ + 2) 130 (.int 0)) (sZ σ + 2) 131 .null) a 209 (.ref (sZ σ + 2))) 4 20) (sZ σ + 3) 143 (.int (-1))) (sZ σ + 3) 128 (.int 0)) (sZ σ + 3) 129 (.int 1)) (sZ σ + 3) 130 (.int 0)) (sZ σ + 3) 131 .null) a 210 (.ref (sZ σ + 3))) 4 20) (sZ σ + 4) 143 (.int (-1))) (sZ σ + 4) 128 (.int 1)) (sZ σ + 4) 129 (.int 2)) (sZ σ + 4) 130 (.int 0)) (sZ σ + 4) 131 .null) a 211 (.ref (sZ σ + 4))) a 211 = .ref (sZ σ + 4) := by
    show sF (sU (sU (sU (sU (sU (sU (sN (sU (sU (sU (sU (sU (sU (sN (sU (sU (sU (sU (sU (sU (sN (sU (sU (sI1 (sZ1 (sU (sI1 (sZ1 σ 4) (sZ σ) (4, fun _ => 0)) a 196 (.ref (sZ σ))) 200) (sZ σ + 1) (200, fun _ => 0)) a 197 (.ref (sZ σ + 1))) a 192 (.ref sc)) 4 20) (sZ σ + 2) 143 (.int (-1))) (sZ σ + 2) 128 (.int 10)) (sZ σ + 2) 129 (.int 0)) (sZ σ + 2) 130 (.int 0)) (sZ σ + 2) 131 .null) a 209 (.ref (sZ σ + 2))) 4 20) (sZ σ + 3) 143 (.int (-1))) (sZ σ + 3) 128 (.int 0)) (sZ σ + 3) 129 (.int 1)) (sZ σ + 3) 130 (.int 0)) (sZ σ + 3) 131 .null) a 210 (.ref (sZ σ + 3))) 4 20) (sZ σ + 4) 143 (.int (-1))) (sZ σ + 4) 128 (.int 1)) (sZ σ + 4) 129 (.int 2)) (sZ σ + 4) 130 (.int 0)) (sZ σ + 4) 131 .null) a 211 (.ref (sZ σ + 4))) a 211 = _
    exact hu48
  have k2 : sC (sU (sU (sU (sU (sU (sU (sN (sU (sU (sU (sU (sU (sU (sN (sU (sU (sU (sU (sU (sU (sN (sU (sU (sI1 (sZ1 (sU (sI1 (sZ1 σ 4) (sZ σ) (4, fun _ => 0)) a 196 (.ref (sZ σ))) 200) (sZ σ + 1) (200, fun _ => 0)) a 197 (.ref (sZ σ + 1))) a 192 (.ref sc)) 4 20) (sZ σ + 2) 143 (.int (-1))) (sZ σ + 2) 128 (.int 10)) (sZ σ + 2) 129 (.int 0)) (sZ σ + 2) 130 (.int 0)) (sZ σ + 2) 131 .null) a 209 (.ref (sZ σ + 2))) 4 20) (sZ σ + 3) 143 (.int (-1))) (sZ σ + 3) 128 (.int 0)) (sZ σ + 3) 129 (.int 1)) (sZ σ + 3) 130 (.int 0)) (sZ σ + 3) 131 .null) a 210 (.ref (sZ σ + 3))) 4 20) (sZ σ + 4) 143 (.int (-1))) (sZ σ + 4) 128 (.int 1)) (sZ σ + 4) 129 (.int 2)) (sZ σ + 4) 130 (.int 0)) (sZ σ + 4) 131 .null) a 211 (.ref (sZ σ + 4))) 4 (sZ σ + 4) = true := by
    show sC (sN (sU (sU (sU (sU (sU (sU (sN (sU (sU (sU (sU (sU (sU (sN (sU (sU (sI1 (sZ1 (sU (sI1 (sZ1 σ 4) (sZ σ) (4, fun _ => 0)) a 196 (.ref (sZ σ))) 200) (sZ σ + 1) (200, fun _ => 0)) a 197 (.ref (sZ σ + 1))) a 192 (.ref sc)) 4 20) (sZ σ + 2) 143 (.int (-1))) (sZ σ + 2) 128 (.int 10)) (sZ σ + 2) 129 (.int 0)) (sZ σ + 2) 130 (.int 0)) (sZ σ + 2) 131 .null) a 209 (.ref (sZ σ + 2))) 4 20) (sZ σ + 3) 143 (.int (-1))) (sZ σ + 3) 128 (.int 0)) (sZ σ + 3) 129 (.int 1)) (sZ σ + 3) 130 (.int 0)) (sZ σ + 3) 131 .null) a 210 (.ref (sZ σ + 3))) 4 20) 4 (sZ σ + 4) = true
    exact c_n4
  refine f_go (pc1 := 72) (lv1 := [(0, .ref a), (1, .ref sc)]) (st1 := [.ref a]) 1 rfl ?_
  refine f_getf rfl rfl (g := 209) rfl c_a r0 ?_
  refine f_go (pc1 := 76) (lv1 := [(0, .ref a), (1, .ref sc)]) (st1 := [.ref a, .ref (sZ σ + 2)]) 1 rfl ?_
  refine f_getf rfl rfl (g := 210) rfl c_a r1 ?_
  refine f_putf rfl rfl (g := 146) rfl k0 rfl ?_
  have hu49 : sF (sU (sU (sU (sU (sU (sU (sU (sN (sU (sU (sU (sU (sU (sU (sN (sU (sU (sU (sU (sU (sU (sN (sU (sU (sI1 (sZ1 (sU (sI1 (sZ1 σ 4) (sZ σ) (4, fun _ => 0)) a 196 (.ref (sZ σ))) 200) (sZ σ + 1) (200, fun _ => 0)) a 197 (.ref (sZ σ + 1))) a 192 (.ref sc)) 4 20) (sZ σ + 2) 143 (.int (-1))) (sZ σ + 2) 128 (.int 10)) (sZ σ + 2) 129 (.int 0)) (sZ σ + 2) 130 (.int 0)) (sZ σ + 2) 131 .null) a 209 (.ref (sZ σ + 2))) 4 20) (sZ σ + 3) 143 (.int (-1))) (sZ σ + 3) 128 (.int 0)) (sZ σ + 3) 129 (.int 1)) (sZ σ + 3) 130 (.int 0)) (sZ σ + 3) 131 .null) a 210 (.ref (sZ σ + 3))) 4 20) (sZ σ + 4) 143 (.int (-1))) (sZ σ + 4) 128 (.int 1)) (sZ σ + 4) 129 (.int 2)) (sZ σ + 4) 130 (.int 0)) (sZ σ + 4) 131 .null) a 211 (.ref (sZ σ + 4))) (sZ σ + 2) 146 (.ref (sZ σ + 3))) (sZ σ + 2) 146 = .ref (sZ σ + 3) := sU_at
  refine f_go (pc1 := 83) (lv1 := [(0, .ref a), (1, .ref sc)]) (st1 := [.ref a]) 1 rfl ?_
  refine f_getf rfl rfl (g := 210) rfl c_a r1 ?_
  refine f_go (pc1 := 87) (lv1 := [(0, .ref a), (1, .ref sc)]) (st1 := [.ref a, .ref (sZ σ + 3)]) 1 rfl ?_
  refine f_getf rfl rfl (g := 211) rfl c_a r2 ?_
  refine f_putf rfl rfl (g := 146) rfl k1 rfl ?_
  have hu50 : sF (sU (sU (sU (sU (sU (sU (sU (sU (sN (sU (sU (sU (sU (sU (sU (sN (sU (sU (sU (sU (sU (sU (sN (sU (sU (sI1 (sZ1 (sU (sI1 (sZ1 σ 4) (sZ σ) (4, fun _ => 0)) a 196 (.ref (sZ σ))) 200) (sZ σ + 1) (200, fun _ => 0)) a 197 (.ref (sZ σ + 1))) a 192 (.ref sc)) 4 20) (sZ σ + 2) 143 (.int (-1))) (sZ σ + 2) 128 (.int 10)) (sZ σ + 2) 129 (.int 0)) (sZ σ + 2) 130 (.int 0)) (sZ σ + 2) 131 .null) a 209 (.ref (sZ σ + 2))) 4 20) (sZ σ + 3) 143 (.int (-1))) (sZ σ + 3) 128 (.int 0)) (sZ σ + 3) 129 (.int 1)) (sZ σ + 3) 130 (.int 0)) (sZ σ + 3) 131 .null) a 210 (.ref (sZ σ + 3))) 4 20) (sZ σ + 4) 143 (.int (-1))) (sZ σ + 4) 128 (.int 1)) (sZ σ + 4) 129 (.int 2)) (sZ σ + 4) 130 (.int 0)) (sZ σ + 4) 131 .null) a 211 (.ref (sZ σ + 4))) (sZ σ + 2) 146 (.ref (sZ σ + 3))) (sZ σ + 3) 146 (.ref (sZ σ + 4))) (sZ σ + 3) 146 = .ref (sZ σ + 4) := sU_at
  refine f_go (pc1 := 95) (lv1 := [(0, .ref a), (1, .ref sc)]) (st1 := [.ref a, .ref a]) 2 rfl ?_
  refine f_getf rfl rfl (g := 211) rfl c_a r2 ?_
  refine f_putf rfl rfl (g := 205) rfl c_a rfl ?_
  have hu51 : sF (sU (sU (sU (sU (sU (sU (sU (sU (sU (sN (sU (sU (sU (sU (sU (sU (sN (sU (sU (sU (sU (sU (sU (sN (sU (sU (sI1 (sZ1 (sU (sI1 (sZ1 σ 4) (sZ σ) (4, fun _ => 0)) a 196 (.ref (sZ σ))) 200) (sZ σ + 1) (200, fun _ => 0)) a 197 (.ref (sZ σ + 1))) a 192 (.ref sc)) 4 20) (sZ σ + 2) 143 (.int (-1))) (sZ σ + 2) 128 (.int 10)) (sZ σ + 2) 129 (.int 0)) (sZ σ + 2) 130 (.int 0)) (sZ σ + 2) 131 .null) a 209 (.ref (sZ σ + 2))) 4 20) (sZ σ + 3) 143 (.int (-1))) (sZ σ + 3) 128 (.int 0)) (sZ σ + 3) 129 (.int 1)) (sZ σ + 3) 130 (.int 0)) (sZ σ + 3) 131 .null) a 210 (.ref (sZ σ + 3))) 4 20) (sZ σ + 4) 143 (.int (-1))) (sZ σ + 4) 128 (.int 1)) (sZ σ + 4) 129 (.int 2)) (sZ σ + 4) 130 (.int 0)) (sZ σ + 4) 131 .null) a 211 (.ref (sZ σ + 4))) (sZ σ + 2) 146 (.ref (sZ σ + 3))) (sZ σ + 3) 146 (.ref (sZ σ + 4))) a 205 (.ref (sZ σ + 4))) a 205 = .ref (sZ σ + 4) := sU_at
  exact f_rt rfl rfl
