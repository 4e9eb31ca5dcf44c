/-! the law up to read: what is drawn, the text fed -/
def LU (σ : fl_S) : Prop := sC σ 10 1 = true ∧ sC σ 7 3 = true ∧ sC σ 2 11 = true ∧ sF σ 1 320 = .ref 2 ∧ sF σ 1 322 = .ref 3 ∧ sF σ 1 323 = .ref 11 ∧ (sF σ 3 224 = .ref 4 ∧ sF σ 3 225 = .ref 5 ∧ sF σ 3 226 = .ref 6 ∧ sF σ 3 232 = .ref 7 ∧ sF σ 3 233 = .ref 8 ∧ sF σ 3 234 = .ref 9 ∧ sF σ 3 235 = .ref 10) ∧ ((∃ f, sI σ 4 = some (6001, f)) ∧ (∃ f, sI σ 5 = some (6001, f)) ∧ (∃ f, sI σ 6 = some (6001, f)) ∧ (∃ f, sI σ 7 = some (256, f)) ∧ (∃ f, sI σ 8 = some (3001, f)) ∧ (∃ f, sI σ 9 = some (3001, f)) ∧ (∃ f, sI σ 10 = some (3001, f))) ∧ sZ σ = 21
theorem TP_self {σ : fl_S} {x tp : Nat} {TB : Nat → Int32} (h1 : sF σ x 321 = .int (Int32.ofNat 0)) (h2 : sY σ tp = some (6000, TB)) : TP σ x tp 0 TB = σ := by
  unfold TP
  rw [sU_same h1]
  refine Prod.ext rfl (Prod.ext rfl (Prod.ext rfl (Prod.ext ?_ rfl)))
  funext b
  show aU (sY σ) tp (6000, TB) b = sY σ b
  unfold aU
  by_cases e : b = tp
  · subst e
    rw [nb_self, h2]
    rfl
  · rw [nb_ne e]
    rfl
theorem l_new {σ : fl_S} (hz : sZ σ = 1) : LU (luInitS (sN σ 10 5) 1) ∧ LTx (luInitS (sN σ 10 5) 1) 1 2 [] (luInitS (sN σ 10 5) 1) ∧ sI (luInitS (sN σ 10 5) 1) 0 = sI σ 0 ∧ sc (luInitS (sN σ 10 5) 1) ≤ sc σ + 100 ∧ ss (luInitS (sN σ 10 5) 1) ≤ ss σ + 100000 := by
  obtain ⟨C, F, I9, Y, R, z, c, s9⟩ := σ
  have hz : z = 1 := hz
  subst hz
  refine ⟨⟨rfl, rfl, rfl, rfl, rfl, rfl, ⟨rfl, rfl, rfl, rfl, rfl, rfl, rfl⟩, ⟨⟨_, rfl⟩, ⟨_, rfl⟩, ⟨_, rfl⟩, ⟨_, rfl⟩, ⟨_, rfl⟩, ⟨_, rfl⟩, ⟨_, rfl⟩⟩, rfl⟩, ⟨fun _ => 0, fun j x hx => by simp at hx, (TP_self rfl rfl).symm⟩, rfl, ?_, ?_⟩
  · show c + 1 + 1 + 1 + 1 + 1 + 1 + 1 + 1 + 1 + 1 + 1 + 1 + 1 + 1 + 1 + 1 + 1 + 1 + 1 + 1 ≤ c + 100
    omega
  · show s9 + 5 + 6000 + 13 + 6001 + 6001 + 6001 + 256 + 3001 + 3001 + 3001 + 19 + 5000 + 20000 + 2002 + 2001 + 2001 + 64 + 500 + 200 + 16000 ≤ s9 + 100000
    omega
theorem kwl_137 : okb 1229870149 1380335939 1159754811 173300048 1159752752 [73, 78, 84, 69, 82, 70, 65, 67, 69, 32, 116, 59, 10, 84, 89, 80, 69, 32, 108, 48] = true := by decide +kernel
theorem kwl_153 : okb 540876882 1330598944 1329744453 1129586790 809115721 [32, 61, 32, 82, 79, 79, 84, 32, 79, 66, 74, 69, 67, 84, 32, 102, 48, 58, 32, 73] = true := by decide +kernel
theorem kwl_168 : okb 1314145607 1163016992 1162757179 167772160 0 [78, 84, 69, 71, 69, 82, 59, 32, 69, 78, 68, 59, 10] = true := by decide +kernel
theorem kwl_191 : okb 1415139397 543948800 0 0 0 [84, 89, 80, 69, 32, 108] = true := by decide +kernel
theorem kwl_211 : okb 540876908 0 0 0 0 [32, 61, 32, 108] = true := by decide +kernel
theorem kwl_236 : okb 542065226 1162040352 1711276032 0 0 [32, 79, 66, 74, 69, 67, 84, 32, 102] = true := by decide +kernel
theorem kwl_260 : okb 975194446 1413826373 1379606597 1313094410 0 [58, 32, 73, 78, 84, 69, 71, 69, 82, 59, 32, 69, 78, 68, 59, 10] = true := by decide +kernel
theorem kwl_280 : okb 1415139397 544153660 975203328 0 0 [84, 89, 80, 69, 32, 111, 32, 60, 58, 32, 108] = true := by decide +kernel
theorem kwl_300 : okb 990511104 0 0 0 0 [59, 10] = true := by decide +kernel
theorem kwl_335 : okb 1162757152 1949174345 1314145618 1178682181 543636256 [69, 78, 68, 32, 116, 46, 10, 73, 78, 84, 69, 82, 70, 65, 67, 69, 32, 103, 59, 32] = true := by decide +kernel
theorem kwl_351 : okb 1229803599 1381245044 991973957 1447379276 544484975 [73, 77, 80, 79, 82, 84, 32, 116, 59, 32, 82, 69, 86, 69, 65, 76, 32, 116, 46, 111] = true := by decide +kernel
theorem kwl_364 : okb 540817952 1949199360 0 0 0 [32, 60, 58, 32, 116, 46, 108] = true := by decide +kernel
theorem kwl_389 : okb 991970638 1142974254 172576340 1163019841 1128603752 [59, 32, 69, 78, 68, 32, 103, 46, 10, 73, 78, 84, 69, 82, 70, 65, 67, 69, 32, 104] = true := by decide +kernel
theorem kwl_405 : okb 991971661 1347375700 544484384 1731928133 1313087592 [59, 32, 73, 77, 80, 79, 82, 84, 32, 116, 44, 32, 103, 59, 32, 69, 78, 68, 32, 104] = true := by decide +kernel
theorem kwl_421 : okb 772427087 1146440773 544488224 1380275781 1095508079 [46, 10, 77, 79, 68, 85, 76, 69, 32, 116, 59, 32, 82, 69, 86, 69, 65, 76, 32, 111] = true := by decide +kernel
theorem kwl_432 : okb 540876908 0 0 0 0 [32, 61, 32, 108] = true := by decide +kernel
theorem kwl_457 : okb 542065226 1162040352 2050629705 1314145607 1163016992 [32, 79, 66, 74, 69, 67, 84, 32, 122, 58, 32, 73, 78, 84, 69, 71, 69, 82, 59, 32] = true := by decide +kernel
theorem kwl_473 : okb 1162757179 541214023 1229856837 1313087604 772427087 [69, 78, 68, 59, 32, 66, 69, 71, 73, 78, 32, 69, 78, 68, 32, 116, 46, 10, 77, 79] = true := by decide +kernel
theorem kwl_489 : okb 1146440773 544553760 1229803599 1381245044 991969861 [68, 85, 76, 69, 32, 117, 59, 32, 73, 77, 80, 79, 82, 84, 32, 116, 59, 32, 66, 69] = true := by decide +kernel
theorem kwl_503 : okb 1195986464 1162757152 1965951488 0 0 [71, 73, 78, 32, 69, 78, 68, 32, 117, 46, 10] = true := by decide +kernel
set_option maxRecDepth 20000 in
theorem l_tail {X : ev_X} {d : Nat} {Q : Option Value → fl_S → Prop} (hd : 10 ≤ d) {L n m sh hi mo : Nat} {v w : Int32} (hD : DB L n m sh hi mo (bdL n v w)) {σ σ1 : fl_S} (c_x : sC σ 10 1 = true) (x_tape : sF σ 1 320 = .ref 2) (hS : LTx σ 1 2 (txS (txC L n m sh hi mo (bdL n v w)) (L + 2) 0) σ1)
    (next : ∀ σ2, LTx σ 1 2 (tx0 L n m sh hi mo (bdL n v w)) σ2 → EQ X d 125 506 [(10, .int (Int32.ofNat mo)), (9, .int (Int32.ofNat hi)), (8, .int (Int32.ofNat sh)), (7, .int (Int32.ofNat L)), (6, .int w), (5, .int v), (4, .int (Int32.ofNat m)), (3, .int (Int32.ofNat n)), (2, .ref 1)] [] σ2 Q) : EQ X d 125 303 [(10, .int (Int32.ofNat mo)), (9, .int (Int32.ofNat hi)), (8, .int (Int32.ofNat sh)), (7, .int (Int32.ofNat L)), (6, .int w), (5, .int v), (4, .int (Int32.ofNat m)), (3, .int (Int32.ofNat n)), (2, .ref 1)] [] σ1 Q := by
  obtain ⟨hL, hn, hm, g1, g2, g3, -⟩ := hD
  have hlen : (txS (txC L n m sh hi mo (bdL n v w)) (L + 2) 0).length ≤ 100 * (L + 2) := txS_le (fun c => txC_le) _ _
  refine f_go (pc1 := 309) (lv1 := [(10, .int (Int32.ofNat mo)), (9, .int (Int32.ofNat hi)), (8, .int (Int32.ofNat sh)), (7, .int (Int32.ofNat L)), (6, .int w), (5, .int v), (4, .int (Int32.ofNat m)), (3, .int (Int32.ofNat n)), (2, .ref 1)]) (st1 := [.int v, .int (Int32.ofNat n), .int 97, .ref 1]) 4 rfl ?_
  refine f_stQ rfl rfl rfl rfl (g_ring (nm := 97) (by omega) c_x x_tape hS (by omega) (by decide) (by omega) hn.2) ?_
  rintro r τ1 ⟨rfl, hS⟩
  show EQ _ _ 125 312 [(10, .int (Int32.ofNat mo)), (9, .int (Int32.ofNat hi)), (8, .int (Int32.ofNat sh)), (7, .int (Int32.ofNat L)), (6, .int w), (5, .int v), (4, .int (Int32.ofNat m)), (3, .int (Int32.ofNat n)), (2, .ref 1)] [] _ _
  rw [← tx_a n (Nat.le_refl n)] at hS
  have hlen : (txS (txC L n m sh hi mo (bdL n v w)) (L + 2 + n) 0).length ≤ 100 * (L + 2 + n) := txS_le (fun c => txC_le) _ _
  refine f_go (pc1 := 319) (lv1 := [(10, .int (Int32.ofNat mo)), (9, .int (Int32.ofNat hi)), (8, .int (Int32.ofNat sh)), (7, .int (Int32.ofNat L)), (6, .int w), (5, .int v), (4, .int (Int32.ofNat m)), (3, .int (Int32.ofNat n)), (2, .ref 1)]) (st1 := [.int w, .int (Int32.ofNat m), .int 98, .ref 1]) 4 rfl ?_
  refine f_stQ rfl rfl rfl rfl (g_ring (nm := 98) (by omega) c_x x_tape hS (by omega) (by decide) (by omega) hm.2) ?_
  rintro r τ2 ⟨rfl, hS⟩
  show EQ _ _ 125 322 [(10, .int (Int32.ofNat mo)), (9, .int (Int32.ofNat hi)), (8, .int (Int32.ofNat sh)), (7, .int (Int32.ofNat L)), (6, .int w), (5, .int v), (4, .int (Int32.ofNat m)), (3, .int (Int32.ofNat n)), (2, .ref 1)] [] _ _
  rw [← tx_b m (Nat.le_refl m)] at hS
  have hlen : (txS (txC L n m sh hi mo (bdL n v w)) (L + 2 + n + m) 0).length ≤ 100 * (L + 2 + n + m) := txS_le (fun c => txC_le) _ _
  refine f_go (pc1 := 325) (lv1 := [(10, .int (Int32.ofNat mo)), (9, .int (Int32.ofNat hi)), (8, .int (Int32.ofNat sh)), (7, .int (Int32.ofNat L)), (6, .int w), (5, .int v), (4, .int (Int32.ofNat m)), (3, .int (Int32.ofNat n)), (2, .ref 1)]) (st1 := [.int 20, .ref 1]) 2 rfl ?_
  refine f_ldc rfl ?_
  refine f_ldc rfl ?_
  refine f_ldc rfl ?_
  refine f_ldc rfl ?_
  refine f_ldc rfl ?_
  refine f_stQ rfl rfl rfl rfl (g_put (n := 20) (by omega) c_x x_tape hS (by first | omega | (simp only [List.length_append, List.length_cons, List.length_nil]; omega)) kwl_335 rfl) ?_
  rintro r τ3 ⟨rfl, hS⟩
  show EQ _ _ 125 338 [(10, .int (Int32.ofNat mo)), (9, .int (Int32.ofNat hi)), (8, .int (Int32.ofNat sh)), (7, .int (Int32.ofNat L)), (6, .int w), (5, .int v), (4, .int (Int32.ofNat m)), (3, .int (Int32.ofNat n)), (2, .ref 1)] [] _ _
  refine f_go (pc1 := 341) (lv1 := [(10, .int (Int32.ofNat mo)), (9, .int (Int32.ofNat hi)), (8, .int (Int32.ofNat sh)), (7, .int (Int32.ofNat L)), (6, .int w), (5, .int v), (4, .int (Int32.ofNat m)), (3, .int (Int32.ofNat n)), (2, .ref 1)]) (st1 := [.int 20, .ref 1]) 2 rfl ?_
  refine f_ldc rfl ?_
  refine f_ldc rfl ?_
  refine f_ldc rfl ?_
  refine f_ldc rfl ?_
  refine f_ldc rfl ?_
  refine f_stQ rfl rfl rfl rfl (g_put (n := 20) (by omega) c_x x_tape hS (by first | omega | (simp only [List.length_append, List.length_cons, List.length_nil]; omega)) kwl_351 rfl) ?_
  rintro r τ4 ⟨rfl, hS⟩
  show EQ _ _ 125 354 [(10, .int (Int32.ofNat mo)), (9, .int (Int32.ofNat hi)), (8, .int (Int32.ofNat sh)), (7, .int (Int32.ofNat L)), (6, .int w), (5, .int v), (4, .int (Int32.ofNat m)), (3, .int (Int32.ofNat n)), (2, .ref 1)] [] _ _
  refine f_go (pc1 := 357) (lv1 := [(10, .int (Int32.ofNat mo)), (9, .int (Int32.ofNat hi)), (8, .int (Int32.ofNat sh)), (7, .int (Int32.ofNat L)), (6, .int w), (5, .int v), (4, .int (Int32.ofNat m)), (3, .int (Int32.ofNat n)), (2, .ref 1)]) (st1 := [.int 7, .ref 1]) 2 rfl ?_
  refine f_ldc rfl ?_
  refine f_ldc rfl ?_
  refine f_go (pc1 := 364) (lv1 := [(10, .int (Int32.ofNat mo)), (9, .int (Int32.ofNat hi)), (8, .int (Int32.ofNat sh)), (7, .int (Int32.ofNat L)), (6, .int w), (5, .int v), (4, .int (Int32.ofNat m)), (3, .int (Int32.ofNat n)), (2, .ref 1)]) (st1 := [.int 0, .int 0, .int 0, .int 1949199360, .int 540817952, .int 7, .ref 1]) 3 rfl ?_
  refine f_stQ rfl rfl rfl rfl (g_put (n := 7) (by omega) c_x x_tape hS (by first | omega | (simp only [List.length_append, List.length_cons, List.length_nil]; omega)) kwl_364 rfl) ?_
  rintro r τ5 ⟨rfl, hS⟩
  show EQ _ _ 125 367 [(10, .int (Int32.ofNat mo)), (9, .int (Int32.ofNat hi)), (8, .int (Int32.ofNat sh)), (7, .int (Int32.ofNat L)), (6, .int w), (5, .int v), (4, .int (Int32.ofNat m)), (3, .int (Int32.ofNat n)), (2, .ref 1)] [] _ _
  refine f_go (pc1 := 373) (lv1 := [(10, .int (Int32.ofNat mo)), (9, .int (Int32.ofNat hi)), (8, .int (Int32.ofNat sh)), (7, .int (Int32.ofNat L)), (6, .int w), (5, .int v), (4, .int (Int32.ofNat m)), (3, .int (Int32.ofNat n)), (2, .ref 1)]) (st1 := [.int (48 + (Int32.ofNat mo)), .ref 1]) 4 rfl ?_
  rw [show (48 : Int32) + Int32.ofNat mo = Int32.ofNat (48 + mo) from (Int32.ofNat_add 48 mo).symm]
  refine f_stQ rfl rfl rfl rfl (g_sign (c := (48 + mo)) (by omega) c_x x_tape hS (by first | omega | (simp only [List.length_append, List.length_cons, List.length_nil]; omega)) (by omega)) ?_
  rintro r τ6 ⟨rfl, hS⟩
  show EQ _ _ 125 376 [(10, .int (Int32.ofNat mo)), (9, .int (Int32.ofNat hi)), (8, .int (Int32.ofNat sh)), (7, .int (Int32.ofNat L)), (6, .int w), (5, .int v), (4, .int (Int32.ofNat m)), (3, .int (Int32.ofNat n)), (2, .ref 1)] [] _ _
  refine f_go (pc1 := 379) (lv1 := [(10, .int (Int32.ofNat mo)), (9, .int (Int32.ofNat hi)), (8, .int (Int32.ofNat sh)), (7, .int (Int32.ofNat L)), (6, .int w), (5, .int v), (4, .int (Int32.ofNat m)), (3, .int (Int32.ofNat n)), (2, .ref 1)]) (st1 := [.int 20, .ref 1]) 2 rfl ?_
  refine f_ldc rfl ?_
  refine f_ldc rfl ?_
  refine f_ldc rfl ?_
  refine f_ldc rfl ?_
  refine f_ldc rfl ?_
  refine f_stQ rfl rfl rfl rfl (g_put (n := 20) (by omega) c_x x_tape hS (by first | omega | (simp only [List.length_append, List.length_cons, List.length_nil]; omega)) kwl_389 rfl) ?_
  rintro r τ7 ⟨rfl, hS⟩
  show EQ _ _ 125 392 [(10, .int (Int32.ofNat mo)), (9, .int (Int32.ofNat hi)), (8, .int (Int32.ofNat sh)), (7, .int (Int32.ofNat L)), (6, .int w), (5, .int v), (4, .int (Int32.ofNat m)), (3, .int (Int32.ofNat n)), (2, .ref 1)] [] _ _
  refine f_go (pc1 := 395) (lv1 := [(10, .int (Int32.ofNat mo)), (9, .int (Int32.ofNat hi)), (8, .int (Int32.ofNat sh)), (7, .int (Int32.ofNat L)), (6, .int w), (5, .int v), (4, .int (Int32.ofNat m)), (3, .int (Int32.ofNat n)), (2, .ref 1)]) (st1 := [.int 20, .ref 1]) 2 rfl ?_
  refine f_ldc rfl ?_
  refine f_ldc rfl ?_
  refine f_ldc rfl ?_
  refine f_ldc rfl ?_
  refine f_ldc rfl ?_
  refine f_stQ rfl rfl rfl rfl (g_put (n := 20) (by omega) c_x x_tape hS (by first | omega | (simp only [List.length_append, List.length_cons, List.length_nil]; omega)) kwl_405 rfl) ?_
  rintro r τ8 ⟨rfl, hS⟩
  show EQ _ _ 125 408 [(10, .int (Int32.ofNat mo)), (9, .int (Int32.ofNat hi)), (8, .int (Int32.ofNat sh)), (7, .int (Int32.ofNat L)), (6, .int w), (5, .int v), (4, .int (Int32.ofNat m)), (3, .int (Int32.ofNat n)), (2, .ref 1)] [] _ _
  refine f_go (pc1 := 411) (lv1 := [(10, .int (Int32.ofNat mo)), (9, .int (Int32.ofNat hi)), (8, .int (Int32.ofNat sh)), (7, .int (Int32.ofNat L)), (6, .int w), (5, .int v), (4, .int (Int32.ofNat m)), (3, .int (Int32.ofNat n)), (2, .ref 1)]) (st1 := [.int 20, .ref 1]) 2 rfl ?_
  refine f_ldc rfl ?_
  refine f_ldc rfl ?_
  refine f_ldc rfl ?_
  refine f_ldc rfl ?_
  refine f_ldc rfl ?_
  refine f_stQ rfl rfl rfl rfl (g_put (n := 20) (by omega) c_x x_tape hS (by first | omega | (simp only [List.length_append, List.length_cons, List.length_nil]; omega)) kwl_421 rfl) ?_
  rintro r τ9 ⟨rfl, hS⟩
  show EQ _ _ 125 424 [(10, .int (Int32.ofNat mo)), (9, .int (Int32.ofNat hi)), (8, .int (Int32.ofNat sh)), (7, .int (Int32.ofNat L)), (6, .int w), (5, .int v), (4, .int (Int32.ofNat m)), (3, .int (Int32.ofNat n)), (2, .ref 1)] [] _ _
  refine f_go (pc1 := 426) (lv1 := [(10, .int (Int32.ofNat mo)), (9, .int (Int32.ofNat hi)), (8, .int (Int32.ofNat sh)), (7, .int (Int32.ofNat L)), (6, .int w), (5, .int v), (4, .int (Int32.ofNat m)), (3, .int (Int32.ofNat n)), (2, .ref 1)]) (st1 := [.int 4, .ref 1]) 2 rfl ?_
  refine f_ldc rfl ?_
  refine f_go (pc1 := 432) (lv1 := [(10, .int (Int32.ofNat mo)), (9, .int (Int32.ofNat hi)), (8, .int (Int32.ofNat sh)), (7, .int (Int32.ofNat L)), (6, .int w), (5, .int v), (4, .int (Int32.ofNat m)), (3, .int (Int32.ofNat n)), (2, .ref 1)]) (st1 := [.int 0, .int 0, .int 0, .int 0, .int 540876908, .int 4, .ref 1]) 4 rfl ?_
  refine f_stQ rfl rfl rfl rfl (g_put (n := 4) (by omega) c_x x_tape hS (by first | omega | (simp only [List.length_append, List.length_cons, List.length_nil]; omega)) kwl_432 rfl) ?_
  rintro r τ10 ⟨rfl, hS⟩
  show EQ _ _ 125 435 [(10, .int (Int32.ofNat mo)), (9, .int (Int32.ofNat hi)), (8, .int (Int32.ofNat sh)), (7, .int (Int32.ofNat L)), (6, .int w), (5, .int v), (4, .int (Int32.ofNat m)), (3, .int (Int32.ofNat n)), (2, .ref 1)] [] _ _
  refine f_go (pc1 := 441) (lv1 := [(10, .int (Int32.ofNat mo)), (9, .int (Int32.ofNat hi)), (8, .int (Int32.ofNat sh)), (7, .int (Int32.ofNat L)), (6, .int w), (5, .int v), (4, .int (Int32.ofNat m)), (3, .int (Int32.ofNat n)), (2, .ref 1)]) (st1 := [.int (48 + (Int32.ofNat hi)), .ref 1]) 4 rfl ?_
  rw [show (48 : Int32) + Int32.ofNat hi = Int32.ofNat (48 + hi) from (Int32.ofNat_add 48 hi).symm]
  refine f_stQ rfl rfl rfl rfl (g_sign (c := (48 + hi)) (by omega) c_x x_tape hS (by first | omega | (simp only [List.length_append, List.length_cons, List.length_nil]; omega)) (by omega)) ?_
  rintro r τ11 ⟨rfl, hS⟩
  show EQ _ _ 125 444 [(10, .int (Int32.ofNat mo)), (9, .int (Int32.ofNat hi)), (8, .int (Int32.ofNat sh)), (7, .int (Int32.ofNat L)), (6, .int w), (5, .int v), (4, .int (Int32.ofNat m)), (3, .int (Int32.ofNat n)), (2, .ref 1)] [] _ _
  refine f_go (pc1 := 447) (lv1 := [(10, .int (Int32.ofNat mo)), (9, .int (Int32.ofNat hi)), (8, .int (Int32.ofNat sh)), (7, .int (Int32.ofNat L)), (6, .int w), (5, .int v), (4, .int (Int32.ofNat m)), (3, .int (Int32.ofNat n)), (2, .ref 1)]) (st1 := [.int 20, .ref 1]) 2 rfl ?_
  refine f_ldc rfl ?_
  refine f_ldc rfl ?_
  refine f_ldc rfl ?_
  refine f_ldc rfl ?_
  refine f_ldc rfl ?_
  refine f_stQ rfl rfl rfl rfl (g_put (n := 20) (by omega) c_x x_tape hS (by first | omega | (simp only [List.length_append, List.length_cons, List.length_nil]; omega)) kwl_457 rfl) ?_
  rintro r τ12 ⟨rfl, hS⟩
  show EQ _ _ 125 460 [(10, .int (Int32.ofNat mo)), (9, .int (Int32.ofNat hi)), (8, .int (Int32.ofNat sh)), (7, .int (Int32.ofNat L)), (6, .int w), (5, .int v), (4, .int (Int32.ofNat m)), (3, .int (Int32.ofNat n)), (2, .ref 1)] [] _ _
  refine f_go (pc1 := 463) (lv1 := [(10, .int (Int32.ofNat mo)), (9, .int (Int32.ofNat hi)), (8, .int (Int32.ofNat sh)), (7, .int (Int32.ofNat L)), (6, .int w), (5, .int v), (4, .int (Int32.ofNat m)), (3, .int (Int32.ofNat n)), (2, .ref 1)]) (st1 := [.int 20, .ref 1]) 2 rfl ?_
  refine f_ldc rfl ?_
  refine f_ldc rfl ?_
  refine f_ldc rfl ?_
  refine f_ldc rfl ?_
  refine f_ldc rfl ?_
  refine f_stQ rfl rfl rfl rfl (g_put (n := 20) (by omega) c_x x_tape hS (by first | omega | (simp only [List.length_append, List.length_cons, List.length_nil]; omega)) kwl_473 rfl) ?_
  rintro r τ13 ⟨rfl, hS⟩
  show EQ _ _ 125 476 [(10, .int (Int32.ofNat mo)), (9, .int (Int32.ofNat hi)), (8, .int (Int32.ofNat sh)), (7, .int (Int32.ofNat L)), (6, .int w), (5, .int v), (4, .int (Int32.ofNat m)), (3, .int (Int32.ofNat n)), (2, .ref 1)] [] _ _
  refine f_go (pc1 := 479) (lv1 := [(10, .int (Int32.ofNat mo)), (9, .int (Int32.ofNat hi)), (8, .int (Int32.ofNat sh)), (7, .int (Int32.ofNat L)), (6, .int w), (5, .int v), (4, .int (Int32.ofNat m)), (3, .int (Int32.ofNat n)), (2, .ref 1)]) (st1 := [.int 20, .ref 1]) 2 rfl ?_
  refine f_ldc rfl ?_
  refine f_ldc rfl ?_
  refine f_ldc rfl ?_
  refine f_ldc rfl ?_
  refine f_ldc rfl ?_
  refine f_stQ rfl rfl rfl rfl (g_put (n := 20) (by omega) c_x x_tape hS (by first | omega | (simp only [List.length_append, List.length_cons, List.length_nil]; omega)) kwl_489 rfl) ?_
  rintro r τ14 ⟨rfl, hS⟩
  show EQ _ _ 125 492 [(10, .int (Int32.ofNat mo)), (9, .int (Int32.ofNat hi)), (8, .int (Int32.ofNat sh)), (7, .int (Int32.ofNat L)), (6, .int w), (5, .int v), (4, .int (Int32.ofNat m)), (3, .int (Int32.ofNat n)), (2, .ref 1)] [] _ _
  refine f_go (pc1 := 495) (lv1 := [(10, .int (Int32.ofNat mo)), (9, .int (Int32.ofNat hi)), (8, .int (Int32.ofNat sh)), (7, .int (Int32.ofNat L)), (6, .int w), (5, .int v), (4, .int (Int32.ofNat m)), (3, .int (Int32.ofNat n)), (2, .ref 1)]) (st1 := [.int 11, .ref 1]) 2 rfl ?_
  refine f_ldc rfl ?_
  refine f_ldc rfl ?_
  refine f_ldc rfl ?_
  refine f_go (pc1 := 503) (lv1 := [(10, .int (Int32.ofNat mo)), (9, .int (Int32.ofNat hi)), (8, .int (Int32.ofNat sh)), (7, .int (Int32.ofNat L)), (6, .int w), (5, .int v), (4, .int (Int32.ofNat m)), (3, .int (Int32.ofNat n)), (2, .ref 1)]) (st1 := [.int 0, .int 0, .int 1965951488, .int 1162757152, .int 1195986464, .int 11, .ref 1]) 2 rfl ?_
  refine f_stQ rfl rfl rfl rfl (g_put (n := 11) (by omega) c_x x_tape hS (by first | omega | (simp only [List.length_append, List.length_cons, List.length_nil]; omega)) kwl_503 rfl) ?_
  rintro r τ15 ⟨rfl, hS⟩
  show EQ _ _ 125 506 [(10, .int (Int32.ofNat mo)), (9, .int (Int32.ofNat hi)), (8, .int (Int32.ofNat sh)), (7, .int (Int32.ofNat L)), (6, .int w), (5, .int v), (4, .int (Int32.ofNat m)), (3, .int (Int32.ofNat n)), (2, .ref 1)] [] _ _
  refine next _ ?_
  have e : tx0 L n m sh hi mo (bdL n v w) = txS (txC L n m sh hi mo (bdL n v w)) (L + 2 + n + m) 0 ++ [69, 78, 68, 32, 116, 46, 10, 73, 78, 84, 69, 82, 70, 65, 67, 69, 32, 103, 59, 32] ++ [73, 77, 80, 79, 82, 84, 32, 116, 59, 32, 82, 69, 86, 69, 65, 76, 32, 116, 46, 111] ++ [32, 60, 58, 32, 116, 46, 108] ++ [48 + mo] ++ [59, 32, 69, 78, 68, 32, 103, 46, 10, 73, 78, 84, 69, 82, 70, 65, 67, 69, 32, 104] ++ [59, 32, 73, 77, 80, 79, 82, 84, 32, 116, 44, 32, 103, 59, 32, 69, 78, 68, 32, 104] ++ [46, 10, 77, 79, 68, 85, 76, 69, 32, 116, 59, 32, 82, 69, 86, 69, 65, 76, 32, 111] ++ [32, 61, 32, 108] ++ [48 + hi] ++ [32, 79, 66, 74, 69, 67, 84, 32, 122, 58, 32, 73, 78, 84, 69, 71, 69, 82, 59, 32] ++ [69, 78, 68, 59, 32, 66, 69, 71, 73, 78, 32, 69, 78, 68, 32, 116, 46, 10, 77, 79] ++ [68, 85, 76, 69, 32, 117, 59, 32, 73, 77, 80, 79, 82, 84, 32, 116, 59, 32, 66, 69] ++ [71, 73, 78, 32, 69, 78, 68, 32, 117, 46, 10] := by
    unfold tx0
    rw [tx_t, show L + 2 + (n + m) = L + 2 + n + m by omega]
    simp only [List.append_assoc]
    exact congrArg (fun q => txS (txC L n m sh hi mo (bdL n v w)) (L + 2 + n + m) 0 ++ q) rfl
  rw [e]
  exact hS
theorem l_head {X : ev_X} {d : Nat} {Q : Option Value → fl_S → Prop} (hd : 10 ≤ d) {L n m sh hi mo : Nat} {v w : Int32} (hD : DB L n m sh hi mo (bdL n v w)) {σ σ1 : fl_S} (c_x : sC σ 10 1 = true) (x_tape : sF σ 1 320 = .ref 2) (hS : LTx σ 1 2 [] σ1)
    (next : ∀ σ2, LTx σ 1 2 (txS (txC L n m sh hi mo (bdL n v w)) (L + 2) 0) σ2 → EQ X d 125 303 [(10, .int (Int32.ofNat mo)), (9, .int (Int32.ofNat hi)), (8, .int (Int32.ofNat sh)), (7, .int (Int32.ofNat L)), (6, .int w), (5, .int v), (4, .int (Int32.ofNat m)), (3, .int (Int32.ofNat n)), (2, .ref 1)] [] σ2 Q) : EQ X d 125 124 [(10, .int (Int32.ofNat mo)), (9, .int (Int32.ofNat hi)), (8, .int (Int32.ofNat sh)), (7, .int (Int32.ofNat L)), (6, .int w), (5, .int v), (4, .int (Int32.ofNat m)), (3, .int (Int32.ofNat n)), (2, .ref 1)] [] σ1 Q := by
  obtain ⟨hL, hn, hm, g1, g2, g3, -⟩ := hD
  have fin : ∀ (lv1 : ev_L) (τ : fl_S), LTx σ 1 2 (txS (txC L n m sh hi mo (bdL n v w)) (L + 1) 0) τ → lvK [(10, .int (Int32.ofNat mo)), (9, .int (Int32.ofNat hi)), (8, .int (Int32.ofNat sh)), (7, .int (Int32.ofNat L)), (6, .int w), (5, .int v), (4, .int (Int32.ofNat m)), (3, .int (Int32.ofNat n)), (2, .ref 1)] lv1 → EQ X d 125 269 lv1 [] τ Q := by
    intro lv1 τ hS hlv
    have hlen : (txS (txC L n m sh hi mo (bdL n v w)) (L + 1) 0).length ≤ 100 * (L + 1) := txS_le (fun c => txC_le) _ _
    refine f_lv [(10, .int (Int32.ofNat mo)), (9, .int (Int32.ofNat hi)), (8, .int (Int32.ofNat sh)), (7, .int (Int32.ofNat L)), (6, .int w), (5, .int v), (4, .int (Int32.ofNat m)), (3, .int (Int32.ofNat n)), (2, .ref 1)] hlv ?_
    refine f_go (pc1 := 272) (lv1 := [(10, .int (Int32.ofNat mo)), (9, .int (Int32.ofNat hi)), (8, .int (Int32.ofNat sh)), (7, .int (Int32.ofNat L)), (6, .int w), (5, .int v), (4, .int (Int32.ofNat m)), (3, .int (Int32.ofNat n)), (2, .ref 1)]) (st1 := [.int 11, .ref 1]) 2 rfl ?_
    refine f_ldc rfl ?_
    refine f_ldc rfl ?_
    refine f_ldc rfl ?_
    refine f_go (pc1 := 280) (lv1 := [(10, .int (Int32.ofNat mo)), (9, .int (Int32.ofNat hi)), (8, .int (Int32.ofNat sh)), (7, .int (Int32.ofNat L)), (6, .int w), (5, .int v), (4, .int (Int32.ofNat m)), (3, .int (Int32.ofNat n)), (2, .ref 1)]) (st1 := [.int 0, .int 0, .int 975203328, .int 544153660, .int 1415139397, .int 11, .ref 1]) 2 rfl ?_
    refine f_stQ rfl rfl rfl rfl (g_put (n := 11) (by omega) c_x x_tape hS (by first | omega | (simp only [List.length_append, List.length_cons, List.length_nil]; omega)) kwl_280 rfl) ?_
    rintro r τ16 ⟨rfl, hS⟩
    show EQ _ _ 125 283 [(10, .int (Int32.ofNat mo)), (9, .int (Int32.ofNat hi)), (8, .int (Int32.ofNat sh)), (7, .int (Int32.ofNat L)), (6, .int w), (5, .int v), (4, .int (Int32.ofNat m)), (3, .int (Int32.ofNat n)), (2, .ref 1)] [] _ _
    refine f_go (pc1 := 289) (lv1 := [(10, .int (Int32.ofNat mo)), (9, .int (Int32.ofNat hi)), (8, .int (Int32.ofNat sh)), (7, .int (Int32.ofNat L)), (6, .int w), (5, .int v), (4, .int (Int32.ofNat m)), (3, .int (Int32.ofNat n)), (2, .ref 1)]) (st1 := [.int (48 + (Int32.ofNat sh)), .ref 1]) 4 rfl ?_
    rw [show (48 : Int32) + Int32.ofNat sh = Int32.ofNat (48 + sh) from (Int32.ofNat_add 48 sh).symm]
    refine f_stQ rfl rfl rfl rfl (g_sign (c := (48 + sh)) (by omega) c_x x_tape hS (by first | omega | (simp only [List.length_append, List.length_cons, List.length_nil]; omega)) (by omega)) ?_
    rintro r τ17 ⟨rfl, hS⟩
    show EQ _ _ 125 292 [(10, .int (Int32.ofNat mo)), (9, .int (Int32.ofNat hi)), (8, .int (Int32.ofNat sh)), (7, .int (Int32.ofNat L)), (6, .int w), (5, .int v), (4, .int (Int32.ofNat m)), (3, .int (Int32.ofNat n)), (2, .ref 1)] [] _ _
    refine f_go (pc1 := 294) (lv1 := [(10, .int (Int32.ofNat mo)), (9, .int (Int32.ofNat hi)), (8, .int (Int32.ofNat sh)), (7, .int (Int32.ofNat L)), (6, .int w), (5, .int v), (4, .int (Int32.ofNat m)), (3, .int (Int32.ofNat n)), (2, .ref 1)]) (st1 := [.int 2, .ref 1]) 2 rfl ?_
    refine f_ldc rfl ?_
    refine f_go (pc1 := 300) (lv1 := [(10, .int (Int32.ofNat mo)), (9, .int (Int32.ofNat hi)), (8, .int (Int32.ofNat sh)), (7, .int (Int32.ofNat L)), (6, .int w), (5, .int v), (4, .int (Int32.ofNat m)), (3, .int (Int32.ofNat n)), (2, .ref 1)]) (st1 := [.int 0, .int 0, .int 0, .int 0, .int 990511104, .int 2, .ref 1]) 4 rfl ?_
    refine f_stQ rfl rfl rfl rfl (g_put (n := 2) (by omega) c_x x_tape hS (by first | omega | (simp only [List.length_append, List.length_cons, List.length_nil]; omega)) kwl_300 rfl) ?_
    rintro r τ18 ⟨rfl, hS⟩
    show EQ _ _ 125 303 [(10, .int (Int32.ofNat mo)), (9, .int (Int32.ofNat hi)), (8, .int (Int32.ofNat sh)), (7, .int (Int32.ofNat L)), (6, .int w), (5, .int v), (4, .int (Int32.ofNat m)), (3, .int (Int32.ofNat n)), (2, .ref 1)] [] _ _
    refine next _ ?_
    have e : txS (txC L n m sh hi mo (bdL n v w)) (L + 2) 0 = txS (txC L n m sh hi mo (bdL n v w)) (L + 1) 0 ++ [84, 89, 80, 69, 32, 111, 32, 60, 58, 32, 108] ++ [48 + sh] ++ [59, 10] := by
      rw [show L + 2 = L + 1 + 1 by omega, txS_sn, Nat.zero_add, txC_o]
      simp only [List.append_assoc]
      rfl
    rw [e]
    exact hS
  have key : ∀ (j k : Nat) (lv1 : ev_L) (τ : fl_S), k + j = L → 1 ≤ k → LTx σ 1 2 (txS (txC L n m sh hi mo (bdL n v w)) (k + 1) 0) τ → lvK [(11, .int (Int32.ofNat k)), (10, .int (Int32.ofNat mo)), (9, .int (Int32.ofNat hi)), (8, .int (Int32.ofNat sh)), (7, .int (Int32.ofNat L)), (6, .int w), (5, .int v), (4, .int (Int32.ofNat m)), (3, .int (Int32.ofNat n)), (2, .ref 1)] lv1 → EQ X d 125 174 lv1 [] τ Q := by
    intro j
    induction j with
    | zero =>
      intro k lv1 τ hk h1 hS hlv
      have hk : k = L := hk
      refine f_lv [(11, .int (Int32.ofNat k)), (10, .int (Int32.ofNat mo)), (9, .int (Int32.ofNat hi)), (8, .int (Int32.ofNat sh)), (7, .int (Int32.ofNat L)), (6, .int w), (5, .int v), (4, .int (Int32.ofNat m)), (3, .int (Int32.ofNat n)), (2, .ref 1)] hlv ?_
      refine f_go (pc1 := 178) (lv1 := [(11, .int (Int32.ofNat k)), (10, .int (Int32.ofNat mo)), (9, .int (Int32.ofNat hi)), (8, .int (Int32.ofNat sh)), (7, .int (Int32.ofNat L)), (6, .int w), (5, .int v), (4, .int (Int32.ofNat m)), (3, .int (Int32.ofNat n)), (2, .ref 1)]) (st1 := [.int (Int32.ofNat L), .int (Int32.ofNat k)]) 2 rfl ?_
      refine f_icmp (t := 269) rfl rfl true (nat_geT (by omega) (by omega) (by omega)) ?_
      rw [hk] at hS
      exact fin _ _ hS (fl_c rfl (fl_c rfl (fl_c rfl (fl_c rfl (fl_c rfl (fl_c rfl (fl_c rfl (fl_c rfl (fl_c rfl fl_0)))))))))
    | succ j ih =>
      intro k lv1 τ hk h1 hS hlv
      have hlen : (txS (txC L n m sh hi mo (bdL n v w)) (k + 1) 0).length ≤ 100 * (k + 1) := txS_le (fun c => txC_le) _ _
      refine f_lv [(11, .int (Int32.ofNat k)), (10, .int (Int32.ofNat mo)), (9, .int (Int32.ofNat hi)), (8, .int (Int32.ofNat sh)), (7, .int (Int32.ofNat L)), (6, .int w), (5, .int v), (4, .int (Int32.ofNat m)), (3, .int (Int32.ofNat n)), (2, .ref 1)] hlv ?_
      refine f_go (pc1 := 178) (lv1 := [(11, .int (Int32.ofNat k)), (10, .int (Int32.ofNat mo)), (9, .int (Int32.ofNat hi)), (8, .int (Int32.ofNat sh)), (7, .int (Int32.ofNat L)), (6, .int w), (5, .int v), (4, .int (Int32.ofNat m)), (3, .int (Int32.ofNat n)), (2, .ref 1)]) (st1 := [.int (Int32.ofNat L), .int (Int32.ofNat k)]) 2 rfl ?_
      refine f_icmp (t := 269) rfl rfl false (nat_lt (by omega) (by omega) (by omega)) ?_
      refine f_go (pc1 := 184) (lv1 := [(11, .int (Int32.ofNat k)), (10, .int (Int32.ofNat mo)), (9, .int (Int32.ofNat hi)), (8, .int (Int32.ofNat sh)), (7, .int (Int32.ofNat L)), (6, .int w), (5, .int v), (4, .int (Int32.ofNat m)), (3, .int (Int32.ofNat n)), (2, .ref 1)]) (st1 := [.int 6, .ref 1]) 2 rfl ?_
      refine f_ldc rfl ?_
      refine f_ldc rfl ?_
      refine f_go (pc1 := 191) (lv1 := [(11, .int (Int32.ofNat k)), (10, .int (Int32.ofNat mo)), (9, .int (Int32.ofNat hi)), (8, .int (Int32.ofNat sh)), (7, .int (Int32.ofNat L)), (6, .int w), (5, .int v), (4, .int (Int32.ofNat m)), (3, .int (Int32.ofNat n)), (2, .ref 1)]) (st1 := [.int 0, .int 0, .int 0, .int 543948800, .int 1415139397, .int 6, .ref 1]) 3 rfl ?_
      refine f_stQ rfl rfl rfl rfl (g_put (n := 6) (by omega) c_x x_tape hS (by first | omega | (simp only [List.length_append, List.length_cons, List.length_nil]; omega)) kwl_191 rfl) ?_
      rintro r τ19 ⟨rfl, hS⟩
      show EQ _ _ 125 194 [(11, .int (Int32.ofNat k)), (10, .int (Int32.ofNat mo)), (9, .int (Int32.ofNat hi)), (8, .int (Int32.ofNat sh)), (7, .int (Int32.ofNat L)), (6, .int w), (5, .int v), (4, .int (Int32.ofNat m)), (3, .int (Int32.ofNat n)), (2, .ref 1)] [] _ _
      refine f_go (pc1 := 200) (lv1 := [(11, .int (Int32.ofNat k)), (10, .int (Int32.ofNat mo)), (9, .int (Int32.ofNat hi)), (8, .int (Int32.ofNat sh)), (7, .int (Int32.ofNat L)), (6, .int w), (5, .int v), (4, .int (Int32.ofNat m)), (3, .int (Int32.ofNat n)), (2, .ref 1)]) (st1 := [.int (48 + (Int32.ofNat k)), .ref 1]) 4 rfl ?_
      rw [show (48 : Int32) + Int32.ofNat k = Int32.ofNat (48 + k) from (Int32.ofNat_add 48 k).symm]
      refine f_stQ rfl rfl rfl rfl (g_sign (c := (48 + k)) (by omega) c_x x_tape hS (by first | omega | (simp only [List.length_append, List.length_cons, List.length_nil]; omega)) (by omega)) ?_
      rintro r τ20 ⟨rfl, hS⟩
      show EQ _ _ 125 203 [(11, .int (Int32.ofNat k)), (10, .int (Int32.ofNat mo)), (9, .int (Int32.ofNat hi)), (8, .int (Int32.ofNat sh)), (7, .int (Int32.ofNat L)), (6, .int w), (5, .int v), (4, .int (Int32.ofNat m)), (3, .int (Int32.ofNat n)), (2, .ref 1)] [] _ _
      refine f_go (pc1 := 205) (lv1 := [(11, .int (Int32.ofNat k)), (10, .int (Int32.ofNat mo)), (9, .int (Int32.ofNat hi)), (8, .int (Int32.ofNat sh)), (7, .int (Int32.ofNat L)), (6, .int w), (5, .int v), (4, .int (Int32.ofNat m)), (3, .int (Int32.ofNat n)), (2, .ref 1)]) (st1 := [.int 4, .ref 1]) 2 rfl ?_
      refine f_ldc rfl ?_
      refine f_go (pc1 := 211) (lv1 := [(11, .int (Int32.ofNat k)), (10, .int (Int32.ofNat mo)), (9, .int (Int32.ofNat hi)), (8, .int (Int32.ofNat sh)), (7, .int (Int32.ofNat L)), (6, .int w), (5, .int v), (4, .int (Int32.ofNat m)), (3, .int (Int32.ofNat n)), (2, .ref 1)]) (st1 := [.int 0, .int 0, .int 0, .int 0, .int 540876908, .int 4, .ref 1]) 4 rfl ?_
      refine f_stQ rfl rfl rfl rfl (g_put (n := 4) (by omega) c_x x_tape hS (by first | omega | (simp only [List.length_append, List.length_cons, List.length_nil]; omega)) kwl_211 rfl) ?_
      rintro r τ21 ⟨rfl, hS⟩
      show EQ _ _ 125 214 [(11, .int (Int32.ofNat k)), (10, .int (Int32.ofNat mo)), (9, .int (Int32.ofNat hi)), (8, .int (Int32.ofNat sh)), (7, .int (Int32.ofNat L)), (6, .int w), (5, .int v), (4, .int (Int32.ofNat m)), (3, .int (Int32.ofNat n)), (2, .ref 1)] [] _ _
      refine f_go (pc1 := 222) (lv1 := [(11, .int (Int32.ofNat k)), (10, .int (Int32.ofNat mo)), (9, .int (Int32.ofNat hi)), (8, .int (Int32.ofNat sh)), (7, .int (Int32.ofNat L)), (6, .int w), (5, .int v), (4, .int (Int32.ofNat m)), (3, .int (Int32.ofNat n)), (2, .ref 1)]) (st1 := [.int ((48 + (Int32.ofNat k)) - 1), .ref 1]) 6 rfl ?_
      rw [show (48 : Int32) + Int32.ofNat k - 1 = Int32.ofNat (48 + k - 1) from by rw [show (48 : Int32) + Int32.ofNat k = Int32.ofNat (48 + k) from (Int32.ofNat_add 48 k).symm]; exact i32_sub (b := 1) (by omega)]
      refine f_stQ rfl rfl rfl rfl (g_sign (c := (48 + k - 1)) (by omega) c_x x_tape hS (by first | omega | (simp only [List.length_append, List.length_cons, List.length_nil]; omega)) (by omega)) ?_
      rintro r τ22 ⟨rfl, hS⟩
      show EQ _ _ 125 225 [(11, .int (Int32.ofNat k)), (10, .int (Int32.ofNat mo)), (9, .int (Int32.ofNat hi)), (8, .int (Int32.ofNat sh)), (7, .int (Int32.ofNat L)), (6, .int w), (5, .int v), (4, .int (Int32.ofNat m)), (3, .int (Int32.ofNat n)), (2, .ref 1)] [] _ _
      refine f_go (pc1 := 228) (lv1 := [(11, .int (Int32.ofNat k)), (10, .int (Int32.ofNat mo)), (9, .int (Int32.ofNat hi)), (8, .int (Int32.ofNat sh)), (7, .int (Int32.ofNat L)), (6, .int w), (5, .int v), (4, .int (Int32.ofNat m)), (3, .int (Int32.ofNat n)), (2, .ref 1)]) (st1 := [.int 9, .ref 1]) 2 rfl ?_
      refine f_ldc rfl ?_
      refine f_ldc rfl ?_
      refine f_ldc rfl ?_
      refine f_go (pc1 := 236) (lv1 := [(11, .int (Int32.ofNat k)), (10, .int (Int32.ofNat mo)), (9, .int (Int32.ofNat hi)), (8, .int (Int32.ofNat sh)), (7, .int (Int32.ofNat L)), (6, .int w), (5, .int v), (4, .int (Int32.ofNat m)), (3, .int (Int32.ofNat n)), (2, .ref 1)]) (st1 := [.int 0, .int 0, .int 1711276032, .int 1162040352, .int 542065226, .int 9, .ref 1]) 2 rfl ?_
      refine f_stQ rfl rfl rfl rfl (g_put (n := 9) (by omega) c_x x_tape hS (by first | omega | (simp only [List.length_append, List.length_cons, List.length_nil]; omega)) kwl_236 rfl) ?_
      rintro r τ23 ⟨rfl, hS⟩
      show EQ _ _ 125 239 [(11, .int (Int32.ofNat k)), (10, .int (Int32.ofNat mo)), (9, .int (Int32.ofNat hi)), (8, .int (Int32.ofNat sh)), (7, .int (Int32.ofNat L)), (6, .int w), (5, .int v), (4, .int (Int32.ofNat m)), (3, .int (Int32.ofNat n)), (2, .ref 1)] [] _ _
      refine f_go (pc1 := 245) (lv1 := [(11, .int (Int32.ofNat k)), (10, .int (Int32.ofNat mo)), (9, .int (Int32.ofNat hi)), (8, .int (Int32.ofNat sh)), (7, .int (Int32.ofNat L)), (6, .int w), (5, .int v), (4, .int (Int32.ofNat m)), (3, .int (Int32.ofNat n)), (2, .ref 1)]) (st1 := [.int (48 + (Int32.ofNat k)), .ref 1]) 4 rfl ?_
      rw [show (48 : Int32) + Int32.ofNat k = Int32.ofNat (48 + k) from (Int32.ofNat_add 48 k).symm]
      refine f_stQ rfl rfl rfl rfl (g_sign (c := (48 + k)) (by omega) c_x x_tape hS (by first | omega | (simp only [List.length_append, List.length_cons, List.length_nil]; omega)) (by omega)) ?_
      rintro r τ24 ⟨rfl, hS⟩
      show EQ _ _ 125 248 [(11, .int (Int32.ofNat k)), (10, .int (Int32.ofNat mo)), (9, .int (Int32.ofNat hi)), (8, .int (Int32.ofNat sh)), (7, .int (Int32.ofNat L)), (6, .int w), (5, .int v), (4, .int (Int32.ofNat m)), (3, .int (Int32.ofNat n)), (2, .ref 1)] [] _ _
      refine f_go (pc1 := 251) (lv1 := [(11, .int (Int32.ofNat k)), (10, .int (Int32.ofNat mo)), (9, .int (Int32.ofNat hi)), (8, .int (Int32.ofNat sh)), (7, .int (Int32.ofNat L)), (6, .int w), (5, .int v), (4, .int (Int32.ofNat m)), (3, .int (Int32.ofNat n)), (2, .ref 1)]) (st1 := [.int 16, .ref 1]) 2 rfl ?_
      refine f_ldc rfl ?_
      refine f_ldc rfl ?_
      refine f_ldc rfl ?_
      refine f_ldc rfl ?_
      refine f_go (pc1 := 260) (lv1 := [(11, .int (Int32.ofNat k)), (10, .int (Int32.ofNat mo)), (9, .int (Int32.ofNat hi)), (8, .int (Int32.ofNat sh)), (7, .int (Int32.ofNat L)), (6, .int w), (5, .int v), (4, .int (Int32.ofNat m)), (3, .int (Int32.ofNat n)), (2, .ref 1)]) (st1 := [.int 0, .int 1313094410, .int 1379606597, .int 1413826373, .int 975194446, .int 16, .ref 1]) 1 rfl ?_
      refine f_stQ rfl rfl rfl rfl (g_put (n := 16) (by omega) c_x x_tape hS (by first | omega | (simp only [List.length_append, List.length_cons, List.length_nil]; omega)) kwl_260 rfl) ?_
      rintro r τ25 ⟨rfl, hS⟩
      show EQ _ _ 125 263 [(11, .int (Int32.ofNat k)), (10, .int (Int32.ofNat mo)), (9, .int (Int32.ofNat hi)), (8, .int (Int32.ofNat sh)), (7, .int (Int32.ofNat L)), (6, .int w), (5, .int v), (4, .int (Int32.ofNat m)), (3, .int (Int32.ofNat n)), (2, .ref 1)] [] _ _
      refine f_go (pc1 := 266) (lv1 := [(11, .int ((Int32.ofNat k) + 1)), (10, .int (Int32.ofNat mo)), (9, .int (Int32.ofNat hi)), (8, .int (Int32.ofNat sh)), (7, .int (Int32.ofNat L)), (6, .int w), (5, .int v), (4, .int (Int32.ofNat m)), (3, .int (Int32.ofNat n)), (2, .ref 1)]) (st1 := []) 1 rfl ?_
      rw [nat_s]
      refine f_go (pc1 := 174) (lv1 := [(11, .int (Int32.ofNat (k + 1))), (10, .int (Int32.ofNat mo)), (9, .int (Int32.ofNat hi)), (8, .int (Int32.ofNat sh)), (7, .int (Int32.ofNat L)), (6, .int w), (5, .int v), (4, .int (Int32.ofNat m)), (3, .int (Int32.ofNat n)), (2, .ref 1)]) (st1 := []) 1 rfl ?_
      refine f_lv [(11, .int (Int32.ofNat (k + 1))), (10, .int (Int32.ofNat mo)), (9, .int (Int32.ofNat hi)), (8, .int (Int32.ofNat sh)), (7, .int (Int32.ofNat L)), (6, .int w), (5, .int v), (4, .int (Int32.ofNat m)), (3, .int (Int32.ofNat n)), (2, .ref 1)] (fl_c rfl (fl_c rfl (fl_c rfl (fl_c rfl (fl_c rfl (fl_c rfl (fl_c rfl (fl_c rfl (fl_c rfl (fl_c rfl fl_0)))))))))) ?_
      refine ih (k + 1) _ _ (by omega) (by omega) ?_ (fl_c rfl (fl_c rfl (fl_c rfl (fl_c rfl (fl_c rfl (fl_c rfl (fl_c rfl (fl_c rfl (fl_c rfl (fl_c rfl fl_0))))))))))
      have e : txS (txC L n m sh hi mo (bdL n v w)) (k + 1 + 1) 0 = txS (txC L n m sh hi mo (bdL n v w)) (k + 1) 0 ++ [84, 89, 80, 69, 32, 108] ++ [48 + k] ++ [32, 61, 32, 108] ++ [48 + k - 1] ++ [32, 79, 66, 74, 69, 67, 84, 32, 102] ++ [48 + k] ++ [58, 32, 73, 78, 84, 69, 71, 69, 82, 59, 32, 69, 78, 68, 59, 10] := by
        rw [txS_sn, Nat.zero_add, txC_l h1 (by omega)]
        unfold cLv
        simp only [List.append_assoc]
      rw [e]
      exact hS
  have hlen : ([] : List Nat).length ≤ 0 := Nat.le_refl _
  refine f_go (pc1 := 127) (lv1 := [(10, .int (Int32.ofNat mo)), (9, .int (Int32.ofNat hi)), (8, .int (Int32.ofNat sh)), (7, .int (Int32.ofNat L)), (6, .int w), (5, .int v), (4, .int (Int32.ofNat m)), (3, .int (Int32.ofNat n)), (2, .ref 1)]) (st1 := [.int 20, .ref 1]) 2 rfl ?_
  refine f_ldc rfl ?_
  refine f_ldc rfl ?_
  refine f_ldc rfl ?_
  refine f_ldc rfl ?_
  refine f_ldc rfl ?_
  refine f_stQ rfl rfl rfl rfl (g_put (n := 20) (by omega) c_x x_tape hS (by first | omega | (simp only [List.length_append, List.length_cons, List.length_nil]; omega)) kwl_137 rfl) ?_
  rintro r τ26 ⟨rfl, hS⟩
  show EQ _ _ 125 140 [(10, .int (Int32.ofNat mo)), (9, .int (Int32.ofNat hi)), (8, .int (Int32.ofNat sh)), (7, .int (Int32.ofNat L)), (6, .int w), (5, .int v), (4, .int (Int32.ofNat m)), (3, .int (Int32.ofNat n)), (2, .ref 1)] [] _ _
  refine f_go (pc1 := 143) (lv1 := [(10, .int (Int32.ofNat mo)), (9, .int (Int32.ofNat hi)), (8, .int (Int32.ofNat sh)), (7, .int (Int32.ofNat L)), (6, .int w), (5, .int v), (4, .int (Int32.ofNat m)), (3, .int (Int32.ofNat n)), (2, .ref 1)]) (st1 := [.int 20, .ref 1]) 2 rfl ?_
  refine f_ldc rfl ?_
  refine f_ldc rfl ?_
  refine f_ldc rfl ?_
  refine f_ldc rfl ?_
  refine f_ldc rfl ?_
  refine f_stQ rfl rfl rfl rfl (g_put (n := 20) (by omega) c_x x_tape hS (by first | omega | (simp only [List.length_append, List.length_cons, List.length_nil]; omega)) kwl_153 rfl) ?_
  rintro r τ27 ⟨rfl, hS⟩
  show EQ _ _ 125 156 [(10, .int (Int32.ofNat mo)), (9, .int (Int32.ofNat hi)), (8, .int (Int32.ofNat sh)), (7, .int (Int32.ofNat L)), (6, .int w), (5, .int v), (4, .int (Int32.ofNat m)), (3, .int (Int32.ofNat n)), (2, .ref 1)] [] _ _
  refine f_go (pc1 := 159) (lv1 := [(10, .int (Int32.ofNat mo)), (9, .int (Int32.ofNat hi)), (8, .int (Int32.ofNat sh)), (7, .int (Int32.ofNat L)), (6, .int w), (5, .int v), (4, .int (Int32.ofNat m)), (3, .int (Int32.ofNat n)), (2, .ref 1)]) (st1 := [.int 13, .ref 1]) 2 rfl ?_
  refine f_ldc rfl ?_
  refine f_ldc rfl ?_
  refine f_ldc rfl ?_
  refine f_ldc rfl ?_
  refine f_go (pc1 := 168) (lv1 := [(10, .int (Int32.ofNat mo)), (9, .int (Int32.ofNat hi)), (8, .int (Int32.ofNat sh)), (7, .int (Int32.ofNat L)), (6, .int w), (5, .int v), (4, .int (Int32.ofNat m)), (3, .int (Int32.ofNat n)), (2, .ref 1)]) (st1 := [.int 0, .int 167772160, .int 1162757179, .int 1163016992, .int 1314145607, .int 13, .ref 1]) 1 rfl ?_
  refine f_stQ rfl rfl rfl rfl (g_put (n := 13) (by omega) c_x x_tape hS (by first | omega | (simp only [List.length_append, List.length_cons, List.length_nil]; omega)) kwl_168 rfl) ?_
  rintro r τ28 ⟨rfl, hS⟩
  show EQ _ _ 125 171 [(10, .int (Int32.ofNat mo)), (9, .int (Int32.ofNat hi)), (8, .int (Int32.ofNat sh)), (7, .int (Int32.ofNat L)), (6, .int w), (5, .int v), (4, .int (Int32.ofNat m)), (3, .int (Int32.ofNat n)), (2, .ref 1)] [] _ _
  refine f_go (pc1 := 174) (lv1 := [(11, .int 1), (10, .int (Int32.ofNat mo)), (9, .int (Int32.ofNat hi)), (8, .int (Int32.ofNat sh)), (7, .int (Int32.ofNat L)), (6, .int w), (5, .int v), (4, .int (Int32.ofNat m)), (3, .int (Int32.ofNat n)), (2, .ref 1)]) (st1 := []) 2 rfl ?_
  refine f_lv [(11, .int (Int32.ofNat 1)), (10, .int (Int32.ofNat mo)), (9, .int (Int32.ofNat hi)), (8, .int (Int32.ofNat sh)), (7, .int (Int32.ofNat L)), (6, .int w), (5, .int v), (4, .int (Int32.ofNat m)), (3, .int (Int32.ofNat n)), (2, .ref 1)] (fl_c rfl (fl_c rfl (fl_c rfl (fl_c rfl (fl_c rfl (fl_c rfl (fl_c rfl (fl_c rfl (fl_c rfl (fl_c rfl fl_0)))))))))) ?_
  refine key (L - 1) 1 _ _ (by omega) (Nat.le_refl 1) ?_ (fl_c rfl (fl_c rfl (fl_c rfl (fl_c rfl (fl_c rfl (fl_c rfl (fl_c rfl (fl_c rfl (fl_c rfl (fl_c rfl fl_0))))))))))
  have e : txS (txC L n m sh hi mo (bdL n v w)) (1 + 1) 0 = [] ++ [73, 78, 84, 69, 82, 70, 65, 67, 69, 32, 116, 59, 10, 84, 89, 80, 69, 32, 108, 48] ++ [32, 61, 32, 82, 79, 79, 84, 32, 79, 66, 74, 69, 67, 84, 32, 102, 48, 58, 32, 73] ++ [78, 84, 69, 71, 69, 82, 59, 32, 69, 78, 68, 59, 10] := by
    rw [tx_2 hL.1]
    rfl
  rw [e]
  exact hS
theorem l_draw {X : ev_X} {d : Nat} {Q : Option Value → fl_S → Prop} (hd : 10 ≤ d) {σ : fl_S} {f : Nat → Int32} (hs : sI σ 0 = some (9, f))
    (next : ∀ (L n m sh hi mo : Nat) (v w : Int32), DB L n m sh hi mo (bdL n v w) → sh ≤ hi → mo ≤ hi → EQ X d 125 124 [(10, .int (Int32.ofNat mo)), (9, .int (Int32.ofNat hi)), (8, .int (Int32.ofNat sh)), (7, .int (Int32.ofNat L)), (6, .int w), (5, .int v), (4, .int (Int32.ofNat m)), (3, .int (Int32.ofNat n)), (2, .ref 1)] [] σ Q) : EQ X d 125 13 [(2, .ref 1), (1, .ref 0), (0, .retAddr 2)] [] σ Q := by
  obtain ⟨a0, h0, e0⟩ := i32_an (f 0) 3 (by decide)
  obtain ⟨a1, h1, e1⟩ := i32_an (f 1) 3 (by decide)
  obtain ⟨a3, h3, e3⟩ := i32_an (f 3) 1 (by decide)
  obtain ⟨a5, h5, e5⟩ := i32_an (f 5) 3 (by decide)
  obtain ⟨a6, h6, e6⟩ := i32_an (f 6) 2147483647 (by decide)
  obtain ⟨a7, h7, e7⟩ := i32_an (f 7) 2147483647 (by decide)
  obtain ⟨a8, h8, e8⟩ := i32_an (f 8) 2147483647 (by decide)
  obtain ⟨n, hn⟩ : ∃ n, n = 1 + a0 := ⟨_, rfl⟩
  obtain ⟨m, hm⟩ : ∃ m, m = 1 + a1 := ⟨_, rfl⟩
  obtain ⟨L, hL⟩ : ∃ L, L = 2 + a5 := ⟨_, rfl⟩
  obtain ⟨sh, hsh⟩ : ∃ sh, sh = a6 % L := ⟨_, rfl⟩
  have hs1 : sh < L := by rw [hsh]; exact Nat.mod_lt _ (by omega)
  obtain ⟨hi, hhi⟩ : ∃ hi, hi = sh + a7 % (L - sh) := ⟨_, rfl⟩
  have hs2 : a7 % (L - sh) < L - sh := Nat.mod_lt _ (by omega)
  obtain ⟨mo, hmo⟩ : ∃ mo, mo = a8 % (hi + 1) := ⟨_, rfl⟩
  have hs3 : mo < hi + 1 := by rw [hmo]; exact Nat.mod_lt _ (by omega)
  have hfin : ∀ w : Int32, EQ X d 125 63 [(6, .int w), (5, .int (f 2)), (4, .int (Int32.ofNat m)), (3, .int (Int32.ofNat n)), (2, .ref 1), (1, .ref 0), (0, .retAddr 2)] [] σ Q := by
    intro w
    refine f_go (pc1 := 66) (lv1 := [(6, .int w), (5, .int (f 2)), (4, .int (Int32.ofNat m)), (3, .int (Int32.ofNat n)), (2, .ref 1), (1, .ref 0), (0, .retAddr 2)]) (st1 := [.int 5, .ref 0, .int 2]) 3 rfl ?_
    refine f_st rfl rfl rfl rfl (g_at (f := f) (k := 5) (by omega) hs (by decide)) ?_
    refine f_go (pc1 := 71) (lv1 := [(6, .int w), (5, .int (f 2)), (4, .int (Int32.ofNat m)), (3, .int (Int32.ofNat n)), (2, .ref 1), (1, .ref 0), (0, .retAddr 2)]) (st1 := [.int ((f 5) &&& 3), .int 2]) 2 rfl ?_
    rw [show ((f 5) &&& 3 : Int32) = (Int32.ofNat a5) from e5]
    refine f_go (pc1 := 72) (lv1 := [(6, .int w), (5, .int (f 2)), (4, .int (Int32.ofNat m)), (3, .int (Int32.ofNat n)), (2, .ref 1), (1, .ref 0), (0, .retAddr 2)]) (st1 := [.int (2 + (Int32.ofNat a5))]) 1 rfl ?_
    rw [show (2 + (Int32.ofNat a5) : Int32) = (Int32.ofNat L) from (by rw [hL]; exact (Int32.ofNat_add 2 a5).symm)]
    refine f_go (pc1 := 77) (lv1 := [(7, .int (Int32.ofNat L)), (6, .int w), (5, .int (f 2)), (4, .int (Int32.ofNat m)), (3, .int (Int32.ofNat n)), (2, .ref 1), (1, .ref 0), (0, .retAddr 2)]) (st1 := [.int 6, .ref 0]) 3 rfl ?_
    refine f_st rfl rfl rfl rfl (g_at (f := f) (k := 6) (by omega) hs (by decide)) ?_
    refine f_ldc rfl ?_
    refine f_go (pc1 := 83) (lv1 := [(7, .int (Int32.ofNat L)), (6, .int w), (5, .int (f 2)), (4, .int (Int32.ofNat m)), (3, .int (Int32.ofNat n)), (2, .ref 1), (1, .ref 0), (0, .retAddr 2)]) (st1 := [.int ((f 6) &&& 2147483647)]) 1 rfl ?_
    rw [show ((f 6) &&& 2147483647 : Int32) = (Int32.ofNat a6) from e6]
    refine f_go (pc1 := 85) (lv1 := [(7, .int (Int32.ofNat L)), (6, .int w), (5, .int (f 2)), (4, .int (Int32.ofNat m)), (3, .int (Int32.ofNat n)), (2, .ref 1), (1, .ref 0), (0, .retAddr 2)]) (st1 := [.int (Int32.ofNat L), .int (Int32.ofNat a6)]) 1 rfl ?_
    refine f_irem rfl (by omega) (by omega) (by omega) ?_
    rw [← hsh]
    refine f_go (pc1 := 93) (lv1 := [(8, .int (Int32.ofNat sh)), (7, .int (Int32.ofNat L)), (6, .int w), (5, .int (f 2)), (4, .int (Int32.ofNat m)), (3, .int (Int32.ofNat n)), (2, .ref 1), (1, .ref 0), (0, .retAddr 2)]) (st1 := [.int 7, .ref 0, .int (Int32.ofNat sh)]) 4 rfl ?_
    refine f_st rfl rfl rfl rfl (g_at (f := f) (k := 7) (by omega) hs (by decide)) ?_
    refine f_ldc rfl ?_
    refine f_go (pc1 := 99) (lv1 := [(8, .int (Int32.ofNat sh)), (7, .int (Int32.ofNat L)), (6, .int w), (5, .int (f 2)), (4, .int (Int32.ofNat m)), (3, .int (Int32.ofNat n)), (2, .ref 1), (1, .ref 0), (0, .retAddr 2)]) (st1 := [.int ((f 7) &&& 2147483647), .int (Int32.ofNat sh)]) 1 rfl ?_
    rw [show ((f 7) &&& 2147483647 : Int32) = (Int32.ofNat a7) from e7]
    refine f_go (pc1 := 104) (lv1 := [(8, .int (Int32.ofNat sh)), (7, .int (Int32.ofNat L)), (6, .int w), (5, .int (f 2)), (4, .int (Int32.ofNat m)), (3, .int (Int32.ofNat n)), (2, .ref 1), (1, .ref 0), (0, .retAddr 2)]) (st1 := [.int ((Int32.ofNat L) - (Int32.ofNat sh)), .int (Int32.ofNat a7), .int (Int32.ofNat sh)]) 3 rfl ?_
    rw [show ((Int32.ofNat L) - (Int32.ofNat sh) : Int32) = (Int32.ofNat (L - sh)) from (i32_sub (by omega))]
    refine f_irem rfl (by omega) (by omega) (by omega) ?_
    refine f_go (pc1 := 106) (lv1 := [(8, .int (Int32.ofNat sh)), (7, .int (Int32.ofNat L)), (6, .int w), (5, .int (f 2)), (4, .int (Int32.ofNat m)), (3, .int (Int32.ofNat n)), (2, .ref 1), (1, .ref 0), (0, .retAddr 2)]) (st1 := [.int ((Int32.ofNat sh) + (Int32.ofNat (a7 % (L - sh))))]) 1 rfl ?_
    rw [show ((Int32.ofNat sh) + (Int32.ofNat (a7 % (L - sh))) : Int32) = (Int32.ofNat hi) from (by rw [hhi]; exact (Int32.ofNat_add sh _).symm)]
    refine f_go (pc1 := 111) (lv1 := [(9, .int (Int32.ofNat hi)), (8, .int (Int32.ofNat sh)), (7, .int (Int32.ofNat L)), (6, .int w), (5, .int (f 2)), (4, .int (Int32.ofNat m)), (3, .int (Int32.ofNat n)), (2, .ref 1), (1, .ref 0), (0, .retAddr 2)]) (st1 := [.int 8, .ref 0]) 3 rfl ?_
    refine f_st rfl rfl rfl rfl (g_at (f := f) (k := 8) (by omega) hs (by decide)) ?_
    refine f_ldc rfl ?_
    refine f_go (pc1 := 117) (lv1 := [(9, .int (Int32.ofNat hi)), (8, .int (Int32.ofNat sh)), (7, .int (Int32.ofNat L)), (6, .int w), (5, .int (f 2)), (4, .int (Int32.ofNat m)), (3, .int (Int32.ofNat n)), (2, .ref 1), (1, .ref 0), (0, .retAddr 2)]) (st1 := [.int ((f 8) &&& 2147483647)]) 1 rfl ?_
    rw [show ((f 8) &&& 2147483647 : Int32) = (Int32.ofNat a8) from e8]
    refine f_go (pc1 := 121) (lv1 := [(9, .int (Int32.ofNat hi)), (8, .int (Int32.ofNat sh)), (7, .int (Int32.ofNat L)), (6, .int w), (5, .int (f 2)), (4, .int (Int32.ofNat m)), (3, .int (Int32.ofNat n)), (2, .ref 1), (1, .ref 0), (0, .retAddr 2)]) (st1 := [.int ((Int32.ofNat hi) + 1), .int (Int32.ofNat a8)]) 3 rfl ?_
    rw [show ((Int32.ofNat hi) + 1 : Int32) = (Int32.ofNat (hi + 1)) from (nat_s hi)]
    refine f_irem rfl (by omega) (by omega) (by omega) ?_
    rw [← hmo]
    refine f_go (pc1 := 124) (lv1 := [(10, .int (Int32.ofNat mo)), (9, .int (Int32.ofNat hi)), (8, .int (Int32.ofNat sh)), (7, .int (Int32.ofNat L)), (6, .int w), (5, .int (f 2)), (4, .int (Int32.ofNat m)), (3, .int (Int32.ofNat n)), (2, .ref 1), (1, .ref 0), (0, .retAddr 2)]) (st1 := []) 1 rfl ?_
    refine f_lv [(10, .int (Int32.ofNat mo)), (9, .int (Int32.ofNat hi)), (8, .int (Int32.ofNat sh)), (7, .int (Int32.ofNat L)), (6, .int w), (5, .int (f 2)), (4, .int (Int32.ofNat m)), (3, .int (Int32.ofNat n)), (2, .ref 1)] (fl_c rfl (fl_c rfl (fl_c rfl (fl_c rfl (fl_c rfl (fl_c rfl (fl_c rfl (fl_c rfl (fl_c rfl fl_0))))))))) ?_
    exact next L n m sh hi mo (f 2) w ⟨by omega, by omega, by omega, hs1, by omega, by omega, fun r _ => bdL_12⟩ (by omega) (by omega)
  refine f_go (pc1 := 16) (lv1 := [(2, .ref 1), (1, .ref 0), (0, .retAddr 2)]) (st1 := [.int 0, .ref 0, .int 1]) 3 rfl ?_
  refine f_st rfl rfl rfl rfl (g_at (f := f) (k := 0) (by omega) hs (by decide)) ?_
  refine f_go (pc1 := 21) (lv1 := [(2, .ref 1), (1, .ref 0), (0, .retAddr 2)]) (st1 := [.int ((f 0) &&& 3), .int 1]) 2 rfl ?_
  rw [show ((f 0) &&& 3 : Int32) = (Int32.ofNat a0) from e0]
  refine f_go (pc1 := 22) (lv1 := [(2, .ref 1), (1, .ref 0), (0, .retAddr 2)]) (st1 := [.int (1 + (Int32.ofNat a0))]) 1 rfl ?_
  rw [show (1 + (Int32.ofNat a0) : Int32) = (Int32.ofNat n) from (by rw [hn]; exact (Int32.ofNat_add 1 a0).symm)]
  refine f_go (pc1 := 26) (lv1 := [(3, .int (Int32.ofNat n)), (2, .ref 1), (1, .ref 0), (0, .retAddr 2)]) (st1 := [.int 1, .ref 0, .int 1]) 4 rfl ?_
  refine f_st rfl rfl rfl rfl (g_at (f := f) (k := 1) (by omega) hs (by decide)) ?_
  refine f_go (pc1 := 31) (lv1 := [(3, .int (Int32.ofNat n)), (2, .ref 1), (1, .ref 0), (0, .retAddr 2)]) (st1 := [.int ((f 1) &&& 3), .int 1]) 2 rfl ?_
  rw [show ((f 1) &&& 3 : Int32) = (Int32.ofNat a1) from e1]
  refine f_go (pc1 := 32) (lv1 := [(3, .int (Int32.ofNat n)), (2, .ref 1), (1, .ref 0), (0, .retAddr 2)]) (st1 := [.int (1 + (Int32.ofNat a1))]) 1 rfl ?_
  rw [show (1 + (Int32.ofNat a1) : Int32) = (Int32.ofNat m) from (by rw [hm]; exact (Int32.ofNat_add 1 a1).symm)]
  refine f_go (pc1 := 36) (lv1 := [(4, .int (Int32.ofNat m)), (3, .int (Int32.ofNat n)), (2, .ref 1), (1, .ref 0), (0, .retAddr 2)]) (st1 := [.int 2, .ref 0]) 3 rfl ?_
  refine f_st rfl rfl rfl rfl (g_at (f := f) (k := 2) (by omega) hs (by decide)) ?_
  refine f_go (pc1 := 43) (lv1 := [(5, .int (f 2)), (4, .int (Int32.ofNat m)), (3, .int (Int32.ofNat n)), (2, .ref 1), (1, .ref 0), (0, .retAddr 2)]) (st1 := [.int 3, .ref 0]) 3 rfl ?_
  refine f_st rfl rfl rfl rfl (g_at (f := f) (k := 3) (by omega) hs (by decide)) ?_
  refine f_go (pc1 := 48) (lv1 := [(5, .int (f 2)), (4, .int (Int32.ofNat m)), (3, .int (Int32.ofNat n)), (2, .ref 1), (1, .ref 0), (0, .retAddr 2)]) (st1 := [.int ((f 3) &&& 1)]) 2 rfl ?_
  rw [show ((f 3) &&& 1 : Int32) = (Int32.ofNat a3) from e3]
  by_cases x3 : a3 = 0
  ·
    refine f_ifc (t := 56) rfl rfl false (ic_nen (by rw [x3]; rfl)) ?_
    refine f_go (pc1 := 63) (lv1 := [(6, .int (f 2)), (5, .int (f 2)), (4, .int (Int32.ofNat m)), (3, .int (Int32.ofNat n)), (2, .ref 1), (1, .ref 0), (0, .retAddr 2)]) (st1 := []) 3 rfl ?_
    refine f_lv [(6, .int (f 2)), (5, .int (f 2)), (4, .int (Int32.ofNat m)), (3, .int (Int32.ofNat n)), (2, .ref 1), (1, .ref 0), (0, .retAddr 2)] (fl_c rfl (fl_c rfl (fl_c rfl (fl_c rfl (fl_c rfl (fl_c rfl (fl_c rfl fl_0))))))) ?_
    exact hfin (f 2)
  ·
    refine f_ifc (t := 56) rfl rfl true (ic_ne (fun e => x3 ((nat_e (n := 0) (by omega) (by decide)).mp e))) ?_
    refine f_go (pc1 := 58) (lv1 := [(5, .int (f 2)), (4, .int (Int32.ofNat m)), (3, .int (Int32.ofNat n)), (2, .ref 1), (1, .ref 0), (0, .retAddr 2)]) (st1 := [.int 4, .ref 0]) 2 rfl ?_
    refine f_st rfl rfl rfl rfl (g_at (f := f) (k := 4) (by omega) hs (by decide)) ?_
    refine f_go (pc1 := 63) (lv1 := [(6, .int (f 4)), (5, .int (f 2)), (4, .int (Int32.ofNat m)), (3, .int (Int32.ofNat n)), (2, .ref 1), (1, .ref 0), (0, .retAddr 2)]) (st1 := []) 1 rfl ?_
    refine f_lv [(6, .int (f 4)), (5, .int (f 2)), (4, .int (Int32.ofNat m)), (3, .int (Int32.ofNat n)), (2, .ref 1), (1, .ref 0), (0, .retAddr 2)] (fl_c rfl (fl_c rfl (fl_c rfl (fl_c rfl (fl_c rfl (fl_c rfl (fl_c rfl fl_0))))))) ?_
    exact hfin (f 4)
theorem l_text {X : ev_X} {d : Nat} {Q : Option Value → fl_S → Prop} (hd : 10 ≤ d) {σ : fl_S} {f : Nat → Int32} (hz : sZ σ = 1) (hs : sI σ 0 = some (9, f))
    (next : ∀ (L n m sh hi mo : Nat) (v w : Int32) (σL σ1 : fl_S), DB L n m sh hi mo (bdL n v w) → sh ≤ hi → mo ≤ hi → LU σL → LTx σL 1 2 (tx0 L n m sh hi mo (bdL n v w)) σ1 → sc σL ≤ sc σ + 100 → ss σL ≤ ss σ + 100000 → EQ X d 125 506 [(10, .int (Int32.ofNat mo)), (9, .int (Int32.ofNat hi)), (8, .int (Int32.ofNat sh)), (7, .int (Int32.ofNat L)), (6, .int w), (5, .int v), (4, .int (Int32.ofNat m)), (3, .int (Int32.ofNat n)), (2, .ref 1)] [] σ1 Q) : EQ X d 125 4 [(0, .retAddr 2)] [.ref 0] σ Q := by
  obtain ⟨n1, n2, n3, n4, n5⟩ := l_new hz
  refine f_go (pc1 := 5) (lv1 := [(1, .ref 0), (0, .retAddr 2)]) (st1 := []) 1 rfl ?_
  refine f_new rfl (by omega) rfl ?_
  rw [hz]
  refine f_go (pc1 := 9) (lv1 := [(1, .ref 0), (0, .retAddr 2)]) (st1 := [.ref 1, .ref 1]) 1 rfl ?_
  refine f_sp rfl rfl rfl rfl (g_luInit (a := 1) (by omega) (by rw [← hz]; exact sN_at) (by show sZ σ + 1 + 19 ≤ 256; omega)) ?_
  generalize luInitS (sN σ 10 5) 1 = σL at n1 n2 n3 n4 n5 ⊢
  show EQ _ _ 125 12 [(1, .ref 0), (0, .retAddr 2)] [.ref 1] _ _
  refine f_go (pc1 := 13) (lv1 := [(2, .ref 1), (1, .ref 0), (0, .retAddr 2)]) (st1 := []) 1 rfl ?_
  refine l_draw hd (n3.trans hs) (fun L n m sh hi mo v w hD h1 h2 => ?_)
  exact l_head hd hD n1.1 n1.2.2.2.1 n2 (fun σ2 hS => l_tail hd hD n1.1 n1.2.2.2.1 hS (fun σ3 hS3 => next L n m sh hi mo v w σL σ3 hD h1 h2 n1 hS3 n4 n5))
