/-! scan -/
theorem SS_start {σ : fl_S} {s : Nat} {K V L H C A Z : Nat → Int32} (h1 : sI σ (s + 1) = some (6001, K)) (h2 : sI σ (s + 2) = some (6001, V)) (h3 : sI σ (s + 3) = some (6001, L)) (h4 : sI σ (s + 4) = some (256, H)) (h5 : sI σ (s + 5) = some (3001, C)) (h6 : sI σ (s + 6) = some (3001, A)) (h7 : sI σ (s + 7) = some (3001, Z)) : sU (sU (sU (sU σ s 230 (.int 0)) s 231 (.int 1)) s 227 (.int 0)) s 236 (.int 0) = SS σ s 0 1 0 0 K V L H C A Z := by
  refine Prod.ext rfl (Prod.ext ?_ (Prod.ext ?_ rfl))
  · funext b h
    show FU (FU (FU (FU (sF σ) s 230 _) s 231 _) s 227 _) s 236 _ b h = FU (FU (FU (FU (sF σ) s 236 _) s 227 _) s 231 _) s 230 _ b h
    unfold FU
    by_cases e : b = s
    · subst e
      rw [nb_self]
      by_cases e1 : h = 230
      · subst e1; rfl
      · by_cases e2 : h = 231
        · subst e2; rfl
        · by_cases e3 : h = 227
          · subst e3; rfl
          · by_cases e4 : h = 236
            · subst e4; rfl
            · rw [nb_ne e1, nb_ne e2, nb_ne e3, nb_ne e4]; rfl
    · rw [nb_ne e]
      cases Nat.beq h 230 <;> cases Nat.beq h 231 <;> cases Nat.beq h 227 <;> cases Nat.beq h 236 <;> rfl
  · funext b
    show sI σ b = (bif Nat.beq b (s + 1) then some (6001, K) else bif Nat.beq b (s + 2) then some (6001, V) else bif Nat.beq b (s + 3) then some (6001, L) else bif Nat.beq b (s + 4) then some (256, H) else bif Nat.beq b (s + 5) then some (3001, C) else bif Nat.beq b (s + 6) then some (3001, A) else bif Nat.beq b (s + 7) then some (3001, Z) else sI σ b)
    by_cases e0 : b = s + 1
    · subst e0; rw [nb_self, h1]; rfl
    · rw [nb_ne e0]
      by_cases e1 : b = s + 2
      · subst e1; rw [nb_self, h2]; rfl
      · rw [nb_ne e1]
        by_cases e2 : b = s + 3
        · subst e2; rw [nb_self, h3]; rfl
        · rw [nb_ne e2]
          by_cases e3 : b = s + 4
          · subst e3; rw [nb_self, h4]; rfl
          · rw [nb_ne e3]
            by_cases e4 : b = s + 5
            · subst e4; rw [nb_self, h5]; rfl
            · rw [nb_ne e4]
              by_cases e5 : b = s + 6
              · subst e5; rw [nb_self, h6]; rfl
              · rw [nb_ne e5]
                by_cases e6 : b = s + 7
                · subst e6; rw [nb_self, h7]; rfl
                · rw [nb_ne e6]
                  rfl
theorem g_scan {X : ev_X} {d : Nat} {σ : fl_S} (hd : 7 ≤ d) {s tx n : Nat} {T : Nat → Nat} {K0 V0 L0 H0 C0 A0 Z0 : Nat → Int32} {TB : Nat → Int32} {WD : Nat → Nat → Int32} {SG : Nat → Int32} {SE : Nat → Nat} {sgn : Nat → Prop} (c_s : sC σ 7 s = true) (f1 : sF σ s 224 = .ref (s + 1)) (f2 : sF σ s 225 = .ref (s + 2)) (f3 : sF σ s 226 = .ref (s + 3)) (f4 : sF σ s 232 = .ref (s + 4)) (f5 : sF σ s 233 = .ref (s + 5)) (f6 : sF σ s 234 = .ref (s + 6)) (f7 : sF σ s 235 = .ref (s + 7)) (a1 : sI σ (s + 1) = some (6001, K0)) (a2 : sI σ (s + 2) = some (6001, V0)) (a3 : sI σ (s + 3) = some (6001, L0)) (a4 : sI σ (s + 4) = some (256, H0)) (a5 : sI σ (s + 5) = some (3001, C0)) (a6 : sI σ (s + 6) = some (3001, A0)) (a7 : sI σ (s + 7) = some (3001, Z0)) (htx : sY σ tx = some (6000, TB)) (hTB : ∀ j, j < n → TB j = Int32.ofNat (T j)) (hn : n ≤ 6000) (hT : ∀ j, j < n → T j < 128 ∧ T j ≠ 9 ∧ T j ≠ 13 ∧ T j ≠ 40)
    (hWD : ∀ p' q len ln k m K V L H C A Z, q + len ≤ n → CF X (d - 3) 22 [.ref s, .int (Int32.ofNat q), .int (Int32.ofNat len)] (SS (sU (sU σ s 228 (.ref tx)) s 229 (.int (Int32.ofNat n))) s p' ln k m K V L H C A Z) (some (.int (WD q len))) (SS (sU (sU σ s 228 (.ref tx)) s 229 (.int (Int32.ofNat n))) s p' ln k m K V L H C A Z)) (hSG : ∀ q ln k m K V L H C A Z, q < n → sgn q → k ≤ 6000 → CF X (d - 2) 26 [.ref s, .int (Int32.ofNat (T q))] (SS (sU (sU σ s 228 (.ref tx)) s 229 (.int (Int32.ofNat n))) s q ln k m K V L H C A Z) (some (.int 1)) (SS (sU (sU σ s 228 (.ref tx)) s 229 (.int (Int32.ofNat n))) s (SE q) ln (k + 1) m (upd K k (SG q)) (upd V k 0) (upd L k (Int32.ofNat ln)) H C A Z)) {full : List (Int32 × Int32 × Nat)} (hfl : full.length ≤ 6000) (hL : Lx T n WD SG SE sgn full 0 1 0 (fun _ => 0) (fun _ => 0)) :
    CQ X d 14 [.ref s, .ref tx, .int (Int32.ofNat n)] σ (fun v σ1 => v = none ∧ ∃ p ln m K V L H C A Z, (∀ j x, full[j]? = some x → K j = x.1 ∧ V j = x.2.1 ∧ L j = Int32.ofNat x.2.2) ∧ K full.length = 0 ∧ σ1 = SS (sU (sU σ s 228 (.ref tx)) s 229 (.int (Int32.ofNat n))) s p ln full.length m K V L H C A Z) := by
  have hS : SW (sU (sU σ s 228 (.ref tx)) s 229 (.int (Int32.ofNat n))) s tx n T := ⟨c_s, f1, f2, f3, f4, f5, f6, f7, (sU_gne rfl).trans sU_at, sU_at, ⟨TB, htx, hTB⟩, hn, hT⟩
  refine f_meth (by omega) rfl ?_
  refine f_go (pc1 := 2) (lv1 := [(0, .ref s), (1, .ref tx), (2, .int (Int32.ofNat n))]) (st1 := [.ref tx, .ref s]) 2 rfl ?_
  refine f_putf rfl rfl (g := 228) rfl c_s rfl ?_
  refine f_go (pc1 := 8) (lv1 := [(0, .ref s), (1, .ref tx), (2, .int (Int32.ofNat n))]) (st1 := [.ref tx, .int (Int32.ofNat n), .ref s]) 3 rfl ?_
  refine f_alY rfl htx ?_
  refine f_xm (st1 := [.int (Int32.ofNat n), .ref s]) rfl ?_ ?_
  · show ev_if _ (some (Value.int (if Int32.ofNat 6000 < Int32.ofNat n then Int32.ofNat 6000 else Int32.ofNat n) :: _)) = _
    rw [if_neg (by rw [nat_li (by decide) (by omega)]; omega)]
    rfl
  refine f_putf rfl rfl (g := 229) rfl c_s rfl ?_
  refine f_go (pc1 := 17) (lv1 := [(0, .ref s), (1, .ref tx), (2, .int (Int32.ofNat n))]) (st1 := [.int 0, .ref s]) 2 rfl ?_
  refine f_putf rfl rfl (g := 230) rfl c_s rfl ?_
  refine f_go (pc1 := 22) (lv1 := [(0, .ref s), (1, .ref tx), (2, .int (Int32.ofNat n))]) (st1 := [.int 1, .ref s]) 2 rfl ?_
  refine f_putf rfl rfl (g := 231) rfl c_s rfl ?_
  refine f_go (pc1 := 27) (lv1 := [(0, .ref s), (1, .ref tx), (2, .int (Int32.ofNat n))]) (st1 := [.int 0, .ref s]) 2 rfl ?_
  refine f_putf rfl rfl (g := 227) rfl c_s rfl ?_
  refine f_go (pc1 := 32) (lv1 := [(0, .ref s), (1, .ref tx), (2, .int (Int32.ofNat n))]) (st1 := [.int 0, .ref s]) 2 rfl ?_
  refine f_putf rfl rfl (g := 236) rfl c_s rfl ?_
  refine f_cv (SS_start (σ := (sU (sU σ s 228 (.ref tx)) s 229 (.int (Int32.ofNat n)))) (K := K0) (V := V0) (L := L0) (H := H0) (C := C0) (A := A0) (Z := Z0) a1 a2 a3 a4 a5 a6 a7).symm ?_
  refine f_go (pc1 := 36) (lv1 := [(0, .ref s), (1, .ref tx), (2, .int (Int32.ofNat n))]) (st1 := [.ref s]) 1 rfl ?_
  refine f_getf rfl rfl (g := 232) rfl c_s f4 ?_
  refine f_go (pc1 := 40) (lv1 := [(0, .ref s), (1, .ref tx), (2, .int (Int32.ofNat n))]) (st1 := [.int (-1), .ref (s + 4)]) 1 rfl ?_
  refine f_st rfl rfl rfl rfl (g_fill (by omega) SS_H (by decide)) ?_
  refine f_go (pc1 := 48) (lv1 := [(4, .int 0), (3, .int 1), (0, .ref s), (1, .ref tx), (2, .int (Int32.ofNat n))]) (st1 := []) 4 rfl ?_
  rw [SS_putH]
  refine f_lv [(4, .int (Int32.ofNat 0)), (3, .int 1), (0, .ref s), (1, .ref tx), (2, .int (Int32.ofNat n))] (fl_c rfl (fl_c rfl (fl_c rfl (fl_c rfl (fl_c rfl fl_0))))) ?_
  exact g_scanLoop (by omega) hS hWD hSG hfl (fun p ln m K V L H C A Z h1 h2 => ⟨rfl, p, ln, m, K, V, L, H, C, A, Z, h1, h2, rfl⟩) full [] 0 1 0 K0 V0 L0 _ C0 A0 Z0 (fun _ => 0) (fun _ => 0) (fun _ => []) rfl (fun j x hx => by cases hx) (NMI.start (fun h hh => by simp [hh])) (fun i j _ hj => absurd hj (Nat.not_lt_zero _)) hL
