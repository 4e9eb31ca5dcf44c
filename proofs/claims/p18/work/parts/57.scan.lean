theorem nat_ltF {m n : Nat} (hm : m < 2147483648) (hn : n < 2147483648) (h : n ≤ m) : ev_ic .lt (Int32.ofNat m) (Int32.ofNat n) = false := by simp [ev_ic, nat_li hm hn]; omega
/-! the scanner on its way: where it stands, line, tokens, names; its seven rows -/
def SS (σ : fl_S) (s p ln k m : Nat) (K V L H C A Z : Nat → Int32) : fl_S :=
  (sC σ, FU (FU (FU (FU (sF σ) s 236 (.int (Int32.ofNat m))) s 227 (.int (Int32.ofNat k))) s 231 (.int (Int32.ofNat ln))) s 230 (.int (Int32.ofNat p)), (fun b => bif Nat.beq b (s + 1) then some (6001, K) else bif Nat.beq b (s + 2) then some (6001, V) else bif Nat.beq b (s + 3) then some (6001, L) else bif Nat.beq b (s + 4) then some (256, H) else bif Nat.beq b (s + 5) then some (3001, C) else bif Nat.beq b (s + 6) then some (3001, A) else bif Nat.beq b (s + 7) then some (3001, Z) else sI σ b), sY σ, sR σ, σ.2.2.2.2.2)
section SSS
variable {σ : fl_S} {s p ln k m : Nat} {K V L H C A Z : Nat → Int32}
theorem SS_230 : sF (SS σ s p ln k m K V L H C A Z) s 230 = .int (Int32.ofNat p) := by
  show (bif Nat.beq s s then Value.int (Int32.ofNat p) else _) = _
  rw [nb_self]; rfl
theorem SS_put230 {x : Nat} : sU (SS σ s p ln k m K V L H C A Z) s 230 (.int (Int32.ofNat x)) = SS σ s x ln k m K V L H C A Z := by
  refine Prod.ext rfl (Prod.ext ?_ rfl)
  funext b h
  show FU (FU (FU (FU (FU (sF σ) s 236 _) s 227 _) s 231 _) s 230 _) s 230 _ b h = FU (FU (FU (FU (sF σ) s 236 _) s 227 _) s 231 _) s 230 _ b h
  unfold FU
  by_cases e : b = s
  · subst e
    rw [nb_self]
    by_cases e1 : h = 230
    · subst e1; rfl
    · by_cases e2 : h = 231
      · subst e2; rfl
      · by_cases e3 : h = 227
        · subst e3; rfl
        · by_cases e4 : h = 236
          · subst e4; rfl
          · rw [nb_ne e1, nb_ne e2, nb_ne e3, nb_ne e4]; rfl
  · rw [nb_ne e]
    cases Nat.beq h 230 <;> cases Nat.beq h 231 <;> cases Nat.beq h 227 <;> cases Nat.beq h 236 <;> rfl
theorem SS_231 : sF (SS σ s p ln k m K V L H C A Z) s 231 = .int (Int32.ofNat ln) := by
  show (bif Nat.beq s s then Value.int (Int32.ofNat ln) else _) = _
  rw [nb_self]; rfl
theorem SS_put231 {x : Nat} : sU (SS σ s p ln k m K V L H C A Z) s 231 (.int (Int32.ofNat x)) = SS σ s p x k m K V L H C A Z := by
  refine Prod.ext rfl (Prod.ext ?_ rfl)
  funext b h
  show FU (FU (FU (FU (FU (sF σ) s 236 _) s 227 _) s 231 _) s 230 _) s 231 _ b h = FU (FU (FU (FU (sF σ) s 236 _) s 227 _) s 231 _) s 230 _ b h
  unfold FU
  by_cases e : b = s
  · subst e
    rw [nb_self]
    by_cases e1 : h = 230
    · subst e1; rfl
    · by_cases e2 : h = 231
      · subst e2; rfl
      · by_cases e3 : h = 227
        · subst e3; rfl
        · by_cases e4 : h = 236
          · subst e4; rfl
          · rw [nb_ne e1, nb_ne e2, nb_ne e3, nb_ne e4]; rfl
  · rw [nb_ne e]
    cases Nat.beq h 230 <;> cases Nat.beq h 231 <;> cases Nat.beq h 227 <;> cases Nat.beq h 236 <;> rfl
theorem SS_227 : sF (SS σ s p ln k m K V L H C A Z) s 227 = .int (Int32.ofNat k) := by
  show (bif Nat.beq s s then Value.int (Int32.ofNat k) else _) = _
  rw [nb_self]; rfl
theorem SS_put227 {x : Nat} : sU (SS σ s p ln k m K V L H C A Z) s 227 (.int (Int32.ofNat x)) = SS σ s p ln x m K V L H C A Z := by
  refine Prod.ext rfl (Prod.ext ?_ rfl)
  funext b h
  show FU (FU (FU (FU (FU (sF σ) s 236 _) s 227 _) s 231 _) s 230 _) s 227 _ b h = FU (FU (FU (FU (sF σ) s 236 _) s 227 _) s 231 _) s 230 _ b h
  unfold FU
  by_cases e : b = s
  · subst e
    rw [nb_self]
    by_cases e1 : h = 230
    · subst e1; rfl
    · by_cases e2 : h = 231
      · subst e2; rfl
      · by_cases e3 : h = 227
        · subst e3; rfl
        · by_cases e4 : h = 236
          · subst e4; rfl
          · rw [nb_ne e1, nb_ne e2, nb_ne e3, nb_ne e4]; rfl
  · rw [nb_ne e]
    cases Nat.beq h 230 <;> cases Nat.beq h 231 <;> cases Nat.beq h 227 <;> cases Nat.beq h 236 <;> rfl
theorem SS_236 : sF (SS σ s p ln k m K V L H C A Z) s 236 = .int (Int32.ofNat m) := by
  show (bif Nat.beq s s then Value.int (Int32.ofNat m) else _) = _
  rw [nb_self]; rfl
theorem SS_put236 {x : Nat} : sU (SS σ s p ln k m K V L H C A Z) s 236 (.int (Int32.ofNat x)) = SS σ s p ln k x K V L H C A Z := by
  refine Prod.ext rfl (Prod.ext ?_ rfl)
  funext b h
  show FU (FU (FU (FU (FU (sF σ) s 236 _) s 227 _) s 231 _) s 230 _) s 236 _ b h = FU (FU (FU (FU (sF σ) s 236 _) s 227 _) s 231 _) s 230 _ b h
  unfold FU
  by_cases e : b = s
  · subst e
    rw [nb_self]
    by_cases e1 : h = 230
    · subst e1; rfl
    · by_cases e2 : h = 231
      · subst e2; rfl
      · by_cases e3 : h = 227
        · subst e3; rfl
        · by_cases e4 : h = 236
          · subst e4; rfl
          · rw [nb_ne e1, nb_ne e2, nb_ne e3, nb_ne e4]; rfl
  · rw [nb_ne e]
    cases Nat.beq h 230 <;> cases Nat.beq h 231 <;> cases Nat.beq h 227 <;> cases Nat.beq h 236 <;> rfl
theorem SS_K : sI (SS σ s p ln k m K V L H C A Z) (s + 1) = some (6001, K) := by
  show (bif Nat.beq (s + 1) (s + 1) then some (6001, K) else bif Nat.beq (s + 1) (s + 2) then some (6001, V) else bif Nat.beq (s + 1) (s + 3) then some (6001, L) else bif Nat.beq (s + 1) (s + 4) then some (256, H) else bif Nat.beq (s + 1) (s + 5) then some (3001, C) else bif Nat.beq (s + 1) (s + 6) then some (3001, A) else bif Nat.beq (s + 1) (s + 7) then some (3001, Z) else sI σ (s + 1)) = _
  rw [nb_self]; rfl
theorem SS_putK {f : Nat → Int32} : sI1 (SS σ s p ln k m K V L H C A Z) (s + 1) (6001, f) = SS σ s p ln k m f V L H C A Z := by
  refine Prod.ext rfl (Prod.ext rfl (Prod.ext ?_ rfl))
  funext b
  show (bif Nat.beq b (s + 1) then some (6001, f) else bif Nat.beq b (s + 1) then some (6001, K) else bif Nat.beq b (s + 2) then some (6001, V) else bif Nat.beq b (s + 3) then some (6001, L) else bif Nat.beq b (s + 4) then some (256, H) else bif Nat.beq b (s + 5) then some (3001, C) else bif Nat.beq b (s + 6) then some (3001, A) else bif Nat.beq b (s + 7) then some (3001, Z) else sI σ b) = (bif Nat.beq b (s + 1) then some (6001, f) else bif Nat.beq b (s + 2) then some (6001, V) else bif Nat.beq b (s + 3) then some (6001, L) else bif Nat.beq b (s + 4) then some (256, H) else bif Nat.beq b (s + 5) then some (3001, C) else bif Nat.beq b (s + 6) then some (3001, A) else bif Nat.beq b (s + 7) then some (3001, Z) else sI σ b)
  cases Nat.beq b (s + 1) <;> rfl
theorem SS_V : sI (SS σ s p ln k m K V L H C A Z) (s + 2) = some (6001, V) := by
  show (bif Nat.beq (s + 2) (s + 1) then some (6001, K) else bif Nat.beq (s + 2) (s + 2) then some (6001, V) else bif Nat.beq (s + 2) (s + 3) then some (6001, L) else bif Nat.beq (s + 2) (s + 4) then some (256, H) else bif Nat.beq (s + 2) (s + 5) then some (3001, C) else bif Nat.beq (s + 2) (s + 6) then some (3001, A) else bif Nat.beq (s + 2) (s + 7) then some (3001, Z) else sI σ (s + 2)) = _
  rw [nb_ne (by omega), nb_self]; rfl
theorem SS_putV {f : Nat → Int32} : sI1 (SS σ s p ln k m K V L H C A Z) (s + 2) (6001, f) = SS σ s p ln k m K f L H C A Z := by
  refine Prod.ext rfl (Prod.ext rfl (Prod.ext ?_ rfl))
  funext b
  show (bif Nat.beq b (s + 2) then some (6001, f) else bif Nat.beq b (s + 1) then some (6001, K) else bif Nat.beq b (s + 2) then some (6001, V) else bif Nat.beq b (s + 3) then some (6001, L) else bif Nat.beq b (s + 4) then some (256, H) else bif Nat.beq b (s + 5) then some (3001, C) else bif Nat.beq b (s + 6) then some (3001, A) else bif Nat.beq b (s + 7) then some (3001, Z) else sI σ b) = (bif Nat.beq b (s + 1) then some (6001, K) else bif Nat.beq b (s + 2) then some (6001, f) else bif Nat.beq b (s + 3) then some (6001, L) else bif Nat.beq b (s + 4) then some (256, H) else bif Nat.beq b (s + 5) then some (3001, C) else bif Nat.beq b (s + 6) then some (3001, A) else bif Nat.beq b (s + 7) then some (3001, Z) else sI σ b)
  by_cases e0 : b = s + 1
  · subst e0; rw [nb_ne (show s + 1 ≠ s + 2 by omega), nb_self]; rfl
  · rw [nb_ne e0]
    cases Nat.beq b (s + 2) <;> rfl
theorem SS_L : sI (SS σ s p ln k m K V L H C A Z) (s + 3) = some (6001, L) := by
  show (bif Nat.beq (s + 3) (s + 1) then some (6001, K) else bif Nat.beq (s + 3) (s + 2) then some (6001, V) else bif Nat.beq (s + 3) (s + 3) then some (6001, L) else bif Nat.beq (s + 3) (s + 4) then some (256, H) else bif Nat.beq (s + 3) (s + 5) then some (3001, C) else bif Nat.beq (s + 3) (s + 6) then some (3001, A) else bif Nat.beq (s + 3) (s + 7) then some (3001, Z) else sI σ (s + 3)) = _
  rw [nb_ne (by omega), nb_ne (by omega), nb_self]; rfl
theorem SS_putL {f : Nat → Int32} : sI1 (SS σ s p ln k m K V L H C A Z) (s + 3) (6001, f) = SS σ s p ln k m K V f H C A Z := by
  refine Prod.ext rfl (Prod.ext rfl (Prod.ext ?_ rfl))
  funext b
  show (bif Nat.beq b (s + 3) then some (6001, f) else bif Nat.beq b (s + 1) then some (6001, K) else bif Nat.beq b (s + 2) then some (6001, V) else bif Nat.beq b (s + 3) then some (6001, L) else bif Nat.beq b (s + 4) then some (256, H) else bif Nat.beq b (s + 5) then some (3001, C) else bif Nat.beq b (s + 6) then some (3001, A) else bif Nat.beq b (s + 7) then some (3001, Z) else sI σ b) = (bif Nat.beq b (s + 1) then some (6001, K) else bif Nat.beq b (s + 2) then some (6001, V) else bif Nat.beq b (s + 3) then some (6001, f) else bif Nat.beq b (s + 4) then some (256, H) else bif Nat.beq b (s + 5) then some (3001, C) else bif Nat.beq b (s + 6) then some (3001, A) else bif Nat.beq b (s + 7) then some (3001, Z) else sI σ b)
  by_cases e0 : b = s + 1
  · subst e0; rw [nb_ne (show s + 1 ≠ s + 3 by omega), nb_self]; rfl
  · rw [nb_ne e0]
    by_cases e1 : b = s + 2
    · subst e1; rw [nb_ne (show s + 2 ≠ s + 3 by omega), nb_self]; rfl
    · rw [nb_ne e1]
      cases Nat.beq b (s + 3) <;> rfl
theorem SS_H : sI (SS σ s p ln k m K V L H C A Z) (s + 4) = some (256, H) := by
  show (bif Nat.beq (s + 4) (s + 1) then some (6001, K) else bif Nat.beq (s + 4) (s + 2) then some (6001, V) else bif Nat.beq (s + 4) (s + 3) then some (6001, L) else bif Nat.beq (s + 4) (s + 4) then some (256, H) else bif Nat.beq (s + 4) (s + 5) then some (3001, C) else bif Nat.beq (s + 4) (s + 6) then some (3001, A) else bif Nat.beq (s + 4) (s + 7) then some (3001, Z) else sI σ (s + 4)) = _
  rw [nb_ne (by omega), nb_ne (by omega), nb_ne (by omega), nb_self]; rfl
theorem SS_putH {f : Nat → Int32} : sI1 (SS σ s p ln k m K V L H C A Z) (s + 4) (256, f) = SS σ s p ln k m K V L f C A Z := by
  refine Prod.ext rfl (Prod.ext rfl (Prod.ext ?_ rfl))
  funext b
  show (bif Nat.beq b (s + 4) then some (256, f) else bif Nat.beq b (s + 1) then some (6001, K) else bif Nat.beq b (s + 2) then some (6001, V) else bif Nat.beq b (s + 3) then some (6001, L) else bif Nat.beq b (s + 4) then some (256, H) else bif Nat.beq b (s + 5) then some (3001, C) else bif Nat.beq b (s + 6) then some (3001, A) else bif Nat.beq b (s + 7) then some (3001, Z) else sI σ b) = (bif Nat.beq b (s + 1) then some (6001, K) else bif Nat.beq b (s + 2) then some (6001, V) else bif Nat.beq b (s + 3) then some (6001, L) else bif Nat.beq b (s + 4) then some (256, f) else bif Nat.beq b (s + 5) then some (3001, C) else bif Nat.beq b (s + 6) then some (3001, A) else bif Nat.beq b (s + 7) then some (3001, Z) else sI σ b)
  by_cases e0 : b = s + 1
  · subst e0; rw [nb_ne (show s + 1 ≠ s + 4 by omega), nb_self]; rfl
  · rw [nb_ne e0]
    by_cases e1 : b = s + 2
    · subst e1; rw [nb_ne (show s + 2 ≠ s + 4 by omega), nb_self]; rfl
    · rw [nb_ne e1]
      by_cases e2 : b = s + 3
      · subst e2; rw [nb_ne (show s + 3 ≠ s + 4 by omega), nb_self]; rfl
      · rw [nb_ne e2]
        cases Nat.beq b (s + 4) <;> rfl
theorem SS_C : sI (SS σ s p ln k m K V L H C A Z) (s + 5) = some (3001, C) := by
  show (bif Nat.beq (s + 5) (s + 1) then some (6001, K) else bif Nat.beq (s + 5) (s + 2) then some (6001, V) else bif Nat.beq (s + 5) (s + 3) then some (6001, L) else bif Nat.beq (s + 5) (s + 4) then some (256, H) else bif Nat.beq (s + 5) (s + 5) then some (3001, C) else bif Nat.beq (s + 5) (s + 6) then some (3001, A) else bif Nat.beq (s + 5) (s + 7) then some (3001, Z) else sI σ (s + 5)) = _
  rw [nb_ne (by omega), nb_ne (by omega), nb_ne (by omega), nb_ne (by omega), nb_self]; rfl
theorem SS_putC {f : Nat → Int32} : sI1 (SS σ s p ln k m K V L H C A Z) (s + 5) (3001, f) = SS σ s p ln k m K V L H f A Z := by
  refine Prod.ext rfl (Prod.ext rfl (Prod.ext ?_ rfl))
  funext b
  show (bif Nat.beq b (s + 5) then some (3001, f) else bif Nat.beq b (s + 1) then some (6001, K) else bif Nat.beq b (s + 2) then some (6001, V) else bif Nat.beq b (s + 3) then some (6001, L) else bif Nat.beq b (s + 4) then some (256, H) else bif Nat.beq b (s + 5) then some (3001, C) else bif Nat.beq b (s + 6) then some (3001, A) else bif Nat.beq b (s + 7) then some (3001, Z) else sI σ b) = (bif Nat.beq b (s + 1) then some (6001, K) else bif Nat.beq b (s + 2) then some (6001, V) else bif Nat.beq b (s + 3) then some (6001, L) else bif Nat.beq b (s + 4) then some (256, H) else bif Nat.beq b (s + 5) then some (3001, f) else bif Nat.beq b (s + 6) then some (3001, A) else bif Nat.beq b (s + 7) then some (3001, Z) else sI σ b)
  by_cases e0 : b = s + 1
  · subst e0; rw [nb_ne (show s + 1 ≠ s + 5 by omega), nb_self]; rfl
  · rw [nb_ne e0]
    by_cases e1 : b = s + 2
    · subst e1; rw [nb_ne (show s + 2 ≠ s + 5 by omega), nb_self]; rfl
    · rw [nb_ne e1]
      by_cases e2 : b = s + 3
      · subst e2; rw [nb_ne (show s + 3 ≠ s + 5 by omega), nb_self]; rfl
      · rw [nb_ne e2]
        by_cases e3 : b = s + 4
        · subst e3; rw [nb_ne (show s + 4 ≠ s + 5 by omega), nb_self]; rfl
        · rw [nb_ne e3]
          cases Nat.beq b (s + 5) <;> rfl
theorem SS_A : sI (SS σ s p ln k m K V L H C A Z) (s + 6) = some (3001, A) := by
  show (bif Nat.beq (s + 6) (s + 1) then some (6001, K) else bif Nat.beq (s + 6) (s + 2) then some (6001, V) else bif Nat.beq (s + 6) (s + 3) then some (6001, L) else bif Nat.beq (s + 6) (s + 4) then some (256, H) else bif Nat.beq (s + 6) (s + 5) then some (3001, C) else bif Nat.beq (s + 6) (s + 6) then some (3001, A) else bif Nat.beq (s + 6) (s + 7) then some (3001, Z) else sI σ (s + 6)) = _
  rw [nb_ne (by omega), nb_ne (by omega), nb_ne (by omega), nb_ne (by omega), nb_ne (by omega), nb_self]; rfl
theorem SS_putA {f : Nat → Int32} : sI1 (SS σ s p ln k m K V L H C A Z) (s + 6) (3001, f) = SS σ s p ln k m K V L H C f Z := by
  refine Prod.ext rfl (Prod.ext rfl (Prod.ext ?_ rfl))
  funext b
  show (bif Nat.beq b (s + 6) then some (3001, f) else bif Nat.beq b (s + 1) then some (6001, K) else bif Nat.beq b (s + 2) then some (6001, V) else bif Nat.beq b (s + 3) then some (6001, L) else bif Nat.beq b (s + 4) then some (256, H) else bif Nat.beq b (s + 5) then some (3001, C) else bif Nat.beq b (s + 6) then some (3001, A) else bif Nat.beq b (s + 7) then some (3001, Z) else sI σ b) = (bif Nat.beq b (s + 1) then some (6001, K) else bif Nat.beq b (s + 2) then some (6001, V) else bif Nat.beq b (s + 3) then some (6001, L) else bif Nat.beq b (s + 4) then some (256, H) else bif Nat.beq b (s + 5) then some (3001, C) else bif Nat.beq b (s + 6) then some (3001, f) else bif Nat.beq b (s + 7) then some (3001, Z) else sI σ b)
  by_cases e0 : b = s + 1
  · subst e0; rw [nb_ne (show s + 1 ≠ s + 6 by omega), nb_self]; rfl
  · rw [nb_ne e0]
    by_cases e1 : b = s + 2
    · subst e1; rw [nb_ne (show s + 2 ≠ s + 6 by omega), nb_self]; rfl
    · rw [nb_ne e1]
      by_cases e2 : b = s + 3
      · subst e2; rw [nb_ne (show s + 3 ≠ s + 6 by omega), nb_self]; rfl
      · rw [nb_ne e2]
        by_cases e3 : b = s + 4
        · subst e3; rw [nb_ne (show s + 4 ≠ s + 6 by omega), nb_self]; rfl
        · rw [nb_ne e3]
          by_cases e4 : b = s + 5
          · subst e4; rw [nb_ne (show s + 5 ≠ s + 6 by omega), nb_self]; rfl
          · rw [nb_ne e4]
            cases Nat.beq b (s + 6) <;> rfl
theorem SS_Z : sI (SS σ s p ln k m K V L H C A Z) (s + 7) = some (3001, Z) := by
  show (bif Nat.beq (s + 7) (s + 1) then some (6001, K) else bif Nat.beq (s + 7) (s + 2) then some (6001, V) else bif Nat.beq (s + 7) (s + 3) then some (6001, L) else bif Nat.beq (s + 7) (s + 4) then some (256, H) else bif Nat.beq (s + 7) (s + 5) then some (3001, C) else bif Nat.beq (s + 7) (s + 6) then some (3001, A) else bif Nat.beq (s + 7) (s + 7) then some (3001, Z) else sI σ (s + 7)) = _
  rw [nb_ne (by omega), nb_ne (by omega), nb_ne (by omega), nb_ne (by omega), nb_ne (by omega), nb_ne (by omega), nb_self]; rfl
theorem SS_putZ {f : Nat → Int32} : sI1 (SS σ s p ln k m K V L H C A Z) (s + 7) (3001, f) = SS σ s p ln k m K V L H C A f := by
  refine Prod.ext rfl (Prod.ext rfl (Prod.ext ?_ rfl))
  funext b
  show (bif Nat.beq b (s + 7) then some (3001, f) else bif Nat.beq b (s + 1) then some (6001, K) else bif Nat.beq b (s + 2) then some (6001, V) else bif Nat.beq b (s + 3) then some (6001, L) else bif Nat.beq b (s + 4) then some (256, H) else bif Nat.beq b (s + 5) then some (3001, C) else bif Nat.beq b (s + 6) then some (3001, A) else bif Nat.beq b (s + 7) then some (3001, Z) else sI σ b) = (bif Nat.beq b (s + 1) then some (6001, K) else bif Nat.beq b (s + 2) then some (6001, V) else bif Nat.beq b (s + 3) then some (6001, L) else bif Nat.beq b (s + 4) then some (256, H) else bif Nat.beq b (s + 5) then some (3001, C) else bif Nat.beq b (s + 6) then some (3001, A) else bif Nat.beq b (s + 7) then some (3001, f) else sI σ b)
  by_cases e0 : b = s + 1
  · subst e0; rw [nb_ne (show s + 1 ≠ s + 7 by omega), nb_self]; rfl
  · rw [nb_ne e0]
    by_cases e1 : b = s + 2
    · subst e1; rw [nb_ne (show s + 2 ≠ s + 7 by omega), nb_self]; rfl
    · rw [nb_ne e1]
      by_cases e2 : b = s + 3
      · subst e2; rw [nb_ne (show s + 3 ≠ s + 7 by omega), nb_self]; rfl
      · rw [nb_ne e2]
        by_cases e3 : b = s + 4
        · subst e3; rw [nb_ne (show s + 4 ≠ s + 7 by omega), nb_self]; rfl
        · rw [nb_ne e3]
          by_cases e4 : b = s + 5
          · subst e4; rw [nb_ne (show s + 5 ≠ s + 7 by omega), nb_self]; rfl
          · rw [nb_ne e4]
            by_cases e5 : b = s + 6
            · subst e5; rw [nb_ne (show s + 6 ≠ s + 7 by omega), nb_self]; rfl
            · rw [nb_ne e5]
              cases Nat.beq b (s + 7) <;> rfl
end SSS
/-- what the scanner is made of, the text it reads -/
def SW (σ : fl_S) (s tx n : Nat) (T : Nat → Nat) : Prop :=
  sC σ 7 s = true ∧ sF σ s 224 = .ref (s + 1) ∧ sF σ s 225 = .ref (s + 2) ∧ sF σ s 226 = .ref (s + 3) ∧ sF σ s 232 = .ref (s + 4) ∧ sF σ s 233 = .ref (s + 5) ∧ sF σ s 234 = .ref (s + 6) ∧ sF σ s 235 = .ref (s + 7) ∧ sF σ s 228 = .ref tx ∧ sF σ s 229 = .int (Int32.ofNat n) ∧ (∃ TB, sY σ tx = some (6000, TB) ∧ ∀ j, j < n → TB j = Int32.ofNat (T j)) ∧ n ≤ 6000 ∧ ∀ j, j < n → T j < 128 ∧ T j ≠ 9 ∧ T j ≠ 13 ∧ T j ≠ 40
theorem b255 : ∀ c, c < 128 → Int32.ofNat c &&& 255 = Int32.ofNat c := by decide
def letr (c : Nat) : Bool := (Nat.ble 65 c && Nat.ble c 90) || (Nat.ble 97 c && Nat.ble c 122)
def digt (c : Nat) : Bool := Nat.ble 48 c && Nat.ble c 57
theorem g_isLetter {X : ev_X} {d : Nat} {σ : fl_S} (hd : 1 ≤ d) {c : Nat} (hc : c < 128) : CF X d 19 [.int (Int32.ofNat c)] σ (some (.int (if letr c = true then 1 else 0))) σ := by
  refine f_meth hd rfl ?_
  refine f_go (pc1 := 3) (lv1 := [(0, .int (Int32.ofNat c))]) (st1 := [.int 65, .int (Int32.ofNat c)]) 2 rfl ?_
  by_cases h0 : c < 65
  ·
    refine f_icmp (t := 12) rfl rfl true (nat_ltT (n := 65) (by omega) (by decide) (by omega)) ?_
    refine f_go (pc1 := 15) (lv1 := [(0, .int (Int32.ofNat c))]) (st1 := [.int 97, .int (Int32.ofNat c)]) 2 rfl ?_
    by_cases h1 : c < 97
    ·
      refine f_icmp (t := 28) rfl rfl true (nat_ltT (n := 97) (by omega) (by decide) (by omega)) ?_
      refine f_go (pc1 := 29) (lv1 := [(0, .int (Int32.ofNat c))]) (st1 := [.int 0]) 1 rfl ?_
      rw [show letr c = false by
        cases hx : letr c with
        | false => rfl
        | true => simp [letr] at hx; omega]
      exact f_rt rfl rfl
    ·
      refine f_icmp (t := 28) rfl rfl false (nat_ltF (n := 97) (by omega) (by decide) (by omega)) ?_
      refine f_go (pc1 := 21) (lv1 := [(0, .int (Int32.ofNat c))]) (st1 := [.int 122, .int (Int32.ofNat c)]) 2 rfl ?_
      by_cases h2 : 122 < c
      ·
        refine f_icmp (t := 28) rfl rfl true (nat_gtT (n := 122) (by omega) (by decide) (by omega)) ?_
        refine f_go (pc1 := 29) (lv1 := [(0, .int (Int32.ofNat c))]) (st1 := [.int 0]) 1 rfl ?_
        rw [show letr c = false by
          cases hx : letr c with
          | false => rfl
          | true => simp [letr] at hx; omega]
        exact f_rt rfl rfl
      ·
        refine f_icmp (t := 28) rfl rfl false (nat_gtF (n := 122) (by omega) (by decide) (by omega)) ?_
        refine f_go (pc1 := 29) (lv1 := [(0, .int (Int32.ofNat c))]) (st1 := [.int 1]) 2 rfl ?_
        rw [show letr c = true by unfold letr; simp; omega]
        exact f_rt rfl rfl
  ·
    refine f_icmp (t := 12) rfl rfl false (nat_ltF (n := 65) (by omega) (by decide) (by omega)) ?_
    refine f_go (pc1 := 9) (lv1 := [(0, .int (Int32.ofNat c))]) (st1 := [.int 90, .int (Int32.ofNat c)]) 2 rfl ?_
    by_cases h1 : c ≤ 90
    ·
      refine f_icmp (t := 24) rfl rfl true (nat_leT (n := 90) (by omega) (by decide) (by omega)) ?_
      refine f_go (pc1 := 29) (lv1 := [(0, .int (Int32.ofNat c))]) (st1 := [.int 1]) 2 rfl ?_
      rw [show letr c = true by unfold letr; simp; omega]
      exact f_rt rfl rfl
    ·
      refine f_icmp (t := 24) rfl rfl false (nat_leF (n := 90) (by omega) (by decide) (by omega)) ?_
      refine f_go (pc1 := 15) (lv1 := [(0, .int (Int32.ofNat c))]) (st1 := [.int 97, .int (Int32.ofNat c)]) 2 rfl ?_
      by_cases h2 : c < 97
      ·
        refine f_icmp (t := 28) rfl rfl true (nat_ltT (n := 97) (by omega) (by decide) (by omega)) ?_
        refine f_go (pc1 := 29) (lv1 := [(0, .int (Int32.ofNat c))]) (st1 := [.int 0]) 1 rfl ?_
        rw [show letr c = false by
          cases hx : letr c with
          | false => rfl
          | true => simp [letr] at hx; omega]
        exact f_rt rfl rfl
      ·
        refine f_icmp (t := 28) rfl rfl false (nat_ltF (n := 97) (by omega) (by decide) (by omega)) ?_
        refine f_go (pc1 := 21) (lv1 := [(0, .int (Int32.ofNat c))]) (st1 := [.int 122, .int (Int32.ofNat c)]) 2 rfl ?_
        by_cases h3 : 122 < c
        ·
          refine f_icmp (t := 28) rfl rfl true (nat_gtT (n := 122) (by omega) (by decide) (by omega)) ?_
          refine f_go (pc1 := 29) (lv1 := [(0, .int (Int32.ofNat c))]) (st1 := [.int 0]) 1 rfl ?_
          rw [show letr c = false by
            cases hx : letr c with
            | false => rfl
            | true => simp [letr] at hx; omega]
          exact f_rt rfl rfl
        ·
          refine f_icmp (t := 28) rfl rfl false (nat_gtF (n := 122) (by omega) (by decide) (by omega)) ?_
          refine f_go (pc1 := 29) (lv1 := [(0, .int (Int32.ofNat c))]) (st1 := [.int 1]) 2 rfl ?_
          rw [show letr c = true by unfold letr; simp; omega]
          exact f_rt rfl rfl
theorem g_isDigit {X : ev_X} {d : Nat} {σ : fl_S} (hd : 1 ≤ d) {c : Nat} (hc : c < 128) : CF X d 20 [.int (Int32.ofNat c)] σ (some (.int (if digt c = true then 1 else 0))) σ := by
  refine f_meth hd rfl ?_
  refine f_go (pc1 := 3) (lv1 := [(0, .int (Int32.ofNat c))]) (st1 := [.int 48, .int (Int32.ofNat c)]) 2 rfl ?_
  by_cases h0 : c < 48
  ·
    refine f_icmp (t := 16) rfl rfl true (nat_ltT (n := 48) (by omega) (by decide) (by omega)) ?_
    refine f_go (pc1 := 17) (lv1 := [(0, .int (Int32.ofNat c))]) (st1 := [.int 0]) 1 rfl ?_
    rw [show digt c = false by
      cases hx : digt c with
      | false => rfl
      | true => simp [digt] at hx; omega]
    exact f_rt rfl rfl
  ·
    refine f_icmp (t := 16) rfl rfl false (nat_ltF (n := 48) (by omega) (by decide) (by omega)) ?_
    refine f_go (pc1 := 9) (lv1 := [(0, .int (Int32.ofNat c))]) (st1 := [.int 57, .int (Int32.ofNat c)]) 2 rfl ?_
    by_cases h1 : 57 < c
    ·
      refine f_icmp (t := 16) rfl rfl true (nat_gtT (n := 57) (by omega) (by decide) (by omega)) ?_
      refine f_go (pc1 := 17) (lv1 := [(0, .int (Int32.ofNat c))]) (st1 := [.int 0]) 1 rfl ?_
      rw [show digt c = false by
        cases hx : digt c with
        | false => rfl
        | true => simp [digt] at hx; omega]
      exact f_rt rfl rfl
    ·
      refine f_icmp (t := 16) rfl rfl false (nat_gtF (n := 57) (by omega) (by decide) (by omega)) ?_
      refine f_go (pc1 := 17) (lv1 := [(0, .int (Int32.ofNat c))]) (st1 := [.int 1]) 2 rfl ?_
      rw [show digt c = true by unfold digt; simp; omega]
      exact f_rt rfl rfl
