/-! a line of text and its tokens -/
/-- what stands from a place on -/
def Sf (T : Nat → Nat) (n p : Nat) (s : List Nat) : Prop := p + s.length = n ∧ ∀ i x, s[i]? = some x → T (p + i) = x
theorem Sf.hd {T : Nat → Nat} {n p c : Nat} {s : List Nat} (h : Sf T n p (c :: s)) : T p = c ∧ p < n ∧ Sf T n (p + 1) s := by
  obtain ⟨h1, h2⟩ := h
  rw [List.length_cons] at h1
  refine ⟨h2 0 c rfl, by omega, by omega, fun i x hx => ?_⟩
  rw [show p + 1 + i = p + (i + 1) by omega]
  exact h2 (i + 1) x hx
theorem Sf.dr {T : Nat → Nat} {n : Nat} {s : List Nat} : ∀ {a : List Nat} {p : Nat}, Sf T n p (a ++ s) → Sf T n (p + a.length) s
  | [], p, h => h
  | c :: a, p, h => by
    have := Sf.dr (a := a) (Sf.hd (s := a ++ s) h).2.2
    rw [show p + 1 + a.length = p + (c :: a).length by rw [List.length_cons]; omega] at this
    exact this
theorem Sf.pre {T : Nat → Nat} {n p : Nat} {a s : List Nat} (h : Sf T n p (a ++ s)) : ∀ i x, a[i]? = some x → T (p + i) = x := fun i x hx => h.2 i x (by
  have hi : i < a.length := by
    rcases Nat.lt_or_ge i a.length with h | h
    · exact h
    · rw [List.getElem?_eq_none h] at hx; cases hx
  rw [List.getElem?_append_left hi]
  exact hx)
theorem skB_s {T : Nat → Nat} {n f p ln : Nat} : skB T n (f + 1) p ln = if p < n then (if T p = 10 then skB T n f (p + 1) (ln + 1) else if T p = 32 then skB T n f (p + 1) ln else (p, ln)) else (p, ln) := rfl
theorem skB_st {T : Nat → Nat} {n p ln : Nat} (hp : p < n) (h1 : ¬ T p = 10) (h2 : ¬ T p = 32) : skB T n (n - p) p ln = (p, ln) := by
  rw [show n - p = (n - (p + 1)) + 1 by omega, skB_s, if_pos hp, if_neg h1, if_neg h2]
theorem skB_32 {T : Nat → Nat} {n p ln : Nat} (hp : p < n) (h2 : T p = 32) : skB T n (n - p) p ln = skB T n (n - (p + 1)) (p + 1) ln := by
  rw [show n - p = (n - (p + 1)) + 1 by omega, skB_s, if_pos hp, if_neg (by rw [h2]; decide), if_pos h2]
theorem skB_10 {T : Nat → Nat} {n p ln : Nat} (hp : p < n) (h2 : T p = 10) : skB T n (n - p) p ln = skB T n (n - (p + 1)) (p + 1) (ln + 1) := by
  rw [show n - p = (n - (p + 1)) + 1 by omega, skB_s, if_pos hp, if_pos h2]
section LXS
variable {T : Nat → Nat} {n : Nat} {WD : Nat → Nat → Int32} {SG : Nat → Int32} {SE : Nat → Nat} {sgn : Nat → Prop}
theorem Lx_sk {toks : List (Int32 × Int32 × Nat)} {p p' ln ln' m : Nat} {sa sl : Nat → Nat} (hp : p ≤ n) (h : skB T n (n - p) p ln = skB T n (n - p') p' ln') (hL : Lx T n WD SG SE sgn toks p' ln' m sa sl) : Lx T n WD SG SE sgn toks p ln m sa sl := by
  match toks, hL with
  | [], hL =>
    unfold Lx at hL ⊢
    rw [h]
    exact ⟨hp, hL.2⟩
  | (kd, v, l) :: r, hL =>
    unfold Lx at hL ⊢
    rw [h]
    exact ⟨hp, hL.2⟩
theorem Lx_word {r : List (Int32 × Int32 × Nat)} {p ln m len : Nat} {sa sl : Nat → Nat} (hp : p < n) (h1 : ¬ T p = 10) (h2 : ¬ T p = 32) (hl : letr (T p) = true) (he : nmE T n (n - p) p = p + len) (h16 : len ≤ 16) (hk : ¬ WD p len = -1) (k0 : ¬ WD p len = 0) (k1 : ¬ WD p len = 1) (hL : Lx T n WD SG SE sgn r (p + len) ln m sa sl) : Lx T n WD SG SE sgn ((WD p len, 0, ln) :: r) p ln m sa sl := by
  unfold Lx
  rw [skB_st hp h1 h2]
  dsimp only
  rw [he, Nat.add_sub_cancel_left]
  exact ⟨Nat.le_of_lt hp, hp, rfl, Or.inl ⟨hl, h16, Or.inl ⟨hk, rfl, k0, k1, rfl, hL⟩⟩⟩
theorem Lx_old {r : List (Int32 × Int32 × Nat)} {p ln m len id : Nat} {sa sl : Nat → Nat} (hp : p < n) (h1 : ¬ T p = 10) (h2 : ¬ T p = 32) (hl : letr (T p) = true) (he : nmE T n (n - p) p = p + len) (h16 : len ≤ 16) (hk : WD p len = -1) (hm : m < 3001) (hid : id < m) (hE : EqS T sa sl p len id) (hL : Lx T n WD SG SE sgn r (p + len) ln m sa sl) : Lx T n WD SG SE sgn ((2, Int32.ofNat id, ln) :: r) p ln m sa sl := by
  unfold Lx
  rw [skB_st hp h1 h2]
  dsimp only
  rw [he, Nat.add_sub_cancel_left]
  exact ⟨Nat.le_of_lt hp, hp, rfl, Or.inl ⟨hl, h16, Or.inr ⟨hk, rfl, hm, Or.inl ⟨id, hid, hE, rfl, hL⟩⟩⟩⟩
theorem Lx_new {r : List (Int32 × Int32 × Nat)} {p ln m len : Nat} {sa sl : Nat → Nat} (hp : p < n) (h1 : ¬ T p = 10) (h2 : ¬ T p = 32) (hl : letr (T p) = true) (he : nmE T n (n - p) p = p + len) (h16 : len ≤ 16) (hk : WD p len = -1) (hm : m < 3001) (hE : ∀ id, id < m → ¬ EqS T sa sl p len id) (hL : Lx T n WD SG SE sgn r (p + len) ln (m + 1) (fun k => if k = m then p else sa k) (fun k => if k = m then len else sl k)) : Lx T n WD SG SE sgn ((2, Int32.ofNat m, ln) :: r) p ln m sa sl := by
  unfold Lx
  rw [skB_st hp h1 h2]
  dsimp only
  rw [he, Nat.add_sub_cancel_left]
  exact ⟨Nat.le_of_lt hp, hp, rfl, Or.inl ⟨hl, h16, Or.inr ⟨hk, rfl, hm, Or.inr ⟨hE, rfl, hL⟩⟩⟩⟩
theorem Lx_num {r : List (Int32 × Int32 × Nat)} {p ln m : Nat} {sa sl : Nat → Nat} (hp : p < n) (h1 : ¬ T p = 10) (h2 : ¬ T p = 32) (hl : letr (T p) = false) (hd : digt (T p) = true) (h3 : T p = 48 ∨ T p = 49 ∨ T p = 50) (hp1 : p + 1 < n) (d1 : digt (T (p + 1)) = false) (l1 : letr (T (p + 1)) = false) (u1 : ¬ T (p + 1) = 95) (hL : Lx T n WD SG SE sgn r (p + 1) ln m sa sl) : Lx T n WD SG SE sgn ((3, Int32.ofNat (T p - 48), ln) :: r) p ln m sa sl := by
  unfold Lx
  rw [skB_st hp h1 h2]
  exact ⟨Nat.le_of_lt hp, hp, rfl, Or.inr (Or.inl ⟨hl, hd, h3, hp1, d1, l1, u1, rfl, rfl, hL⟩)⟩
theorem Lx_sign {r : List (Int32 × Int32 × Nat)} {p ln m : Nat} {sa sl : Nat → Nat} (hp : p < n) (h1 : ¬ T p = 10) (h2 : ¬ T p = 32) (hl : letr (T p) = false) (hd : digt (T p) = false) (hs : sgn p) (hL : Lx T n WD SG SE sgn r (SE p) ln m sa sl) : Lx T n WD SG SE sgn ((SG p, 0, ln) :: r) p ln m sa sl := by
  unfold Lx
  rw [skB_st hp h1 h2]
  exact ⟨Nat.le_of_lt hp, hp, rfl, Or.inr (Or.inr ⟨hl, hd, hs, rfl, rfl, hL⟩)⟩
end LXS
theorem nmE_s {T : Nat → Nat} {n f q : Nat} : nmE T n (f + 1) q = if q < n ∧ nmc (T q) = true then nmE T n f (q + 1) else q := rfl
theorem nmE_w {T : Nat → Nat} {n : Nat} {e : Nat} {rest : List Nat} (he : nmc e = false) : ∀ (w : List Nat) (p : Nat), Sf T n p (w ++ e :: rest) → (∀ c ∈ w, nmc c = true) → nmE T n (n - p) p = p + w.length
  | [], p, h, _ => by
    obtain ⟨h1, h2, h3⟩ := Sf.hd (c := e) (s := rest) h
    rw [show n - p = (n - (p + 1)) + 1 by omega, nmE_s, if_neg (by rw [h1, he]; simp)]
    rfl
  | c :: w, p, h, hw => by
    obtain ⟨h1, h2, h3⟩ := Sf.hd (c := c) (s := w ++ e :: rest) h
    rw [show n - p = (n - (p + 1)) + 1 by omega, nmE_s, if_pos ⟨h2, by rw [h1]; exact hw c List.mem_cons_self⟩, nmE_w he w (p + 1) h3 (fun x hx => hw x (List.mem_cons_of_mem _ hx)), List.length_cons]
    omega
def nthN : List Nat → Nat → Nat
  | [], _ => 0
  | x :: _, 0 => x
  | _ :: r, i + 1 => nthN r i
theorem nthN_at : ∀ {w : List Nat} {i : Nat}, i < w.length → w[i]? = some (nthN w i)
  | [], _, h => absurd h (Nat.not_lt_zero _)
  | x :: _, 0, _ => rfl
  | x :: r, i + 1, h => by
    show r[i]? = some (nthN r i)
    exact nthN_at (Nat.lt_of_succ_lt_succ h)
/-- the word at a place, as the scanner finds it -/
def wdL (T : Nat → Nat) (st len : Nat) : List Nat → Nat → Nat → Bool → Int32
  | [], _, _, _ => -1
  | c :: r, word, same, fits => bif Nat.beq c 32 then (bif fits && Nat.beq same len then Int32.ofNat word else wdL T st len r (word + 1) 0 true) else (bif fits && (Nat.ble (same + 1) len && Nat.beq (T (st + same)) c) then wdL T st len r word (same + 1) true else wdL T st len r word same false)
def kwN (w : List Nat) (len : Nat) : List Nat → Nat → Nat → Bool → Nat
  | [], _, _, _ => 0
  | c :: r, word, same, fits => bif Nat.beq c 32 then (bif fits && Nat.beq same len then word else kwN w len r (word + 1) 0 true) else (bif fits && (Nat.ble (same + 1) len && Nat.beq (nthN w same) c) then kwN w len r word (same + 1) true else kwN w len r word same false)
theorem wdL_kw {T : Nat → Nat} {st : Nat} {w : List Nat} (hw : ∀ i x, w[i]? = some x → T (st + i) = x) : ∀ (cs : List Nat) (word same : Nat) (fits : Bool), 1 ≤ word → wdL T st w.length cs word same fits = if kwN w w.length cs word same fits = 0 then -1 else Int32.ofNat (kwN w w.length cs word same fits)
  | [], _, _, _, _ => rfl
  | c :: r, word, same, fits, h1 => by
    unfold wdL kwN
    cases Nat.beq c 32 with
    | true =>
      cases (fits && Nat.beq same w.length) with
      | true =>
        show Int32.ofNat word = if word = 0 then -1 else Int32.ofNat word
        rw [if_neg (by omega)]
      | false => exact wdL_kw hw r (word + 1) 0 true (by omega)
    | false =>
      have e : (Nat.ble (same + 1) w.length && Nat.beq (T (st + same)) c) = (Nat.ble (same + 1) w.length && Nat.beq (nthN w same) c) := by
        cases hb : Nat.ble (same + 1) w.length with
        | false => rfl
        | true => rw [hw same _ (nthN_at (Nat.le_of_ble_eq_true hb))]
      rw [e]
      cases (fits && (Nat.ble (same + 1) w.length && Nat.beq (nthN w same) c)) with
      | true => exact wdL_kw hw r word (same + 1) true h1
      | false => exact wdL_kw hw r word same false h1
/-- the words -/
def kwC : List Nat := [65, 78, 68, 32, 65, 82, 82, 65, 89, 32, 66, 69, 71, 73, 78, 32, 66, 79, 79, 76, 69, 65, 78, 32, 66, 82, 79, 65, 68, 67, 65, 83, 84, 32, 67, 79, 78, 68, 73, 84, 73, 79, 78, 32, 68, 73, 86, 32, 68, 79, 32, 69, 76, 83, 69, 32, 69, 76, 83, 73, 70, 32, 69, 78, 68, 32, 69, 88, 67, 69, 80, 84, 32, 69, 88, 67, 69, 80, 84, 73, 79, 78, 32, 69, 88, 73, 84, 32, 70, 65, 76, 83, 69, 32, 70, 73, 78, 65, 76, 76, 89, 32, 70, 79, 82, 32, 70, 79, 82, 75, 32, 73, 70, 32, 73, 77, 80, 79, 82, 84, 32, 73, 78, 84, 69, 71, 69, 82, 32, 73, 78, 84, 69, 82, 70, 65, 67, 69, 32, 73, 83, 84, 89, 80, 69, 32, 74, 79, 73, 78, 32, 76, 79, 67, 75, 32, 76, 79, 79, 80, 32, 77, 69, 84, 72, 79, 68, 83, 32, 77, 79, 68, 32, 77, 79, 68, 85, 76, 69, 32, 77, 85, 84, 69, 88, 32, 78, 65, 82, 82, 79, 87, 32, 78, 69, 87, 32, 78, 73, 76, 32, 78, 79, 84, 32, 79, 66, 74, 69, 67, 84, 32, 79, 70, 32, 79, 82, 32, 79, 86, 69, 82, 82, 73, 68, 69, 83, 32, 80, 82, 79, 67, 69, 68, 85, 82, 69, 32, 80, 85, 84, 32, 82, 65, 73, 83, 69, 32, 82, 65, 73, 83, 69, 83, 32, 82, 69, 67, 79, 82, 68, 32, 82, 69, 70, 32, 82, 69, 84, 85, 82, 78, 32, 82, 69, 86, 69, 65, 76, 32, 82, 79, 79, 84, 32, 83, 73, 71, 78, 65, 76, 32, 84, 72, 69, 78, 32, 84, 72, 82, 69, 65, 68, 32, 84, 79, 32, 84, 82, 85, 69, 32, 84, 82, 89, 32, 84, 89, 80, 69, 32, 84, 89, 80, 69, 67, 65, 83, 69, 32, 86, 65, 82, 32, 87, 65, 73, 84, 32, 87, 72, 73, 76, 69, 32]
def WDt (T : Nat → Nat) (q len : Nat) : Int32 := wdL T q len kwC 200 0 true
def kwW (w : List Nat) : Nat := kwN w w.length kwC 200 0 true
def sgk (c d : Nat) : Nat × Nat := bif Nat.beq c 46 && Nat.beq d 46 then (4, 2) else bif Nat.beq c 58 && Nat.beq d 61 then (5, 2) else bif Nat.beq c 60 && Nat.beq d 61 then (6, 2) else bif Nat.beq c 62 && Nat.beq d 61 then (7, 2) else bif Nat.beq c 60 && Nat.beq d 58 then (8, 2) else bif Nat.beq c 61 && Nat.beq d 62 then (9, 2) else (c, 1)
def sgO (c : Nat) : Bool := iP c [40, 41, 123, 125, 91, 93, 44, 59, 58, 46, 61, 35, 60, 62, 43, 45, 42, 94, 124]
def nxT (T : Nat → Nat) (n q : Nat) : Nat := if q + 1 < n then T (q + 1) else 0
def SGt (T : Nat → Nat) (n q : Nat) : Int32 := Int32.ofNat (sgk (T q) (nxT T n q)).1
def SEt (T : Nat → Nat) (n q : Nat) : Nat := q + (sgk (T q) (nxT T n q)).2
def sgnt (T : Nat → Nat) (n q : Nat) : Prop := (sgk (T q) (nxT T n q)).2 = 2 ∨ sgO (T q) = true
/-- a line's tokens: kinds; a name's bytes, a number -/
def tkw : List Nat → List Nat
  | [] => []
  | c :: r => bif nmc c then c :: tkw r else []
def rst : List Nat → List Nat
  | [] => []
  | c :: r => bif nmc c then rst r else c :: r
def mkT (w : List Nat) (k : Nat) : Nat × List Nat := bif Nat.beq k 0 then (2, w) else (k, [])
def nxO (r : List Nat) : Bool := match r with | [] => false | d :: _ => !nmc d
def rlx : Nat → List Nat → Option (List (Nat × List Nat))
  | 0, _ => none
  | _ + 1, [] => none
  | f + 1, c :: r => bif Nat.beq c 10 then (match r with | [] => some [] | _ => none)
    else bif Nat.beq c 32 then rlx f r
    else bif letr c then (bif Nat.ble (tkw r).length 15 && (nxO (rst r) && (Nat.beq (kwW (c :: tkw r)) 0 || (Nat.ble 4 (kwW (c :: tkw r)) && Nat.ble (kwW (c :: tkw r)) 1000))) then (rlx f (rst r)).map (fun l => mkT (c :: tkw r) (kwW (c :: tkw r)) :: l) else none)
    else bif digt c then (bif Nat.ble c 50 && nxO r then (rlx f r).map (fun l => (3, [c - 48]) :: l) else none)
    else (match r with | [] => none | d :: r' => bif (Nat.beq (sgk c d).2 2 || (sgO c && Nat.beq (sgk c d).2 1)) && Nat.ble 4 (sgk c d).1 then (rlx f (bif Nat.beq (sgk c d).2 2 then r' else d :: r')).map (fun l => ((sgk c d).1, []) :: l) else none)
/-- names looked up -/
def ixW (w : List Nat) : List (List Nat) → Nat → Option Nat
  | [], _ => none
  | x :: r, i => bif lnq x w then some i else ixW w r (i + 1)
def rsv : List (List Nat) → List (Nat × List Nat) → List (Nat × Nat) × List (List Nat)
  | NS, [] => ([], NS)
  | NS, t :: r => bif Nat.beq t.1 2 then (match ixW t.2 NS 0 with | some id => (fun q : List (Nat × Nat) × List (List Nat) => ((2, id) :: q.1, q.2)) (rsv NS r) | none => (fun q : List (Nat × Nat) × List (List Nat) => ((2, NS.length) :: q.1, q.2)) (rsv (NS ++ [t.2]) r)) else bif Nat.beq t.1 3 then (fun q : List (Nat × Nat) × List (List Nat) => ((3, nthN t.2 0) :: q.1, q.2)) (rsv NS r) else (fun q : List (Nat × Nat) × List (List Nat) => ((t.1, 0) :: q.1, q.2)) (rsv NS r)
theorem lnq_rf : ∀ l, lnq l l = true
  | [] => rfl
  | a :: l => by
    unfold lnq
    rw [nb_self, lnq_rf l]
    rfl
theorem ixW_some {w : List Nat} : ∀ {NS : List (List Nat)} {i j : Nat}, ixW w NS i = some j → ∃ k, j = i + k ∧ NS[k]? = some w
  | [], _, _, h => by cases h
  | x :: r, i, j, h => by
    unfold ixW at h
    cases e : lnq x w with
    | true =>
      rw [e] at h
      cases h
      exact ⟨0, rfl, by rw [lnq_ok e]; rfl⟩
    | false =>
      rw [e] at h
      obtain ⟨k, h1, h2⟩ := ixW_some (NS := r) h
      exact ⟨k + 1, by omega, h2⟩
theorem ixW_none {w : List Nat} : ∀ {NS : List (List Nat)} {i k : Nat}, ixW w NS i = none → NS[k]? = some w → False
  | [], _, _, _, h => by cases h
  | x :: r, i, 0, h, hk => by
    cases hk
    unfold ixW at h
    rw [lnq_rf] at h
    cases h
  | x :: r, i, k + 1, h, hk => by
    unfold ixW at h
    cases e : lnq x w with
    | true => rw [e] at h; cases h
    | false =>
      rw [e] at h
      exact ixW_none (NS := r) h hk
theorem rsv_len : ∀ (rts : List (Nat × List Nat)) (NS : List (List Nat)), NS.length ≤ (rsv NS rts).2.length
  | [], NS => Nat.le_refl _
  | t :: r, NS => by
    unfold rsv
    cases Nat.beq t.1 2 with
    | true =>
      show NS.length ≤ (match ixW t.2 NS 0 with | some id => (fun q : List (Nat × Nat) × List (List Nat) => ((2, id) :: q.1, q.2)) (rsv NS r) | none => (fun q : List (Nat × Nat) × List (List Nat) => ((2, NS.length) :: q.1, q.2)) (rsv (NS ++ [t.2]) r)).2.length
      cases ixW t.2 NS 0 with
      | some id => exact rsv_len r NS
      | none =>
        have := rsv_len r (NS ++ [t.2])
        rw [List.length_append] at this
        exact Nat.le_trans (Nat.le_add_right _ _) this
    | false =>
      cases Nat.beq t.1 3 with
      | true => exact rsv_len r NS
      | false => exact rsv_len r NS
/-- the names so far, where they stand -/
def NSt (T : Nat → Nat) (sa sl : Nat → Nat) (NS : List (List Nat)) : Prop := ∀ id w, NS[id]? = some w → sl id = w.length ∧ ∀ i x, w[i]? = some x → T (sa id + i) = x
theorem tk_split : ∀ r, r = tkw r ++ rst r
  | [] => rfl
  | c :: r => by
    unfold tkw rst
    cases nmc c with
    | true =>
      show c :: r = c :: (tkw r ++ rst r)
      rw [← tk_split r]
    | false => rfl
theorem tkw_all : ∀ r, ∀ c ∈ tkw r, nmc c = true
  | [], _, h => by cases h
  | c :: r, x, h => by
    unfold tkw at h
    cases e : nmc c with
    | true =>
      rw [e] at h
      rcases List.mem_cons.mp h with rfl | h
      · exact e
      · exact tkw_all r x h
    | false => rw [e] at h; cases h
theorem nxO_ok {r : List Nat} (h : nxO r = true) : ∃ d r', r = d :: r' ∧ nmc d = false := by
  match r, h with
  | d :: r', h =>
    have h : (!nmc d) = true := h
    rw [Bool.not_eq_true'] at h
    exact ⟨d, r', rfl, h⟩
