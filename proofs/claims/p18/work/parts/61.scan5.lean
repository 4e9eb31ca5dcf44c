/-! a text and its tokens -/
/-- the tokens of the text from p on: kind, number, line; m names so far -/
def Lx (T : Nat → Nat) (n : Nat) (WD : Nat → Nat → Int32) (SG : Nat → Int32) (SE : Nat → Nat) (sgn : Nat → Prop) : List (Int32 × Int32 × Nat) → Nat → Nat → Nat → (Nat → Nat) → (Nat → Nat) → Prop
  | [], p, ln, _, _, _ => p ≤ n ∧ (skB T n (n - p) p ln).1 = n
  | (kd, v, l) :: r, p, ln, m, sa, sl => p ≤ n ∧ (skB T n (n - p) p ln).1 < n ∧ l = (skB T n (n - p) p ln).2 ∧
    ((letr (T (skB T n (n - p) p ln).1) = true ∧ nmE T n (n - (skB T n (n - p) p ln).1) (skB T n (n - p) p ln).1 - (skB T n (n - p) p ln).1 ≤ 16 ∧
        ((¬ WD (skB T n (n - p) p ln).1 (nmE T n (n - (skB T n (n - p) p ln).1) (skB T n (n - p) p ln).1 - (skB T n (n - p) p ln).1) = -1 ∧ kd = WD (skB T n (n - p) p ln).1 (nmE T n (n - (skB T n (n - p) p ln).1) (skB T n (n - p) p ln).1 - (skB T n (n - p) p ln).1) ∧ ¬ kd = 0 ∧ ¬ kd = 1 ∧ v = 0 ∧ Lx T n WD SG SE sgn r (nmE T n (n - (skB T n (n - p) p ln).1) (skB T n (n - p) p ln).1) l m sa sl) ∨
         (WD (skB T n (n - p) p ln).1 (nmE T n (n - (skB T n (n - p) p ln).1) (skB T n (n - p) p ln).1 - (skB T n (n - p) p ln).1) = -1 ∧ kd = 2 ∧ m < 3001 ∧
            ((∃ id, id < m ∧ EqS T sa sl (skB T n (n - p) p ln).1 (nmE T n (n - (skB T n (n - p) p ln).1) (skB T n (n - p) p ln).1 - (skB T n (n - p) p ln).1) id ∧ v = Int32.ofNat id ∧ Lx T n WD SG SE sgn r (nmE T n (n - (skB T n (n - p) p ln).1) (skB T n (n - p) p ln).1) l m sa sl) ∨
             ((∀ id, id < m → ¬ EqS T sa sl (skB T n (n - p) p ln).1 (nmE T n (n - (skB T n (n - p) p ln).1) (skB T n (n - p) p ln).1 - (skB T n (n - p) p ln).1) id) ∧ v = Int32.ofNat m ∧ Lx T n WD SG SE sgn r (nmE T n (n - (skB T n (n - p) p ln).1) (skB T n (n - p) p ln).1) l (m + 1) (fun k => if k = m then (skB T n (n - p) p ln).1 else sa k) (fun k => if k = m then nmE T n (n - (skB T n (n - p) p ln).1) (skB T n (n - p) p ln).1 - (skB T n (n - p) p ln).1 else sl k)))))) ∨
     (letr (T (skB T n (n - p) p ln).1) = false ∧ digt (T (skB T n (n - p) p ln).1) = true ∧ (T (skB T n (n - p) p ln).1 = 48 ∨ T (skB T n (n - p) p ln).1 = 49 ∨ T (skB T n (n - p) p ln).1 = 50) ∧ (skB T n (n - p) p ln).1 + 1 < n ∧ digt (T ((skB T n (n - p) p ln).1 + 1)) = false ∧ letr (T ((skB T n (n - p) p ln).1 + 1)) = false ∧ ¬ T ((skB T n (n - p) p ln).1 + 1) = 95 ∧ kd = 3 ∧ v = Int32.ofNat (T (skB T n (n - p) p ln).1 - 48) ∧ Lx T n WD SG SE sgn r ((skB T n (n - p) p ln).1 + 1) l m sa sl) ∨
     (letr (T (skB T n (n - p) p ln).1) = false ∧ digt (T (skB T n (n - p) p ln).1) = false ∧ sgn (skB T n (n - p) p ln).1 ∧ kd = SG (skB T n (n - p) p ln).1 ∧ v = 0 ∧ Lx T n WD SG SE sgn r (SE (skB T n (n - p) p ln).1) l m sa sl))
theorem skB_le (T : Nat → Nat) (n : Nat) : ∀ f p ln, p ≤ n → (skB T n f p ln).1 ≤ n
  | 0, p, ln, h => h
  | f + 1, p, ln, h => by
    unfold skB
    by_cases e : p < n
    · rw [if_pos e]
      by_cases e1 : T p = 10
      · rw [if_pos e1]; exact skB_le T n f (p + 1) (ln + 1) (by omega)
      · rw [if_neg e1]
        by_cases e2 : T p = 32
        · rw [if_pos e2]; exact skB_le T n f (p + 1) ln (by omega)
        · rw [if_neg e2]; exact h
    · rw [if_neg e]; exact h
/-- no two names are the same -/
def NMD (T : Nat → Nat) (m : Nat) (sa sl : Nat → Nat) : Prop := ∀ i j, i < j → j < m → ¬ (sl i = sl j ∧ smT T (sa i) (sa j) (sl j))
theorem NMD.one {T : Nat → Nat} {m : Nat} {sa sl : Nat → Nat} (h : NMD T m sa sl) {st len i j : Nat} (hi : i < m) (hj : j < m) (ei : EqS T sa sl st len i) (ej : EqS T sa sl st len j) : i = j := by
  have go : ∀ i j, i < j → j < m → EqS T sa sl st len i → EqS T sa sl st len j → False := fun i j hij hj ei ej => h i j hij hj ⟨ei.1.trans ej.1.symm, fun x hx => (ei.2 x (by rw [← ej.1]; exact hx)).trans (ej.2 x (by rw [← ej.1]; exact hx)).symm⟩
  rcases Nat.lt_trichotomy i j with q | q | q
  · exact (go i j q hj ei ej).elim
  · exact q
  · exact (go j i q hi ej ei).elim
theorem NMD.new {T : Nat → Nat} {m : Nat} {sa sl : Nat → Nat} (h : NMD T m sa sl) {st len : Nat} (hn : ∀ id, id < m → ¬ EqS T sa sl st len id) : NMD T (m + 1) (fun k => if k = m then st else sa k) (fun k => if k = m then len else sl k) := fun i j hij hj hE => by
  have him : i ≠ m := by omega
  obtain ⟨hE1, hE2⟩ := hE
  have hE1 : (if i = m then len else sl i) = (if j = m then len else sl j) := hE1
  have hE2 : smT T (if i = m then st else sa i) (if j = m then st else sa j) (if j = m then len else sl j) := hE2
  by_cases e : j = m
  · simp only [if_pos e, if_neg him] at hE1 hE2
    exact hn i (by omega) ⟨hE1, hE2⟩
  · simp only [if_neg e, if_neg him] at hE1 hE2
    exact h i j hij (by omega) ⟨hE1, hE2⟩
theorem g_scanToken {X : ev_X} {d : Nat} {σ : fl_S} (hd : 6 ≤ d) {s tx n p ln k m : Nat} {T : Nat → Nat} {K V L H C A Z : Nat → Int32} {WD : Nat → Nat → Int32} {SG : Nat → Int32} {SE : Nat → Nat} {sgn : Nat → Prop} {kd v : Int32} {l : Nat} {r : List (Int32 × Int32 × Nat)} (hS : SW σ s tx n T) (hWD : ∀ p' q len ln k m K V L H C A Z, q + len ≤ n → CF X (d - 2) 22 [.ref s, .int (Int32.ofNat q), .int (Int32.ofNat len)] (SS σ s p' ln k m K V L H C A Z) (some (.int (WD q len))) (SS σ s p' ln k m K V L H C A Z)) (hSG : ∀ q ln k m K V L H C A Z, q < n → sgn q → k ≤ 6000 → CF X (d - 1) 26 [.ref s, .int (Int32.ofNat (T q))] (SS σ s q ln k m K V L H C A Z) (some (.int 1)) (SS σ s (SE q) ln (k + 1) m (upd K k (SG q)) (upd V k 0) (upd L k (Int32.ofNat ln)) H C A Z)) {sa sl : Nat → Nat} {KS : Nat → List Nat} (hI : NMI T n m H C A Z sa sl KS) (hD : NMD T m sa sl) (hk : k ≤ 6000) (hL : Lx T n WD SG SE sgn ((kd, v, l) :: r) p ln m sa sl) : CQ X d 15 [.ref s] (SS σ s p ln k m K V L H C A Z) (fun w σ1 => w = some (.int 1) ∧ ∃ p' m' H' C' A' Z' sa' sl' KS', σ1 = SS σ s p' l (k + 1) m' (upd K k kd) (upd V k v) (upd L k (Int32.ofNat l)) H' C' A' Z' ∧ NMI T n m' H' C' A' Z' sa' sl' KS' ∧ NMD T m' sa' sl' ∧ Lx T n WD SG SE sgn r p' l m' sa' sl') := by
  have hS9 := hS
  obtain ⟨c_s, k1, k2, k3, k4, k5, k6, k7, s_text, s_size, ⟨TB, htx, hTB⟩, hn6, hT⟩ := hS
  obtain ⟨hp, hqn, hl, hL⟩ := hL
  have hsk := g_skipBlanks (X := X) (d := d - 1) (σ := σ) (k := k) (m := m) (K := K) (V := V) (L := L) (H := H) (C := C) (A := A) (Z := Z) (by omega) hS9 (n - p) p ln (Nat.le_refl _) hp
  rw [← hl] at hsk
  generalize hq : (skB T n (n - p) p ln).1 = q at *
  obtain ⟨y1, y2⟩ := hT q hqn
  refine f_meth (by omega) rfl ?_
  refine f_go (pc1 := 1) (lv1 := [(0, .ref s)]) (st1 := [.ref s]) 1 rfl ?_
  refine f_vt rfl rfl c_s rfl hsk ?_
  refine f_go (pc1 := 18) (lv1 := [(1, .int 0), (0, .ref s)]) (st1 := [.ref s]) 4 rfl ?_
  refine f_getf rfl rfl (g := 230) rfl c_s SS_230 ?_
  refine f_go (pc1 := 22) (lv1 := [(1, .int 0), (0, .ref s)]) (st1 := [.ref s, .int (Int32.ofNat q)]) 1 rfl ?_
  refine f_getf rfl rfl (g := 229) rfl c_s s_size ?_
  refine f_icmp (t := 39) rfl rfl true (nat_ltT (by omega) (by omega) hqn) ?_
  refine f_go (pc1 := 40) (lv1 := [(1, .int 0), (0, .ref s)]) (st1 := [.ref s]) 1 rfl ?_
  refine f_getf rfl rfl (g := 228) rfl c_s s_text ?_
  refine f_go (pc1 := 44) (lv1 := [(1, .int 0), (0, .ref s)]) (st1 := [.ref s, .ref tx]) 1 rfl ?_
  refine f_getf rfl rfl (g := 230) rfl c_s SS_230 ?_
  refine f_bald rfl htx (i := q) (show q < 6000 by omega) (by omega) (hTB q hqn) ?_
  refine f_go (pc1 := 52) (lv1 := [(1, .int 0), (0, .ref s)]) (st1 := [.int (Int32.ofNat (T q) &&& 255)]) 2 rfl ?_
  rw [b255 (T q) (hT q hqn).1]
  refine f_go (pc1 := 54) (lv1 := [(2, .int (Int32.ofNat (T q))), (1, .int 0), (0, .ref s)]) (st1 := [.int (Int32.ofNat (T q))]) 2 rfl ?_
  refine f_st rfl rfl rfl rfl (g_isLetter (by omega) y1) ?_
  rcases hL with ⟨z1, z2, hL⟩ | ⟨z1, z2, z3, z4, z5, z6, z7, rfl, rfl, hL⟩ | ⟨z1, z2, z3, rfl, rfl, hL⟩
  ·
    rw [z1, if_pos rfl]
    have hWq := fun ln k m K V L H C A Z => hWD (nmE T n (n - q) q) q (nmE T n (n - q) q - q) ln k m K V L H C A Z (by have := nmE_le T n (n - q) q (Nat.le_of_lt hqn); omega)
    rcases hL with ⟨w1, rfl, w2, w3, rfl, hL⟩ | ⟨w1, rfl, w2, hL⟩
    ·
      refine f_go (pc1 := 61) (lv1 := [(2, .int (Int32.ofNat (T q))), (1, .int 0), (0, .ref s)]) (st1 := [.ref s]) 2 rfl ?_
      refine f_vt rfl rfl c_s rfl (g_scanName_w (d := d - 1) (by omega) hS9 hqn hk z2 (hWq _ _ _ _ _ _ _ _ _ _) w2 w3 w1) ?_
      exact f_rtQ rfl rfl ⟨rfl, _, m, H, C, A, Z, sa, sl, KS, rfl, hI, hD, hL⟩
    ·
      refine f_go (pc1 := 61) (lv1 := [(2, .int (Int32.ofNat (T q))), (1, .int 0), (0, .ref s)]) (st1 := [.ref s]) 2 rfl ?_
      refine f_vtQ rfl rfl c_s rfl (g_scanName_n (d := d - 1) (by omega) hS9 hqn hk z2 (hWq _ _ _ _ _ _ _ _ _ _) w1 hI w2) ?_
      rintro v' σ1 ⟨rfl, ⟨id, h1, h2, rfl⟩ | ⟨h1, rfl⟩⟩
      ·
        rcases hL with ⟨id2, g1, g2, rfl, hL⟩ | ⟨g1, rfl, hL⟩
        · have e := hD.one h1 g1 h2 g2
          subst e
          exact f_rtQ rfl rfl ⟨rfl, _, m, H, C, A, Z, sa, sl, KS, rfl, hI, hD, hL⟩
        · exact absurd h2 (g1 id h1)
      ·
        rcases hL with ⟨id2, g1, g2, rfl, hL⟩ | ⟨g1, rfl, hL⟩
        · exact absurd g2 (h1 id2 g1)
        · exact f_rtQ rfl rfl ⟨rfl, _, m + 1, _, _, _, _, _, _, _, rfl, hI.new w2 (by have := nmE_le T n (n - q) q (Nat.le_of_lt hqn); omega), hD.new h1, hL⟩
  ·
    rw [z1, if_neg (by decide)]
    refine f_go (pc1 := 66) (lv1 := [(2, .int (Int32.ofNat (T q))), (1, .int 0), (0, .ref s)]) (st1 := [.int (Int32.ofNat (T q))]) 2 rfl ?_
    refine f_st rfl rfl rfl rfl (g_isDigit (by omega) y1) ?_
    rw [z2, if_pos rfl]
    rcases z3 with z3 | z3 | z3
    ·
      refine f_go (pc1 := 73) (lv1 := [(2, .int (Int32.ofNat (T q))), (1, .int 0), (0, .ref s)]) (st1 := [.ref s]) 2 rfl ?_
      refine f_vt rfl rfl c_s rfl (g_scanNum0 (by omega) hS9 hqn hk z3 z4 z5 z6 z7) ?_
      rw [z3]
      exact f_rtQ rfl rfl ⟨rfl, _, m, H, C, A, Z, sa, sl, KS, rfl, hI, hD, hL⟩
    ·
      refine f_go (pc1 := 73) (lv1 := [(2, .int (Int32.ofNat (T q))), (1, .int 0), (0, .ref s)]) (st1 := [.ref s]) 2 rfl ?_
      refine f_vt rfl rfl c_s rfl (g_scanNum1 (by omega) hS9 hqn hk z3 z4 z5 z6 z7) ?_
      rw [z3]
      exact f_rtQ rfl rfl ⟨rfl, _, m, H, C, A, Z, sa, sl, KS, rfl, hI, hD, hL⟩
    ·
      refine f_go (pc1 := 73) (lv1 := [(2, .int (Int32.ofNat (T q))), (1, .int 0), (0, .ref s)]) (st1 := [.ref s]) 2 rfl ?_
      refine f_vt rfl rfl c_s rfl (g_scanNum2 (by omega) hS9 hqn hk z3 z4 z5 z6 z7) ?_
      rw [z3]
      exact f_rtQ rfl rfl ⟨rfl, _, m, H, C, A, Z, sa, sl, KS, rfl, hI, hD, hL⟩
  ·
    rw [z1, if_neg (by decide)]
    refine f_go (pc1 := 66) (lv1 := [(2, .int (Int32.ofNat (T q))), (1, .int 0), (0, .ref s)]) (st1 := [.int (Int32.ofNat (T q))]) 2 rfl ?_
    refine f_st rfl rfl rfl rfl (g_isDigit (by omega) y1) ?_
    rw [z2, if_neg (by decide)]
    refine f_go (pc1 := 79) (lv1 := [(2, .int (Int32.ofNat (T q))), (1, .int 0), (0, .ref s)]) (st1 := [.int (Int32.ofNat (T q)), .ref s]) 3 rfl ?_
    refine f_vt rfl rfl c_s rfl (hSG q l k m K V L H C A Z hqn z3 hk) ?_
    exact f_rtQ rfl rfl ⟨rfl, _, m, H, C, A, Z, sa, sl, KS, rfl, hI, hD, hL⟩
theorem g_scanEnd {X : ev_X} {d : Nat} {σ : fl_S} (hd : 6 ≤ d) {s tx n p ln k m : Nat} {T : Nat → Nat} {K V L H C A Z : Nat → Int32} (hS : SW σ s tx n T) (hk : k ≤ 6000) (hp : p ≤ n) (hq : (skB T n (n - p) p ln).1 = n) : CF X d 15 [.ref s] (SS σ s p ln k m K V L H C A Z) (some (.int 0)) (SS σ s n (skB T n (n - p) p ln).2 k m (upd K k 0) (upd V k 0) (upd L k (Int32.ofNat (skB T n (n - p) p ln).2)) H C A Z) := by
  have hS9 := hS
  obtain ⟨c_s, k1, k2, k3, k4, k5, k6, k7, s_text, s_size, ⟨TB, htx, hTB⟩, hn6, hT⟩ := hS
  have hsk := g_skipBlanks (X := X) (d := d - 1) (σ := σ) (k := k) (m := m) (K := K) (V := V) (L := L) (H := H) (C := C) (A := A) (Z := Z) (by omega) hS9 (n - p) p ln (Nat.le_refl _) hp
  rw [hq] at hsk
  generalize (skB T n (n - p) p ln).2 = l at *
  refine f_meth (by omega) rfl ?_
  refine f_go (pc1 := 1) (lv1 := [(0, .ref s)]) (st1 := [.ref s]) 1 rfl ?_
  refine f_vt rfl rfl c_s rfl hsk ?_
  refine f_go (pc1 := 18) (lv1 := [(1, .int 0), (0, .ref s)]) (st1 := [.ref s]) 4 rfl ?_
  refine f_getf rfl rfl (g := 230) rfl c_s SS_230 ?_
  refine f_go (pc1 := 22) (lv1 := [(1, .int 0), (0, .ref s)]) (st1 := [.ref s, .int (Int32.ofNat n)]) 1 rfl ?_
  refine f_getf rfl rfl (g := 229) rfl c_s s_size ?_
  refine f_icmp (t := 39) rfl rfl false (nat_ltF (by omega) (by omega) (Nat.le_refl _)) ?_
  refine f_go (pc1 := 32) (lv1 := [(1, .int 0), (0, .ref s)]) (st1 := [.ref s, .int 0, .int 0, .ref s]) 4 rfl ?_
  refine f_getf rfl rfl (g := 231) rfl c_s SS_231 ?_
  refine f_vt rfl rfl c_s rfl (g_putToken0 (by omega) hS9 hk) ?_
  exact f_rt rfl rfl
theorem g_scanLoop {X : ev_X} {d : Nat} {σ : fl_S} {Q : Option Value → fl_S → Prop} (hd : 7 ≤ d) {s tx n tx0 : Nat} {ln0 : Int32} {T : Nat → Nat} {WD : Nat → Nat → Int32} {SG : Nat → Int32} {SE : Nat → Nat} {sgn : Nat → Prop} (hS : SW σ s tx n T) (hWD : ∀ p' q len ln k m K V L H C A Z, q + len ≤ n → CF X (d - 3) 22 [.ref s, .int (Int32.ofNat q), .int (Int32.ofNat len)] (SS σ s p' ln k m K V L H C A Z) (some (.int (WD q len))) (SS σ s p' ln k m K V L H C A Z)) (hSG : ∀ q ln k m K V L H C A Z, q < n → sgn q → k ≤ 6000 → CF X (d - 2) 26 [.ref s, .int (Int32.ofNat (T q))] (SS σ s q ln k m K V L H C A Z) (some (.int 1)) (SS σ s (SE q) ln (k + 1) m (upd K k (SG q)) (upd V k 0) (upd L k (Int32.ofNat ln)) H C A Z)) {full : List (Int32 × Int32 × Nat)} (hfl : full.length ≤ 6000)
    (hq : ∀ p ln m K V L H C A Z, (∀ j x, full[j]? = some x → K j = x.1 ∧ V j = x.2.1 ∧ L j = Int32.ofNat x.2.2) → K full.length = 0 → Q none (SS σ s p ln full.length m K V L H C A Z)) :
    ∀ (l done : List (Int32 × Int32 × Nat)) p ln m K V L H C A Z sa sl KS, full = done ++ l → (∀ j x, done[j]? = some x → K j = x.1 ∧ V j = x.2.1 ∧ L j = Int32.ofNat x.2.2) → NMI T n m H C A Z sa sl KS → NMD T m sa sl → Lx T n WD SG SE sgn l p ln m sa sl → EQ X (d - 1) 14 48 [(4, .int (Int32.ofNat done.length)), (3, .int 1), (0, .ref s), (1, .ref tx0), (2, .int ln0)] [] (SS σ s p ln done.length m K V L H C A Z) Q := by
  have hS9 := hS
  obtain ⟨c_s, -⟩ := hS
  intro l
  induction l with
  | nil =>
    intro done p ln m K V L H C A Z sa sl KS hf hK hI hD hL
    rw [List.append_nil] at hf
    subst hf
    obtain ⟨hp, hL⟩ := hL
    refine f_go (pc1 := 53) (lv1 := [(4, .int (Int32.ofNat full.length)), (3, .int 1), (0, .ref s), (1, .ref tx0), (2, .int ln0)]) (st1 := [.int 6000, .int (Int32.ofNat full.length)]) 2 rfl ?_
    refine f_icmp (t := 71) rfl rfl false (nat_gtF (n := 6000) (by omega) (by decide) hfl) ?_
    refine f_go (pc1 := 61) (lv1 := [(4, .int (Int32.ofNat full.length)), (3, .int 1), (0, .ref s), (1, .ref tx0), (2, .int ln0)]) (st1 := [.ref s]) 3 rfl ?_
    refine f_vt rfl rfl c_s rfl (g_scanEnd (by omega) hS9 hfl hp hL) ?_
    refine f_go (pc1 := 48) (lv1 := [(4, .int ((Int32.ofNat full.length) + 1)), (3, .int 0), (0, .ref s), (1, .ref tx0), (2, .int ln0)]) (st1 := []) 3 rfl ?_
    rw [nat_s full.length]
    have hq2 := hq n (skB T n (n - p) p ln).2 m (upd K full.length 0) (upd V full.length 0) (upd L full.length (Int32.ofNat (skB T n (n - p) p ln).2)) H C A Z (fun j x hx => ?_) (by simp [upd])
    cases hgt : ev_ic .gt (Int32.ofNat (full.length + 1)) 6000 with
    | true =>
      refine f_go (pc1 := 53) (lv1 := [(4, .int (Int32.ofNat (full.length + 1))), (3, .int 0), (0, .ref s), (1, .ref tx0), (2, .int ln0)]) (st1 := [.int 6000, .int (Int32.ofNat (full.length + 1))]) 2 rfl ?_
      refine f_icmp (t := 71) rfl rfl true hgt ?_
      exact f_rtQ rfl rfl hq2
    | false =>
      refine f_go (pc1 := 53) (lv1 := [(4, .int (Int32.ofNat (full.length + 1))), (3, .int 0), (0, .ref s), (1, .ref tx0), (2, .int ln0)]) (st1 := [.int 6000, .int (Int32.ofNat (full.length + 1))]) 2 rfl ?_
      refine f_icmp (t := 71) rfl rfl false hgt ?_
      refine f_go (pc1 := 71) (lv1 := [(4, .int (Int32.ofNat (full.length + 1))), (3, .int 0), (0, .ref s), (1, .ref tx0), (2, .int ln0)]) (st1 := []) 2 rfl ?_
      exact f_rtQ rfl rfl hq2
    have hj : j ≠ full.length := fun e => by
      subst e
      simp at hx
    simp only [upd, if_neg hj]
    exact hK j x hx
  | cons t r ih =>
    obtain ⟨kd, v, l⟩ := t
    intro done p ln m K V L H C A Z sa sl KS hf hK hI hD hL
    have hf2 : full = (done ++ [(kd, v, l)]) ++ r := by rw [hf]; simp
    have hdl : done.length < full.length := by rw [hf, List.length_append]; simp
    have hlen : (done ++ [(kd, v, l)]).length = done.length + 1 := by simp
    refine f_go (pc1 := 53) (lv1 := [(4, .int (Int32.ofNat done.length)), (3, .int 1), (0, .ref s), (1, .ref tx0), (2, .int ln0)]) (st1 := [.int 6000, .int (Int32.ofNat done.length)]) 2 rfl ?_
    refine f_icmp (t := 71) rfl rfl false (nat_gtF (n := 6000) (by omega) (by decide) (by omega)) ?_
    refine f_go (pc1 := 61) (lv1 := [(4, .int (Int32.ofNat done.length)), (3, .int 1), (0, .ref s), (1, .ref tx0), (2, .int ln0)]) (st1 := [.ref s]) 3 rfl ?_
    refine f_vtQ rfl rfl c_s rfl (g_scanToken (by omega) hS9 hWD hSG hI hD (by omega) hL) ?_
    rintro w' σ1 ⟨rfl, p', m', H', C', A', Z', sa', sl', KS', rfl, hI2, hD2, hL2⟩
    refine f_go (pc1 := 48) (lv1 := [(4, .int ((Int32.ofNat done.length) + 1)), (3, .int 1), (0, .ref s), (1, .ref tx0), (2, .int ln0)]) (st1 := []) 3 rfl ?_
    rw [nat_s done.length]
    refine f_lv [(4, .int (Int32.ofNat (done.length + 1))), (3, .int 1), (0, .ref s), (1, .ref tx0), (2, .int ln0)] (fl_c rfl (fl_c rfl (fl_c rfl (fl_c rfl (fl_c rfl fl_0))))) ?_
    have ih := ih (done ++ [(kd, v, l)]) p' l m' (upd K done.length kd) (upd V done.length v) (upd L done.length (Int32.ofNat l)) H' C' A' Z' sa' sl' KS' hf2 (fun j x hx => ?_) hI2 hD2 hL2
    · rw [hlen] at ih
      exact ih
    · by_cases e : j = done.length
      · subst e
        have hx2 : x = (kd, v, l) := by simpa using hx.symm
        subst hx2
        simp [upd]
      · simp only [upd, if_neg e]
        refine hK j x ?_
        rw [List.getElem?_append] at hx
        by_cases h1 : j < done.length
        · rw [if_pos h1] at hx; exact hx
        · rw [if_neg h1] at hx
          have : j - done.length ≠ 0 := by omega
          rw [List.getElem?_eq_none (by simp; omega)] at hx
          cases hx
