/-! names and their numbers -/
theorem and255 (y : Int32) : ∃ q, q < 256 ∧ y &&& 255 = Int32.ofNat q := by
  refine ⟨y.toBitVec.toNat &&& 255, Nat.lt_of_le_of_lt Nat.and_le_right (by decide), ?_⟩
  apply Int32.toBitVec.inj
  rw [Int32.toBitVec_and, Int32.toBitVec_ofNat']
  apply BitVec.eq_of_toNat_eq
  rw [BitVec.toNat_and, BitVec.toNat_ofNat]
  show y.toBitVec.toNat &&& 255 = (y.toBitVec.toNat &&& 255) % 2 ^ 32
  rw [Nat.mod_eq_of_lt (Nat.lt_of_le_of_lt Nat.and_le_right (by decide))]
def smT (T : Nat → Nat) (a b len : Nat) : Prop := ∀ i, i < len → T (a + i) = T (b + i)
theorem smT_or (T : Nat → Nat) (a b : Nat) : ∀ len, smT T a b len ∨ ∃ i, i < len ∧ T (a + i) ≠ T (b + i)
  | 0 => Or.inl (fun i hi => absurd hi (Nat.not_lt_zero _))
  | len + 1 => by
    rcases smT_or T a b len with h | ⟨i, h1, h2⟩
    · by_cases e : T (a + len) = T (b + len)
      · refine Or.inl (fun i hi => ?_)
        rcases Nat.lt_succ_iff_lt_or_eq.mp hi with q | q
        · exact h i q
        · rw [q]; exact e
      · exact Or.inr ⟨len, Nat.lt_succ_self _, e⟩
    · exact Or.inr ⟨i, Nat.lt_succ_of_lt h1, h2⟩
theorem g_sameText1 {X : ev_X} {d : Nat} {σ : fl_S} (hd : 1 ≤ d) {s tx n p ln k m : Nat} {T : Nat → Nat} {K V L H C A Z : Nat → Int32} {a b len : Nat} (hS : SW σ s tx n T) (ha : a + len ≤ n) (hb : b + len ≤ n) (hq : smT T a b len) : CF X d 24 [.ref s, .int (Int32.ofNat a), .int (Int32.ofNat b), .int (Int32.ofNat len)] (SS σ s p ln k m K V L H C A Z) (some (.int 1)) (SS σ s p ln k m K V L H C A Z) := by
  have hS9 := hS
  obtain ⟨c_s, k1, k2, k3, k4, k5, k6, k7, s_text, s_size, ⟨TB, htx, hTB⟩, hn6, hT⟩ := hS
  refine f_meth hd rfl ?_
  refine f_go (pc1 := 3) (lv1 := [(4, .int 0), (0, .ref s), (1, .int (Int32.ofNat a)), (2, .int (Int32.ofNat b)), (3, .int (Int32.ofNat len))]) (st1 := []) 2 rfl ?_
  have key : ∀ mm i, mm + i = len → EF X (d - 1) 24 3 [(4, .int (Int32.ofNat i)), (0, .ref s), (1, .int (Int32.ofNat a)), (2, .int (Int32.ofNat b)), (3, .int (Int32.ofNat len))] [] (SS σ s p ln k m K V L H C A Z) (some (.int 1)) (SS σ s p ln k m K V L H C A Z) := by
    intro mm
    induction mm with
    | zero =>
      intro i hi
      refine f_go (pc1 := 6) (lv1 := [(4, .int (Int32.ofNat i)), (0, .ref s), (1, .int (Int32.ofNat a)), (2, .int (Int32.ofNat b)), (3, .int (Int32.ofNat len))]) (st1 := [.int (Int32.ofNat len), .int (Int32.ofNat i)]) 2 rfl ?_
      refine f_icmp (t := 38) rfl rfl true (nat_geT (by omega) (by omega) (by omega)) ?_
      refine f_go (pc1 := 39) (lv1 := [(4, .int (Int32.ofNat i)), (0, .ref s), (1, .int (Int32.ofNat a)), (2, .int (Int32.ofNat b)), (3, .int (Int32.ofNat len))]) (st1 := [.int 1]) 1 rfl ?_
      exact f_rt rfl rfl
    | succ mm ih =>
      intro i hi
      have hi2 : i < len := by omega
      have hna : a + i < n := by omega
      have hnb : b + i < n := by omega
      refine f_go (pc1 := 6) (lv1 := [(4, .int (Int32.ofNat i)), (0, .ref s), (1, .int (Int32.ofNat a)), (2, .int (Int32.ofNat b)), (3, .int (Int32.ofNat len))]) (st1 := [.int (Int32.ofNat len), .int (Int32.ofNat i)]) 2 rfl ?_
      refine f_icmp (t := 38) rfl rfl false (nat_lt (by omega) (by omega) hi2) ?_
      refine f_go (pc1 := 10) (lv1 := [(4, .int (Int32.ofNat i)), (0, .ref s), (1, .int (Int32.ofNat a)), (2, .int (Int32.ofNat b)), (3, .int (Int32.ofNat len))]) (st1 := [.ref s]) 1 rfl ?_
      refine f_getf rfl rfl (g := 228) rfl c_s s_text ?_
      refine f_go (pc1 := 17) (lv1 := [(4, .int (Int32.ofNat i)), (0, .ref s), (1, .int (Int32.ofNat a)), (2, .int (Int32.ofNat b)), (3, .int (Int32.ofNat len))]) (st1 := [.int ((Int32.ofNat a) + (Int32.ofNat i)), .ref tx]) 3 rfl ?_
      rw [show ((Int32.ofNat a) + (Int32.ofNat i) : Int32) = (Int32.ofNat (a + i)) from (Int32.ofNat_add _ _).symm]
      refine f_bald rfl htx (i := a + i) (show a + i < 6000 by omega) (by omega) (hTB (a + i) hna) ?_
      refine f_go (pc1 := 19) (lv1 := [(4, .int (Int32.ofNat i)), (0, .ref s), (1, .int (Int32.ofNat a)), (2, .int (Int32.ofNat b)), (3, .int (Int32.ofNat len))]) (st1 := [.ref s, .int (Int32.ofNat (T (a + i)))]) 1 rfl ?_
      refine f_getf rfl rfl (g := 228) rfl c_s s_text ?_
      refine f_go (pc1 := 26) (lv1 := [(4, .int (Int32.ofNat i)), (0, .ref s), (1, .int (Int32.ofNat a)), (2, .int (Int32.ofNat b)), (3, .int (Int32.ofNat len))]) (st1 := [.int ((Int32.ofNat b) + (Int32.ofNat i)), .ref tx, .int (Int32.ofNat (T (a + i)))]) 3 rfl ?_
      rw [show ((Int32.ofNat b) + (Int32.ofNat i) : Int32) = (Int32.ofNat (b + i)) from (Int32.ofNat_add _ _).symm]
      refine f_bald rfl htx (i := b + i) (show b + i < 6000 by omega) (by omega) (hTB (b + i) hnb) ?_
      refine f_icmp (t := 32) rfl rfl true (ic_eq (by rw [hq i hi2])) ?_
      refine f_go (pc1 := 3) (lv1 := [(4, .int ((Int32.ofNat i) + 1)), (0, .ref s), (1, .int (Int32.ofNat a)), (2, .int (Int32.ofNat b)), (3, .int (Int32.ofNat len))]) (st1 := []) 2 rfl ?_
      rw [nat_s i]
      refine f_lv [(4, .int (Int32.ofNat (i + 1))), (0, .ref s), (1, .int (Int32.ofNat a)), (2, .int (Int32.ofNat b)), (3, .int (Int32.ofNat len))] (fl_c rfl (fl_c rfl (fl_c rfl (fl_c rfl (fl_c rfl fl_0))))) ?_
      exact ih (i + 1) (by omega)
  exact f_lv _ (fl_c rfl (fl_c rfl (fl_c rfl (fl_c rfl (fl_c rfl fl_0))))) (key len 0 (by omega))
theorem g_sameText0 {X : ev_X} {d : Nat} {σ : fl_S} (hd : 1 ≤ d) {s tx n p ln k m : Nat} {T : Nat → Nat} {K V L H C A Z : Nat → Int32} {a b len : Nat} (hS : SW σ s tx n T) (ha : a + len ≤ n) (hb : b + len ≤ n) (hq : ∃ i, i < len ∧ T (a + i) ≠ T (b + i)) : CF X d 24 [.ref s, .int (Int32.ofNat a), .int (Int32.ofNat b), .int (Int32.ofNat len)] (SS σ s p ln k m K V L H C A Z) (some (.int 0)) (SS σ s p ln k m K V L H C A Z) := by
  have hS9 := hS
  obtain ⟨c_s, k1, k2, k3, k4, k5, k6, k7, s_text, s_size, ⟨TB, htx, hTB⟩, hn6, hT⟩ := hS
  refine f_meth hd rfl ?_
  refine f_go (pc1 := 3) (lv1 := [(4, .int 0), (0, .ref s), (1, .int (Int32.ofNat a)), (2, .int (Int32.ofNat b)), (3, .int (Int32.ofNat len))]) (st1 := []) 2 rfl ?_
  have key : ∀ mm i, mm + i = len → (∃ j, i ≤ j ∧ j < len ∧ T (a + j) ≠ T (b + j)) → EF X (d - 1) 24 3 [(4, .int (Int32.ofNat i)), (0, .ref s), (1, .int (Int32.ofNat a)), (2, .int (Int32.ofNat b)), (3, .int (Int32.ofNat len))] [] (SS σ s p ln k m K V L H C A Z) (some (.int 0)) (SS σ s p ln k m K V L H C A Z) := by
    intro mm
    induction mm with
    | zero =>
      intro i hi hx
      obtain ⟨j, j1, j2, -⟩ := hx
      omega
    | succ mm ih =>
      intro i hi hx
      have hi2 : i < len := by omega
      have hna : a + i < n := by omega
      have hnb : b + i < n := by omega
      refine f_go (pc1 := 6) (lv1 := [(4, .int (Int32.ofNat i)), (0, .ref s), (1, .int (Int32.ofNat a)), (2, .int (Int32.ofNat b)), (3, .int (Int32.ofNat len))]) (st1 := [.int (Int32.ofNat len), .int (Int32.ofNat i)]) 2 rfl ?_
      refine f_icmp (t := 38) rfl rfl false (nat_lt (by omega) (by omega) hi2) ?_
      refine f_go (pc1 := 10) (lv1 := [(4, .int (Int32.ofNat i)), (0, .ref s), (1, .int (Int32.ofNat a)), (2, .int (Int32.ofNat b)), (3, .int (Int32.ofNat len))]) (st1 := [.ref s]) 1 rfl ?_
      refine f_getf rfl rfl (g := 228) rfl c_s s_text ?_
      refine f_go (pc1 := 17) (lv1 := [(4, .int (Int32.ofNat i)), (0, .ref s), (1, .int (Int32.ofNat a)), (2, .int (Int32.ofNat b)), (3, .int (Int32.ofNat len))]) (st1 := [.int ((Int32.ofNat a) + (Int32.ofNat i)), .ref tx]) 3 rfl ?_
      rw [show ((Int32.ofNat a) + (Int32.ofNat i) : Int32) = (Int32.ofNat (a + i)) from (Int32.ofNat_add _ _).symm]
      refine f_bald rfl htx (i := a + i) (show a + i < 6000 by omega) (by omega) (hTB (a + i) hna) ?_
      refine f_go (pc1 := 19) (lv1 := [(4, .int (Int32.ofNat i)), (0, .ref s), (1, .int (Int32.ofNat a)), (2, .int (Int32.ofNat b)), (3, .int (Int32.ofNat len))]) (st1 := [.ref s, .int (Int32.ofNat (T (a + i)))]) 1 rfl ?_
      refine f_getf rfl rfl (g := 228) rfl c_s s_text ?_
      refine f_go (pc1 := 26) (lv1 := [(4, .int (Int32.ofNat i)), (0, .ref s), (1, .int (Int32.ofNat a)), (2, .int (Int32.ofNat b)), (3, .int (Int32.ofNat len))]) (st1 := [.int ((Int32.ofNat b) + (Int32.ofNat i)), .ref tx, .int (Int32.ofNat (T (a + i)))]) 3 rfl ?_
      rw [show ((Int32.ofNat b) + (Int32.ofNat i) : Int32) = (Int32.ofNat (b + i)) from (Int32.ofNat_add _ _).symm]
      refine f_bald rfl htx (i := b + i) (show b + i < 6000 by omega) (by omega) (hTB (b + i) hnb) ?_
      by_cases e : T (a + i) = T (b + i)
      ·
        refine f_icmp (t := 32) rfl rfl true (ic_eq (by rw [e])) ?_
        refine f_go (pc1 := 3) (lv1 := [(4, .int ((Int32.ofNat i) + 1)), (0, .ref s), (1, .int (Int32.ofNat a)), (2, .int (Int32.ofNat b)), (3, .int (Int32.ofNat len))]) (st1 := []) 2 rfl ?_
        rw [nat_s i]
        refine f_lv [(4, .int (Int32.ofNat (i + 1))), (0, .ref s), (1, .int (Int32.ofNat a)), (2, .int (Int32.ofNat b)), (3, .int (Int32.ofNat len))] (fl_c rfl (fl_c rfl (fl_c rfl (fl_c rfl (fl_c rfl fl_0))))) ?_
        refine ih (i + 1) (by omega) ?_
        obtain ⟨j, j1, j2, j3⟩ := hx
        refine ⟨j, ?_, j2, j3⟩
        rcases Nat.eq_or_lt_of_le j1 with q | q
        · subst q; exact absurd e j3
        · exact q
      ·
        refine f_icmp (t := 32) rfl rfl false (ic_eqn (fun q => e ((nat_e (by have := (hT (a + i) hna).1; omega) (by have := (hT (b + i) hnb).1; omega)).mp q))) ?_
        refine f_go (pc1 := 31) (lv1 := [(4, .int (Int32.ofNat i)), (0, .ref s), (1, .int (Int32.ofNat a)), (2, .int (Int32.ofNat b)), (3, .int (Int32.ofNat len))]) (st1 := [.int 0]) 1 rfl ?_
        exact f_rt rfl rfl
  obtain ⟨j, j1, j2⟩ := hq
  exact f_lv _ (fl_c rfl (fl_c rfl (fl_c rfl (fl_c rfl (fl_c rfl fl_0))))) (key len 0 (by omega) ⟨j, by omega, j1, j2⟩)
def hI (T : Nat → Nat) (st : Nat) : Nat → Nat → Int32 → Int32
  | 0, _, h => h
  | f + 1, i, h => hI T st f (i + 1) (h * 31 + Int32.ofNat (T (st + i)))
theorem hI_eq {T : Nat → Nat} {a b : Nat} : ∀ (f i : Nat) (h : Int32), (∀ j, i ≤ j → j < i + f → T (a + j) = T (b + j)) → hI T a f i h = hI T b f i h
  | 0, _, _, _ => rfl
  | f + 1, i, h, hh => by
    unfold hI
    rw [hh i (Nat.le_refl _) (by omega)]
    exact hI_eq f (i + 1) _ (fun j h1 h2 => hh j (by omega) (by omega))
def hX32 (y : Int32) : Int32 := (y ^^^ (Int32.toUInt32 y >>> (Int32.toUInt32 8 &&& Int32.toUInt32 31)).toInt32) &&& 255
/-- the row in which a name is looked for -/
def hN (T : Nat → Nat) (st len : Nat) : Nat := (hX32 (hI T st len 0 (Int32.ofNat len))).toNatClampNeg
theorem hN_ok (T : Nat → Nat) (st len : Nat) : hN T st len < 256 ∧ hX32 (hI T st len 0 (Int32.ofNat len)) = Int32.ofNat (hN T st len) := by
  obtain ⟨q, h1, h2⟩ := and255 (hI T st len 0 (Int32.ofNat len) ^^^ (Int32.toUInt32 (hI T st len 0 (Int32.ofNat len)) >>> (Int32.toUInt32 8 &&& Int32.toUInt32 31)).toInt32)
  have e : hN T st len = q := by
    unfold hN hX32
    rw [h2, nat_c (by omega)]
  rw [e]
  exact ⟨h1, h2⟩
theorem hN_eq {T : Nat → Nat} {a b len : Nat} (h : smT T a b len) : hN T a len = hN T b len := by
  unfold hN
  rw [hI_eq len 0 _ (fun j _ h2 => h j (by omega))]
/-- the names so far: where each begins, how long it is; the rows in which they are looked for -/
def NMI (T : Nat → Nat) (n m : Nat) (H C A Z : Nat → Int32) (sa sl : Nat → Nat) (KS : Nat → List Nat) : Prop :=
  (∀ k, k < m → A k = Int32.ofNat (sa k) ∧ Z k = Int32.ofNat (sl k) ∧ sa k + sl k ≤ n) ∧ ∀ h, h < 256 → mo_ch C 3001 (H h) (KS h) ∧ (∀ k, k ∈ KS h ↔ k < m ∧ hN T (sa k) (sl k) = h) ∧ (KS h).length ≤ m
def EqS (T : Nat → Nat) (sa sl : Nat → Nat) (st len k : Nat) : Prop := sl k = len ∧ smT T (sa k) st len
theorem NMI.start {T : Nat → Nat} {n : Nat} {H C A Z : Nat → Int32} (hH : ∀ h, h < 256 → H h = -1) : NMI T n 0 H C A Z (fun _ => 0) (fun _ => 0) (fun _ => []) :=
  ⟨fun k hk => absurd hk (Nat.not_lt_zero _), fun h hh => ⟨hH h hh, fun k => ⟨fun q => (by cases q), fun q => absurd q.1 (Nat.not_lt_zero _)⟩, Nat.le_refl _⟩⟩
theorem NMI.new {T : Nat → Nat} {n m : Nat} {H C A Z : Nat → Int32} {sa sl : Nat → Nat} {KS : Nat → List Nat} (hI : NMI T n m H C A Z sa sl KS) {st len : Nat} (hm : m < 3001) (hn : st + len ≤ n) :
    NMI T n (m + 1) (upd H (hN T st len) (Int32.ofNat m)) (upd C m (H (hN T st len))) (upd A m (Int32.ofNat st)) (upd Z m (Int32.ofNat len)) (fun k => if k = m then st else sa k) (fun k => if k = m then len else sl k) (fun h => if h = hN T st len then m :: KS h else KS h) := by
  obtain ⟨h1, h2⟩ := hI
  refine ⟨fun k hk => ?_, fun h hh => ?_⟩
  · by_cases e : k = m
    · subst e; simp [upd, hn]
    · simp only [upd, if_neg e]
      exact h1 k (by omega)
  · obtain ⟨g1, g2, g3⟩ := h2 h hh
    have hlt : ∀ j ∈ KS h, j < m := fun j hj => ((g2 j).mp hj).1
    by_cases e : h = hN T st len
    · subst e
      refine ⟨?_, fun k => ?_, ?_⟩
      · simp only [if_pos]
        refine ⟨by simp [upd], hm, ?_⟩
        rw [show upd C m (H (hN T st len)) m = H (hN T st len) by simp [upd]]
        exact mo_ch_upd hlt g1
      · simp only [if_pos, List.mem_cons]
        constructor
        · intro hk
          rcases hk with rfl | hk
          · exact ⟨Nat.lt_succ_self _, by simp⟩
          · have := (g2 k).mp hk
            exact ⟨Nat.lt_succ_of_lt this.1, by rw [if_neg (Nat.ne_of_lt this.1), if_neg (Nat.ne_of_lt this.1)]; exact this.2⟩
        · intro ⟨hk, hk2⟩
          by_cases e : k = m
          · exact Or.inl e
          · rw [if_neg e, if_neg e] at hk2
            exact Or.inr ((g2 k).mpr ⟨by omega, hk2⟩)
      · simp only [if_pos, List.length_cons]
        exact Nat.succ_le_succ g3
    · refine ⟨?_, fun k => ?_, ?_⟩
      · simp only [if_neg e]
        rw [show upd H (hN T st len) (Int32.ofNat m) h = H h by simp [upd, e]]
        exact mo_ch_upd hlt g1
      · simp only [if_neg e]
        rw [g2 k]
        constructor
        · intro ⟨hk, hk2⟩
          exact ⟨Nat.lt_succ_of_lt hk, by rw [if_neg (Nat.ne_of_lt hk), if_neg (Nat.ne_of_lt hk)]; exact hk2⟩
        · intro ⟨hk, hk2⟩
          by_cases e2 : k = m
          · rw [if_pos e2, if_pos e2] at hk2
            exact absurd hk2.symm e
          · rw [if_neg e2, if_neg e2] at hk2
            exact ⟨by omega, hk2⟩
      · simp only [if_neg e]
        exact Nat.le_succ_of_le g3
theorem g_nameAt {X : ev_X} {d : Nat} {σ : fl_S} (hd : 2 ≤ d) {s tx n p ln k m : Nat} {T : Nat → Nat} {K V L H C A Z : Nat → Int32} {st len : Nat} {sa sl : Nat → Nat} {KS : Nat → List Nat} (hS : SW σ s tx n T) (hI : NMI T n m H C A Z sa sl KS) (hm : m < 3001) (hn : st + len ≤ n) : CQ X d 23 [.ref s, .int (Int32.ofNat st), .int (Int32.ofNat len)] (SS σ s p ln k m K V L H C A Z) (fun v σ1 => (∃ k0, k0 < m ∧ EqS T sa sl st len k0 ∧ v = some (.int (Int32.ofNat k0)) ∧ σ1 = (SS σ s p ln k m K V L H C A Z)) ∨ ((∀ k0, k0 < m → ¬ EqS T sa sl st len k0) ∧ v = some (.int (Int32.ofNat m)) ∧ σ1 = SS σ s p ln k (m + 1) K V L (upd H (hN T st len) (Int32.ofNat m)) (upd C m (H (hN T st len))) (upd A m (Int32.ofNat st)) (upd Z m (Int32.ofNat len)))) := by
  have hS9 := hS
  obtain ⟨c_s, k1, k2, k3, k4, k5, k6, k7, s_text, s_size, ⟨TB, htx, hTB⟩, hn6, hT⟩ := hS
  obtain ⟨i1, i2⟩ := hI
  obtain ⟨hq, hy⟩ := hN_ok T st len
  obtain ⟨c1, c2, c3⟩ := i2 _ hq
  refine f_meth (by omega) rfl ?_
  refine f_go (pc1 := 5) (lv1 := [(4, .int 0), (3, .int (Int32.ofNat len)), (0, .ref s), (1, .int (Int32.ofNat st)), (2, .int (Int32.ofNat len))]) (st1 := []) 4 rfl ?_
  have hash : ∀ (next : ∀ h, h = hI T st len 0 (Int32.ofNat len) → EQ X (d - 1) 23 32 [(3, .int h), (0, .ref s), (1, .int (Int32.ofNat st)), (2, .int (Int32.ofNat len))] [] (SS σ s p ln k m K V L H C A Z) (fun v σ1 => (∃ k0, k0 < m ∧ EqS T sa sl st len k0 ∧ v = some (.int (Int32.ofNat k0)) ∧ σ1 = (SS σ s p ln k m K V L H C A Z)) ∨ ((∀ k0, k0 < m → ¬ EqS T sa sl st len k0) ∧ v = some (.int (Int32.ofNat m)) ∧ σ1 = SS σ s p ln k (m + 1) K V L (upd H (hN T st len) (Int32.ofNat m)) (upd C m (H (hN T st len))) (upd A m (Int32.ofNat st)) (upd Z m (Int32.ofNat len))))), ∀ mm i h, mm + i = len → hI T st mm i h = hI T st len 0 (Int32.ofNat len) → EQ X (d - 1) 23 5 [(4, .int (Int32.ofNat i)), (3, .int h), (0, .ref s), (1, .int (Int32.ofNat st)), (2, .int (Int32.ofNat len))] [] (SS σ s p ln k m K V L H C A Z) (fun v σ1 => (∃ k0, k0 < m ∧ EqS T sa sl st len k0 ∧ v = some (.int (Int32.ofNat k0)) ∧ σ1 = (SS σ s p ln k m K V L H C A Z)) ∨ ((∀ k0, k0 < m → ¬ EqS T sa sl st len k0) ∧ v = some (.int (Int32.ofNat m)) ∧ σ1 = SS σ s p ln k (m + 1) K V L (upd H (hN T st len) (Int32.ofNat m)) (upd C m (H (hN T st len))) (upd A m (Int32.ofNat st)) (upd Z m (Int32.ofNat len)))) := by
    intro next mm
    induction mm with
    | zero =>
      intro i h hi hh
      refine f_go (pc1 := 8) (lv1 := [(4, .int (Int32.ofNat i)), (3, .int h), (0, .ref s), (1, .int (Int32.ofNat st)), (2, .int (Int32.ofNat len))]) (st1 := [.int (Int32.ofNat len), .int (Int32.ofNat i)]) 2 rfl ?_
      refine f_icmp (t := 32) rfl rfl true (nat_geT (by omega) (by omega) (by omega)) ?_
      refine f_lv [(3, .int h), (0, .ref s), (1, .int (Int32.ofNat st)), (2, .int (Int32.ofNat len))] (fl_c rfl (fl_c rfl (fl_c rfl (fl_c rfl fl_0)))) ?_
      exact next h hh
    | succ mm ih =>
      intro i h hi hh
      have hna : st + i < n := by omega
      refine f_go (pc1 := 8) (lv1 := [(4, .int (Int32.ofNat i)), (3, .int h), (0, .ref s), (1, .int (Int32.ofNat st)), (2, .int (Int32.ofNat len))]) (st1 := [.int (Int32.ofNat len), .int (Int32.ofNat i)]) 2 rfl ?_
      refine f_icmp (t := 32) rfl rfl false (nat_lt (by omega) (by omega) (by omega)) ?_
      refine f_go (pc1 := 16) (lv1 := [(4, .int (Int32.ofNat i)), (3, .int h), (0, .ref s), (1, .int (Int32.ofNat st)), (2, .int (Int32.ofNat len))]) (st1 := [.ref s, .int (h * 31)]) 4 rfl ?_
      refine f_getf rfl rfl (g := 228) rfl c_s s_text ?_
      refine f_go (pc1 := 23) (lv1 := [(4, .int (Int32.ofNat i)), (3, .int h), (0, .ref s), (1, .int (Int32.ofNat st)), (2, .int (Int32.ofNat len))]) (st1 := [.int ((Int32.ofNat st) + (Int32.ofNat i)), .ref tx, .int (h * 31)]) 3 rfl ?_
      rw [show ((Int32.ofNat st) + (Int32.ofNat i) : Int32) = (Int32.ofNat (st + i)) from (Int32.ofNat_add _ _).symm]
      refine f_bald rfl htx (i := st + i) (show st + i < 6000 by omega) (by omega) (hTB (st + i) hna) ?_
      refine f_go (pc1 := 5) (lv1 := [(4, .int ((Int32.ofNat i) + 1)), (3, .int ((h * 31) + (Int32.ofNat (T (st + i))))), (0, .ref s), (1, .int (Int32.ofNat st)), (2, .int (Int32.ofNat len))]) (st1 := []) 4 rfl ?_
      rw [nat_s i]
      refine f_lv [(4, .int (Int32.ofNat (i + 1))), (3, .int (h * 31 + Int32.ofNat (T (st + i)))), (0, .ref s), (1, .int (Int32.ofNat st)), (2, .int (Int32.ofNat len))] (fl_c rfl (fl_c rfl (fl_c rfl (fl_c rfl (fl_c rfl fl_0))))) ?_
      exact ih (i + 1) _ (by omega) hh
  have key : ∀ (ks : List Nat) (c : Int32) (i : Nat), mo_ch C 3001 c ks → i + ks.length ≤ m → (∀ x ∈ ks, x < m) → (∀ x, x < m → hN T (sa x) (sl x) = hN T st len → x ∉ ks → ¬ EqS T sa sl st len x) → EQ X (d - 1) 23 54 [(5, .int (Int32.ofNat i)), (4, .int c), (3, .int (Int32.ofNat (hN T st len))), (0, .ref s), (1, .int (Int32.ofNat st)), (2, .int (Int32.ofNat len))] [] (SS σ s p ln k m K V L H C A Z) (fun v σ1 => (∃ k0, k0 < m ∧ EqS T sa sl st len k0 ∧ v = some (.int (Int32.ofNat k0)) ∧ σ1 = (SS σ s p ln k m K V L H C A Z)) ∨ ((∀ k0, k0 < m → ¬ EqS T sa sl st len k0) ∧ v = some (.int (Int32.ofNat m)) ∧ σ1 = SS σ s p ln k (m + 1) K V L (upd H (hN T st len) (Int32.ofNat m)) (upd C m (H (hN T st len))) (upd A m (Int32.ofNat st)) (upd Z m (Int32.ofNat len)))) := by
    intro ks
    induction ks with
    | nil =>
      intro c i hk hl hb hno
      have hk : c = -1 := hk
      subst hk
      refine f_go (pc1 := 115) (lv1 := [(5, .int (Int32.ofNat i)), (4, .int (-1)), (3, .int (Int32.ofNat (hN T st len))), (0, .ref s), (1, .int (Int32.ofNat st)), (2, .int (Int32.ofNat len))]) (st1 := [.ref s]) 4 rfl ?_
      refine f_getf rfl rfl (g := 236) rfl c_s SS_236 ?_
      refine f_go (pc1 := 121) (lv1 := [(5, .int (Int32.ofNat i)), (4, .int (-1)), (3, .int (Int32.ofNat (hN T st len))), (0, .ref s), (1, .int (Int32.ofNat st)), (2, .int (Int32.ofNat len))]) (st1 := [.int 3001, .int (Int32.ofNat m)]) 1 rfl ?_
      refine f_icmp (t := 126) rfl rfl true (nat_ltT (n := 3001) (by omega) (by decide) hm) ?_
      refine f_go (pc1 := 127) (lv1 := [(5, .int (Int32.ofNat i)), (4, .int (-1)), (3, .int (Int32.ofNat (hN T st len))), (0, .ref s), (1, .int (Int32.ofNat st)), (2, .int (Int32.ofNat len))]) (st1 := [.ref s]) 1 rfl ?_
      refine f_getf rfl rfl (g := 234) rfl c_s k6 ?_
      refine f_go (pc1 := 131) (lv1 := [(5, .int (Int32.ofNat i)), (4, .int (-1)), (3, .int (Int32.ofNat (hN T st len))), (0, .ref s), (1, .int (Int32.ofNat st)), (2, .int (Int32.ofNat len))]) (st1 := [.ref s, .ref (s + 6)]) 1 rfl ?_
      refine f_getf rfl rfl (g := 236) rfl c_s SS_236 ?_
      refine f_go (pc1 := 135) (lv1 := [(5, .int (Int32.ofNat i)), (4, .int (-1)), (3, .int (Int32.ofNat (hN T st len))), (0, .ref s), (1, .int (Int32.ofNat st)), (2, .int (Int32.ofNat len))]) (st1 := [.int (Int32.ofNat st), .int (Int32.ofNat m), .ref (s + 6)]) 1 rfl ?_
      refine f_iast rfl SS_A (i := m) hm (by omega) ?_
      rw [SS_putA]
      refine f_go (pc1 := 137) (lv1 := [(5, .int (Int32.ofNat i)), (4, .int (-1)), (3, .int (Int32.ofNat (hN T st len))), (0, .ref s), (1, .int (Int32.ofNat st)), (2, .int (Int32.ofNat len))]) (st1 := [.ref s]) 1 rfl ?_
      refine f_getf rfl rfl (g := 235) rfl c_s k7 ?_
      refine f_go (pc1 := 141) (lv1 := [(5, .int (Int32.ofNat i)), (4, .int (-1)), (3, .int (Int32.ofNat (hN T st len))), (0, .ref s), (1, .int (Int32.ofNat st)), (2, .int (Int32.ofNat len))]) (st1 := [.ref s, .ref (s + 7)]) 1 rfl ?_
      refine f_getf rfl rfl (g := 236) rfl c_s SS_236 ?_
      refine f_go (pc1 := 145) (lv1 := [(5, .int (Int32.ofNat i)), (4, .int (-1)), (3, .int (Int32.ofNat (hN T st len))), (0, .ref s), (1, .int (Int32.ofNat st)), (2, .int (Int32.ofNat len))]) (st1 := [.int (Int32.ofNat len), .int (Int32.ofNat m), .ref (s + 7)]) 1 rfl ?_
      refine f_iast rfl SS_Z (i := m) hm (by omega) ?_
      rw [SS_putZ]
      refine f_go (pc1 := 147) (lv1 := [(5, .int (Int32.ofNat i)), (4, .int (-1)), (3, .int (Int32.ofNat (hN T st len))), (0, .ref s), (1, .int (Int32.ofNat st)), (2, .int (Int32.ofNat len))]) (st1 := [.ref s]) 1 rfl ?_
      refine f_getf rfl rfl (g := 233) rfl c_s k5 ?_
      refine f_go (pc1 := 151) (lv1 := [(5, .int (Int32.ofNat i)), (4, .int (-1)), (3, .int (Int32.ofNat (hN T st len))), (0, .ref s), (1, .int (Int32.ofNat st)), (2, .int (Int32.ofNat len))]) (st1 := [.ref s, .ref (s + 5)]) 1 rfl ?_
      refine f_getf rfl rfl (g := 236) rfl c_s SS_236 ?_
      refine f_go (pc1 := 155) (lv1 := [(5, .int (Int32.ofNat i)), (4, .int (-1)), (3, .int (Int32.ofNat (hN T st len))), (0, .ref s), (1, .int (Int32.ofNat st)), (2, .int (Int32.ofNat len))]) (st1 := [.ref s, .int (Int32.ofNat m), .ref (s + 5)]) 1 rfl ?_
      refine f_getf rfl rfl (g := 232) rfl c_s k4 ?_
      refine f_go (pc1 := 159) (lv1 := [(5, .int (Int32.ofNat i)), (4, .int (-1)), (3, .int (Int32.ofNat (hN T st len))), (0, .ref s), (1, .int (Int32.ofNat st)), (2, .int (Int32.ofNat len))]) (st1 := [.int (Int32.ofNat (hN T st len)), .ref (s + 4), .int (Int32.ofNat m), .ref (s + 5)]) 1 rfl ?_
      refine f_iald rfl SS_H (i := (hN T st len)) hq (by omega) rfl ?_
      refine f_iast rfl SS_C (i := m) hm (by omega) ?_
      rw [SS_putC]
      refine f_go (pc1 := 162) (lv1 := [(5, .int (Int32.ofNat i)), (4, .int (-1)), (3, .int (Int32.ofNat (hN T st len))), (0, .ref s), (1, .int (Int32.ofNat st)), (2, .int (Int32.ofNat len))]) (st1 := [.ref s]) 1 rfl ?_
      refine f_getf rfl rfl (g := 232) rfl c_s k4 ?_
      refine f_go (pc1 := 167) (lv1 := [(5, .int (Int32.ofNat i)), (4, .int (-1)), (3, .int (Int32.ofNat (hN T st len))), (0, .ref s), (1, .int (Int32.ofNat st)), (2, .int (Int32.ofNat len))]) (st1 := [.ref s, .int (Int32.ofNat (hN T st len)), .ref (s + 4)]) 2 rfl ?_
      refine f_getf rfl rfl (g := 236) rfl c_s SS_236 ?_
      refine f_iast rfl SS_H (i := (hN T st len)) hq (by omega) ?_
      rw [SS_putH]
      refine f_go (pc1 := 173) (lv1 := [(5, .int (Int32.ofNat i)), (4, .int (-1)), (3, .int (Int32.ofNat (hN T st len))), (0, .ref s), (1, .int (Int32.ofNat st)), (2, .int (Int32.ofNat len))]) (st1 := [.ref s, .ref s]) 2 rfl ?_
      refine f_getf rfl rfl (g := 236) rfl c_s SS_236 ?_
      refine f_go (pc1 := 178) (lv1 := [(5, .int (Int32.ofNat i)), (4, .int (-1)), (3, .int (Int32.ofNat (hN T st len))), (0, .ref s), (1, .int (Int32.ofNat st)), (2, .int (Int32.ofNat len))]) (st1 := [.int ((Int32.ofNat m) + 1), .ref s]) 2 rfl ?_
      rw [show ((Int32.ofNat m) + 1 : Int32) = (Int32.ofNat (m + 1)) from (nat_s m)]
      refine f_putf rfl rfl (g := 236) rfl c_s rfl ?_
      rw [SS_put236]
      refine f_go (pc1 := 182) (lv1 := [(5, .int (Int32.ofNat i)), (4, .int (-1)), (3, .int (Int32.ofNat (hN T st len))), (0, .ref s), (1, .int (Int32.ofNat st)), (2, .int (Int32.ofNat len))]) (st1 := [.ref s]) 1 rfl ?_
      refine f_getf rfl rfl (g := 236) rfl c_s SS_236 ?_
      refine f_go (pc1 := 187) (lv1 := [(5, .int (Int32.ofNat i)), (4, .int (-1)), (3, .int (Int32.ofNat (hN T st len))), (0, .ref s), (1, .int (Int32.ofNat st)), (2, .int (Int32.ofNat len))]) (st1 := [.int ((Int32.ofNat (m + 1)) - 1)]) 2 rfl ?_
      rw [show ((Int32.ofNat (m + 1)) - 1 : Int32) = (Int32.ofNat m) from (i32_dec m)]
      refine f_rtQ rfl rfl (Or.inr ⟨fun x hx hE => ?_, rfl, rfl⟩)
      refine hno x hx ?_ (fun q => by cases q) hE
      rw [hE.1]; exact hN_eq hE.2
    | cons x r ih =>
      intro c i hk hl hb hno
      obtain ⟨hk1, hk2, hk3⟩ := hk
      subst hk1
      have hl2 : i + (r.length + 1) ≤ m := hl
      have hxm := hb x List.mem_cons_self
      obtain ⟨x1, x2, x3⟩ := i1 x hxm
      have ih := ih (C x) (i + 1) hk3 (by omega) (fun y hy => hb y (List.mem_cons_of_mem _ hy))
      refine f_go (pc1 := 57) (lv1 := [(5, .int (Int32.ofNat i)), (4, .int (Int32.ofNat x)), (3, .int (Int32.ofNat (hN T st len))), (0, .ref s), (1, .int (Int32.ofNat st)), (2, .int (Int32.ofNat len))]) (st1 := [.int (-1), .int (Int32.ofNat x)]) 2 rfl ?_
      refine f_icmp (t := 114) rfl rfl false (nat_ne (by omega)) ?_
      refine f_go (pc1 := 63) (lv1 := [(5, .int (Int32.ofNat i)), (4, .int (Int32.ofNat x)), (3, .int (Int32.ofNat (hN T st len))), (0, .ref s), (1, .int (Int32.ofNat st)), (2, .int (Int32.ofNat len))]) (st1 := [.ref s, .int (Int32.ofNat i)]) 2 rfl ?_
      refine f_getf rfl rfl (g := 236) rfl c_s SS_236 ?_
      refine f_icmp (t := 114) rfl rfl false (nat_lt (by omega) (by omega) (by omega)) ?_
      refine f_go (pc1 := 70) (lv1 := [(5, .int (Int32.ofNat i)), (4, .int (Int32.ofNat x)), (3, .int (Int32.ofNat (hN T st len))), (0, .ref s), (1, .int (Int32.ofNat st)), (2, .int (Int32.ofNat len))]) (st1 := [.ref s]) 1 rfl ?_
      refine f_getf rfl rfl (g := 235) rfl c_s k7 ?_
      refine f_go (pc1 := 75) (lv1 := [(5, .int (Int32.ofNat i)), (4, .int (Int32.ofNat x)), (3, .int (Int32.ofNat (hN T st len))), (0, .ref s), (1, .int (Int32.ofNat st)), (2, .int (Int32.ofNat len))]) (st1 := [.int (Int32.ofNat x), .ref (s + 7)]) 1 rfl ?_
      refine f_iald rfl SS_Z (i := x) hk2 (by omega) x2 ?_
      refine f_go (pc1 := 77) (lv1 := [(5, .int (Int32.ofNat i)), (4, .int (Int32.ofNat x)), (3, .int (Int32.ofNat (hN T st len))), (0, .ref s), (1, .int (Int32.ofNat st)), (2, .int (Int32.ofNat len))]) (st1 := [.int (Int32.ofNat len), .int (Int32.ofNat (sl x))]) 1 rfl ?_
      by_cases x4 : sl x = len
      ·
        refine f_icmp (t := 99) rfl rfl false (ic_nen (by rw [x4])) ?_
        refine f_go (pc1 := 82) (lv1 := [(5, .int (Int32.ofNat i)), (4, .int (Int32.ofNat x)), (3, .int (Int32.ofNat (hN T st len))), (0, .ref s), (1, .int (Int32.ofNat st)), (2, .int (Int32.ofNat len))]) (st1 := [.ref s, .ref s]) 2 rfl ?_
        refine f_getf rfl rfl (g := 234) rfl c_s k6 ?_
        refine f_go (pc1 := 87) (lv1 := [(5, .int (Int32.ofNat i)), (4, .int (Int32.ofNat x)), (3, .int (Int32.ofNat (hN T st len))), (0, .ref s), (1, .int (Int32.ofNat st)), (2, .int (Int32.ofNat len))]) (st1 := [.int (Int32.ofNat x), .ref (s + 6), .ref s]) 1 rfl ?_
        refine f_iald rfl SS_A (i := x) hk2 (by omega) x1 ?_
        refine f_go (pc1 := 90) (lv1 := [(5, .int (Int32.ofNat i)), (4, .int (Int32.ofNat x)), (3, .int (Int32.ofNat (hN T st len))), (0, .ref s), (1, .int (Int32.ofNat st)), (2, .int (Int32.ofNat len))]) (st1 := [.int (Int32.ofNat len), .int (Int32.ofNat st), .int (Int32.ofNat (sa x)), .ref s]) 2 rfl ?_
        rw [x4] at x3
        rcases smT_or T (sa x) st len with hs | hs
        ·
          refine f_vt rfl rfl c_s rfl (g_sameText1 (by omega) hS9 x3 hn hs) ?_
          refine f_go (pc1 := 98) (lv1 := [(5, .int (Int32.ofNat i)), (4, .int (Int32.ofNat x)), (3, .int (Int32.ofNat (hN T st len))), (0, .ref s), (1, .int (Int32.ofNat st)), (2, .int (Int32.ofNat len))]) (st1 := [.int (Int32.ofNat x)]) 2 rfl ?_
          exact f_rtQ rfl rfl (Or.inl ⟨x, hxm, ⟨x4, hs⟩, rfl, rfl⟩)
        ·
          refine f_vt rfl rfl c_s rfl (g_sameText0 (by omega) hS9 x3 hn hs) ?_
          refine f_go (pc1 := 100) (lv1 := [(5, .int (Int32.ofNat i)), (4, .int (Int32.ofNat x)), (3, .int (Int32.ofNat (hN T st len))), (0, .ref s), (1, .int (Int32.ofNat st)), (2, .int (Int32.ofNat len))]) (st1 := [.ref s]) 2 rfl ?_
          refine f_getf rfl rfl (g := 233) rfl c_s k5 ?_
          refine f_go (pc1 := 105) (lv1 := [(5, .int (Int32.ofNat i)), (4, .int (Int32.ofNat x)), (3, .int (Int32.ofNat (hN T st len))), (0, .ref s), (1, .int (Int32.ofNat st)), (2, .int (Int32.ofNat len))]) (st1 := [.int (Int32.ofNat x), .ref (s + 5)]) 1 rfl ?_
          refine f_iald rfl SS_C (i := x) hk2 (by omega) rfl ?_
          refine f_go (pc1 := 54) (lv1 := [(5, .int ((Int32.ofNat i) + 1)), (4, .int (C x)), (3, .int (Int32.ofNat (hN T st len))), (0, .ref s), (1, .int (Int32.ofNat st)), (2, .int (Int32.ofNat len))]) (st1 := []) 3 rfl ?_
          rw [nat_s i]
          refine f_lv [(5, .int (Int32.ofNat (i + 1))), (4, .int (C x)), (3, .int (Int32.ofNat (hN T st len))), (0, .ref s), (1, .int (Int32.ofNat st)), (2, .int (Int32.ofNat len))] (fl_c rfl (fl_c rfl (fl_c rfl (fl_c rfl (fl_c rfl (fl_c rfl fl_0)))))) ?_
          refine ih (fun y hy hyh hyr hE => ?_)
          by_cases e9 : y = x
          · subst e9; obtain ⟨j, j1, j2⟩ := hs; exact j2 (hE.2 j j1)
          · exact hno y hy hyh (fun q => (List.mem_cons.mp q).elim e9 hyr) hE
      ·
        refine f_icmp (t := 99) rfl rfl true (ic_ne (fun q => x4 ((nat_e (by omega) (by omega)).mp q))) ?_
        refine f_go (pc1 := 100) (lv1 := [(5, .int (Int32.ofNat i)), (4, .int (Int32.ofNat x)), (3, .int (Int32.ofNat (hN T st len))), (0, .ref s), (1, .int (Int32.ofNat st)), (2, .int (Int32.ofNat len))]) (st1 := [.ref s]) 1 rfl ?_
        refine f_getf rfl rfl (g := 233) rfl c_s k5 ?_
        refine f_go (pc1 := 105) (lv1 := [(5, .int (Int32.ofNat i)), (4, .int (Int32.ofNat x)), (3, .int (Int32.ofNat (hN T st len))), (0, .ref s), (1, .int (Int32.ofNat st)), (2, .int (Int32.ofNat len))]) (st1 := [.int (Int32.ofNat x), .ref (s + 5)]) 1 rfl ?_
        refine f_iald rfl SS_C (i := x) hk2 (by omega) rfl ?_
        refine f_go (pc1 := 54) (lv1 := [(5, .int ((Int32.ofNat i) + 1)), (4, .int (C x)), (3, .int (Int32.ofNat (hN T st len))), (0, .ref s), (1, .int (Int32.ofNat st)), (2, .int (Int32.ofNat len))]) (st1 := []) 3 rfl ?_
        rw [nat_s i]
        refine f_lv [(5, .int (Int32.ofNat (i + 1))), (4, .int (C x)), (3, .int (Int32.ofNat (hN T st len))), (0, .ref s), (1, .int (Int32.ofNat st)), (2, .int (Int32.ofNat len))] (fl_c rfl (fl_c rfl (fl_c rfl (fl_c rfl (fl_c rfl (fl_c rfl fl_0)))))) ?_
        refine ih (fun y hy hyh hyr hE => ?_)
        by_cases e9 : y = x
        · subst e9; exact x4 hE.1
        · exact hno y hy hyh (fun q => (List.mem_cons.mp q).elim e9 hyr) hE
  refine f_lv [(4, .int (Int32.ofNat 0)), (3, .int (Int32.ofNat len)), (0, .ref s), (1, .int (Int32.ofNat st)), (2, .int (Int32.ofNat len))] (fl_c rfl (fl_c rfl (fl_c rfl (fl_c rfl (fl_c rfl fl_0))))) (hash ?_ len 0 _ (by omega) rfl)
  intro h hh
  refine f_go (pc1 := 42) (lv1 := [(3, .int h), (0, .ref s), (1, .int (Int32.ofNat st)), (2, .int (Int32.ofNat len))]) (st1 := [.int ((h ^^^ ((Int32.toUInt32 h >>> (Int32.toUInt32 8 &&& Int32.toUInt32 31)).toInt32)) &&& 255)]) 7 rfl ?_
  rw [show (h ^^^ (Int32.toUInt32 h >>> (Int32.toUInt32 8 &&& Int32.toUInt32 31)).toInt32) &&& 255 = hX32 h from rfl, hh, hy]
  refine f_go (pc1 := 44) (lv1 := [(3, .int (Int32.ofNat (hN T st len))), (0, .ref s), (1, .int (Int32.ofNat st)), (2, .int (Int32.ofNat len))]) (st1 := [.ref s]) 2 rfl ?_
  refine f_getf rfl rfl (g := 232) rfl c_s k4 ?_
  refine f_go (pc1 := 48) (lv1 := [(3, .int (Int32.ofNat (hN T st len))), (0, .ref s), (1, .int (Int32.ofNat st)), (2, .int (Int32.ofNat len))]) (st1 := [.int (Int32.ofNat (hN T st len)), .ref (s + 4)]) 1 rfl ?_
  refine f_iald rfl SS_H (i := (hN T st len)) hq (by omega) rfl ?_
  refine f_go (pc1 := 54) (lv1 := [(5, .int 0), (4, .int (H (hN T st len))), (3, .int (Int32.ofNat (hN T st len))), (0, .ref s), (1, .int (Int32.ofNat st)), (2, .int (Int32.ofNat len))]) (st1 := []) 3 rfl ?_
  refine f_lv [(5, .int (Int32.ofNat 0)), (4, .int (H (hN T st len))), (3, .int (Int32.ofNat (hN T st len))), (0, .ref s), (1, .int (Int32.ofNat st)), (2, .int (Int32.ofNat len))] (fl_c rfl (fl_c rfl (fl_c rfl (fl_c rfl (fl_c rfl (fl_c rfl fl_0)))))) ?_
  exact key (KS (hN T st len)) _ 0 c1 (by omega) (fun x hx => ((c2 x).mp hx).1) (fun x hx hxh hxr => absurd ((c2 x).mpr ⟨hx, hxh⟩) hxr)
