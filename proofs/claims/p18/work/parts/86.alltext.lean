/-! all of the text scanned -/
def txS (tx : Nat → List Nat) : Nat → Nat → List Nat
  | 0, _ => []
  | k + 1, c => tx c ++ txS tx k (c + 1)
def tkS (tk : Nat → List (Nat × Nat)) : Nat → Nat → List (Int32 × Int32 × Nat)
  | 0, _ => []
  | k + 1, c => (tk c).map (tkI (c + 1)) ++ tkS tk k (c + 1)
theorem lx_all {T : Nat → Nat} {n NC : Nat} {tx : Nat → List Nat} {tk : Nat → List (Nat × Nat)} {nm : Nat → List (List Nat)} (hc : ∀ c, c < NC → ∃ rt, rlx 80 (tx c) = some rt ∧ rsv (nm c) rt = (tk c, nm (c + 1)) ∧ (nm (c + 1)).length ≤ 3000) : ∀ (k c p : Nat) (sa sl : Nat → Nat), c + k = NC → Sf T n p (txS tx k c) → NSt T sa sl (nm c) → Lx T n (WDt T) (SGt T n) (SEt T n) (sgnt T n) (tkS tk k c) p (c + 1) (nm c).length sa sl
  | 0, c, p, sa, sl, _, hS, _ => by
    have e : p = n := hS.1
    subst e
    show p ≤ p ∧ (skB T p (p - p) p (c + 1)).1 = p
    rw [Nat.sub_self]
    exact ⟨Nat.le_refl _, rfl⟩
  | k + 1, c, p, sa, sl, hk, hS, hN => by
    obtain ⟨rt, h1, h2, h3⟩ := hc c (by omega)
    have := rlx_ok 80 (tx c) rt h1 p (c + 1) (nm c) sa sl (txS tx k (c + 1)) (tkS tk k (c + 1)) hS hN (by rw [h2]; exact h3) (fun sa' sl' hN' => by
      rw [h2] at hN' ⊢
      exact lx_all hc k (c + 1) _ sa' sl' (by omega) (Sf.dr hS) hN')
    rw [h2] at this
    exact this
theorem tkS_at {NC : Nat} {tk : Nat → List (Nat × Nat)} {of : Nat → Nat} {g : Nat → Nat × Nat} (ho : ∀ c, c < NC → of c ≤ of (c + 1)) (ht : ∀ c, c < NC → tk c = (List.range (of (c + 1) - of c)).map (fun i => g (of c + i))) : ∀ (k c : Nat), c + k ≤ NC → (tkS tk k c).length = of (c + k) - of c ∧ of c ≤ of (c + k) ∧ ∀ j, of c ≤ j → j < of (c + k) → ∃ l, (tkS tk k c)[j - of c]? = some (tkI l (g j))
  | 0, c, _ => ⟨by rw [Nat.add_zero, Nat.sub_self]; rfl, Nat.le_refl _, fun j h1 h2 => absurd h2 (by rw [Nat.add_zero]; omega)⟩
  | k + 1, c, hk => by
    obtain ⟨i1, i2, i3⟩ := tkS_at ho ht k (c + 1) (by omega)
    have h0 := ho c (by omega)
    rw [show c + 1 + k = c + (k + 1) by omega] at i1 i2 i3
    have hl : ((tk c).map (tkI (c + 1))).length = of (c + 1) - of c := by rw [List.length_map, ht c (by omega), List.length_map, List.length_range]
    refine ⟨?_, by omega, fun j h1 h2 => ?_⟩
    · show ((tk c).map (tkI (c + 1)) ++ tkS tk k (c + 1)).length = _
      rw [List.length_append, hl, i1]
      omega
    · show ∃ l, ((tk c).map (tkI (c + 1)) ++ tkS tk k (c + 1))[j - of c]? = _
      by_cases e : j < of (c + 1)
      · refine ⟨c + 1, ?_⟩
        rw [List.getElem?_append_left (by rw [hl]; omega), List.getElem?_map, ht c (by omega), List.getElem?_map, List.getElem?_range (by omega)]
        show some (tkI (c + 1) (g (of c + (j - of c)))) = _
        rw [show of c + (j - of c) = j by omega]
      · obtain ⟨l, hj⟩ := i3 j (by omega) h2
        refine ⟨l, ?_⟩
        rw [List.getElem?_append_right (by rw [hl]; omega), hl, show j - of c - (of (c + 1) - of c) = j - of (c + 1) by omega]
        exact hj
/-- a drawing's numbers within their bounds -/
def DB (L n m sh hi mo : Nat) (bd : Nat → Nat) : Prop := (2 ≤ L ∧ L ≤ 5) ∧ (1 ≤ n ∧ n ≤ 4) ∧ (1 ≤ m ∧ m ≤ 4) ∧ sh < L ∧ hi < L ∧ mo < L ∧ ∀ r, r < n + m → bd r = 1 ∨ bd r = 2
set_option maxRecDepth 100000 in
theorem kO : ((List.range 4).all fun L => (List.range 7).all fun R => Nat.beq (ofC (L + 2) (R + 2) (L + 2 + (R + 2) + 7)) (68 + 11 * (L + 2) + 13 * (R + 2)) && (List.range (L + 2 + (R + 2) + 7)).all fun c => Nat.ble (ofC (L + 2) (R + 2) c) (ofC (L + 2) (R + 2) (c + 1))) = true := by decide +kernel
theorem ofC_ok {L R : Nat} (hL : 2 ≤ L ∧ L ≤ 5) (hR : 2 ≤ R ∧ R ≤ 8) : ofC L R (L + R + 7) = 68 + 11 * L + 13 * R ∧ ∀ c, c < L + R + 7 → ofC L R c ≤ ofC L R (c + 1) := by
  have h := rall (rall kO (show L - 2 < 4 by omega)) (show R - 2 < 7 by omega)
  rw [show L - 2 + 2 = L by omega, show R - 2 + 2 = R by omega, Bool.and_eq_true] at h
  exact ⟨Nat.eq_of_beq_eq_true h.1, fun c hc => Nat.le_of_ble_eq_true (rall h.2 hc)⟩
theorem ofC_0 {L R : Nat} : ofC L R 0 = 0 := rfl
section W86
variable {L n m sh hi mo : Nat} {bd : Nat → Nat}
theorem dcN_s {x : Nat} (h : x ≤ 999) : dcN n sh hi mo bd x = x := by
  unfold dcN
  rw [bleF (show x < 1012 by omega), nb_ne (show x ≠ 1011 by omega), nb_ne (show x ≠ 1010 by omega), nb_ne (show x ≠ 1009 by omega), bleF (show x < 1005 by omega), bleF (show x < 1001 by omega)]
  rfl
theorem dcN_b (hn : n ≤ 4) (hm : m ≤ 4) {r : Nat} (hr : r < n + m) : dcN n sh hi mo bd (r_b n r) = bd r := by
  unfold r_b
  by_cases e : n ≤ r
  · rw [bleT e]
    show dcN n sh hi mo bd (1005 + (r - n)) = bd r
    unfold dcN
    rw [bleF (show 1005 + (r - n) < 1012 by omega), nb_ne (show 1005 + (r - n) ≠ 1011 by omega), nb_ne (show 1005 + (r - n) ≠ 1010 by omega), nb_ne (show 1005 + (r - n) ≠ 1009 by omega), bleT (show 1005 ≤ 1005 + (r - n) by omega)]
    show bd (n + (1005 + (r - n) - 1005)) = bd r
    rw [show n + (1005 + (r - n) - 1005) = r by omega]
  · rw [bleF (show r < n by omega)]
    show dcN n sh hi mo bd (1001 + r) = bd r
    unfold dcN
    rw [bleF (show 1001 + r < 1012 by omega), nb_ne (show 1001 + r ≠ 1011 by omega), nb_ne (show 1001 + r ≠ 1010 by omega), nb_ne (show 1001 + r ≠ 1009 by omega), bleF (show 1001 + r < 1005 by omega), bleT (show 1001 ≤ 1001 + r by omega)]
    show bd (1001 + r - 1001) = bd r
    rw [show 1001 + r - 1001 = r by omega]
/-- from what was looked up to what is drawn -/
theorem ckC_ok {c dc v : Nat} {rt : List (Nat × List Nat)} (h : ckC L n m c dc v rt = true) (hv : dc = 0 ∨ dcN n sh hi mo bd dc = v) : rsv (nmP L n m c) rt = ((List.range (lnC L (n + m) c)).map (fun i => (tk_kd L n m (ofC L (n + m) c + i), dcN n sh hi mo bd (tk_vl L n m (ofC L (n + m) c + i)))), nmP L n m (c + 1)) := by
  unfold ckC at h
  rw [Bool.and_eq_true, Bool.and_eq_true] at h
  obtain ⟨h1, h2, h3⟩ := h
  refine Prod.ext ((pnq_ok h1).trans ?_) (lsq_ok h2)
  refine List.map_congr_left (fun i hi' => ?_)
  have := List.all_eq_true.mp h3 i hi'
  rw [Bool.or_eq_true] at this
  rcases this with e | e
  · have e := Nat.le_of_ble_eq_true e
    rw [dcN_s e, bleF (show tk_vl L n m (ofC L (n + m) c + i) < 1000 by omega)]
    rfl
  · have e := Nat.eq_of_beq_eq_true e
    by_cases e9 : tk_vl L n m (ofC L (n + m) c + i) ≤ 999
    · rw [dcN_s e9, bleF (show tk_vl L n m (ofC L (n + m) c + i) < 1000 by omega)]
      rfl
    · rw [bleT (show 1000 ≤ tk_vl L n m (ofC L (n + m) c + i) by omega)]
      rcases hv with hv | hv
      · omega
      · rw [e, hv]
        rfl
theorem nmF_len : (nmF L n m).length = 2 * L + 6 + n + m := by
  have e : ∀ N, ((List.range N).flatMap (fun k => [[108, 48 + k], [102, 48 + k]])).length = 2 * N := by
    intro N
    induction N with
    | zero => rfl
    | succ N ih =>
      rw [List.range_succ, List.flatMap_append, List.length_append, ih]
      show 2 * N + 2 = _
      omega
  unfold nmF
  rw [List.length_append, List.length_append, List.length_append, List.length_append, List.length_append, e, List.length_map, List.length_map, List.length_range, List.length_range]
  simp only [List.length_cons, List.length_nil]
  omega
theorem nmP_len {c : Nat} : (nmP L n m c).length ≤ 2 * L + 6 + n + m := by
  unfold nmP
  rw [List.length_take, nmF_len]
  exact Nat.min_le_right _ _
theorem tx_ok (hD : DB L n m sh hi mo bd) {c : Nat} (hc : c < L + (n + m) + 7) : ∃ rt, rlx 80 (txC L n m sh hi mo bd c) = some rt ∧ rsv (nmP L n m c) rt = ((List.range (lnC L (n + m) c)).map (fun i => (tk_kd L n m (ofC L (n + m) c + i), dcN n sh hi mo bd (tk_vl L n m (ofC L (n + m) c + i)))), nmP L n m (c + 1)) ∧ (nmP L n m (c + 1)).length ≤ 3000 := by
  obtain ⟨hL, hn, hm, d1, d2, d3, hb⟩ := hD
  have hlen : (nmP L n m (c + 1)).length ≤ 3000 := Nat.le_trans nmP_len (by omega)
  suffices h : ∃ rt dc v, rlx 80 (txC L n m sh hi mo bd c) = some rt ∧ ckC L n m c dc v rt = true ∧ (dc = 0 ∨ dcN n sh hi mo bd dc = v) by
    obtain ⟨rt, dc, v, h1, h2, h3⟩ := h
    exact ⟨rt, h1, ckC_ok h2 h3, hlen⟩
  by_cases c0 : c ≤ L
  · have hk := rall (rall (rall (rall kA (show L - 2 < 4 by omega)) (show n - 1 < 4 by omega)) (show m - 1 < 4 by omega)) (show c < L - 2 + 3 by omega)
    rw [show L - 2 + 2 = L by omega, show n - 1 + 1 = n by omega, show m - 1 + 1 = m by omega] at hk
    refine ⟨_, 0, 0, ?_, hk, Or.inl rfl⟩
    unfold txC rtC
    by_cases e0 : c = 0
    · subst e0
      exact rlq_ok lI0
    · rw [nb_ne e0, bleT c0]
      by_cases e1 : c = 1
      · subst e1
        exact rlq_ok lI1
      · rw [nb_ne e1]
        have := rall lLv (show c - 1 < 5 by omega)
        rw [nb_ne (show c - 1 ≠ 0 by omega), Bool.false_or] at this
        show rlx 80 (cLv (c - 1)) = some (rLv (c - 1))
        exact rlq_ok this
  · by_cases c1 : c = L + 1
    · subst c1
      have hk := rall (rall (rall (rall kB (show L - 2 < 4 by omega)) (show n - 1 < 4 by omega)) (show m - 1 < 4 by omega)) (show sh < L - 2 + 2 by omega)
      rw [show L - 2 + 2 = L by omega, show n - 1 + 1 = n by omega, show m - 1 + 1 = m by omega, show L - 2 + 3 = L + 1 by omega] at hk
      refine ⟨_, 1009, 2 * sh + 1, ?_, hk, Or.inr rfl⟩
      unfold txC
      rw [nb_ne (show L + 1 ≠ 0 by omega), bleF (show L < L + 1 by omega), nb_self]
      exact rlq_ok (rall lOp (show sh < 5 by omega))
    · by_cases c2 : c ≤ L + 1 + (n + m)
      · obtain ⟨r, rfl⟩ : ∃ r, c = L + 2 + r := ⟨c - (L + 2), by omega⟩
        have hr : r < n + m := by omega
        have hbr := hb r hr
        have hk := rall (rall (rall (rall (rall kC (show L - 2 < 4 by omega)) (show n - 1 < 4 by omega)) (show m - 1 < 4 by omega)) (show r < n - 1 + (m - 1) + 2 by omega)) (show bd r - 1 < 2 by omega)
        rw [show L - 2 + 2 = L by omega, show n - 1 + 1 = n by omega, show m - 1 + 1 = m by omega, show L - 2 + 4 + r = L + 2 + r by omega, show bd r - 1 + 1 = bd r by omega] at hk
        refine ⟨_, r_b n r, bd r, ?_, hk, Or.inr (dcN_b hn.2 hm.2 hr)⟩
        unfold txC rtC
        rw [nb_ne (show L + 2 + r ≠ 0 by omega), bleF (show L < L + 2 + r by omega), nb_ne (show L + 2 + r ≠ L + 1 by omega), bleT c2, show L + 2 + r - (L + 2) = r by omega]
        by_cases e : n ≤ r
        · rw [bleT e]
          have hq : (r - n + 1) % m < 4 := Nat.lt_of_lt_of_le (Nat.mod_lt _ (by omega)) hm.2
          have := rall (rall (rall (rall lRg (show 1 < 2 by decide)) (show r - n < 4 by omega)) hq) (show bd r - 1 < 2 by omega)
          rw [show bd r - 1 + 1 = bd r by omega] at this
          exact rlq_ok this
        · rw [bleF (show r < n by omega)]
          have hq : (r + 1) % n < 4 := Nat.lt_of_lt_of_le (Nat.mod_lt _ (by omega)) hn.2
          have := rall (rall (rall (rall lRg (show 0 < 2 by decide)) (show r < 4 by omega)) hq) (show bd r - 1 < 2 by omega)
          rw [show bd r - 1 + 1 = bd r by omega] at this
          exact rlq_ok this
      · have hkD := rall (rall (rall kD (show L - 2 < 4 by omega)) (show n - 1 < 4 by omega)) (show m - 1 < 4 by omega)
        rw [show L - 2 + 2 = L by omega, show n - 1 + 1 = n by omega, show m - 1 + 1 = m by omega, show L - 2 + (n - 1) + (m - 1) + 6 = L + 2 + (n + m) by omega, show L - 2 + (n - 1) + (m - 1) + 8 = L + 4 + (n + m) by omega, show L - 2 + (n - 1) + (m - 1) + 10 = L + 6 + (n + m) by omega, Bool.and_eq_true, Bool.and_eq_true] at hkD
        have hE : ∀ k, k < L → ckC L n m (L + 3 + (n + m)) 1011 (2 * k + 1) (rT1 k) = true ∧ ckC L n m (L + 5 + (n + m)) 1010 (2 * k + 1) (rT3 k) = true := fun k hk => by
          have h := rall (rall (rall (rall kE (show L - 2 < 4 by omega)) (show n - 1 < 4 by omega)) (show m - 1 < 4 by omega)) (show k < L - 2 + 2 by omega)
          rw [show L - 2 + 2 = L by omega, show n - 1 + 1 = n by omega, show m - 1 + 1 = m by omega, show L - 2 + (n - 1) + (m - 1) + 7 = L + 3 + (n + m) by omega, show L - 2 + (n - 1) + (m - 1) + 9 = L + 5 + (n + m) by omega, Bool.and_eq_true] at h
          exact h
        have hx : c = L + 2 + (n + m) ∨ c = L + 3 + (n + m) ∨ c = L + 4 + (n + m) ∨ c = L + 5 + (n + m) ∨ c = L + 6 + (n + m) := by omega
        unfold txC
        rw [nb_ne (show c ≠ 0 by omega), bleF (show L < c by omega), nb_ne c1, bleF (show L + 1 + (n + m) < c by omega)]
        rcases hx with rfl | rfl | rfl | rfl | rfl
        · rw [nb_self]
          exact ⟨_, 0, 0, rlq_ok lT0, hkD.1, Or.inl rfl⟩
        · rw [nb_ne (show L + 3 + (n + m) ≠ L + 2 + (n + m) by omega), nb_self]
          exact ⟨_, 1011, 2 * mo + 1, rlq_ok (rall lT1 (show mo < 5 by omega)), (hE mo d3).1, Or.inr rfl⟩
        · rw [nb_ne (show L + 4 + (n + m) ≠ L + 2 + (n + m) by omega), nb_ne (show L + 4 + (n + m) ≠ L + 3 + (n + m) by omega), nb_self]
          exact ⟨_, 0, 0, rlq_ok lT2, hkD.2.1, Or.inl rfl⟩
        · rw [nb_ne (show L + 5 + (n + m) ≠ L + 2 + (n + m) by omega), nb_ne (show L + 5 + (n + m) ≠ L + 3 + (n + m) by omega), nb_ne (show L + 5 + (n + m) ≠ L + 4 + (n + m) by omega), nb_self]
          exact ⟨_, 1010, 2 * hi + 1, rlq_ok (rall lT3 (show hi < 5 by omega)), (hE hi d2).2, Or.inr rfl⟩
        · rw [nb_ne (show L + 6 + (n + m) ≠ L + 2 + (n + m) by omega), nb_ne (show L + 6 + (n + m) ≠ L + 3 + (n + m) by omega), nb_ne (show L + 6 + (n + m) ≠ L + 4 + (n + m) by omega), nb_ne (show L + 6 + (n + m) ≠ L + 5 + (n + m) by omega)]
          exact ⟨_, 0, 0, rlq_ok lT4, hkD.2.2, Or.inl rfl⟩
end W86
