/-! a line's tokens are the scanner's -/
theorem nat_wd {k : Nat} (h1 : 2 ≤ k) (h2 : k ≤ 1000) : ¬ Int32.ofNat k = -1 ∧ ¬ Int32.ofNat k = 0 ∧ ¬ Int32.ofNat k = 1 := by
  have e : (Int32.ofNat k).toInt = (k : Int) := nat_i (by omega)
  refine ⟨fun h => ?_, fun h => ?_, fun h => ?_⟩
  · rw [h, show (-1 : Int32).toInt = -1 from rfl] at e; omega
  · rw [h, show (0 : Int32).toInt = 0 from rfl] at e; omega
  · rw [h, show (1 : Int32).toInt = 1 from rfl] at e; omega
theorem letr_nmc {c : Nat} (h : letr c = true) : nmc c = true := by unfold nmc; rw [h]; rfl
theorem nmc_no {c : Nat} (h : nmc c = false) : digt c = false ∧ letr c = false ∧ ¬ c = 95 := by
  unfold nmc at h
  rw [Bool.or_eq_false_iff, Bool.or_eq_false_iff] at h
  exact ⟨h.1.2, h.1.1, of_decide_eq_false h.2⟩
theorem letr_b {c : Nat} (h : letr c = true) : ¬ c = 10 ∧ ¬ c = 32 := ⟨fun e => by subst e; revert h; decide, fun e => by subst e; revert h; decide⟩
theorem nbF {a b : Nat} (h : Nat.beq a b = false) : ¬ a = b := fun e => by subst e; rw [nb_self] at h; cases h
def tkI (ln : Nat) (x : Nat × Nat) : Int32 × Int32 × Nat := (Int32.ofNat x.1, Int32.ofNat x.2, ln)
theorem rsv_w {NS : List (List Nat)} {w : List Nat} {k : Nat} {r : List (Nat × List Nat)} (hk : ¬ k = 2) (h3 : ¬ k = 3) : rsv NS ((k, w) :: r) = ((k, 0) :: (rsv NS r).1, (rsv NS r).2) := by
  show (bif Nat.beq k 2 then _ else bif Nat.beq k 3 then _ else _) = _
  rw [nb_ne hk, nb_ne h3]
  rfl
theorem rsv_3 {NS : List (List Nat)} {x : Nat} {r : List (Nat × List Nat)} : rsv NS ((3, [x]) :: r) = ((3, x) :: (rsv NS r).1, (rsv NS r).2) := rfl
theorem rsv_o {NS : List (List Nat)} {w : List Nat} {id : Nat} {r : List (Nat × List Nat)} (h : ixW w NS 0 = some id) : rsv NS ((2, w) :: r) = ((2, id) :: (rsv NS r).1, (rsv NS r).2) := by
  show (match ixW w NS 0 with | some id => (fun q : List (Nat × Nat) × List (List Nat) => ((2, id) :: q.1, q.2)) (rsv NS r) | none => (fun q : List (Nat × Nat) × List (List Nat) => ((2, NS.length) :: q.1, q.2)) (rsv (NS ++ [w]) r)) = _
  rw [h]
theorem rsv_n {NS : List (List Nat)} {w : List Nat} {r : List (Nat × List Nat)} (h : ixW w NS 0 = none) : rsv NS ((2, w) :: r) = ((2, NS.length) :: (rsv (NS ++ [w]) r).1, (rsv (NS ++ [w]) r).2) := by
  show (match ixW w NS 0 with | some id => (fun q : List (Nat × Nat) × List (List Nat) => ((2, id) :: q.1, q.2)) (rsv NS r) | none => (fun q : List (Nat × Nat) × List (List Nat) => ((2, NS.length) :: q.1, q.2)) (rsv (NS ++ [w]) r)) = _
  rw [h]
section LX2
variable {T : Nat → Nat} {n : Nat}
theorem NSt.eqs {sa sl : Nat → Nat} {NS : List (List Nat)} (h : NSt T sa sl NS) {p : Nat} {w : List Nat} (hw : ∀ i x, w[i]? = some x → T (p + i) = x) {id : Nat} (hid : NS[id]? = some w) : EqS T sa sl p w.length id := by
  obtain ⟨h1, h2⟩ := h id w hid
  exact ⟨h1, fun i hi => (h2 i _ (nthN_at hi)).trans (hw i _ (nthN_at hi)).symm⟩
theorem NSt.neq {sa sl : Nat → Nat} {NS : List (List Nat)} (h : NSt T sa sl NS) {p : Nat} {w : List Nat} (hw : ∀ i x, w[i]? = some x → T (p + i) = x) (hno : ixW w NS 0 = none) {id : Nat} (hid : id < NS.length) : ¬ EqS T sa sl p w.length id := by
  rintro ⟨e1, e2⟩
  obtain ⟨h1, h2⟩ := h id NS[id] (List.getElem?_eq_getElem hid)
  refine ixW_none (k := id) hno ?_
  rw [List.getElem?_eq_getElem hid]
  congr 1
  apply List.ext_getElem?
  intro i
  by_cases hi : i < w.length
  · have hi2 : i < NS[id].length := by omega
    have q1 := h2 i _ (List.getElem?_eq_getElem hi2)
    have q2 := hw i _ (List.getElem?_eq_getElem hi)
    rw [List.getElem?_eq_getElem hi2, List.getElem?_eq_getElem hi, ← q1, ← q2, e2 i hi]
  · rw [List.getElem?_eq_none (by omega), List.getElem?_eq_none (by omega)]
theorem NSt.new {sa sl : Nat → Nat} {NS : List (List Nat)} (h : NSt T sa sl NS) {p : Nat} {w : List Nat} (hw : ∀ i x, w[i]? = some x → T (p + i) = x) : NSt T (fun k => if k = NS.length then p else sa k) (fun k => if k = NS.length then w.length else sl k) (NS ++ [w]) := by
  intro id x hx
  by_cases e : id = NS.length
  · subst e
    rw [List.getElem?_append_right (Nat.le_refl _), Nat.sub_self] at hx
    cases hx
    dsimp only
    rw [if_pos rfl, if_pos rfl]
    exact ⟨rfl, hw⟩
  · have hlt : id < NS.length := by
      rcases Nat.lt_or_ge id NS.length with h | h
      · exact h
      · rw [List.getElem?_eq_none (by rw [List.length_append]; simp; omega)] at hx; cases hx
    rw [List.getElem?_append_left hlt] at hx
    dsimp only
    rw [if_neg e, if_neg e]
    exact h id x hx
theorem rlx_ok : ∀ (f : Nat) (s : List Nat) (rts : List (Nat × List Nat)), rlx f s = some rts → ∀ (p ln : Nat) (NS : List (List Nat)) (sa sl : Nat → Nat) (rest : List Nat) (r : List (Int32 × Int32 × Nat)), Sf T n p (s ++ rest) → NSt T sa sl NS → (rsv NS rts).2.length ≤ 3000 →
    (∀ sa' sl', NSt T sa' sl' (rsv NS rts).2 → Lx T n (WDt T) (SGt T n) (SEt T n) (sgnt T n) r (p + s.length) (ln + 1) (rsv NS rts).2.length sa' sl') → Lx T n (WDt T) (SGt T n) (SEt T n) (sgnt T n) ((rsv NS rts).1.map (tkI ln) ++ r) p ln NS.length sa sl
  | 0, s, rts, h => by cases h
  | f + 1, [], rts, h => by cases h
  | f + 1, c :: s, rts, h => by
    intro p ln NS sa sl rest r hS hN hlen hk
    obtain ⟨hc, hp, hS1⟩ := Sf.hd (c := c) (s := s ++ rest) hS
    unfold rlx at h
    cases e10 : Nat.beq c 10 with
    | true =>
      rw [e10] at h
      have ec := Nat.eq_of_beq_eq_true e10
      match s, h with
      | [], h =>
        cases h
        refine Lx_sk (Nat.le_of_lt hp) (skB_10 hp (hc.trans ec)) (hk sa sl hN)
    | false =>
    rw [e10] at h
    have n10 := nbF e10
    cases e32 : Nat.beq c 32 with
    | true =>
      rw [e32] at h
      have ec := Nat.eq_of_beq_eq_true e32
      refine Lx_sk (Nat.le_of_lt hp) (skB_32 hp (hc.trans ec)) (rlx_ok f s rts h (p + 1) ln NS sa sl rest r hS1 hN hlen (fun sa' sl' hN' => ?_))
      have := hk sa' sl' hN'
      rw [List.length_cons, show p + (s.length + 1) = p + 1 + s.length by omega] at this
      exact this
    | false =>
    rw [e32] at h
    have n32 := nbF e32
    have hc10 : ¬ T p = 10 := by rw [hc]; exact n10
    have hc32 : ¬ T p = 32 := by rw [hc]; exact n32
    cases el : letr c with
    | true =>
      rw [el] at h
      have h : (bif Nat.ble (tkw s).length 15 && (nxO (rst s) && (Nat.beq (kwW (c :: tkw s)) 0 || (Nat.ble 4 (kwW (c :: tkw s)) && Nat.ble (kwW (c :: tkw s)) 1000))) then (rlx f (rst s)).map (fun l => mkT (c :: tkw s) (kwW (c :: tkw s)) :: l) else none) = some rts := h
      cases hb : (Nat.ble (tkw s).length 15 && (nxO (rst s) && (Nat.beq (kwW (c :: tkw s)) 0 || (Nat.ble 4 (kwW (c :: tkw s)) && Nat.ble (kwW (c :: tkw s)) 1000)))) with
      | false => rw [hb] at h; cases h
      | true =>
        rw [hb] at h
        rw [Bool.and_eq_true, Bool.and_eq_true] at hb
        obtain ⟨b1, b2, b3⟩ := hb
        obtain ⟨d, r', hd1, hd2⟩ := nxO_ok b2
        have hsp := tk_split s
        cases hr : rlx f (rst s) with
        | none => rw [hr] at h; cases h
        | some l =>
          rw [hr] at h
          cases h
          have hS2 : Sf T n p ((c :: tkw s) ++ (rst s ++ rest)) := by
            have : c :: s ++ rest = (c :: tkw s) ++ (rst s ++ rest) := by
              show c :: (s ++ rest) = c :: (tkw s ++ (rst s ++ rest))
              rw [← List.append_assoc, ← hsp]
            rw [← this]
            exact hS
          have hw := hS2.pre
          have hS3 := hS2.dr
          have he : nmE T n (n - p) p = p + (c :: tkw s).length := by
            rw [hd1] at hS2
            exact nmE_w hd2 (c :: tkw s) p hS2 (fun x hx => by
              rcases List.mem_cons.mp hx with rfl | hx
              · exact letr_nmc el
              · exact tkw_all s x hx)
          have h16 : (c :: tkw s).length ≤ 16 := by
            rw [List.length_cons]
            have := Nat.le_of_ble_eq_true b1
            omega
          have hwd : WDt T p (c :: tkw s).length = if kwW (c :: tkw s) = 0 then -1 else Int32.ofNat (kwW (c :: tkw s)) := wdL_kw hw kwC 200 0 true (by decide)
          have hll : letr (T p) = true := by rw [hc]; exact el
          have hpl : p + (c :: s).length = p + (c :: tkw s).length + (rst s).length := by
            have := congrArg List.length hsp
            rw [List.length_append] at this
            rw [List.length_cons, List.length_cons]
            omega
          have hSr := hS3
          unfold mkT at hlen hk ⊢
          cases ek : Nat.beq (kwW (c :: tkw s)) 0 with
          | true =>
            rw [ek] at hlen hk
            have ek0 := Nat.eq_of_beq_eq_true ek
            rw [ek0, if_pos rfl] at hwd
            show Lx T n (WDt T) (SGt T n) (SEt T n) (sgnt T n) ((rsv NS ((2, c :: tkw s) :: l)).1.map (tkI ln) ++ r) p ln NS.length sa sl
            cases ex : ixW (c :: tkw s) NS 0 with
            | some id =>
              have er := rsv_o (r := l) ex
              obtain ⟨k, hk1, hk2⟩ := ixW_some ex
              have hid : id < NS.length := by
                rcases Nat.lt_or_ge k NS.length with h | h
                · omega
                · rw [List.getElem?_eq_none h] at hk2; cases hk2
              have hk3 : NS[id]? = some (c :: tkw s) := by rw [hk1, Nat.zero_add]; exact hk2
              have hlen' : (rsv NS ((2, c :: tkw s) :: l)).2.length ≤ 3000 := hlen
              have hk' : ∀ sa' sl', NSt T sa' sl' (rsv NS ((2, c :: tkw s) :: l)).2 → Lx T n (WDt T) (SGt T n) (SEt T n) (sgnt T n) r (p + (c :: s).length) (ln + 1) (rsv NS ((2, c :: tkw s) :: l)).2.length sa' sl' := hk
              rw [er] at hlen' hk' ⊢
              have hm := rsv_len l NS
              refine Lx_old hp hc10 hc32 hll he h16 hwd (by have : (rsv NS l).2.length ≤ 3000 := hlen'; omega) hid (hN.eqs hw hk3) ?_
              refine rlx_ok f (rst s) l hr _ ln NS sa sl rest r hSr hN hlen' (fun sa' sl' hN' => ?_)
              rw [← hpl]
              exact hk' sa' sl' hN'
            | none =>
              have er := rsv_n (r := l) ex
              have hlen' : (rsv NS ((2, c :: tkw s) :: l)).2.length ≤ 3000 := hlen
              have hk' : ∀ sa' sl', NSt T sa' sl' (rsv NS ((2, c :: tkw s) :: l)).2 → Lx T n (WDt T) (SGt T n) (SEt T n) (sgnt T n) r (p + (c :: s).length) (ln + 1) (rsv NS ((2, c :: tkw s) :: l)).2.length sa' sl' := hk
              rw [er] at hlen' hk' ⊢
              have hm := rsv_len l (NS ++ [c :: tkw s])
              rw [List.length_append] at hm
              refine Lx_new hp hc10 hc32 hll he h16 hwd (by have : (rsv (NS ++ [c :: tkw s]) l).2.length ≤ 3000 := hlen'; simp at hm; omega) (fun id hid => hN.neq hw ex hid) ?_
              have := rlx_ok f (rst s) l hr _ ln (NS ++ [c :: tkw s]) _ _ rest r hSr (hN.new hw) hlen' (fun sa' sl' hN' => by
                rw [← hpl]
                exact hk' sa' sl' hN')
              rw [List.length_append] at this
              exact this
          | false =>
            rw [ek] at hlen hk b3
            have ek0 := nbF ek
            rw [if_neg ek0] at hwd
            have b4 : (Nat.ble 4 (kwW (c :: tkw s)) && Nat.ble (kwW (c :: tkw s)) 1000) = true := b3
            rw [Bool.and_eq_true] at b4
            have hk2 := Nat.le_of_ble_eq_true b4.1
            have hk3 := Nat.le_of_ble_eq_true b4.2
            have hcase : ¬ kwW (c :: tkw s) = 2 ∧ ¬ kwW (c :: tkw s) = 3 := ⟨by omega, by omega⟩
            have er := rsv_w (NS := NS) (w := []) (r := l) hcase.1 hcase.2
            have hlen' : (rsv NS ((kwW (c :: tkw s), []) :: l)).2.length ≤ 3000 := hlen
            have hk' : ∀ sa' sl', NSt T sa' sl' (rsv NS ((kwW (c :: tkw s), []) :: l)).2 → Lx T n (WDt T) (SGt T n) (SEt T n) (sgnt T n) r (p + (c :: s).length) (ln + 1) (rsv NS ((kwW (c :: tkw s), []) :: l)).2.length sa' sl' := hk
            show Lx T n (WDt T) (SGt T n) (SEt T n) (sgnt T n) ((rsv NS ((kwW (c :: tkw s), []) :: l)).1.map (tkI ln) ++ r) p ln NS.length sa sl
            rw [er] at hlen' hk' ⊢
            obtain ⟨q1, q2, q3⟩ := nat_wd (by omega) hk3
            have := Lx_word (WD := WDt T) (SG := SGt T n) (SE := SEt T n) (sgn := sgnt T n) (r := (rsv NS l).1.map (tkI ln) ++ r) (m := NS.length) (sa := sa) (sl := sl) (ln := ln) hp hc10 hc32 hll he h16 (by rw [hwd]; exact q1) (by rw [hwd]; exact q2) (by rw [hwd]; exact q3) (rlx_ok f (rst s) l hr _ ln NS sa sl rest r hSr hN hlen' (fun sa' sl' hN' => by
              rw [← hpl]
              exact hk' sa' sl' hN'))
            rw [hwd] at this
            exact this
    | false =>
    rw [el] at h
    have hll : letr (T p) = false := by rw [hc]; exact el
    cases ed : digt c with
    | true =>
      rw [ed] at h
      have h : (bif Nat.ble c 50 && nxO s then (rlx f s).map (fun l => (3, [c - 48]) :: l) else none) = some rts := h
      cases hb : (Nat.ble c 50 && nxO s) with
      | false => rw [hb] at h; cases h
      | true =>
        rw [hb] at h
        rw [Bool.and_eq_true] at hb
        obtain ⟨d, r', rfl, hd2⟩ := nxO_ok hb.2
        cases hr : rlx f (d :: r') with
        | none => rw [hr] at h; cases h
        | some l =>
          rw [hr] at h
          cases h
          obtain ⟨e1, e2, -⟩ := Sf.hd (c := d) (s := r' ++ rest) hS1
          obtain ⟨m1, m2, m3⟩ := nmc_no hd2
          have hd48 : 48 ≤ c := by
            unfold digt at ed
            rw [Bool.and_eq_true] at ed
            exact Nat.le_of_ble_eq_true ed.1
          have hd50 := Nat.le_of_ble_eq_true hb.1
          rw [rsv_3] at hlen hk ⊢
          have := Lx_num (WD := WDt T) (SG := SGt T n) (SE := SEt T n) (sgn := sgnt T n) (r := (rsv NS l).1.map (tkI ln) ++ r) (m := NS.length) (sa := sa) (sl := sl) (ln := ln) hp hc10 hc32 hll (by rw [hc]; exact ed) (by rw [hc]; omega) e2 (by rw [e1]; exact m1) (by rw [e1]; exact m2) (by rw [e1]; exact m3) (rlx_ok f (d :: r') l hr (p + 1) ln NS sa sl rest r hS1 hN hlen (fun sa' sl' hN' => by
            have := hk sa' sl' hN'
            rw [List.length_cons, show p + ((d :: r').length + 1) = p + 1 + (d :: r').length by omega] at this
            exact this))
          rw [hc] at this
          exact this
    | false =>
    rw [ed] at h
    match s, h, hS1, hk with
    | d :: r', h, hS1, hk =>
      have h : (bif (Nat.beq (sgk c d).2 2 || (sgO c && Nat.beq (sgk c d).2 1)) && Nat.ble 4 (sgk c d).1 then (rlx f (bif Nat.beq (sgk c d).2 2 then r' else d :: r')).map (fun l => ((sgk c d).1, []) :: l) else none) = some rts := h
      obtain ⟨e1, e2, hS2⟩ := Sf.hd (c := d) (s := r' ++ rest) hS1
      have hnx : nxT T n p = d := by unfold nxT; rw [if_pos e2, e1]
      cases hb : ((Nat.beq (sgk c d).2 2 || (sgO c && Nat.beq (sgk c d).2 1)) && Nat.ble 4 (sgk c d).1) with
      | false => rw [hb] at h; cases h
      | true =>
        rw [hb] at h
        rw [Bool.and_eq_true, Bool.or_eq_true, Bool.and_eq_true] at hb
        have h4 := Nat.le_of_ble_eq_true hb.2
        have hsg : SGt T n p = Int32.ofNat (sgk c d).1 := by unfold SGt; rw [hc, hnx]
        have hse : SEt T n p = p + (sgk c d).2 := by unfold SEt; rw [hc, hnx]
        have hsn : sgnt T n p := by
          unfold sgnt
          rw [hc, hnx]
          rcases hb.1 with e | e
          · exact Or.inl (Nat.eq_of_beq_eq_true e)
          · exact Or.inr e.1
        cases hr : rlx f (bif Nat.beq (sgk c d).2 2 then r' else d :: r') with
        | none => rw [hr] at h; cases h
        | some l =>
          rw [hr] at h
          cases h
          have er := rsv_w (NS := NS) (w := []) (r := l) (show ¬ (sgk c d).1 = 2 by omega) (show ¬ (sgk c d).1 = 3 by omega)
          rw [er] at hlen hk ⊢
          have := Lx_sign (WD := WDt T) (SG := SGt T n) (SE := SEt T n) (sgn := sgnt T n) (r := (rsv NS l).1.map (tkI ln) ++ r) (m := NS.length) (sa := sa) (sl := sl) (ln := ln) hp hc10 hc32 hll (by rw [hc]; exact ed) hsn (by
            rw [hse]
            cases e2k : Nat.beq (sgk c d).2 2 with
            | true =>
              rw [e2k] at hr
              rw [Nat.eq_of_beq_eq_true e2k]
              refine rlx_ok f r' l hr (p + 2) ln NS sa sl rest r hS2 hN hlen (fun sa' sl' hN' => ?_)
              have := hk sa' sl' hN'
              rw [List.length_cons, List.length_cons, show p + (r'.length + 1 + 1) = p + 2 + r'.length by omega] at this
              exact this
            | false =>
              rw [e2k] at hr
              have e1k : (sgk c d).2 = 1 := by
                rcases hb.1 with e | e
                · rw [e2k] at e; cases e
                · exact Nat.eq_of_beq_eq_true e.2
              rw [e1k]
              refine rlx_ok f (d :: r') l hr (p + 1) ln NS sa sl rest r hS1 hN hlen (fun sa' sl' hN' => ?_)
              have := hk sa' sl' hN'
              rw [List.length_cons, show p + ((d :: r').length + 1) = p + 1 + (d :: r').length by omega] at this
              exact this)
          rw [hsg] at this
          exact this
end LX2
