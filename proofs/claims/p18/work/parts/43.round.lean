/-! the rounds in which types are parted -/
theorem mo_ch_upd {C : Nat → Int32} {nn p : Nat} {x : Int32} : ∀ {ks : List Nat} {k : Int32}, (∀ j ∈ ks, j < p) → mo_ch C nn k ks → mo_ch (upd C p x) nn k ks
  | [], _, _, h => h
  | m :: r, k, hj, h => by
    obtain ⟨h1, h2, h3⟩ := h
    refine ⟨h1, h2, ?_⟩
    have hm := hj m List.mem_cons_self
    rw [show upd C p x m = C m by simp [upd, Nat.ne_of_lt hm]]
    exact mo_ch_upd (fun j hjm => hj j (List.mem_cons_of_mem _ hjm)) h3
theorem lkt_symm {kd hi : Nat → Int32} {pt : Nat → Nat} {sh : Nat → Int32} {a b : Nat} (h : lkt kd hi pt sh a b = true) : lkt kd hi pt sh b a = true := by
  unfold lkt at h ⊢
  simp only [Bool.or_eq_true, Bool.and_eq_true, decide_eq_true_eq] at h ⊢
  rcases h with h | ⟨⟨⟨h1, h2⟩, h3⟩, h4⟩
  · exact Or.inl h.symm
  · exact Or.inr ⟨⟨⟨h1.symm, h1 ▸ h2⟩, h3.symm⟩, h4.symm⟩
theorem lkt_trans {kd hi : Nat → Int32} {pt : Nat → Nat} {sh : Nat → Int32} {a b c : Nat} (h : lkt kd hi pt sh a b = true) (g : lkt kd hi pt sh b c = true) : lkt kd hi pt sh a c = true := by
  unfold lkt at h g ⊢
  simp only [Bool.or_eq_true, Bool.and_eq_true, decide_eq_true_eq] at h g ⊢
  rcases h with h | ⟨⟨⟨h1, h2⟩, h3⟩, h4⟩
  · subst h; exact g
  · rcases g with g | ⟨⟨⟨g1, g2⟩, g3⟩, g4⟩
    · subst g; exact Or.inr ⟨⟨⟨h1, h2⟩, h3⟩, h4⟩
    · exact Or.inr ⟨⟨⟨h1.trans g1, h2⟩, h3.trans g3⟩, h4.trans g4⟩
theorem lkt_refl {kd hi : Nat → Int32} {pt : Nat → Nat} {sh : Nat → Int32} {a : Nat} : lkt kd hi pt sh a a = true := by simp [lkt]
def RI (S : Nat → Nat) (lk : Nat → Nat → Bool) (own : Nat → Bool) (ix : Nat → Nat) (nn : Nat) (ns pre : List Nat) (p : Nat) (m : Nat → Nat) (H C Sh : Nat → Int32) (M : Nat → Option Nat) (KS : Nat → List Nat) : Prop :=
  p ≤ pre.length ∧ (∀ k, k < p → M k = some (m k) ∧ m k ∈ pre ∧ own (m k) = true ∧ Sh (ix (m k)) = Int32.ofNat k) ∧
  (∀ s, s < nn → mo_ch C nn (H s) (KS s) ∧ (∀ k, k ∈ KS s ↔ k < p ∧ S (m k) = s) ∧ (KS s).length ≤ p) ∧
  (∀ x ∈ pre, own x = true → ∃ k, k < p ∧ Sh (ix x) = Int32.ofNat k ∧ S x = S (m k) ∧ lk (m k) x = true) ∧
  (∀ j k, j < k → k < p → ¬ (S (m j) = S (m k) ∧ lk (m j) (m k) = true)) ∧ (∀ x ∈ ns, own x = false → Sh (ix x) = 0)
section RIS
variable {S : Nat → Nat} {lk : Nat → Nat → Bool} {own : Nat → Bool} {ix : Nat → Nat} {nn : Nat} {ns pre : List Nat} {p : Nat} {m : Nat → Nat} {H C Sh : Nat → Int32} {M : Nat → Option Nat} {KS : Nat → List Nat}
theorem RI.start (hH : ∀ s, s < nn → H s = -1) (hS : ∀ x ∈ ns, own x = false → Sh (ix x) = 0) : RI S lk own ix nn ns [] 0 m H C Sh M (fun _ => []) := by
  refine ⟨Nat.le_refl _, fun k hk => absurd hk (Nat.not_lt_zero _), fun s hs => ⟨hH s hs, fun k => ?_, Nat.le_refl _⟩, fun x hx => (by cases hx), fun j k _ hk => absurd hk (Nat.not_lt_zero _), hS⟩
  exact ⟨fun h => (by cases h), fun h => absurd h.1 (Nat.not_lt_zero _)⟩
theorem RI.skip (h : RI S lk own ix nn ns pre p m H C Sh M KS) {n : Nat} (hn : own n = false) : RI S lk own ix nn ns (pre ++ [n]) p m H C Sh M KS := by
  obtain ⟨h1, h2, h3, h4, h5, h6⟩ := h
  refine ⟨by rw [List.length_append]; exact Nat.le_trans h1 (Nat.le_add_right _ _), fun k hk => ⟨(h2 k hk).1, List.mem_append_left _ (h2 k hk).2.1, (h2 k hk).2.2⟩, h3, fun x hx ho => ?_, h5, h6⟩
  rcases List.mem_append.mp hx with e | e
  · exact h4 x e ho
  · rw [List.mem_singleton.mp e, hn] at ho; cases ho
theorem RI.found (h : RI S lk own ix nn ns pre p m H C Sh M KS) {n k : Nat} (hno : own n = true) (hpre : ∀ x ∈ pre, x ∈ ns) (hns : n ∈ ns) (hnp : n ∉ pre) (hix : ∀ x ∈ ns, ∀ y ∈ ns, ix x = ix y → x = y) (hs : S n < nn) (hk : k ∈ KS (S n)) (hl : lk (m k) n = true) : RI S lk own ix nn ns (pre ++ [n]) p m H C (upd Sh (ix n) (Int32.ofNat k)) M KS := by
  obtain ⟨h1, h2, h3, h4, h5, h6⟩ := h
  have hne : ∀ x ∈ pre, ix x ≠ ix n := fun x hx e => hnp (by rw [← hix x (hpre x hx) n hns e]; exact hx)
  have hkk := ((h3 _ hs).2.1 k).mp hk
  refine ⟨by rw [List.length_append]; exact Nat.le_trans h1 (Nat.le_add_right _ _), fun j hj => ⟨(h2 j hj).1, List.mem_append_left _ (h2 j hj).2.1, (h2 j hj).2.2.1, ?_⟩, h3, fun x hx ho => ?_, h5, fun x hx ho => ?_⟩
  · simp only [upd]
    rw [if_neg (hne _ (h2 j hj).2.1)]
    exact (h2 j hj).2.2.2
  · rcases List.mem_append.mp hx with e | e
    · obtain ⟨j, g1, g2, g3⟩ := h4 x e ho
      refine ⟨j, g1, ?_, g3⟩
      simp only [upd]
      rw [if_neg (hne x e)]
      exact g2
    · rw [List.mem_singleton.mp e]
      refine ⟨k, hkk.1, by simp [upd], hkk.2.symm, hl⟩
  · simp only [upd]
    rw [if_neg (fun e => by rw [hix x hx n hns e, hno] at ho; cases ho)]
    exact h6 x hx ho
theorem RI.new (h : RI S lk own ix nn ns pre p m H C Sh M KS) {n : Nat} (hno : own n = true) (hpre : ∀ x ∈ pre, x ∈ ns) (hns : n ∈ ns) (hnp : n ∉ pre) (hix : ∀ x ∈ ns, ∀ y ∈ ns, ix x = ix y → x = y) (hs : S n < nn) (hp : p < nn) (hr : lk n n = true) (hf : (KS (S n)).find? (fun k => lk (m k) n) = none) :
    RI S lk own ix nn ns (pre ++ [n]) (p + 1) (fun j => if j = p then n else m j) (upd H (S n) (Int32.ofNat p)) (upd C p (H (S n))) (upd Sh (ix n) (Int32.ofNat p)) (va_up M p (some n)) (fun s => if s = S n then p :: KS s else KS s) := by
  obtain ⟨h1, h2, h3, h4, h5, h6⟩ := h
  have hne : ∀ x ∈ pre, ix x ≠ ix n := fun x hx e => hnp (by rw [← hix x (hpre x hx) n hns e]; exact hx)
  refine ⟨by rw [List.length_append]; exact Nat.succ_le_succ h1, fun j hj => ?_, fun s hss => ?_, fun x hx ho => ?_, fun j k hjk hk => ?_, fun x hx ho => ?_⟩
  · by_cases e : j = p
    · subst e
      simp [va_up, upd, hno]
    · have hj' : j < p := by omega
      obtain ⟨g1, g2, g3, g4⟩ := h2 j hj'
      refine ⟨by simp [va_up, e, g1], by simp [e, g2], by simp [e, g3], ?_⟩
      simp only [upd, if_neg e]
      rw [if_neg (hne _ g2)]
      exact g4
  · obtain ⟨g1, g2, g3⟩ := h3 s hss
    have hlt : ∀ j ∈ KS s, j < p := fun j hj => ((g2 j).mp hj).1
    by_cases e : s = S n
    · subst e
      refine ⟨?_, fun k => ?_, ?_⟩
      · simp only [if_pos]
        refine ⟨by simp [upd], hp, ?_⟩
        rw [show upd C p (H (S n)) p = H (S n) by simp [upd]]
        exact mo_ch_upd hlt g1
      · simp only [if_pos, List.mem_cons]
        constructor
        · intro hk
          rcases hk with rfl | hk
          · exact ⟨Nat.lt_succ_self _, by simp⟩
          · have := (g2 k).mp hk
            exact ⟨Nat.lt_succ_of_lt this.1, by rw [if_neg (Nat.ne_of_lt this.1)]; exact this.2⟩
        · intro ⟨hk, hk2⟩
          by_cases e : k = p
          · exact Or.inl e
          · rw [if_neg e] at hk2
            exact Or.inr ((g2 k).mpr ⟨by omega, hk2⟩)
      · simp only [if_pos, List.length_cons]
        exact Nat.succ_le_succ g3
    · refine ⟨?_, fun k => ?_, ?_⟩
      · simp only [if_neg e]
        rw [show upd H (S n) (Int32.ofNat p) s = H s by simp [upd, e]]
        exact mo_ch_upd hlt g1
      · simp only [if_neg e]
        rw [g2 k]
        constructor
        · intro ⟨hk, hk2⟩
          exact ⟨Nat.lt_succ_of_lt hk, by rw [if_neg (Nat.ne_of_lt hk)]; exact hk2⟩
        · intro ⟨hk, hk2⟩
          by_cases e2 : k = p
          · rw [if_pos e2] at hk2
            exact absurd hk2.symm e
          · rw [if_neg e2] at hk2
            exact ⟨by omega, hk2⟩
      · simp only [if_neg e]
        exact Nat.le_succ_of_le g3
  · rcases List.mem_append.mp hx with e | e
    · obtain ⟨j, g1, g2, g3, g4⟩ := h4 x e ho
      refine ⟨j, Nat.lt_succ_of_lt g1, ?_, ?_, ?_⟩
      · simp only [upd]; rw [if_neg (hne x e)]; exact g2
      · show S x = S (if j = p then n else m j); rw [if_neg (Nat.ne_of_lt g1)]; exact g3
      · show lk (if j = p then n else m j) x = true; rw [if_neg (Nat.ne_of_lt g1)]; exact g4
    · rw [List.mem_singleton.mp e]
      exact ⟨p, Nat.lt_succ_self _, by simp [upd], by simp, by simp [hr]⟩
  · by_cases e : k = p
    · subst e
      show ¬ (S (if j = k then n else m j) = S (if k = k then n else m k) ∧ lk (if j = k then n else m j) (if k = k then n else m k) = true)
      rw [if_pos rfl, if_neg (Nat.ne_of_lt hjk)]
      intro ⟨g1, g2⟩
      have hj : j ∈ KS (S n) := ((h3 _ hs).2.1 j).mpr ⟨hjk, g1⟩
      have := List.find?_eq_none.mp hf j hj
      exact this g2
    · have hk' : k < p := by omega
      show ¬ (S (if j = p then n else m j) = S (if k = p then n else m k) ∧ lk (if j = p then n else m j) (if k = p then n else m k) = true)
      rw [if_neg e, if_neg (by omega)]
      exact h5 j k hjk hk'
  · simp only [upd]
    rw [if_neg (fun e => by rw [hix x hx n hns e, hno] at ho; cases ho)]
    exact h6 x hx ho
end RIS
theorem cover_len : ∀ (q : Nat) (L : List Nat), (∀ v, v < q → v ∈ L) → q ≤ L.length
  | 0, _, _ => Nat.zero_le _
  | q + 1, L, h => by
    have h1 := cover_len q (L.filter (fun v => !decide (v = q))) (fun v hv => List.mem_filter.mpr ⟨h v (by omega), by simp; omega⟩)
    have h2 : (L.filter (fun v => !decide (v = q))).length < L.length := by
      rw [List.length_filter_lt_length_iff_exists]
      exact ⟨q, h q (Nat.lt_succ_self _), by simp⟩
    omega
/-- a relation whose likes are alike at one look again -/
def IsBis (ns : List Nat) (own : Nat → Bool) (kd hi : Nat → Int32) (pt : Nat → Nat) (B : Nat → Nat → Prop) : Prop := ∀ x ∈ ns, ∀ y ∈ ns, own x = true → own y = true → B x y → x = y ∨ (kd x = kd y ∧ (kd x = 3 ∨ kd x = 5) ∧ hi x = hi y ∧ B (pt x) (pt y))
def OI (ns : List Nat) (own : Nat → Bool) (kd hi : Nat → Int32) (pt : Nat → Nat) (nn : Nat) (S : Nat → Nat) (many : Nat) : Prop :=
  (∀ x ∈ ns, own x = true → S x < many) ∧ many ≤ nn ∧ 1 ≤ many ∧ (∀ v, v < many → ∃ x ∈ ns, own x = true ∧ S x = v) ∧ (∀ B, IsBis ns own kd hi pt B → ∀ x ∈ ns, ∀ y ∈ ns, own x = true → own y = true → B x y → S x = S y) ∧ (∀ x ∈ ns, own x = false → S x = 0)
def Stb (ns : List Nat) (own : Nat → Bool) (kd hi : Nat → Int32) (pt : Nat → Nat) (S : Nat → Nat) : Prop := ∀ x ∈ ns, ∀ y ∈ ns, own x = true → own y = true → S x = S y → lkt kd hi pt (fun z => Int32.ofNat (S z)) x y = true
theorem RI.next {ns : List Nat} {own : Nat → Bool} {kd hi : Nat → Int32} {pt ix : Nat → Nat} {nn : Nat} {S : Nat → Nat} {many p : Nat} {m : Nat → Nat} {H C Sh : Nat → Int32} {M : Nat → Option Nat} {KS : Nat → List Nat} (hnn : nn < 2147483648) (hln : ns.length = nn) (hpt : ∀ x ∈ ns, own x = true → kd x = 3 ∨ kd x = 5 → pt x ∈ ns ∧ own (pt x) = true)
    (hO : OI ns own kd hi pt nn S many) (h : RI S (lkt kd hi pt (fun z => Int32.ofNat (S z))) own ix nn ns ns p m H C Sh M KS) :
    ∃ S' : Nat → Nat, (∀ x ∈ ns, Sh (ix x) = Int32.ofNat (S' x)) ∧ OI ns own kd hi pt nn S' p ∧ (p ≤ many → Stb ns own kd hi pt S') := by
  obtain ⟨h1, h2, h3, h4, h5, h6⟩ := h
  obtain ⟨o1, o2, o3, o4, o5, o6⟩ := hO
  have hpn : p ≤ nn := by omega
  have hown : ∀ x ∈ ns, own x = true → (Sh (ix x)).toNatClampNeg < p ∧ Sh (ix x) = Int32.ofNat (Sh (ix x)).toNatClampNeg ∧ S x = S (m (Sh (ix x)).toNatClampNeg) ∧ lkt kd hi pt (fun z => Int32.ofNat (S z)) (m (Sh (ix x)).toNatClampNeg) x = true := by
    intro x hx ho
    obtain ⟨k, g1, g2, g3, g4⟩ := h4 x hx ho
    have e : (Sh (ix x)).toNatClampNeg = k := by rw [g2, nat_c (by omega)]
    rw [e]
    exact ⟨g1, g2, g3, g4⟩
  have hm : ∀ k, k < p → (Sh (ix (m k))).toNatClampNeg = k := fun k hk => by rw [(h2 k hk).2.2.2, nat_c (by omega)]
  have heq : ∀ x ∈ ns, ∀ y ∈ ns, own x = true → own y = true → ((Sh (ix x)).toNatClampNeg = (Sh (ix y)).toNatClampNeg ↔ (S x = S y ∧ lkt kd hi pt (fun z => Int32.ofNat (S z)) x y = true)) := by
    intro x hx y hy hox hoy
    obtain ⟨x1, x2, x3, x4⟩ := hown x hx hox
    obtain ⟨y1, y2, y3, y4⟩ := hown y hy hoy
    constructor
    · intro e
      rw [← e] at y3 y4
      exact ⟨x3.trans y3.symm, lkt_trans (lkt_symm x4) y4⟩
    · intro ⟨e1, e2⟩
      have hk : S (m (Sh (ix x)).toNatClampNeg) = S (m (Sh (ix y)).toNatClampNeg) ∧ lkt kd hi pt (fun z => Int32.ofNat (S z)) (m (Sh (ix x)).toNatClampNeg) (m (Sh (ix y)).toNatClampNeg) = true := ⟨by rw [← x3, ← y3]; exact e1, lkt_trans x4 (lkt_trans e2 (lkt_symm y4))⟩
      rcases Nat.lt_trichotomy (Sh (ix x)).toNatClampNeg (Sh (ix y)).toNatClampNeg with g | g | g
      · exact absurd hk (h5 _ _ g y1)
      · exact g
      · exact absurd ⟨hk.1.symm, lkt_symm hk.2⟩ (h5 _ _ g x1)
  have hn0 : ∀ x ∈ ns, own x = false → Sh (ix x) = Int32.ofNat (Sh (ix x)).toNatClampNeg ∧ (Sh (ix x)).toNatClampNeg = 0 := by
    intro x hx ho
    rw [h6 x hx ho]
    exact ⟨rfl, rfl⟩
  refine ⟨fun x => (Sh (ix x)).toNatClampNeg, fun x hx => ?_, ⟨fun x hx ho => (hown x hx ho).1, hpn, ?_, fun v hv => ⟨m v, (h2 v hv).2.1, (h2 v hv).2.2.1, hm v hv⟩, fun B hB x hx y hy hox hoy hb => ?_, fun x hx ho => (hn0 x hx ho).2⟩, fun hle => ?_⟩
  · cases ho : own x with
    | true => exact (hown x hx ho).2.1
    | false => exact (hn0 x hx ho).1
  · obtain ⟨x, hx, ho, -⟩ := o4 0 (by omega)
    have := (hown x hx ho).1
    omega
  · refine (heq x hx y hy hox hoy).mpr ⟨o5 B hB x hx y hy hox hoy hb, ?_⟩
    rcases hB x hx y hy hox hoy hb with e | ⟨e1, e2, e3, e4⟩
    · subst e; exact lkt_refl
    · have px := hpt x hx hox e2
      have py := hpt y hy hoy (e1 ▸ e2)
      have := o5 B hB _ px.1 _ py.1 px.2 py.2 e4
      rcases e2 with e2 | e2 <;> simp [lkt, e1, e3, this, e1.symm.trans e2]
  · -- no more parts: those of one old shape are of one new shape
    have hinj : ∀ j k, j < k → k < p → S (m j) ≠ S (m k) := by
      intro j k hjk hk e
      have hc := cover_len many (((List.range p).filter (fun i => !decide (i = k))).map (fun i => S (m i))) (fun v hv => by
        obtain ⟨x, hx, ho, hxv⟩ := o4 v hv
        obtain ⟨x1, x2, x3, x4⟩ := hown x hx ho
        by_cases e2 : (Sh (ix x)).toNatClampNeg = k
        · refine List.mem_map.mpr ⟨j, List.mem_filter.mpr ⟨List.mem_range.mpr (by omega), by simp; omega⟩, ?_⟩
          rw [e, ← e2, ← x3]; exact hxv
        · exact List.mem_map.mpr ⟨_, List.mem_filter.mpr ⟨List.mem_range.mpr x1, by simp [e2]⟩, by rw [← x3]; exact hxv⟩)
      have h2' : ((List.range p).filter (fun i => !decide (i = k))).length < (List.range p).length := by
        rw [List.length_filter_lt_length_iff_exists]
        exact ⟨k, List.mem_range.mpr hk, by simp⟩
      rw [List.length_map] at hc
      rw [List.length_range] at h2'
      omega
    intro x hx y hy hox hoy e
    obtain ⟨e1, e2⟩ := (heq x hx y hy hox hoy).mp e
    unfold lkt at e2 ⊢
    simp only [Bool.or_eq_true, Bool.and_eq_true, decide_eq_true_eq] at e2 ⊢
    rcases e2 with e2 | ⟨⟨⟨g1, g2⟩, g3⟩, g4⟩
    · exact Or.inl e2
    · refine Or.inr ⟨⟨⟨g1, g2⟩, g3⟩, ?_⟩
      have px := hpt x hx hox g2
      have py := hpt y hy hoy (g1 ▸ g2)
      obtain ⟨x1, x2, x3, x4⟩ := hown _ px.1 px.2
      obtain ⟨y1, y2, y3, y4⟩ := hown _ py.1 py.2
      have hb1 := o1 _ px.1 px.2
      have hb2 := o1 _ py.1 py.2
      have g5 : S (pt x) = S (pt y) := (nat_e (by omega) (by omega)).mp g4
      congr 1
      rcases Nat.lt_trichotomy (Sh (ix (pt x))).toNatClampNeg (Sh (ix (pt y))).toNatClampNeg with g | g | g
      · exact absurd (by rw [← x3, ← y3]; exact g5) (hinj _ _ g y1)
      · exact g
      · exact absurd (by rw [← x3, ← y3]; exact g5.symm) (hinj _ _ g x1)
