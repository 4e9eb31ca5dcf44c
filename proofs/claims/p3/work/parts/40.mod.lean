/-! the reference: one object, its numbers and its rows -/
def arL : List Nat := [0, 0, 2, 0, 2, 0, 0, 0, 0, 1, 1, 1, 0, 1, 1, 2, 0, 0, 0, 0, 1, 1, 1, 1, 1, 1, 1, 1, 1, 1, 1, 1, 0, 0, 0, 0, 0, 0, 0, 0, 0, 0, 1, 0, 1, 1, 1, 1, 1, 1, 1, 3, 0, 1, 1, 1, 0, 1, 1, 0, 0, 1, 0, 1, 1, 0, 1, 0, 1, 0, 1, 1, 1, 1, 0, 1, 0, 0, 1, 1, 0, 1, 3, 0, 3, 0, 0, 1, 1, 0, 0, 0, 0, 0, 1, 1, 1, 0, 0, 1, 0, 0, 0, 0, 0, 1, 1, 1, 1, 3, 0, 1, 1, 1, 1, 0, 1, 1, 1, 1, 1, 1, 1, 1, 1, 1, 1, 0, 0, 0, 0, 0, 1, 0]
/-- what stands in a field: 0 a number, 1 a row of ints, 2 of bytes, 3 of booleans -/
def ar (g : Nat) : Nat := arL.getD g 0
def ai (g : Nat) : Nat := match ar g with
  | 2 => 1
  | 3 => 6
  | _ => 0
theorem ai_of {g n : Nat} : ar g = n → ai g = (match n with
  | 2 => 1
  | 3 => 6
  | _ => 0) := fun h => by subst h; rfl
/-- numbers, rows, how long the rows are -/
abbrev MS : Type := (Nat → Int32) × (Nat → Nat → Int32) × (Nat → Nat)
/-- where the object, its rows and its two throwables are -/
abbrev MP : Type := Nat × (Nat → Nat) × Nat × Nat
def mfv (P : MP) (μ : MS) (g : Nat) : Value := bif Nat.beq (ar g) 0 then (bif Nat.beq g 1 then .ref P.2.2.1 else bif Nat.beq g 131 then .ref P.2.2.2 else .int (μ.1 g)) else .ref (P.2.1 g)
def mfl (P : MP) (μ : MS) : List Value := (List.range 134).map (mfv P μ)
def mS1 (μ : MS) (g : Nat) (x : Int32) : MS := (fun h => bif Nat.beq h g then x else μ.1 h, μ.2)
def mA1 (μ : MS) (g i : Nat) (x : Int32) : MS := (μ.1, fun h => bif Nat.beq h g then upd (μ.2.1 g) i x else μ.2.1 h, μ.2.2)
/-- an index that is one -/
def MI (x : Int32) (n : Nat) : Prop := 0 ≤ x.toInt ∧ x.toInt < n
/-- what is made: cells, slots -/
def mC (μ : MS) : Nat := if μ.2.2 99 ≤ 29400 then 0 else if μ.2.2 99 ≤ 53200 then 2 else 4
def mO (μ : MS) : Nat := if μ.2.2 99 ≤ 29400 then 0 else if μ.2.2 99 ≤ 53200 then 197200 else 1592800
def MR (W : Nat → Prop) (P : MP) (t : ev_T) (sz : Nat) (μ : MS) : Prop :=
  ev_g t P.1 = some (.inr (13, mfl P μ)) ∧
  (∀ g, g < 134 → ar g ≠ 0 → ev_g t (P.2.1 g) = some (.inl (ai g, μ.2.2 g, .inl (μ.2.1 g)))) ∧
  (∀ g h, g < 134 → h < 134 → ar g ≠ 0 → ar h ≠ 0 → P.2.1 g = P.2.1 h → g = h) ∧
  ((∃ fs, ev_g t P.2.2.1 = some (.inr (12, fs))) ∧ ∃ fs, ev_g t P.2.2.2 = some (.inr (12, fs))) ∧
  (∀ a, W a → a < sz ∧ a ≠ P.1 ∧ ∀ g, g < 134 → ar g ≠ 0 → a ≠ P.2.1 g) ∧
  (P.1 < sz ∧ (∀ g, g < 134 → ar g ≠ 0 → P.2.1 g < sz) ∧ sz ≤ 1048576) ∧ ∀ g, μ.2.2 g < 2147483648
/-- what a method of its kind answers with -/
def mq (k : Nat) (v : Option Value) (r : Int32) : Prop := v = (match (ev_ms k).2.2.2.2.1 with
  | none => none
  | some _ => some (.int r))
def mk (kp : Bool) (P P' : MP) (μ μ' : MS) : Prop := P'.1 = P.1 ∧ P'.2.2 = P.2.2 ∧ (kp = true → P'.2.1 = P.2.1 ∧ μ'.2.2 = μ.2.2)
/-- an outcome: R of what is returned, T of what stands behind a throw -/
def mo (k : Nat) (R : Int32 → MS → Prop) (T : MS → Prop) (o : ev_O) (μ : MS) : Prop := match o with
  | .inl v => ∃ r, mq k v r ∧ R r μ
  | .inr ci => ci = 12 ∧ T μ
def ME (X : ev_X) (W : Nat → Prop) (kp : Bool) (d k pc : Nat) (lv : ev_L) (st : List Value) (P : MP) (μ : MS) (R : Int32 → MS → Prop) (T : MS → Prop) : Prop :=
  ∀ t sz c s, MR W P t sz μ → ∃ o P' μ' t' sz' mc ms, mo k R T o μ' ∧ mk kp P P' μ μ' ∧ MR W P' t' sz' μ' ∧ (∀ a, W a → ev_g t' a = ev_g t a) ∧ sz ≤ sz' ∧ mC μ + mc = mC μ' ∧ mO μ + ms = mO μ' ∧ EE X d k pc lv st (sz, t, c, s) o (sz', t', c + mc, s + ms)
def MC (X : ev_X) (W : Nat → Prop) (kp : Bool) (d k : Nat) (as : List Value) (P : MP) (μ : MS) (R : Int32 → MS → Prop) (T : MS → Prop) : Prop :=
  ∀ t sz, MR W P t sz μ → ∃ o P' μ' t' sz' mc ms, mo k R T o μ' ∧ mk kp P P' μ μ' ∧ MR W P' t' sz' μ' ∧ (∀ a, W a → ev_g t' a = ev_g t a) ∧ sz ≤ sz' ∧ mC μ + mc = mC μ' ∧ mO μ + ms = mO μ' ∧ Cd X d k as sz t o (sz', t', mc, ms)
theorem mk.rf {kp : Bool} {P : MP} {μ : MS} : mk kp P P μ μ := ⟨rfl, rfl, fun _ => ⟨rfl, rfl⟩⟩
theorem mk.tr {kp : Bool} {P P1 P2 : MP} {μ μ1 μ2 : MS} (h : mk kp P P1 μ μ1) (g : mk kp P1 P2 μ1 μ2) : mk kp P P2 μ μ2 := ⟨g.1.trans h.1, g.2.1.trans h.2.1, fun e => ⟨(g.2.2 e).1.trans (h.2.2 e).1, (g.2.2 e).2.trans (h.2.2 e).2⟩⟩
theorem mfl_len (P : MP) (μ : MS) : (mfl P μ).length = 134 := by simp [mfl]
theorem mfl_at (P : MP) (μ : MS) (b : Nat) (h : b < 134) : (mfl P μ)[b]? = some (mfv P μ b) := by
  unfold mfl
  rw [List.getElem?_map, List.getElem?_range h]
  rfl
theorem mfl_set {P : MP} {μ : MS} {b : Nat} {x : Int32} (h : b < 134) (ha : ar b = 0) (h1 : b ≠ 1) (h2 : b ≠ 131) : (mfl P μ).set b (.int x) = mfl P (mS1 μ b x) := by
  apply List.ext_getElem?
  intro i
  rw [List.getElem?_set, mfl_len]
  by_cases e : b = i
  · subst e
    rw [if_pos rfl, if_pos h, mfl_at _ _ _ h]
    unfold mfv mS1
    rw [ha, nb_ne h1, nb_ne h2]
    simp
  · rw [if_neg e]
    by_cases hi : i < 134
    · rw [mfl_at _ _ _ hi, mfl_at _ _ _ hi]
      unfold mfv mS1
      simp only [nb_ne (fun h : i = b => e h.symm), cond_false]
    · rw [List.getElem?_eq_none (by rw [mfl_len]; omega), List.getElem?_eq_none (by rw [mfl_len]; omega)]
theorem MI.ok {x : Int32} {n : Nat} (h : MI x n) (hn : n < 2147483648) : ev_ix x n = true := by
  obtain ⟨h1, h2⟩ := h
  unfold ev_ix
  rw [Bool.and_eq_true]
  refine ⟨?_, Nat.ble_eq.mpr ?_⟩
  · simp only [Bool.not_eq_eq_eq_not, Bool.not_true, decide_eq_false_iff_not, Int32.lt_iff_toInt_lt]
    show ¬ x.toInt < (0 : Int32).toInt
    rw [show (0 : Int32).toInt = 0 from rfl]
    omega
  · have : x.toNatClampNeg = x.toInt.toNat := rfl
    omega
section MOD
variable {X : ev_X} {W : Nat → Prop} {kp : Bool} {d k pc : Nat} {lv : ev_L} {st rest : List Value} {P : MP} {μ : MS} {R : Int32 → MS → Prop} {T : MS → Prop}
theorem MC.mono {as : List Value} {R1 : Int32 → MS → Prop} {T1 : MS → Prop} (h : MC X W kp d k as P μ R1 T1) (hr : ∀ r μ1, R1 r μ1 → R r μ1) (ht : ∀ μ1, T1 μ1 → T μ1) : MC X W kp d k as P μ R T := fun t sz hM => by
  obtain ⟨o, P', μ', t', sz', mc, ms, ho, hh⟩ := h t sz hM
  refine ⟨o, P', μ', t', sz', mc, ms, ?_, hh⟩
  cases o with
  | inl v => obtain ⟨r, h1, h2⟩ := ho; exact ⟨r, h1, hr _ _ h2⟩
  | inr ci => exact ⟨ho.1, ht _ ho.2⟩
theorem MC.N {as : List Value} (h : MC X W true d k as P μ R T) : MC X W true d k as P μ (fun r μ1 => μ1.2.2 = μ.2.2 ∧ R r μ1) (fun μ1 => μ1.2.2 = μ.2.2 ∧ T μ1) := fun t sz hM => by
  obtain ⟨o, P', μ', t', sz', mc, ms, ho, hk, hh⟩ := h t sz hM
  refine ⟨o, P', μ', t', sz', mc, ms, ?_, hk, hh⟩
  cases o with
  | inl v => obtain ⟨r, h1, h2⟩ := ho; exact ⟨r, h1, (hk.2.2 rfl).2, h2⟩
  | inr ci => exact ⟨ho.1, (hk.2.2 rfl).2, ho.2⟩
theorem ME.mono {R1 : Int32 → MS → Prop} {T1 : MS → Prop} (h : ME X W kp d k pc lv st P μ R1 T1) (hr : ∀ r μ1, R1 r μ1 → R r μ1) (ht : ∀ μ1, T1 μ1 → T μ1) : ME X W kp d k pc lv st P μ R T := fun t sz c s hM => by
  obtain ⟨o, P', μ', t', sz', mc, ms, ho, hh⟩ := h t sz c s hM
  refine ⟨o, P', μ', t', sz', mc, ms, ?_, hh⟩
  cases o with
  | inl v => obtain ⟨r, h1, h2⟩ := ho; exact ⟨r, h1, hr _ _ h2⟩
  | inr ci => exact ⟨ho.1, ht _ ho.2⟩
theorem me_meth {as : List Value} (hd : 1 ≤ d) (hl : Nat.ble (lg_sl as).length (ev_ms k).2.2.2.1 = true) (h : ME X W kp (d - 1) k 0 (lv_args 0 as) [] P μ R T) : MC X W kp d k as P μ R T := fun t sz hM => by
  obtain ⟨o, P', μ', t', sz', mc, ms, h1, h2, h3, h4, h5, h6, h7, e⟩ := h t sz 0 0 hM
  refine ⟨o, P', μ', t', sz', mc, ms, h1, h2, h3, h4, h5, h6, h7, ?_⟩
  rw [Nat.zero_add, Nat.zero_add] at e
  have := e_meth (as := as) hl e
  rwa [show d - 1 + 1 = d by omega] at this
theorem me_step {pc1 : Nat} {lv1 : ev_L} {st1 : List Value} (h : ∀ t sz c s, MR W P t sz μ → ∀ r τ, EE X d k pc1 lv1 st1 (sz, t, c, s) r τ → EE X d k pc lv st (sz, t, c, s) r τ) (next : ME X W kp d k pc1 lv1 st1 P μ R T) : ME X W kp d k pc lv st P μ R T := fun t sz c s hM => by
  obtain ⟨o, P', μ', t', sz', mc, ms, h1, h2, h3, h4, h5, h6, h7, e⟩ := next t sz c s hM
  exact ⟨o, P', μ', t', sz', mc, ms, h1, h2, h3, h4, h5, h6, h7, h t sz c s hM _ _ e⟩
theorem me_go (n : Nat) {pc1 : Nat} {lv1 : ev_L} {st1 : List Value} (h : ev_rn k n pc lv st = some (pc1, lv1, st1)) (next : ME X W kp d k pc1 lv1 st1 P μ R T) : ME X W kp d k pc lv st P μ R T := me_step (fun _ _ _ _ _ _ _ e => e_go n h e) next
theorem me_lv (lv1 : ev_L) (h : lvK lv1 lv) (next : ME X W kp d k pc lv1 st P μ R T) : ME X W kp d k pc lv st P μ R T := me_step (fun _ _ _ _ _ _ _ e => by
  obtain ⟨n, hn⟩ := e
  exact ⟨n, lvK.Lp h hn⟩) next
theorem me_icmp {c : Jvm.ClassFile.Cond} {off : Int} {x y : Int32} {t a b tg : Nat} {kk : Int} (hb : ev_tb k pc = some (.if_icmp c off, 3, a, b, tg, kk)) (ht : ev_tg pc off = some t) (h1 : ev_ic c x y = true → ME X W kp d k t lv st P μ R T) (h2 : ev_ic c x y = false → ME X W kp d k (pc + 3) lv st P μ R T) : ME X W kp d k pc lv (.int y :: .int x :: st) P μ R T := by
  cases q : ev_ic c x y with
  | true => exact me_step (fun _ _ _ _ _ _ _ e => e_icmp hb ht true q e) (h1 q)
  | false => exact me_step (fun _ _ _ _ _ _ _ e => e_icmp hb ht false q e) (h2 q)
theorem me_ifc {c : Jvm.ClassFile.Cond} {off : Int} {x : Int32} {t a b tg : Nat} {kk : Int} (hb : ev_tb k pc = some (.ifCond c off, 3, a, b, tg, kk)) (ht : ev_tg pc off = some t) (h1 : ev_ic c x 0 = true → ME X W kp d k t lv st P μ R T) (h2 : ev_ic c x 0 = false → ME X W kp d k (pc + 3) lv st P μ R T) : ME X W kp d k pc lv (.int x :: st) P μ R T := by
  cases q : ev_ic c x 0 with
  | true => exact me_step (fun _ _ _ _ _ _ _ e => e_ifc hb ht true q e) (h1 q)
  | false => exact me_step (fun _ _ _ _ _ _ _ e => e_ifc hb ht false q e) (h2 q)
theorem me_getf {ix b tg : Nat} {kk : Int} {v : Value} (hb : ev_tb k pc = some (.getfield ix, 3, 13, b, tg, kk)) (hn : Nat.ble (b + 1) 134 = true) (hv : mfv P μ b = v) (next : ME X W kp d k (pc + 3) lv (v :: st) P μ R T) : ME X W kp d k pc lv (.ref P.1 :: st) P μ R T :=
  me_step (fun t sz c s hM _ _ e => e_getf hb hM.1 (by rw [ev_nth_eq, mfl_at _ _ _ (Nat.le_of_ble_eq_true hn), hv]) e) next
def mok (b : Nat) : Bool := Nat.ble (b + 1) 134 && (Nat.beq (ar b) 0 && (!Nat.beq b 1 && !Nat.beq b 131))
theorem mok_ok {b : Nat} (h : mok b = true) : b < 134 ∧ ar b = 0 ∧ b ≠ 1 ∧ b ≠ 131 := by
  unfold mok at h
  simp only [Bool.and_eq_true, Bool.not_eq_eq_eq_not, Bool.not_true] at h
  obtain ⟨h1, h2, h3, h4⟩ := h
  refine ⟨Nat.le_of_ble_eq_true h1, Nat.eq_of_beq_eq_true h2, fun e => ?_, fun e => ?_⟩
  · subst e; cases h3
  · subst e; cases h4
theorem MR.put {t : ev_T} {sz : Nat} (h : MR W P t sz μ) {b : Nat} {x : Int32} (hb : mok b = true) : MR W P (ev_p t P.1 (.inr (13, (mfl P μ).set b (.int x)))) sz (mS1 μ b x) := by
  obtain ⟨h1, h2, h3, ⟨⟨f1, h4⟩, f2, h4'⟩, h5, ⟨h6, h6', h6''⟩, h7⟩ := h
  obtain ⟨b1, b2, b3, b4⟩ := mok_ok hb
  have hP : P.1 < 1048576 := Nat.lt_of_lt_of_le h6 h6''
  refine ⟨by rw [ev_gp hP, if_pos rfl, mfl_set b1 b2 b3 b4], fun g hg ha => ?_, h3, ⟨⟨f1, ?_⟩, f2, ?_⟩, h5, ⟨h6, h6', h6''⟩, h7⟩
  · have hne : P.2.1 g ≠ P.1 := fun e => by have := h2 g hg ha; rw [e, h1] at this; cases this
    rw [ev_gp hP, if_neg hne, h2 g hg ha]; rfl
  · have hne : P.2.2.1 ≠ P.1 := fun e => by rw [e, h1] at h4; injection h4 with h4; injection h4 with h4; injection h4 with h4; cases h4
    rw [ev_gp hP, if_neg hne, h4]
  · have hne : P.2.2.2 ≠ P.1 := fun e => by rw [e, h1] at h4'; injection h4' with h4'; injection h4' with h4'; injection h4' with h4'; cases h4'
    rw [ev_gp hP, if_neg hne, h4']
theorem me_put {ix b tg : Nat} {kk : Int} {x : Int32} (hb : ev_tb k pc = some (.putfield ix, 3, 13, b, tg, kk)) (hm : mok b = true) (hf : ev_fit tg (.int x) = true) (next : ME X W kp d k (pc + 3) lv st P (mS1 μ b x) R T) : ME X W kp d k pc lv (.int x :: .ref P.1 :: st) P μ R T := fun t sz c s hM => by
  obtain ⟨o, P', μ', t', sz', mc, ms, h1, h2, h3, h4, h5, h6, h7, e⟩ := next _ sz c s (hM.put (x := x) hm)
  refine ⟨o, P', μ', t', sz', mc, ms, h1, h2, h3, fun a ha => ?_, h5, h6, h7, e_putf hb hM.1 hf (by rw [mfl_len]; exact (mok_ok hm).1) (Nat.lt_of_lt_of_le hM.2.2.2.2.2.1.1 hM.2.2.2.2.2.1.2.2) e⟩
  rw [h4 a ha, ev_gp (Nat.lt_of_lt_of_le hM.2.2.2.2.2.1.1 hM.2.2.2.2.2.1.2.2), if_neg (hM.2.2.2.2.1 a ha).2.1]
theorem MR.arr {t : ev_T} {sz : Nat} (h : MR W P t sz μ) {g i : Nat} {x : Int32} (hg : g < 134) (ha : ar g ≠ 0) : MR W P (ev_p t (P.2.1 g) (.inl (ai g, μ.2.2 g, .inl (upd (μ.2.1 g) i x)))) sz (mA1 μ g i x) := by
  obtain ⟨h1, h2, h3, ⟨⟨f1, h4⟩, f2, h4'⟩, h5, ⟨h6, h6', h6''⟩, h7⟩ := h
  have hP : P.2.1 g < 1048576 := Nat.lt_of_lt_of_le (h6' g hg ha) h6''
  have hne : P.1 ≠ P.2.1 g := fun e => by have := h2 g hg ha; rw [← e, h1] at this; cases this
  refine ⟨by rw [ev_gp hP, if_neg hne, h1]; rfl, fun q hq hr => ?_, h3, ⟨⟨f1, ?_⟩, f2, ?_⟩, h5, ⟨h6, h6', h6''⟩, h7⟩
  · rw [ev_gp hP]
    by_cases e : P.2.1 q = P.2.1 g
    · have := h3 q g hq hg hr ha e
      subst this
      rw [if_pos rfl]
      unfold mA1
      simp only [nb_self, cond_true]
    · have hqg : q ≠ g := fun h => e (by rw [h])
      rw [if_neg e, h2 q hq hr]
      unfold mA1
      simp only [nb_ne hqg, cond_false]
  · have hne2 : P.2.2.1 ≠ P.2.1 g := fun e => by have := h2 g hg ha; rw [← e, h4] at this; cases this
    rw [ev_gp hP, if_neg hne2, h4]
  · have hne2 : P.2.2.2 ≠ P.2.1 g := fun e => by have := h2 g hg ha; rw [← e, h4'] at this; cases this
    rw [ev_gp hP, if_neg hne2, h4']
theorem mC_A {g i : Nat} {x : Int32} : mC (mA1 μ g i x) = mC μ := rfl
theorem me_iald {g a b tg : Nat} {kk : Int} {x : Int32} (hb : ev_tb k pc = some (.iaload, 1, a, b, tg, kk)) (hg : Nat.ble (g + 1) 134 = true) (ha : ar g = 1) (hi : MI x (μ.2.2 g)) (next : ME X W kp d k (pc + 1) lv (.int (μ.2.1 g x.toNatClampNeg) :: st) P μ R T) : ME X W kp d k pc lv (.int x :: .ref (P.2.1 g) :: st) P μ R T :=
  me_step (fun t sz c s hM _ _ e => by
    have hq := hM.2.1 g (Nat.le_of_ble_eq_true hg) (by rw [ha]; decide)
    rw [show ai g = 0 from ai_of ha] at hq
    exact e_iald hb hq (hi.ok (hM.2.2.2.2.2.2 g)) e) next
theorem me_bald {g a b tg : Nat} {kk : Int} {x : Int32} (hb : ev_tb k pc = some (.baload, 1, a, b, tg, kk)) (hg : Nat.ble (g + 1) 134 = true) (ha : ar g = 2 ∨ ar g = 3) (hi : MI x (μ.2.2 g)) (next : ME X W kp d k (pc + 1) lv (.int (μ.2.1 g x.toNatClampNeg) :: st) P μ R T) : ME X W kp d k pc lv (.int x :: .ref (P.2.1 g) :: st) P μ R T :=
  me_step (fun t sz c s hM _ _ e => by
    have hq := hM.2.1 g (Nat.le_of_ble_eq_true hg) (by rcases ha with ha | ha <;> rw [ha] <;> decide)
    have hix := hi.ok (hM.2.2.2.2.2.2 g)
    rcases ha with ha | ha
    · rw [show ai g = 1 from ai_of ha] at hq
      refine e_xh hb ?_ e
      unfold ev_xh
      simp only [hq, hix]
      rfl
    · rw [show ai g = 6 from ai_of ha] at hq
      refine e_xh hb ?_ e
      unfold ev_xh
      simp only [hq, hix]
      rfl) next
theorem me_alen {g a b tg : Nat} {kk : Int} (hb : ev_tb k pc = some (.arraylength, 1, a, b, tg, kk)) (hg : Nat.ble (g + 1) 134 = true) (ha : ar g = 1) (next : ME X W kp d k (pc + 1) lv (.int (Int32.ofNat (μ.2.2 g)) :: st) P μ R T) : ME X W kp d k pc lv (.ref (P.2.1 g) :: st) P μ R T :=
  me_step (fun t sz c s hM _ _ e => by
    have hq := hM.2.1 g (Nat.le_of_ble_eq_true hg) (by rw [ha]; decide)
    rw [show ai g = 0 from ai_of ha] at hq
    exact e_alen hb hq rfl e) next
theorem me_stA {g : Nat} {x y : Int32} (hg : g < 134) (ha : ar g ≠ 0) {pc1 : Nat}
    (hx : ∀ t sz c s, MR W P t sz μ → ∀ r τ, EE X d k pc1 lv st (sz, ev_p t (P.2.1 g) (.inl (ai g, μ.2.2 g, .inl (upd (μ.2.1 g) x.toNatClampNeg y))), c, s) r τ → EE X d k pc lv rest (sz, t, c, s) r τ)
    (next : ME X W kp d k pc1 lv st P (mA1 μ g x.toNatClampNeg y) R T) : ME X W kp d k pc lv rest P μ R T := fun t sz c s hM => by
  obtain ⟨o, P', μ', t', sz', mc, ms, h1, h2, h3, h4, h5, h6, h7, e⟩ := next _ sz c s (hM.arr (i := x.toNatClampNeg) (x := y) hg ha)
  have hP : P.2.1 g < 1048576 := Nat.lt_of_lt_of_le (hM.2.2.2.2.2.1.2.1 g hg ha) hM.2.2.2.2.2.1.2.2
  refine ⟨o, P', μ', t', sz', mc, ms, h1, h2, h3, fun a ha2 => ?_, h5, h6, h7, hx t sz c s hM _ _ e⟩
  rw [h4 a ha2, ev_gp hP, if_neg ((hM.2.2.2.2.1 a ha2).2.2 g hg ha)]
theorem me_iast {g a b tg : Nat} {kk : Int} {x y : Int32} (hb : ev_tb k pc = some (.iastore, 1, a, b, tg, kk)) (hg : Nat.ble (g + 1) 134 = true) (ha : ar g = 1) (hi : MI x (μ.2.2 g)) (next : ME X W kp d k (pc + 1) lv st P (mA1 μ g x.toNatClampNeg y) R T) : ME X W kp d k pc lv (.int y :: .int x :: .ref (P.2.1 g) :: st) P μ R T := by
  have hg' : g < 134 := Nat.le_of_ble_eq_true hg
  have ha' : ar g ≠ 0 := by rw [ha]; decide
  refine me_stA hg' ha' (fun t sz c s hM _ _ e => ?_) next
  have hq := hM.2.1 g hg' ha'
  have hix := hi.ok (hM.2.2.2.2.2.2 g)
  have hle : Nat.ble (P.2.1 g + 1) 1048576 = true := Nat.ble_eq.mpr (Nat.lt_of_lt_of_le (hM.2.2.2.2.2.1.2.1 g hg' ha') hM.2.2.2.2.2.1.2.2)
  rw [show ai g = 0 from ai_of ha] at hq e
  refine e_xh hb ?_ e
  unfold ev_xh
  simp only [hq, hix, hle]
  rfl
theorem me_bast {g a b tg : Nat} {kk : Int} {x y : Int32} (hb : ev_tb k pc = some (.bastore, 1, a, b, tg, kk)) (hg : Nat.ble (g + 1) 134 = true) (ha : ar g = 2) (hi : MI x (μ.2.2 g)) (next : ME X W kp d k (pc + 1) lv st P (mA1 μ g x.toNatClampNeg y.toInt8.toInt32) R T) : ME X W kp d k pc lv (.int y :: .int x :: .ref (P.2.1 g) :: st) P μ R T := by
  have hg' : g < 134 := Nat.le_of_ble_eq_true hg
  have ha' : ar g ≠ 0 := by rw [ha]; decide
  refine me_stA hg' ha' (fun t sz c s hM _ _ e => ?_) next
  have hq := hM.2.1 g hg' ha'
  have hix := hi.ok (hM.2.2.2.2.2.2 g)
  have hle : Nat.ble (P.2.1 g + 1) 1048576 = true := Nat.ble_eq.mpr (Nat.lt_of_lt_of_le (hM.2.2.2.2.2.1.2.1 g hg' ha') hM.2.2.2.2.2.1.2.2)
  rw [show ai g = 1 from ai_of ha] at hq e
  refine e_xh hb ?_ e
  unfold ev_xh
  simp only [hq, hix, hle]
  rfl
theorem me_zast {g a b tg : Nat} {kk : Int} {x y : Int32} (hb : ev_tb k pc = some (.bastore, 1, a, b, tg, kk)) (hg : Nat.ble (g + 1) 134 = true) (ha : ar g = 3) (hi : MI x (μ.2.2 g)) (hy : y = 0 ∨ y = 1) (next : ME X W kp d k (pc + 1) lv st P (mA1 μ g x.toNatClampNeg y) R T) : ME X W kp d k pc lv (.int y :: .int x :: .ref (P.2.1 g) :: st) P μ R T := by
  have hg' : g < 134 := Nat.le_of_ble_eq_true hg
  have ha' : ar g ≠ 0 := by rw [ha]; decide
  refine me_stA hg' ha' (fun t sz c s hM _ _ e => ?_) next
  have hq := hM.2.1 g hg' ha'
  have hix := hi.ok (hM.2.2.2.2.2.2 g)
  have hle : Nat.ble (P.2.1 g + 1) 1048576 = true := Nat.ble_eq.mpr (Nat.lt_of_lt_of_le (hM.2.2.2.2.2.1.2.1 g hg' ha') hM.2.2.2.2.2.1.2.2)
  have hy1 : (decide (y = 0) || decide (y = 1)) = true := by rcases hy with h | h <;> subst h <;> rfl
  rw [show ai g = 6 from ai_of ha] at hq e
  refine e_xh hb ?_ e
  unfold ev_xh
  simp only [hq, hix, hle, hy1]
  rfl
/-- the answer of a call on the stack -/
def mrt (k : Nat) (r : Int32) : List Value := match (ev_ms k).2.2.2.2.1 with
  | none => []
  | some _ => [.int r]
theorem mq_rt {a : Nat} {v : Option Value} {r : Int32} (h : mq a v r) : v.toList = mrt a r := by
  unfold mq at h
  unfold mrt
  subst h
  cases (ev_ms a).2.2.2.2.1 <;> rfl
theorem me_join {a : Nat} {as : List Value} {R1 : Int32 → MS → Prop} {T1 : MS → Prop} {kp1 : Bool} {e1 : ev_I}
    (hC : MC X W kp1 d a as P μ R1 T1)
    (hret : ∀ (P' : MP) (r : Int32) (μ1 : MS), mk kp1 P P' μ μ1 → R1 r μ1 → mk kp P P' μ μ1 ∧ ME X W kp d k (pc + 3) lv (mrt a r ++ rest) P' μ1 R T)
    (hthr : ∀ (t : ev_T) (sz c s : Nat) (P' : MP) (μ1 : MS) (t1 : ev_T) (sz1 mc1 ms1 : Nat), MR W P t sz μ → mk kp1 P P' μ μ1 → T1 μ1 → MR W P' t1 sz1 μ1 → (∀ a, W a → ev_g t1 a = ev_g t a) → sz ≤ sz1 → mC μ + mc1 = mC μ1 → mO μ + ms1 = mO μ1 → Cd X d a as sz t (.inr 12) (sz1, t1, mc1, ms1) →
      ∃ o P' μ' t' sz' mc ms, mo k R T o μ' ∧ mk kp P P' μ μ' ∧ MR W P' t' sz' μ' ∧ (∀ a, W a → ev_g t' a = ev_g t a) ∧ sz ≤ sz' ∧ mC μ + mc = mC μ' ∧ mO μ + ms = mO μ' ∧ EE X d k pc lv st (sz, t, c, s) o (sz', t', c + mc, s + ms))
    (hb : ev_tb k pc = some e1) (ha : e1.2.2.1 = a) (hcl : ∀ t sz, MR W P t sz μ → ev_cl e1.1 e1.2.1 e1.2.2.2.1 e1.2.2.2.2.1 e1.2.2.2.2.2 t st = some (as, rest)) : ME X W kp d k pc lv st P μ R T := fun t sz c s hM => by
  obtain ⟨o, P1, μ1, t1, sz1, mc1, ms1, ho, g1, g2, g3, g4, g5, g6, g7⟩ := hC t sz hM
  subst ha
  cases o with
  | inl v =>
    obtain ⟨r, hr1, hr2⟩ := ho
    obtain ⟨hk, hnext⟩ := hret P1 r μ1 g1 hr2
    obtain ⟨o, P', μ', t', sz', mc, ms, h1, h2, h3, h4, h5, h6, h7, e⟩ := hnext t1 sz1 (c + mc1) (s + ms1) g2
    refine ⟨o, P', μ', t', sz', mc1 + mc, ms1 + ms, h1, hk.tr h2, h3, fun a ha => (h4 a ha).trans (g3 a ha), Nat.le_trans g4 h5, by omega, by omega, ?_⟩
    rw [← Nat.add_assoc, ← Nat.add_assoc]
    rw [← mq_rt hr1] at e
    exact e_cl hb (hcl t sz hM) g7 e
  | inr ci =>
    obtain ⟨rfl, hT⟩ := ho
    exact hthr t sz c s P1 μ1 t1 sz1 mc1 ms1 hM g1 hT g2 g3 g4 g5 g6 g7
theorem me_clv {ix a b q : Nat} {as : List Value} {t : ev_T} {sz : Nat} (hM : MR W P t sz μ) (h : ev_tk b [] st = some (as, .ref P.1 :: rest)) (hc : Nat.ble (ev_cat rest) 8 = true) : ev_cl (.invokevirtual ix) 3 b 0 13 t st = some (.ref P.1 :: as, rest) := by
  show ev_if (Nat.beq 3 3 && Nat.beq (0 % 4) 0) _ = _
  rw [h]
  show (match ev_g t P.1 with
      | some (.inr (ci, _)) => ev_if (Nat.ble (ev_cat rest) 8 && Nat.beq ci (13 : Int).toNat) (some (Value.ref P.1 :: as, rest))
      | _ => none) = _
  rw [hM.1]
  show ev_if (Nat.ble (ev_cat rest) 8 && Nat.beq 13 13) _ = _
  rw [hc]
  rfl
/-- a call of its own, the rows stay where they are -/
theorem me_call {ix a b : Nat} {as : List Value} (hb : ev_tb k pc = some (.invokevirtual ix, 3, a, b, 0, 13)) (h : ev_tk b [] st = some (as, .ref P.1 :: rest)) (hc : Nat.ble (ev_cat rest) 8 = true) (hh : ev_hd k = none)
    (hC : MC X W true d a (.ref P.1 :: as) P μ (fun r μ1 => ME X W kp d k (pc + 3) lv (mrt a r ++ rest) P μ1 R T) T) : ME X W kp d k pc lv st P μ R T := by
  refine me_join (kp1 := true) hC (fun P' r μ1 hk hr => ?_) (fun t sz c s P' μ1 t1 sz1 mc1 ms1 hM hk hT g2 g3 g4 g5 g6 g7 => ?_) hb rfl (fun t sz hM => me_clv (q := 0) (a := 0) hM h hc)
  · obtain ⟨e1, e2, e3⟩ := hk
    have : P' = P := Prod.ext e1 (Prod.ext (e3 rfl).1 e2)
    subst this
    exact ⟨⟨rfl, rfl, fun _ => ⟨rfl, (e3 rfl).2⟩⟩, hr⟩
  · obtain ⟨e1, e2, e3⟩ := hk
    exact ⟨.inr 12, P', μ1, t1, sz1, mc1, ms1, ⟨rfl, hT⟩, ⟨e1, e2, fun _ => e3 rfl⟩, g2, g3, g4, g5, g6, e_clX (σ := (sz, t, c, s)) (τ := (sz1, t1, mc1, ms1)) hb rfl (me_clv (q := 0) (a := 0) hM h hc) g7 hh⟩
/-- a call of its own that may put rows elsewhere -/
theorem me_callF {ix a b : Nat} {as : List Value} (hkp : kp = false) (hb : ev_tb k pc = some (.invokevirtual ix, 3, a, b, 0, 13)) (h : ev_tk b [] st = some (as, .ref P.1 :: rest)) (hc : Nat.ble (ev_cat rest) 8 = true) (hh : ev_hd k = none)
    (hC : MC X W false d a (.ref P.1 :: as) P μ (fun r μ1 => ∀ aa, ME X W kp d k (pc + 3) lv (mrt a r ++ rest) (P.1, aa, P.2.2) μ1 R T) T) : ME X W kp d k pc lv st P μ R T := by
  subst hkp
  refine me_join (kp1 := false) hC (fun P' r μ1 hk hr => ?_) (fun t sz c s P' μ1 t1 sz1 mc1 ms1 hM hk hT g2 g3 g4 g5 g6 g7 => ?_) hb rfl (fun t sz hM => me_clv (q := 0) (a := 0) hM h hc)
  · have h9 := hr P'.2.1
    obtain ⟨e1, e2, e3⟩ := id hk
    have : (P.1, P'.2.1, P.2.2) = P' := Prod.ext e1.symm (Prod.ext rfl e2.symm)
    rw [this] at h9
    exact ⟨hk, h9⟩
  · exact ⟨.inr 12, P', μ1, t1, sz1, mc1, ms1, ⟨rfl, hT⟩, hk, g2, g3, g4, g5, g6, e_clX (σ := (sz, t, c, s)) (τ := (sz1, t1, mc1, ms1)) hb rfl (me_clv (q := 0) (a := 0) hM h hc) g7 hh⟩
/-- a call whose throw is caught here -/
theorem me_callH {ix a b : Nat} {as : List Value} {x : ev_H} {e2 : ev_I} {i : Fin 4} {T1 : MS → Prop} {kp1 : Bool} (hkp : kp = false) (hb : ev_tb k pc = some (.invokevirtual ix, 3, a, b, 0, 13)) (h : ev_tk b [] st = some (as, .ref P.1 :: rest)) (hc : Nat.ble (ev_cat rest) 8 = true)
    (hh : ev_hd k = some x) (h1 : Nat.ble x.1 pc = true) (h2 : Nat.ble (pc + 1) x.2.1 = true) (h3 : ev_tb k x.2.2.1 = some e2) (h4 : e2.1 = .astore_n i) (h5 : e2.2.1 = 1) (h6 : Nat.ble ((i : Nat) + 1) (ev_ms k).2.2.2.1 = true) {lv1 : ev_L} (hl : lv.filter (fun q => !(q.1 == (i : Nat)) && !(q.1 + 1 == (i : Nat) && q.2.category == 2)) = lv1)
    (hC : MC X W kp1 d a (.ref P.1 :: as) P μ (fun r μ1 => ∀ aa, ME X W kp d k (pc + 3) lv (mrt a r ++ rest) (P.1, aa, P.2.2) μ1 R T) T1)
    (hx : ∀ μ1 aa, T1 μ1 → ME X W kp d k (x.2.2.1 + 1) lv1 [] (P.1, aa, P.2.2) μ1 R T) : ME X W kp d k pc lv st P μ R T := by
  subst hkp
  subst hl
  refine me_join (kp1 := kp1) hC (fun P' r μ1 hk hr => ?_) (fun t sz c s P' μ1 t1 sz1 mc1 ms1 hM hk hT g2 g3 g4 g5 g6 g7 => ?_) hb rfl (fun t sz hM => me_clv (q := 0) (a := 0) hM h hc)
  · have h9 := hr P'.2.1
    obtain ⟨e1, e2, e3⟩ := id hk
    have : (P.1, P'.2.1, P.2.2) = P' := Prod.ext e1.symm (Prod.ext rfl e2.symm)
    rw [this] at h9
    exact ⟨⟨e1, e2, fun h => by cases h⟩, h9⟩
  · have h9 := hx μ1 P'.2.1 hT
    obtain ⟨e1, e2, e3⟩ := id hk
    have : (P.1, P'.2.1, P.2.2) = P' := Prod.ext e1.symm (Prod.ext rfl e2.symm)
    rw [this] at h9
    obtain ⟨o, P2, μ', t', sz', mc, ms, j1, j2, j3, j4, j5, j6, j7, e⟩ := h9 t1 sz1 (c + mc1) (s + ms1) g2
    refine ⟨o, P2, μ', t', sz', mc1 + mc, ms1 + ms, j1, mk.tr ⟨e1, e2, fun h => by cases h⟩ j2, j3, fun a ha => (j4 a ha).trans (g3 a ha), Nat.le_trans g4 j5, by omega, by omega, ?_⟩
    rw [← Nat.add_assoc, ← Nat.add_assoc]
    exact e_clH hb rfl (me_clv (q := 0) (a := 0) hM h hc) g7 hh h1 h2 h3 h4 h5 h6 e
/-- a static call -/
theorem me_cst {ix a b tg : Nat} {kk : Int} {as : List Value} (hb : ev_tb k pc = some (.invokestatic ix, 3, a, b, tg, kk)) (htg : tg % 4 = 1) (h : ev_tk b [] st = some (as, rest)) (hc : Nat.ble (ev_cat rest) 8 = true)
    (hC : MC X W true d a as P μ (fun r μ1 => ME X W kp d k (pc + 3) lv (mrt a r ++ rest) P μ1 R T) (fun _ => False)) : ME X W kp d k pc lv st P μ R T := by
  refine me_join (rest := rest) (kp1 := true) hC (fun P' r μ1 hk hr => ?_) (fun t sz c s P' μ1 t1 sz1 mc1 ms1 hM hk hT g2 g3 g4 g5 g6 g7 => hT.elim) hb rfl (fun t sz hM => ?_)
  · obtain ⟨e1, e2, e3⟩ := hk
    have : P' = P := Prod.ext e1 (Prod.ext (e3 rfl).1 e2)
    subst this
    exact ⟨⟨rfl, rfl, fun _ => ⟨rfl, (e3 rfl).2⟩⟩, hr⟩
  · show ev_if (Nat.beq 3 3 && Nat.beq (tg % 4) 1) _ = _
    rw [htg, h]
    show ev_if (Nat.ble (ev_cat rest) 8) _ = _
    rw [hc]
    rfl
theorem me_ath {q a b tg : Nat} {kk : Int} (hb : ev_tb k pc = some (.athrow, 1, a, b, tg, kk)) (hq : q = P.2.2.1 ∨ q = P.2.2.2) (hh : ev_hd k = none) (hT : T μ) : ME X W kp d k pc lv (.ref q :: rest) P μ R T := fun t sz c s hM => by
  refine ⟨.inr 12, P, μ, t, sz, 0, 0, ⟨rfl, hT⟩, mk.rf, hM, fun _ _ => rfl, Nat.le_refl _, rfl, rfl, ?_⟩
  rcases hq with rfl | rfl
  · obtain ⟨fs, hf⟩ := hM.2.2.2.1.1; exact e_ath hb rfl rfl hf hh
  · obtain ⟨fs, hf⟩ := hM.2.2.2.1.2; exact e_ath hb rfl rfl hf hh
theorem me_ret {e : ev_I} {v : Option Value} {r : Int32} (hb : ev_tb k pc = some e) (h : ev_rt (ev_ms k).2.2.2.2.1 e.1 e.2.1 st = some v) (hq : mq k v r) (hR : R r μ) : ME X W kp d k pc lv st P μ R T := fun t sz c s hM =>
  ⟨.inl v, P, μ, t, sz, 0, 0, ⟨r, hq, hR⟩, mk.rf, hM, fun _ _ => rfl, Nat.le_refl _, rfl, rfl, e_rt hb h⟩
/-- a truth is the answer -/
theorem me_retB {x : Int32} {a b tg : Nat} {kk : Int} (hb : ev_tb k pc = some (.ireturn, 1, a, b, tg, kk)) (hr : (ev_ms k).2.2.2.2.1 = some .boolean) (hx : x = 0 ∨ x = 1) (hR : R x μ) : ME X W kp d k pc lv [.int x] P μ R T := by
  refine me_ret (v := some (.int x)) hb ?_ ?_ hR
  · rw [hr]
    rcases hx with rfl | rfl <;> rfl
  · unfold mq; rw [hr]
theorem me_ldc {ix a b : Nat} {kk : Int} (hb : ev_tb k pc = some (.ldc ix, 2, a, b, 0, kk)) (next : ME X W kp d k (pc + 2) lv (.int (Int32.ofInt kk) :: st) P μ R T) : ME X W kp d k pc lv st P μ R T := me_step (fun _ _ _ _ _ _ _ e => e_xh hb rfl e) next
theorem me_ldc2 {ix a b tg : Nat} {kk : Int} (hb : ev_tb k pc = some (.ldc2_w ix, 3, a, b, tg, kk)) (next : ME X W kp d k (pc + 3) lv (.long (Int64.ofInt kk) :: st) P μ R T) : ME X W kp d k pc lv st P μ R T := me_step (fun _ _ _ _ _ _ _ e => e_xh hb rfl e) next
theorem me_xm {e : ev_I} {st1 : List Value} (hb : ev_tb k pc = some e) (h : ev_xm e.1 e.2.1 e.2.2.2.2.1 st = some st1) (next : ME X W kp d k (pc + 3) lv st1 P μ R T) : ME X W kp d k pc lv st P μ R T := me_step (fun _ _ _ _ _ _ _ e => e_xm hb h e) next
theorem me_rem {a b tg : Nat} {kk : Int} {x y : Int32} (hb : ev_tb k pc = some (.irem, 1, a, b, tg, kk)) (hy : ¬ y = 0) (next : ME X W kp d k (pc + 1) lv (.int (x - x / y * y) :: st) P μ R T) : ME X W kp d k pc lv (.int y :: .int x :: st) P μ R T :=
  me_step (fun _ _ _ _ _ _ _ e => e_xc hb (by
    have hy0 : decide (y = 0) = false := by simp [hy]
    unfold ev_xc
    simp only [hy0]
    rfl) e) next
theorem me_ldcw {ix a b : Nat} {kk : Int} (hb : ev_tb k pc = some (.ldc_w ix, 3, a, b, 0, kk)) (next : ME X W kp d k (pc + 3) lv (.int (Int32.ofInt kk) :: st) P μ R T) : ME X W kp d k pc lv st P μ R T := me_step (fun _ _ _ _ _ _ _ e => e_xh hb rfl e) next
theorem me_ldcT {ix a b : Nat} {kk : Int} (hb : ev_tb k pc = some (.ldc_w ix, 3, a, b, 1, kk)) (next : ME X W kp d k (pc + 3) lv (.retAddr 2 :: st) P μ R T) : ME X W kp d k pc lv st P μ R T := me_step (fun _ _ _ _ _ _ _ e => e_xh hb rfl e) next
theorem me_gks {ix a b : Nat} {kk : Int} (hb : ev_tb k pc = some (.getstatic ix, 3, a, b, 1, kk)) (next : ME X W kp d k (pc + 3) lv (.retAddr 3 :: st) P μ R T) : ME X W kp d k pc lv st P μ R T := me_step (fun _ _ _ _ _ _ _ e => e_xh hb rfl e) next
theorem me_klen {a b tg : Nat} {kk : Int} (hb : ev_tb k pc = some (.arraylength, 1, a, b, tg, kk)) (next : ME X W kp d k (pc + 1) lv (.int 13 :: st) P μ R T) : ME X W kp d k pc lv (.retAddr 3 :: st) P μ R T := me_step (fun _ _ _ _ _ _ _ e => e_xh hb rfl e) next
theorem me_kld {a b tg : Nat} {kk : Int} {x : Int32} (hb : ev_tb k pc = some (.iaload, 1, a, b, tg, kk)) (hi : MI x 13) (next : ME X W kp d k (pc + 1) lv (.int (kdB x.toNatClampNeg) :: st) P μ R T) : ME X W kp d k pc lv (.int x :: .retAddr 3 :: st) P μ R T :=
  me_step (fun t sz c s hM _ _ e => by
    have hix := hi.ok (by decide)
    refine e_xh hb ?_ e
    unfold ev_xh
    simp only [hix]
    rfl) next
theorem nI_self {x : Int32} (h : 0 ≤ x.toInt) : nI x.toNatClampNeg = x := by
  apply Int32.toInt_inj.mp
  have h1 : x.toNatClampNeg = x.toInt.toNat := rfl
  have h2 := x.toInt_lt
  show (Int32.ofNat x.toNatClampNeg).toInt = x.toInt
  rw [Int32.toInt_ofNat_of_lt (by omega)]
  omega
/-- a letter of the words -/
theorem me_chr {ix a b : Nat} {kk : Int} {x : Int32} (hb : ev_tb k pc = some (.invokevirtual ix, 3, a, b, 23, kk)) (hc : Nat.ble (ev_cat st) 8 = true) (hi : MI x 345) (next : ME X W kp d k (pc + 3) lv (.int (nI (kwB x.toNatClampNeg)) :: st) P μ R T) : ME X W kp d k pc lv (.int x :: .retAddr 2 :: st) P μ R T := by
  refine me_xm hb ?_ next
  have h1 : decide (nI x.toNatClampNeg = x) = true := decide_eq_true (nI_self hi.1)
  have h2 : Nat.ble (x.toNatClampNeg + 1) 345 = true := Nat.ble_eq.mpr (by have h1 : x.toNatClampNeg = x.toInt.toNat := rfl; have := hi.2; have := hi.1; omega)
  unfold ev_xm
  simp only [h1, h2, hc]
  rfl
def mR1 (μ : MS) (g : Nat) (f : Nat → Int32) : MS := (μ.1, fun h => bif Nat.beq h g then f else μ.2.1 h, μ.2.2)
theorem MR.row {t : ev_T} {sz : Nat} (h : MR W P t sz μ) {g : Nat} {f : Nat → Int32} (hg : g < 134) (ha : ar g ≠ 0) : MR W P (ev_p t (P.2.1 g) (.inl (ai g, μ.2.2 g, .inl f))) sz (mR1 μ g f) := by
  obtain ⟨h1, h2, h3, ⟨⟨f1, h4⟩, f2, h4'⟩, h5, ⟨h6, h6', h6''⟩, h7⟩ := h
  have hP : P.2.1 g < 1048576 := Nat.lt_of_lt_of_le (h6' g hg ha) h6''
  have hne : P.1 ≠ P.2.1 g := fun e => by have := h2 g hg ha; rw [← e, h1] at this; cases this
  refine ⟨by rw [ev_gp hP, if_neg hne, h1]; rfl, fun q hq hr => ?_, h3, ⟨⟨f1, ?_⟩, f2, ?_⟩, h5, ⟨h6, h6', h6''⟩, h7⟩
  · rw [ev_gp hP]
    by_cases e : P.2.1 q = P.2.1 g
    · have := h3 q g hq hg hr ha e
      subst this
      rw [if_pos rfl]
      unfold mR1
      simp only [nb_self, cond_true]
    · have hqg : q ≠ g := fun h => e (by rw [h])
      rw [if_neg e, h2 q hq hr]
      unfold mR1
      simp only [nb_ne hqg, cond_false]
  · have hne2 : P.2.2.1 ≠ P.2.1 g := fun e => by have := h2 g hg ha; rw [← e, h4] at this; cases this
    rw [ev_gp hP, if_neg hne2, h4]
  · have hne2 : P.2.2.2 ≠ P.2.1 g := fun e => by have := h2 g hg ha; rw [← e, h4'] at this; cases this
    rw [ev_gp hP, if_neg hne2, h4']
theorem lt0F {x : Int32} (h : 0 ≤ x.toInt) : decide (x < 0) = false := by
  simp only [decide_eq_false_iff_not, Int32.lt_iff_toInt_lt]
  show ¬ x.toInt < (0 : Int32).toInt
  rw [show (0 : Int32).toInt = 0 from rfl]
  omega
/-- a row copied into a row -/
theorem me_copy {g0 g1 ix a b : Nat} {kk : Int} {sp dp n : Int32} (hb : ev_tb k pc = some (.invokestatic ix, 3, a, b, 34, kk)) (hg0 : Nat.ble (g0 + 1) 134 = true) (hg1 : Nat.ble (g1 + 1) 134 = true) (ha0 : ar g0 = 1) (ha1 : ar g1 = 1) (hr : Nat.ble (ev_cat rest) 8 = true)
    (h : 0 ≤ sp.toInt ∧ 0 ≤ dp.toInt ∧ 0 ≤ n.toInt ∧ sp.toInt + n.toInt ≤ μ.2.2 g0 ∧ dp.toInt + n.toInt ≤ μ.2.2 g1)
    (next : ME X W kp d k (pc + 3) lv rest P (mR1 μ g1 (va_cpy (μ.2.1 g0) (μ.2.1 g1) sp.toNatClampNeg dp.toNatClampNeg n.toNatClampNeg)) R T) : ME X W kp d k pc lv (.int n :: .int dp :: .ref (P.2.1 g1) :: .int sp :: .ref (P.2.1 g0) :: rest) P μ R T := fun t sz c s hM => by
  have hg1' : g1 < 134 := Nat.le_of_ble_eq_true hg1
  have ha1' : ar g1 ≠ 0 := by rw [ha1]; decide
  obtain ⟨o, P', μ', t', sz', mc, ms, h1, h2, h3, h4, h5, h6, h7, e⟩ := next _ sz c s (hM.row (f := va_cpy (μ.2.1 g0) (μ.2.1 g1) sp.toNatClampNeg dp.toNatClampNeg n.toNatClampNeg) hg1' ha1')
  have hP : P.2.1 g1 < 1048576 := Nat.lt_of_lt_of_le (hM.2.2.2.2.2.1.2.1 g1 hg1' ha1') hM.2.2.2.2.2.1.2.2
  refine ⟨o, P', μ', t', sz', mc, ms, h1, h2, h3, fun a ha2 => ?_, h5, h6, h7, ?_⟩
  · rw [h4 a ha2, ev_gp hP, if_neg ((hM.2.2.2.2.1 a ha2).2.2 g1 hg1' ha1')]
  · have q0 := hM.2.1 g0 (Nat.le_of_ble_eq_true hg0) (by rw [ha0]; decide)
    have q1 := hM.2.1 g1 hg1' ha1'
    rw [show ai g0 = 0 from ai_of ha0] at q0
    rw [show ai g1 = 0 from ai_of ha1] at q1 e
    obtain ⟨i1, i2, i3, i4, i5⟩ := h
    have e1 : sp.toNatClampNeg = sp.toInt.toNat := rfl
    have e2 : dp.toNatClampNeg = dp.toInt.toNat := rfl
    have e3 : n.toNatClampNeg = n.toInt.toNat := rfl
    have j1 := lt0F i1
    have j2 := lt0F i2
    have j3 := lt0F i3
    have j4 : Nat.ble (sp.toNatClampNeg + n.toNatClampNeg) (μ.2.2 g0) = true := Nat.ble_eq.mpr (by omega)
    have j5 : Nat.ble (dp.toNatClampNeg + n.toNatClampNeg) (μ.2.2 g1) = true := Nat.ble_eq.mpr (by omega)
    have j6 : Nat.ble (P.2.1 g1 + 1) 1048576 = true := Nat.ble_eq.mpr hP
    refine e_xh hb ?_ e
    unfold ev_xh
    simp only [q0, q1, j1, j2, j3, j4, j5, j6, hr]
    rfl
/-- a call whose throw is caught here, the rows stay where they are -/
theorem me_callHT {ix a b : Nat} {as : List Value} {x : ev_H} {e2 : ev_I} {i : Fin 4} {lv1 : ev_L} (hb : ev_tb k pc = some (.invokevirtual ix, 3, a, b, 0, 13)) (h : ev_tk b [] st = some (as, .ref P.1 :: rest)) (hc : Nat.ble (ev_cat rest) 8 = true)
    (hh : ev_hd k = some x) (h1 : Nat.ble x.1 pc = true) (h2 : Nat.ble (pc + 1) x.2.1 = true) (h3 : ev_tb k x.2.2.1 = some e2) (h4 : e2.1 = .astore_n i) (h5 : e2.2.1 = 1) (h6 : Nat.ble ((i : Nat) + 1) (ev_ms k).2.2.2.1 = true) (hl : lv.filter (fun q => !(q.1 == (i : Nat)) && !(q.1 + 1 == (i : Nat) && q.2.category == 2)) = lv1)
    (hC : MC X W true d a (.ref P.1 :: as) P μ (fun r μ1 => ME X W kp d k (pc + 3) lv (mrt a r ++ rest) P μ1 R T) (fun μ1 => ME X W kp d k (x.2.2.1 + 1) lv1 [] P μ1 R T)) : ME X W kp d k pc lv st P μ R T := by
  subst hl
  refine me_join (kp1 := true) hC (fun P' r μ1 hk hr => ?_) (fun t sz c s P' μ1 t1 sz1 mc1 ms1 hM hk hT g2 g3 g4 g5 g6 g7 => ?_) hb rfl (fun t sz hM => me_clv (q := 0) (a := 0) hM h hc)
  · obtain ⟨e1, e2, e3⟩ := hk
    have : P' = P := Prod.ext e1 (Prod.ext (e3 rfl).1 e2)
    subst this
    exact ⟨⟨rfl, rfl, fun _ => ⟨rfl, (e3 rfl).2⟩⟩, hr⟩
  · obtain ⟨e1, e2, e3⟩ := hk
    have : P' = P := Prod.ext e1 (Prod.ext (e3 rfl).1 e2)
    subst this
    obtain ⟨o, P2, μ', t', sz', mc, ms, j1, j2, j3, j4, j5, j6, j7, e⟩ := hT t1 sz1 (c + mc1) (s + ms1) g2
    refine ⟨o, P2, μ', t', sz', mc1 + mc, ms1 + ms, j1, mk.tr ⟨rfl, rfl, fun _ => ⟨rfl, (e3 rfl).2⟩⟩ j2, j3, fun a ha => (j4 a ha).trans (g3 a ha), Nat.le_trans g4 j5, by omega, by omega, ?_⟩
    rw [← Nat.add_assoc, ← Nat.add_assoc]
    exact e_clH hb rfl (me_clv (q := 0) (a := 0) hM h hc) g7 hh h1 h2 h3 h4 h5 h6 e
/-- a call that doesn't throw -/
theorem me_callN {ix a b : Nat} {as : List Value} (hb : ev_tb k pc = some (.invokevirtual ix, 3, a, b, 0, 13)) (h : ev_tk b [] st = some (as, .ref P.1 :: rest)) (hc : Nat.ble (ev_cat rest) 8 = true)
    (hC : MC X W true d a (.ref P.1 :: as) P μ (fun r μ1 => ME X W kp d k (pc + 3) lv (mrt a r ++ rest) P μ1 R T) (fun _ => False)) : ME X W kp d k pc lv st P μ R T := by
  refine me_join (kp1 := true) hC (fun P' r μ1 hk hr => ?_) (fun t sz c s P' μ1 t1 sz1 mc1 ms1 hM hk hT g2 g3 g4 g5 g6 g7 => hT.elim) hb rfl (fun t sz hM => me_clv (q := 0) (a := 0) hM h hc)
  obtain ⟨e1, e2, e3⟩ := hk
  have : P' = P := Prod.ext e1 (Prod.ext (e3 rfl).1 e2)
  subst this
  exact ⟨⟨rfl, rfl, fun _ => ⟨rfl, (e3 rfl).2⟩⟩, hr⟩
/-- Math.floorDiv and floorMod of longs -/
def jFD (x y : Int64) : Int64 := if lg_cmp (x ^^^ y) 0 < 0 then (if lg_cmp (x / y * y) x = 0 then x / y else x / y - 1) else x / y
def jFM (x y : Int64) : Int64 := if lg_cmp (x ^^^ y) 0 < 0 then (if lg_cmp (x - x / y * y) 0 = 0 then x - x / y * y else x - x / y * y + y) else x - x / y * y
theorem cd_fd {x y : Int64} {sz : Nat} {t : ev_T} (hd : 1 ≤ d) (hy : ¬ y = 0) : Cd X d 508 [.long x, .long y] sz t (.inl (some (.long (jFD x y)))) (sz, t, 0, 0) := by
  rw [show d = d - 1 + 1 by omega]
  refine e_meth rfl ?_
  have hy0 : decide (y = 0) = false := by simp [hy]
  refine e_go (pc1 := 2) (lv1 := lv_args 0 [.long x, .long y]) (st1 := [.long y, .long x]) 2 rfl ?_
  refine e_xc (pc1 := 3) (st1 := [.long (x / y)]) rfl (by unfold ev_xc; simp only [hy0]; rfl) ?_
  refine e_go (pc1 := 10) (lv1 := [(4, .long (x / y)), (0, .long x), (2, .long y)]) (st1 := [.int (lg_cmp (x ^^^ y) 0)]) 6 rfl ?_
  cases hq : ev_ic .ge (lg_cmp (x ^^^ y) 0) 0 with
  | true =>
    have hn : ¬ lg_cmp (x ^^^ y) 0 < 0 := by simpa [ev_ic] using hq
    refine e_ifc rfl rfl true hq ?_
    refine e_go (pc1 := 29) (lv1 := [(4, .long (x / y)), (0, .long x), (2, .long y)]) (st1 := [.long (x / y)]) 1 rfl ?_
    refine e_rt rfl ?_
    unfold jFD
    rw [if_neg hn]; rfl
  | false =>
    have hn : lg_cmp (x ^^^ y) 0 < 0 := by simpa [ev_ic] using hq
    refine e_ifc rfl rfl false hq ?_
    refine e_go (pc1 := 19) (lv1 := [(4, .long (x / y)), (0, .long x), (2, .long y)]) (st1 := [.int (lg_cmp (x / y * y) x)]) 5 rfl ?_
    cases hq2 : ev_ic .eq (lg_cmp (x / y * y) x) 0 with
    | true =>
      have hn2 : lg_cmp (x / y * y) x = 0 := by simpa [ev_ic] using hq2
      refine e_ifc rfl rfl true hq2 ?_
      refine e_go (pc1 := 29) (lv1 := [(4, .long (x / y)), (0, .long x), (2, .long y)]) (st1 := [.long (x / y)]) 1 rfl ?_
      refine e_rt rfl ?_
      unfold jFD
      rw [if_pos hn, if_pos hn2]; rfl
    | false =>
      have hn2 : ¬ lg_cmp (x / y * y) x = 0 := by simpa [ev_ic] using hq2
      refine e_ifc rfl rfl false hq2 ?_
      refine e_go (pc1 := 26) (lv1 := [(4, .long (x / y)), (0, .long x), (2, .long y)]) (st1 := [.long (x / y - 1)]) 3 rfl ?_
      refine e_rt rfl ?_
      unfold jFD
      rw [if_pos hn, if_neg hn2]; rfl
theorem cd_fm {x y : Int64} {sz : Nat} {t : ev_T} (hd : 1 ≤ d) (hy : ¬ y = 0) : Cd X d 509 [.long x, .long y] sz t (.inl (some (.long (jFM x y)))) (sz, t, 0, 0) := by
  rw [show d = d - 1 + 1 by omega]
  refine e_meth rfl ?_
  have hy0 : decide (y = 0) = false := by simp [hy]
  refine e_go (pc1 := 2) (lv1 := lv_args 0 [.long x, .long y]) (st1 := [.long y, .long x]) 2 rfl ?_
  refine e_xc (pc1 := 3) (st1 := [.long (x - x / y * y)]) rfl (by unfold ev_xc; simp only [hy0]; rfl) ?_
  refine e_go (pc1 := 10) (lv1 := [(4, .long (x - x / y * y)), (0, .long x), (2, .long y)]) (st1 := [.int (lg_cmp (x ^^^ y) 0)]) 6 rfl ?_
  cases hq : ev_ic .ge (lg_cmp (x ^^^ y) 0) 0 with
  | true =>
    have hn : ¬ lg_cmp (x ^^^ y) 0 < 0 := by simpa [ev_ic] using hq
    refine e_ifc rfl rfl true hq ?_
    refine e_go (pc1 := 27) (lv1 := [(4, .long (x - x / y * y)), (0, .long x), (2, .long y)]) (st1 := [.long (x - x / y * y)]) 1 rfl ?_
    refine e_rt rfl ?_
    unfold jFM
    rw [if_neg hn]; rfl
  | false =>
    have hn : lg_cmp (x ^^^ y) 0 < 0 := by simpa [ev_ic] using hq
    refine e_ifc rfl rfl false hq ?_
    refine e_go (pc1 := 17) (lv1 := [(4, .long (x - x / y * y)), (0, .long x), (2, .long y)]) (st1 := [.int (lg_cmp (x - x / y * y) 0)]) 3 rfl ?_
    cases hq2 : ev_ic .eq (lg_cmp (x - x / y * y) 0) 0 with
    | true =>
      have hn2 : lg_cmp (x - x / y * y) 0 = 0 := by simpa [ev_ic] using hq2
      refine e_ifc rfl rfl true hq2 ?_
      refine e_go (pc1 := 27) (lv1 := [(4, .long (x - x / y * y)), (0, .long x), (2, .long y)]) (st1 := [.long (x - x / y * y)]) 1 rfl ?_
      refine e_rt rfl ?_
      unfold jFM
      rw [if_pos hn, if_pos hn2]; rfl
    | false =>
      have hn2 : ¬ lg_cmp (x - x / y * y) 0 = 0 := by simpa [ev_ic] using hq2
      refine e_ifc rfl rfl false hq2 ?_
      refine e_go (pc1 := 24) (lv1 := [(4, .long (x - x / y * y)), (0, .long x), (2, .long y)]) (st1 := [.long (x - x / y * y + y)]) 3 rfl ?_
      refine e_rt rfl ?_
      unfold jFM
      rw [if_pos hn, if_neg hn2]; rfl
theorem me_cdl {ix a : Nat} {kk : Int} {x y z : Int64} (hb : ev_tb k pc = some (.invokestatic ix, 3, a, 2, 5, kk)) (hc : Nat.ble (ev_cat rest) 8 = true) (hC : ∀ t sz, Cd X d a [.long x, .long y] sz t (.inl (some (.long z))) (sz, t, 0, 0))
    (next : ME X W kp d k (pc + 3) lv (.long z :: rest) P μ R T) : ME X W kp d k pc lv (.long y :: .long x :: rest) P μ R T := fun t sz c s hM => by
  obtain ⟨o, P', μ', t', sz', mc, ms, h1, h2, h3, h4, h5, h6, h7, e⟩ := next t sz c s hM
  exact ⟨o, P', μ', t', sz', mc, ms, h1, h2, h3, h4, h5, h6, h7, e_st hb rfl rfl hc (hC t sz) e⟩
theorem me_fd {ix : Nat} {kk : Int} {x y : Int64} (hb : ev_tb k pc = some (.invokestatic ix, 3, 508, 2, 5, kk)) (hc : Nat.ble (ev_cat rest) 8 = true) (h : 1 ≤ d ∧ ¬ y = 0) (next : ME X W kp d k (pc + 3) lv (.long (jFD x y) :: rest) P μ R T) : ME X W kp d k pc lv (.long y :: .long x :: rest) P μ R T := me_cdl hb hc (fun _ _ => cd_fd h.1 h.2) next
theorem me_fm {ix : Nat} {kk : Int} {x y : Int64} (hb : ev_tb k pc = some (.invokestatic ix, 3, 509, 2, 5, kk)) (hc : Nat.ble (ev_cat rest) 8 = true) (h : 1 ≤ d ∧ ¬ y = 0) (next : ME X W kp d k (pc + 3) lv (.long (jFM x y) :: rest) P μ R T) : ME X W kp d k pc lv (.long y :: .long x :: rest) P μ R T := me_cdl hb hc (fun _ _ => cd_fm h.1 h.2) next
end MOD
