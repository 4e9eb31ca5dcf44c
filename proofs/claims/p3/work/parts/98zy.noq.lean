/-! contracts of the reference: the CELLS above an OBJECT type; ways up end -/
/-- the declaration that tells an OBJECT type -/
def TxD (ζ : MS) (e x : Int32) : Prop := (ζ.2.1 20 e.toNatClampNeg = 3 ∧ ζ.2.1 23 e.toNatClampNeg = x ∧ ζ.2.1 20 x.toNatClampNeg = 32) ∨ (e = x ∧ ζ.2.1 20 x.toNatClampNeg = 4)
/-- no ring in the program -/
def NoRs (ζ : MS) (ρ : Nat → Int32) : Prop := ∀ x : Int32, InN ζ x → ζ.2.1 20 x.toNatClampNeg = 3 ∨ ζ.2.1 20 x.toNatClampNeg = 6 → NoR ζ ρ x
/-- CELLS of FIELDs from an OBJECT type upwards -/
def CaS (ζ : MS) (ρ M : Nat → Int32) : Nat → Int32 → Int32 → Int32 → Prop
  | 0, x, s, v => x = -1 ∧ v = s
  | n + 1, x, s, v => 0 ≤ x.toInt ∧ ∃ g, (∃ m, FcS ζ M m (flV ζ ρ x) 0 g) ∧ CaS ζ ρ M n (waV ζ ρ x) (s + g) v
section NNAY
variable {X : ev_X} {W : Nat → Prop} {d : Nat} {P : MP} {μ ν ν0 ν1 κ ζ : MS} {T : MS → Prop} {x y z s t q r e u v k l : Int32} {ρ ω η M M' : Nat → Int32} {w c a b : Nat}
theorem CaS.keep (h : KP M M') : ∀ {n : Nat} {x s v : Int32}, CaS ζ ρ M n x s v → CaS ζ ρ M' n x s v
  | 0, _, _, _, g => g
  | n + 1, _, _, _, ⟨g0, f, ⟨m, g1⟩, g2⟩ => ⟨g0, f, ⟨m, g1.keep h⟩, CaS.keep h g2⟩
theorem gtF_add : ∀ (b : Nat), gtF ζ ρ x (a + b) = gtF ζ ρ (gtF ζ ρ x a) b := by
  intro b
  induction b with
  | zero => rfl
  | succ b ih =>
    show gtF ζ ρ x ((a + b) + 1) = gtF ζ ρ (gtF ζ ρ x a) (b + 1)
    by_cases h : (gtF ζ ρ x (a + b)).toInt < 0
    · rw [gtF_n h, gtF_n (by rw [← ih]; exact h)]
    · rw [gtF_p h, gtF_p (by rw [← ih]; exact h), ih]
theorem gtF_neg (h : x.toInt < 0) : ∀ (j : Nat), (gtF ζ ρ x j).toInt < 0 := by
  intro j
  induction j with
  | zero => exact h
  | succ j ih => rw [gtF_n ih]; decide
theorem gt_gt (hZ : TZ μ ζ) (hR : RvO μ ζ ρ) (hx : Gt μ ζ x) : gtV ζ ρ x = -1 ∨ Gt μ ζ (gtV ζ ρ x) := by
  have hB := hZ.1
  have xi := gt_in hB hx
  have hn := gt_ty hB hx
  unfold gtV
  by_cases k4 : ζ.2.1 20 x.toNatClampNeg = 4
  · rw [if_pos k4]
    rcases hR x.toNatClampNeg (by have := xi.1; have := xi.2; have := @ic x; omega) with h | ⟨h1, h2⟩
    · exact Or.inl h
    · exact Or.inr ⟨h2, Or.inr (Or.inr h1)⟩
  · rw [if_neg k4]
    by_cases k20 : ζ.2.1 20 (gtT ζ x).toNatClampNeg = 20
    · rw [if_pos k20]
      have hg : Nd ζ 0 (gtT ζ x) := by
        unfold gtT
        by_cases k32 : ζ.2.1 20 (ζ.2.1 23 x.toNatClampNeg).toNatClampNeg = 32
        · rw [if_pos k32]; exact sup_nd hZ hn k32
        · rw [if_neg k32]; exact hn
      exact Or.inr (dk_gt (hB.dcl hg k20))
    · rw [if_neg k20]; exact Or.inl rfl
theorem gtF_gt (hZ : TZ μ ζ) (hR : RvO μ ζ ρ) (hx : Gt μ ζ x) : ∀ (j : Nat), gtF ζ ρ x j = -1 ∨ Gt μ ζ (gtF ζ ρ x j) := by
  intro j
  induction j with
  | zero => exact Or.inr hx
  | succ j ih =>
    rcases ih with h | h
    · exact Or.inl (gtF_n (by rw [h]; decide))
    · rw [gtF_p (by have := (gt_in hZ.1 h).1; omega)]
      exact gt_gt hZ hR h
/-- no declaration comes back to itself -/
theorem no_per (hZ : TZ μ ζ) (hR : RvO μ ζ ρ) (hall : NoRs ζ ρ) (hE : Gt μ ζ e) : ∀ (p : Nat), ¬ gtF ζ ρ e (p + 1) = e := by
  have hB := hZ.1
  have ei := gt_in hB hE
  intro p
  induction p using Nat.strongRecOn with
  | ind p ih =>
    intro hp
    have nn : ∀ i, i ≤ p + 1 → Gt μ ζ (gtF ζ ρ e i) := fun i hi => by
      rcases gtF_gt hZ hR hE i with h | h
      · exfalso
        have h2 := gtF_neg (ζ := ζ) (ρ := ρ) (x := gtF ζ ρ e i) (by rw [h]; decide) (p + 1 - i)
        rw [← gtF_add, show i + (p + 1 - i) = p + 1 by omega, hp] at h2
        have := ei.1
        omega
      · exact h
    by_cases cc : (p : Int) ≤ (ζ.1 19).toInt
    · rcases hE.2 with h | h | h
      · exact hall e ei (Or.inl h) p cc hp
      · have e1 : gtF ζ ρ e 1 = ρ e.toNatClampNeg := by
          rw [gtF_p (j := 0) (by have := ei.1; show ¬ e.toInt < 0; omega)]
          show gtV ζ ρ e = _
          unfold gtV
          rw [if_pos h]
        have g1 := nn 1 (by omega)
        have i1 := gt_in hB g1
        have k6 : ζ.2.1 20 (gtF ζ ρ e 1).toNatClampNeg = 6 := by
          rcases hR e.toNatClampNeg (by have := ei.1; have := ei.2; have := @ic e; omega) with h | ⟨h1, -⟩
          · rw [e1, h] at i1; exact absurd i1.1 (by decide)
          · rw [e1]; exact h1
        refine hall _ i1 (Or.inr k6) p cc ?_
        rw [← gtF_add, show 1 + (p + 1) = (p + 1) + 1 by omega, gtF_add (a := p + 1) 1, hp]
      · exact hall e ei (Or.inr h) p cc hp
    · have h19 : 0 ≤ (ζ.1 19).toInt := by have := ei.1; have := ei.2; omega
      obtain ⟨i, j, hij, hj, he⟩ := two_alike (ζ.1 19).toInt.toNat (fun i => (gtF ζ ρ e i).toNatClampNeg) (fun i hi => by
        have g := gt_in hB (nn i (by omega))
        have h1 := g.1
        have h2 := g.2
        have := @ic (gtF ζ ρ e i)
        show (gtF ζ ρ e i).toNatClampNeg < _
        omega)
      have eq : gtF ζ ρ e i = gtF ζ ρ e j := in_eq (gt_in hB (nn i (by omega))) (gt_in hB (nn j (by omega))) he
      refine ih (i + p - j) (by omega) ?_
      rw [show i + p - j + 1 = i + (p + 1 - j) by omega, gtF_add, eq, ← gtF_add, show j + (p + 1 - j) = p + 1 by omega]
      exact hp
theorem al_nd (hZ : TZ μ ζ) (hs : Nd ζ 0 s) : ∀ (i : Nat), (∀ j, j < i → AlN ζ (sqT ζ s j)) → Nd ζ 0 (sqT ζ s i) := by
  intro i h
  cases i with
  | zero => exact hs
  | succ i => exact (hZ.1.dcl (h i (by omega)).1 (h i (by omega)).2.1).2.2.2.1
/-- NAMEs one behind another are gone through -/
theorem gt_walk (hZ : TZ μ ζ) (e0 : 0 ≤ e.toInt) (e4 : ¬ ζ.2.1 20 e.toNatClampNeg = 4) (hs : Nd ζ 0 (gtT ζ e)) : ∀ (i : Nat), (∀ j, j < i → AlN ζ (sqT ζ (gtT ζ e) j)) → ζ.2.1 20 (sqT ζ (gtT ζ e) i).toNatClampNeg = 20 → gtF ζ ρ e (i + 1) = dcl ζ (sqT ζ (gtT ζ e) i) := by
  intro i
  induction i with
  | zero =>
    intro _ k20
    rw [gtF_p (j := 0) (by show ¬ e.toInt < 0; omega)]
    show gtV ζ ρ e = dcl ζ (gtT ζ e)
    unfold gtV
    have k20 : ζ.2.1 20 (gtT ζ e).toNatClampNeg = 20 := k20
    rw [if_neg e4, if_pos k20]
  | succ i ih =>
    intro h k20
    have hi := h i (by omega)
    have dk := hZ.1.dcl hi.1 hi.2.1
    rw [gtF_p (by rw [ih (fun j hj => h j (by omega)) hi.2.1]; have := dk.2.2.1.1; omega), ih (fun j hj => h j (by omega)) hi.2.1]
    have k20' : ζ.2.1 20 (ζ.2.1 23 (dcl ζ (sqT ζ (gtT ζ e) i)).toNatClampNeg).toNatClampNeg = 20 := k20
    have et : gtT ζ (dcl ζ (sqT ζ (gtT ζ e) i)) = ζ.2.1 23 (dcl ζ (sqT ζ (gtT ζ e) i)).toNatClampNeg := by
      show (if _ then _ else _) = _
      rw [if_neg (by rw [k20']; decide)]
    show gtV ζ ρ (dcl ζ (sqT ζ (gtT ζ e) i)) = dcl ζ (ζ.2.1 23 (dcl ζ (sqT ζ (gtT ζ e) i)).toNatClampNeg)
    show (if _ then _ else _) = _
    rw [if_neg (by rw [hi.2.2]; decide), et, if_pos k20']
/-- where a NAME of an OBJECT type leads -/
theorem up_key (hZ : TZ μ ζ) (hC : HoC μ ζ η) (hg : ag ζ η) (hs : Nd ζ 0 s) (ks : ζ.2.1 20 s.toNatClampNeg = 20 ∨ ζ.2.1 20 s.toNatClampNeg = 26) (ho : Ob ζ (rlV ζ s)) : ζ.2.1 20 (rlV ζ s).toNatClampNeg = 26 ∨ ∃ E, Gt μ ζ E ∧ TxD ζ E (rlV ζ s) ∧ ∀ e : Int32, 0 ≤ e.toInt → ¬ ζ.2.1 20 e.toNatClampNeg = 4 → gtT ζ e = s → ∃ n, gtF ζ ρ e (n + 1) = E := by
  have hB := hZ.1
  rcases ks with ks | ks
  · obtain ⟨i, hi, hA, hN⟩ : ∃ i, i ≤ (ζ.1 60).toInt.toNat ∧ (∀ j, j < i → AlN ζ (sqT ζ s j)) ∧ ¬ AlN ζ (sqT ζ s i) := by
      have key : ∀ n, (∀ j, j < n → AlN ζ (sqT ζ s j)) ∨ ∃ i, i < n ∧ (∀ j, j < i → AlN ζ (sqT ζ s j)) ∧ ¬ AlN ζ (sqT ζ s i) := fun n => by
        induction n with
        | zero => exact Or.inl (fun j hj => absurd hj (Nat.not_lt_zero _))
        | succ n ih =>
          rcases ih with h | ⟨i, h1, h2⟩
          · by_cases c : AlN ζ (sqT ζ s n)
            · refine Or.inl (fun j hj => ?_)
              by_cases cj : j < n
              · exact h j cj
              · rw [show j = n by omega]; exact c
            · exact Or.inr ⟨n, by omega, h, c⟩
          · exact Or.inr ⟨i, by omega, h2⟩
      rcases key ((ζ.1 60).toInt.toNat + 1) with h | ⟨i, h1, h2⟩
      · exfalso
        have hG : AlG ζ η s ((ζ.1 60).toInt.toNat + 1) := fun j hj => ⟨h j hj, hg _ (by
          have dk := (hB.dcl (h j hj).1 (h j hj).2.1).2.2.1
          have := dk.1
          have := dk.2
          have := @ic (dcl ζ (sqT ζ s j))
          omega)⟩
        have := al_lt hB hC hG
        omega
      · exact ⟨i, by omega, h2⟩
    have hn := al_nd hZ hs i hA
    by_cases k20 : ζ.2.1 20 (sqT ζ s i).toNatClampNeg = 20
    · have dk := hB.dcl hn k20
      have k4 : ζ.2.1 20 (dcl ζ (sqT ζ s i)).toNatClampNeg = 4 := dk.2.1.resolve_left (fun h => hN ⟨hn, k20, h⟩)
      have er := rl_op hA (by omega) k20 k4
      refine Or.inr ⟨dcl ζ (sqT ζ s i), dk_gt dk, Or.inr ⟨er.symm, by rw [er]; exact k4⟩, fun e e0 e4 et => ⟨i, ?_⟩⟩
      have hw := gt_walk (ρ := ρ) hZ e0 e4 (by rw [et]; exact hs) i (by rw [et]; exact hA) (by rw [et]; exact k20)
      rw [et] at hw
      exact hw
    · cases i with
      | zero => exact absurd ks k20
      | succ i =>
        have er := rl_end hA (by omega) k20
        have hi := hA i (by omega)
        have dk := hB.dcl hi.1 hi.2.1
        rcases ho with h | h | h
        · exact Or.inl h
        · refine Or.inr ⟨dcl ζ (sqT ζ s i), dk_gt dk, Or.inl ⟨hi.2.2, er.symm, h⟩, fun e e0 e4 et => ⟨i, ?_⟩⟩
          have hw := gt_walk (ρ := ρ) hZ e0 e4 (by rw [et]; exact hs) i (by rw [et]; exact fun j hj => hA j (by omega)) (by rw [et]; exact hi.2.1)
          rw [et] at hw
          exact hw
        · rw [er] at h
          have kk := hn.kind
          rw [h] at kk
          exact absurd kk (by decide)
  · refine Or.inl ?_
    rw [rl_id (fun h => by rw [ks] at h; exact absurd h (by decide))]
    exact ks
/-- one step up, by declarations -/
theorem wa_up (hZ : TZ μ ζ) (hC : HoC μ ζ η) (hg : ag ζ η) (hR : RvO μ ζ ρ) (hx : RT μ ζ x) (hw : RT μ ζ (waV ζ ρ x)) (ho : Ob ζ (waV ζ ρ x)) : ζ.2.1 20 (waV ζ ρ x).toNatClampNeg = 26 ∨ ∃ E, Gt μ ζ E ∧ TxD ζ E (waV ζ ρ x) ∧ ∀ e : Int32, 0 ≤ e.toInt → TxD ζ e x → ∃ n, gtF ζ ρ e (n + 1) = E := by
  have hB := hZ.1
  have w0 := hw.in.1
  unfold waV at w0 ho ⊢
  by_cases k : ζ.2.1 20 x.toNatClampNeg = 32
  · rw [if_pos k] at ho ⊢
    have xn := rt_32 hx k
    rcases up_key (ρ := ρ) hZ hC hg (sup_nd hZ xn k) (hZ.2.2.2.1 x xn k) ho with h | ⟨E, h1, h2, h3⟩
    · exact Or.inl h
    · refine Or.inr ⟨E, h1, h2, fun e e0 hT => ?_⟩
      rcases hT with ⟨a1, a2, a3⟩ | ⟨-, a2⟩
      · refine h3 e e0 (by rw [a1]; decide) ?_
        unfold gtT
        rw [a2, if_pos k]
      · rw [k] at a2; exact absurd a2 (by decide)
  · rw [if_neg k] at w0 ho ⊢
    by_cases k4 : ζ.2.1 20 x.toNatClampNeg = 4 ∧ 0 ≤ (ρ x.toNatClampNeg).toInt
    · rw [if_pos k4] at ho ⊢
      obtain ⟨r1, r2, r3⟩ := hR.lv hB hx k4.2
      rcases up_key (ρ := ρ) hZ hC hg (sup_nd hZ r2 r3) (hZ.2.2.2.1 _ r2 r3) ho with h | ⟨E, h1, h2, h3⟩
      · exact Or.inl h
      · refine Or.inr ⟨E, h1, h2, fun e e0 hT => ?_⟩
        rcases hT with ⟨-, -, a3⟩ | ⟨a1, -⟩
        · exact absurd a3 k
        · subst a1
          obtain ⟨n, hn⟩ := h3 (ρ e.toNatClampNeg) k4.2 (by rw [r1.2.1]; decide) (by unfold gtT; rw [if_pos r3])
          refine ⟨n + 1, ?_⟩
          have e1 : gtF ζ ρ e 1 = ρ e.toNatClampNeg := by
            rw [gtF_p (j := 0) (by show ¬ e.toInt < 0; omega)]
            show gtV ζ ρ e = _
            unfold gtV
            rw [if_pos k4.1]
          rw [show n + 1 + 1 = 1 + (n + 1) by omega, gtF_add, e1]
          exact hn
    · rw [if_neg k4] at w0; exact absurd w0 (by decide)
theorem wa_no (h : ¬ Ob ζ x) : waV ζ ρ x = -1 := by
  unfold waV
  rw [if_neg (fun e => h (Or.inr (Or.inl e))), if_neg (fun e => h (Or.inr (Or.inr e.1)))]
/-- all ways up end -/
theorem wa_fin (hZ : TZ μ ζ) (hC : HoC μ ζ η) (hg : ag ζ η) (hR : RvO μ ζ ρ) (hall : NoRs ζ ρ) (ht : RT μ ζ t) : ∃ c, waF ζ ρ t c = -1 ∧ ∀ i, i < c → RT μ ζ (waF ζ ρ t i) := by
  have hB := hZ.1
  have key : ∀ n, El μ ζ ρ t n ∨ ∃ c, waF ζ ρ t c = -1 ∧ ∀ i, i < c → RT μ ζ (waF ζ ρ t i) := fun n => by
    induction n with
    | zero =>
      by_cases c : Ob ζ t
      · exact Or.inl (fun i hi => by rw [show i = 0 by omega]; exact ⟨ht, c⟩)
      · exact Or.inr ⟨1, wa_no c, fun i hi => by rw [show i = 0 by omega]; exact ht⟩
    | succ n ih =>
      rcases ih with h | h
      · have hn := h n (by omega)
        rcases wa_rt hZ hR hn.1 with e | e
        · exact Or.inr ⟨n + 1, e, fun i hi => (h i (by omega)).1⟩
        · by_cases c : Ob ζ (waF ζ ρ t (n + 1))
          · refine Or.inl (fun i hi => ?_)
            by_cases ci : i ≤ n
            · exact h i ci
            · rw [show i = n + 1 by omega]; exact ⟨e, c⟩
          · refine Or.inr ⟨n + 2, wa_no c, fun i hi => ?_⟩
            by_cases ci : i ≤ n
            · exact (h i ci).1
            · rw [show i = n + 1 by omega]; exact e
      · exact Or.inr h
  rcases key ((ζ.1 60).toInt.toNat + 2) with hE | h
  · exfalso
    have h2 : ¬ ∀ i j, i < j → j < (ζ.1 60).toInt.toNat + 3 → ¬ waF ζ ρ t i = waF ζ ρ t j := fun h => by
      have := Ec.le hZ hR (t := t) (c := (ζ.1 60).toInt.toNat + 3) ⟨fun i hi => hE i (by omega), h⟩
      omega
    refine h2 (fun i j hij hj he => ?_)
    have n26 : ∀ m, i < m → m ≤ j → ¬ ζ.2.1 20 (waF ζ ρ t m).toNatClampNeg = 26 := fun m h1 h2 h => by
      by_cases c : m < j
      · have e1 : waF ζ ρ t (m + 1) = -1 := wa_root h
        have := (hE (m + 1) (by omega)).1.in.1
        rw [e1] at this
        exact absurd this (by decide)
      · rw [show m = j by omega, ← he] at h
        have e1 : waF ζ ρ t (i + 1) = -1 := wa_root h
        have := (hE (i + 1) (by omega)).1.in.1
        rw [e1] at this
        exact absurd this (by decide)
    have stp : ∀ m, i ≤ m → m < j → ∃ E, Gt μ ζ E ∧ TxD ζ E (waF ζ ρ t (m + 1)) ∧ ∀ e : Int32, 0 ≤ e.toInt → TxD ζ e (waF ζ ρ t m) → ∃ n, gtF ζ ρ e (n + 1) = E := fun m h1 h2 =>
      (wa_up hZ hC hg hR (hE m (by omega)).1 (hE (m + 1) (by omega)).1 (hE (m + 1) (by omega)).2).resolve_left (n26 (m + 1) (by omega) (by omega))
    obtain ⟨E, gE, tE, pE⟩ := stp i (by omega) hij
    have run : ∀ m, i + 1 + m ≤ j → ∃ e n, Gt μ ζ e ∧ TxD ζ e (waF ζ ρ t (i + 1 + m)) ∧ gtF ζ ρ E n = e := fun m => by
      induction m with
      | zero => intro _; exact ⟨E, 0, gE, tE, rfl⟩
      | succ m ih =>
        intro hm
        obtain ⟨e, n, g1, g2, g3⟩ := ih (by omega)
        obtain ⟨E2, q1, q2, q3⟩ := stp (i + 1 + m) (by omega) (by omega)
        obtain ⟨n2, hn2⟩ := q3 e (gt_in hB g1).1 g2
        refine ⟨E2, n + (n2 + 1), q1, q2, ?_⟩
        rw [gtF_add, g3]
        exact hn2
    obtain ⟨e, n, g1, g2, g3⟩ := run (j - i - 1) (by omega)
    rw [show i + 1 + (j - i - 1) = j by omega, ← he] at g2
    obtain ⟨n2, hn2⟩ := pE e (gt_in hB g1).1 g2
    refine no_per hZ hR hall gE (n + n2) ?_
    rw [show n + n2 + 1 = n + (n2 + 1) by omega, gtF_add, g3]
    exact hn2
  · exact h
theorem ca_8 (hZ : TZ μ ζ) (hY : TY μ ζ) (hC : HoC μ ζ η) (hR : RvO μ ζ ρ) (hg : ag ζ η ∧ bg ζ) (hd : 1253 ≤ d) {x1 : Int32} : ∀ (n i : Nat) (s : Int32) (κ : MS), waF ζ ρ t (i + n) = -1 → (∀ k, k < i + n → RT μ ζ (waF ζ ρ t k)) → P2 ζ ρ ω η κ → ME X W true d 423 8 [(0, .ref P.1), (1, .int x1), (2, .int s), (3, .int (waF ζ ρ t i))] [] P κ (fun r ν1 => C4 ζ ρ ω η κ ν1 ∧ ∃ m, CaS ζ ρ (ν1.2.1 81) m (waF ζ ρ t i) s r) T := by
  have hB := hZ.1
  intro n
  induction n with
  | zero =>
    intro i s κ h1 _ hP
    have h1 : waF ζ ρ t i = -1 := h1
    rw [h1]
    exact v_cellsAbove_8 _ _ _ ⟨fun _ => ⟨C4.rf hP, 0, rfl, rfl⟩, fun h => absurd h (by decide)⟩
  | succ n ih =>
    intro i s κ h1 h2 hP
    have ti := h2 i (by omega)
    refine v_cellsAbove_8 _ _ _ ⟨fun h => absurd h (by have := ti.in.1; omega), fun _ => ?_⟩
    refine MC.mono (c_fieldCells hZ hY hC hR hg hP hd ti) (fun r1 κ1 hκ1 => ?_) (fun _ h => h)
    obtain ⟨hQ, m1, hm1⟩ := hκ1
    refine MC.mono (c_wholeAbove hZ hQ.1.1.1 hQ.1.2.1.1 hR (by omega) ti) (fun r2 κ hκ => ?_) (fun _ h => h)
    obtain ⟨e1, e2, -⟩ := hκ
    have e1 := e1.symm
    subst e1
    have e3 : r2 = waF ζ ρ t (i + 1) := e2
    rw [e3]
    refine ME.mono (ih (i + 1) (s + r1) κ1 (by rw [show i + 1 + n = i + (n + 1) by omega]; exact h1) (fun k hk => h2 k (by omega)) hQ.1) (fun r3 κ3 h3 => ?_) (fun _ h => h)
    obtain ⟨hQ3, m3, hm3⟩ := h3
    exact ⟨hQ.tr hQ3, m3 + 1, ti.in.1, r1, ⟨m1, hm1.keep hQ3.2.2⟩, hm3⟩
theorem c_cellsAbove (hZ : TZ μ ζ) (hY : TY μ ζ) (hC : HoC μ ζ η) (hR : RvO μ ζ ρ) (hg : ag ζ η ∧ bg ζ) (hall : NoRs ζ ρ) (hP : P2 ζ ρ ω η ν) (hd : 1254 ≤ d) (hx : RT μ ζ x) : MC X W true d 423 [.ref P.1, .int x] P ν (fun r ν1 => C4 ζ ρ ω η ν ν1 ∧ ∃ m, CaS ζ ρ (ν1.2.1 81) m (waV ζ ρ x) 0 r) T := by
  have hB := hZ.1
  obtain ⟨c, hc, hl⟩ := wa_fin hZ hC hg.1 hR hall hx
  refine me_meth (by omega) rfl (v_cellsAbove_0 _ (MC.mono (c_wholeAbove hZ hP.1.1 hP.2.1.1 hR (by omega) hx) (fun r κ hκ => ?_) (fun _ h => h)))
  obtain ⟨e1, e2, -⟩ := hκ
  have e1 := e1.symm
  subst e1
  have e3 : r = waF ζ ρ x 1 := e2
  have e4 : waV ζ ρ x = waF ζ ρ x 1 := rfl
  rw [e3, e4]
  cases c with
  | zero =>
    have hc : x = -1 := hc
    have := hx.in.1
    rw [hc] at this
    exact absurd this (by decide)
  | succ c =>
    exact ca_8 hZ hY hC hR hg (by omega) c 1 0 ν (by rw [show 1 + c = c + 1 by omega]; exact hc) (fun k hk => hl k (by omega)) hP
end NNAY
