/-! contracts of the reference: a NAME's declaration, objects and references; rings of NAMEs -/
/-- so many, and one more, of fewer sorts: two are of one sort -/
theorem two_alike : ∀ (n : Nat) (f : Nat → Nat), (∀ i, i ≤ n → f i < n) → ∃ i j, i < j ∧ j ≤ n ∧ f i = f j
  | 0, f, h => absurd (h 0 (Nat.le_refl _)) (Nat.not_lt_zero _)
  | n + 1, f, h => by
    by_cases c : ∃ i, i ≤ n ∧ f i = f (n + 1)
    · obtain ⟨i, h1, h2⟩ := c
      exact ⟨i, n + 1, by omega, Nat.le_refl _, h2⟩
    · have ne : ∀ i, i ≤ n → ¬ f i = f (n + 1) := fun i hi he => c ⟨i, hi, he⟩
      obtain ⟨i, j, h1, h2, h3⟩ := two_alike n (fun i => if f i = n then f (n + 1) else f i) (fun i hi => by
        have a := h i (by omega)
        have b := h (n + 1) (Nat.le_refl _)
        have e := ne i hi
        show (if f i = n then f (n + 1) else f i) < n
        by_cases c2 : f i = n
        · rw [if_pos c2]; omega
        · rw [if_neg c2]; omega)
      have h3 : (if f i = n then f (n + 1) else f i) = (if f j = n then f (n + 1) else f j) := h3
      refine ⟨i, j, h1, by omega, ?_⟩
      have ei := ne i (by omega)
      have ej := ne j (by omega)
      by_cases c1 : f i = n
      · by_cases c2 : f j = n
        · omega
        · rw [if_pos c1, if_neg c2] at h3; omega
      · by_cases c2 : f j = n
        · rw [if_neg c1, if_pos c2] at h3; omega
        · rw [if_neg c1, if_neg c2] at h3; omega
/-- TYPEs, each said by the declaration that the one before means -/
def sqT (ζ : MS) (x : Int32) : Nat → Int32
  | 0 => x
  | i + 1 => ζ.2.1 23 (dcl ζ (sqT ζ x i)).toNatClampNeg
/-- such a TYPE is a NAME of a TYPE that stands for another -/
def AlN (ζ : MS) (t : Int32) : Prop := Nd ζ 0 t ∧ ζ.2.1 20 t.toNatClampNeg = 20 ∧ ζ.2.1 20 (dcl ζ t).toNatClampNeg = 3
section NNR
variable {X : ev_X} {W : Nat → Prop} {d h K : Nat} {P : MP} {μ ν κ ζ : MS} {lo hi : Int} {T : MS → Prop} {s w : Nat} {x : Int32}
theorem sqT.add (i j : Nat) : sqT ζ x (i + j) = sqT ζ (sqT ζ x i) j := by
  induction j with
  | zero => rfl
  | succ j ih => show ζ.2.1 23 (dcl ζ (sqT ζ x (i + j))).toNatClampNeg = _; rw [ih]; rfl
theorem TB.lr (hB : TB μ ζ) : LRow ζ.2.2 := hB.2.1.2.1.1.1
theorem TB.n16 (hB : TB μ ζ) : (ζ.1 19).toInt < 16000 := by
  obtain ⟨N, -, -, -, ⟨-, -, n19⟩, -⟩ := hB.1
  rw [hB.2.1.1.1 19 rfl]
  omega
theorem TF.row (hF : TF ζ ν) {g : Nat} (hg : TFr.contains g = false) : ν.2.1 g = ζ.2.1 g := hF.1.2.1 g hg
theorem TF.k24 (hF : TF ζ ν) {g j : Nat} (hg : g = 24 ∨ g = 25 ∨ g = 26) (hk : sfx (ζ.2.1 20 j) = false) : ν.2.1 g j = ζ.2.1 g j := (hF.2.2.2 g hg j).resolve_right (fun h => by rw [hk] at h; cases h)
theorem TF.k28 (hF : TF ζ ν) {j : Nat} {k : Int32} (ek : ζ.2.1 20 j = k) (hk : ([33, 34, 35, 72] : List Int32).contains k = false) : ν.2.1 28 j = ζ.2.1 28 j := by
  subst ek
  rcases hF.2.2.1 j with e | e | e | e | e
  · exact e
  · rw [e] at hk; exact absurd hk (by decide)
  · rw [e] at hk; exact absurd hk (by decide)
  · rw [e] at hk; exact absurd hk (by decide)
  · rw [e] at hk; exact absurd hk (by decide)
theorem sfx_of {ζ : MS} {j : Nat} {k : Int32} (ek : ζ.2.1 20 j = k) (hk : sfx k = false) : sfx (ζ.2.1 20 j) = false := by rw [ek]; exact hk
theorem Nd.mi {g : Nat} (hB : TB μ ζ) (hF : TF ζ ν) (hx : Nd ζ s x) (hg : rk g = true) (hr : rlen g = 16000) : MI x (ν.2.2 g) := MI.of ((hF.1.2.2).g hg hr) hx.in.1 (by have := hx.in.2; have := hB.n16; omega)
theorem Dk.mi {g : Nat} {e : Int32} (hB : TB μ ζ) (hF : TF ζ ν) (hx : Dk μ ζ e) (hg : rk g = true) (hr : rlen g = 16000) : MI e (ν.2.2 g) := MI.of ((hF.1.2.2).g hg hr) hx.2.2.1.1 (by have := hx.2.2.1.2; have := hB.n16; omega)
theorem nk12 (hx : Nd ζ 8 x) : ζ.2.1 20 x.toNatClampNeg = 12 := by
  have hk : ([12] : List Int32).contains (ζ.2.1 20 x.toNatClampNeg) = true := hx.kind
  simpa using hk
theorem nk13 (hx : Nd ζ 9 x) : ζ.2.1 20 x.toNatClampNeg = 13 := by
  have hk : ([13] : List Int32).contains (ζ.2.1 20 x.toNatClampNeg) = true := hx.kind
  simpa using hk
theorem nk34 (hx : Nd ζ 11 x) : ζ.2.1 20 x.toNatClampNeg = 34 := by
  have hk : ([34] : List Int32).contains (ζ.2.1 20 x.toNatClampNeg) = true := hx.kind
  simpa using hk
theorem nk35 (hx : Nd ζ 12 x) : ζ.2.1 20 x.toNatClampNeg = 35 := by
  have hk : ([35] : List Int32).contains (ζ.2.1 20 x.toNatClampNeg) = true := hx.kind
  simpa using hk
theorem c_dcl (hB : TB μ ζ) (hF : TF ζ ν) (hd : 1 ≤ d) (hx : Nd ζ 0 x) (ek : ζ.2.1 20 x.toNatClampNeg = 20) : MC X W true d 364 [.ref P.1, .int x] P ν (fun r ν1 => ν1 = ν ∧ r = dcl ζ x) T := by
  obtain ⟨-, q2, q3, -, q5⟩ := hx.ln.1 ek
  have hf := hx.fld (f := 0) (by omega)
  rw [ek] at hf
  have hq : Nd ζ 7 (ζ.2.1 22 x.toNatClampNeg) := hf.1
  have hU := hB.2.1.2.1.1.2.1.1
  have e28 : ν.2.1 28 (ζ.2.1 22 x.toNatClampNeg).toNatClampNeg = ζ.2.1 28 (ζ.2.1 22 x.toNatClampNeg).toNatClampNeg := by
    exact hF.k28 q5 (by decide)
  refine me_meth hd rfl (v_declaration__0 _ ⟨hx.mi hB hF rfl rfl, ?_, ?_, ?_⟩)
  · rw [hF.row (g := 22) rfl]; exact hq.mi hB hF rfl rfl
  · rw [hF.row (g := 22) rfl, e28]
    exact MI.of ((hF.1.2.2).g rfl rfl : _ = 3200) q2 (by omega)
  · rw [hF.row (g := 22) rfl, e28, hF.row (g := 46) rfl]
    exact ⟨rfl, rfl⟩
/-- whether it is an object's -/
def obV (ζ : MS) (x : Int32) : Int32 := if ζ.2.1 20 x.toNatClampNeg = 26 ∨ ζ.2.1 20 x.toNatClampNeg = 32 ∨ ζ.2.1 20 x.toNatClampNeg = 4 then 1 else 0
theorem c_isObject (hF : TF ζ ν) (hd : 1 ≤ d) (hm : MI x (ν.2.2 20)) : MC X W true d 367 [.ref P.1, .int x] P ν (fun r ν1 => ν1 = ν ∧ r = obV ζ x) T := by
  have r20 : ν.2.1 20 = ζ.2.1 20 := hF.row rfl
  unfold obV
  rw [← r20]
  exact me_meth hd rfl (v_isObject_0 _ ⟨hm, fun e => ⟨rfl, by rw [if_pos (Or.inl e)]⟩, fun e1 => ⟨hm, fun e => ⟨rfl, by rw [if_pos (Or.inr (Or.inl e))]⟩, fun e2 => ⟨hm, fun e3 => ⟨rfl, by rw [if_neg (fun h => h.elim e1 (fun h => h.elim e2 e3))]⟩, fun e => ⟨rfl, by rw [if_pos (Or.inr (Or.inr e))]⟩⟩⟩⟩)
theorem c_isReference (hF : TF ζ ν) (hd : 2 ≤ d) (hm : MI x (ν.2.2 20)) : MC X W true d 368 [.ref P.1, .int x] P ν (fun r ν1 => ν1 = ν ∧ (r = 0 ∨ r = 1) ∧ (¬ r = 0 ↔ obV ζ x = 1 ∨ ζ.2.1 20 x.toNatClampNeg = 30 ∨ ζ.2.1 20 x.toNatClampNeg = 31 ∨ ζ.2.1 20 x.toNatClampNeg = 23 ∨ ζ.2.1 20 x.toNatClampNeg = 24 ∨ ζ.2.1 20 x.toNatClampNeg = 25)) T := by
  have r20 : ν.2.1 20 = ζ.2.1 20 := hF.row rfl
  have one : ¬ (1 : Int32) = 0 := by decide
  refine me_meth (by omega) rfl (v_isReference_0 _ (MC.mono (c_isObject hF (by omega) hm) (fun r κ hk => ?_) (fun _ h => h)))
  obtain ⟨rfl, hr⟩ := hk
  rw [← r20]
  refine ⟨fun h => ⟨rfl, Or.inr rfl, ⟨fun _ => Or.inl ?_, fun _ => one⟩⟩, fun h => ⟨hm, fun e => ⟨rfl, Or.inr rfl, ⟨fun _ => Or.inr (Or.inl e), fun _ => one⟩⟩, fun e1 => ⟨hm, fun e => ⟨rfl, Or.inr rfl, ⟨fun _ => Or.inr (Or.inr (Or.inl e)), fun _ => one⟩⟩, fun e2 => ⟨hm, fun e => ⟨rfl, Or.inr rfl, ⟨fun _ => Or.inr (Or.inr (Or.inr (Or.inl e))), fun _ => one⟩⟩, fun e3 => ⟨hm, fun e => ⟨rfl, Or.inr rfl, ⟨fun _ => Or.inr (Or.inr (Or.inr (Or.inr (Or.inl e)))), fun _ => one⟩⟩, fun e4 => ⟨hm, fun e5 => ⟨rfl, Or.inl rfl, ⟨fun h => absurd rfl h, fun h2 => ?_⟩⟩, fun e => ⟨rfl, Or.inr rfl, ⟨fun _ => Or.inr (Or.inr (Or.inr (Or.inr (Or.inr e)))), fun _ => one⟩⟩⟩⟩⟩⟩⟩⟩
  · rw [hr] at h
    unfold obV at h ⊢
    by_cases c : ζ.2.1 20 x.toNatClampNeg = 26 ∨ ζ.2.1 20 x.toNatClampNeg = 32 ∨ ζ.2.1 20 x.toNatClampNeg = 4
    · rw [if_pos c]
    · rw [if_neg c] at h; exact absurd rfl h
  · rcases h2 with h2 | h2 | h2 | h2 | h2 | h2
    · rw [← hr, h] at h2; exact absurd h2 (by decide)
    · exact absurd h2 e1
    · exact absurd h2 e2
    · exact absurd h2 e3
    · exact absurd h2 e4
    · exact absurd h2 e5
end NNR
