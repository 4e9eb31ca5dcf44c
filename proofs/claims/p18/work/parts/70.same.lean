/-! what stays of what parse leaves -/
def iP (g : Nat) : List Nat → Bool
  | [] => false
  | x :: r => bif Nat.beq x g then true else iP g r
def Sm (P : List Nat) (σ σ' : fl_S) : Prop := (∀ c a, sC σ c a = true → sC σ' c a = true) ∧ ∀ a g, iP g P = true → sF σ' a g = sF σ a g
theorem iP_ne {g h : Nat} : ∀ {P : List Nat}, iP g P = true → iP h P = false → Nat.beq g h = false
  | [], h1, _ => by cases h1
  | x :: r, h1, h2 => by
    unfold iP at h1 h2
    cases e : Nat.beq x g with
    | true =>
      have := Nat.eq_of_beq_eq_true e
      subst this
      cases e2 : Nat.beq x h with
      | true => rw [e2] at h2; cases h2
      | false => rfl
    | false =>
      rw [e] at h1
      cases e2 : Nat.beq x h with
      | true => rw [e2] at h2; cases h2
      | false => rw [e2] at h2; exact iP_ne h1 h2
theorem iP_all {g : Nat} {f : Nat → Bool} : ∀ {P : List Nat}, iP g P = true → P.all f = true → f g = true
  | [], h1, _ => by cases h1
  | x :: r, h1, h2 => by
    rw [List.all_cons, Bool.and_eq_true] at h2
    unfold iP at h1
    cases e : Nat.beq x g with
    | true => rw [← Nat.eq_of_beq_eq_true e]; exact h2.1
    | false => rw [e] at h1; exact iP_all h1 h2.2
theorem Sm.rf {P : List Nat} {σ : fl_S} : Sm P σ σ := ⟨fun _ _ h => h, fun _ _ _ => rfl⟩
theorem Sm.tr {P : List Nat} {σ τ ρ : fl_S} (h1 : Sm P σ τ) (h2 : Sm P τ ρ) : Sm P σ ρ := ⟨fun c a h => h2.1 c a (h1.1 c a h), fun a g hg => (h2.2 a g hg).trans (h1.2 a g hg)⟩
theorem Sm.sub {P Q : List Nat} {σ τ : fl_S} (h : Sm P σ τ) (hq : (Q.all fun g => iP g P) = true) : Sm Q σ τ := ⟨h.1, fun a g hg => h.2 a g (iP_all hg hq)⟩
theorem Sm.u {P : List Nat} {σ τ : fl_S} {a g : Nat} {v : Value} (h : Sm P σ τ) (hg : iP g P = false) : Sm P σ (sU τ a g v) := ⟨h.1, fun b k hk => (sU_gne (iP_ne hk hg)).trans (h.2 b k hk)⟩
theorem Sm.s {P : List Nat} {σ τ : fl_S} {g : Nat} {φ : Nat → Value} (h : Sm P σ τ) (hg : iP g P = false) : Sm P σ (sS τ g φ) := ⟨h.1, fun b k hk => by
  show FS (sF τ) g φ b k = _
  unfold FS
  rw [iP_ne hk hg]
  exact h.2 b k hk⟩
theorem Sm.n {P : List Nat} {σ τ : fl_S} {ci n : Nat} (h : Sm P σ τ) (hc : (P.all fun g => !Nat.beq (Nat.div g 32) ci) = true) : Sm P σ (sN τ ci n) := ⟨fun c a hx => sN_C (h.1 c a hx), fun b k hk => by
  show FN (sF τ) ci (sZ τ) b k = _
  unfold FN
  have := iP_all hk hc
  rw [Bool.not_eq_true'] at this
  rw [this, Bool.false_and]
  exact h.2 b k hk⟩
theorem Sm.i1 {P : List Nat} {σ τ : fl_S} {a : Nat} {x : Nat × (Nat → Int32)} (h : Sm P σ τ) : Sm P σ (sI1 τ a x) := h
theorem Sm.r1 {P : List Nat} {σ τ : fl_S} {a : Nat} {x : Nat × Nat × (Nat → Option Nat)} (h : Sm P σ τ) : Sm P σ (sR1 τ a x) := h
theorem Sm.z1 {P : List Nat} {σ τ : fl_S} {n : Nat} (h : Sm P σ τ) : Sm P σ (sZ1 τ n) := h
/-- lists linked by a field that stays -/
theorem Ll.cg {φ ψ : Nat → Value} : ∀ {v : Value} {l : List Nat}, Ll φ v l → (∀ a, φ a = ψ a) → Ll ψ v l
  | _, [], h, _ => h
  | _, a :: _, h, e => ⟨h.1, by rw [← e a]; exact Ll.cg h.2 e⟩
theorem Ll.sm {P : List Nat} {σ τ : fl_S} (h : Sm P σ τ) {g : Nat} (hg : iP g P = true) {v : Value} {l : List Nat} (hl : Ll (fun a => sF σ a g) v l) : Ll (fun a => sF τ a g) v l := hl.cg (fun a => (h.2 a g hg).symm)
def We (P : List Nat) (lf : UInt32 → Int32) (L n m : Nat) (σ : fl_S) : Prop := ∃ σ0, Wd lf L n m σ0 ∧ Sm P σ0 σ
theorem We.sm {P : List Nat} {lf : UInt32 → Int32} {L n m : Nat} {σ τ : fl_S} (h : We P lf L n m σ) (hs : Sm P σ τ) : We P lf L n m τ := by
  obtain ⟨σ0, h1, h2⟩ := h
  exact ⟨σ0, h1, h2.tr hs⟩
theorem We.sub {P Q : List Nat} {lf : UInt32 → Int32} {L n m : Nat} {σ : fl_S} (h : We P lf L n m σ) (hq : (Q.all fun g => iP g P) = true) : We Q lf L n m σ := by
  obtain ⟨σ0, h1, h2⟩ := h
  exact ⟨σ0, h1, h2.sub hq⟩
def P0 : List Nat := [32, 33, 36, 37, 38, 39, 40, 41, 43, 44, 47, 128, 129, 131, 132, 133, 134, 135, 136, 137, 138, 139, 140, 141, 142, 143, 144, 145, 146, 160, 161, 162, 192, 195, 205, 207, 208, 209, 210, 211, 227, 320, 321, 322, 323, 42, 46, 48, 49, 50, 147, 164, 165, 166, 167, 324]
def P1 : List Nat := [32, 33, 36, 37, 38, 39, 40, 41, 43, 44, 47, 128, 129, 131, 132, 133, 134, 135, 136, 137, 138, 139, 140, 141, 142, 143, 144, 145, 146, 160, 161, 162, 192, 195, 205, 207, 208, 209, 210, 211, 227, 320, 321, 322, 323]
def P2 : List Nat := [32, 33, 36, 37, 38, 39, 40, 43, 44, 128, 129, 131, 132, 133, 134, 135, 136, 137, 138, 144, 146, 160, 161, 162, 192, 195, 205, 207, 208, 209, 210, 211, 227, 320, 321, 322, 323]
