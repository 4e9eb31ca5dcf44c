/-! what a run in the kernel leaves, told cell by cell -/
def vb (v w : Value) : Bool := match v, w with
  | .int x, .int y => q_eq x y
  | .float x, .float y => Nat.beq x.toNat y.toNat
  | .ref a, .ref b => Nat.beq a b
  | .retAddr a, .retAddr b => Nat.beq a b
  | .null, .null => true
  | _, _ => false
theorem vb_ok {v w : Value} (h : vb v w = true) : v = w := by
  unfold vb at h
  split at h
  · rw [q_eq_eq] at h
    rw [of_decide_eq_true h]
  · rename_i x y
    have h2 := Nat.eq_of_beq_eq_true h
    rw [UInt32.toNat_inj.mp h2]
  · rw [Nat.eq_of_beq_eq_true h]
  · rw [Nat.eq_of_beq_eq_true h]
  · rfl
  · cases h
def vsb : List Value → List Value → Bool
  | [], [] => true
  | v :: r, w :: q => vb v w && vsb r q
  | _, _ => false
theorem vsb_ok : ∀ {l m : List Value}, vsb l m = true → l = m
  | [], [], _ => rfl
  | [], _ :: _, h => by cases h
  | _ :: _, [], h => by cases h
  | v :: r, w :: q, h => by
    have h' : (vb v w && vsb r q) = true := h
    rw [Bool.and_eq_true] at h'
    rw [vb_ok h'.1, vsb_ok h'.2]
/-- an object as it should be -/
def ck_o (t : ev_T) (a ci : Nat) (fs : List Value) : Bool := match ev_g t a with
  | some (.inr (c, gs)) => Nat.beq c ci && vsb gs fs
  | _ => false
theorem ck_o_ok {t : ev_T} {a ci : Nat} {fs : List Value} (h : ck_o t a ci fs = true) : ev_g t a = some (.inr (ci, fs)) := by
  unfold ck_o at h
  split at h
  · rename_i c gs hg
    rw [Bool.and_eq_true] at h
    rw [hg, Nat.eq_of_beq_eq_true h.1, vsb_ok h.2]
  · cases h
def ck_os (t : ev_T) : List (Nat × Nat × List Value) → Bool
  | [] => true
  | q :: r => ck_o t q.1 q.2.1 q.2.2 && ck_os t r
theorem ck_os_ok {t : ev_T} : ∀ {l : List (Nat × Nat × List Value)}, ck_os t l = true → ∀ q ∈ l, ev_g t q.1 = some (.inr (q.2.1, q.2.2))
  | [], _, q, hq => by cases hq
  | x :: r, h, q, hq => by
    have h' : (ck_o t x.1 x.2.1 x.2.2 && ck_os t r) = true := h
    rw [Bool.and_eq_true] at h'
    rcases List.mem_cons.mp hq with e | e
    · rw [e]; exact ck_o_ok h'.1
    · exact ck_os_ok h'.2 q e
def rb (x y : Option Nat) : Bool := match x, y with
  | some a, some b => Nat.beq a b
  | none, none => true
  | _, _ => false
theorem rb_ok {x y : Option Nat} (h : rb x y = true) : x = y := by
  unfold rb at h
  split at h
  · rw [Nat.eq_of_beq_eq_true h]
  · rfl
  · cases h
def rsb (f : Nat → Option Nat) : Nat → List (Option Nat) → Bool
  | _, [] => true
  | i, x :: r => rb (f i) x && rsb f (Nat.succ i) r
theorem rsb_ok {f : Nat → Option Nat} : ∀ {l : List (Option Nat)} {i : Nat}, rsb f i l = true → ∀ j, j < l.length → some (f (i + j)) = l[j]?
  | [], i, _, j, hj => by simp at hj
  | x :: r, i, h, 0, hj => by
    have h' : (rb (f i) x && rsb f (i + 1) r) = true := h
    rw [Bool.and_eq_true] at h'
    simp [rb_ok h'.1]
  | x :: r, i, h, j + 1, hj => by
    have h' : (rb (f i) x && rsb f (i + 1) r) = true := h
    rw [Bool.and_eq_true] at h'
    have h2 := rsb_ok h'.2 j (by simpa using hj)
    rw [show i + (j + 1) = i + 1 + j by omega, h2]
    simp
/-- an array of references as it should be, from its first place on -/
def ck_q (t : ev_T) (a i n : Nat) (l : List (Option Nat)) : Bool := match ev_g t a with
  | some (.inl (j, m, .inr (.inr (.inr (.inr f))))) => (Nat.beq j i && Nat.beq m n) && rsb f 0 l
  | _ => false
theorem ck_q_ok {t : ev_T} {a i n : Nat} {l : List (Option Nat)} (h : ck_q t a i n l = true) : ∃ f : Nat → Option Nat, ev_g t a = some (.inl (i, n, .inr (.inr (.inr (.inr f))))) ∧ ∀ j, j < l.length → some (f j) = l[j]? := by
  unfold ck_q at h
  split at h
  · rename_i j m f hg
    simp only [Bool.and_eq_true] at h
    obtain ⟨⟨h1, h2⟩, h3⟩ := h
    refine ⟨f, by rw [hg, Nat.eq_of_beq_eq_true h1, Nat.eq_of_beq_eq_true h2], fun j hj => ?_⟩
    have := rsb_ok h3 j hj
    rw [Nat.zero_add] at this
    exact this
  · cases h
/-- a run and a check of what it leaves -/
def ck_r (r : Option (Option Value × ev_S)) (c : Option Value → ev_S → Bool) : Bool := match r with
  | some (v, τ) => c v τ
  | none => false
theorem ck_r_ok {r : Option (Option Value × ev_S)} {c : Option Value → ev_S → Bool} (h : ck_r r c = true) : ∃ v τ, r = some (v, τ) ∧ c v τ = true := by
  unfold ck_r at h
  split at h
  · exact ⟨_, _, rfl, h⟩
  · cases h
