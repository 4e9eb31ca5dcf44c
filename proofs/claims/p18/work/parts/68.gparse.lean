/-! the contract of parse -/
theorem gp_or {t : ev_T} {q a : Nat} {x y : va_E} (hq : q < 256) (h : ev_g (ev_p t q x) a = some y) : (a = q ∧ y = x) ∨ ev_g t a = some y := by
  rw [ev_gp hq] at h
  by_cases e : a = q
  · rw [if_pos e] at h
    exact Or.inl ⟨e, (Option.some.inj h).symm⟩
  · rw [if_neg e] at h
    exact Or.inr h
theorem gp_mt {a : Nat} {y : va_E} (h : ev_g ev_mt a = some y) : False := by
  rw [ev_g_mt] at h
  cases h
theorem ps_get {L n m : Nat} {x : Option (Option Value × ev_S)} (h : ps_ck L n m x = true) : ∃ τ, x = some (none, τ) ∧ fl_ok τ.2.1 τ.1 = true ∧ wB L n m τ.2.1 = true ∧ τ.1 = ps_z L n m ∧ τ.2.2.1 ≤ 128 ∧ τ.2.2.2 ≤ 4096 := by
  obtain _ | ⟨v, τ⟩ := x
  · exact absurd (show false = true from h) Bool.false_ne_true
  · obtain _ | v := v
    · have h' : (fl_ok τ.2.1 τ.1 && (wB L n m τ.2.1 && (Nat.beq τ.1 (ps_z L n m) && (Nat.ble τ.2.2.1 128 && Nat.ble τ.2.2.2 4096)))) = true := h
      clear h
      rw [Bool.and_eq_true, Bool.and_eq_true, Bool.and_eq_true, Bool.and_eq_true] at h'
      exact ⟨τ, rfl, h'.1, h'.2.1, Nat.eq_of_beq_eq_true h'.2.2.1, Nat.le_of_ble_eq_true h'.2.2.2.1, Nat.le_of_ble_eq_true h'.2.2.2.2⟩
    · exact absurd (show false = true from h) Bool.false_ne_true
theorem ps_all {L n m : Nat} (hL : 2 ≤ L ∧ L ≤ 5) (hn : 1 ≤ n ∧ n ≤ 4) (hm : 1 ≤ m ∧ m ≤ 4) : ps_ck L n m (ps_r L n m) = true := by
  obtain rfl | rfl | rfl | rfl : L = 2 ∨ L = 3 ∨ L = 4 ∨ L = 5 := by omega
  · exact ps_2 hn hm
  · exact ps_3 hn hm
  · exact ps_4 hn hm
  · exact ps_5 hn hm
theorem tk_z_iv {B : ev_B} {x : Nat} : ev_iv B (tk_z x) = bif Nat.ble 1000 x then B.2.1 (UInt32.ofNat x) else Int32.ofNat x := by
  unfold tk_z
  cases Nat.ble 1000 x with
  | true => exact ev_iv_leaf B _
  | false => exact ev_iv_int B _
def pc_1 : List Value := [.ref 2, .int 0, .ref 3, .ref 11, .null]
def pc_3 (L n m : Nat) : List Value := [.ref 4, .ref 5, .ref 6, .int (Int32.ofNat (tk_n L n m)), .ref 2, .float 1012, .float 1013, .float 1014, .ref 7, .ref 8, .ref 9, .ref 10, .float 1015]
def pc_21 : List Value := [.ref 3, .int 0, .int 0, .int 0, .ref 22, .ref 23, .int 0, .null, .null, .null, .int 0, .null, .null, .ref 26, .null, .null, .null, .ref 24, .ref 25, .ref 26]
def pc_24 : List Value := [.int 10, .int 0, .int 0, .null, .int 0, .int 0, .null, .null, .null, .null, .null, .null, .null, .null, .int 0, .int (-1), .null, .int 0, .ref 25, .null]
def pc_25 : List Value := [.int 0, .int 1, .int 0, .null, .int 0, .int 0, .null, .null, .null, .null, .null, .null, .null, .null, .int 0, .int (-1), .null, .int 0, .ref 26, .null]
def pc_26 : List Value := [.int 1, .int 2, .int 0, .null, .int 0, .int 0, .null, .null, .null, .null, .null, .null, .null, .null, .int 0, .int (-1), .null, .int 0, .null, .null]
section GLQ
variable {l : Launch} {D : va_G} {dA : Nat → ClassId} {B : ev_B}
theorem g_parse {lf : UInt32 → Int32} {L n m : Nat} {σ : fl_S} {K V I O W : Nat → Int32} (hL : 2 ≤ L ∧ L ≤ 5) (hn : 1 ≤ n ∧ n ≤ 4) (hm : 1 ≤ m ∧ m ≤ 4) (hz : sZ σ = 27)
    (c1 : sC σ 10 1 = true ∧ fl_l (sF σ) 10 1 = pc_1.map (gl_v lf)) (c3 : sC σ 7 3 = true ∧ fl_l (sF σ) 7 3 = (pc_3 L n m).map (gl_v lf)) (c21 : sC σ 6 21 = true ∧ fl_l (sF σ) 6 21 = pc_21.map (gl_v lf)) (c24 : sC σ 4 24 = true ∧ fl_l (sF σ) 4 24 = pc_24.map (gl_v lf)) (c25 : sC σ 4 25 = true ∧ fl_l (sF σ) 4 25 = pc_25.map (gl_v lf)) (c26 : sC σ 4 26 = true ∧ fl_l (sF σ) 4 26 = pc_26.map (gl_v lf))
    (aK : sI σ 4 = some (6001, K)) (aV : sI σ 5 = some (6001, V)) (aI : sI σ 6 = some (6001, I)) (aO : sI σ 22 = some (4, O)) (aW : sI σ 23 = some (200, W))
    (hK : ∀ j, j < 6001 → ev_iv (B.1, lf, B.2.2) (ps_K L n m j) = K j) (hV : ∀ j, j < 6001 → ev_iv (B.1, lf, B.2.2) (ps_V L n m j) = V j) (hI : ∀ j, j < 6001 → ev_iv (B.1, lf, B.2.2) (ps_L j) = I j) (hO : ∀ j, j < 4 → O j = 0) (hW : ∀ j, j < 200 → W j = 0) :
    CQ (gl_X l D dA B) 60 40 [.ref 21] σ (fun v σ1 => v = none ∧ Wd lf L n m σ1 ∧ sZ σ1 = ps_z L n m ∧ sc σ1 ≤ sc σ + 128 ∧ ss σ1 ≤ ss σ + 4096) := by
  obtain ⟨τ, hr, hk, hw, h1, h2, h3⟩ := ps_get (ps_all hL hn hm)
  unfold ps_r at hr
  rw [← hz] at hr
  refine (gl_runs (lf := lf) (σ := σ) (h := ps_h L n m) (as := [.ref 21]) rfl ?_ ?_ hr hk).mono ?_
  · intro a ci ws hg
    unfold ps_h at hg
    rcases gp_or (by decide) hg with ⟨rfl, e⟩ | hg
    · cases e; exact c26
    rcases gp_or (by decide) hg with ⟨rfl, e⟩ | hg
    · cases e; exact c25
    rcases gp_or (by decide) hg with ⟨rfl, e⟩ | hg
    · cases e; exact c24
    rcases gp_or (by decide) hg with ⟨rfl, e⟩ | hg
    · cases e
    rcases gp_or (by decide) hg with ⟨rfl, e⟩ | hg
    · cases e
    rcases gp_or (by decide) hg with ⟨rfl, e⟩ | hg
    · cases e; exact c21
    rcases gp_or (by decide) hg with ⟨rfl, e⟩ | hg
    · cases e
    rcases gp_or (by decide) hg with ⟨rfl, e⟩ | hg
    · cases e
    rcases gp_or (by decide) hg with ⟨rfl, e⟩ | hg
    · cases e
    rcases gp_or (by decide) hg with ⟨rfl, e⟩ | hg
    · cases e; exact c3
    rcases gp_or (by decide) hg with ⟨rfl, e⟩ | hg
    · cases e; exact c1
    exact (gp_mt hg).elim
  · intro a i y hg
    unfold ps_h at hg
    have z0 : ev_iv (B.1, lf, B.2.2) 0 = 0 := ev_iv_int (B.1, lf, B.2.2) 0
    rcases gp_or (by decide) hg with ⟨rfl, e⟩ | hg
    · cases e
    rcases gp_or (by decide) hg with ⟨rfl, e⟩ | hg
    · cases e
    rcases gp_or (by decide) hg with ⟨rfl, e⟩ | hg
    · cases e
    rcases gp_or (by decide) hg with ⟨rfl, e⟩ | hg
    · cases e; exact ⟨rfl, 200, _, W, rfl, aW, fun j hj => z0.trans (hW j hj).symm⟩
    rcases gp_or (by decide) hg with ⟨rfl, e⟩ | hg
    · cases e; exact ⟨rfl, 4, _, O, rfl, aO, fun j hj => z0.trans (hO j hj).symm⟩
    rcases gp_or (by decide) hg with ⟨rfl, e⟩ | hg
    · cases e
    rcases gp_or (by decide) hg with ⟨rfl, e⟩ | hg
    · cases e; exact ⟨rfl, 6001, _, I, rfl, aI, hI⟩
    rcases gp_or (by decide) hg with ⟨rfl, e⟩ | hg
    · cases e; exact ⟨rfl, 6001, _, V, rfl, aV, hV⟩
    rcases gp_or (by decide) hg with ⟨rfl, e⟩ | hg
    · cases e; exact ⟨rfl, 6001, _, K, rfl, aK, hK⟩
    rcases gp_or (by decide) hg with ⟨rfl, e⟩ | hg
    · cases e
    rcases gp_or (by decide) hg with ⟨rfl, e⟩ | hg
    · cases e
    exact (gp_mt hg).elim
  · rintro v σ1 ⟨rfl, rfl⟩
    exact ⟨rfl, wB_ok hw, h1, Nat.add_le_add_left h2 _, Nat.add_le_add_left h3 _⟩
end GLQ
