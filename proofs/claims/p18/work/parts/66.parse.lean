/-! the tokens of a drawing, by segments -/
def tk_n (L n m : Nat) : Nat := 79 + 11 * (L - 1) + 13 * (n + m)
noncomputable def tk_at (l : List Nat) (j : Nat) : Nat := Nat.rec (motive := fun _ => List Nat → Nat) (fun l => List.rec (motive := fun _ => Nat) 0 (fun x _ _ => x) l) (fun _ ih l => List.rec (motive := fun _ => Nat) 0 (fun _ r _ => ih r) l) j l
def tk_s0 : List Nat := [221, 2, 59, 253, 2, 61, 246, 234, 2, 58, 220, 59, 210, 59]
def tk_s1 : List Nat := [253, 2, 61, 2, 234, 2, 58, 220, 59, 210, 59]
def tk_s2 : List Nat := [253, 2, 8, 2, 59]
def tk_s3 : List Nat := [253, 2, 61, 243, 201, 91, 3, 4, 3, 93, 235, 2, 59]
def tk_s4 : List Nat := [210, 2, 46, 221, 2, 59, 219, 2, 59, 245, 2, 46, 2, 8, 2, 46, 2, 59, 210, 2, 46, 221, 2, 59, 219, 2, 44, 2, 59, 210, 2, 46, 228, 2, 59, 245, 2, 61, 2, 234, 2, 58, 220, 59, 210, 59, 202, 210, 2, 46, 228, 2, 59, 219, 2, 59, 202, 210, 2, 46]
/-- kinds of the tokens -/
noncomputable def tk_kd (L n m j : Nat) : Nat := bif Nat.ble 14 j then (bif Nat.ble (14 + 11 * (L - 1)) j then (bif Nat.ble (19 + 11 * (L - 1)) j then (bif Nat.ble (19 + 11 * (L - 1) + 13 * (n + m)) j then tk_at tk_s4 (j - (19 + 11 * (L - 1) + 13 * (n + m))) else tk_at tk_s3 (Nat.mod (j - (19 + 11 * (L - 1))) 13)) else tk_at tk_s2 (j - (14 + 11 * (L - 1)))) else tk_at tk_s1 (Nat.mod (j - 14) 11)) else tk_at tk_s0 j
def tk_r (base off n k i : Nat) : Nat := bif Nat.beq i 1 then base + k else bif Nat.beq i 8 then off + k else bif Nat.beq i 11 then base + Nat.mod (k + 1) n else 0
def tk_l (k i : Nat) : Nat := bif Nat.beq i 1 then 2 * k + 1 else bif Nat.beq i 3 then 2 * k - 1 else bif Nat.beq i 5 then 2 * k + 2 else 0
def tk_t (L N i : Nat) : Nat := bif Nat.beq i 4 then N else bif Nat.beq i 12 then 2 * L + 1 else bif Nat.beq i 16 then 1011 else bif Nat.beq i 19 then N else bif Nat.beq i 22 then N + 1 else bif Nat.beq i 27 then N else bif Nat.beq i 30 then N + 1 else bif Nat.beq i 36 then 2 * L + 1 else bif Nat.beq i 38 then 1010 else bif Nat.beq i 40 then N + 2 else bif Nat.beq i 51 then N + 3 else bif Nat.beq i 58 then N + 3 else 0
/-- values of the tokens: names' numbers; from 1000 on what is drawn -/
def tk_vl (L n m j : Nat) : Nat := bif Nat.ble 14 j then (bif Nat.ble (14 + 11 * (L - 1)) j then (bif Nat.ble (19 + 11 * (L - 1)) j then (bif Nat.ble (19 + 11 * (L - 1) + 13 * n) j then (bif Nat.ble (19 + 11 * (L - 1) + 13 * (n + m)) j then tk_t L (2 * L + 2 + n + m) (j - (19 + 11 * (L - 1) + 13 * (n + m))) else tk_r (2 * L + 2 + n) 1005 m (Nat.div (j - (19 + 11 * (L - 1) + 13 * n)) 13) (Nat.mod (j - (19 + 11 * (L - 1))) 13)) else tk_r (2 * L + 2) 1001 n (Nat.div (j - (19 + 11 * (L - 1))) 13) (Nat.mod (j - (19 + 11 * (L - 1))) 13)) else (bif Nat.beq (j - (14 + 11 * (L - 1))) 1 then 2 * L + 1 else bif Nat.beq (j - (14 + 11 * (L - 1))) 3 then 1009 else 0)) else tk_l (Nat.div (j - 14) 11 + 1) (Nat.mod (j - 14) 11)) else (bif Nat.beq j 4 then 1 else bif Nat.beq j 8 then 2 else 0)
def tk_z (x : Nat) : Int64 := bif Nat.ble 1000 x then ev_tg1 (.float (UInt32.ofNat x)) else (Int32.ofNat x).toInt64
noncomputable def ps_K (L n m j : Nat) : Int64 := bif Nat.ble j (tk_n L n m) then tk_z (tk_kd L n m j) else tk_z (10000 + j)
def ps_V (L n m j : Nat) : Int64 := bif Nat.ble (j + 1) (tk_n L n m) then tk_z (tk_vl L n m j) else tk_z (20000 + j)
def ps_L (j : Nat) : Int64 := tk_z (30000 + j)
/-- the heap ahead of parse -/
noncomputable def ps_h (L n m : Nat) : ev_T := ev_p (ev_p (ev_p (ev_p (ev_p (ev_p (ev_p (ev_p (ev_p (ev_p (ev_p ev_mt 1 (.inr (10, [.ref 2, .int 0, .ref 3, .ref 11, .null]))) 3 (.inr (7, [.ref 4, .ref 5, .ref 6, .int (Int32.ofNat (tk_n L n m)), .ref 2, .float 1012, .float 1013, .float 1014, .ref 7, .ref 8, .ref 9, .ref 10, .float 1015]))) 4 (.inl (0, 6001, .inr (.inl fun j => ps_K L n m j)))) 5 (.inl (0, 6001, .inr (.inl fun j => ps_V L n m j)))) 6 (.inl (0, 6001, .inr (.inl fun j => ps_L j)))) 21 (.inr (6, [.ref 3, .int 0, .int 0, .int 0, .ref 22, .ref 23, .int 0, .null, .null, .null, .int 0, .null, .null, .ref 26, .null, .null, .null, .ref 24, .ref 25, .ref 26]))) 22 (.inl (0, 4, .inr (.inl fun _ => 0)))) 23 (.inl (0, 200, .inr (.inl fun _ => 0)))) 24 (.inr (4, [.int 10, .int 0, .int 0, .null, .int 0, .int 0, .null, .null, .null, .null, .null, .null, .null, .null, .int 0, .int (-1), .null, .int 0, .ref 25, .null]))) 25 (.inr (4, [.int 0, .int 1, .int 0, .null, .int 0, .int 0, .null, .null, .null, .null, .null, .null, .null, .null, .int 0, .int (-1), .null, .int 0, .ref 26, .null]))) 26 (.inr (4, [.int 1, .int 2, .int 0, .null, .int 0, .int 0, .null, .null, .null, .null, .null, .null, .null, .null, .int 0, .int (-1), .null, .int 0, .null, .null]))
noncomputable def ps_r (L n m : Nat) : Option (Option Value × ev_S) := ev_run (fun _ _ _ _ => none) 1000000 60 40 [.ref 21] 27 (ps_h L n m)

/-- what a run leaves, flat -/
def fl_ok (t : ev_T) (sz : Nat) : Bool := Nat.ble sz 256 && (List.range 256).all fun a => match ev_g t a with | some (.inr (ci, ws)) => Nat.beq ws.length (fl_n ci) && (Nat.ble (fl_n ci) 32 && Nat.ble (a + 1) sz) | _ => true
def fl_cl (t : ev_T) (c a : Nat) : Bool := match ev_g t a with | some (.inr (ci, _)) => Nat.beq ci c | _ => false
def fl_fd (lf : UInt32 → Int32) (t : ev_T) (a g : Nat) : Value := match ev_g t a with | some (.inr (_, ws)) => gl_v lf ((ws[Nat.mod g 32]?).getD .null) | _ => .null
def fl_of (lf : UInt32 → Int32) (t : ev_T) (sz c s : Nat) : fl_S := (fl_cl t, fl_fd lf t, fun _ => none, fun _ => none, fun _ => none, sz, c, s)
theorem fl_of_l {lf : UInt32 → Int32} {t : ev_T} {sz a ci : Nat} {ws : List Value} (h : fl_ok t sz = true) (hg : ev_g t a = some (.inr (ci, ws))) (ha : a < 256) : a < sz ∧ fl_l (fl_fd lf t) ci a = ws.map (gl_v lf) := by
  unfold fl_ok at h
  simp only [Bool.and_eq_true, List.all_eq_true, List.mem_range] at h
  have h1 := h.2 a ha
  rw [hg] at h1
  simp only [Bool.and_eq_true] at h1
  obtain ⟨e1, e2, e3⟩ := h1
  have e1 := Nat.eq_of_beq_eq_true e1
  have e2 := Nat.le_of_ble_eq_true e2
  refine ⟨Nat.le_of_ble_eq_true e3, ?_⟩
  apply List.ext_getElem?
  intro i
  rw [fl_at, List.getElem?_map]
  by_cases hi : i < fl_n ci
  · rw [if_pos hi]
    unfold fl_fd
    rw [hg, show Nat.mod (ci * 32 + i) 32 = i from by show (ci * 32 + i) % 32 = i; omega]
    show some (gl_v lf ((ws[i]?).getD .null)) = _
    rw [List.getElem?_eq_getElem (by omega)]
    rfl
  · rw [if_neg hi, List.getElem?_eq_none (by omega)]
    rfl
theorem fl_of_C {t : ev_T} {c a : Nat} (h : fl_cl t c a = true) : a < 256 ∧ ∃ ws, ev_g t a = some (.inr (c, ws)) := by
  unfold fl_cl at h
  match hg : ev_g t a, h with
  | some (.inr (ci, ws)), h =>
    have := Nat.eq_of_beq_eq_true h
    subst this
    refine ⟨?_, ws, rfl⟩
    cases hb : Nat.ble a 255 with
    | true => exact Nat.lt_succ_of_le (Nat.le_of_ble_eq_true hb)
    | false => unfold ev_g at hg; rw [show Nat.ble a (nat_lit 255) = false from hb] at hg; cases hg
section GLP
variable {l : Launch} {D : va_G} {dA : Nat → ClassId} {B : ev_B}
/-- a run from a flat picture on, told flat -/
theorem gl_runs {lf : UInt32 → Int32} {N d k : Nat} {as : List Value} {σ : fl_S} {h : ev_T} {τ : ev_S}
    (hs : as.map (ev_v (B.1, lf, B.2.2)) = as.map (ev_v B))
    (hO : ∀ a ci ws, ev_g h a = some (.inr (ci, ws)) → sC σ ci a = true ∧ fl_l (sF σ) ci a = ws.map (gl_v lf))
    (hA : ∀ a i y, ev_g h a = some (.inl (i, y)) → i = 0 ∧ ∃ n g f, y = (n, .inr (.inl g)) ∧ sI σ a = some (n, f) ∧ ∀ j, j < n → ev_iv (B.1, lf, B.2.2) (g j) = f j)
    (hr : ev_run (fun _ _ _ _ => none) N (d + 1) k as (sZ σ) h = some (none, τ)) (hk : fl_ok τ.2.1 τ.1 = true) :
    CF (gl_X l D dA B) (d + 1) k as σ none (fl_of lf τ.2.1 τ.1 (sc σ + τ.2.2.1) (ss σ + τ.2.2.2)) := by
  refine gl_run hs rfl hO hA hr rfl rfl rfl ?_ ?_ (fun _ => rfl) (fun _ => rfl) (fun _ => rfl)
  · unfold fl_ok at hk
    simp only [Bool.and_eq_true] at hk
    exact Nat.le_of_ble_eq_true hk.1
  · intro ci a ha
    obtain ⟨h1, ws, h2⟩ := fl_of_C ha
    obtain ⟨h3, h4⟩ := fl_of_l (lf := lf) hk h2 h1
    exact ⟨h3, ws, h2, h4⟩
end GLP
