def ev_ldi (lv : ev_L) (i pc len : Nat) (st : List Value) : Option (Nat × ev_L × List Value) := match ev_lk lv i with
  | some (.int x) => some (pc + len, lv, .int x :: st)
  | some (.float x) => some (pc + len, lv, .float x :: st)
  | _ => none
def ev_ldl (lv : ev_L) (i pc len : Nat) (st : List Value) : Option (Nat × ev_L × List Value) := match ev_lk lv i with
  | some (.long x) => some (pc + len, lv, .long x :: st)
  | _ => none
def ev_lda (lv : ev_L) (i pc len : Nat) (st : List Value) : Option (Nat × ev_L × List Value) := match ev_lk lv i with
  | some (.ref x) => some (pc + len, lv, .ref x :: st)
  | some .null => some (pc + len, lv, .null :: st)
  | some (.retAddr x) => some (pc + len, lv, .retAddr x :: st)
  | _ => none
def ev_sti (lv : ev_L) (nL i pc len : Nat) (st : List Value) : Option (Nat × ev_L × List Value) := match st with
  | .int x :: r => ev_if (Nat.ble (i + 1) nL) (some (pc + len, ev_st1 lv i (.int x), r))
  | .float x :: r => ev_if (Nat.ble (i + 1) nL) (some (pc + len, ev_st1 lv i (.float x), r))
  | _ => none
def ev_stl (lv : ev_L) (nL i pc len : Nat) (st : List Value) : Option (Nat × ev_L × List Value) := match st with
  | .long x :: r => ev_if (Nat.ble (i + 2) nL) (some (pc + len, ev_st2 lv i (.long x), r))
  | _ => none
def ev_sta (lv : ev_L) (nL i pc len : Nat) (st : List Value) : Option (Nat × ev_L × List Value) := match st with
  | .ref x :: r => ev_if (Nat.ble (i + 1) nL) (some (pc + len, ev_st1 lv i (.ref x), r))
  | .null :: r => ev_if (Nat.ble (i + 1) nL) (some (pc + len, ev_st1 lv i .null, r))
  | .retAddr x :: r => ev_if (Nat.ble (i + 1) nL) (some (pc + len, ev_st1 lv i (.retAddr x), r))
  | _ => none
/-- instructions on locals -/
def ev_xl (i : Instr) (len pc nL : Nat) (lv : ev_L) (st : List Value) : Option (Nat × ev_L × List Value) := match i with
  | .iload k => ev_if (Nat.beq len 2) (ev_ldi lv k pc 2 st)
  | .iload_n k => ev_if (Nat.beq len 1) (ev_ldi lv k pc 1 st)
  | .lload k => ev_if (Nat.beq len 2) (ev_ldl lv k pc 2 st)
  | .lload_n k => ev_if (Nat.beq len 1) (ev_ldl lv k pc 1 st)
  | .aload k => ev_if (Nat.beq len 2) (ev_lda lv k pc 2 st)
  | .aload_n k => ev_if (Nat.beq len 1) (ev_lda lv k pc 1 st)
  | .istore k => ev_if (Nat.beq len 2) (ev_sti lv nL k pc 2 st)
  | .istore_n k => ev_if (Nat.beq len 1) (ev_sti lv nL k pc 1 st)
  | .lstore k => ev_if (Nat.beq len 2) (ev_stl lv nL k pc 2 st)
  | .lstore_n k => ev_if (Nat.beq len 1) (ev_stl lv nL k pc 1 st)
  | .astore k => ev_if (Nat.beq len 2) (ev_sta lv nL k pc 2 st)
  | .astore_n k => ev_if (Nat.beq len 1) (ev_sta lv nL k pc 1 st)
  | .iinc k n => match ev_lk lv k with
    | some (.int x) => ev_if (Nat.beq len 3 && Nat.ble (k + 1) nL) (some (pc + 3, ev_st1 lv k (.int (x + Int32.ofInt n)), st))
    | _ => none
  | _ => none
section EVL
variable {p : Program} {l : Launch} {e : Env} {R : Room} {s : State} {m : MethodId} {args : Array Value} {below : List Frame} {meth : Method} {c : Code} {H : Heap} {locs : List Loc} {cells slots : Nat} {Q : State → Prop}
variable {cc : ByteArray} {pc nL : Nat} {ls : Array Slot}
theorem ev_at {B : ev_B} {lv : ev_L} {i : Nat} {v : Value} (hl : lv_has ls nL (ev_lB B lv)) (h : ev_lk lv i = some v) : ls[i]? = some (.val (ev_v B v)) := by
  obtain ⟨k, hk⟩ := ev_lk_at (B := B) h
  exact lv_at hl k hk
theorem ev_xl_ok (hx : p.tables.exec = Jvm.exec) (hb : c.code = cc) {i : Instr} {len pc' : Nat} {lv lv' : ev_L} {st st' : List Value} (hd : decode cc pc = .ok (i, len)) (B : ev_B) (hl : lv_has ls nL (ev_lB B lv)) (h : ev_xl i len pc nL lv st = some (pc', lv', st'))
    (k : ∀ ls' : Array Slot, lv_has ls' nL (ev_lB B lv') → W p l e R s m args below meth c H locs cells slots Q (F0 m pc' ls' (st'.map (ev_v B)))) : W p l e R s m args below meth c H locs cells slots Q (F0 m pc ls (st.map (ev_v B))) := by
  unfold ev_xl at h
  split at h
  · have h1 := (ev_if_ok h).1; replace h := (ev_if_ok h).2; cases ev_beq h1; unfold ev_ldi at h; split at h
    · rename_i x hq; cases h
      exact lv_iload hx hb hd (ev_at hl hq) (k ls hl)
    · rename_i x hq; cases h
      exact lv_iload hx hb hd (ev_at hl hq) (k ls hl)
    · cases h
  · have h1 := (ev_if_ok h).1; replace h := (ev_if_ok h).2; cases ev_beq h1; unfold ev_ldi at h; split at h
    · rename_i x hq; cases h
      exact lv_iload_n hx hb hd rfl (ev_at hl hq) (k ls hl)
    · rename_i x hq; cases h
      exact lv_iload_n hx hb hd rfl (ev_at hl hq) (k ls hl)
    · cases h
  · have h1 := (ev_if_ok h).1; replace h := (ev_if_ok h).2; cases ev_beq h1; unfold ev_ldl at h; split at h
    · rename_i x hq; cases h
      exact lv_lload hx hb hd (ev_at hl hq) (k ls hl)
    · cases h
  · have h1 := (ev_if_ok h).1; replace h := (ev_if_ok h).2; cases ev_beq h1; unfold ev_ldl at h; split at h
    · rename_i x hq; cases h
      exact lv_lload_n hx hb hd rfl (ev_at hl hq) (k ls hl)
    · cases h
  · have h1 := (ev_if_ok h).1; replace h := (ev_if_ok h).2; cases ev_beq h1; unfold ev_lda at h; split at h
    · rename_i x hq; cases h
      exact lv_aload hx hb hd (ev_at hl hq) (k ls hl)
    · rename_i hq; cases h
      exact lv_aloadN hx hb hd (ev_at hl hq) (k ls hl)
    · rename_i x hq; cases h
      have h1 := ev_at hl hq
      have h2 := k ls hl
      rw [List.map_cons, show ev_v B (.retAddr x) = va_rf (B.2.2 x) from rfl] at h2
      rw [show ev_v B (.retAddr x) = va_rf (B.2.2 x) from rfl] at h1
      cases hq9 : B.2.2 x with
      | none => rw [hq9] at h1 h2; exact lv_aloadN hx hb hd h1 h2
      | some y => rw [hq9] at h1 h2; exact lv_aload hx hb hd h1 h2
    · cases h
  · have h1 := (ev_if_ok h).1; replace h := (ev_if_ok h).2; cases ev_beq h1; unfold ev_lda at h; split at h
    · rename_i x hq; cases h
      exact lv_aload_n hx hb hd rfl (ev_at hl hq) (k ls hl)
    · rename_i hq; cases h
      exact lv_aload_nN hx hb hd rfl (ev_at hl hq) (k ls hl)
    · rename_i x hq; cases h
      have h1 := ev_at hl hq
      have h2 := k ls hl
      rw [List.map_cons, show ev_v B (.retAddr x) = va_rf (B.2.2 x) from rfl] at h2
      rw [show ev_v B (.retAddr x) = va_rf (B.2.2 x) from rfl] at h1
      cases hq9 : B.2.2 x with
      | none => rw [hq9] at h1 h2; exact lv_aload_nN hx hb hd rfl h1 h2
      | some y => rw [hq9] at h1 h2; exact lv_aload_n hx hb hd rfl h1 h2
    · cases h
  · have h1 := (ev_if_ok h).1; replace h := (ev_if_ok h).2; cases ev_beq h1; unfold ev_sti at h; split at h
    · obtain ⟨h2, h4⟩ := ev_if_ok h; simp only [Option.some.injEq, Prod.mk.injEq] at h4; obtain ⟨rfl, rfl, rfl⟩ := h4
      exact lv_istore hx hb hd hl (Nat.le_of_ble_eq_true h2) (ev_st1_B B lv _ (.int _)) k
    · obtain ⟨h2, h4⟩ := ev_if_ok h; simp only [Option.some.injEq, Prod.mk.injEq] at h4; obtain ⟨rfl, rfl, rfl⟩ := h4
      exact lv_istore hx hb hd hl (Nat.le_of_ble_eq_true h2) (ev_st1_B B lv _ (.float _)) k
    · cases h
  · have h1 := (ev_if_ok h).1; replace h := (ev_if_ok h).2; cases ev_beq h1; unfold ev_sti at h; split at h
    · obtain ⟨h2, h4⟩ := ev_if_ok h; simp only [Option.some.injEq, Prod.mk.injEq] at h4; obtain ⟨rfl, rfl, rfl⟩ := h4
      exact lv_istore_n hx hb hd rfl hl (Nat.le_of_ble_eq_true h2) (ev_st1_B B lv _ (.int _)) k
    · obtain ⟨h2, h4⟩ := ev_if_ok h; simp only [Option.some.injEq, Prod.mk.injEq] at h4; obtain ⟨rfl, rfl, rfl⟩ := h4
      exact lv_istore_n hx hb hd rfl hl (Nat.le_of_ble_eq_true h2) (ev_st1_B B lv _ (.float _)) k
    · cases h
  · have h1 := (ev_if_ok h).1; replace h := (ev_if_ok h).2; cases ev_beq h1; unfold ev_stl at h; split at h
    · obtain ⟨h2, h4⟩ := ev_if_ok h; simp only [Option.some.injEq, Prod.mk.injEq] at h4; obtain ⟨rfl, rfl, rfl⟩ := h4
      exact lv_lstore hx hb hd hl (Nat.le_of_ble_eq_true h2) (ev_st2_B B lv _ (.long _)) k
    · cases h
  · have h1 := (ev_if_ok h).1; replace h := (ev_if_ok h).2; cases ev_beq h1; unfold ev_stl at h; split at h
    · obtain ⟨h2, h4⟩ := ev_if_ok h; simp only [Option.some.injEq, Prod.mk.injEq] at h4; obtain ⟨rfl, rfl, rfl⟩ := h4
      exact lv_lstore_n hx hb hd rfl hl (Nat.le_of_ble_eq_true h2) (ev_st2_B B lv _ (.long _)) k
    · cases h
  · have h1 := (ev_if_ok h).1; replace h := (ev_if_ok h).2; cases ev_beq h1; unfold ev_sta at h; split at h
    · obtain ⟨h2, h4⟩ := ev_if_ok h; simp only [Option.some.injEq, Prod.mk.injEq] at h4; obtain ⟨rfl, rfl, rfl⟩ := h4
      exact lv_astore hx hb hd hl (Nat.le_of_ble_eq_true h2) (ev_st1_B B lv _ (.ref _)) k
    · obtain ⟨h2, h4⟩ := ev_if_ok h; simp only [Option.some.injEq, Prod.mk.injEq] at h4; obtain ⟨rfl, rfl, rfl⟩ := h4
      exact lv_astoreN hx hb hd hl (Nat.le_of_ble_eq_true h2) (ev_st1_B B lv _ .null) k
    · rename_i x r
      obtain ⟨h2, h4⟩ := ev_if_ok h; simp only [Option.some.injEq, Prod.mk.injEq] at h4; obtain ⟨rfl, rfl, rfl⟩ := h4
      show W p l e R s m args below meth c H locs cells slots Q (F0 m pc ls (va_rf (B.2.2 x) :: r.map (ev_v B)))
      cases hq9 : B.2.2 x with
      | none => exact lv_astoreN hx hb hd hl (Nat.le_of_ble_eq_true h2) (ev_st1_rN hq9) k
      | some y => exact lv_astore hx hb hd hl (Nat.le_of_ble_eq_true h2) (ev_st1_rS hq9) k
    · cases h
  · have h1 := (ev_if_ok h).1; replace h := (ev_if_ok h).2; cases ev_beq h1; unfold ev_sta at h; split at h
    · obtain ⟨h2, h4⟩ := ev_if_ok h; simp only [Option.some.injEq, Prod.mk.injEq] at h4; obtain ⟨rfl, rfl, rfl⟩ := h4
      exact lv_astore_n hx hb hd rfl hl (Nat.le_of_ble_eq_true h2) (ev_st1_B B lv _ (.ref _)) k
    · obtain ⟨h2, h4⟩ := ev_if_ok h; simp only [Option.some.injEq, Prod.mk.injEq] at h4; obtain ⟨rfl, rfl, rfl⟩ := h4
      exact lv_astore_nN hx hb hd rfl hl (Nat.le_of_ble_eq_true h2) (ev_st1_B B lv _ .null) k
    · rename_i x r
      obtain ⟨h2, h4⟩ := ev_if_ok h; simp only [Option.some.injEq, Prod.mk.injEq] at h4; obtain ⟨rfl, rfl, rfl⟩ := h4
      show W p l e R s m args below meth c H locs cells slots Q (F0 m pc ls (va_rf (B.2.2 x) :: r.map (ev_v B)))
      cases hq9 : B.2.2 x with
      | none => exact lv_astore_nN hx hb hd rfl hl (Nat.le_of_ble_eq_true h2) (ev_st1_rN hq9) k
      | some y => exact lv_astore_n hx hb hd rfl hl (Nat.le_of_ble_eq_true h2) (ev_st1_rS hq9) k
    · cases h
  · split at h
    · rename_i x hq
      obtain ⟨h1, h4⟩ := ev_if_ok h; simp only [Option.some.injEq, Prod.mk.injEq] at h4; obtain ⟨rfl, rfl, rfl⟩ := h4
      rw [Bool.and_eq_true] at h1
      obtain ⟨h1, h2⟩ := h1; cases ev_beq h1
      obtain ⟨j, hj⟩ := ev_lk_at (B := B) hq
      exact lv_iinc hx hb hd hl hj rfl (Nat.le_of_ble_eq_true h2) (ev_st1_B B lv _ (.int _)) k
    · cases h
  · cases h
end EVL
