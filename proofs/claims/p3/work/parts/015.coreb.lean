section EVC
variable {p : Program} {l : Launch} {e : Env} {R : Room} {s : State} {m : MethodId} {args : Array Value} {below : List Frame} {meth : Method} {c : Code} {H : Heap} {locs : List Loc} {cells slots : Nat} {Q : State → Prop}
variable {cc : ByteArray} {pc : Nat} {ls : Array Slot}
theorem ev_br_ok {cnd : Bool} {pc off2 : Nat} {off : Int} {st : List Value} {pc' : Nat} {st' : List Value} (h : ev_br cnd pc off2 off st = some (pc', st')) : st' = st ∧ ∃ t : Nat, (pc : Int) + off = (t : Int) ∧ ((cnd = true ∧ pc' = t) ∨ (cnd = false ∧ pc' = pc + off2)) := by
  unfold ev_br at h
  split at h
  · rename_i t ht
    cases cnd with
    | true =>
      cases h
      exact ⟨rfl, _, ev_tg_ok ht, Or.inl ⟨rfl, rfl⟩⟩
    | false =>
      cases h
      exact ⟨rfl, _, ev_tg_ok ht, Or.inr ⟨rfl, rfl⟩⟩
  · cases h
theorem ev_tg_map {pc : Nat} {off : Int} {st : List Value} {pc' : Nat} {st' : List Value} (h : (ev_tg pc off).map (fun t => (t, st)) = some (pc', st')) : st' = st ∧ (pc : Int) + off = (pc' : Int) := by
  cases ht : ev_tg pc off with
  | none => rw [ht] at h; cases h
  | some t =>
    rw [ht] at h
    cases h
    exact ⟨rfl, ev_tg_ok ht⟩
theorem ev_beq_n {a b : Nat} (h : Nat.beq a b = false) : ¬ a = b := fun e => by
  rw [e, Nat.beq_refl] at h
  cases h
theorem ev_so {B a b : Nat} (h : (some (B + a) : Option Nat) = some (B + b)) : a = b := by simpa using h
theorem ev_beq {a b : Nat} (h : Nat.beq a b = true) : a = b := Nat.eq_of_beq_eq_true h
theorem ev_xc_ok (hx : p.tables.exec = Jvm.exec) (hb : c.code = cc) {i : Instr} {len pc' : Nat} {st st' : List Value} (hd : decode cc pc = .ok (i, len)) (B : ev_B) (h : ev_xc i len pc st = some (pc', st'))
    (k : W p l e R s m args below meth c H locs cells slots Q (F0 m pc' ls (st'.map (ev_v B)))) : W p l e R s m args below meth c H locs cells slots Q (F0 m pc ls (st.map (ev_v B))) := by
  unfold ev_xc at h
  split at h
  · obtain ⟨h1, h2⟩ := ev_if_ok h; cases h2; cases ev_beq h1
    exact lv_null hx hb hd k
  · obtain ⟨h1, h2⟩ := ev_if_ok h; cases h2; cases ev_beq h1
    exact lv_iconst hx hb hd rfl k
  · obtain ⟨h1, h2⟩ := ev_if_ok h; cases h2; cases ev_beq h1
    exact lv_bipush hx hb hd rfl k
  · obtain ⟨h1, h2⟩ := ev_if_ok h; cases h2; cases ev_beq h1
    exact lv_sipush hx hb hd rfl k
  · obtain ⟨h1, h2⟩ := ev_if_ok h; cases h2; cases ev_beq h1
    exact lv_lconst hx hb hd rfl k
  · split at h
    · obtain ⟨h1, h2⟩ := ev_if_ok h; cases h2; cases ev_beq h1
      exact lv_iadd hx hb hd k
    · cases h
  · split at h
    · obtain ⟨h1, h2⟩ := ev_if_ok h; cases h2; cases ev_beq h1
      exact lv_isub hx hb hd k
    · cases h
  · split at h
    · obtain ⟨h1, h2⟩ := ev_if_ok h; cases h2; cases ev_beq h1
      exact lv_imul hx hb hd k
    · cases h
  · split at h
    · obtain ⟨h1, h2⟩ := ev_if_ok h; cases h2; cases ev_beq h1
      exact lv_ineg hx hb hd k
    · cases h
  · split at h
    · obtain ⟨h1, h2⟩ := ev_if_ok h; cases h2; cases ev_beq h1
      exact lv_iand hx hb hd k
    · cases h
  · split at h
    · obtain ⟨h1, h2⟩ := ev_if_ok h; cases h2; cases ev_beq h1
      exact lv_ior hx hb hd k
    · cases h
  · split at h
    · obtain ⟨h1, h2⟩ := ev_if_ok h; cases h2; cases ev_beq h1
      exact lv_ixor hx hb hd k
    · cases h
  · split at h
    · obtain ⟨h1, h2⟩ := ev_if_ok h; cases h2; cases ev_beq h1
      exact lv_ishl hx hb hd k
    · cases h
  · split at h
    · obtain ⟨h1, h2⟩ := ev_if_ok h; cases h2; cases ev_beq h1
      exact lv_ishr hx hb hd k
    · cases h
  · split at h
    · obtain ⟨h1, h2⟩ := ev_if_ok h; cases h2; cases ev_beq h1
      exact lv_iushr hx hb hd rfl k
    · cases h
  · split at h
    · obtain ⟨h1, h2⟩ := ev_if_ok h; cases h2
      obtain ⟨h1, h3⟩ := (Bool.and_eq_true _ _ ▸ h1 : _ ∧ _); cases ev_beq h1
      exact lv_irem hx hb hd (by simpa using h3) k
    · cases h
  · split at h
    · obtain ⟨h1, h2⟩ := ev_if_ok h; cases h2; cases ev_beq h1
      exact lv_ladd hx hb hd k
    · cases h
  · split at h
    · obtain ⟨h1, h2⟩ := ev_if_ok h; cases h2; cases ev_beq h1
      exact lv_lsub hx hb hd k
    · cases h
  · split at h
    · obtain ⟨h1, h2⟩ := ev_if_ok h; cases h2; cases ev_beq h1
      exact lv_lmul hx hb hd k
    · cases h
  · split at h
    · obtain ⟨h1, h2⟩ := ev_if_ok h; cases h2; cases ev_beq h1
      exact W.lcmp hx hb hd k
    · cases h
  · split at h
    · obtain ⟨h1, h2⟩ := ev_if_ok h; cases h2; cases ev_beq h1
      exact lv_i2l hx hb hd rfl k
    · cases h
  · split at h
    · obtain ⟨h1, h2⟩ := ev_if_ok h; cases h2; cases ev_beq h1
      exact lv_l2i hx hb hd rfl k
    · cases h
  · split at h
    · obtain ⟨h1, h2⟩ := ev_if_ok h; cases h2; cases ev_beq h1
      exact lv_i2b hx hb hd rfl k
    · cases h
  · split at h
    · obtain ⟨h1, h2⟩ := ev_if_ok h; cases h2; cases ev_beq h1
      exact lv_i2c hx hb hd rfl k
    · cases h
  · split at h
    · obtain ⟨h1, h2⟩ := ev_if_ok h; cases h2
      obtain ⟨h1, h3⟩ := (Bool.and_eq_true _ _ ▸ h1 : _ ∧ _); cases ev_beq h1
      exact lv_dup hx hb hd ((ev_v_cat B _).trans (ev_beq h3)) k
    · cases h
  · split at h
    · obtain ⟨h1, h2⟩ := ev_if_ok h; cases h2
      rw [Bool.and_eq_true, Bool.and_eq_true] at h1
      obtain ⟨h1, h3, h4⟩ := h1; cases ev_beq h1
      exact lv_dup2_11 hx hb hd ((ev_v_cat B _).trans (ev_beq h3)) ((ev_v_cat B _).trans (ev_beq h4)) k
    · cases h
  · split at h
    · obtain ⟨h1, h2⟩ := ev_if_ok h; cases h2
      rw [Bool.and_eq_true] at h1
      obtain ⟨h1, h3⟩ := h1; cases ev_beq h1
      exact lv_pop hx hb hd ((ev_v_cat B _).trans (ev_beq h3)) k
    · cases h
  · obtain ⟨h1, h2⟩ := ev_if_ok h; cases ev_beq h1
    obtain ⟨rfl, ht⟩ := ev_tg_map h2
    exact lv_goto hx hb hd ht k
  · split at h
    · rename_i cnd off _ x r
      obtain ⟨h1, h2⟩ := ev_if_ok h; cases ev_beq h1
      obtain ⟨rfl, t, ht, h3⟩ := ev_br_ok h2
      cases cnd with
      | eq =>
        refine lv_if_eq hx hb hd ht (fun c9 => ?_) (fun c9 => ?_)
        · rcases h3 with ⟨h3, rfl⟩ | ⟨h3, rfl⟩
          · exact k
          · exact absurd c9 (by simpa [Int32.not_le, Int32.not_lt] using h3)
        · rcases h3 with ⟨h3, rfl⟩ | ⟨h3, rfl⟩
          · exact absurd (by simpa [Int32.not_le, Int32.not_lt] using h3) c9
          · exact k
      | ne =>
        refine lv_if_ne hx hb hd ht (fun c9 => ?_) (fun c9 => ?_)
        · rcases h3 with ⟨h3, rfl⟩ | ⟨h3, rfl⟩
          · exact k
          · exact absurd c9 (by simpa [Int32.not_le, Int32.not_lt] using h3)
        · rcases h3 with ⟨h3, rfl⟩ | ⟨h3, rfl⟩
          · exact absurd c9 (by simpa using h3)
          · exact k
      | lt =>
        refine lv_if_lt hx hb hd ht (fun c9 => ?_) (fun c9 => ?_)
        · rcases h3 with ⟨h3, rfl⟩ | ⟨h3, rfl⟩
          · exact k
          · exact absurd c9 (by simpa [Int32.not_le, Int32.not_lt] using h3)
        · rcases h3 with ⟨h3, rfl⟩ | ⟨h3, rfl⟩
          · exact absurd (by simpa [Int32.not_le, Int32.not_lt] using h3) c9
          · exact k
      | ge =>
        refine lv_if_ge hx hb hd ht (fun c9 => ?_) (fun c9 => ?_)
        · rcases h3 with ⟨h3, rfl⟩ | ⟨h3, rfl⟩
          · exact k
          · exact absurd c9 (by simpa [Int32.not_le, Int32.not_lt] using h3)
        · rcases h3 with ⟨h3, rfl⟩ | ⟨h3, rfl⟩
          · exact absurd (by simpa [Int32.not_le, Int32.not_lt] using h3) c9
          · exact k
      | gt =>
        refine lv_if_gt hx hb hd ht (fun c9 => ?_) (fun c9 => ?_)
        · rcases h3 with ⟨h3, rfl⟩ | ⟨h3, rfl⟩
          · exact k
          · exact absurd c9 (by simpa [Int32.not_le, Int32.not_lt] using h3)
        · rcases h3 with ⟨h3, rfl⟩ | ⟨h3, rfl⟩
          · exact absurd (by simpa [Int32.not_le, Int32.not_lt] using h3) c9
          · exact k
      | le =>
        refine lv_if_le hx hb hd ht (fun c9 => ?_) (fun c9 => ?_)
        · rcases h3 with ⟨h3, rfl⟩ | ⟨h3, rfl⟩
          · exact k
          · exact absurd c9 (by simpa [Int32.not_le, Int32.not_lt] using h3)
        · rcases h3 with ⟨h3, rfl⟩ | ⟨h3, rfl⟩
          · exact absurd (by simpa [Int32.not_le, Int32.not_lt] using h3) c9
          · exact k
    · cases h
  · split at h
    · rename_i cnd off _ y x r
      obtain ⟨h1, h2⟩ := ev_if_ok h; cases ev_beq h1
      obtain ⟨rfl, t, ht, h3⟩ := ev_br_ok h2
      cases cnd with
      | eq =>
        refine lv_icmp_eq hx hb hd ht (fun c9 => ?_) (fun c9 => ?_)
        · rcases h3 with ⟨h3, rfl⟩ | ⟨h3, rfl⟩
          · exact k
          · exact absurd c9 (by simpa [Int32.not_le, Int32.not_lt] using h3)
        · rcases h3 with ⟨h3, rfl⟩ | ⟨h3, rfl⟩
          · exact absurd (by simpa [Int32.not_le, Int32.not_lt] using h3) c9
          · exact k
      | ne =>
        refine lv_icmp_ne hx hb hd ht (fun c9 => ?_) (fun c9 => ?_)
        · rcases h3 with ⟨h3, rfl⟩ | ⟨h3, rfl⟩
          · exact k
          · exact absurd c9 (by simpa [Int32.not_le, Int32.not_lt] using h3)
        · rcases h3 with ⟨h3, rfl⟩ | ⟨h3, rfl⟩
          · exact absurd c9 (by simpa using h3)
          · exact k
      | lt =>
        refine lv_icmp_lt hx hb hd ht (fun c9 => ?_) (fun c9 => ?_)
        · rcases h3 with ⟨h3, rfl⟩ | ⟨h3, rfl⟩
          · exact k
          · exact absurd c9 (by simpa [Int32.not_le, Int32.not_lt] using h3)
        · rcases h3 with ⟨h3, rfl⟩ | ⟨h3, rfl⟩
          · exact absurd (by simpa [Int32.not_le, Int32.not_lt] using h3) c9
          · exact k
      | ge =>
        refine lv_icmp_ge hx hb hd ht (fun c9 => ?_) (fun c9 => ?_)
        · rcases h3 with ⟨h3, rfl⟩ | ⟨h3, rfl⟩
          · exact k
          · exact absurd c9 (by simpa [Int32.not_le, Int32.not_lt] using h3)
        · rcases h3 with ⟨h3, rfl⟩ | ⟨h3, rfl⟩
          · exact absurd (by simpa [Int32.not_le, Int32.not_lt] using h3) c9
          · exact k
      | gt =>
        refine lv_icmp_gt hx hb hd ht (fun c9 => ?_) (fun c9 => ?_)
        · rcases h3 with ⟨h3, rfl⟩ | ⟨h3, rfl⟩
          · exact k
          · exact absurd c9 (by simpa [Int32.not_le, Int32.not_lt] using h3)
        · rcases h3 with ⟨h3, rfl⟩ | ⟨h3, rfl⟩
          · exact absurd (by simpa [Int32.not_le, Int32.not_lt] using h3) c9
          · exact k
      | le =>
        refine lv_icmp_le hx hb hd ht (fun c9 => ?_) (fun c9 => ?_)
        · rcases h3 with ⟨h3, rfl⟩ | ⟨h3, rfl⟩
          · exact k
          · exact absurd c9 (by simpa [Int32.not_le, Int32.not_lt] using h3)
        · rcases h3 with ⟨h3, rfl⟩ | ⟨h3, rfl⟩
          · exact absurd (by simpa [Int32.not_le, Int32.not_lt] using h3) c9
          · exact k
    · cases h
  · split at h
    · rename_i cnd off _ y x r
      obtain ⟨h1, h2⟩ := ev_if_ok h; cases ev_beq h1
      obtain ⟨rfl, t, ht, h3⟩ := ev_br_ok h2
      cases cnd with
      | eq =>
        refine lv_acmp_eq (rx := some (B.1 + x)) (ry := some (B.1 + y)) hx hb hd ht (fun c9 => ?_) (fun c9 => ?_)
        · rcases h3 with ⟨h3, rfl⟩ | ⟨h3, rfl⟩
          · exact k
          · exact absurd (ev_so c9) (ev_beq_n (by simpa using h3))
        · rcases h3 with ⟨h3, rfl⟩ | ⟨h3, rfl⟩
          · exact absurd (congrArg (fun z => (some (B.1 + z) : Option Nat)) (ev_beq (a := x) (b := y) (by simpa using h3))) c9
          · exact k
      | ne =>
        refine lv_acmp_ne (rx := some (B.1 + x)) (ry := some (B.1 + y)) hx hb hd ht (fun c9 => ?_) (fun c9 => ?_)
        · rcases h3 with ⟨h3, rfl⟩ | ⟨h3, rfl⟩
          · exact k
          · exact absurd (congrArg (fun z => (some (B.1 + z) : Option Nat)) (ev_beq (a := x) (b := y) (by simpa using h3))) c9
        · rcases h3 with ⟨h3, rfl⟩ | ⟨h3, rfl⟩
          · exact absurd (ev_so c9) (ev_beq_n (by simpa using h3))
          · exact k
    · rename_i cnd off _ z r
      obtain ⟨h1, h2⟩ := ev_if_ok h; cases ev_beq h1
      obtain ⟨rfl, t, ht, h3⟩ := ev_br_ok h2
      cases cnd with
      | eq =>
        refine lv_acmp_eq (rx := some (B.1 + z)) (ry := none) hx hb hd ht (fun c9 => ?_) (fun c9 => ?_)
        · rcases h3 with ⟨h3, rfl⟩ | ⟨h3, rfl⟩
          · exact k
          · exact absurd c9 (by simpa using h3)
        · rcases h3 with ⟨h3, rfl⟩ | ⟨h3, rfl⟩
          · exact absurd (by simpa using h3) c9
          · exact k
      | ne =>
        refine lv_acmp_ne (rx := some (B.1 + z)) (ry := none) hx hb hd ht (fun c9 => ?_) (fun c9 => ?_)
        · rcases h3 with ⟨h3, rfl⟩ | ⟨h3, rfl⟩
          · exact k
          · exact absurd (by simpa using h3) c9
        · rcases h3 with ⟨h3, rfl⟩ | ⟨h3, rfl⟩
          · exact absurd c9 (by simpa using h3)
          · exact k
    · rename_i cnd off _ z r
      obtain ⟨h1, h2⟩ := ev_if_ok h; cases ev_beq h1
      obtain ⟨rfl, t, ht, h3⟩ := ev_br_ok h2
      cases cnd with
      | eq =>
        refine lv_acmp_eq (rx := none) (ry := some (B.1 + z)) hx hb hd ht (fun c9 => ?_) (fun c9 => ?_)
        · rcases h3 with ⟨h3, rfl⟩ | ⟨h3, rfl⟩
          · exact k
          · exact absurd c9 (by simpa using h3)
        · rcases h3 with ⟨h3, rfl⟩ | ⟨h3, rfl⟩
          · exact absurd (by simpa using h3) c9
          · exact k
      | ne =>
        refine lv_acmp_ne (rx := none) (ry := some (B.1 + z)) hx hb hd ht (fun c9 => ?_) (fun c9 => ?_)
        · rcases h3 with ⟨h3, rfl⟩ | ⟨h3, rfl⟩
          · exact k
          · exact absurd (by simpa using h3) c9
        · rcases h3 with ⟨h3, rfl⟩ | ⟨h3, rfl⟩
          · exact absurd c9 (by simpa using h3)
          · exact k
    · rename_i cnd off _ r
      obtain ⟨h1, h2⟩ := ev_if_ok h; cases ev_beq h1
      obtain ⟨rfl, t, ht, h3⟩ := ev_br_ok h2
      cases cnd with
      | eq =>
        refine lv_acmp_eq (rx := none) (ry := none) hx hb hd ht (fun c9 => ?_) (fun c9 => ?_)
        · rcases h3 with ⟨h3, rfl⟩ | ⟨h3, rfl⟩
          · exact k
          · exact absurd c9 (by simpa using h3)
        · rcases h3 with ⟨h3, rfl⟩ | ⟨h3, rfl⟩
          · exact absurd (by simpa using h3) c9
          · exact k
      | ne =>
        refine lv_acmp_ne (rx := none) (ry := none) hx hb hd ht (fun c9 => ?_) (fun c9 => ?_)
        · rcases h3 with ⟨h3, rfl⟩ | ⟨h3, rfl⟩
          · exact k
          · exact absurd (by simpa using h3) c9
        · rcases h3 with ⟨h3, rfl⟩ | ⟨h3, rfl⟩
          · exact absurd c9 (by simpa using h3)
          · exact k
    · cases h
  · split at h
    · obtain ⟨h1, h2⟩ := ev_if_ok h; cases h2; cases ev_beq h1
      exact lv_ifnull hx hb hd k
    · obtain ⟨h1, h2⟩ := ev_if_ok h; cases ev_beq h1
      obtain ⟨rfl, ht⟩ := ev_tg_map h2
      exact lv_ifnullN hx hb hd ht k
    · cases h
  · split at h
    · obtain ⟨h1, h2⟩ := ev_if_ok h; cases h2; cases ev_beq h1
      exact lv_ifnonnullN hx hb hd k
    · obtain ⟨h1, h2⟩ := ev_if_ok h; cases ev_beq h1
      obtain ⟨rfl, ht⟩ := ev_tg_map h2
      exact lv_ifnonnull hx hb hd ht k
    · cases h
  · split at h
    · obtain ⟨h1, h2⟩ := ev_if_ok h
      obtain ⟨rfl, ht⟩ := ev_tg_map h2
      exact lv_lookup hx hb hd h1 rfl ht k
    · cases h
  · split at h
    · rename_i dflt lo hi offs _ x r
      cases hc : (decide (x.toInt < lo) || decide (hi < x.toInt)) with
      | true =>
        rw [hc] at h
        obtain ⟨rfl, ht⟩ := ev_tg_map h
        exact lv_tableOut hx hb hd (by simpa using hc) ht k
      | false =>
        rw [hc] at h
        simp only [cond_false] at h
        split at h
        · rename_i off ho
          obtain ⟨rfl, ht⟩ := ev_tg_map h
          simp only [Bool.or_eq_false_iff, decide_eq_false_iff_not] at hc
          exact lv_tableIn hx hb hd hc.1 hc.2 ho ht k
        · cases h
    · cases h
  · split at h
    · obtain ⟨h1, h2⟩ := ev_if_ok h; cases h2
      obtain ⟨h1, h3⟩ := (Bool.and_eq_true _ _ ▸ h1 : _ ∧ _); cases ev_beq h1
      exact lv_ldiv hx hb hd (by simpa using h3) k
    · cases h
  · split at h
    · obtain ⟨h1, h2⟩ := ev_if_ok h; cases h2
      obtain ⟨h1, h3⟩ := (Bool.and_eq_true _ _ ▸ h1 : _ ∧ _); cases ev_beq h1
      exact lv_lrem hx hb hd (by simpa using h3) k
    · cases h
  · split at h
    · obtain ⟨h1, h2⟩ := ev_if_ok h; cases h2; cases ev_beq h1
      exact lv_lxor hx hb hd k
    · cases h
  · split at h
    · obtain ⟨h1, h2⟩ := ev_if_ok h; cases h2; cases ev_beq h1
      exact lv_lneg hx hb hd k
    · cases h
  · cases h
end EVC
