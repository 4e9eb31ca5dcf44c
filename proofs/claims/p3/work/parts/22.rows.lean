/-! the evaluator's steps as rows, last to first -/
abbrev ev_X : Type := Nat → Nat → List Value → Nat → ev_T → ev_O → ev_S → Prop
abbrev Cd (X : ev_X) (d : Nat) : Nat → List Value → Nat → ev_T → ev_O → ev_S → Prop := ev_C ev_tl ev_oc ev_df ev_ms ev_tb ev_hd X d
def EE (X : ev_X) (d k pc : Nat) (lv : ev_L) (st : List Value) (σ : ev_S) (r : ev_O) (σ' : ev_S) : Prop := ∃ n, ev_Lp ev_tl ev_oc ev_df ev_ms ev_tb ev_hd (Cd X d) k n pc lv st σ r σ'
section ROWS
variable {X : ev_X} {d k pc : Nat} {lv : ev_L} {st rest : List Value} {σ σ' : ev_S} {r : ev_O}
theorem e_meth {as : List Value} {sz : Nat} {t : ev_T} (hl : Nat.ble (lg_sl as).length (ev_ms k).2.2.2.1 = true) (h : EE X d k 0 (lv_args 0 as) [] (sz, t, 0, 0) r σ') : Cd X (d + 1) k as sz t r σ' := Or.inr ⟨hl, h⟩
theorem e_ext {as : List Value} {sz : Nat} {t : ev_T} (h : X (d + 1) k as sz t r σ') : Cd X (d + 1) k as sz t r σ' := Or.inl h
theorem e_xc {e : ev_I} {pc1 : Nat} {st1 : List Value} (hb : ev_tb k pc = some e) (h : ev_xc e.1 e.2.1 pc st = some (pc1, st1)) (next : EE X d k pc1 lv st1 σ r σ') : EE X d k pc lv st σ r σ' := by
  obtain ⟨n, hn⟩ := next
  refine ⟨n + 1, ?_⟩
  unfold ev_Lp
  rw [hb]
  exact Or.inl ⟨_, _, h, hn⟩
theorem e_xl {e : ev_I} {pc1 : Nat} {lv1 : ev_L} {st1 : List Value} (hb : ev_tb k pc = some e) (h : ev_xl e.1 e.2.1 pc (ev_ms k).2.2.2.1 lv st = some (pc1, lv1, st1)) (next : EE X d k pc1 lv1 st1 σ r σ') : EE X d k pc lv st σ r σ' := by
  obtain ⟨n, hn⟩ := next
  refine ⟨n + 1, ?_⟩
  unfold ev_Lp
  rw [hb]
  exact Or.inr (Or.inl ⟨_, _, _, h, hn⟩)
theorem e_xh {e : ev_I} {pc1 : Nat} {st1 : List Value} {σ1 : ev_S} (hb : ev_tb k pc = some e) (h : ev_xh ev_tl ev_oc ev_df e.1 e.2.1 e.2.2.1 e.2.2.2.1 e.2.2.2.2.1 e.2.2.2.2.2 pc st σ = some (pc1, st1, σ1)) (next : EE X d k pc1 lv st1 σ1 r σ') : EE X d k pc lv st σ r σ' := by
  obtain ⟨n, hn⟩ := next
  refine ⟨n + 1, ?_⟩
  unfold ev_Lp
  rw [hb]
  exact Or.inr (Or.inr (Or.inl ⟨_, _, _, h, hn⟩))
theorem e_xm {e : ev_I} {st1 : List Value} (hb : ev_tb k pc = some e) (h : ev_xm e.1 e.2.1 e.2.2.2.2.1 st = some st1) (next : EE X d k (pc + 3) lv st1 σ r σ') : EE X d k pc lv st σ r σ' := by
  obtain ⟨n, hn⟩ := next
  refine ⟨n + 1, ?_⟩
  unfold ev_Lp
  rw [hb]
  exact Or.inr (Or.inr (Or.inr (Or.inl ⟨_, h, hn⟩)))
theorem e_rt {e : ev_I} {v : Option Value} (hb : ev_tb k pc = some e) (h : ev_rt (ev_ms k).2.2.2.2.1 e.1 e.2.1 st = some v) : EE X d k pc lv st σ (.inl v) σ := by
  refine ⟨1, ?_⟩
  unfold ev_Lp
  rw [hb]
  exact Or.inr (Or.inr (Or.inr (Or.inr (Or.inl ⟨v, h, rfl, rfl⟩))))
theorem e_cl {e : ev_I} {as : List Value} {v : Option Value} {τ : ev_S} (hb : ev_tb k pc = some e) (h : ev_cl e.1 e.2.1 e.2.2.2.1 e.2.2.2.2.1 e.2.2.2.2.2 σ.2.1 st = some (as, rest)) (hC : Cd X d e.2.2.1 as σ.1 σ.2.1 (.inl v) τ) (next : EE X d k (pc + 3) lv (v.toList ++ rest) (τ.1, τ.2.1, σ.2.2.1 + τ.2.2.1, σ.2.2.2 + τ.2.2.2) r σ') : EE X d k pc lv st σ r σ' := by
  obtain ⟨n, hn⟩ := next
  refine ⟨n + 1, ?_⟩
  unfold ev_Lp
  rw [hb]
  exact Or.inr (Or.inr (Or.inr (Or.inr (Or.inr (Or.inl ⟨_, _, _, _, h, hC, hn⟩)))))
/-- a call that throws, no handler here -/
theorem e_clX {e : ev_I} {as : List Value} {ci ix : Nat} {τ : ev_S} (hb : ev_tb k pc = some e) (hi : e.1 = .invokevirtual ix) (h : ev_cl e.1 e.2.1 e.2.2.2.1 e.2.2.2.2.1 e.2.2.2.2.2 σ.2.1 st = some (as, rest)) (hC : Cd X d e.2.2.1 as σ.1 σ.2.1 (.inr ci) τ) (hh : ev_hd k = none) : EE X d k pc lv st σ (.inr ci) (τ.1, τ.2.1, σ.2.2.1 + τ.2.2.1, σ.2.2.2 + τ.2.2.2) := by
  refine ⟨1, ?_⟩
  unfold ev_Lp
  rw [hb]
  exact Or.inr (Or.inr (Or.inr (Or.inr (Or.inr (Or.inr (Or.inl ⟨_, _, _, _, _, hi, h, hC, hh, rfl, rfl⟩))))))
theorem e_ath {e : ev_I} {q ci : Nat} {fs : List Value} (hb : ev_tb k pc = some e) (hi : e.1 = .athrow) (hl : e.2.1 = 1) (hg : ev_g σ.2.1 q = some (.inr (ci, fs))) (hh : ev_hd k = none) : EE X d k pc lv (.ref q :: rest) σ (.inr ci) σ := by
  refine ⟨1, ?_⟩
  unfold ev_Lp
  rw [hb]
  exact Or.inr (Or.inr (Or.inr (Or.inr (Or.inr (Or.inr (Or.inr (Or.inl ⟨_, _, _, _, hi, hl, rfl, hg, hh, rfl, rfl⟩)))))))
/-- a call that throws what is caught here -/
theorem e_clH {e e2 : ev_I} {as : List Value} {ix : Nat} {x : ev_H} {i : Fin 4} {τ : ev_S} (hb : ev_tb k pc = some e) (hi : e.1 = .invokevirtual ix) (h : ev_cl e.1 e.2.1 e.2.2.2.1 e.2.2.2.2.1 e.2.2.2.2.2 σ.2.1 st = some (as, rest)) (hC : Cd X d e.2.2.1 as σ.1 σ.2.1 (.inr 12) τ) (hh : ev_hd k = some x) (h1 : Nat.ble x.1 pc = true) (h2 : Nat.ble (pc + 1) x.2.1 = true) (h3 : ev_tb k x.2.2.1 = some e2) (h4 : e2.1 = .astore_n i) (h5 : e2.2.1 = 1) (h6 : Nat.ble ((i : Nat) + 1) (ev_ms k).2.2.2.1 = true)
    (next : EE X d k (x.2.2.1 + 1) (lv.filter (fun q => !(q.1 == (i : Nat)) && !(q.1 + 1 == (i : Nat) && q.2.category == 2))) [] (τ.1, τ.2.1, σ.2.2.1 + τ.2.2.1, σ.2.2.2 + τ.2.2.2) r σ') : EE X d k pc lv st σ r σ' := by
  obtain ⟨n, hn⟩ := next
  refine ⟨n + 1, ?_⟩
  unfold ev_Lp
  rw [hb]
  exact Or.inr (Or.inr (Or.inr (Or.inr (Or.inr (Or.inr (Or.inr (Or.inr ⟨_, _, _, _, x, i, e2, hi, h, hC, hh, Nat.le_of_ble_eq_true h1, Nat.le_of_ble_eq_true h2, h3, h4, h5, Nat.le_of_ble_eq_true h6, hn⟩)))))))
/-- so many instructions on operands and locals -/
def ev_rn (k : Nat) : Nat → Nat → ev_L → List Value → Option (Nat × ev_L × List Value)
  | 0, pc, lv, st => some (pc, lv, st)
  | n + 1, pc, lv, st => match ev_tb k pc with
    | none => none
    | some e => match ev_xl e.1 e.2.1 pc (ev_ms k).2.2.2.1 lv st with
      | some (pc1, lv1, st1) => ev_rn k n pc1 lv1 st1
      | none => match ev_xc e.1 e.2.1 pc st with
        | some (pc1, st1) => ev_rn k n pc1 lv st1
        | none => none
theorem e_go : ∀ (n : Nat) {pc : Nat} {lv : ev_L} {st : List Value} {pc1 : Nat} {lv1 : ev_L} {st1 : List Value}, ev_rn k n pc lv st = some (pc1, lv1, st1) → EE X d k pc1 lv1 st1 σ r σ' → EE X d k pc lv st σ r σ'
  | 0, pc, lv, st, pc1, lv1, st1, h, next => by
    cases h
    exact next
  | n + 1, pc, lv, st, pc1, lv1, st1, h, next => by
    unfold ev_rn at h
    split at h
    · cases h
    rename_i e he
    split at h
    · rename_i pc2 lv2 st2 h2
      exact e_xl he h2 (e_go n h next)
    · split at h
      · rename_i pc2 st2 h2
        exact e_xc he h2 (e_go n h next)
      · cases h
def ev_ic (c : Jvm.ClassFile.Cond) (x y : Int32) : Bool := match c with
  | .eq => decide (x = y)
  | .ne => !decide (x = y)
  | .lt => decide (x < y)
  | .ge => !decide (x < y)
  | .gt => !decide (x ≤ y)
  | .le => decide (x ≤ y)
theorem e_icmp {c : Jvm.ClassFile.Cond} {off : Int} {x y : Int32} {t a b tg : Nat} {kk : Int} (hb : ev_tb k pc = some (.if_icmp c off, 3, a, b, tg, kk)) (ht : ev_tg pc off = some t) (q : Bool) (hq : ev_ic c x y = q) (next : EE X d k (bif q then t else pc + 3) lv st σ r σ') : EE X d k pc lv (.int y :: .int x :: st) σ r σ' := by
  refine e_xc hb (pc1 := bif q then t else pc + 3) (st1 := st) ?_ next
  subst hq
  cases c <;> (show ev_if true (ev_br _ pc 3 off st) = _; unfold ev_br; rw [ht]; rfl)
theorem e_ifc {c : Jvm.ClassFile.Cond} {off : Int} {x : Int32} {t a b tg : Nat} {kk : Int} (hb : ev_tb k pc = some (.ifCond c off, 3, a, b, tg, kk)) (ht : ev_tg pc off = some t) (q : Bool) (hq : ev_ic c x 0 = q) (next : EE X d k (bif q then t else pc + 3) lv st σ r σ') : EE X d k pc lv (.int x :: st) σ r σ' := by
  refine e_xc hb (pc1 := bif q then t else pc + 3) (st1 := st) ?_ next
  subst hq
  cases c <;> (show ev_if true (ev_br _ pc 3 off st) = _; unfold ev_br; rw [ht]; rfl)
theorem e_acmp {c : Jvm.ClassFile.ACond} {off : Int} {x y t a b tg : Nat} {kk : Int} (hb : ev_tb k pc = some (.if_acmp c off, 3, a, b, tg, kk)) (ht : ev_tg pc off = some t) (q : Bool) (hq : (match c with | .eq => decide (x = y) | .ne => !decide (x = y)) = q) (next : EE X d k (bif q then t else pc + 3) lv st σ r σ') : EE X d k pc lv (.ref y :: .ref x :: st) σ r σ' := by
  refine e_xc hb (pc1 := bif q then t else pc + 3) (st1 := st) ?_ next
  have hn : Nat.beq x y = decide (x = y) := by
    by_cases e : x = y
    · rw [e, Nat.beq_refl]; simp
    · have : Nat.beq x y = false := by
        cases h : Nat.beq x y with
        | true => exact absurd (Nat.eq_of_beq_eq_true h) e
        | false => rfl
      rw [this]; simp [e]
  subst hq
  cases c
  · show ev_if true (ev_br (Nat.beq x y) pc 3 off st) = _
    rw [hn]; unfold ev_br; rw [ht]; rfl
  · show ev_if true (ev_br (!Nat.beq x y) pc 3 off st) = _
    rw [hn]; unfold ev_br; rw [ht]; rfl
theorem e_getf {ix ci b tg q : Nat} {kk : Int} {fs : List Value} {v : Value} (hb : ev_tb k pc = some (.getfield ix, 3, ci, b, tg, kk)) (hg : ev_g σ.2.1 q = some (.inr (ci, fs))) (hv : ev_nth fs b = some v) (next : EE X d k (pc + 3) lv (v :: st) σ r σ') : EE X d k pc lv (.ref q :: st) σ r σ' := by
  refine e_xh hb ?_ next
  show (match ev_g σ.2.1 q with
      | some (.inr (ci', fs)) => match ev_nth fs b with
        | some v => ev_if (Nat.beq 3 3 && Nat.beq ci' ci) (some (pc + 3, v :: st, σ))
        | none => none
      | _ => none) = _
  rw [hg]
  show (match ev_nth fs b with
        | some v => ev_if (Nat.beq 3 3 && Nat.beq ci ci) (some (pc + 3, v :: st, σ))
        | none => none) = _
  rw [hv]
  show ev_if (Nat.beq 3 3 && Nat.beq ci ci) (some (pc + 3, v :: st, σ)) = _
  rw [Nat.beq_refl ci]
  rfl
theorem e_putf {ix ci b tg q : Nat} {kk : Int} {fs : List Value} {v : Value} (hb : ev_tb k pc = some (.putfield ix, 3, ci, b, tg, kk)) (hg : ev_g σ.2.1 q = some (.inr (ci, fs))) (hf : ev_fit tg v = true) (hl : b < fs.length) (hq : q < 1048576) (next : EE X d k (pc + 3) lv st (σ.1, ev_p σ.2.1 q (.inr (ci, fs.set b v)), σ.2.2) r σ') : EE X d k pc lv (v :: .ref q :: st) σ r σ' := by
  refine e_xh hb ?_ next
  show (match ev_g σ.2.1 q with
      | some (.inr (ci', fs)) => ev_if ((Nat.beq 3 3 && Nat.beq ci' ci) && (ev_fit tg v && (Nat.ble (b + 1) fs.length && Nat.ble (q + 1) 1048576))) (some (pc + 3, st, (σ.1, ev_p σ.2.1 q (.inr (ci', fs.set b v)), σ.2.2)))
      | _ => none) = _
  rw [hg]
  show ev_if ((Nat.beq 3 3 && Nat.beq ci ci) && (ev_fit tg v && (Nat.ble (b + 1) fs.length && Nat.ble (q + 1) 1048576))) _ = _
  rw [hf, Nat.ble_eq.mpr hl, Nat.ble_eq.mpr hq, Nat.beq_refl ci]
  rfl
theorem e_iald {q n a b tg : Nat} {kk : Int} {f : Nat → Int32} {x : Int32} (hb : ev_tb k pc = some (.iaload, 1, a, b, tg, kk)) (hg : ev_g σ.2.1 q = some (.inl (0, n, .inl f))) (hi : ev_ix x n = true) (next : EE X d k (pc + 1) lv (.int (f x.toNatClampNeg) :: st) σ r σ') : EE X d k pc lv (.int x :: .ref q :: st) σ r σ' := by
  refine e_xh hb ?_ next
  unfold ev_xh
  simp only [hg, hi]
  rfl
/-- a static call -/
theorem e_st {ix a b tg : Nat} {kk : Int} {as : List Value} {v : Option Value} {τ : ev_S} (hb : ev_tb k pc = some (.invokestatic ix, 3, a, b, tg, kk)) (htg : tg % 4 = 1) (h : ev_tk b [] st = some (as, rest)) (hc : Nat.ble (ev_cat rest) 8 = true) (hC : Cd X d a as σ.1 σ.2.1 (.inl v) τ) (next : EE X d k (pc + 3) lv (v.toList ++ rest) (τ.1, τ.2.1, σ.2.2.1 + τ.2.2.1, σ.2.2.2 + τ.2.2.2) r σ') : EE X d k pc lv st σ r σ' := by
  refine e_cl hb ?_ hC next
  show ev_if (Nat.beq 3 3 && Nat.beq (tg % 4) 1) _ = _
  rw [htg, h]
  show ev_if (Nat.ble (ev_cat rest) 8) _ = _
  rw [hc]
  rfl
/-- a call of an object's method -/
theorem e_vt {ix a b q ci : Nat} {kk : Int} {fs as : List Value} {v : Option Value} {τ : ev_S} (hb : ev_tb k pc = some (.invokevirtual ix, 3, a, b, 0, kk)) (h : ev_tk b [] st = some (as, .ref q :: rest)) (hg : ev_g σ.2.1 q = some (.inr (ci, fs))) (hci : Nat.beq ci kk.toNat = true) (hc : Nat.ble (ev_cat rest) 8 = true) (hC : Cd X d a (.ref q :: as) σ.1 σ.2.1 (.inl v) τ) (next : EE X d k (pc + 3) lv (v.toList ++ rest) (τ.1, τ.2.1, σ.2.2.1 + τ.2.2.1, σ.2.2.2 + τ.2.2.2) r σ') : EE X d k pc lv st σ r σ' := by
  refine e_cl hb ?_ hC next
  show ev_if (Nat.beq 3 3 && Nat.beq (0 % 4) 0) _ = _
  rw [h]
  show (match ev_g σ.2.1 q with
      | some (.inr (ci, _)) => ev_if (Nat.ble (ev_cat rest) 8 && Nat.beq ci kk.toNat) (some (Value.ref q :: as, rest))
      | _ => none) = _
  rw [hg]
  show ev_if (Nat.ble (ev_cat rest) 8 && Nat.beq ci kk.toNat) _ = _
  rw [hc, hci]
  rfl
end ROWS
section ROWS2
variable {X : ev_X} {d k pc : Nat} {lv : ev_L} {st rest : List Value} {σ σ' : ev_S} {r : ev_O}
theorem e_astn {i : Fin 4} {a b tg : Nat} {kk : Int} (hb : ev_tb k pc = some (.astore_n i, 1, a, b, tg, kk)) (o : Option Nat) (hl : Nat.ble ((i : Nat) + 1) (ev_ms k).2.2.2.1 = true) (next : EE X d k (pc + 1) (ev_st1 lv i (va_rf o)) st σ r σ') : EE X d k pc lv (va_rf o :: st) σ r σ' := by
  refine e_xl hb ?_ next
  cases o <;> (show ev_if (Nat.beq 1 1) (ev_if (Nat.ble ((i : Nat) + 1) (ev_ms k).2.2.2.1) _) = _; rw [hl]; rfl)
theorem e_ast {i a b tg : Nat} {kk : Int} (hb : ev_tb k pc = some (.astore i, 2, a, b, tg, kk)) (o : Option Nat) (hl : Nat.ble (i + 1) (ev_ms k).2.2.2.1 = true) (next : EE X d k (pc + 2) (ev_st1 lv i (va_rf o)) st σ r σ') : EE X d k pc lv (va_rf o :: st) σ r σ' := by
  refine e_xl hb ?_ next
  cases o <;> (show ev_if (Nat.beq 2 2) (ev_if (Nat.ble (i + 1) (ev_ms k).2.2.2.1) _) = _; rw [hl]; rfl)
def ev_os (o : Option Nat) (a b : Nat) : Nat := match o with
  | none => a
  | some _ => b
/-- a reference that may be null is looked at -/
theorem e_nul {off : Int} {t a b tg : Nat} {kk : Int} (hb : ev_tb k pc = some (.ifnull off, 3, a, b, tg, kk)) (ht : ev_tg pc off = some t) (o : Option Nat) (next : EE X d k (ev_os o t (pc + 3)) lv st σ r σ') : EE X d k pc lv (va_rf o :: st) σ r σ' := by
  refine e_xc hb (pc1 := ev_os o t (pc + 3)) (st1 := st) ?_ next
  cases o
  · show ev_if (Nat.beq 3 3) ((ev_tg pc off).map fun t => (t, st)) = _
    rw [ht]; rfl
  · rfl
theorem e_nnul {off : Int} {t a b tg : Nat} {kk : Int} (hb : ev_tb k pc = some (.ifnonnull off, 3, a, b, tg, kk)) (ht : ev_tg pc off = some t) (o : Option Nat) (next : EE X d k (ev_os o (pc + 3) t) lv st σ r σ') : EE X d k pc lv (va_rf o :: st) σ r σ' := by
  refine e_xc hb (pc1 := ev_os o (pc + 3) t) (st1 := st) ?_ next
  cases o
  · rfl
  · show ev_if (Nat.beq 3 3) ((ev_tg pc off).map fun t => (t, st)) = _
    rw [ht]; rfl
/-- a reference that may be null is the answer -/
theorem e_aret {a b tg : Nat} {kk : Int} {C : String} (hb : ev_tb k pc = some (.areturn, 1, a, b, tg, kk)) (hr : (ev_ms k).2.2.2.2.1 = some (.object C)) (o : Option Nat) : EE X d k pc lv [va_rf o] σ (.inl (some (va_rf o))) σ := by
  refine e_rt hb ?_
  rw [hr]
  cases o <;> rfl
end ROWS2
