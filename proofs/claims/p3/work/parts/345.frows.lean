/-! the evaluator's steps as rows over flat pictures -/
section FROWS
variable {X : ev_X} {d k pc : Nat} {lv : ev_L} {st rest : List Value} {σ σ1 σ' : fl_S} {r : Option Value} {Q : ev_O → fl_S → Prop}
theorem f_step {pc1 : Nat} {lv1 : ev_L} {st1 : List Value} (h : ∀ t c s, Hp t σ → ∀ r τ, EE X d k pc1 lv1 st1 (sZ σ, t, c, s) r τ → EE X d k pc lv st (sZ σ, t, c, s) r τ) (next : EX X d k pc1 lv1 st1 σ Q) : EX X d k pc lv st σ Q := fun t c s ht => by
  obtain ⟨r, σ', t', mc, ms, q, a, b, c', e⟩ := next t c s ht
  exact ⟨r, σ', t', mc, ms, q, a, b, c', h t c s ht _ _ e⟩
theorem f_meth {as : List Value} (hd : 1 ≤ d) (hl : Nat.ble (lg_sl as).length (ev_ms k).2.2.2.1 = true) (h : EX X (d - 1) k 0 (lv_args 0 as) [] σ Q) : CX X d k as σ Q := fun t ht => by
  obtain ⟨r, σ', t', mc, ms, q, a, b, c', e⟩ := h t 0 0 ht
  refine ⟨r, σ', t', mc, ms, q, a, b, c', ?_⟩
  rw [Nat.zero_add, Nat.zero_add] at e
  have := e_meth (as := as) hl e
  rwa [show d - 1 + 1 = d by omega] at this
theorem f_go (n : Nat) {pc1 : Nat} {lv1 : ev_L} {st1 : List Value} (h : ev_rn k n pc lv st = some (pc1, lv1, st1)) (next : EX X d k pc1 lv1 st1 σ Q) : EX X d k pc lv st σ Q := f_step (fun _ _ _ _ _ _ e => e_go n h e) next
theorem f_icmp {c : Jvm.ClassFile.Cond} {off : Int} {x y : Int32} {t a b tg : Nat} {kk : Int} (hb : ev_tb k pc = some (.if_icmp c off, 3, a, b, tg, kk)) (ht : ev_tg pc off = some t) (q : Bool) (hq : ev_ic c x y = q) (next : EX X d k (bif q then t else pc + 3) lv st σ Q) : EX X d k pc lv (.int y :: .int x :: st) σ Q := f_step (fun _ _ _ _ _ _ e => e_icmp hb ht q hq e) next
theorem f_ifc {c : Jvm.ClassFile.Cond} {off : Int} {x : Int32} {t a b tg : Nat} {kk : Int} (hb : ev_tb k pc = some (.ifCond c off, 3, a, b, tg, kk)) (ht : ev_tg pc off = some t) (q : Bool) (hq : ev_ic c x 0 = q) (next : EX X d k (bif q then t else pc + 3) lv st σ Q) : EX X d k pc lv (.int x :: st) σ Q := f_step (fun _ _ _ _ _ _ e => e_ifc hb ht q hq e) next
theorem f_acmp {c : Jvm.ClassFile.ACond} {off : Int} {x y t a b tg : Nat} {kk : Int} (hb : ev_tb k pc = some (.if_acmp c off, 3, a, b, tg, kk)) (ht : ev_tg pc off = some t) (q : Bool) (hq : (match c with | .eq => decide (x = y) | .ne => !decide (x = y)) = q) (next : EX X d k (bif q then t else pc + 3) lv st σ Q) : EX X d k pc lv (.ref y :: .ref x :: st) σ Q := f_step (fun _ _ _ _ _ _ e => e_acmp hb ht q hq e) next
def f_an (c : Jvm.ClassFile.ACond) (x y : Nat) : Nat := match c with
  | .eq => x
  | .ne => y
theorem f_acmpN {c : Jvm.ClassFile.ACond} {off : Int} {x t a b tg : Nat} {kk : Int} (hb : ev_tb k pc = some (.if_acmp c off, 3, a, b, tg, kk)) (ht : ev_tg pc off = some t) (next : EX X d k (f_an c (pc + 3) t) lv st σ Q) : EX X d k pc lv (.null :: .ref x :: st) σ Q := f_step (fun _ _ _ _ _ _ e => by
  refine e_xc hb (pc1 := f_an c (pc + 3) t) (st1 := st) ?_ e
  cases c <;> (show ev_if true (ev_br _ pc 3 off st) = _; unfold ev_br; rw [ht]; rfl)) next
theorem fl_nth {F : Nat → Nat → Value} {ci a b : Nat} (h : Nat.ble (b + 1) (fl_n ci) = true) : ev_nth (fl_l F ci a) b = some (F a (ci * 32 + b)) := by
  rw [ev_nth_eq, fl_at, if_pos (show b < fl_n ci from Nat.le_of_ble_eq_true h)]
theorem f_getf {ix ci b tg q g : Nat} {kk : Int} {v : Value} (hb : ev_tb k pc = some (.getfield ix, 3, ci, b, tg, kk)) (hn : Nat.ble (b + 1) (fl_n ci) = true) (hg : ci * 32 + b = g) (hC : sC σ ci q = true) (hv : sF σ q g = v) (next : EX X d k (pc + 3) lv (v :: st) σ Q) : EX X d k pc lv (.ref q :: st) σ Q := by
  subst hg hv
  exact f_step (fun t c s ht _ _ e => e_getf hb (ht.1 ci q hC).2 (fl_nth hn) e) next
theorem f_putf {ix ci b tg q g : Nat} {kk : Int} {v : Value} (hb : ev_tb k pc = some (.putfield ix, 3, ci, b, tg, kk)) (hn : Nat.ble (b + 1) (fl_n ci) = true) (hg : ci * 32 + b = g) (hC : sC σ ci q = true) (hf : ev_fit tg v = true) (next : EX X d k (pc + 3) lv st (sU σ q g v) Q) : EX X d k pc lv (v :: .ref q :: st) σ Q := fun t c s ht => by
  subst hg
  have h1 := ht.put (b := b) (v := v) hC
  obtain ⟨r, σ', t', mc, ms, qq, a', b', c', e⟩ := next _ c s h1
  have hq := ht.1 ci q hC
  exact ⟨r, σ', t', mc, ms, qq, a', b', c', e_putf hb hq.2 hf (by rw [fl_len]; exact Nat.le_of_ble_eq_true hn) (Nat.lt_of_lt_of_le hq.1 ht.2.2.2.2) e⟩
theorem f_astn {i : Fin 4} {a b tg : Nat} {kk : Int} (hb : ev_tb k pc = some (.astore_n i, 1, a, b, tg, kk)) (o : Option Nat) (hl : Nat.ble ((i : Nat) + 1) (ev_ms k).2.2.2.1 = true) (next : EX X d k (pc + 1) (ev_st1 lv i (va_rf o)) st σ Q) : EX X d k pc lv (va_rf o :: st) σ Q := f_step (fun _ _ _ _ _ _ e => e_astn hb o hl e) next
theorem f_ast {i a b tg : Nat} {kk : Int} (hb : ev_tb k pc = some (.astore i, 2, a, b, tg, kk)) (o : Option Nat) (hl : Nat.ble (i + 1) (ev_ms k).2.2.2.1 = true) (next : EX X d k (pc + 2) (ev_st1 lv i (va_rf o)) st σ Q) : EX X d k pc lv (va_rf o :: st) σ Q := f_step (fun _ _ _ _ _ _ e => e_ast hb o hl e) next
theorem f_nul {off : Int} {t a b tg : Nat} {kk : Int} (hb : ev_tb k pc = some (.ifnull off, 3, a, b, tg, kk)) (ht : ev_tg pc off = some t) (o : Option Nat) (next : EX X d k (ev_os o t (pc + 3)) lv st σ Q) : EX X d k pc lv (va_rf o :: st) σ Q := f_step (fun _ _ _ _ _ _ e => e_nul hb ht o e) next
theorem f_nnul {off : Int} {t a b tg : Nat} {kk : Int} (hb : ev_tb k pc = some (.ifnonnull off, 3, a, b, tg, kk)) (ht : ev_tg pc off = some t) (o : Option Nat) (next : EX X d k (ev_os o (pc + 3) t) lv st σ Q) : EX X d k pc lv (va_rf o :: st) σ Q := f_step (fun _ _ _ _ _ _ e => e_nnul hb ht o e) next
theorem f_rtQ {e : ev_I} (hb : ev_tb k pc = some e) (h : ev_rt (ev_ms k).2.2.2.2.1 e.1 e.2.1 st = some r) (hq : Q (.inl r) σ) : EX X d k pc lv st σ Q := fun t c s ht => ⟨.inl r, σ, t, 0, 0, hq, ht, rfl, rfl, e_rt hb h⟩
theorem f_rt {e : ev_I} (hb : ev_tb k pc = some e) (h : ev_rt (ev_ms k).2.2.2.2.1 e.1 e.2.1 st = some r) : EF X d k pc lv st σ r σ := f_rtQ hb h ⟨rfl, rfl⟩
theorem f_rtE {e : ev_I} (hb : ev_tb k pc = some e) (h : ev_rt (ev_ms k).2.2.2.2.1 e.1 e.2.1 st = some r) (hσ : σ = σ') : EF X d k pc lv st σ r σ' := f_rtQ hb h ⟨rfl, hσ⟩
theorem f_aretQ {a b tg : Nat} {kk : Int} {C : String} (hb : ev_tb k pc = some (.areturn, 1, a, b, tg, kk)) (hr : (ev_ms k).2.2.2.2.1 = some (.object C)) (o : Option Nat) (hq : Q (.inl (some (va_rf o))) σ) : EX X d k pc lv [va_rf o] σ Q := fun t c s ht => ⟨_, σ, t, 0, 0, hq, ht, rfl, rfl, e_aret hb hr o⟩
theorem f_aret {a b tg : Nat} {kk : Int} {C : String} (hb : ev_tb k pc = some (.areturn, 1, a, b, tg, kk)) (hr : (ev_ms k).2.2.2.2.1 = some (.object C)) (o : Option Nat) : EF X d k pc lv [va_rf o] σ (some (va_rf o)) σ := f_aretQ hb hr o ⟨rfl, rfl⟩
theorem f_clQ {e : ev_I} {as : List Value} {Q1 : Option Value → fl_S → Prop} (hb : ev_tb k pc = some e) (h : ∀ t, Hp t σ → ev_cl e.1 e.2.1 e.2.2.2.1 e.2.2.2.2.1 e.2.2.2.2.2 t st = some (as, rest)) (hC : CQ X d e.2.2.1 as σ Q1) (next : ∀ v σ1, Q1 v σ1 → EX X d k (pc + 3) lv (v.toList ++ rest) σ1 Q) : EX X d k pc lv st σ Q := fun t c s ht => by
  obtain ⟨o, σ1, t1, mc, ms, q1, h1, h2, h3, h4⟩ := hC t ht
  cases o with
  | inr ci => exact q1.elim
  | inl v =>
  obtain ⟨r, σ', t2, mc2, ms2, q, g1, g2, g3, g4⟩ := next v σ1 q1 t1 (c + mc) (s + ms) h1
  refine ⟨r, σ', t2, mc + mc2, ms + ms2, q, g1, by omega, by omega, ?_⟩
  rw [← Nat.add_assoc, ← Nat.add_assoc]
  exact e_cl hb (h t ht) h4 g4
theorem f_stQ {ix a b tg : Nat} {kk : Int} {as : List Value} {Q1 : Option Value → fl_S → Prop} (hb : ev_tb k pc = some (.invokestatic ix, 3, a, b, tg, kk)) (htg : tg % 4 = 1) (h : ev_tk b [] st = some (as, rest)) (hc : Nat.ble (ev_cat rest) 8 = true) (hC : CQ X d a as σ Q1) (next : ∀ v σ1, Q1 v σ1 → EX X d k (pc + 3) lv (v.toList ++ rest) σ1 Q) : EX X d k pc lv st σ Q := by
  refine f_clQ hb (fun t ht => ?_) hC next
  show ev_if (Nat.beq 3 3 && Nat.beq (tg % 4) 1) _ = _
  rw [htg, h]
  show ev_if (Nat.ble (ev_cat rest) 8) _ = _
  rw [hc]
  rfl
theorem f_vtQ {ix a b q : Nat} {kk : Int} {as : List Value} {Q1 : Option Value → fl_S → Prop} (hb : ev_tb k pc = some (.invokevirtual ix, 3, a, b, 0, kk)) (h : ev_tk b [] st = some (as, .ref q :: rest)) (hci : sC σ kk.toNat q = true) (hc : Nat.ble (ev_cat rest) 8 = true) (hC : CQ X d a (.ref q :: as) σ Q1) (next : ∀ v σ1, Q1 v σ1 → EX X d k (pc + 3) lv (v.toList ++ rest) σ1 Q) : EX X d k pc lv st σ Q := by
  refine f_clQ hb (fun t ht => ?_) hC next
  show ev_if (Nat.beq 3 3 && Nat.beq (0 % 4) 0) _ = _
  rw [h]
  show (match ev_g t q with
      | some (.inr (ci, _)) => ev_if (Nat.ble (ev_cat rest) 8 && Nat.beq ci kk.toNat) (some (Value.ref q :: as, rest))
      | _ => none) = _
  rw [(ht.1 _ _ hci).2]
  show ev_if (Nat.ble (ev_cat rest) 8 && Nat.beq kk.toNat kk.toNat) _ = _
  rw [hc, nb_self]
  rfl
theorem f_spQ {ix a b q tg : Nat} {kk : Int} {as : List Value} {Q1 : Option Value → fl_S → Prop} (hb : ev_tb k pc = some (.invokespecial ix, 3, a, b, tg, kk)) (htg : tg % 4 = 2) (h : ev_tk b [] st = some (as, .ref q :: rest)) (hc : Nat.ble (ev_cat rest) 8 = true) (hC : CQ X d a (.ref q :: as) σ Q1) (next : ∀ v σ1, Q1 v σ1 → EX X d k (pc + 3) lv (v.toList ++ rest) σ1 Q) : EX X d k pc lv st σ Q := by
  refine f_clQ hb (fun t ht => ?_) hC next
  show ev_if (Nat.beq 3 3 && Nat.beq (tg % 4) 2) _ = _
  rw [htg, h]
  show ev_if (Nat.ble (ev_cat rest) 8) _ = _
  rw [hc]
  rfl
theorem f_st {ix a b tg : Nat} {kk : Int} {as : List Value} {v : Option Value} (hb : ev_tb k pc = some (.invokestatic ix, 3, a, b, tg, kk)) (htg : tg % 4 = 1) (h : ev_tk b [] st = some (as, rest)) (hc : Nat.ble (ev_cat rest) 8 = true) (hC : CF X d a as σ v σ1) (next : EX X d k (pc + 3) lv (v.toList ++ rest) σ1 Q) : EX X d k pc lv st σ Q := f_stQ hb htg h hc hC (fun _ _ ⟨h1, h2⟩ => by subst h1 h2; exact next)
theorem f_vt {ix a b q : Nat} {kk : Int} {as : List Value} {v : Option Value} (hb : ev_tb k pc = some (.invokevirtual ix, 3, a, b, 0, kk)) (h : ev_tk b [] st = some (as, .ref q :: rest)) (hci : sC σ kk.toNat q = true) (hc : Nat.ble (ev_cat rest) 8 = true) (hC : CF X d a (.ref q :: as) σ v σ1) (next : EX X d k (pc + 3) lv (v.toList ++ rest) σ1 Q) : EX X d k pc lv st σ Q := f_vtQ hb h hci hc hC (fun _ _ ⟨h1, h2⟩ => by subst h1 h2; exact next)
theorem f_sp {ix a b q tg : Nat} {kk : Int} {as : List Value} {v : Option Value} (hb : ev_tb k pc = some (.invokespecial ix, 3, a, b, tg, kk)) (htg : tg % 4 = 2) (h : ev_tk b [] st = some (as, .ref q :: rest)) (hc : Nat.ble (ev_cat rest) 8 = true) (hC : CF X d a (.ref q :: as) σ v σ1) (next : EX X d k (pc + 3) lv (v.toList ++ rest) σ1 Q) : EX X d k pc lv st σ Q := f_spQ hb htg h hc hC (fun _ _ ⟨h1, h2⟩ => by subst h1 h2; exact next)
theorem CX.mono {as : List Value} {Q1 : ev_O → fl_S → Prop} (h : CX X d k as σ Q1) (hq : ∀ v σ1, Q1 v σ1 → Q v σ1) : CX X d k as σ Q := fun t ht => by
  obtain ⟨v, σ', t', mc, ms, q, a⟩ := h t ht
  exact ⟨v, σ', t', mc, ms, hq _ _ q, a⟩
theorem CQ.mono {as : List Value} {Q1 Q2 : Option Value → fl_S → Prop} (h : CQ X d k as σ Q1) (hq : ∀ v σ1, Q1 v σ1 → Q2 v σ1) : CQ X d k as σ Q2 := CX.mono h (fun o σ1 ho => by
  cases o with
  | inl v => exact hq _ _ ho
  | inr ci => exact ho)
/-- a call that may throw -/
theorem f_vtX {ix a b q : Nat} {kk : Int} {as : List Value} {Q1 : ev_O → fl_S → Prop} (hb : ev_tb k pc = some (.invokevirtual ix, 3, a, b, 0, kk)) (h : ev_tk b [] st = some (as, .ref q :: rest)) (hci : sC σ kk.toNat q = true) (hc : Nat.ble (ev_cat rest) 8 = true) (hh : ev_hd k = none) (hC : CX X d a (.ref q :: as) σ Q1) (hx : ∀ ci σ1, Q1 (.inr ci) σ1 → Q (.inr ci) σ1) (next : ∀ v σ1, Q1 (.inl v) σ1 → EX X d k (pc + 3) lv (v.toList ++ rest) σ1 Q) : EX X d k pc lv st σ Q := fun t c s ht => by
  have hcl : ev_cl (.invokevirtual ix) 3 b 0 kk t st = some (.ref q :: as, rest) := by
    show ev_if (Nat.beq 3 3 && Nat.beq (0 % 4) 0) _ = _
    rw [h]
    show (match ev_g t q with
        | some (.inr (ci, _)) => ev_if (Nat.ble (ev_cat rest) 8 && Nat.beq ci kk.toNat) (some (Value.ref q :: as, rest))
        | _ => none) = _
    rw [(ht.1 _ _ hci).2]
    show ev_if (Nat.ble (ev_cat rest) 8 && Nat.beq kk.toNat kk.toNat) _ = _
    rw [hc, nb_self]
    rfl
  obtain ⟨o, σ1, t1, mc, ms, q1, h1, h2, h3, h4⟩ := hC t ht
  cases o with
  | inr ci => exact ⟨.inr ci, σ1, t1, mc, ms, hx _ _ q1, h1, h2, h3, e_clX (σ := (sZ σ, t, c, s)) (τ := (sZ σ1, t1, mc, ms)) hb rfl hcl h4 hh⟩
  | inl v =>
    obtain ⟨r, σ', t2, mc2, ms2, q, g1, g2, g3, g4⟩ := next v σ1 q1 t1 (c + mc) (s + ms) h1
    refine ⟨r, σ', t2, mc + mc2, ms + ms2, q, g1, by omega, by omega, ?_⟩
    rw [← Nat.add_assoc, ← Nat.add_assoc]
    exact e_cl hb hcl h4 g4
theorem f_ath {q ci a b tg : Nat} {kk : Int} (hb : ev_tb k pc = some (.athrow, 1, a, b, tg, kk)) (hci : sC σ ci q = true) (hh : ev_hd k = none) (hq : Q (.inr ci) σ) : EX X d k pc lv (.ref q :: rest) σ Q := fun t c s ht => ⟨.inr ci, σ, t, 0, 0, hq, ht, rfl, rfl, e_ath hb rfl rfl (ht.1 _ _ hci).2 hh⟩
/-- a call whose throw is caught here -/
theorem f_vtH {ix a b q : Nat} {kk : Int} {as : List Value} {Q1 : ev_O → fl_S → Prop} {x : ev_H} {e2 : ev_I} {i : Fin 4} (hb : ev_tb k pc = some (.invokevirtual ix, 3, a, b, 0, kk)) (h : ev_tk b [] st = some (as, .ref q :: rest)) (hci : sC σ kk.toNat q = true) (hc : Nat.ble (ev_cat rest) 8 = true) (hh : ev_hd k = some x) (h1 : Nat.ble x.1 pc = true) (h2 : Nat.ble (pc + 1) x.2.1 = true) (h3 : ev_tb k x.2.2.1 = some e2) (h4 : e2.1 = .astore_n i) (h5 : e2.2.1 = 1) (h6 : Nat.ble ((i : Nat) + 1) (ev_ms k).2.2.2.1 = true)
    (hC : CX X d a (.ref q :: as) σ Q1) (h12 : ∀ ci σ1, Q1 (.inr ci) σ1 → ci = 12) (hx : ∀ σ1, Q1 (.inr 12) σ1 → EX X d k (x.2.2.1 + 1) (lv.filter (fun q => !(q.1 == (i : Nat)) && !(q.1 + 1 == (i : Nat) && q.2.category == 2))) [] σ1 Q) (next : ∀ v σ1, Q1 (.inl v) σ1 → EX X d k (pc + 3) lv (v.toList ++ rest) σ1 Q) : EX X d k pc lv st σ Q := fun t c s ht => by
  have hcl : ev_cl (.invokevirtual ix) 3 b 0 kk t st = some (.ref q :: as, rest) := by
    show ev_if (Nat.beq 3 3 && Nat.beq (0 % 4) 0) _ = _
    rw [h]
    show (match ev_g t q with
        | some (.inr (ci, _)) => ev_if (Nat.ble (ev_cat rest) 8 && Nat.beq ci kk.toNat) (some (Value.ref q :: as, rest))
        | _ => none) = _
    rw [(ht.1 _ _ hci).2]
    show ev_if (Nat.ble (ev_cat rest) 8 && Nat.beq kk.toNat kk.toNat) _ = _
    rw [hc, nb_self]
    rfl
  obtain ⟨o, σ1, t1, mc, ms, q1, g1, g2, g3, g4⟩ := hC t ht
  cases o with
  | inr ci =>
    have := h12 _ _ q1
    subst this
    obtain ⟨r, σ', t2, mc2, ms2, q, j1, j2, j3, j4⟩ := hx σ1 q1 t1 (c + mc) (s + ms) g1
    refine ⟨r, σ', t2, mc + mc2, ms + ms2, q, j1, by omega, by omega, ?_⟩
    rw [← Nat.add_assoc, ← Nat.add_assoc]
    exact e_clH hb rfl hcl g4 hh h1 h2 h3 h4 h5 h6 j4
  | inl v =>
    obtain ⟨r, σ', t2, mc2, ms2, q, j1, j2, j3, j4⟩ := next v σ1 q1 t1 (c + mc) (s + ms) g1
    refine ⟨r, σ', t2, mc + mc2, ms + ms2, q, j1, by omega, by omega, ?_⟩
    rw [← Nat.add_assoc, ← Nat.add_assoc]
    exact e_cl hb hcl g4 j4
theorem EX.mono {Q1 : ev_O → fl_S → Prop} (h : EX X d k pc lv st σ Q1) (hq : ∀ v σ1, Q1 v σ1 → Q v σ1) : EX X d k pc lv st σ Q := fun t c s ht => by
  obtain ⟨v, σ', t', mc, ms, q, a⟩ := h t c s ht
  exact ⟨v, σ', t', mc, ms, hq _ _ q, a⟩
/-- Object's constructor, Math.min -/
theorem f_xm {e : ev_I} {st1 : List Value} (hb : ev_tb k pc = some e) (h : ev_xm e.1 e.2.1 e.2.2.2.2.1 st = some st1) (next : EX X d k (pc + 3) lv st1 σ Q) : EX X d k pc lv st σ Q := f_step (fun _ _ _ _ _ _ e => e_xm hb h e) next
theorem f_ldc {ix a b : Nat} {kk : Int} (hb : ev_tb k pc = some (.ldc ix, 2, a, b, 0, kk)) (next : EX X d k (pc + 2) lv (.int (Int32.ofInt kk) :: st) σ Q) : EX X d k pc lv st σ Q := f_step (fun _ _ _ _ _ _ e => e_xh hb rfl e) next
theorem f_ldcS {ix a b tg : Nat} {kk : Int} (hb : ev_tb k pc = some (.ldc ix, 2, a, b, tg + 1, kk)) (next : EX X d k (pc + 2) lv (.retAddr a :: st) σ Q) : EX X d k pc lv st σ Q := f_step (fun _ _ _ _ _ _ e => e_xh hb rfl e) next
theorem f_ldc2 {ix a b tg : Nat} {kk : Int} (hb : ev_tb k pc = some (.ldc2_w ix, 3, a, b, tg, kk)) (next : EX X d k (pc + 3) lv (.long (Int64.ofInt kk) :: st) σ Q) : EX X d k pc lv st σ Q := f_step (fun _ _ _ _ _ _ e => e_xh hb rfl e) next
theorem f_alR {q n j a b tg : Nat} {kk : Int} {f : Nat → Option Nat} (hb : ev_tb k pc = some (.arraylength, 1, a, b, tg, kk)) (hg : sR σ q = some (j, n, f)) (hj : Nat.ble (j + 1) 7 = true) (next : EX X d k (pc + 1) lv (.int (Int32.ofNat n) :: st) σ Q) : EX X d k pc lv (.ref q :: st) σ Q := f_step (fun t c s ht _ _ e => e_alen hb (ht.2.2.2.1 _ _ hg).2 hj e) next
theorem f_alI {q n a b tg : Nat} {kk : Int} {f : Nat → Int32} (hb : ev_tb k pc = some (.arraylength, 1, a, b, tg, kk)) (hg : sI σ q = some (n, f)) (next : EX X d k (pc + 1) lv (.int (Int32.ofNat n) :: st) σ Q) : EX X d k pc lv (.ref q :: st) σ Q := f_step (fun t c s ht _ _ e => e_alen hb (ht.2.1 _ _ hg).2 rfl e) next
theorem f_alY {q n a b tg : Nat} {kk : Int} {f : Nat → Int32} (hb : ev_tb k pc = some (.arraylength, 1, a, b, tg, kk)) (hg : sY σ q = some (n, f)) (next : EX X d k (pc + 1) lv (.int (Int32.ofNat n) :: st) σ Q) : EX X d k pc lv (.ref q :: st) σ Q := f_step (fun t c s ht _ _ e => e_alen hb (ht.2.2.1 _ _ hg).2 rfl e) next
theorem f_iald {q n i a b tg : Nat} {kk : Int} {f : Nat → Int32} {v : Int32} (hb : ev_tb k pc = some (.iaload, 1, a, b, tg, kk)) (hg : sI σ q = some (n, f)) (hi : i < n) (hn : i < 2147483648) (hv : f i = v) (next : EX X d k (pc + 1) lv (.int v :: st) σ Q) : EX X d k pc lv (.int (Int32.ofNat i) :: .ref q :: st) σ Q := f_step (fun t c s ht _ _ e => e_iald hb (ht.2.1 _ _ hg).2 (nat_ix hn hi) (by rw [nat_c hn]; subst hv; exact e)) next
theorem f_bald {q n i a b tg : Nat} {kk : Int} {f : Nat → Int32} {v : Int32} (hb : ev_tb k pc = some (.baload, 1, a, b, tg, kk)) (hg : sY σ q = some (n, f)) (hi : i < n) (hn : i < 2147483648) (hv : f i = v) (next : EX X d k (pc + 1) lv (.int v :: st) σ Q) : EX X d k pc lv (.int (Int32.ofNat i) :: .ref q :: st) σ Q := f_step (fun t c s ht _ _ e => e_xh hb (by
  unfold ev_xh
  simp only [(ht.2.2.1 _ _ hg).2, nat_ix hn hi, nat_c hn]
  rfl) (by subst hv; exact e)) next
theorem f_aald {q n i j a b tg : Nat} {kk : Int} {f : Nat → Option Nat} {C : String} {o : Option Nat} (hb : ev_tb k pc = some (.aaload, 1, a, b, tg, kk)) (hg : sR σ q = some (j, n, f)) (hC : ev_nth ev_tl j = some (.object C)) (hi : i < n) (hn : i < 2147483648) (hv : f i = o) (next : EX X d k (pc + 1) lv (va_rf o :: st) σ Q) : EX X d k pc lv (.int (Int32.ofNat i) :: .ref q :: st) σ Q := f_step (fun t c s ht _ _ e => e_aald hb (ht.2.2.2.1 _ _ hg).2 hC (nat_ix hn hi) (by rw [nat_c hn]; subst hv; exact e)) next
theorem f_iast {q n i a b tg : Nat} {kk : Int} {f : Nat → Int32} {v : Int32} (hb : ev_tb k pc = some (.iastore, 1, a, b, tg, kk)) (hg : sI σ q = some (n, f)) (hi : i < n) (hn : i < 2147483648) (next : EX X d k (pc + 1) lv st (sI1 σ q (n, upd f i v)) Q) : EX X d k pc lv (.int v :: .int (Int32.ofNat i) :: .ref q :: st) σ Q := fun t c s ht => by
  obtain ⟨o1, o2, o3, o4⟩ := ht.oneI hg
  have h1 := ht.putI (x := (n, upd f i v)) o1 o2 o3 o4
  obtain ⟨r, σ', t', mc, ms, qq, a', b', c', e⟩ := next _ c s h1
  refine ⟨r, σ', t', mc, ms, qq, a', b', c', e_xh hb ?_ e⟩
  unfold ev_xh
  have hq : Nat.ble (q + 1) 1048576 = true := Nat.ble_eq.mpr (Nat.lt_of_lt_of_le o1 ht.2.2.2.2)
  simp only [(ht.2.1 _ _ hg).2, nat_ix hn hi, nat_c hn, hq]
  rfl
theorem f_bast {q n i a b tg : Nat} {kk : Int} {f : Nat → Int32} {v : Int32} (hb : ev_tb k pc = some (.bastore, 1, a, b, tg, kk)) (hg : sY σ q = some (n, f)) (hi : i < n) (hn : i < 2147483648) (next : EX X d k (pc + 1) lv st (sY1 σ q (n, upd f i v.toInt8.toInt32)) Q) : EX X d k pc lv (.int v :: .int (Int32.ofNat i) :: .ref q :: st) σ Q := fun t c s ht => by
  obtain ⟨o1, o2, o3, o4⟩ := ht.oneY hg
  have h1 := ht.putY (x := (n, upd f i v.toInt8.toInt32)) o1 o2 o3 o4
  obtain ⟨r, σ', t', mc, ms, qq, a', b', c', e⟩ := next _ c s h1
  refine ⟨r, σ', t', mc, ms, qq, a', b', c', e_xh hb ?_ e⟩
  unfold ev_xh
  have hq : Nat.ble (q + 1) 1048576 = true := Nat.ble_eq.mpr (Nat.lt_of_lt_of_le o1 ht.2.2.2.2)
  simp only [(ht.2.2.1 _ _ hg).2, nat_ix hn hi, nat_c hn, hq]
  rfl
theorem f_aast {q n i j y ci a b tg : Nat} {kk : Int} {f : Nat → Option Nat} (hb : ev_tb k pc = some (.aastore, 1, a, b, tg, kk)) (hg : sR σ q = some (j, n, f)) (hC : sC σ ci y = true) (hj : ev_oc j = ci) (hj2 : Nat.ble 2 j = true) (hj3 : Nat.ble (j + 1) ev_tl.length = true) (hi : i < n) (hn : i < 2147483648) (next : EX X d k (pc + 1) lv st (sR1 σ q (j, n, va_up f i (some y))) Q) : EX X d k pc lv (.ref y :: .int (Int32.ofNat i) :: .ref q :: st) σ Q := fun t c s ht => by
  obtain ⟨o1, o2, o3, o4⟩ := ht.oneR hg
  have h1 := ht.putR (x := (j, n, va_up f i (some y))) o1 o2 o3 o4
  obtain ⟨r, σ', t', mc, ms, qq, a', b', c', e⟩ := next _ c s h1
  refine ⟨r, σ', t', mc, ms, qq, a', b', c', e_xh hb ?_ e⟩
  subst hj
  unfold ev_xh
  have hq : Nat.ble (q + 1) 1048576 = true := Nat.ble_eq.mpr (Nat.lt_of_lt_of_le o1 ht.2.2.2.2)
  simp only [(ht.2.2.2.1 _ _ hg).2, (ht.1 _ _ hC).2, nat_ix hn hi, nat_c hn, hq, nb_self, hj2, hj3]
  rfl
theorem f_new {ix ci n tg : Nat} {kk : Int} (hb : ev_tb k pc = some (.new ix, 3, ci, n, tg, kk)) (hz : sZ σ < 1048576) (hn : Nat.ble (fl_n ci) 32 = true) (next : EX X d k (pc + 3) lv (.ref (sZ σ) :: st) (sN σ ci n) Q) : EX X d k pc lv st σ Q := fun t c s ht => by
  have h1 := ht.new (n := n) hz (Nat.le_of_ble_eq_true hn)
  obtain ⟨r, σ', t', mc, ms, qq, a', b', c', e⟩ := next _ (c + 1) (s + n) h1
  refine ⟨r, σ', t', 1 + mc, n + ms, qq, a', by rw [b']; show sc σ + 1 + mc = _; omega, by rw [c']; show ss σ + n + ms = _; omega, ?_⟩
  rw [← Nat.add_assoc, ← Nat.add_assoc]
  refine e_xh hb ?_ e
  show ev_if (Nat.beq 3 3 && Nat.ble (sZ σ + 1) 1048576) _ = _
  rw [show Nat.ble (sZ σ + 1) 1048576 = true from Nat.ble_eq.mpr hz]
  rfl
theorem nat_nn {m : Nat} (h : m < 2147483648) : decide (Int32.ofNat m < 0) = false := by
  rw [decide_eq_false_iff_not, Int32.lt_iff_toInt_lt, nat_i h]
  show ¬ (m : Int) < (0 : Int32).toInt
  rw [show (0 : Int32).toInt = 0 from rfl]
  omega
theorem f_newi {n a b tg : Nat} {kk : Int} (hb : ev_tb k pc = some (.newarray .int, 2, a, b, tg, kk)) (hz : sZ σ < 1048576) (hn : n ≤ 134217728) (next : EX X d k (pc + 2) lv (.ref (sZ σ) :: st) (sI1 (sZ1 σ n) (sZ σ) (n, fun _ => 0)) Q) : EX X d k pc lv (.int (Int32.ofNat n) :: st) σ Q := fun t c s ht => by
  have hf := ht.free
  have h1 := (ht.sz (n := n) hz).putI (a := sZ σ) (x := (n, fun _ => 0)) (Nat.lt_succ_self _) hf.1 hf.2.2.1 hf.2.2.2
  obtain ⟨r, σ', t', mc, ms, qq, a', b', c', e⟩ := next _ (c + 1) (s + n) h1
  refine ⟨r, σ', t', 1 + mc, n + ms, qq, a', by rw [b']; show sc σ + 1 + mc = _; omega, by rw [c']; show ss σ + n + ms = _; omega, ?_⟩
  rw [← Nat.add_assoc, ← Nat.add_assoc]
  refine e_xh hb ?_ e
  have hm : n < 2147483648 := by omega
  show ev_if ((Nat.beq 2 2 && !decide (Int32.ofNat n < 0)) && (Nat.ble ((Int32.ofNat n).toNatClampNeg * 4) 536870912 && Nat.ble (sZ σ + 1) 1048576)) _ = _
  rw [nat_nn hm, nat_c hm, show Nat.ble (sZ σ + 1) 1048576 = true from Nat.ble_eq.mpr hz, show Nat.ble (n * 4) 536870912 = true from Nat.ble_eq.mpr (by omega)]
  rfl
theorem f_newq {ix n j b tg : Nat} {kk : Int} (hb : ev_tb k pc = some (.anewarray ix, 3, j, b, tg, kk)) (hz : sZ σ < 1048576) (hn : n ≤ 134217728) (next : EX X d k (pc + 3) lv (.ref (sZ σ) :: st) (sR1 (sZ1 σ n) (sZ σ) (j, n, fun _ => none)) Q) : EX X d k pc lv (.int (Int32.ofNat n) :: st) σ Q := fun t c s ht => by
  have hf := ht.free
  have h1 := (ht.sz (n := n) hz).putR (a := sZ σ) (x := (j, n, fun _ => none)) (Nat.lt_succ_self _) hf.1 hf.2.1 hf.2.2.1
  obtain ⟨r, σ', t', mc, ms, qq, a', b', c', e⟩ := next _ (c + 1) (s + n) h1
  refine ⟨r, σ', t', 1 + mc, n + ms, qq, a', by rw [b']; show sc σ + 1 + mc = _; omega, by rw [c']; show ss σ + n + ms = _; omega, ?_⟩
  rw [← Nat.add_assoc, ← Nat.add_assoc]
  refine e_xh hb ?_ e
  have hm : n < 2147483648 := by omega
  show ev_if ((Nat.beq 3 3 && !decide (Int32.ofNat n < 0)) && (Nat.ble ((Int32.ofNat n).toNatClampNeg * 4) 536870912 && Nat.ble (sZ σ + 1) 1048576)) _ = _
  rw [nat_nn hm, nat_c hm, show Nat.ble (sZ σ + 1) 1048576 = true from Nat.ble_eq.mpr hz, show Nat.ble (n * 4) 536870912 = true from Nat.ble_eq.mpr (by omega)]
  rfl
theorem sU_at {a g : Nat} {v : Value} : sF (sU σ a g v) a g = v := FU_at
theorem sU_ne {a b g h : Nat} {v : Value} (hb : b ≠ a) : sF (sU σ a g v) b h = sF σ b h := FU_ne hb
theorem sU_gne {a b g h : Nat} {v : Value} (hb : Nat.beq h g = false) : sF (sU σ a g v) b h = sF σ b h := by
  show FU (sF σ) a g v b h = _
  unfold FU; rw [hb]; rfl
/-- the picture in another form -/
theorem f_cv (h : σ1 = σ) (next : EX X d k pc lv st σ1 Q) : EX X d k pc lv st σ Q := by subst h; exact next
/-- a list of cells linked by a field -/
def Ll (φ : Nat → Value) : Value → List Nat → Prop
  | v, [] => v = .null
  | v, a :: l => v = .ref a ∧ Ll φ (φ a) l
theorem Ll.hd {φ : Nat → Value} : ∀ {v : Value} {l : List Nat}, Ll φ v l → v = va_rf l.head?
  | _, [], h => h
  | _, _ :: _, h => h.1
end FROWS
