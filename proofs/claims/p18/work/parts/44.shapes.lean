/-! types are parted till none is parted more -/
def FS (F : Nat → Nat → Value) (g : Nat) (φ : Nat → Value) : Nat → Nat → Value := fun b h => bif Nat.beq h g then φ b else F b h
theorem FS_same {F : Nat → Nat → Value} {g : Nat} : FS F g (fun b => F b g) = F := by
  funext b h
  unfold FS
  by_cases e : h = g
  · subst e; rw [nb_self]; rfl
  · rw [nb_ne e]; rfl
theorem FU_FS {F : Nat → Nat → Value} {g a : Nat} {φ : Nat → Value} {v : Value} : FU (FS F g φ) a g v = FS F g (fun b => bif Nat.beq b a then v else φ b) := by
  funext b h
  unfold FU FS
  cases Nat.beq h g <;> rfl
def RS (σ : fl_S) (nn : Nat) (H C Sh : Nat → Int32) (M : Nat → Option Nat) (φ : Nat → Value) : fl_S :=
  (sC σ, FS (sF σ) 142 φ, (fun b => bif Nat.beq b (sZ σ) then some (nn, H) else bif Nat.beq b (sZ σ + 1) then some (nn, C) else bif Nat.beq b (sZ σ + 2) then some (nn, Sh) else sI σ b), sY σ, (fun b => bif Nat.beq b (sZ σ + 3) then some (3, nn, M) else sR σ b), sZ σ + 4, sc σ + 4, ss σ + nn + nn + nn + nn)
section RSS
variable {σ : fl_S} {nn : Nat} {H C Sh : Nat → Int32} {M : Nat → Option Nat} {φ : Nat → Value}
theorem RS_H : sI (RS σ nn H C Sh M φ) (sZ σ) = some (nn, H) := by
  show (bif Nat.beq (sZ σ) (sZ σ) then some (nn, H) else _) = _
  rw [nb_self]; rfl
theorem RS_C : sI (RS σ nn H C Sh M φ) (sZ σ + 1) = some (nn, C) := by
  show (bif Nat.beq (sZ σ + 1) (sZ σ) then some (nn, H) else bif Nat.beq (sZ σ + 1) (sZ σ + 1) then some (nn, C) else _) = _
  rw [nb_ne (by omega), nb_self]; rfl
theorem RS_Sh : sI (RS σ nn H C Sh M φ) (sZ σ + 2) = some (nn, Sh) := by
  show (bif Nat.beq (sZ σ + 2) (sZ σ) then some (nn, H) else bif Nat.beq (sZ σ + 2) (sZ σ + 1) then some (nn, C) else bif Nat.beq (sZ σ + 2) (sZ σ + 2) then some (nn, Sh) else _) = _
  rw [nb_ne (by omega), nb_ne (by omega), nb_self]; rfl
theorem RS_M : sR (RS σ nn H C Sh M φ) (sZ σ + 3) = some (3, nn, M) := by
  show (bif Nat.beq (sZ σ + 3) (sZ σ + 3) then some (3, nn, M) else _) = _
  rw [nb_self]; rfl
theorem RS_R {a : Nat} (h : a < sZ σ) : sR (RS σ nn H C Sh M φ) a = sR σ a := by
  show (bif Nat.beq a (sZ σ + 3) then some (3, nn, M) else sR σ a) = _
  rw [nb_ne (by omega)]; rfl
theorem RS_putH {f : Nat → Int32} : sI1 (RS σ nn H C Sh M φ) (sZ σ) (nn, f) = RS σ nn f C Sh M φ := by
  refine Prod.ext rfl (Prod.ext rfl (Prod.ext ?_ rfl))
  funext b
  show (bif Nat.beq b (sZ σ) then some (nn, f) else bif Nat.beq b (sZ σ) then some (nn, H) else _) = (bif Nat.beq b (sZ σ) then some (nn, f) else _)
  cases Nat.beq b (sZ σ) <;> rfl
theorem RS_putC {f : Nat → Int32} : sI1 (RS σ nn H C Sh M φ) (sZ σ + 1) (nn, f) = RS σ nn H f Sh M φ := by
  refine Prod.ext rfl (Prod.ext rfl (Prod.ext ?_ rfl))
  funext b
  show (bif Nat.beq b (sZ σ + 1) then some (nn, f) else bif Nat.beq b (sZ σ) then some (nn, H) else bif Nat.beq b (sZ σ + 1) then some (nn, C) else _) = (bif Nat.beq b (sZ σ) then some (nn, H) else bif Nat.beq b (sZ σ + 1) then some (nn, f) else _)
  by_cases e : b = sZ σ
  · subst e; rw [nb_self, nb_ne (by omega)]; rfl
  · rw [nb_ne e]
    cases Nat.beq b (sZ σ + 1) <;> rfl
theorem RS_putSh {f : Nat → Int32} : sI1 (RS σ nn H C Sh M φ) (sZ σ + 2) (nn, f) = RS σ nn H C f M φ := by
  refine Prod.ext rfl (Prod.ext rfl (Prod.ext ?_ rfl))
  funext b
  show (bif Nat.beq b (sZ σ + 2) then some (nn, f) else bif Nat.beq b (sZ σ) then some (nn, H) else bif Nat.beq b (sZ σ + 1) then some (nn, C) else bif Nat.beq b (sZ σ + 2) then some (nn, Sh) else _) = (bif Nat.beq b (sZ σ) then some (nn, H) else bif Nat.beq b (sZ σ + 1) then some (nn, C) else bif Nat.beq b (sZ σ + 2) then some (nn, f) else _)
  by_cases e : b = sZ σ
  · subst e; rw [nb_self, nb_ne (by omega)]; rfl
  · rw [nb_ne e]
    by_cases e1 : b = sZ σ + 1
    · subst e1; rw [nb_self, nb_ne (by omega)]; rfl
    · rw [nb_ne e1]
      cases Nat.beq b (sZ σ + 2) <;> rfl
theorem RS_putM {f : Nat → Option Nat} : sR1 (RS σ nn H C Sh M φ) (sZ σ + 3) (3, nn, f) = RS σ nn H C Sh f φ := by
  refine Prod.ext rfl (Prod.ext rfl (Prod.ext rfl (Prod.ext rfl (Prod.ext ?_ rfl))))
  funext b
  show (bif Nat.beq b (sZ σ + 3) then some (3, nn, f) else bif Nat.beq b (sZ σ + 3) then some (3, nn, M) else _) = (bif Nat.beq b (sZ σ + 3) then some (3, nn, f) else _)
  cases Nat.beq b (sZ σ + 3) <;> rfl
theorem RS_put {a : Nat} {v : Value} : sU (RS σ nn H C Sh M φ) a 142 v = RS σ nn H C Sh M (fun b => bif Nat.beq b a then v else φ b) := by
  refine Prod.ext rfl (Prod.ext ?_ rfl)
  exact FU_FS
theorem RS_0 : sR1 (sZ1 (sI1 (sZ1 (sI1 (sZ1 (sI1 (sZ1 σ nn) (sZ σ) (nn, fun _ => 0)) nn) (sZ σ + 1) (nn, fun _ => 0)) nn) (sZ σ + 2) (nn, fun _ => 0)) nn) (sZ σ + 3) (3, nn, fun _ => none) = RS σ nn (fun _ => 0) (fun _ => 0) (fun _ => 0) (fun _ => none) (fun b => sF σ b 142) := by
  refine Prod.ext rfl (Prod.ext FS_same.symm (Prod.ext ?_ (Prod.ext rfl (Prod.ext rfl rfl))))
  funext b
  show (bif Nat.beq b (sZ σ + 2) then some (nn, fun _ => 0) else bif Nat.beq b (sZ σ + 1) then some (nn, fun _ => 0) else bif Nat.beq b (sZ σ) then some (nn, fun _ => 0) else sI σ b) = (bif Nat.beq b (sZ σ) then some (nn, fun _ => 0) else bif Nat.beq b (sZ σ + 1) then some (nn, fun _ => 0) else bif Nat.beq b (sZ σ + 2) then some (nn, fun _ => 0) else sI σ b)
  cases Nat.beq b (sZ σ) <;> cases Nat.beq b (sZ σ + 1) <;> cases Nat.beq b (sZ σ + 2) <;> rfl
end RSS
/-- what one look sees of a type of its own, but for the shapes -/
def SL0 (σ : fl_S) (ns : List Nat) (own : Nat → Bool) (kd hi : Nat → Int32) (el pt it : Nat → Nat) (nm : Nat → Int32) (a : Nat) : Prop :=
  ((kd a = 3 ∨ kd a = 5 ∨ kd a = 11) → sF σ a 132 = .int 0 ∧ sF σ a 133 = .int (hi a) ∧ (sF σ a 134 = .ref (el a) ∧ sC σ 4 (el a) = true ∧ sF σ (el a) 139 = .ref (pt a) ∧ sC σ 4 (pt a) = true) ∧ pt a ∈ ns ∧ own (pt a) = true) ∧
  ((kd a = 3 ∨ kd a = 5) → sF σ a 135 = .null ∧ sF σ a 136 = .null) ∧ (kd a = 11 → sF σ a 135 = .ref (it a) ∧ sC σ 1 (it a) = true ∧ sF σ (it a) 32 = .int 10 ∧ sF σ (it a) 33 = .int (nm a))
theorem SL0.to {σ : fl_S} {ns : List Nat} {own : Nat → Bool} {kd hi : Nat → Int32} {el pt it : Nat → Nat} {nm : Nat → Int32} {a nn : Nat} {H C Sh : Nat → Int32} {M : Nat → Option Nat} {φ : Nat → Value} {S : Nat → Nat} {rl : Nat → Nat} {on : Nat → Option Nat} (h : SL0 σ ns own kd hi el pt it nm a) (hA : SA σ kd rl on a) (hφ : ∀ x ∈ ns, φ x = .int (Int32.ofNat (S x))) : SL (RS σ nn H C Sh M φ) kd hi el pt it nm (fun z => Int32.ofNat (S z)) a := by
  refine ⟨hA.1, hA.2.1, fun hk => ?_, h.2.1, h.2.2⟩
  obtain ⟨h1, h2, ⟨h3, h4, h5, h6⟩, h7, h8⟩ := h.1 hk
  exact ⟨h1, h2, hA.1, h3, h4, h5, h6, hφ _ h7⟩
section FSH
variable {X : ev_X} {d : Nat} {σ : fl_S} {Q : Option Value → fl_S → Prop} {ty nn : Nat} {ns : List Nat} {kd hi : Nat → Int32} {rl : Nat → Nat} {on : Nat → Option Nat} {ix el pt it : Nat → Nat} {nm : Nat → Int32}
/-- what findShapes needs of the types -/
def FW (σ : fl_S) (ns : List Nat) (nn : Nat) (kd hi : Nat → Int32) (rl : Nat → Nat) (on : Nat → Option Nat) (ix el pt it : Nat → Nat) (nm : Nat → Int32) : Prop :=
  Ll (fun a => sF σ a 146) (va_rf ns.head?) ns ∧ ns.Nodup ∧ ns.length = nn ∧ nn < 100000 ∧ (∀ a ∈ ns, SA σ kd rl on a) ∧ (∀ a ∈ ns, sF σ a 129 = .int (Int32.ofNat (ix a)) ∧ ix a < nn) ∧ (∀ x ∈ ns, ∀ y ∈ ns, ix x = ix y → x = y) ∧
  (∀ a ∈ ns, ownt kd rl on a = true → SL0 σ ns (ownt kd rl on) kd hi el pt it nm a) ∧ (∀ a ∈ ns, ∀ b ∈ ns, ownt kd rl on a = true → ownt kd rl on b = true → a ≠ b → kd a = kd b → kd a = 3 ∨ kd a = 5 ∨ kd a = 12 ∨ (kd a = 11 ∧ nm a ≠ nm b))
theorem Ll.app {φ : Nat → Value} : ∀ {pre l : List Nat} {v : Value}, Ll φ v (pre ++ l) → ∃ w, Ll φ w l ∧ (pre = [] → w = v)
  | [], l, v, h => ⟨v, h, fun _ => rfl⟩
  | _ :: pre, l, v, h => by
    obtain ⟨w, h1, -⟩ := Ll.app (pre := pre) h.2
    exact ⟨w, h1, fun h => by cases h⟩
/-- one look at all types -/
theorem g_fs1 (hd : 5 ≤ d) (hW : FW σ ns nn kd hi rl on ix el pt it nm) {S : Nat → Nat} {φ : Nat → Value} (hφ : ∀ x ∈ ns, φ x = .int (Int32.ofNat (S x))) (hS : ∀ x ∈ ns, S x < nn) {rd many : Nat}
    (next : ∀ p m H C Sh M KS, RI S (lkt kd hi pt (fun z => Int32.ofNat (S z))) (ownt kd rl on) ix nn ns ns p m H C Sh M KS → EQ X (d - 1) 87 150 [(8, .int (Int32.ofNat p)), (7, .int (Int32.ofNat rd)), (6, .int 1), (5, .int (Int32.ofNat many)), (4, .ref (sZ σ + 3)), (3, .ref (sZ σ + 2)), (2, .ref (sZ σ + 1)), (1, .ref (sZ σ)), (0, .ref ty)] [] (RS σ nn H C Sh M φ) Q) :
    ∀ (l pre : List Nat) p m H C Sh M KS, ns = pre ++ l → RI S (lkt kd hi pt (fun z => Int32.ofNat (S z))) (ownt kd rl on) ix nn ns pre p m H C Sh M KS → EQ X (d - 1) 87 67 [(9, va_rf l.head?), (8, .int (Int32.ofNat p)), (7, .int (Int32.ofNat rd)), (6, .int 1), (5, .int (Int32.ofNat many)), (4, .ref (sZ σ + 3)), (3, .ref (sZ σ + 2)), (2, .ref (sZ σ + 1)), (1, .ref (sZ σ)), (0, .ref ty)] [] (RS σ nn H C Sh M φ) Q := by
  obtain ⟨hll, hnd, hln, hnn, hA, hI, hix, hL, hU⟩ := hW
  intro l
  induction l with
  | nil =>
    intro pre p m H C Sh M KS hns hR
    rw [List.append_nil] at hns
    subst hns
    have next := next p m H C Sh M KS hR
    show EQ X (d - 1) 87 67 [(9, .null), (8, .int (Int32.ofNat p)), (7, .int (Int32.ofNat rd)), (6, .int 1), (5, .int (Int32.ofNat many)), (4, .ref (sZ σ + 3)), (3, .ref (sZ σ + 2)), (2, .ref (sZ σ + 1)), (1, .ref (sZ σ)), (0, .ref ty)] [] _ Q
    refine f_go (pc1 := 150) (lv1 := [(9, .null), (8, .int (Int32.ofNat p)), (7, .int (Int32.ofNat rd)), (6, .int 1), (5, .int (Int32.ofNat many)), (4, .ref (sZ σ + 3)), (3, .ref (sZ σ + 2)), (2, .ref (sZ σ + 1)), (1, .ref (sZ σ)), (0, .ref ty)]) (st1 := []) 2 rfl ?_
    refine f_lv [(8, .int (Int32.ofNat p)), (7, .int (Int32.ofNat rd)), (6, .int 1), (5, .int (Int32.ofNat many)), (4, .ref (sZ σ + 3)), (3, .ref (sZ σ + 2)), (2, .ref (sZ σ + 1)), (1, .ref (sZ σ)), (0, .ref ty)] (fl_c rfl (fl_c rfl (fl_c rfl (fl_c rfl (fl_c rfl (fl_c rfl (fl_c rfl (fl_c rfl (fl_c rfl fl_0))))))))) ?_
    exact next
  | cons n r ih =>
    intro pre p m H C Sh M KS hns hR
    have hn : n ∈ ns := by rw [hns]; exact List.mem_append_right _ List.mem_cons_self
    have hpre : ∀ x ∈ pre, x ∈ ns := fun x hx => by rw [hns]; exact List.mem_append_left _ hx
    have hnp : n ∉ pre := by
      rw [hns] at hnd
      intro hx
      exact (List.nodup_append.mp hnd).2.2 n hx n List.mem_cons_self rfl
    have hpl : pre.length < nn := by rw [← hln, hns, List.length_append]; simp
    have hns2 : ns = (pre ++ [n]) ++ r := by rw [hns]; simp
    obtain ⟨hix1, hix2⟩ := hI n hn
    have n_next : sF σ n 146 = va_rf r.head? := by
      rw [hns] at hll
      obtain ⟨w, h1, -⟩ := Ll.app hll
      exact h1.2.hd
    have hA1 := hA n hn
    have hR1 := hR
    obtain ⟨r1, r2, r3, r4, r5, r6⟩ := hR1
    show EQ X (d - 1) 87 67 [(9, .ref n), (8, .int (Int32.ofNat p)), (7, .int (Int32.ofNat rd)), (6, .int 1), (5, .int (Int32.ofNat many)), (4, .ref (sZ σ + 3)), (3, .ref (sZ σ + 2)), (2, .ref (sZ σ + 1)), (1, .ref (sZ σ)), (0, .ref ty)] [] _ Q
    refine f_go (pc1 := 74) (lv1 := [(9, .ref n), (8, .int (Int32.ofNat p)), (7, .int (Int32.ofNat rd)), (6, .int 1), (5, .int (Int32.ofNat many)), (4, .ref (sZ σ + 3)), (3, .ref (sZ σ + 2)), (2, .ref (sZ σ + 1)), (1, .ref (sZ σ)), (0, .ref ty)]) (st1 := [.ref n]) 3 rfl ?_
    refine f_st rfl rfl rfl rfl (g_isOwnType (by omega) hA1) ?_
    cases ho : ownt kd rl on n with
    | false =>
      show EQ X (d - 1) 87 77 [(9, .ref n), (8, .int (Int32.ofNat p)), (7, .int (Int32.ofNat rd)), (6, .int 1), (5, .int (Int32.ofNat many)), (4, .ref (sZ σ + 3)), (3, .ref (sZ σ + 2)), (2, .ref (sZ σ + 1)), (1, .ref (sZ σ)), (0, .ref ty)] [.int 0] _ Q
      refine f_go (pc1 := 142) (lv1 := [(9, .ref n), (8, .int (Int32.ofNat p)), (7, .int (Int32.ofNat rd)), (6, .int 1), (5, .int (Int32.ofNat many)), (4, .ref (sZ σ + 3)), (3, .ref (sZ σ + 2)), (2, .ref (sZ σ + 1)), (1, .ref (sZ σ)), (0, .ref ty)]) (st1 := [.ref n]) 2 rfl ?_
      refine f_getf rfl rfl (g := 146) rfl hA1.1 n_next ?_
      refine f_ast rfl r.head? rfl ?_
      refine f_go (pc1 := 67) (lv1 := [(9, va_rf r.head?), (8, .int (Int32.ofNat p)), (7, .int (Int32.ofNat rd)), (6, .int 1), (5, .int (Int32.ofNat many)), (4, .ref (sZ σ + 3)), (3, .ref (sZ σ + 2)), (2, .ref (sZ σ + 1)), (1, .ref (sZ σ)), (0, .ref ty)]) (st1 := []) 1 rfl ?_
      refine f_lv [(9, va_rf r.head?), (8, .int (Int32.ofNat p)), (7, .int (Int32.ofNat rd)), (6, .int 1), (5, .int (Int32.ofNat many)), (4, .ref (sZ σ + 3)), (3, .ref (sZ σ + 2)), (2, .ref (sZ σ + 1)), (1, .ref (sZ σ)), (0, .ref ty)] (fl_c rfl (fl_c rfl (fl_c rfl (fl_c rfl (fl_c rfl (fl_c rfl (fl_c rfl (fl_c rfl (fl_c rfl (fl_c rfl fl_0)))))))))) ?_
      exact ih _ p m H C Sh M KS hns2 (hR.skip ho)
    | true =>
      show EQ X (d - 1) 87 77 [(9, .ref n), (8, .int (Int32.ofNat p)), (7, .int (Int32.ofNat rd)), (6, .int 1), (5, .int (Int32.ofNat many)), (4, .ref (sZ σ + 3)), (3, .ref (sZ σ + 2)), (2, .ref (sZ σ + 1)), (1, .ref (sZ σ)), (0, .ref ty)] [.int 1] _ Q
      refine f_go (pc1 := 86) (lv1 := [(9, .ref n), (8, .int (Int32.ofNat p)), (7, .int (Int32.ofNat rd)), (6, .int 1), (5, .int (Int32.ofNat many)), (4, .ref (sZ σ + 3)), (3, .ref (sZ σ + 2)), (2, .ref (sZ σ + 1)), (1, .ref (sZ σ)), (0, .ref ty)]) (st1 := [.ref (sZ σ + 3), .ref (sZ σ + 1), .ref (sZ σ), .ref n]) 5 rfl ?_
      have hSn := hS n hn
      have hKS := r3 (S n) hSn
      have hmo := g_modelOf (X := X) (d := d - 1) (σ := RS σ nn H C Sh M φ) (by omega) (ks := KS (S n)) (lk := fun k => lkt kd hi pt (fun z => Int32.ofNat (S z)) (m k) n) (by omega) hA1.1 (hφ n hn) hSn RS_H RS_C RS_M hKS.1 (by omega) (fun k hk => by
        have hk2 := ((hKS.2.1 k).mp hk).1
        obtain ⟨g1, g2, g3, g4⟩ := r2 k hk2
        exact ⟨m k, g1, g_isLike (by omega) ((hL _ (hpre _ g2) g3).to (hA _ (hpre _ g2)) hφ) ((hL n hn ho).to hA1 hφ) (hU _ (hpre _ g2) n hn g3 ho)⟩)
      refine f_st rfl rfl rfl rfl hmo ?_
      refine f_go (pc1 := 94) (lv1 := [(10, .int (mo_r ((KS (S n)).find? fun k => lkt kd hi pt (fun z => Int32.ofNat (S z)) (m k) n))), (9, .ref n), (8, .int (Int32.ofNat p)), (7, .int (Int32.ofNat rd)), (6, .int 1), (5, .int (Int32.ofNat many)), (4, .ref (sZ σ + 3)), (3, .ref (sZ σ + 2)), (2, .ref (sZ σ + 1)), (1, .ref (sZ σ)), (0, .ref ty)]) (st1 := [.int (-1), .int (mo_r ((KS (S n)).find? fun k => lkt kd hi pt (fun z => Int32.ofNat (S z)) (m k) n))]) 3 rfl ?_
      cases hf : ((KS (S n)).find? fun k => lkt kd hi pt (fun z => Int32.ofNat (S z)) (m k) n) with
      | some k =>
        have hkm := List.mem_of_find?_eq_some hf
        have hkp := List.find?_some hf
        have hk2 := ((hKS.2.1 k).mp hkm).1
        show EQ X (d - 1) 87 94 [(10, .int (Int32.ofNat k)), (9, .ref n), (8, .int (Int32.ofNat p)), (7, .int (Int32.ofNat rd)), (6, .int 1), (5, .int (Int32.ofNat many)), (4, .ref (sZ σ + 3)), (3, .ref (sZ σ + 2)), (2, .ref (sZ σ + 1)), (1, .ref (sZ σ)), (0, .ref ty)] [.int (-1), .int (Int32.ofNat k)] _ Q
        refine f_icmp (t := 131) rfl rfl true (nat_neT (by omega)) ?_
        refine f_go (pc1 := 134) (lv1 := [(10, .int (Int32.ofNat k)), (9, .ref n), (8, .int (Int32.ofNat p)), (7, .int (Int32.ofNat rd)), (6, .int 1), (5, .int (Int32.ofNat many)), (4, .ref (sZ σ + 3)), (3, .ref (sZ σ + 2)), (2, .ref (sZ σ + 1)), (1, .ref (sZ σ)), (0, .ref ty)]) (st1 := [.ref n, .ref (sZ σ + 2)]) 2 rfl ?_
        refine f_getf rfl rfl (g := 129) rfl hA1.1 hix1 ?_
        refine f_go (pc1 := 139) (lv1 := [(10, .int (Int32.ofNat k)), (9, .ref n), (8, .int (Int32.ofNat p)), (7, .int (Int32.ofNat rd)), (6, .int 1), (5, .int (Int32.ofNat many)), (4, .ref (sZ σ + 3)), (3, .ref (sZ σ + 2)), (2, .ref (sZ σ + 1)), (1, .ref (sZ σ)), (0, .ref ty)]) (st1 := [.int (Int32.ofNat k), .int (Int32.ofNat (ix n)), .ref (sZ σ + 2)]) 1 rfl ?_
        refine f_iast rfl RS_Sh (i := (ix n)) hix2 (by omega) ?_
        rw [RS_putSh]
        refine f_go (pc1 := 142) (lv1 := [(10, .int (Int32.ofNat k)), (9, .ref n), (8, .int (Int32.ofNat p)), (7, .int (Int32.ofNat rd)), (6, .int 1), (5, .int (Int32.ofNat many)), (4, .ref (sZ σ + 3)), (3, .ref (sZ σ + 2)), (2, .ref (sZ σ + 1)), (1, .ref (sZ σ)), (0, .ref ty)]) (st1 := [.ref n]) 1 rfl ?_
        refine f_getf rfl rfl (g := 146) rfl hA1.1 n_next ?_
        refine f_ast rfl r.head? rfl ?_
        refine f_go (pc1 := 67) (lv1 := [(9, va_rf r.head?), (10, .int (Int32.ofNat k)), (8, .int (Int32.ofNat p)), (7, .int (Int32.ofNat rd)), (6, .int 1), (5, .int (Int32.ofNat many)), (4, .ref (sZ σ + 3)), (3, .ref (sZ σ + 2)), (2, .ref (sZ σ + 1)), (1, .ref (sZ σ)), (0, .ref ty)]) (st1 := []) 1 rfl ?_
        refine f_lv [(9, va_rf r.head?), (8, .int (Int32.ofNat p)), (7, .int (Int32.ofNat rd)), (6, .int 1), (5, .int (Int32.ofNat many)), (4, .ref (sZ σ + 3)), (3, .ref (sZ σ + 2)), (2, .ref (sZ σ + 1)), (1, .ref (sZ σ)), (0, .ref ty)] (fl_c rfl (fl_c rfl (fl_c rfl (fl_c rfl (fl_c rfl (fl_c rfl (fl_c rfl (fl_c rfl (fl_c rfl (fl_c rfl fl_0)))))))))) ?_
        exact ih _ p m H C _ M KS hns2 (hR.found ho hpre hn hnp hix hSn hkm hkp)
      | none =>
        show EQ X (d - 1) 87 94 [(10, .int (-1)), (9, .ref n), (8, .int (Int32.ofNat p)), (7, .int (Int32.ofNat rd)), (6, .int 1), (5, .int (Int32.ofNat many)), (4, .ref (sZ σ + 3)), (3, .ref (sZ σ + 2)), (2, .ref (sZ σ + 1)), (1, .ref (sZ σ)), (0, .ref ty)] [.int (-1), .int (-1)] _ Q
        refine f_go (pc1 := 110) (lv1 := [(8, .int ((Int32.ofNat p) + 1)), (10, .int (Int32.ofNat p)), (9, .ref n), (7, .int (Int32.ofNat rd)), (6, .int 1), (5, .int (Int32.ofNat many)), (4, .ref (sZ σ + 3)), (3, .ref (sZ σ + 2)), (2, .ref (sZ σ + 1)), (1, .ref (sZ σ)), (0, .ref ty)]) (st1 := [.ref n, .int (Int32.ofNat p), .ref (sZ σ + 3)]) 7 rfl ?_
        refine f_aast rfl RS_M (i := p) hA1.1 rfl rfl rfl (by omega) (by omega) ?_
        rw [RS_putM]
        refine f_go (pc1 := 117) (lv1 := [(8, .int ((Int32.ofNat p) + 1)), (10, .int (Int32.ofNat p)), (9, .ref n), (7, .int (Int32.ofNat rd)), (6, .int 1), (5, .int (Int32.ofNat many)), (4, .ref (sZ σ + 3)), (3, .ref (sZ σ + 2)), (2, .ref (sZ σ + 1)), (1, .ref (sZ σ)), (0, .ref ty)]) (st1 := [.ref n, .ref (sZ σ), .int (Int32.ofNat p), .ref (sZ σ + 1)]) 4 rfl ?_
        refine f_getf rfl rfl (g := 142) rfl hA1.1 (hφ n hn) ?_
        refine f_iald rfl RS_H (i := (S n)) hSn (by omega) rfl ?_
        refine f_iast rfl RS_C (i := p) (by omega) (by omega) ?_
        rw [RS_putC]
        refine f_go (pc1 := 125) (lv1 := [(8, .int ((Int32.ofNat p) + 1)), (10, .int (Int32.ofNat p)), (9, .ref n), (7, .int (Int32.ofNat rd)), (6, .int 1), (5, .int (Int32.ofNat many)), (4, .ref (sZ σ + 3)), (3, .ref (sZ σ + 2)), (2, .ref (sZ σ + 1)), (1, .ref (sZ σ)), (0, .ref ty)]) (st1 := [.ref n, .ref (sZ σ)]) 2 rfl ?_
        refine f_getf rfl rfl (g := 142) rfl hA1.1 (hφ n hn) ?_
        refine f_go (pc1 := 130) (lv1 := [(8, .int ((Int32.ofNat p) + 1)), (10, .int (Int32.ofNat p)), (9, .ref n), (7, .int (Int32.ofNat rd)), (6, .int 1), (5, .int (Int32.ofNat many)), (4, .ref (sZ σ + 3)), (3, .ref (sZ σ + 2)), (2, .ref (sZ σ + 1)), (1, .ref (sZ σ)), (0, .ref ty)]) (st1 := [.int (Int32.ofNat p), .int (Int32.ofNat (S n)), .ref (sZ σ)]) 1 rfl ?_
        refine f_iast rfl RS_H (i := (S n)) hSn (by omega) ?_
        rw [RS_putH]
        refine f_go (pc1 := 134) (lv1 := [(8, .int ((Int32.ofNat p) + 1)), (10, .int (Int32.ofNat p)), (9, .ref n), (7, .int (Int32.ofNat rd)), (6, .int 1), (5, .int (Int32.ofNat many)), (4, .ref (sZ σ + 3)), (3, .ref (sZ σ + 2)), (2, .ref (sZ σ + 1)), (1, .ref (sZ σ)), (0, .ref ty)]) (st1 := [.ref n, .ref (sZ σ + 2)]) 2 rfl ?_
        refine f_getf rfl rfl (g := 129) rfl hA1.1 hix1 ?_
        refine f_go (pc1 := 139) (lv1 := [(8, .int ((Int32.ofNat p) + 1)), (10, .int (Int32.ofNat p)), (9, .ref n), (7, .int (Int32.ofNat rd)), (6, .int 1), (5, .int (Int32.ofNat many)), (4, .ref (sZ σ + 3)), (3, .ref (sZ σ + 2)), (2, .ref (sZ σ + 1)), (1, .ref (sZ σ)), (0, .ref ty)]) (st1 := [.int (Int32.ofNat p), .int (Int32.ofNat (ix n)), .ref (sZ σ + 2)]) 1 rfl ?_
        refine f_iast rfl RS_Sh (i := (ix n)) hix2 (by omega) ?_
        rw [RS_putSh]
        refine f_go (pc1 := 142) (lv1 := [(8, .int ((Int32.ofNat p) + 1)), (10, .int (Int32.ofNat p)), (9, .ref n), (7, .int (Int32.ofNat rd)), (6, .int 1), (5, .int (Int32.ofNat many)), (4, .ref (sZ σ + 3)), (3, .ref (sZ σ + 2)), (2, .ref (sZ σ + 1)), (1, .ref (sZ σ)), (0, .ref ty)]) (st1 := [.ref n]) 1 rfl ?_
        refine f_getf rfl rfl (g := 146) rfl hA1.1 n_next ?_
        refine f_ast rfl r.head? rfl ?_
        refine f_go (pc1 := 67) (lv1 := [(9, va_rf r.head?), (8, .int ((Int32.ofNat p) + 1)), (10, .int (Int32.ofNat p)), (7, .int (Int32.ofNat rd)), (6, .int 1), (5, .int (Int32.ofNat many)), (4, .ref (sZ σ + 3)), (3, .ref (sZ σ + 2)), (2, .ref (sZ σ + 1)), (1, .ref (sZ σ)), (0, .ref ty)]) (st1 := []) 1 rfl ?_
        rw [nat_s p]
        refine f_lv [(9, va_rf r.head?), (8, .int (Int32.ofNat (p + 1))), (7, .int (Int32.ofNat rd)), (6, .int 1), (5, .int (Int32.ofNat many)), (4, .ref (sZ σ + 3)), (3, .ref (sZ σ + 2)), (2, .ref (sZ σ + 1)), (1, .ref (sZ σ)), (0, .ref ty)] (fl_c rfl (fl_c rfl (fl_c rfl (fl_c rfl (fl_c rfl (fl_c rfl (fl_c rfl (fl_c rfl (fl_c rfl (fl_c rfl fl_0)))))))))) ?_
        exact ih _ (p + 1) _ _ _ _ _ _ hns2 (hR.new ho hpre hn hnp hix hSn (by omega) lkt_refl hf)
/-- the shapes are set -/
def fsφ (done : List Nat) (Sh : Nat → Int32) (ix : Nat → Nat) (φ : Nat → Value) : Nat → Value := fun b => if b ∈ done then .int (Sh (ix b)) else φ b
theorem g_fs2 (hW : FW σ ns nn kd hi rl on ix el pt it nm) {φ : Nat → Value} {rd many p : Nat} {H C Sh : Nat → Int32} {M : Nat → Option Nat}
    (next : EQ X (d - 1) 87 183 [(8, .int (Int32.ofNat p)), (7, .int (Int32.ofNat rd)), (6, .int 1), (5, .int (Int32.ofNat many)), (4, .ref (sZ σ + 3)), (3, .ref (sZ σ + 2)), (2, .ref (sZ σ + 1)), (1, .ref (sZ σ)), (0, .ref ty)] [] (RS σ nn H C Sh M (fsφ ns Sh ix φ)) Q) :
    ∀ (l done : List Nat), ns = done ++ l → EQ X (d - 1) 87 156 [(9, va_rf l.head?), (8, .int (Int32.ofNat p)), (7, .int (Int32.ofNat rd)), (6, .int 1), (5, .int (Int32.ofNat many)), (4, .ref (sZ σ + 3)), (3, .ref (sZ σ + 2)), (2, .ref (sZ σ + 1)), (1, .ref (sZ σ)), (0, .ref ty)] [] (RS σ nn H C Sh M (fsφ done Sh ix φ)) Q := by
  obtain ⟨hll, hnd, hln, hnn, hA, hI, hix, hL, hU⟩ := hW
  intro l
  induction l with
  | nil =>
    intro done hns
    rw [List.append_nil] at hns
    subst hns
    show EQ X (d - 1) 87 156 [(9, .null), (8, .int (Int32.ofNat p)), (7, .int (Int32.ofNat rd)), (6, .int 1), (5, .int (Int32.ofNat many)), (4, .ref (sZ σ + 3)), (3, .ref (sZ σ + 2)), (2, .ref (sZ σ + 1)), (1, .ref (sZ σ)), (0, .ref ty)] [] _ Q
    refine f_go (pc1 := 183) (lv1 := [(9, .null), (8, .int (Int32.ofNat p)), (7, .int (Int32.ofNat rd)), (6, .int 1), (5, .int (Int32.ofNat many)), (4, .ref (sZ σ + 3)), (3, .ref (sZ σ + 2)), (2, .ref (sZ σ + 1)), (1, .ref (sZ σ)), (0, .ref ty)]) (st1 := []) 2 rfl ?_
    refine f_lv [(8, .int (Int32.ofNat p)), (7, .int (Int32.ofNat rd)), (6, .int 1), (5, .int (Int32.ofNat many)), (4, .ref (sZ σ + 3)), (3, .ref (sZ σ + 2)), (2, .ref (sZ σ + 1)), (1, .ref (sZ σ)), (0, .ref ty)] (fl_c rfl (fl_c rfl (fl_c rfl (fl_c rfl (fl_c rfl (fl_c rfl (fl_c rfl (fl_c rfl (fl_c rfl fl_0))))))))) ?_
    exact next
  | cons n r ih =>
    intro done hns
    have hn : n ∈ ns := by rw [hns]; exact List.mem_append_right _ List.mem_cons_self
    have hns2 : ns = (done ++ [n]) ++ r := by rw [hns]; simp
    obtain ⟨hix1, hix2⟩ := hI n hn
    have n_next : sF σ n 146 = va_rf r.head? := by
      rw [hns] at hll
      obtain ⟨w, h1, -⟩ := Ll.app hll
      exact h1.2.hd
    have hA1 := hA n hn
    show EQ X (d - 1) 87 156 [(9, .ref n), (8, .int (Int32.ofNat p)), (7, .int (Int32.ofNat rd)), (6, .int 1), (5, .int (Int32.ofNat many)), (4, .ref (sZ σ + 3)), (3, .ref (sZ σ + 2)), (2, .ref (sZ σ + 1)), (1, .ref (sZ σ)), (0, .ref ty)] [] _ Q
    refine f_go (pc1 := 166) (lv1 := [(9, .ref n), (8, .int (Int32.ofNat p)), (7, .int (Int32.ofNat rd)), (6, .int 1), (5, .int (Int32.ofNat many)), (4, .ref (sZ σ + 3)), (3, .ref (sZ σ + 2)), (2, .ref (sZ σ + 1)), (1, .ref (sZ σ)), (0, .ref ty)]) (st1 := [.ref n, .ref (sZ σ + 2), .ref n]) 5 rfl ?_
    refine f_getf rfl rfl (g := 129) rfl hA1.1 hix1 ?_
    refine f_iald rfl RS_Sh (i := (ix n)) hix2 (by omega) rfl ?_
    refine f_putf rfl rfl (g := 142) rfl hA1.1 rfl ?_
    rw [RS_put, show (fun b => bif Nat.beq b n then Value.int (Sh (ix n)) else fsφ done Sh ix φ b) = fsφ (done ++ [n]) Sh ix φ by
      funext b
      unfold fsφ
      by_cases e : b = n
      · subst e; simp [nb_self]
      · simp [nb_ne e, e]]
    refine f_go (pc1 := 175) (lv1 := [(9, .ref n), (8, .int (Int32.ofNat p)), (7, .int (Int32.ofNat rd)), (6, .int 1), (5, .int (Int32.ofNat many)), (4, .ref (sZ σ + 3)), (3, .ref (sZ σ + 2)), (2, .ref (sZ σ + 1)), (1, .ref (sZ σ)), (0, .ref ty)]) (st1 := [.ref n]) 1 rfl ?_
    refine f_getf rfl rfl (g := 146) rfl hA1.1 n_next ?_
    refine f_ast rfl r.head? rfl ?_
    refine f_go (pc1 := 156) (lv1 := [(9, va_rf r.head?), (8, .int (Int32.ofNat p)), (7, .int (Int32.ofNat rd)), (6, .int 1), (5, .int (Int32.ofNat many)), (4, .ref (sZ σ + 3)), (3, .ref (sZ σ + 2)), (2, .ref (sZ σ + 1)), (1, .ref (sZ σ)), (0, .ref ty)]) (st1 := []) 1 rfl ?_
    refine f_lv [(9, va_rf r.head?), (8, .int (Int32.ofNat p)), (7, .int (Int32.ofNat rd)), (6, .int 1), (5, .int (Int32.ofNat many)), (4, .ref (sZ σ + 3)), (3, .ref (sZ σ + 2)), (2, .ref (sZ σ + 1)), (1, .ref (sZ σ)), (0, .ref ty)] (fl_c rfl (fl_c rfl (fl_c rfl (fl_c rfl (fl_c rfl (fl_c rfl (fl_c rfl (fl_c rfl (fl_c rfl (fl_c rfl fl_0)))))))))) ?_
    exact ih _ hns2
theorem g_fs3 (hd : 5 ≤ d) (hW : FW σ ns nn kd hi rl on ix el pt it nm) (cty : sC σ 9 ty = true) (ty_nc : sF σ ty 298 = .int (Int32.ofNat nn)) (ty_nodes : sF σ ty 297 = va_rf ns.head?)
    (next : ∀ rd many S φ H C Sh M, (∀ x ∈ ns, φ x = .int (Int32.ofNat (S x))) → OI ns (ownt kd rl on) kd hi pt nn S many → Stb ns (ownt kd rl on) kd hi pt S → EQ X (d - 1) 87 207 [(7, .int (Int32.ofNat rd)), (6, .int 0), (5, .int (Int32.ofNat many)), (4, .ref (sZ σ + 3)), (3, .ref (sZ σ + 2)), (2, .ref (sZ σ + 1)), (1, .ref (sZ σ)), (0, .ref ty)] [] (RS σ nn H C Sh M φ) Q) :
    ∀ (f rd many : Nat) (S : Nat → Nat) (φ : Nat → Value) (H C Sh : Nat → Int32) (M : Nat → Option Nat), nn - many < f → rd + 1 ≤ many → (∀ x ∈ ns, φ x = .int (Int32.ofNat (S x))) → (∀ x ∈ ns, ownt kd rl on x = false → Sh (ix x) = 0) → OI ns (ownt kd rl on) kd hi pt nn S many → EQ X (d - 1) 87 39 [(7, .int (Int32.ofNat rd)), (6, .int 1), (5, .int (Int32.ofNat many)), (4, .ref (sZ σ + 3)), (3, .ref (sZ σ + 2)), (2, .ref (sZ σ + 1)), (1, .ref (sZ σ)), (0, .ref ty)] [] (RS σ nn H C Sh M φ) Q := by
  have hW' := hW
  obtain ⟨hll, hnd, hln, hnn, hA, hI, hix, hL, hU⟩ := hW'
  intro f
  induction f with
  | zero => intro rd many S φ H C Sh M hf; omega
  | succ f ih =>
    intro rd many S φ H C Sh M hf hrd hφ hSh hO
    have hO' := hO
    obtain ⟨o1, o2, o3, o4, o5, o6⟩ := hO'
    refine f_go (pc1 := 42) (lv1 := [(7, .int (Int32.ofNat rd)), (6, .int 1), (5, .int (Int32.ofNat many)), (4, .ref (sZ σ + 3)), (3, .ref (sZ σ + 2)), (2, .ref (sZ σ + 1)), (1, .ref (sZ σ)), (0, .ref ty)]) (st1 := [.ref ty, .int (Int32.ofNat rd)]) 2 rfl ?_
    refine f_getf rfl rfl (g := 298) rfl cty ty_nc ?_
    refine f_icmp (t := 207) rfl rfl false (nat_gtF (by omega) (by omega) (by omega)) ?_
    refine f_go (pc1 := 55) (lv1 := [(7, .int (Int32.ofNat rd)), (6, .int 1), (5, .int (Int32.ofNat many)), (4, .ref (sZ σ + 3)), (3, .ref (sZ σ + 2)), (2, .ref (sZ σ + 1)), (1, .ref (sZ σ)), (0, .ref ty)]) (st1 := [.int (-1), .ref (sZ σ)]) 4 rfl ?_
    refine f_st rfl rfl rfl rfl (g_fill (by omega) RS_H (by omega)) ?_
    rw [RS_putH]
    refine f_go (pc1 := 62) (lv1 := [(8, .int 0), (7, .int (Int32.ofNat rd)), (6, .int 1), (5, .int (Int32.ofNat many)), (4, .ref (sZ σ + 3)), (3, .ref (sZ σ + 2)), (2, .ref (sZ σ + 1)), (1, .ref (sZ σ)), (0, .ref ty)]) (st1 := [.ref ty]) 3 rfl ?_
    refine f_getf rfl rfl (g := 297) rfl cty ty_nodes ?_
    refine f_ast rfl ns.head? rfl ?_
    refine f_lv [(9, va_rf ns.head?), (8, .int (Int32.ofNat 0)), (7, .int (Int32.ofNat rd)), (6, .int 1), (5, .int (Int32.ofNat many)), (4, .ref (sZ σ + 3)), (3, .ref (sZ σ + 2)), (2, .ref (sZ σ + 1)), (1, .ref (sZ σ)), (0, .ref ty)] (fl_c rfl (fl_c rfl (fl_c rfl (fl_c rfl (fl_c rfl (fl_c rfl (fl_c rfl (fl_c rfl (fl_c rfl (fl_c rfl fl_0)))))))))) ?_
    refine g_fs1 hd hW hφ (fun x hx => ?_) ?_ ns [] 0 (fun _ => 0) _ _ _ _ _ rfl (RI.start (fun s hs => by simp [hs]) hSh)
    · cases ho : ownt kd rl on x with
      | true => exact Nat.lt_of_lt_of_le (o1 x hx ho) o2
      | false => rw [o6 x hx ho]; omega
    intro p m H1 C1 Sh1 M1 KS hR
    obtain ⟨S', s1, s2, s3⟩ := RI.next (by omega) hln (fun x hx ho hk => ((hL x hx ho).1 (by rcases hk with h | h <;> simp [h])).2.2.2) hO hR
    refine f_go (pc1 := 151) (lv1 := [(8, .int (Int32.ofNat p)), (7, .int (Int32.ofNat rd)), (6, .int 1), (5, .int (Int32.ofNat many)), (4, .ref (sZ σ + 3)), (3, .ref (sZ σ + 2)), (2, .ref (sZ σ + 1)), (1, .ref (sZ σ)), (0, .ref ty)]) (st1 := [.ref ty]) 1 rfl ?_
    refine f_getf rfl rfl (g := 297) rfl cty ty_nodes ?_
    refine f_ast rfl ns.head? rfl ?_
    have hsame : fsφ [] Sh1 ix φ = φ := by funext b; simp [fsφ]
    rw [← hsame]
    refine f_lv [(9, va_rf ns.head?), (8, .int (Int32.ofNat p)), (7, .int (Int32.ofNat rd)), (6, .int 1), (5, .int (Int32.ofNat many)), (4, .ref (sZ σ + 3)), (3, .ref (sZ σ + 2)), (2, .ref (sZ σ + 1)), (1, .ref (sZ σ)), (0, .ref ty)] (fl_c rfl (fl_c rfl (fl_c rfl (fl_c rfl (fl_c rfl (fl_c rfl (fl_c rfl (fl_c rfl (fl_c rfl (fl_c rfl fl_0)))))))))) ?_
    refine g_fs2 hW ?_ ns [] rfl
    have hpb : p ≤ nn := s2.2.1
    have hφ2 : ∀ x ∈ ns, fsφ ns Sh1 ix φ x = .int (Int32.ofNat (S' x)) := fun x hx => by simp [fsφ, hx, s1 x hx]
    by_cases hp : p ≤ many
    ·
      refine f_go (pc1 := 187) (lv1 := [(8, .int (Int32.ofNat p)), (7, .int (Int32.ofNat rd)), (6, .int 1), (5, .int (Int32.ofNat many)), (4, .ref (sZ σ + 3)), (3, .ref (sZ σ + 2)), (2, .ref (sZ σ + 1)), (1, .ref (sZ σ)), (0, .ref ty)]) (st1 := [.int (Int32.ofNat many), .int (Int32.ofNat p)]) 2 rfl ?_
      refine f_icmp (t := 194) rfl rfl true (nat_leT (by omega) (by omega) hp) ?_
      refine f_go (pc1 := 39) (lv1 := [(7, .int ((Int32.ofNat rd) + 1)), (5, .int (Int32.ofNat p)), (6, .int 0), (8, .int (Int32.ofNat p)), (4, .ref (sZ σ + 3)), (3, .ref (sZ σ + 2)), (2, .ref (sZ σ + 1)), (1, .ref (sZ σ)), (0, .ref ty)]) (st1 := []) 6 rfl ?_
      rw [nat_s rd]
      refine f_lv [(7, .int (Int32.ofNat (rd + 1))), (6, .int 0), (5, .int (Int32.ofNat p)), (4, .ref (sZ σ + 3)), (3, .ref (sZ σ + 2)), (2, .ref (sZ σ + 1)), (1, .ref (sZ σ)), (0, .ref ty)] (fl_c rfl (fl_c rfl (fl_c rfl (fl_c rfl (fl_c rfl (fl_c rfl (fl_c rfl (fl_c rfl fl_0)))))))) ?_
      cases hgt : ev_ic .gt (Int32.ofNat (rd + 1)) (Int32.ofNat nn) with
      | false =>
        refine f_go (pc1 := 42) (lv1 := [(7, .int (Int32.ofNat (rd + 1))), (6, .int 0), (5, .int (Int32.ofNat p)), (4, .ref (sZ σ + 3)), (3, .ref (sZ σ + 2)), (2, .ref (sZ σ + 1)), (1, .ref (sZ σ)), (0, .ref ty)]) (st1 := [.ref ty, .int (Int32.ofNat (rd + 1))]) 2 rfl ?_
        refine f_getf rfl rfl (g := 298) rfl cty ty_nc ?_
        refine f_icmp (t := 207) rfl rfl false hgt ?_
        refine f_go (pc1 := 207) (lv1 := [(7, .int (Int32.ofNat (rd + 1))), (6, .int 0), (5, .int (Int32.ofNat p)), (4, .ref (sZ σ + 3)), (3, .ref (sZ σ + 2)), (2, .ref (sZ σ + 1)), (1, .ref (sZ σ)), (0, .ref ty)]) (st1 := []) 2 rfl ?_
        exact next (rd + 1) p S' _ H1 C1 Sh1 M1 hφ2 s2 (s3 hp)
      | true =>
        refine f_go (pc1 := 42) (lv1 := [(7, .int (Int32.ofNat (rd + 1))), (6, .int 0), (5, .int (Int32.ofNat p)), (4, .ref (sZ σ + 3)), (3, .ref (sZ σ + 2)), (2, .ref (sZ σ + 1)), (1, .ref (sZ σ)), (0, .ref ty)]) (st1 := [.ref ty, .int (Int32.ofNat (rd + 1))]) 2 rfl ?_
        refine f_getf rfl rfl (g := 298) rfl cty ty_nc ?_
        refine f_icmp (t := 207) rfl rfl true hgt ?_
        exact next (rd + 1) p S' _ H1 C1 Sh1 M1 hφ2 s2 (s3 hp)
    ·
      refine f_go (pc1 := 187) (lv1 := [(8, .int (Int32.ofNat p)), (7, .int (Int32.ofNat rd)), (6, .int 1), (5, .int (Int32.ofNat many)), (4, .ref (sZ σ + 3)), (3, .ref (sZ σ + 2)), (2, .ref (sZ σ + 1)), (1, .ref (sZ σ)), (0, .ref ty)]) (st1 := [.int (Int32.ofNat many), .int (Int32.ofNat p)]) 2 rfl ?_
      refine f_icmp (t := 194) rfl rfl false (nat_leF (by omega) (by omega) (by omega)) ?_
      refine f_go (pc1 := 39) (lv1 := [(7, .int ((Int32.ofNat rd) + 1)), (5, .int (Int32.ofNat p)), (6, .int 1), (8, .int (Int32.ofNat p)), (4, .ref (sZ σ + 3)), (3, .ref (sZ σ + 2)), (2, .ref (sZ σ + 1)), (1, .ref (sZ σ)), (0, .ref ty)]) (st1 := []) 7 rfl ?_
      rw [nat_s rd]
      refine f_lv [(7, .int (Int32.ofNat (rd + 1))), (6, .int 1), (5, .int (Int32.ofNat p)), (4, .ref (sZ σ + 3)), (3, .ref (sZ σ + 2)), (2, .ref (sZ σ + 1)), (1, .ref (sZ σ)), (0, .ref ty)] (fl_c rfl (fl_c rfl (fl_c rfl (fl_c rfl (fl_c rfl (fl_c rfl (fl_c rfl (fl_c rfl fl_0)))))))) ?_
      exact ih (rd + 1) p S' _ H1 C1 Sh1 M1 (by omega) (by omega) hφ2 hR.2.2.2.2.2 s2
/-- the least TYPE of each shape -/
def LeP (S : Nat → Nat) (rt : Nat → Nat) (T c : Nat) (L : Nat → Int32) : Prop := ∀ i, c ≤ i → i < T → ∃ j, c ≤ j ∧ j ≤ i ∧ L (S (rt i)) = Int32.ofNat j ∧ S (rt j) = S (rt i) ∧ ∀ j', c ≤ j' → j' < j → S (rt j') ≠ S (rt i)
theorem LeP.step {S : Nat → Nat} {rt : Nat → Nat} {T k : Nat} {L : Nat → Int32} (h : LeP S rt T (k + 1) L) : LeP S rt T k (upd L (S (rt k)) (Int32.ofNat k)) := fun i hi hT => by
  by_cases e : S (rt i) = S (rt k)
  · exact ⟨k, Nat.le_refl _, hi, by simp [upd, e], e.symm, fun j' h1 h2 => by omega⟩
  · have hi2 : k + 1 ≤ i := by
      rcases Nat.eq_or_lt_of_le hi with q | q
      · subst q; exact absurd rfl e
      · exact q
    obtain ⟨j, g1, g2, g3, g4, g5⟩ := h i hi2 hT
    refine ⟨j, by omega, g2, by simp [upd, e, g3], g4, fun j' h1 h2 => ?_⟩
    by_cases q : j' = k
    · subst q; exact fun x => e x.symm
    · exact g5 j' (by omega) h2
def LSt (σ : fl_S) (ty nn many : Nat) (H C Sh : Nat → Int32) (M : Nat → Option Nat) (φ : Nat → Value) (L : Nat → Int32) : fl_S := sI1 (sU (sI1 (sZ1 (RS σ nn H C Sh M φ) many) (sZ σ + 4) (many, fun _ => 0)) ty 292 (.ref (sZ σ + 4))) (sZ σ + 4) (many, L)
theorem LSt_put {L L' : Nat → Int32} {φ : Nat → Value} {H C Sh : Nat → Int32} {M : Nat → Option Nat} {many : Nat} : sI1 (LSt σ ty nn many H C Sh M φ L) (sZ σ + 4) (many, L') = LSt σ ty nn many H C Sh M φ L' := sI1_twice _ _ _ _
theorem LSt_least {L : Nat → Int32} {φ : Nat → Value} {H C Sh : Nat → Int32} {M : Nat → Option Nat} {many : Nat} : sF (LSt σ ty nn many H C Sh M φ L) ty 292 = .ref (sZ σ + 4) := by
  show FU _ ty 292 (.ref (sZ σ + 4)) ty 292 = _
  exact FU_at
theorem LSt_R {L : Nat → Int32} {φ : Nat → Value} {H C Sh : Nat → Int32} {M : Nat → Option Nat} {many a : Nat} (h : a < sZ σ) : sR (LSt σ ty nn many H C Sh M φ L) a = sR σ a := RS_R (nn := nn) (H := H) (C := C) (Sh := Sh) (M := M) (φ := φ) h
theorem LSt_L {L : Nat → Int32} {φ : Nat → Value} {H C Sh : Nat → Int32} {M : Nat → Option Nat} {many : Nat} : sI (LSt σ ty nn many H C Sh M φ L) (sZ σ + 4) = some (many, L) := by
  show aU _ _ _ (sZ σ + 4) = _
  exact aU_at
theorem i32_dec (c : Nat) : Int32.ofNat (c + 1) - 1 = Int32.ofNat c := by
  rw [Int32.ofNat_add]
  show Int32.ofNat c + 1 - 1 = _
  rw [Int32.add_sub_cancel]
theorem i32_neg (x : Int32) : x + (-1) = x - 1 := by rw [Int32.sub_eq_add_neg]
theorem g_fs4 (hd : 5 ≤ d) (cty : sC σ 9 ty = true) {tr T : Nat} {TR : Nat → Option Nat} (ty_row : sF σ ty 290 = .ref tr) (htr : sR σ tr = some (2, T, TR)) (hlt : tr < sZ σ) (hT : T < 100000) {td tn rt : Nat → Nat} {S : Nat → Nat} {many rd : Nat} {φ : Nat → Value} {H C Sh : Nat → Int32} {M : Nat → Option Nat}
    (hrow : ∀ i, i < T → TR i = some (td i) ∧ sC σ 1 (td i) = true ∧ sF σ (td i) 38 = .ref (tn i) ∧ sC σ 4 (tn i) = true ∧ sF σ (tn i) 139 = .ref (rt i) ∧ sC σ 4 (rt i) = true ∧ φ (rt i) = .int (Int32.ofNat (S (rt i))) ∧ S (rt i) < many) (hm : many < 100000) :
    ∀ (c : Nat) (L : Nat → Int32), c ≤ T → LeP S rt T c L → ∃ L', LeP S rt T 0 L' ∧ EF X (d - 1) 87 232 [(7, .int (Int32.ofNat c - 1)), (6, .int 0), (5, .int (Int32.ofNat many)), (4, .ref (sZ σ + 3)), (3, .ref (sZ σ + 2)), (2, .ref (sZ σ + 1)), (1, .ref (sZ σ)), (0, .ref ty)] [] (LSt σ ty nn many H C Sh M φ L) none (LSt σ ty nn many H C Sh M φ L') := by
  intro c
  induction c with
  | zero =>
    intro L hc hL
    refine ⟨L, hL, ?_⟩
    refine f_go (pc1 := 234) (lv1 := [(7, .int (Int32.ofNat 0 - 1)), (6, .int 0), (5, .int (Int32.ofNat many)), (4, .ref (sZ σ + 3)), (3, .ref (sZ σ + 2)), (2, .ref (sZ σ + 1)), (1, .ref (sZ σ)), (0, .ref ty)]) (st1 := [.int (Int32.ofNat 0 - 1)]) 1 rfl ?_
    refine f_ifc (t := 266) rfl rfl true rfl ?_
    exact f_rt rfl rfl
  | succ c ih =>
    intro L hc hL
    obtain ⟨L', h1, h2⟩ := ih _ (by omega) hL.step
    refine ⟨L', h1, ?_⟩
    obtain ⟨q1, q2, q3, q4, q5, q6, q7, q8⟩ := hrow c (by omega)
    rw [i32_dec c]
    refine f_go (pc1 := 234) (lv1 := [(7, .int (Int32.ofNat c)), (6, .int 0), (5, .int (Int32.ofNat many)), (4, .ref (sZ σ + 3)), (3, .ref (sZ σ + 2)), (2, .ref (sZ σ + 1)), (1, .ref (sZ σ)), (0, .ref ty)]) (st1 := [.int (Int32.ofNat c)]) 1 rfl ?_
    refine f_ifc (t := 266) rfl rfl false (nat_lt0 (by omega)) ?_
    refine f_go (pc1 := 238) (lv1 := [(7, .int (Int32.ofNat c)), (6, .int 0), (5, .int (Int32.ofNat many)), (4, .ref (sZ σ + 3)), (3, .ref (sZ σ + 2)), (2, .ref (sZ σ + 1)), (1, .ref (sZ σ)), (0, .ref ty)]) (st1 := [.ref ty]) 1 rfl ?_
    refine f_getf rfl rfl (g := 292) rfl cty LSt_least ?_
    refine f_go (pc1 := 242) (lv1 := [(7, .int (Int32.ofNat c)), (6, .int 0), (5, .int (Int32.ofNat many)), (4, .ref (sZ σ + 3)), (3, .ref (sZ σ + 2)), (2, .ref (sZ σ + 1)), (1, .ref (sZ σ)), (0, .ref ty)]) (st1 := [.ref ty, .ref (sZ σ + 4)]) 1 rfl ?_
    refine f_getf rfl rfl (g := 290) rfl cty ty_row ?_
    refine f_go (pc1 := 247) (lv1 := [(7, .int (Int32.ofNat c)), (6, .int 0), (5, .int (Int32.ofNat many)), (4, .ref (sZ σ + 3)), (3, .ref (sZ σ + 2)), (2, .ref (sZ σ + 1)), (1, .ref (sZ σ)), (0, .ref ty)]) (st1 := [.int (Int32.ofNat c), .ref tr, .ref (sZ σ + 4)]) 1 rfl ?_
    refine f_aald rfl ((LSt_R hlt).trans htr) (i := c) (o := (some (td c))) rfl (by omega) (by omega) q1 ?_
    show EF _ _ 87 248 [(7, .int (Int32.ofNat c)), (6, .int 0), (5, .int (Int32.ofNat many)), (4, .ref (sZ σ + 3)), (3, .ref (sZ σ + 2)), (2, .ref (sZ σ + 1)), (1, .ref (sZ σ)), (0, .ref ty)] [.ref (td c), .ref (sZ σ + 4)] _ _ _
    refine f_getf rfl rfl (g := 38) rfl q2 q3 ?_
    refine f_getf rfl rfl (g := 139) rfl q4 q5 ?_
    refine f_getf rfl rfl (g := 142) rfl q6 q7 ?_
    refine f_go (pc1 := 259) (lv1 := [(7, .int (Int32.ofNat c)), (6, .int 0), (5, .int (Int32.ofNat many)), (4, .ref (sZ σ + 3)), (3, .ref (sZ σ + 2)), (2, .ref (sZ σ + 1)), (1, .ref (sZ σ)), (0, .ref ty)]) (st1 := [.int (Int32.ofNat c), .int (Int32.ofNat (S (rt c))), .ref (sZ σ + 4)]) 1 rfl ?_
    refine f_iast rfl LSt_L (i := (S (rt c))) q8 (by omega) ?_
    rw [LSt_put]
    refine f_go (pc1 := 232) (lv1 := [(7, .int ((Int32.ofNat c) + (-1))), (6, .int 0), (5, .int (Int32.ofNat many)), (4, .ref (sZ σ + 3)), (3, .ref (sZ σ + 2)), (2, .ref (sZ σ + 1)), (1, .ref (sZ σ)), (0, .ref ty)]) (st1 := []) 2 rfl ?_
    rw [i32_neg]
    exact h2
/-- findShapes: types of their own are of one shape just if they are alike at every look -/
theorem g_findShapes (hd : 5 ≤ d) (hW : FW σ ns nn kd hi rl on ix el pt it nm) (cty : sC σ 9 ty = true) (ty_nc : sF σ ty 298 = .int (Int32.ofNat nn)) (ty_nodes : sF σ ty 297 = va_rf ns.head?) (hs0 : ∀ a ∈ ns, sF σ a 142 = .int 0) (hroot : ∃ a ∈ ns, ownt kd rl on a = true) (hz : sZ σ + 5 ≤ 256) {tr T : Nat} {TR : Nat → Option Nat} (ty_row : sF σ ty 290 = .ref tr) (htr : sR σ tr = some (2, T, TR)) (hlt : tr < sZ σ) (hT : T < 100000) {td tn rt : Nat → Nat}
    (hrow : ∀ i, i < T → TR i = some (td i) ∧ sC σ 1 (td i) = true ∧ sF σ (td i) 38 = .ref (tn i) ∧ sC σ 4 (tn i) = true ∧ sF σ (tn i) 139 = .ref (rt i) ∧ rt i ∈ ns ∧ ownt kd rl on (rt i) = true) :
    CQ X d 87 [.ref ty] σ (fun v σ1 => v = none ∧ ∃ (many : Nat) (S : Nat → Nat) (H C Sh : Nat → Int32) (M : Nat → Option Nat) (φ : Nat → Value) (L : Nat → Int32), σ1 = LSt σ ty nn many H C Sh M φ L ∧ (∀ x ∈ ns, φ x = .int (Int32.ofNat (S x))) ∧ OI ns (ownt kd rl on) kd hi pt nn S many ∧ Stb ns (ownt kd rl on) kd hi pt S ∧ LeP S rt T 0 L) := by
  have hW' := hW
  obtain ⟨hll, hnd, hln, hnn, hA, hI, hix, hL, hU⟩ := hW'
  refine f_meth (by omega) rfl ?_
  refine f_go (pc1 := 1) (lv1 := [(0, .ref ty)]) (st1 := [.ref ty]) 1 rfl ?_
  refine f_getf rfl rfl (g := 298) rfl cty ty_nc ?_
  refine f_newi rfl (n := nn) (by omega) (by omega) ?_
  refine f_go (pc1 := 8) (lv1 := [(1, .ref (sZ σ)), (0, .ref ty)]) (st1 := [.ref ty]) 2 rfl ?_
  refine f_getf rfl rfl (g := 298) rfl cty ty_nc ?_
  refine f_newi rfl (n := nn) (by show sZ σ + 1 < 256; omega) (by omega) ?_
  refine f_go (pc1 := 15) (lv1 := [(2, .ref (sZ σ + 1)), (1, .ref (sZ σ)), (0, .ref ty)]) (st1 := [.ref ty]) 2 rfl ?_
  refine f_getf rfl rfl (g := 298) rfl cty ty_nc ?_
  refine f_newi rfl (n := nn) (by show sZ σ + 2 < 256; omega) (by omega) ?_
  refine f_go (pc1 := 22) (lv1 := [(3, .ref (sZ σ + 2)), (2, .ref (sZ σ + 1)), (1, .ref (sZ σ)), (0, .ref ty)]) (st1 := [.ref ty]) 2 rfl ?_
  refine f_getf rfl rfl (g := 298) rfl cty ty_nc ?_
  refine f_newq rfl (n := nn) (by show sZ σ + 3 < 256; omega) (by omega) ?_
  refine f_go (pc1 := 39) (lv1 := [(7, .int 0), (6, .int 1), (5, .int 1), (4, .ref (sZ σ + 3)), (3, .ref (sZ σ + 2)), (2, .ref (sZ σ + 1)), (1, .ref (sZ σ)), (0, .ref ty)]) (st1 := []) 7 rfl ?_
  refine f_cv RS_0.symm ?_
  refine f_lv [(7, .int (Int32.ofNat 0)), (6, .int 1), (5, .int (Int32.ofNat 1)), (4, .ref (sZ σ + 3)), (3, .ref (sZ σ + 2)), (2, .ref (sZ σ + 1)), (1, .ref (sZ σ)), (0, .ref ty)] (fl_c rfl (fl_c rfl (fl_c rfl (fl_c rfl (fl_c rfl (fl_c rfl (fl_c rfl (fl_c rfl fl_0)))))))) ?_
  refine g_fs3 hd hW cty ty_nc ty_nodes ?_ (nn + 1) 0 1 (fun _ => 0) _ _ _ _ _ (by omega) (Nat.le_refl _) (fun x hx => hs0 x hx) (fun _ _ _ => rfl) ?_
  · intro rd many S φ H C Sh M hφ hO hst
    have hmm : many ≤ nn := hO.2.1
    refine f_go (pc1 := 210) (lv1 := [(7, .int (Int32.ofNat rd)), (6, .int 0), (5, .int (Int32.ofNat many)), (4, .ref (sZ σ + 3)), (3, .ref (sZ σ + 2)), (2, .ref (sZ σ + 1)), (1, .ref (sZ σ)), (0, .ref ty)]) (st1 := [.int (Int32.ofNat many), .ref ty]) 2 rfl ?_
    refine f_newi rfl (n := many) (by show sZ σ + 4 < 256; omega) (by omega) ?_
    refine f_putf rfl rfl (g := 292) rfl cty rfl ?_
    refine f_go (pc1 := 216) (lv1 := [(7, .int (Int32.ofNat rd)), (6, .int 0), (5, .int (Int32.ofNat many)), (4, .ref (sZ σ + 3)), (3, .ref (sZ σ + 2)), (2, .ref (sZ σ + 1)), (1, .ref (sZ σ)), (0, .ref ty)]) (st1 := [.ref ty]) 1 rfl ?_
    refine f_getf rfl rfl (g := 292) rfl cty sU_at ?_
    refine f_go (pc1 := 220) (lv1 := [(7, .int (Int32.ofNat rd)), (6, .int 0), (5, .int (Int32.ofNat many)), (4, .ref (sZ σ + 3)), (3, .ref (sZ σ + 2)), (2, .ref (sZ σ + 1)), (1, .ref (sZ σ)), (0, .ref ty)]) (st1 := [.int (-1), .ref (sZ σ + 4)]) 1 rfl ?_
    refine f_st rfl rfl rfl rfl (g_fill (by omega) (f := fun _ => 0) (n := many) aU_at (by omega)) ?_
    refine f_go (pc1 := 224) (lv1 := [(7, .int (Int32.ofNat rd)), (6, .int 0), (5, .int (Int32.ofNat many)), (4, .ref (sZ σ + 3)), (3, .ref (sZ σ + 2)), (2, .ref (sZ σ + 1)), (1, .ref (sZ σ)), (0, .ref ty)]) (st1 := [.ref ty]) 1 rfl ?_
    refine f_getf rfl rfl (g := 290) rfl cty ty_row ?_
    refine f_alR rfl ((LSt_R (ty := ty) (nn := nn) (many := many) (H := H) (C := C) (Sh := Sh) (M := M) (φ := φ) (L := fun j => if j < many then -1 else 0) hlt).trans htr) rfl ?_
    refine f_go (pc1 := 232) (lv1 := [(7, .int ((Int32.ofNat T) - 1)), (6, .int 0), (5, .int (Int32.ofNat many)), (4, .ref (sZ σ + 3)), (3, .ref (sZ σ + 2)), (2, .ref (sZ σ + 1)), (1, .ref (sZ σ)), (0, .ref ty)]) (st1 := []) 3 rfl ?_
    refine f_lv [(7, .int (Int32.ofNat T - 1)), (6, .int 0), (5, .int (Int32.ofNat many)), (4, .ref (sZ σ + 3)), (3, .ref (sZ σ + 2)), (2, .ref (sZ σ + 1)), (1, .ref (sZ σ)), (0, .ref ty)] (fl_c rfl (fl_c rfl (fl_c rfl (fl_c rfl (fl_c rfl (fl_c rfl (fl_c rfl (fl_c rfl fl_0)))))))) ?_
    obtain ⟨L', h1, h2⟩ := g_fs4 (X := X) (σ := σ) (nn := nn) hd cty ty_row htr hlt hT (S := S) (many := many) (rd := rd) (φ := φ) (H := H) (C := C) (Sh := Sh) (M := M) (rt := rt) (fun i hi => by
      obtain ⟨q1, q2, q3, q4, q5, q6, q7⟩ := hrow i hi
      exact ⟨q1, q2, q3, q4, q5, (hA _ q6).1, hφ _ q6, hO.1 _ q6 q7⟩) (by omega) T (fun j => if j < many then -1 else 0) (Nat.le_refl _) (fun i h1 h2 => by omega)
    intro t c s ht
    have ht' : Hp t (LSt σ ty nn many H C Sh M φ (fun j => if j < many then -1 else 0)) := ht
    obtain ⟨r, σ', t', mc, ms, ⟨hr, hσ⟩, a, b, c', e⟩ := h2 t c s ht'
    exact ⟨r, σ', t', mc, ms, ⟨hr, many, S, H, C, Sh, M, φ, L', hσ, hφ, hO, hst, h1⟩, a, b, c', e⟩
  · refine ⟨fun x hx ho => Nat.lt_succ_self _, ?_, Nat.le_refl _, fun v hv => ?_, fun B hB x hx y hy hox hoy hb => rfl, fun x hx ho => rfl⟩
    · obtain ⟨a, ha, -⟩ := hroot
      rw [← hln]
      exact List.length_pos_of_mem ha
    · obtain ⟨a, ha, hao⟩ := hroot
      exact ⟨a, ha, hao, show 0 = v by omega⟩
end FSH
