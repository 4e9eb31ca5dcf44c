/-! contracts of the reference: declarations are told: what it says, and what stays; one symbol told -/
/-- on the row of declarations of a unit -/
def DcO (μ : MS) (w : Nat) (d : Int32) : Prop := (w : Int) < (μ.1 41).toInt ∧ ∃ m, Onl (μ.2.1 27) m (μ.2.1 24 (μ.2.1 42 w).toNatClampNeg) d ∧ 0 ≤ d.toInt
/-- what a symbol stands for -/
def SyF (μ : MS) (B : Int) (ν : MS) (s : Nat) : Prop := ν.2.1 45 s = 2 ∨ ν.2.1 45 s = 8 ∨
  ((ν.2.1 45 s = 3 ∨ ν.2.1 45 s = 4) ∧ (∃ w, DcO μ w (ν.2.1 46 s)) ∧ μ.2.1 20 (ν.2.1 46 s).toNatClampNeg = ν.2.1 45 s ∧ (0 ≤ (ν.2.1 47 s).toInt ∧ (ν.2.1 47 s).toInt < (ν.1 60).toInt) ∧ ν.2.1 61 (ν.2.1 47 s).toNatClampNeg = ν.2.1 46 s) ∨
  (ν.2.1 45 s = 7 ∧ (∃ w d m, DcO μ w d ∧ μ.2.1 20 d.toNatClampNeg = 7 ∧ Onl (μ.2.1 27) m (μ.2.1 22 d.toNatClampNeg) (ν.2.1 46 s) ∧ VX ν 0 (μ.2.1 23 d.toNatClampNeg) (ν.2.1 47 s)) ∧ (0 ≤ (ν.2.1 46 s).toInt ∧ (ν.2.1 46 s).toInt < B) ∧ ν.2.1 28 (ν.2.1 46 s).toNatClampNeg = ν.2.1 47 s) ∨
  (ν.2.1 45 s = 9 ∧ (∃ w, DcO μ w (ν.2.1 46 s)) ∧ μ.2.1 20 (ν.2.1 46 s).toNatClampNeg = 9 ∧ 1 ≤ (ν.2.1 47 s).toInt ∧ (ν.2.1 47 s).toInt ≤ (ν.1 56).toInt)
/-- a PROCEDURE: where it is told, and where its body is -/
def PrF (μ : MS) (B : Int) (ν : MS) (p : Nat) : Prop := ((∃ w, DcO μ w (ν.2.1 57 p)) ∧ μ.2.1 20 (ν.2.1 57 p).toNatClampNeg = 9) ∧ (ν.2.1 58 p = -1 ∨ ((∃ w, DcO μ w (ν.2.1 58 p) ∧ μ.2.1 26 (μ.2.1 42 w).toNatClampNeg = 1) ∧ μ.2.1 20 (ν.2.1 58 p).toNatClampNeg = 9 ∧ (ν.2.1 58 p).toInt < B ∧ (ν.2.1 28 (ν.2.1 58 p).toNatClampNeg).toInt = (p : Int)))
/-- a TYPE that was told -/
def TyF (μ ν : MS) (k : Nat) : Prop := (∃ w, DcO μ w (ν.2.1 61 k)) ∧ (μ.2.1 20 (ν.2.1 61 k).toNatClampNeg = 3 ∨ μ.2.1 20 (ν.2.1 61 k).toNatClampNeg = 4)
/-- telling: counts go up, what was told stays, symbols of nodes change among some of them -/
def DF (C : Nat → Prop) (μ ν : MS) : Prop := kf [17, 18, 43, 52, 56, 59, 60] [28, 44, 45, 46, 47, 48, 49, 50, 51, 53, 54, 55, 57, 58, 61] μ ν ∧ (¬ μ.1 17 = 0 → ¬ ν.1 17 = 0) ∧ ((μ.1 43).toInt ≤ (ν.1 43).toInt ∧ (μ.1 52).toInt ≤ (ν.1 52).toInt ∧ (μ.1 56).toInt ≤ (ν.1 56).toInt ∧ (μ.1 60).toInt ≤ (ν.1 60).toInt) ∧ (∀ s : Nat, (s : Int) < (μ.1 43).toInt → ν.2.1 44 s = μ.2.1 44 s ∧ ν.2.1 45 s = μ.2.1 45 s ∧ ν.2.1 46 s = μ.2.1 46 s ∧ ν.2.1 47 s = μ.2.1 47 s) ∧ (∀ v : Nat, (v : Int) < (μ.1 52).toInt → ν.2.1 53 v = μ.2.1 53 v ∧ ν.2.1 54 v = μ.2.1 54 v) ∧ (∀ k : Nat, (k : Int) < (μ.1 60).toInt → ν.2.1 61 k = μ.2.1 61 k) ∧ (∀ p : Nat, (p : Int) ≤ (μ.1 56).toInt → ν.2.1 57 p = μ.2.1 57 p) ∧ ∀ j, C j ∨ ν.2.1 28 j = μ.2.1 28 j
section NNG
variable {X : ev_X} {W : Nat → Prop} {d : Nat} {P : MP} {μ ν κ : MS} {B n : Int} {C C' : Nat → Prop} {T : MS → Prop} {s p k : Nat}
theorem DF.rf : DF C μ μ := ⟨kf.rf, id, ⟨Int.le_refl _, Int.le_refl _, Int.le_refl _, Int.le_refl _⟩, fun _ _ => ⟨rfl, rfl, rfl, rfl⟩, fun _ _ => ⟨rfl, rfl⟩, fun _ _ => rfl, fun _ _ => rfl, fun _ => Or.inr rfl⟩
theorem DF.tr (h : DF C μ ν) (k : DF C ν κ) : DF C μ κ := by
  obtain ⟨h1, h2, ⟨h3, h4, h5, h6⟩, h7, h8, h9, h10, h11⟩ := h
  obtain ⟨k1, k2, ⟨k3, k4, k5, k6⟩, k7, k8, k9, k10, k11⟩ := k
  refine ⟨h1.tr k1, fun e => k2 (h2 e), ⟨by omega, by omega, by omega, by omega⟩, fun s hs => ?_, fun v hv => ?_, fun i hi => ?_, fun i hi => ?_, fun j => ?_⟩
  · obtain ⟨a1, a2, a3, a4⟩ := h7 s hs
    obtain ⟨b1, b2, b3, b4⟩ := k7 s (by omega)
    exact ⟨b1.trans a1, b2.trans a2, b3.trans a3, b4.trans a4⟩
  · obtain ⟨a1, a2⟩ := h8 v hv
    obtain ⟨b1, b2⟩ := k8 v (by omega)
    exact ⟨b1.trans a1, b2.trans a2⟩
  · exact (k9 i (by omega)).trans (h9 i hi)
  · exact (k10 i (by omega)).trans (h10 i hi)
  · rcases k11 j with e | e
    · exact Or.inl e
    · exact (h11 j).imp id (fun e2 => e.trans e2)
theorem DF.sub (h : DF C μ ν) (hC : ∀ j, C j → C' j) : DF C' μ ν := ⟨h.1, h.2.1, h.2.2.1, h.2.2.2.1, h.2.2.2.2.1, h.2.2.2.2.2.1, h.2.2.2.2.2.2.1, fun j => (h.2.2.2.2.2.2.2 j).imp (hC j) id⟩
theorem VX.df {a b v : Int32} (h : VX μ a b v) (hN : DF C μ ν) : VX ν a b v := by
  obtain ⟨⟨h1, h2⟩, h3, h4⟩ := h
  have hc := @ic v
  obtain ⟨e1, e2⟩ := hN.2.2.2.2.1 v.toNatClampNeg (by omega)
  exact ⟨⟨h1, by have := hN.2.2.1.2.1; omega⟩, e1.trans h3, e2.trans h4⟩
theorem SyF.df (h : SyF μ B ν s) (hs : (s : Int) < (ν.1 43).toInt) (hN : DF C ν κ) (hC : ∀ j : Nat, C j → B ≤ (j : Int)) : SyF μ B κ s := by
  obtain ⟨e1, e2, e3, e4⟩ := hN.2.2.2.1 s hs
  have c1 := hN.2.2.1
  unfold SyF
  rw [e2, e3, e4]
  rcases h with h | h | ⟨h1, h2, h3, ⟨h4, h5⟩, h6⟩ | ⟨h1, ⟨w, d, m, h2, h3, h4, h5⟩, ⟨h6, h7⟩, h8⟩ | ⟨h1, h2, h3, h4, h5⟩
  · exact Or.inl h
  · exact Or.inr (Or.inl h)
  · have hc := @ic (ν.2.1 47 s)
    exact Or.inr (Or.inr (Or.inl ⟨h1, h2, h3, ⟨h4, by omega⟩, (hN.2.2.2.2.2.1 _ (by omega)).trans h6⟩))
  · have hc := @ic (ν.2.1 46 s)
    refine Or.inr (Or.inr (Or.inr (Or.inl ⟨h1, ⟨w, d, m, h2, h3, h4, h5.df hN⟩, ⟨h6, h7⟩, ?_⟩)))
    rcases hN.2.2.2.2.2.2.2 (ν.2.1 46 s).toNatClampNeg with e | e
    · have := hC _ e; omega
    · exact e.trans h8
  · exact Or.inr (Or.inr (Or.inr (Or.inr ⟨h1, h2, h3, h4, by omega⟩)))
theorem SyF.up {B' : Int} (h : SyF μ B ν s) (hB : B ≤ B') : SyF μ B' ν s := by
  rcases h with h | h | h | ⟨h1, h2, ⟨h6, h7⟩, h8⟩ | h
  · exact Or.inl h
  · exact Or.inr (Or.inl h)
  · exact Or.inr (Or.inr (Or.inl h))
  · exact Or.inr (Or.inr (Or.inr (Or.inl ⟨h1, h2, ⟨h6, by omega⟩, h8⟩)))
  · exact Or.inr (Or.inr (Or.inr (Or.inr h)))
theorem PrF.df (h : PrF μ B ν p) (hs : (p : Int) ≤ (ν.1 56).toInt) (hN : DF C ν κ) (hC : ∀ j : Nat, C j → B ≤ (j : Int)) (h58 : κ.2.1 58 p = ν.2.1 58 p) : PrF μ B κ p := by
  unfold PrF
  rw [hN.2.2.2.2.2.2.1 p hs, h58]
  refine ⟨h.1, h.2.imp id (fun ⟨h1, h2, h3, h4⟩ => ⟨h1, h2, h3, ?_⟩)⟩
  obtain ⟨w, ⟨-, m, -, h0⟩, -⟩ := h1
  have hc := @ic (ν.2.1 58 p)
  rcases hN.2.2.2.2.2.2.2 (ν.2.1 58 p).toNatClampNeg with e | e
  · have := hC _ e; omega
  · rw [e]; exact h4
theorem PrF.up {B' : Int} (h : PrF μ B ν p) (hB : B ≤ B') : PrF μ B' ν p := ⟨h.1, h.2.imp id (fun ⟨h1, h2, h3, h4⟩ => ⟨h1, h2, by omega, h4⟩)⟩
theorem TyF.df (h : TyF μ ν k) (hs : (k : Int) < (ν.1 60).toInt) (hN : DF C ν κ) : TyF μ κ k := by
  unfold TyF
  rw [hN.2.2.2.2.2.1 k hs]
  exact h
/-- one symbol more of a unit -/
def TlP (u a k e w : Int32) (ν κ : MS) : Prop := kf [17, 18, 43] [44, 45, 46, 47, 49] ν κ ∧ (¬ ν.1 17 = 0 → ¬ κ.1 17 = 0) ∧ (κ.1 43).toInt = (ν.1 43).toInt + 1 ∧ (κ.2.1 45 (ν.1 43).toNatClampNeg = k ∧ κ.2.1 46 (ν.1 43).toNatClampNeg = e ∧ κ.2.1 47 (ν.1 43).toNatClampNeg = w) ∧ (∀ s : Nat, s ≠ (ν.1 43).toNatClampNeg → κ.2.1 44 s = ν.2.1 44 s ∧ κ.2.1 45 s = ν.2.1 45 s ∧ κ.2.1 46 s = ν.2.1 46 s ∧ κ.2.1 47 s = ν.2.1 47 s) ∧ κ.2.1 49 u.toNatClampNeg = κ.1 43 ∧ ∀ i : Nat, i ≠ u.toNatClampNeg → κ.2.1 49 i = ν.2.1 49 i
theorem TlP.df {u a k e w : Int32} (h : TlP u a k e w ν κ) (h0 : 0 ≤ (ν.1 43).toInt) : DF C ν κ := by
  obtain ⟨h1, h2, h3, h4, h5, h6, h7⟩ := h
  have hc := @ic (ν.1 43)
  refine ⟨h1.up rfl rfl, h2, ⟨by omega, by rw [h1.1 52 rfl]; exact Int.le_refl _, by rw [h1.1 56 rfl]; exact Int.le_refl _, by rw [h1.1 60 rfl]; exact Int.le_refl _⟩, fun s hs => h5 s (by omega), fun v _ => ⟨by rw [h1.2.1 53 rfl], by rw [h1.2.1 54 rfl]⟩, fun i _ => by rw [h1.2.1 61 rfl], fun i _ => by rw [h1.2.1 57 rfl], fun j => Or.inr (by rw [h1.2.1 28 rfl])⟩
theorem c_symP {u a k e w : Int32} (hd : 1 ≤ d) (hL : LRow ν.2.2) (h0 : 0 ≤ (ν.1 43).toInt) (h1 : (ν.1 43).toInt < 3200) (u0 : 0 ≤ u.toInt) (u1 : u.toInt < 14) {κ0 : MS} (hκ0 : kf [17, 18] [] κ0 ν) (hf : ¬ κ0.1 17 = 0 → ¬ ν.1 17 = 0) : MC X W true d 340 [.ref P.1, .int a, .int k, .int e, .int w] P ν (fun _ μ1 => MI u (μ1.2.2 49) ∧ TlP u a k e w κ0 (mA1 μ1 49 u.toNatClampNeg (μ1.1 43))) T := by
  refine MC.mono (c_symbol hd hL h0 h1) (fun _ μ1 hm => ?_) (fun _ h => h)
  subst hm
  have hk : kf [43] [44, 45, 46, 47] ν (symS ν a k e w) := ((((kf.rf.A rfl).A rfl).A rfl).A rfl).S rfl
  have e43 : κ0.1 43 = ν.1 43 := (hκ0.1 43 rfl).symm
  have ei : (ν.1 43 + 1).toInt = (ν.1 43).toInt + 1 := ia1 (by omega)
  have r : ∀ g, κ0.2.1 g = ν.2.1 g := fun g => (hκ0.2.1 g rfl).symm
  refine ⟨MI.of ((hL.to hk).g rfl rfl : _ = 14) u0 (by omega), ?_, ?_, ?_, ⟨?_, ?_, ?_⟩, fun s hs => ?_, ?_, fun i hi => ?_⟩
  · exact (hκ0.up rfl rfl).tr ((hk.up rfl rfl).A rfl)
  · intro e; exact hf e
  · rw [e43]; exact ei
  · rw [e43]; exact upd_at
  · rw [e43]; exact upd_at
  · rw [e43]; exact upd_at
  · rw [e43] at hs
    rw [r 44, r 45, r 46, r 47]
    exact ⟨upd_off hs, upd_off hs, upd_off hs, upd_off hs⟩
  · exact upd_at
  · rw [r 49]; exact upd_off hi
theorem c_tell {u a k e w l : Int32} (hd : 3 ≤ d) (hL : LRow ν.2.2) (hU : US n ν) (u0 : 0 ≤ u.toInt) (u1 : u.toInt < n) (h1 : (ν.1 43).toInt < 3200) : MC X W true d 348 [.ref P.1, .int u, .int a, .int k, .int e, .int w, .int l] P ν (fun _ κ => TlP u a k e w ν κ) T := by
  have hn := hU.2.1
  have h0 := hU.1.1
  refine me_meth (by omega) rfl (v_tell_0 _ _ _ _ _ _ (MC.mono (c_isThere (by omega) hL hU u0 u1) (fun r κ hκ => ?_) (fun _ h => h)))
  subst hκ
  refine ⟨fun _ => c_symP (by omega) hL h0 h1 u0 (by omega) kf.rf id, fun _ => MC.mono (c_rule (by omega)) (fun _ κ2 hk => ?_) (fun _ h => h)⟩
  obtain ⟨k1, k2⟩ := hk
  have e43 := eq_i (k1.1 43 rfl)
  exact c_symP (by omega) (hL.to k1) (by omega) (by omega) u0 (by omega) k1 (fun _ => k2.resolve_left (by decide))
end NNG
