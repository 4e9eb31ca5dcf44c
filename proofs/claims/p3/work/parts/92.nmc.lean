/-! contracts of the reference: NAMEs that come again in a row -/
section NMC
variable {X : ev_X} {W : Nat → Prop} {d : Nat} {P : MP} {μ : MS} {T : MS → Prop} {m : Nat}
theorem c_again {row : Int32} (hd : 2 ≤ d) (hL : LRow μ.2.2) (hR : RwL μ m row) : MC X W true d 352 [.ref P.1, .int row] P μ (fun _ μ1 => NF μ μ1 ∧ μ1.2.1 = μ.2.1) T := by
  have key : ∀ (m : Nat) (x : Int32) (k : Nat) (ν : MS), ν.2.1 = μ.2.1 → NF μ ν → Wn μ 0 16000 k row x → RwL μ m x → ME X W true (d - 1) 352 2 [(0, .ref P.1), (1, .int row), (2, .int x)] [] P ν (fun _ μ1 => NF μ μ1 ∧ μ1.2.1 = μ.2.1) T := by
    intro m
    induction m with
    | zero =>
      intro x k ν er hN hW hx
      have hx : x = -1 := hx
      subst hx
      exact v_again_2 _ _ ⟨fun _ => ⟨hN, er⟩, fun h => absurd h (by decide)⟩
    | succ m ih =>
      intro x k ν er hN hW hx
      rcases hx with hx | ⟨⟨h0, h1⟩, hx⟩
      · subst hx
        exact v_again_2 _ _ ⟨fun _ => ⟨hN, er⟩, fun h => absurd h (by decide)⟩
      have mi : ∀ {g : Nat} {i : Int32} {κ : MS}, NF μ κ → rk g = true → rlen g = 16000 → 0 ≤ i.toInt → i.toInt < 16000 → MI i (κ.2.2 g) := fun hκ hg hr a b => MI.of ((hL.to hκ.1).g hg hr) a b
      have hW2 : Wn μ 0 16000 (k + 1) row (μ.2.1 27 x.toNatClampNeg) := hW.snoc (Int.le_refl _) ⟨h0, h0, h1⟩ rfl
      have fin : ∀ x3 : Int32, (x3 = 0 → (MI x (ν.2.2 27) ∧ ME X W true (d - 1) 352 2 [(0, .ref P.1), (1, .int row), (2, .int (ν.2.1 27 x.toNatClampNeg))] [] P ν (fun _ μ1 => NF μ μ1 ∧ μ1.2.1 = μ.2.1) T)) ∧ (¬ x3 = 0 → (MI x (ν.2.2 21) ∧ MC X W true (d - 1) 290 [.ref P.1, .int 5, .int (ν.2.1 21 x.toNatClampNeg)] P ν (fun _ μ1 => (MI x (μ1.2.2 27) ∧ ME X W true (d - 1) 352 2 [(0, .ref P.1), (1, .int row), (2, .int (μ1.2.1 27 x.toNatClampNeg))] [] P μ1 (fun _ μ1 => NF μ μ1 ∧ μ1.2.1 = μ.2.1) T)) (fun _ => False))) := fun x3 => by
        refine ⟨fun _ => ⟨mi hN rfl rfl h0 h1, by rw [er]; exact ih _ _ ν er hN hW2 hx⟩, fun _ => ⟨mi hN rfl rfl h0 h1, MC.mono (c_rule (by omega)) (fun _ κ hk => ?_) (fun _ h => h)⟩⟩
        obtain ⟨k1, k2⟩ := hk
        have eκ : κ.2.1 = μ.2.1 := by
          rw [← er]
          funext g
          exact k1.2.1 g rfl
        have hκ : NF μ κ := hN.tr ⟨k1.up rfl rfl, fun _ => k2.resolve_left (by decide), fun j => Or.inl (by rw [k1.2.1 28 rfl])⟩
        exact ⟨mi hκ rfl rfl h0 h1, by rw [eκ]; exact ih _ _ κ eκ hκ hW2 hx⟩
      have inner : ∀ (i : Nat) (x3 y : Int32), Wn μ 0 16000 i y x → ME X W true (d - 1) 352 11 [(0, .ref P.1), (1, .int row), (2, .int x), (3, .int x3), (4, .int y)] [] P ν (fun _ μ1 => NF μ μ1 ∧ μ1.2.1 = μ.2.1) T := by
        intro i
        induction i with
        | zero =>
          intro x3 y hy
          have hy : y = x := hy
          subst hy
          exact v_again_11 _ _ _ _ ⟨fun _ => fin x3, fun h => absurd rfl h⟩
        | succ i ih2 =>
          intro x3 y hy
          obtain ⟨⟨y0, -, y1⟩, hy⟩ := hy
          have nx : ∀ b : Int32, MI y (ν.2.2 27) ∧ ME X W true (d - 1) 352 11 [(0, .ref P.1), (1, .int row), (2, .int x), (3, .int b), (4, .int (ν.2.1 27 y.toNatClampNeg))] [] P ν (fun _ μ1 => NF μ μ1 ∧ μ1.2.1 = μ.2.1) T := fun b => ⟨mi hN rfl rfl y0 y1, by rw [er]; exact ih2 b _ hy⟩
          exact v_again_11 _ _ _ _ ⟨fun _ => fin x3, fun _ => ⟨fun _ => nx 1, fun _ => ⟨mi hN rfl rfl y0 y1, mi hN rfl rfl h0 h1, fun _ => nx 0, fun _ => nx 1⟩⟩⟩
      exact v_again_2 _ _ ⟨fun h => by omega, fun _ => inner k 0 row hW⟩
  exact me_meth (by omega) rfl (v_again_0 _ (key m row 0 μ rfl NF.rf rfl hR))
end NMC
