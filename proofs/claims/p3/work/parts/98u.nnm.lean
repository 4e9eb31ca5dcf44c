/-! contracts of the reference: sets of EXCEPTIONs of SIGNATUREs -/
section NNT
variable {X : ev_X} {W : Nat → Prop} {d : Nat} {P : MP} {μ ν κ ζ : MS} {T : MS → Prop} {x y q : Int32}
theorem sig_ex (hx : Nd ζ 8 x) : ∃ m, Lst (fun q => Nd ζ 7 q ∧ QK ζ q 8 8) (ζ.2.1 27) m (ζ.2.1 24 x.toNatClampNeg) := by
  have hk : ([12] : List Int32).contains (ζ.2.1 20 x.toNatClampNeg) = true := hx.kind
  have ek : ζ.2.1 20 x.toNatClampNeg = 12 := by simpa using hk
  have h2 := hx.fld (f := 2) (by omega)
  rw [ek] at h2
  obtain ⟨m, h2⟩ : ∃ m, Lst (Nd ζ 7) (ζ.2.1 27) m (ζ.2.1 24 x.toNatClampNeg) := h2
  obtain ⟨m', h3⟩ := hx.ln.2.2.1 ek
  exact ⟨m, Lst.and (fun _ h => h.in.1) h2 h3⟩
theorem c_number {k o : Int32} (hB : TB μ ζ) (hF : TF ζ ν) (hd : 1 ≤ d) (hq : Nd ζ 7 q) (hk : QK ζ q k o) : MC X W true d 376 [.ref P.1, .int q] P ν (fun r ν1 => ν1 = ν ∧ r = ζ.2.1 47 (ζ.2.1 28 q.toNatClampNeg).toNatClampNeg) T := by
  obtain ⟨-, q2, q3, -, q5⟩ := hk
  have hU := hB.2.1.2.1.1.2.1.1
  have e28 : ν.2.1 28 q.toNatClampNeg = ζ.2.1 28 q.toNatClampNeg := by
    exact hF.k28 q5 (by decide)
  refine me_meth hd rfl (v_numberOf_0 _ ⟨fun _ => ⟨hq.mi hB hF rfl rfl, ?_, rfl, ?_⟩, fun h => by have := hq.in.1; omega⟩)
  · rw [e28]
    exact MI.of ((hF.1.2.2).g rfl rfl : _ = 3200) q2 (by omega)
  · rw [e28, hF.row (g := 47) rfl]
theorem he_7 (hB : TB μ ζ) (hF : TF ζ ν) (hd : 1 ≤ d) : ∀ (m : Nat) (x3 : Int32), Lst (fun q => Nd ζ 7 q ∧ QK ζ q 8 8) (ζ.2.1 27) m x3 → ME X W true d 380 7 [(0, .ref P.1), (1, .int x), (2, .int y), (3, .int x3)] [] P ν (fun r ν1 => ν1 = ν ∧ (r = 0 ∨ r = 1)) T
  | 0, x3, hL => by
    have hL : x3 = -1 := hL
    subst hL
    exact v_hasException_7 _ _ _ ⟨fun _ => ⟨rfl, Or.inl rfl⟩, fun h => absurd h (by decide)⟩
  | m + 1, x3, hL => by
    rcases hL with hL | ⟨⟨h1, h2⟩, h3⟩
    · subst hL
      exact v_hasException_7 _ _ _ ⟨fun _ => ⟨rfl, Or.inl rfl⟩, fun h => absurd h (by decide)⟩
    refine v_hasException_7 _ _ _ ⟨fun h => by have := h1.in.1; omega, fun _ => MC.mono (c_number hB hF hd h1 h2) (fun r κ hk => ?_) (fun _ h => h)⟩
    have e := hk.1.symm
    subst e
    refine ⟨fun _ => ⟨h1.mi hB hF rfl rfl, ?_⟩, fun _ => ⟨rfl, Or.inr rfl⟩⟩
    rw [hF.row (g := 27) rfl]
    exact he_7 hB hF hd m _ h3
theorem c_hasEx (hB : TB μ ζ) (hF : TF ζ ν) (hd : 2 ≤ d) (hx : Nd ζ 8 x) : MC X W true d 380 [.ref P.1, .int x, .int y] P ν (fun r ν1 => ν1 = ν ∧ (r = 0 ∨ r = 1)) T := by
  obtain ⟨m, hm⟩ := sig_ex hx
  refine me_meth (by omega) rfl (v_hasException_0 _ _ ⟨hx.mi hB hF rfl rfl, ?_⟩)
  rw [hF.k24 (Or.inl rfl) (sfx_of (nk12 hx) rfl)]
  exact he_7 hB hF (by omega) m _ hm
theorem sw_7 (hB : TB μ ζ) (hF : TF ζ ν) (hd : 2 ≤ d) (hy : Nd ζ 8 y) : ∀ (m : Nat) (x3 : Int32), Lst (fun q => Nd ζ 7 q ∧ QK ζ q 8 8) (ζ.2.1 27) m x3 → ME X W true d 381 7 [(0, .ref P.1), (1, .int x), (2, .int y), (3, .int x3)] [] P ν (fun r ν1 => ν1 = ν ∧ (r = 0 ∨ r = 1)) T
  | 0, x3, hL => by
    have hL : x3 = -1 := hL
    subst hL
    exact v_setWithin_7 _ _ _ ⟨fun _ => ⟨rfl, Or.inr rfl⟩, fun h => absurd h (by decide)⟩
  | m + 1, x3, hL => by
    rcases hL with hL | ⟨⟨h1, h2⟩, h3⟩
    · subst hL
      exact v_setWithin_7 _ _ _ ⟨fun _ => ⟨rfl, Or.inr rfl⟩, fun h => absurd h (by decide)⟩
    refine v_setWithin_7 _ _ _ ⟨fun h => by have := h1.in.1; omega, fun _ => MC.mono (c_number hB hF (by omega) h1 h2) (fun r κ hk => ?_) (fun _ h => h)⟩
    have e := hk.1.symm
    subst e
    refine MC.mono (c_hasEx hB hF hd hy) (fun r2 κ2 hk2 => ?_) (fun _ h => h)
    have e := hk2.1.symm
    subst e
    refine ⟨fun _ => ⟨h1.mi hB hF rfl rfl, ?_⟩, fun _ => ⟨rfl, Or.inl rfl⟩⟩
    rw [hF.row (g := 27) rfl]
    exact sw_7 hB hF hd hy m _ h3
theorem c_setWithin (hB : TB μ ζ) (hF : TF ζ ν) (hd : 3 ≤ d) (hx : Nd ζ 8 x) (hy : Nd ζ 8 y) : MC X W true d 381 [.ref P.1, .int x, .int y] P ν (fun r ν1 => ν1 = ν ∧ (r = 0 ∨ r = 1)) T := by
  obtain ⟨m, hm⟩ := sig_ex hx
  refine me_meth (by omega) rfl (v_setWithin_0 _ _ ⟨hx.mi hB hF rfl rfl, ?_⟩)
  rw [hF.k24 (Or.inl rfl) (sfx_of (nk12 hx) rfl)]
  exact sw_7 hB hF (by omega) hy m _ hm
theorem c_sameSets (hB : TB μ ζ) (hF : TF ζ ν) (hd : 4 ≤ d) (hx : Nd ζ 8 x) (hy : Nd ζ 8 y) : MC X W true d 382 [.ref P.1, .int x, .int y] P ν (fun r ν1 => ν1 = ν ∧ (r = 0 ∨ r = 1)) T := by
  refine me_meth (by omega) rfl (v_sameSets_0 _ _ (MC.mono (c_setWithin hB hF (by omega) hx hy) (fun r κ hk => ?_) (fun _ h => h)))
  obtain ⟨rfl, -⟩ := hk
  refine ⟨fun _ => ⟨rfl, Or.inl rfl⟩, fun _ => MC.mono (c_setWithin hB hF (by omega) hy hx) (fun r2 κ2 hk2 => ?_) (fun _ h => h)⟩
  obtain ⟨rfl, -⟩ := hk2
  exact ⟨fun _ => ⟨rfl, Or.inl rfl⟩, fun _ => ⟨rfl, Or.inr rfl⟩⟩
end NNT
