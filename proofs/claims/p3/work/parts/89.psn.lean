/-! contracts of the reference: the whole text -/
/-- the units in spans one behind the other, all of them weighing half the tokens at most -/
def PTW (ν : MS) : Prop := ∃ (c : Nat → Int) (V : Nat → Nat), V 0 = 0 ∧ (∀ i : Nat, (i : Int) < (ν.1 41).toInt → V i ≤ V (i + 1) ∧ (0 ≤ c i ∧ c i ≤ c (i + 1) ∧ c (i + 1) ≤ (ν.1 19).toInt) ∧ PK ν 400 20 3 20 (c i) (c (i + 1)) (V (i + 1) - V i) (ν.2.1 42 i)) ∧ (0 ≤ c (ν.1 41).toNatClampNeg ∧ c (ν.1 41).toNatClampNeg ≤ (ν.1 19).toInt) ∧ 2 * (V (ν.1 41).toNatClampNeg : Int) ≤ (ν.1 32).toInt
theorem PTW.next {ν ζ : MS} {u : Int32} {w : Nat} (hW : PTW ν) (n0 : 0 ≤ (ν.1 41).toInt) (hA : Ag ν ζ 0 (ν.1 19).toInt) (h19 : (ν.1 19).toInt ≤ (ζ.1 19).toInt) (h41 : (ζ.1 41).toInt = (ν.1 41).toInt + 1) (h42 : ∀ i : Nat, (i : Int) < (ν.1 41).toInt → ζ.2.1 42 i = ν.2.1 42 i) (hu : ζ.2.1 42 (ν.1 41).toNatClampNeg = u) (hP : PK ζ 400 20 3 20 (ν.1 19).toInt (ζ.1 19).toInt w u) (hw : 2 * (w : Int) + (ν.1 32).toInt ≤ (ζ.1 32).toInt) : PTW ζ := by
  obtain ⟨c, V, V0, h, hc, hV⟩ := hW
  have e1 := @ic (ν.1 41)
  have e2 := @ic (ζ.1 41)
  obtain ⟨N, hN⟩ : ∃ N, N = (ν.1 41).toNatClampNeg := ⟨_, rfl⟩
  have eZ : (ζ.1 41).toNatClampNeg = N + 1 := by omega
  rw [← hN] at hc hV hu
  have c1 : ∀ i, i ≤ N → (if i ≤ N then c i else (ζ.1 19).toInt) = c i := fun i hi => if_pos hi
  have c2 : (if N + 1 ≤ N then c (N + 1) else (ζ.1 19).toInt) = (ζ.1 19).toInt := if_neg (by omega)
  have w1 : ∀ i, i ≤ N → (if i ≤ N then V i else V N + w) = V i := fun i hi => if_pos hi
  have w2 : (if N + 1 ≤ N then V (N + 1) else V N + w) = V N + w := if_neg (by omega)
  refine ⟨fun i => if i ≤ N then c i else (ζ.1 19).toInt, fun i => if i ≤ N then V i else V N + w, (w1 0 (Nat.zero_le _)).trans V0, fun i hi => ?_, ?_, ?_⟩
  · show (if i ≤ N then V i else V N + w) ≤ (if i + 1 ≤ N then V (i + 1) else V N + w) ∧ (0 ≤ (if i ≤ N then c i else (ζ.1 19).toInt) ∧ (if i ≤ N then c i else (ζ.1 19).toInt) ≤ (if i + 1 ≤ N then c (i + 1) else (ζ.1 19).toInt) ∧ (if i + 1 ≤ N then c (i + 1) else (ζ.1 19).toInt) ≤ (ζ.1 19).toInt) ∧ PK ζ 400 20 3 20 (if i ≤ N then c i else (ζ.1 19).toInt) (if i + 1 ≤ N then c (i + 1) else (ζ.1 19).toInt) ((if i + 1 ≤ N then V (i + 1) else V N + w) - (if i ≤ N then V i else V N + w)) (ζ.2.1 42 i)
    by_cases e : i = N
    · rw [e, c1 N (Nat.le_refl _), c2, w1 N (Nat.le_refl _), w2, hu]
      refine ⟨by omega, ⟨hc.1, by omega, Int.le_refl _⟩, ?_⟩
      rw [show V N + w - V N = w by omega]
      exact PK.wd (Int.le_refl _) hc.2 (Nat.le_refl _) hP
    · have hiN : (i : Int) < (ν.1 41).toInt := by omega
      obtain ⟨k1, ⟨k2, k3, k4⟩, k5⟩ := h i hiN
      rw [c1 i (by omega), c1 (i + 1) (by omega), w1 i (by omega), w1 (i + 1) (by omega), h42 i hiN]
      exact ⟨k1, ⟨k2, k3, by omega⟩, k5.ag (Nat.le_refl _) (Nat.le_refl _) (hA.sub k2 k4)⟩
  · rw [eZ]
    show 0 ≤ (if N + 1 ≤ N then c (N + 1) else (ζ.1 19).toInt) ∧ (if N + 1 ≤ N then c (N + 1) else (ζ.1 19).toInt) ≤ (ζ.1 19).toInt
    rw [c2]
    exact ⟨by omega, Int.le_refl _⟩
  · rw [eZ]
    show 2 * ((if N + 1 ≤ N then V (N + 1) else V N + w : Nat) : Int) ≤ (ζ.1 32).toInt
    rw [w2]
    omega
/-- the units so far -/
def PT (ν : MS) : Prop := PS ν ∧ (0 ≤ (ν.1 41).toInt ∧ (ν.1 41).toInt ≤ 12) ∧ ((ν.1 37).toInt = 0 ∧ (ν.1 38).toInt = 0 ∧ (ν.1 39).toInt = 0 ∧ (ν.1 40).toInt = 0) ∧ (ν.1 19).toInt ≤ 2 * (ν.1 32).toInt ∧
  (∀ i : Nat, (i : Int) < (ν.1 41).toInt → G ν 400 (fun j => (j : Int) < (ν.1 19).toInt) 20 (ν.2.1 42 i)) ∧ (∀ j : Nat, (j : Int) < (ν.1 19).toInt → 0 ≤ (ν.2.1 29 j).toInt ∧ (ν.2.1 29 j).toInt < (ν.1 41).toInt ∧ ν.2.1 28 j = -1) ∧
  (∀ j : Nat, (j : Int) < (ν.1 19).toInt → sp (ν.2.1 20 j) = true → ∃ i : Nat, (i : Int) < (ν.1 41).toInt ∧ (∃ m, Up ν 0 (ν.1 19).toInt m j (ν.2.1 42 i).toNatClampNeg)) ∧ PTW ν
section PSN
variable {X : ev_X} {W : Nat → Prop} {d : Nat} {P : MP}
theorem c_parse (hU : UnC X W P d) {μ : MS} {T : MS → Prop} (hd : 522 ≤ d) (hL : LRow μ.2.2) (hC : CutP μ) (hT : ∀ μ1, kf SPU RPU μ μ1 → T μ1) : MC X W true (d + 1) 301 [.ref P.1] P μ (fun _ μ1 => kf SPU RPU μ μ1 ∧ PT μ1 ∧ 1 ≤ (μ1.1 41).toInt) T := by
  obtain ⟨c1, c2, c3, c4⟩ := id hC
  have key : ∀ (j : Nat) (x1 : Int32) (ν : MS), ((μ.1 8).toInt - (ν.1 32).toInt).toNat < j → kf SPU RPU μ ν → PT ν → (x1 = 0 → 1 ≤ (ν.1 41).toInt) → ME X W true d 301 51 [(0, .ref P.1), (1, .int x1)] [] P ν (fun _ μ1 => kf SPU RPU μ μ1 ∧ PT μ1 ∧ 1 ≤ (μ1.1 41).toInt) T := by
    intro j
    induction j with
    | zero => intro x1 ν hj; omega
    | succ j ih =>
      intro x1 ν hj hk hP h1
      refine v_parse_51 _ ⟨fun h => ⟨hk, hP, h1 h⟩, fun _ => ?_⟩
      obtain ⟨hS, ⟨n0, n1⟩, ⟨z1, z2, z3, z4⟩, hn, hG, hN, hV, hPW⟩ := id hP
      have at0 := hS.at
      have e8 := eq_i (hk.1 8 rfl)
      have t8 := hS.2.2.1.2
      have hT1 : ∀ μ1, kf SPA RPA ν μ1 → T μ1 := fun _ h => hT _ (hk.tr (h.up rfl rfl))
      have bad : ∀ {R : Int32 → MS → Prop}, MC X W true d 295 [.ref P.1] P ν R T := fun {R} => MC.mono (c_unfit (by omega) hS hT1) (fun _ _ h => h.elim) (fun _ h => h)
      have go : ¬ (ν.1 41) = 12 → ¬ srt ν = 203 → MI (ν.1 41) (ν.2.2 42) ∧ MC X W true d 302 [.ref P.1] P (mS1 (mA1 ν 42 (ν.1 41).toNatClampNeg (-1)) 33 (ν.1 41)) (fun _ μ2 => MC X W true d 296 [.ref P.1, .int 203] P (mS1 μ2 41 ((μ2.1 41) + 1)) (fun r3 μ3 => ((¬ r3 = 0 → ME X W true d 301 51 [(0, .ref P.1), (1, .int 0)] [] P μ3 (fun _ μ1 => kf SPU RPU μ μ1 ∧ PT μ1 ∧ 1 ≤ (μ1.1 41).toInt) T) ∧ (r3 = 0 → ME X W true d 301 51 [(0, .ref P.1), (1, .int 1)] [] P μ3 (fun _ μ1 => kf SPU RPU μ μ1 ∧ PT μ1 ∧ 1 ≤ (μ1.1 41).toInt) T))) (fun _ => False)) T := fun h12 h3 => by
        have h12 := ne_i h12
        rw [show (12 : Int32).toInt = 12 from rfl] at h12
        have l42 : ν.2.2 42 = 14 := hS.1.g rfl rfl
        have hcu := @ic (ν.1 41)
        refine ⟨MI.of l42 n0 (by omega), ?_⟩
        have pκ : PS (mS1 (mA1 ν 42 (ν.1 41).toNatClampNeg (-1)) 33 (ν.1 41)) := hS.kf (s := [33]) (r := [42]) ((kf.rf.A rfl).S rfl) rfl rfl rfl rfl rfl rfl rfl rfl
        have kκ : kf SPU RPU μ (mS1 (mA1 ν 42 (ν.1 41).toNatClampNeg (-1)) 33 (ν.1 41)) := (hk.A rfl).S rfl
        have f19 : (mS1 (mA1 ν 42 (ν.1 41).toNatClampNeg (-1)) 33 (ν.1 41)).1 19 = ν.1 19 := rfl
        have f32 : (mS1 (mA1 ν 42 (ν.1 41).toNatClampNeg (-1)) 33 (ν.1 41)).1 32 = ν.1 32 := rfl
        have f41 : (mS1 (mA1 ν 42 (ν.1 41).toNatClampNeg (-1)) 33 (ν.1 41)).1 41 = ν.1 41 := rfl
        have f33 : (mS1 (mA1 ν 42 (ν.1 41).toNatClampNeg (-1)) 33 (ν.1 41)).1 33 = ν.1 41 := rfl
        have fr' : ∀ g, g ≠ 42 → (mS1 (mA1 ν 42 (ν.1 41).toNatClampNeg (-1)) 33 (ν.1 41)).2.1 g = ν.2.1 g := fun g hg => by
          show (bif Nat.beq g 42 then _ else ν.2.1 g) = _
          rw [nb_ne hg]; rfl
        have f42 : ∀ i : Nat, (i : Int) < (ν.1 41).toInt → (mS1 (mA1 ν 42 (ν.1 41).toNatClampNeg (-1)) 33 (ν.1 41)).2.1 42 i = ν.2.1 42 i := fun i hi => upd_off (by omega)
        have fp : psS (mS1 (mA1 ν 42 (ν.1 41).toNatClampNeg (-1)) 33 (ν.1 41)) = psS ν ∧ hiS (mS1 (mA1 ν 42 (ν.1 41).toNatClampNeg (-1)) 33 (ν.1 41)) = hiS ν := by unfold psS hiS psX hiX; exact ⟨rfl, rfl⟩
        have fz : (mS1 (mA1 ν 42 (ν.1 41).toNatClampNeg (-1)) 33 (ν.1 41)).1 37 = ν.1 37 ∧ (mS1 (mA1 ν 42 (ν.1 41).toNatClampNeg (-1)) 33 (ν.1 41)).1 38 = ν.1 38 ∧ (mS1 (mA1 ν 42 (ν.1 41).toNatClampNeg (-1)) 33 (ν.1 41)).1 39 = ν.1 39 ∧ (mS1 (mA1 ν 42 (ν.1 41).toNatClampNeg (-1)) 33 (ν.1 41)).1 40 = ν.1 40 := ⟨rfl, rfl, rfl, rfl⟩
        have fs : ¬ srt (mS1 (mA1 ν 42 (ν.1 41).toNatClampNeg (-1)) 33 (ν.1 41)) = 203 := h3
        generalize mS1 (mA1 ν 42 (ν.1 41).toNatClampNeg (-1)) 33 (ν.1 41) = κ at *
        have i19 := eq_i f19
        have i32 := eq_i f32
        have i41 := eq_i f41
        have ps0 : psS ν = 500 ∧ hiS ν = 380 := by unfold psS hiS psX hiX; omega
        refine MC.mono (hU κ T 400 pκ (by omega) (by omega) (by omega) (fun _ h => hT _ (kκ.tr (h.up rfl rfl))) fs (by omega) (by omega)) (fun _ ζ hζ => ?_) (fun _ h => h)
        obtain ⟨b1, b2, ⟨b3, b4, b5⟩, b6, ⟨b7, b8, b9, b10⟩, b11, u, b12, b13, b14, b15⟩ := hζ
        have g41 : ζ.1 41 = ν.1 41 := (b1.1 41 rfl).trans f41
        have g41i := eq_i g41
        have g8 := eq_i (b1.1 8 rfl)
        have k8 := eq_i (kκ.1 8 rfl)
        have e41 : (ζ.1 41 + 1).toInt = (ζ.1 41).toInt + 1 := ia1 (by omega)
        have hz1 := eq_i fz.1
        have hz2 := eq_i fz.2.1
        have hz3 := eq_i fz.2.2.1
        have hz4 := eq_i fz.2.2.2
        have pζ : PS (mS1 ζ 41 (ζ.1 41 + 1)) := b2.kf (s := [41]) (r := []) (kf.rf.S rfl) rfl rfl rfl rfl rfl rfl rfl rfl
        have kζ : kf SPU RPU μ (mS1 ζ 41 (ζ.1 41 + 1)) := (kκ.tr (b1.up rfl rfl)).S rfl
        have PTζ : PT (mS1 ζ 41 (ζ.1 41 + 1)) := by
          refine ⟨pζ, ⟨by show 0 ≤ (ζ.1 41 + 1).toInt; omega, by show (ζ.1 41 + 1).toInt ≤ 12; omega⟩, ⟨by show (ζ.1 37).toInt = 0; omega, by show (ζ.1 38).toInt = 0; omega, by show (ζ.1 39).toInt = 0; omega, by show (ζ.1 40).toInt = 0; omega⟩, by show (ζ.1 19).toInt ≤ 2 * (ζ.1 32).toInt; omega, fun i hi => ?_, fun j hj => ?_, fun j hj hs => ?_, ?_⟩
          · have hi : (i : Int) < (ζ.1 41 + 1).toInt := hi
            refine G.S (?_ : G ζ 400 (fun j => (j : Int) < (ζ.1 19).toInt) 20 (ζ.2.1 42 i))
            rw [b13]
            have hck := @ic (κ.1 41)
            by_cases e : i = (κ.1 41).toNatClampNeg
            · rw [e, upd_at]
              exact G.mono b12 (Nat.le_refl _) (fun j hj => hj.2) (fun _ _ _ _ _ => rfl) (fun _ _ _ => rfl)
            · rw [upd_off e, f42 i (by omega)]
              refine G.mono (hG i (by omega)) (Nat.le_refl _) (fun j hj => by omega) (fun g g1 g2 j hj => ?_) (fun j hj _ => ?_)
              · rw [b6 g g1 (by omega) j (by omega) (by omega), fr' g (by omega)]
              · rw [b6 27 (by omega) (by omega) j (by omega) (by omega), fr' 27 (by omega)]
          · have hj : (j : Int) < (ζ.1 19).toInt := hj
            show 0 ≤ (ζ.2.1 29 j).toInt ∧ (ζ.2.1 29 j).toInt < (ζ.1 41 + 1).toInt ∧ ζ.2.1 28 j = -1
            rcases b11 j hj with ⟨y1, y2, y3⟩ | ⟨y1, y2, y3⟩
            · rw [y2, y3, fr' 29 (by omega), fr' 28 (by omega)]
              obtain ⟨w1, w2, w3⟩ := hN j (by omega)
              exact ⟨w1, by omega, w3⟩
            · rw [y2, y3, f33]
              exact ⟨n0, by omega, rfl⟩
          · have hj : (j : Int) < (ζ.1 19).toInt := hj
            have hs : sp (ζ.2.1 20 j) = true := hs
            have hck := @ic (κ.1 41)
            have cg : ∀ {m a b : Nat}, Up ζ 0 (ζ.1 19).toInt m a b → Up (mS1 ζ 41 (ζ.1 41 + 1)) 0 (ζ.1 19).toInt m a b := fun h => Up.cg (ν := ζ) (ν1 := mS1 ζ 41 (ζ.1 41 + 1)) rfl h
            by_cases e : (j : Int) < (κ.1 19).toInt
            · have hs2 : sp (ν.2.1 20 j) = true := by
                rw [b6 20 (by omega) (by omega) j (by omega) (by omega), fr' 20 (by omega)] at hs
                exact hs
              obtain ⟨i, i1, m, i2⟩ := hV j (by omega) hs2
              refine ⟨i, by show (i : Int) < (ζ.1 41 + 1).toInt; omega, m, cg ?_⟩
              show Up ζ 0 (ζ.1 19).toInt m j (ζ.2.1 42 i).toNatClampNeg
              rw [b13, upd_off (by omega), f42 i (by omega)]
              exact ((i2.rb (ν1 := κ) (e := -1) (n := (ν.1 19).toInt) (fun g g1 g2 i _ _ => by rw [fr' g (by omega)]) (Int.le_refl _) (Or.inl (by omega))).rb b6 (by omega) (Or.inl (by omega))).wide (Int.le_refl _) (by omega)
            · obtain ⟨m, hm⟩ := b14 j (by omega) hj hs
              refine ⟨(κ.1 41).toNatClampNeg, by show _ < (ζ.1 41 + 1).toInt; omega, m, cg ?_⟩
              show Up ζ 0 (ζ.1 19).toInt m j (ζ.2.1 42 (κ.1 41).toNatClampNeg).toNatClampNeg
              rw [b13, upd_at]
              exact hm.wide (by have := pκ.2.2.2.2.1; omega) (Int.le_refl _)
          · obtain ⟨w9, y1, y2⟩ := b15 20 (by show (20 : Int) + _ = 20; omega)
            have hck := @ic (κ.1 41)
            have hcn := @ic (ν.1 41)
            have h19 : κ.1 19 = ν.1 19 := f19
            refine PTW.next (ζ := mS1 ζ 41 (ζ.1 41 + 1)) (u := u) (w := w9) hPW n0 (fun g g1 g2 j j1 j2 => ?_) (by show _ ≤ (ζ.1 19).toInt; omega) (by show (ζ.1 41 + 1).toInt = _; omega) (fun i hi => ?_) ?_ (PK.ag (ν := ζ) (Nat.le_refl _) (Nat.le_refl _) (fun _ _ _ _ _ _ => Or.inr rfl) (by rw [← h19]; exact y2)) (by show _ ≤ (ζ.1 32).toInt; omega)
            · refine Or.inr ?_
              show ζ.2.1 g j = _
              rw [b6 g g1 (by omega) j (by omega) (by omega), fr' g (by omega)]
            · show ζ.2.1 42 i = _
              rw [b13, upd_off (by omega), f42 i hi]
            · show ζ.2.1 42 (ν.1 41).toNatClampNeg = u
              rw [b13, f41, upd_at]
        refine MC.mono (c_is (by omega) pζ) (fun r3 ν3 h3 => ?_) (fun _ h => h)
        obtain ⟨-, e3⟩ := h3
        rw [e3]
        exact ⟨fun _ => ih _ _ (by show ((μ.1 8).toInt - (ζ.1 32).toInt).toNat < j; omega) kζ PTζ (fun _ => by show 1 ≤ (ζ.1 41 + 1).toInt; omega), fun _ => ih _ _ (by show ((μ.1 8).toInt - (ζ.1 32).toInt).toNat < j; omega) kζ PTζ (fun h => absurd h (by decide))⟩
      refine MC.mono (c_is (by omega) hS) (fun r1 ν1 hr => ?_) (fun _ h => h)
      obtain ⟨rfl, rfl⟩ := hr
      refine ⟨fun h2 => ⟨fun h12 => go h12 (by rw [is_t h2]; decide), fun _ => bad⟩, fun _ => MC.mono (c_is (by omega) hS) (fun r2 ν2 hr => ?_) (fun _ h => h)⟩
      obtain ⟨rfl, rfl⟩ := hr
      exact ⟨fun _ => bad, fun h2 => ⟨fun h12 => go h12 (by rw [is_t h2]; decide), fun _ => bad⟩⟩
  have k0 : kf SPU RPU μ (mS1 (mS1 (mS1 (mS1 (mS1 (mS1 (mS1 (mS1 (mS1 μ 19 0) 32 0) 33 0) 34 0) 41 0) 37 0) 38 0) 39 0) 40 0) := ((((((((kf.rf.S rfl).S rfl).S rfl).S rfl).S rfl).S rfl).S rfl).S rfl).S rfl
  refine me_meth (by omega) rfl (v_parse_0 (MC.mono (c_look (by omega) hL (by show (0 : Int) ≤ (0 : Int32).toInt; decide) (by show (0 : Int32).toInt < 6002; decide) (fun _ h => hT _ (k0.tr (h.up rfl rfl)))) (fun r ν hr => ?_) (fun _ h => h)))
  obtain ⟨rfl, hs⟩ := hr
  refine key _ 1 _ (Nat.lt_succ_self _) k0 ⟨⟨hL, hC.kf (s := [19, 32, 33, 34, 41, 37, 38, 39, 40]) (r := []) (((((((((kf.rf.S rfl).S rfl).S rfl).S rfl).S rfl).S rfl).S rfl).S rfl).S rfl) rfl rfl, ⟨by show (0 : Int) ≤ (0 : Int32).toInt; decide, by show (0 : Int32).toInt < (μ.1 8).toInt; rw [show (0 : Int32).toInt = 0 from rfl]; omega⟩, hs, by show (0 : Int) ≤ (0 : Int32).toInt; decide, ⟨by show (0 : Int) ≤ (0 : Int32).toInt; decide, by show (0 : Int32).toInt ≤ 20; decide⟩, ⟨by show (0 : Int) ≤ (0 : Int32).toInt; decide, by show (0 : Int32).toInt ≤ 20; decide⟩, ⟨by show (0 : Int) ≤ (0 : Int32).toInt; decide, by show (0 : Int32).toInt ≤ 20; decide⟩, ⟨by show (0 : Int) ≤ (0 : Int32).toInt; decide, by show (0 : Int32).toInt ≤ 20; decide⟩⟩, ⟨by show (0 : Int) ≤ (0 : Int32).toInt; decide, by show (0 : Int32).toInt ≤ 12; decide⟩, ⟨rfl, rfl, rfl, rfl⟩, by show (0 : Int32).toInt ≤ 2 * (0 : Int32).toInt; decide, fun i hi => ?_, fun j hj => ?_, fun j hj _ => ?_, fun _ => 0, fun _ => 0, rfl, fun i hi => ?_, ⟨Int.le_refl _, by show (0 : Int) ≤ (0 : Int32).toInt; decide⟩, by show (2 * ((0 : Nat) : Int)) ≤ (0 : Int32).toInt; decide⟩ (fun h => absurd h (by decide))
  · have hi : (i : Int) < (0 : Int32).toInt := hi
    rw [show (0 : Int32).toInt = 0 from rfl] at hi
    omega
  · have hj : (j : Int) < (0 : Int32).toInt := hj
    rw [show (0 : Int32).toInt = 0 from rfl] at hj
    omega
  · have hj : (j : Int) < (0 : Int32).toInt := hj
    rw [show (0 : Int32).toInt = 0 from rfl] at hj
    omega
  · have hi : (i : Int) < (0 : Int32).toInt := hi
    rw [show (0 : Int32).toInt = 0 from rfl] at hi
    omega
end PSN
