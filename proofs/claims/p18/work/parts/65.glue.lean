/-! a run in the kernel over a heap with numbers not known, taken over to the flat picture -/
theorem gl_arr {cA : ClassId} {n : Nat} {f g : Nat → Int32} (h : ∀ j, j < n → f j = g j) : vp_cell cA (n, .inl f) = vp_cell cA (n, .inl g) := by
  rw [vp_cell_i, vp_cell_i]
  unfold arrV
  have e : (fun j : Fin n => Value.int (f j.val)) = fun j => Value.int (g j.val) := funext fun j => by rw [h j.1 j.2]
  rw [e]
/-- a number not known, put in -/
def gl_v (lf : UInt32 → Int32) (v : Value) : Value := match v with
  | .float x => .int (lf x)
  | v => v
def gl_e (lf : UInt32 → Int32) (x : va_E) : Option va_E := match x with
  | .inr (ci, fs) => some (.inr (ci, fs.map (gl_v lf)))
  | .inl _ => none
theorem gl_ve (B : ev_B) (lf : UInt32 → Int32) (v : Value) : ev_v B (gl_v lf v) = ev_v (B.1, lf, B.2.2) v := by
  cases v <;> rfl
theorem gl_vl (B : ev_B) (lf : UInt32 → Int32) (ws : List Value) : (ws.map (gl_v lf)).map (ev_v B) = ws.map (ev_v (B.1, lf, B.2.2)) := by
  rw [List.map_map]
  apply List.map_congr_left
  intro v _
  exact gl_ve B lf v
def ev_mp1 {α : Type} (f : α → α) (t : α × α) : α × α := (f t.1, f t.2)
theorem ev_mp1_sl {α : Type} (f : α → α) (m : Nat) (t : α × α) (a : Nat) : ev_sl m (ev_mp1 f t) a = f (ev_sl m t a) := by
  unfold ev_sl ev_mp1
  cases Nat.beq (Nat.land a m) (nat_lit 0) <;> rfl
def ev_mp (f : va_E → Option va_E) (t : ev_T) : ev_T := ev_mp1 (ev_mp1 (ev_mp1 (ev_mp1 (ev_mp1 (ev_mp1 (ev_mp1 (ev_mp1 (fun x : ev_Q0 => (Option.bind x f : ev_Q0))))))))) t
theorem ev_mp_g (f : va_E → Option va_E) (t : ev_T) (a : Nat) : ev_g (ev_mp f t) a = (ev_g t a).bind f := by
  unfold ev_g ev_mp
  cases Nat.ble a (nat_lit 255) with
  | false => rfl
  | true =>
    show ev_sl _ (ev_sl _ (ev_sl _ (ev_sl _ (ev_sl _ (ev_sl _ (ev_sl _ (ev_sl _ _ a) a) a) a) a) a) a) a = _
    rw [ev_mp1_sl, ev_mp1_sl, ev_mp1_sl, ev_mp1_sl, ev_mp1_sl, ev_mp1_sl, ev_mp1_sl, ev_mp1_sl]
    rfl
/-- what is known of some methods otherwise: all that is true of them -/
def gl_X (l : Launch) (D : va_G) (dA : Nat → ClassId) (B : ev_B) : ev_X := fun d k as sz t r τ => ev_Met l D vwCl dA ev_tl ev_ol ev_nl ev_ms B d k as sz t r τ
section GLU
variable {l : Launch} {D : va_G} {dA : Nat → ClassId} {B : ev_B}
theorem gl_met {lf : UInt32 → Int32} {d k : Nat} {as : List Value} {sz : Nat} {t h t2 : ev_T} {r : Option Value} {τ : ev_S}
    (hs : as.map (ev_v (B.1, lf, B.2.2)) = as.map (ev_v B)) (hr : r.map (ev_v (B.1, lf, B.2.2)) = r.map (ev_v B))
    (ht : ∀ a x, ev_g h a = some x → ∃ y, ev_g t a = some y ∧ ∀ H, va_at D vwCl (B.1 + a, ev_e dA B y) H → va_at D vwCl (B.1 + a, ev_e dA (B.1, lf, B.2.2) x) H)
    (h2 : ∀ a x, ev_g t2 a = some x → ∃ y, ev_g τ.2.1 a = some y ∧ ∀ H, va_at D vwCl (B.1 + a, ev_e dA (B.1, lf, B.2.2) y) H → va_at D vwCl (B.1 + a, ev_e dA B x) H)
    (hm : ev_Met l D vwCl dA ev_tl ev_ol ev_nl ev_ms (B.1, lf, B.2.2) d k as sz h r τ) (hlt : ∀ a x, ev_g h a = some x → a < sz) :
    ev_Met l D vwCl dA ev_tl ev_ol ev_nl ev_ms B d k as sz t r (τ.1, t2, τ.2.2) := by
  unfold ev_Met Met at hm ⊢
  rw [hs] at hm
  refine MetFree.mono hm ?_ (fun _ _ _ _ _ q => q) ?_
  · rintro a s ⟨e, hR, hN⟩
    refine ⟨e, ⟨hR.1, fun b x hb => ?_⟩, hN⟩
    obtain ⟨y, hy, hv⟩ := ht b x hb
    exact ⟨(hR.2 b y hy).1, hv _ (hR.2 b y hy).2⟩
  · rintro a s o s' - ⟨⟨ho, hR, hF⟩, hL⟩
    refine ⟨⟨by rw [ho, hr], ⟨hR.1, fun b x hb => ?_⟩, hF⟩, hL⟩
    obtain ⟨y, hy, hv⟩ := h2 b x hb
    exact ⟨(hR.2 b y hy).1, hv _ (hR.2 b y hy).2⟩
end GLU
theorem ev_bl {α : Type} {P : α → Prop} {c : Bool} {x y : α} (hx : P x) (hy : P y) : P (bif c then x else y) := by cases c <;> assumption
theorem ev_df_nf : ∀ a, ∀ v ∈ ev_df a, ev_nf v = true := by
  intro a
  unfold ev_df
  repeat' (first | exact (by decide) | refine ev_bl (P := fun l => ∀ v ∈ l, ev_nf v = true) ?_ ?_)
theorem gl_sound {l : Launch} {D : va_G} {dA : Nat → ClassId} {B : ev_B} {X : ev_X} (hX : ∀ d k as sz t r τ, X d k as sz t r τ → gl_X l D dA B d k as sz t r τ) : ∀ d k as sz t r τ, Cd X d k as sz t r τ → ev_Met l D vwCl dA ev_tl ev_ol ev_nl ev_ms B d k as sz t r τ :=
  ev_sound ev_df_nf rfl rfl ev_oc_ok ev_tb_ok ev_ms_ok hX
section GLR
variable {l : Launch} {D : va_G} {dA : Nat → ClassId} {B : ev_B}
theorem gl_run {lf : UInt32 → Int32} {N d k : Nat} {as : List Value} {σ σ' : fl_S} {h : ev_T} {r : Option Value} {τ : ev_S}
    (hs : as.map (ev_v (B.1, lf, B.2.2)) = as.map (ev_v B)) (hv : r.map (ev_v (B.1, lf, B.2.2)) = r.map (ev_v B))
    (hO : ∀ a ci ws, ev_g h a = some (.inr (ci, ws)) → sC σ ci a = true ∧ fl_l (sF σ) ci a = ws.map (gl_v lf))
    (hA : ∀ a i y, ev_g h a = some (.inl (i, y)) → i = 0 ∧ ∃ n g f, y = (n, .inr (.inl g)) ∧ sI σ a = some (n, f) ∧ ∀ j, j < n → ev_iv (B.1, lf, B.2.2) (g j) = f j)
    (hr : ev_run (fun _ _ _ _ => none) N (d + 1) k as (sZ σ) h = some (r, τ))
    (z1 : sZ σ' = τ.1) (z2 : sc σ' = sc σ + τ.2.2.1) (z3 : ss σ' = ss σ + τ.2.2.2) (z4 : sZ σ' ≤ 256)
    (hC : ∀ ci a, sC σ' ci a = true → a < sZ σ' ∧ ∃ ws, ev_g τ.2.1 a = some (.inr (ci, ws)) ∧ fl_l (sF σ') ci a = ws.map (gl_v lf))
    (hI : ∀ a, sI σ' a = none) (hY : ∀ a, sY σ' a = none) (hR : ∀ a, sR σ' a = none) : CF (gl_X l D dA B) (d + 1) k as σ r σ' := by
  intro t ht
  have hm := gl_sound (l := l) (D := D) (dA := dA) (B := (B.1, lf, B.2.2)) (X := fun _ _ _ _ _ _ _ => False) (fun _ _ _ _ _ _ _ q => q.elim) (d + 1) k as (sZ σ) h r τ (ev_run_ok (fun _ _ _ _ _ _ _ q => by cases q) hr)
  refine ⟨r, σ', ev_mp (gl_e lf) τ.2.1, τ.2.2.1, τ.2.2.2, ⟨rfl, rfl⟩, ⟨fun ci a ha => ⟨(hC ci a ha).1, ?_⟩, fun a x ha => ?_, fun a x ha => ?_, fun a x ha => ?_, z4⟩, z2, z3, ?_⟩
  · obtain ⟨-, ws, h1, h2⟩ := hC ci a ha
    rw [ev_mp_g, h1, h2]
    rfl
  · rw [hI] at ha; cases ha
  · rw [hY] at ha; cases ha
  · rw [hR] at ha; cases ha
  · rw [z1]
    refine Or.inl (gl_met hs hv (fun a x hx => ?_) (fun a x hx => ?_) hm (fun a x hx => ?_))
    · match x, hx with
      | .inr (ci, ws), hx =>
        obtain ⟨h1, h2⟩ := hO a ci ws hx
        refine ⟨_, (ht.1 ci a h1).2, fun H hH => ?_⟩
        rw [show ev_e dA (B.1, lf, B.2.2) (.inr (ci, ws)) = .inr (ci, ws.map (ev_v (B.1, lf, B.2.2))) from rfl, ← gl_vl, ← h2]
        exact hH
      | .inl (i, y), hx =>
        obtain ⟨rfl, n, g, f, rfl, h1, h2⟩ := hA a i y hx
        refine ⟨_, (ht.2.1 a _ h1).2, fun H hH => ?_⟩
        show H[B.1 + a]? = some (vp_cell (dA 0) (n, .inl fun j => ev_iv (B.1, lf, B.2.2) (g j)))
        rw [gl_arr h2]
        exact hH
    · rw [ev_mp_g] at hx
      match hy : ev_g τ.2.1 a, hx with
      | none, hx => cases hx
      | some (.inr (ci, ws)), hx =>
        cases hx
        refine ⟨_, rfl, fun H hH => ?_⟩
        show va_at D vwCl (B.1 + a, .inr (ci, (ws.map (gl_v lf)).map (ev_v B))) H
        rw [gl_vl]
        exact hH
      | some (.inl y), hx => cases hx
    · match x, hx with
      | .inr (ci, ws), hx => exact (ht.1 ci a (hO a ci ws hx).1).1
      | .inl (i, y), hx =>
        obtain ⟨rfl, n, g, f, rfl, h1, h2⟩ := hA a i y hx
        exact (ht.2.1 a _ h1).1
end GLR
