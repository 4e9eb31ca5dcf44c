/-! shapes of what parse leaves -/
def kdf (σ : fl_S) (a : Nat) : Int32 := vI (sF σ a 128)
def hif (σ : fl_S) (a : Nat) : Int32 := vI (sF σ a 133)
def rlv (σ : fl_S) (a : Nat) : Nat := vR (sF σ a 139)
def onf (σ : fl_S) (a : Nat) : Option Nat := vO (sF σ a 138)
def elf (σ : fl_S) (a : Nat) : Nat := vR (sF σ a 134)
def ptf (σ : fl_S) (a : Nat) : Nat := vR (sF σ (vR (sF σ a 134)) 139)
def itf (σ : fl_S) (a : Nat) : Nat := vR (sF σ a 135)
def nmf (σ : fl_S) (a : Nat) : Int32 := vI (sF σ (vR (sF σ a 135)) 33)
def ownf (σ : fl_S) (a : Nat) : Bool := ownt (kdf σ) (rlv σ) (onf σ) a
theorem kd_of {σ : fl_S} {a : Nat} {k : Int32} (h : sF σ a 128 = .int k) : kdf σ a = k := by unfold kdf; rw [h]; rfl
theorem ow_t {σ : fl_S} {a : Nat} {k : Int32} {o : Option Nat} (h1 : sF σ a 128 = .int k) (h2 : sF σ a 139 = .ref a) (h3 : sF σ a 138 = va_rf o) (hk : ¬ k = 11 ∨ o = none) : ownf σ a = true := by
  unfold ownf ownt kdf rlv onf
  rw [h1, h2, h3]
  show (decide (a = a) && (!decide (k = 11) || (vO (va_rf o)).isNone)) = true
  rw [decide_eq_true (show a = a from rfl)]
  rcases hk with hk | hk
  · rw [decide_eq_false hk]
    rfl
  · subst hk
    exact Bool.or_true _
theorem ow_f {σ : fl_S} {a r : Nat} (h2 : sF σ a 139 = .ref r) (hr : r ≠ a) : ¬ ownf σ a = true := by
  unfold ownf ownt rlv
  rw [h2]
  show ¬ (decide (r = a) && _) = true
  rw [decide_eq_false hr]
  exact Bool.false_ne_true
theorem ow_v {σ : fl_S} {a o : Nat} (h1 : sF σ a 128 = .int 11) (h3 : sF σ a 138 = .ref o) : ¬ ownf σ a = true := by
  unfold ownf ownt kdf onf
  rw [h1, h3]
  show ¬ (_ && (!decide ((11 : Int32) = 11) || false)) = true
  rw [show (!decide ((11 : Int32) = 11) || false) = false from rfl, Bool.and_false]
  exact Bool.false_ne_true
/-- the types that have a shape of their own -/
def OC (L n m a : Nat) : Prop := a = 24 ∨ a = 25 ∨ a = 26 ∨ (∃ k, k < L ∧ a = a_lv k) ∨ a = a_oN L ∨ (∃ r, r < n + m ∧ a = a_rg L r + 1) ∨ ∃ r, r < n + m ∧ a = a_rg L r + 2
def sIt (n m : Nat) : Nat → Nat → Nat
  | 0, r => r
  | j + 1, r => sIt n m j (r_s n m r)
theorem sIt_lt {n m : Nat} (hn : 1 ≤ n) (hm : 1 ≤ m) : ∀ j r, r < n + m → sIt n m j r < n + m
  | 0, _, h => h
  | j + 1, r, h => sIt_lt hn hm j _ (r_s_lt hn hm h)
/-- the node of the i-th TYPE -/
def tnN (L i : Nat) : Nat := bif Nat.ble (L + 1) i then a_rg L (i - (L + 1)) + 1 else bif Nat.beq i L then a_oN L else a_lv i
theorem tn_l {L i : Nat} (h : i < L) : tnN L i = a_lv i := by
  unfold tnN
  rw [bleF (show i < L + 1 by omega), nb_ne (show i ≠ L by omega)]
  rfl
theorem tn_o {L : Nat} : tnN L L = a_oN L := by
  unfold tnN
  rw [bleF (show L < L + 1 by omega), nb_self]
  rfl
theorem tn_r {L r : Nat} : tnN L (L + 1 + r) = a_rg L r + 1 := by
  unfold tnN
  rw [bleT (show L + 1 ≤ L + 1 + r by omega), show L + 1 + r - (L + 1) = r by omega]
  rfl
theorem tn_all {L R : Nat} {p : Nat → Prop} (h1 : ∀ i, i < L → p (a_lv i)) (h2 : p (a_oN L)) (h3 : ∀ r, r < R → p (a_rg L r + 1)) : ∀ i, i < L + R + 1 → p (tnN L i) := by
  intro i hi
  by_cases e : i < L
  · rw [tn_l e]; exact h1 i e
  · by_cases e2 : i = L
    · subst e2; rw [tn_o]; exact h2
    · obtain ⟨r, rfl⟩ : ∃ r, i = L + 1 + r := ⟨i - (L + 1), by omega⟩
      rw [tn_r]; exact h3 r (by omega)
section W76
variable {X : ev_X} {d : Nat} {lf : UInt32 → Int32} {L n m sh hi mo : Nat} {bd : Nat → Nat} {ty : Nat} {σ : fl_S}
theorem o_24 (h : We P2 lf L n m σ) (hR : RF L n m sh hi mo σ) : ownf σ 24 = true := ow_t (o := none) (q_root_128 h rfl) hR.1 (q_root_138 h rfl) (Or.inr rfl)
theorem o_lv (h : We P2 lf L n m σ) (hR : RF L n m sh hi mo σ) {k : Nat} (hk : k < L) : ownf σ (a_lv k) = true := ow_t (o := none) (q_lv_128 h rfl hk) (hR.2.2.2.1 k hk) (q_lv_138 h rfl hk) (Or.inr rfl)
theorem o_oN (h : We P2 lf L n m σ) (hR : RF L n m sh hi mo σ) : ownf σ (a_oN L) = true := ow_t (o := some (a_do L)) (q_oN_128 h rfl) hR.2.2.2.2.2.1 (q_oN_138 h rfl) (Or.inl (by decide))
theorem o_rr (h : We P2 lf L n m σ) (hR : RF L n m sh hi mo σ) {r : Nat} (hr : r < n + m) : ownf σ (a_rg L r + 1) = true := ow_t (o := none) (q_rr_128 h rfl hr) (hR.2.2.2.2.2.2.2.1 r hr) (q_rr_138 h rfl hr) (Or.inr rfl)
theorem o_ra (h : We P2 lf L n m σ) (hR : RF L n m sh hi mo σ) {r : Nat} (hr : r < n + m) : ownf σ (a_rg L r + 2) = true := ow_t (o := none) (q_ra_128 h rfl hr) (hR.2.2.2.2.2.2.2.2.1 r hr) (q_ra_138 h rfl hr) (Or.inr rfl)
theorem w_oc (hD : Dr lf L n m sh hi mo bd) (h : We P2 lf L n m σ) (hR : RF L n m sh hi mo σ) : ∀ a ∈ a_ns L n m, ownf σ a = true → OC L n m a := by
  obtain ⟨hL, -, -, d1, d2, d3, -⟩ := hD
  obtain ⟨a1, a2, a3, a4, a5, a6, a7, a8, a9, b1, b2, b3, b4⟩ := hR
  refine ns_all hL.1 (fun _ => Or.inl rfl) (fun _ => Or.inr (Or.inl rfl)) (fun _ => Or.inr (Or.inr (Or.inl rfl))) (fun k hk _ => Or.inr (Or.inr (Or.inr (Or.inl ⟨k, hk, rfl⟩)))) (fun k hk h0 ho => absurd ho (ow_f (a5 k hk h0) (by unfold a_lv a_nl; omega))) (fun _ => Or.inr (Or.inr (Or.inr (Or.inr (Or.inl rfl))))) (fun ho => absurd ho (ow_f a7 (by unfold a_lv a_on; omega))) (fun r hr _ => Or.inr (Or.inr (Or.inr (Or.inr (Or.inr (Or.inl ⟨r, hr, rfl⟩)))))) (fun r hr _ => Or.inr (Or.inr (Or.inr (Or.inr (Or.inr (Or.inr ⟨r, hr, rfl⟩)))))) (fun r hr ho => absurd ho (ow_f (b1 r hr) (by unfold a_rg; omega))) (fun ho => absurd ho (ow_f b2 (by unfold a_lv a_T; omega))) (fun ho => absurd ho (ow_f b3 (by unfold a_lv a_T; omega))) (fun ho => absurd ho (ow_v (q_vl_128 h rfl) (q_vl_138 h rfl)))
theorem w_SA (hL : 2 ≤ L) (h : We P2 lf L n m σ) (hR : RF L n m sh hi mo σ) : ∀ a ∈ a_ns L n m, SA σ (kdf σ) (rlv σ) (onf σ) a := by
  obtain ⟨a1, a2, a3, a4, a5, a6, a7, a8, a9, b1, b2, b3, b4⟩ := hR
  have s : ∀ {a : Nat} {k : Int32} {r : Nat} {o : Option Nat}, sC σ 4 a = true → sF σ a 128 = .int k → sF σ a 139 = .ref r → sF σ a 138 = va_rf o → SA σ (kdf σ) (rlv σ) (onf σ) a := fun c h1 h2 h3 => ⟨c, vI_of h1, vR_of h2, vO_of h3⟩
  exact ns_all (p := fun a => SA σ (kdf σ) (rlv σ) (onf σ) a) hL (s (o := none) (c_root h) (q_root_128 h rfl) a1 (q_root_138 h rfl)) (s (o := none) (c_int h) (q_int_128 h rfl) a2 (q_int_138 h rfl)) (s (o := none) (c_bool h) (q_bool_128 h rfl) a3 (q_bool_138 h rfl)) (fun k hk => s (o := none) (c_lv h hk) (q_lv_128 h rfl hk) (a4 k hk) (q_lv_138 h rfl hk)) (fun k hk h0 => s (o := none) (c_nl h hk h0) (q_nl_128 h rfl hk h0) (a5 k hk h0) (q_nl_138 h rfl hk h0)) (s (o := some (a_do L)) (c_oN h) (q_oN_128 h rfl) a6 (q_oN_138 h rfl)) (s (o := none) (c_on h) (q_on_128 h rfl) a7 (q_on_138 h rfl)) (fun r hr => s (o := none) (c_rr h hr) (q_rr_128 h rfl hr) (a8 r hr) (q_rr_138 h rfl hr)) (fun r hr => s (o := none) (c_ra h hr) (q_ra_128 h rfl hr) (a9 r hr) (q_ra_138 h rfl hr)) (fun r hr => s (o := none) (c_rn h hr) (q_rn_128 h rfl hr) (b1 r hr) (q_rn_138 h rfl hr)) (s (o := none) (c_hn h) (q_hn_128 h rfl) b2 (q_hn_138 h rfl)) (s (o := none) (c_vn h) (q_vn_128 h rfl) b3 (q_vn_138 h rfl)) (s (o := some (a_T L n m + 10)) (c_vl h) (q_vl_128 h rfl) b4 (q_vl_138 h rfl))
theorem w_ix (hL : 2 ≤ L) (h : We P2 lf L n m σ) : ∀ a ∈ a_ns L n m, sF σ a 129 = .int (Int32.ofNat (ixN L (n + m) a)) := by
  refine ns_all hL (q_root_129 h rfl) (q_int_129 h rfl) (q_bool_129 h rfl) (fun k hk => ?_) (fun k hk h0 => ?_) ?_ ?_ (fun r hr => ?_) (fun r hr => ?_) (fun r hr => ?_) ?_ ?_ ?_
  · rw [ix_lv hk]; exact q_lv_129 h rfl hk
  · rw [ix_nl hk h0]; exact q_nl_129 h rfl hk h0
  · rw [ix_oN]; exact q_oN_129 h rfl
  · rw [ix_on]; exact q_on_129 h rfl
  · rw [ix_rg hr (by omega)]; exact q_rr_129 h rfl hr
  · rw [ix_rg hr (by omega), show 2 * L + 4 + 3 * r + (2 - 1) = 2 * L + 5 + 3 * r by omega]; exact q_ra_129 h rfl hr
  · rw [ix_rg hr (by omega), show 2 * L + 4 + 3 * r + (3 - 1) = 2 * L + 6 + 3 * r by omega]; exact q_rn_129 h rfl hr
  · rw [ix_T (by omega)]; exact q_hn_129 h rfl
  · rw [ix_T (by omega)]; exact q_vn_129 h rfl
  · rw [ix_T (by omega)]; exact q_vl_129 h rfl
/-- what one look sees of a ring's types -/
theorem f_rr (h : We P2 lf L n m σ) (hR : RF L n m sh hi mo σ) {r : Nat} (hr : r < n + m) : kdf σ (a_rg L r + 1) = 5 ∧ hif σ (a_rg L r + 1) = 0 ∧ ptf σ (a_rg L r + 1) = a_rg L r + 2 := by
  refine ⟨kd_of (q_rr_128 h rfl hr), by unfold hif; rw [q_rr_133 h rfl hr]; rfl, ?_⟩
  unfold ptf
  rw [q_rr_134 h rfl hr]
  show vR (sF σ (a_rg L r + 2) 139) = _
  rw [hR.2.2.2.2.2.2.2.2.1 r hr]
  rfl
theorem f_ra (hD : Dr lf L n m sh hi mo bd) (h : We P2 lf L n m σ) (hR : RF L n m sh hi mo σ) {r : Nat} (hr : r < n + m) : kdf σ (a_rg L r + 2) = 3 ∧ hif σ (a_rg L r + 2) = Int32.ofNat (bd r) ∧ ptf σ (a_rg L r + 2) = a_rg L (r_s n m r) + 1 ∧ (bd r = 1 ∨ bd r = 2) := by
  obtain ⟨-, -, -, -, -, -, -, -, -, hb⟩ := hD
  refine ⟨kd_of (q_ra_128 h rfl hr), by unfold hif; rw [q_ra_133 h rfl hr, (hb r hr).1]; rfl, ?_, (hb r hr).2⟩
  unfold ptf
  rw [q_ra_134 h rfl hr]
  show vR (sF σ (a_rg L r + 3) 139) = _
  rw [hR.2.2.2.2.2.2.2.2.2.1 r hr]
  rfl
theorem sl_0 {a : Nat} {ns : List Nat} (h3 : ¬ kdf σ a = 3) (h5 : ¬ kdf σ a = 5) (h11 : ¬ kdf σ a = 11) : SL0 σ ns (ownt (kdf σ) (rlv σ) (onf σ)) (kdf σ) (hif σ) (elf σ) (ptf σ) (itf σ) (nmf σ) a :=
  ⟨fun e => (by rcases e with e | e | e; exact absurd e h3; exact absurd e h5; exact absurd e h11), fun e => (by rcases e with e | e; exact absurd e h3; exact absurd e h5), fun e => absurd e h11⟩
theorem sl_p {a e p : Nat} {x : Int32} {ns : List Nat} (h132 : sF σ a 132 = .int 0) (h133 : sF σ a 133 = .int x) (h134 : sF σ a 134 = .ref e) (ce : sC σ 4 e = true) (h139 : sF σ e 139 = .ref p) (cp : sC σ 4 p = true) (mp : p ∈ ns) (op : ownf σ p = true) : sF σ a 132 = .int 0 ∧ sF σ a 133 = .int (hif σ a) ∧ (sF σ a 134 = .ref (elf σ a) ∧ sC σ 4 (elf σ a) = true ∧ sF σ (elf σ a) 139 = .ref (ptf σ a) ∧ sC σ 4 (ptf σ a) = true) ∧ ptf σ a ∈ ns ∧ ownt (kdf σ) (rlv σ) (onf σ) (ptf σ a) = true := by
  have e1 : elf σ a = e := by unfold elf; rw [h134]; rfl
  have e2 : ptf σ a = p := by
    unfold ptf
    rw [h134]
    show vR (sF σ e 139) = p
    rw [h139]
    rfl
  rw [e1, e2]
  exact ⟨h132, vI_of h133, ⟨h134, ce, h139, cp⟩, mp, op⟩
theorem w_SL0 (hD : Dr lf L n m sh hi mo bd) (h : We P2 lf L n m σ) (hR : RF L n m sh hi mo σ) : ∀ a, OC L n m a → SL0 σ (a_ns L n m) (ownt (kdf σ) (rlv σ) (onf σ)) (kdf σ) (hif σ) (elf σ) (ptf σ) (itf σ) (nmf σ) a := by
  have hD0 := hD
  obtain ⟨hL, hn, hm, d1, d2, d3, -, -, -, hb⟩ := hD0
  have hR0 := hR
  obtain ⟨a1, a2, a3, a4, a5, a6, a7, a8, a9, b1, b2, b3, b4⟩ := hR0
  rintro a (rfl | rfl | rfl | ⟨k, hk, rfl⟩ | rfl | ⟨r, hr, rfl⟩ | ⟨r, hr, rfl⟩)
  · have e := kd_of (q_root_128 h rfl)
    exact sl_0 (by rw [e]; decide) (by rw [e]; decide) (by rw [e]; decide)
  · have e := kd_of (q_int_128 h rfl)
    exact sl_0 (by rw [e]; decide) (by rw [e]; decide) (by rw [e]; decide)
  · have e := kd_of (q_bool_128 h rfl)
    exact sl_0 (by rw [e]; decide) (by rw [e]; decide) (by rw [e]; decide)
  · have e := kd_of (q_lv_128 h rfl hk)
    refine ⟨fun _ => ?_, fun e2 => ?_, fun _ => ?_⟩
    · have he := q_lv_134 h rfl hk
      by_cases e0 : k = 0
      · subst e0
        exact sl_p (q_lv_132 h rfl hk) (q_lv_133 h rfl hk) he (c_root h) a1 (c_root h) ns_24 (o_24 h hR)
      · rw [nb_ne e0] at he
        exact sl_p (q_lv_132 h rfl hk) (q_lv_133 h rfl hk) he (c_nl h hk (by omega)) (a5 k hk (by omega)) (c_lv h (by omega)) (ns_lv (by omega)) (o_lv h hR (by omega))
    · rw [e] at e2
      rcases e2 with e2 | e2 <;> exact absurd e2 (by decide)
    · have e3 : itf σ (a_lv k) = a_fd k := by unfold itf; rw [q_lv_135 h rfl hk]; rfl
      have e4 : nmf σ (a_lv k) = Int32.ofNat (2 * k + 2) := by
        unfold nmf
        rw [q_lv_135 h rfl hk]
        show vI (sF σ (a_fd k) 33) = _
        rw [q_fd_33 h rfl hk]
        rfl
      rw [e3, e4]
      exact ⟨q_lv_135 h rfl hk, c_fd h hk, q_fd_32 h rfl hk, q_fd_33 h rfl hk⟩
  · have e := kd_of (q_oN_128 h rfl)
    exact sl_0 (by rw [e]; decide) (by rw [e]; decide) (by rw [e]; decide)
  · have e := kd_of (q_rr_128 h rfl hr)
    exact ⟨fun _ => sl_p (q_rr_132 h rfl hr) (q_rr_133 h rfl hr) (q_rr_134 h rfl hr) (c_ra h hr) (a9 r hr) (c_ra h hr) (ns_ra hr) (o_ra h hR hr), fun _ => ⟨q_rr_135 h rfl hr, q_rr_136 h rfl hr⟩, fun e2 => by rw [e] at e2; exact absurd e2 (by decide)⟩
  · have e := kd_of (q_ra_128 h rfl hr)
    have hs := r_s_lt hn.1 hm.1 hr
    exact ⟨fun _ => sl_p (q_ra_132 h rfl hr) ((q_ra_133 h rfl hr).trans (hb r hr).1) (q_ra_134 h rfl hr) (c_rn h hr) (b1 r hr) (c_rr h hs) (ns_rr hs) (o_rr h hR hs), fun _ => ⟨q_ra_135 h rfl hr, q_ra_136 h rfl hr⟩, fun e2 => by rw [e] at e2; exact absurd e2 (by decide)⟩
theorem nmf_lv (h : We P2 lf L n m σ) {k : Nat} (hk : k < L) : nmf σ (a_lv k) = Int32.ofNat (2 * k + 2) := by
  unfold nmf
  rw [q_lv_135 h rfl hk]
  show vI (sF σ (a_fd k) 33) = _
  rw [q_fd_33 h rfl hk]
  rfl
theorem w_kk (hL : L ≤ 5) (h : We P2 lf L n m σ) : ∀ a b, OC L n m a → OC L n m b → a ≠ b → kdf σ a = kdf σ b → kdf σ a = 3 ∨ kdf σ a = 5 ∨ kdf σ a = 12 ∨ (kdf σ a = 11 ∧ nmf σ a ≠ nmf σ b) := by
  have k1 := kd_of (q_root_128 h rfl)
  have k2 := kd_of (q_int_128 h rfl)
  have k3 := kd_of (q_bool_128 h rfl)
  have k4 : ∀ k, k < L → kdf σ (a_lv k) = 11 := fun k hk => kd_of (q_lv_128 h rfl hk)
  have k5 := kd_of (q_oN_128 h rfl)
  have k6 : ∀ r, r < n + m → kdf σ (a_rg L r + 1) = 5 := fun r hr => kd_of (q_rr_128 h rfl hr)
  have k7 : ∀ r, r < n + m → kdf σ (a_rg L r + 2) = 3 := fun r hr => kd_of (q_ra_128 h rfl hr)
  have u : ∀ {b : Nat} {x : Int32}, OC L n m b → kdf σ b = x → (x = 10 → b = 24) ∧ (x = 0 → b = 25) ∧ (x = 1 → b = 26) ∧ (x = 11 → ∃ k, k < L ∧ b = a_lv k) := by
    rintro b x (rfl | rfl | rfl | ⟨k, hk, rfl⟩ | rfl | ⟨r, hr, rfl⟩ | ⟨r, hr, rfl⟩) hx
    · rw [k1] at hx; subst hx
      exact ⟨fun _ => rfl, fun e => absurd e (by decide), fun e => absurd e (by decide), fun e => absurd e (by decide)⟩
    · rw [k2] at hx; subst hx
      exact ⟨fun e => absurd e (by decide), fun _ => rfl, fun e => absurd e (by decide), fun e => absurd e (by decide)⟩
    · rw [k3] at hx; subst hx
      exact ⟨fun e => absurd e (by decide), fun e => absurd e (by decide), fun _ => rfl, fun e => absurd e (by decide)⟩
    · rw [k4 k hk] at hx; subst hx
      exact ⟨fun e => absurd e (by decide), fun e => absurd e (by decide), fun e => absurd e (by decide), fun _ => ⟨k, hk, rfl⟩⟩
    · rw [k5] at hx; subst hx
      exact ⟨fun e => absurd e (by decide), fun e => absurd e (by decide), fun e => absurd e (by decide), fun e => absurd e (by decide)⟩
    · rw [k6 r hr] at hx; subst hx
      exact ⟨fun e => absurd e (by decide), fun e => absurd e (by decide), fun e => absurd e (by decide), fun e => absurd e (by decide)⟩
    · rw [k7 r hr] at hx; subst hx
      exact ⟨fun e => absurd e (by decide), fun e => absurd e (by decide), fun e => absurd e (by decide), fun e => absurd e (by decide)⟩
  intro a b ha hb hne hk
  have ub := u hb rfl
  rcases ha with rfl | rfl | rfl | ⟨k, hk0, rfl⟩ | rfl | ⟨r, hr, rfl⟩ | ⟨r, hr, rfl⟩
  · exact absurd (ub.1 (hk.symm.trans k1)).symm hne
  · exact absurd (ub.2.1 (hk.symm.trans k2)).symm hne
  · exact absurd (ub.2.2.1 (hk.symm.trans k3)).symm hne
  · obtain ⟨j, hj, rfl⟩ := ub.2.2.2 (hk.symm.trans (k4 k hk0))
    refine Or.inr (Or.inr (Or.inr ⟨k4 k hk0, ?_⟩))
    rw [nmf_lv h hk0, nmf_lv h hj]
    intro e
    have := nat_inj (by omega) (by omega) e
    exact hne (by rw [show k = j by omega])
  · exact Or.inr (Or.inr (Or.inl k5))
  · exact Or.inr (Or.inl (k6 r hr))
  · exact Or.inl (k7 r hr)
theorem w_FW (hD : Dr lf L n m sh hi mo bd) (h : We P2 lf L n m σ) (hR : RF L n m sh hi mo σ) : FW σ (a_ns L n m) (x_T L n m + 3) (kdf σ) (hif σ) (rlv σ) (onf σ) (ixN L (n + m)) (elf σ) (ptf σ) (itf σ) (nmf σ) := by
  have hD0 := hD
  obtain ⟨hL, hn, hm, -⟩ := hD0
  exact ⟨e_ns hL.1 (by omega) h, ns_nodup hL hn hm, ns_len hL hn hm, by unfold x_T; omega, w_SA hL.1 h hR, fun a ha => ⟨w_ix hL.1 h a ha, ns_lt hL hn hm a ha⟩, ns_inj hL hn hm, fun a ha ho => w_SL0 hD h hR a (w_oc hD h hR a ha ho), fun a ha b hb oa ob => w_kk hL.2 h a b (w_oc hD h hR a ha oa) (w_oc hD h hR b hb ob)⟩
end W76
