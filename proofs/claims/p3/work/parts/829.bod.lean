/-! what the reference's parser builds of statements and declarations: spans apart from one another, weights, nesting -/
/-- rows of nodes agree between two counts, but what naming puts into PLACEs -/
def Ag (ν ν1 : MS) (lo hi : Int) : Prop := ∀ g, 20 ≤ g → g ≤ 27 → ∀ j : Nat, lo ≤ j → (j : Int) < hi → ((g = 24 ∨ g = 26) ∧ ν.2.1 20 j = 70) ∨ ν1.2.1 g j = ν.2.1 g j
theorem Ag.r {ν ν1 : MS} {lo hi : Int} (hA : Ag ν ν1 lo hi) {g : Nat} (g1 : 20 ≤ g) (g2 : g ≤ 27) (h4 : g ≠ 24) (h6 : g ≠ 26) {j : Nat} (j1 : lo ≤ j) (j2 : (j : Int) < hi) : ν1.2.1 g j = ν.2.1 g j := (hA g g1 g2 j j1 j2).resolve_left (fun h => h.1.elim h4 h6)
theorem Ag.rows {ν ν1 : MS} {lo hi : Int} (h : ν1.2.1 = ν.2.1) : Ag ν ν1 lo hi := fun g _ _ j _ _ => Or.inr (by rw [h])
/-- a tree over such rows -/
theorem G.ag {ν ν1 : MS} {lo hi : Int} (hA : Ag ν ν1 lo hi) : ∀ {h h' s : Nat} {S : Nat → Prop} {i : Int32}, (∀ j, S j → bt lo hi j) → h ≤ h' → G ν h S s i → G ν1 h' S s i
  | 0, _, _, _, _, _, _, hG => hG.elim
  | h + 1, 0, _, _, _, _, hh, _ => absurd hh (by omega)
  | h + 1, h' + 1, s, S, i, hS, hh, hG => by
    obtain ⟨g1, g2, g3, g4⟩ := hG
    obtain ⟨b1, b2⟩ := hS _ g2
    have e20 := hA.r (g := 20) (by omega) (by omega) (by omega) (by omega) b1 b2
    refine ⟨g1, g2, by rw [e20]; exact g3, fun f hf => ?_⟩
    rw [e20]
    have sub : ∀ s x, G ν h (fun j => S j ∧ j ≠ i.toNatClampNeg) s x → G ν1 h' (fun j => S j ∧ j ≠ i.toNatClampNeg) s x := fun s x hx => G.ag hA (fun j hj => hS j hj.1) (by omega) hx
    rcases hA (22 + f) (by omega) (by omega) _ b1 b2 with ⟨hf2, e⟩ | e
    · rw [e]
      have h5 : f = 2 ∨ f = 4 := by omega
      rcases h5 with rfl | rfl
      · exact True.intro
      · exact True.intro
    · rw [e]
      refine (g4 f hf).mono sub (fun s x hx => ?_)
      obtain ⟨x1, x2⟩ := hx.in
      obtain ⟨y1, y2⟩ := hS _ x2.1
      exact hA.r (by omega) (by omega) (by omega) (by omega) y1 y2
/-- a list whose nodes use up one span after the other, and one weight after the other -/
def WL (E : Int → Int → Nat → Int32 → Prop) (nx : Nat → Int32) : Nat → Int → Int → Nat → Int32 → Prop
  | 0, lo, hi, _, x => x = -1 ∧ lo ≤ hi
  | m + 1, lo, hi, w, x => (x = -1 ∧ lo ≤ hi) ∨ ∃ (mid : Int) (v : Nat), (lo ≤ mid ∧ mid ≤ hi ∧ v ≤ w) ∧ E lo mid v x ∧ WL E nx m mid hi (w - v) (nx x.toNatClampNeg)
/-- the part of it up to a node -/
def WS (E : Int → Int → Nat → Int32 → Prop) (nx : Nat → Int32) : Nat → Int → Int → Nat → Int32 → Int32 → Prop
  | 0, lo, lb, _, a, b => a = b ∧ lo = lb
  | m + 1, lo, lb, w, a, b => ∃ (mid : Int) (v : Nat), (lo ≤ mid ∧ mid ≤ lb ∧ v ≤ w) ∧ E lo mid v a ∧ WS E nx m mid lb (w - v) (nx a.toNatClampNeg) b
def owL : List Int32 := [1, 2, 3, 4, 8, 9, 10, 13]
/-- what a node of a kind weighs itself -/
def ow (k : Int32) : Nat := bif owL.contains k then 1 else 0
/-- one node: a name weighs 1, a SIGNATURE as many as it has FORMALs -/
def N1 (ν : MS) (h s : Nat) (lo hi : Int) (w : Nat) (x : Int32) : Prop := G ν h (bt lo hi) s x ∧ (s = 6 → 1 ≤ w) ∧ (s = 8 → ∃ m, m ≤ w ∧ Lst (fun q => 0 ≤ q.toInt ∧ bt lo hi q.toNatClampNeg ∧ (ν.2.1 27 q.toNatClampNeg = -1 ∨ q.toInt < (ν.2.1 27 q.toNatClampNeg).toInt)) (ν.2.1 27) m (ν.2.1 22 x.toNatClampNeg))
/-- a list: statements, or another one -/
def EL (B : Int → Int → Nat → Int32 → Prop) (L : Nat → Int → Int → Nat → Int32 → Prop) (s : Nat) (lo hi : Int) (w : Nat) (x : Int32) : Prop := (s = 3 → B lo hi w x) ∧ (¬ s = 3 → L s lo hi w x)
/-- a field -/
def FB (ν : MS) (h : Nat) (B : Int → Int → Nat → Int32 → Prop) (L : Nat → Int → Int → Nat → Int32 → Prop) (a : Nat × Nat) (lo hi : Int) (w : Nat) (x : Int32) : Prop := lo ≤ hi ∧ match a.1 with
  | 0 => True
  | 1 => N1 ν h a.2 lo hi w x ∧ ν.2.1 27 x.toNatClampNeg = -1
  | 2 => x = -1 ∨ (N1 ν h a.2 lo hi w x ∧ ν.2.1 27 x.toNatClampNeg = -1)
  | 3 => EL B L a.2 lo hi w x
  | _ => ¬ x = -1 ∧ EL B L a.2 lo hi w x
/-- a node, its fields in spans one behind the other -/
def PX (ν : MS) (h : Nat) (B : Int → Int → Nat → Int32 → Prop) (L : Nat → Int → Int → Nat → Int32 → Prop) (s : Nat) (lo hi : Int) (w : Nat) (i : Int32) : Prop :=
  (0 ≤ i.toInt ∧ lo ≤ i.toInt ∧ i.toInt < hi) ∧ sK s (ν.2.1 20 i.toNatClampNeg) = true ∧ ∃ (c : Nat → Int) (v : Nat → Nat), (i.toInt + 1 ≤ c 0 ∧ c 5 ≤ hi) ∧ v 0 + v 1 + v 2 + v 3 + v 4 + ow (ν.2.1 20 i.toNatClampNeg) ≤ w ∧
    ∀ f, f < 5 → FB ν h B L (fW (ν.2.1 20 i.toNatClampNeg).toNatClampNeg f) (c f) (c (f + 1)) (v f) (ν.2.1 (22 + f) i.toNatClampNeg)
/-- lists of other sorts than statements, so deep -/
def AL (ν : MS) (h : Nat) (B : Int → Int → Nat → Int32 → Prop) : Nat → Nat → Int → Int → Nat → Int32 → Prop
  | 0 => fun _ _ _ _ _ => False
  | n + 1 => fun s lo hi w x => ∃ m, WL (PX ν h B (AL ν h B n) s) (ν.2.1 27) m lo hi w x
/-- statements, so deep within one another -/
def BT (ν : MS) (h : Nat) : Nat → Int → Int → Nat → Int32 → Prop
  | 0 => fun lo hi _ x => x = -1 ∧ lo ≤ hi
  | K + 1 => fun lo hi w x => ∃ m, WL (PX ν h (BT ν h K) (AL ν h (BT ν h K) 1) 3) (ν.2.1 27) m lo hi w x
abbrev PK (ν : MS) (h K n s : Nat) : Int → Int → Nat → Int32 → Prop := PX ν h (BT ν h K) (AL ν h (BT ν h K) n) s
abbrev LK (ν : MS) (h K n s : Nat) (lo hi : Int) (w : Nat) (x : Int32) : Prop := ∃ m, WL (PK ν h K n s) (ν.2.1 27) m lo hi w x
abbrev FK (ν : MS) (h K n : Nat) (a : Nat × Nat) (lo hi : Int) (w : Nat) (x : Int32) : Prop := FB ν h (BT ν h K) (AL ν h (BT ν h K) n) a lo hi w x
section BOD
variable {ν ν1 : MS} {h h' K n n' s : Nat} {lo hi e b : Int} {w v : Nat} {x i : Int32}
theorem Ag.sub {lo' hi' : Int} (hA : Ag ν ν1 lo hi) (h1 : lo ≤ lo') (h2 : hi' ≤ hi) : Ag ν ν1 lo' hi' := fun g k1 k2 j j1 j2 => hA g k1 k2 j (by omega) (by omega)
theorem RB.ag (hr : RB e b ν ν1) (h1 : hi ≤ b) (h2 : e < lo ∨ hi ≤ e) : Ag ν ν1 lo hi := fun g k1 k2 j j1 j2 => Or.inr <| hr g k1 (by omega) j (by omega) (by omega)
theorem WL.cg {E E' : Int → Int → Nat → Int32 → Prop} {nx nx' : Nat → Int32} (hE : ∀ lo' hi' v y, lo ≤ lo' → hi' ≤ hi → E lo' hi' v y → E' lo' hi' v y ∧ nx' y.toNatClampNeg = nx y.toNatClampNeg) : ∀ {m : Nat} {l : Int} {w : Nat} {x : Int32}, lo ≤ l → WL E nx m l hi w x → WL E' nx' m l hi w x
  | 0, _, _, _, _, h => h
  | m + 1, l, w, x, hl, h => by
    rcases h with h | ⟨mid, v, k1, k2, k3⟩
    · exact Or.inl h
    · obtain ⟨e1, e2⟩ := hE l mid v x hl k1.2.1 k2
      refine Or.inr ⟨mid, v, k1, e1, ?_⟩
      rw [e2]
      exact WL.cg hE (by omega) k3
theorem WS.cg {E E' : Int → Int → Nat → Int32 → Prop} {nx nx' : Nat → Int32} {lb : Int} (hE : ∀ lo' hi' v y, lo ≤ lo' → hi' ≤ lb → E lo' hi' v y → E' lo' hi' v y ∧ nx' y.toNatClampNeg = nx y.toNatClampNeg) : ∀ {m : Nat} {l : Int} {w : Nat} {x y : Int32}, lo ≤ l → WS E nx m l lb w x y → WS E' nx' m l lb w x y
  | 0, _, _, _, _, _, h => h
  | m + 1, l, w, x, y, hl, h => by
    obtain ⟨mid, v, k1, k2, k3⟩ := h
    obtain ⟨e1, e2⟩ := hE l mid v x hl k1.2.1 k2
    refine ⟨mid, v, k1, e1, ?_⟩
    rw [e2]
    exact WS.cg hE (by omega) k3
theorem WS.le {E : Int → Int → Nat → Int32 → Prop} {nx : Nat → Int32} {lb : Int} : ∀ {m : Nat} {l : Int} {w : Nat} {x y : Int32}, WS E nx m l lb w x y → l ≤ lb
  | 0, _, _, _, _, h => by have := h.2; omega
  | m + 1, _, _, _, _, ⟨mid, v, k1, _, k3⟩ => by have := WS.le k3; omega
theorem WS.snoc {E : Int → Int → Nat → Int32 → Prop} {nx : Nat → Int32} {lb mid : Int} {v : Nat} {y c : Int32} (hE : E lb mid v y) (hm : lb ≤ mid) (hn : nx y.toNatClampNeg = c) : ∀ {m : Nat} {l : Int} {w : Nat} {x : Int32}, WS E nx m l lb w x y → WS E nx (m + 1) l mid (w + v) x c
  | 0, l, w, x, h => by
    obtain ⟨rfl, rfl⟩ := h
    exact ⟨mid, v, ⟨hm, Int.le_refl _, by omega⟩, hE, hn, rfl⟩
  | m + 1, l, w, x, h => by
    obtain ⟨mid', v', k1, k2, k3⟩ := h
    refine ⟨mid', v', ⟨k1.1, by omega, by omega⟩, k2, ?_⟩
    rw [show w + v - v' = w - v' + v by omega]
    exact WS.snoc hE hm hn k3
theorem WS.done {E : Int → Int → Nat → Int32 → Prop} {nx : Nat → Int32} {lb : Int} {v : Nat} {y : Int32} (hE : E lb hi v y) (hm : lb ≤ hi) (hn : nx y.toNatClampNeg = -1) : ∀ {m : Nat} {l : Int} {w : Nat} {x : Int32}, WS E nx m l lb w x y → WL E nx (m + 1) l hi (w + v) x
  | 0, l, w, x, h => by
    obtain ⟨rfl, rfl⟩ := h
    exact Or.inr ⟨hi, v, ⟨hm, Int.le_refl _, by omega⟩, hE, hn, Int.le_refl _⟩
  | m + 1, l, w, x, h => by
    obtain ⟨mid', v', k1, k2, k3⟩ := h
    refine Or.inr ⟨mid', v', ⟨k1.1, by omega, by omega⟩, k2, ?_⟩
    rw [show w + v - v' = w - v' + v by omega]
    exact WS.done hE hm hn k3
theorem N1.cg (hh : h ≤ h') (hA : Ag ν ν1 lo hi) (hN : N1 ν h s lo hi w x) : N1 ν1 h' s lo hi w x := by
  obtain ⟨hG, h6, h8⟩ := hN
  refine ⟨G.ag hA (fun _ h => h) hh hG, h6, fun e => ?_⟩
  obtain ⟨m, hm, hL⟩ := h8 e
  refine ⟨m, hm, ?_⟩
  rw [hA.r (g := 22) (by omega) (by omega) (by omega) (by omega) hG.in.2.1 hG.in.2.2]
  exact hL.mono (fun q hq => ⟨hq.1, hq.2.1, by rw [hA.r (g := 27) (by omega) (by omega) (by omega) (by omega) hq.2.1.1 hq.2.1.2]; exact hq.2.2⟩) (fun q hq => hA.r (g := 27) (by omega) (by omega) (by omega) (by omega) hq.2.1.1 hq.2.1.2)
/-- over rows that agree, what lies within agrees -/
def CgP (ν ν1 : MS) (B B' : Int → Int → Nat → Int32 → Prop) : Prop := ∀ lo hi w x, Ag ν ν1 lo hi → B lo hi w x → B' lo hi w x
theorem FB.cg {B B' : Int → Int → Nat → Int32 → Prop} {L L' : Nat → Int → Int → Nat → Int32 → Prop} {a : Nat × Nat} (hh : h ≤ h') (hB : CgP ν ν1 B B') (hL : ∀ s, CgP ν ν1 (L s) (L' s)) (hA : Ag ν ν1 lo hi) (hF : FB ν h B L a lo hi w x) : FB ν1 h' B' L' a lo hi w x := by
  obtain ⟨a, s⟩ := a
  obtain ⟨hl, hF⟩ := hF
  refine ⟨hl, ?_⟩
  have one : N1 ν h s lo hi w x ∧ ν.2.1 27 x.toNatClampNeg = -1 → N1 ν1 h' s lo hi w x ∧ ν1.2.1 27 x.toNatClampNeg = -1 := fun ⟨k1, k2⟩ => ⟨k1.cg hh hA, (hA.r (g := 27) (by omega) (by omega) (by omega) (by omega) k1.1.in.2.1 k1.1.in.2.2).trans k2⟩
  have el : EL B L s lo hi w x → EL B' L' s lo hi w x := fun ⟨k1, k2⟩ => ⟨fun e => hB _ _ _ _ hA (k1 e), fun e => hL s _ _ _ _ hA (k2 e)⟩
  match a, hF with
  | 0, _ => trivial
  | 1, hF => exact one hF
  | 2, hF => exact hF.imp id one
  | 3, hF => exact el hF
  | a + 4, hF => exact ⟨hF.1, el hF.2⟩
theorem PX.in {B : Int → Int → Nat → Int32 → Prop} {L : Nat → Int → Int → Nat → Int32 → Prop} (hP : PX ν h B L s lo hi w i) : 0 ≤ i.toInt ∧ lo ≤ i.toInt ∧ i.toInt < hi := hP.1
theorem PX.cg {B B' : Int → Int → Nat → Int32 → Prop} {L L' : Nat → Int → Int → Nat → Int32 → Prop} (hh : h ≤ h') (hB : CgP ν ν1 B B') (hL : ∀ s, CgP ν ν1 (L s) (L' s)) (h1 : ∀ g, 20 ≤ g → g ≤ 26 → ((g = 24 ∨ g = 26) ∧ ν.2.1 20 i.toNatClampNeg = 70) ∨ ν1.2.1 g i.toNatClampNeg = ν.2.1 g i.toNatClampNeg) (hA : Ag ν ν1 (i.toInt + 1) hi) (hP : PX ν h B L s lo hi w i) : PX ν1 h' B' L' s lo hi w i := by
  obtain ⟨k1, k2, c, v, k3, k4, k5⟩ := hP
  have e20 := (h1 20 (by omega) (by omega)).resolve_left (fun h => by omega)
  refine ⟨k1, by rw [e20]; exact k2, c, v, k3, by rw [e20]; exact k4, fun f hf => ?_⟩
  rw [e20]
  rcases h1 (22 + f) (by omega) (by omega) with ⟨hf2, e⟩ | e
  · have h0 := (k5 f hf).1
    rw [e]
    have h5 : f = 2 ∨ f = 4 := by omega
    rcases h5 with rfl | rfl
    · exact ⟨h0, True.intro⟩
    · exact ⟨h0, True.intro⟩
  rw [e]
  have mono : c 0 ≤ c 1 ∧ c 1 ≤ c 2 ∧ c 2 ≤ c 3 ∧ c 3 ≤ c 4 ∧ c 4 ≤ c 5 := ⟨(k5 0 (by decide)).1, (k5 1 (by decide)).1, (k5 2 (by decide)).1, (k5 3 (by decide)).1, (k5 4 (by decide)).1⟩
  refine (k5 f hf).cg hh hB hL (hA.sub ?_ ?_)
  · have h5 : f = 0 ∨ f = 1 ∨ f = 2 ∨ f = 3 ∨ f = 4 := by omega
    rcases h5 with rfl | rfl | rfl | rfl | rfl <;> omega
  · have h5 : f = 0 ∨ f = 1 ∨ f = 2 ∨ f = 3 ∨ f = 4 := by omega
    rcases h5 with rfl | rfl | rfl | rfl | rfl
    · show c 1 ≤ hi; omega
    · show c 2 ≤ hi; omega
    · show c 3 ≤ hi; omega
    · show c 4 ≤ hi; omega
    · show c 5 ≤ hi; omega
theorem WL.px {B B' : Int → Int → Nat → Int32 → Prop} {L L' : Nat → Int → Int → Nat → Int32 → Prop} (hh : h ≤ h') (hB : CgP ν ν1 B B') (hL : ∀ s, CgP ν ν1 (L s) (L' s)) : CgP ν ν1 (fun lo hi w x => ∃ m, WL (PX ν h B L s) (ν.2.1 27) m lo hi w x) (fun lo hi w x => ∃ m, WL (PX ν1 h' B' L' s) (ν1.2.1 27) m lo hi w x) := fun lo hi w x hA ⟨m, hm⟩ => by
  refine ⟨m, WL.cg (lo := lo) (fun lo' hi' v y k1 k2 hy => ?_) (Int.le_refl _) hm⟩
  obtain ⟨y1, y2, y3⟩ := hy.in
  have hc := @ic y
  exact ⟨hy.cg hh hB hL (fun g g1 g2 => hA g g1 (by omega) _ (by omega) (by omega)) (hA.sub (by omega) k2), hA.r (g := 27) (by omega) (by omega) (by omega) (by omega) (by omega) (by omega)⟩
theorem AL.cg {B B' : Int → Int → Nat → Int32 → Prop} (hh : h ≤ h') (hB : CgP ν ν1 B B') : ∀ (n n' : Nat), n ≤ n' → ∀ s, CgP ν ν1 (AL ν h B n s) (AL ν1 h' B' n' s)
  | 0, _, _, s => fun _ _ _ _ _ h => h.elim
  | n + 1, 0, hn, s => by omega
  | n + 1, n' + 1, hn, s => WL.px hh hB (AL.cg hh hB n n' (by omega))
theorem BT.cg (hh : h ≤ h') : ∀ K, CgP ν ν1 (BT ν h K) (BT ν1 h' K)
  | 0 => fun _ _ _ _ _ h => h
  | K + 1 => WL.px hh (BT.cg hh K) (AL.cg hh (BT.cg hh K) 1 1 (Nat.le_refl _))
theorem PK.cg (hh : h ≤ h') (hn : n ≤ n') (h1 : ∀ g, 20 ≤ g → g ≤ 26 → ((g = 24 ∨ g = 26) ∧ ν.2.1 20 i.toNatClampNeg = 70) ∨ ν1.2.1 g i.toNatClampNeg = ν.2.1 g i.toNatClampNeg) (hA : Ag ν ν1 (i.toInt + 1) hi) (hP : PK ν h K n s lo hi w i) : PK ν1 h' K n' s lo hi w i := PX.cg hh (BT.cg hh K) (AL.cg hh (BT.cg hh K) n n' hn) h1 hA hP
theorem PK.ag (hh : h ≤ h') (hn : n ≤ n') (hA : Ag ν ν1 lo hi) (hP : PK ν h K n s lo hi w i) : PK ν1 h' K n' s lo hi w i := by
  obtain ⟨y1, y2, y3⟩ := hP.in
  have hc := @ic i
  exact hP.cg hh hn (fun g g1 g2 => hA g g1 (by omega) _ (by omega) (by omega)) (hA.sub (by omega) (Int.le_refl _))
theorem LK.cg (hh : h ≤ h') (hn : n ≤ n') (hA : Ag ν ν1 lo hi) (hP : LK ν h K n s lo hi w x) : LK ν1 h' K n' s lo hi w x := WL.px hh (BT.cg hh K) (AL.cg hh (BT.cg hh K) n n' hn) _ _ _ _ hA hP
theorem FK.cg {a : Nat × Nat} (hh : h ≤ h') (hn : n ≤ n') (hA : Ag ν ν1 lo hi) (hF : FK ν h K n a lo hi w x) : FK ν1 h' K n' a lo hi w x := FB.cg hh (BT.cg hh K) (AL.cg hh (BT.cg hh K) n n' hn) hA hF
theorem PK.wd {hi' lo' : Int} (h1 : hi ≤ hi') (h2 : lo' ≤ lo) (hw : w ≤ v) (hP : PK ν h K n s lo hi w i) : PK ν h K n s lo' hi' v i := by
  obtain ⟨k1, k2, c, u, k3, k4, k5⟩ := hP
  exact ⟨⟨k1.1, by omega, by omega⟩, k2, c, u, ⟨k3.1, by omega⟩, by omega, k5⟩
theorem PK.mk {c0 c1 c2 c3 c4 c5 : Int} {v0 v1 v2 v3 v4 : Nat} {k fa fb fc fd fe nn : Int32} (hN : ND ν i.toNatClampNeg k fa fb fc fd fe nn) (hi0 : 0 ≤ i.toInt) (hl : lo ≤ i.toInt) (hc0 : i.toInt + 1 ≤ c0) (hc5 : c5 ≤ hi) (hk : sK s k = true) (hw : v0 + v1 + v2 + v3 + v4 + ow k ≤ w)
    (ha : FK ν h K n (fW k.toNatClampNeg 0) c0 c1 v0 fa) (hb : FK ν h K n (fW k.toNatClampNeg 1) c1 c2 v1 fb) (hc : FK ν h K n (fW k.toNatClampNeg 2) c2 c3 v2 fc) (hd : FK ν h K n (fW k.toNatClampNeg 3) c3 c4 v3 fd) (he : FK ν h K n (fW k.toNatClampNeg 4) c4 c5 v4 fe) : PK ν h K n s lo hi w i := by
  obtain ⟨a1, a2, a3, a4, a5, a6, -⟩ := hN
  have q0 := ha.1
  have q1 := hb.1
  have q2 := hc.1
  have q3 := hd.1
  have q4 := he.1
  refine ⟨⟨hi0, hl, by omega⟩, by rw [a1]; exact hk, fun f => match f with | 0 => c0 | 1 => c1 | 2 => c2 | 3 => c3 | 4 => c4 | _ => c5, fun f => match f with | 0 => v0 | 1 => v1 | 2 => v2 | 3 => v3 | _ => v4, ⟨hc0, hc5⟩, by rw [a1]; exact hw, fun f hf => ?_⟩
  rw [a1]
  have h5 : f = 0 ∨ f = 1 ∨ f = 2 ∨ f = 3 ∨ f = 4 := by omega
  rcases h5 with rfl | rfl | rfl | rfl | rfl
  · rw [show ν.2.1 (22 + 0) i.toNatClampNeg = fa from a2]; exact ha
  · rw [show ν.2.1 (22 + 1) i.toNatClampNeg = fb from a3]; exact hb
  · rw [show ν.2.1 (22 + 2) i.toNatClampNeg = fc from a4]; exact hc
  · rw [show ν.2.1 (22 + 3) i.toNatClampNeg = fd from a5]; exact hd
  · rw [show ν.2.1 (22 + 4) i.toNatClampNeg = fe from a6]; exact he
/-- fields: free; one node; a list -/
theorem FK.fr (hl : lo ≤ hi) : FK ν h K n (0, 0) lo hi w x := ⟨hl, trivial⟩
theorem FK.one (hl : lo ≤ hi) (hG : G ν h (bt lo hi) s x) (hn : ν.2.1 27 x.toNatClampNeg = -1) (h6 : ¬ s = 6) (h8 : ¬ s = 8) : FK ν h K n (1, s) lo hi w x := ⟨hl, ⟨hG, fun e => absurd e h6, fun e => absurd e h8⟩, hn⟩
theorem FK.opt (hF : FK ν h K n (1, s) lo hi w x) : FK ν h K n (2, s) lo hi w x := ⟨hF.1, Or.inr hF.2⟩
theorem FK.no (hl : lo ≤ hi) : FK ν h K n (2, s) lo hi w (-1) := ⟨hl, Or.inl rfl⟩
theorem FK.nm (hl : lo ≤ hi) (hG : G ν h (bt lo hi) 6 x) (hn : ν.2.1 27 x.toNatClampNeg = -1) : FK ν h K n (1, 6) lo hi 1 x := ⟨hl, ⟨hG, fun _ => Nat.le_refl _, fun e => absurd e (by decide)⟩, hn⟩
theorem FK.st (hl : lo ≤ hi) (hB : BT ν h K lo hi w x) : FK ν h K n (3, 3) lo hi w x := ⟨hl, fun _ => hB, fun e => absurd rfl e⟩
theorem FK.ls (hl : lo ≤ hi) (hs : ¬ s = 3) (hL : LK ν h K n s lo hi w x) : FK ν h K (n + 1) (3, s) lo hi w x := ⟨hl, fun e => absurd e hs, fun _ => hL⟩
theorem FK.ne (hx : ¬ x = -1) (hF : FK ν h K n (3, s) lo hi w x) : FK ν h K n (4, s) lo hi w x := ⟨hF.1, hx, hF.2⟩
theorem BT.nil (hl : lo ≤ hi) : BT ν h K lo hi w (-1) := by
  cases K with
  | zero => exact ⟨rfl, hl⟩
  | succ K => exact ⟨0, rfl, hl⟩
/-- a list under way -/
def OW (ν : MS) (h K n s : Nat) (lo : Int) (u : Nat) (f b : Int32) : Prop := (f = -1 ∧ b = -1 ∧ lo ≤ (ν.1 19).toInt) ∨ ∃ (m : Nat) (lb : Int) (v : Nat), (lb ≤ (ν.1 19).toInt ∧ v ≤ u) ∧ WS (PK ν h K n s) (ν.2.1 27) m lo lb (u - v) f b ∧ PK ν h K n s lb (ν.1 19).toInt v b ∧ ν.2.1 27 b.toNatClampNeg = -1
theorem OW.nil {u : Nat} (hl : lo ≤ (ν.1 19).toInt) : OW ν h K n s lo u (-1) (-1) := Or.inl ⟨rfl, rfl, hl⟩
theorem OW.one (hP : PK ν h K n s lo (ν.1 19).toInt v x) (hn : ν.2.1 27 x.toNatClampNeg = -1) : OW ν h K n s lo v x x := Or.inr ⟨0, lo, v, ⟨by have := hP.in; omega, Nat.le_refl _⟩, ⟨rfl, rfl⟩, hP, hn⟩
theorem OW.done {u : Nat} {f y : Int32} (hO : OW ν h K n s lo u f y) : LK ν h K n s lo (ν.1 19).toInt u f := by
  rcases hO with ⟨rfl, -, hl⟩ | ⟨m, lb, v, ⟨h1, h2⟩, h3, h4, h5⟩
  · exact ⟨0, rfl, hl⟩
  · have := WS.done h4 h1 h5 h3
    rw [show u - v + v = u by omega] at this
    exact ⟨m + 1, this⟩
theorem OW.le {u : Nat} {f y : Int32} (hO : OW ν h K n s lo u f y) : lo ≤ (ν.1 19).toInt := by
  rcases hO with ⟨-, -, hl⟩ | ⟨m, lb, v, ⟨h1, h2⟩, h3, h4, h5⟩
  · exact hl
  · have := h3.le; omega
theorem OW.ag {u : Nat} {f y : Int32} (hO : OW ν h K n s lo u f y) (hA : Ag ν ν1 lo (ν.1 19).toInt) (hn : (ν.1 19).toInt ≤ (ν1.1 19).toInt) : OW ν1 h K n s lo u f y := by
  rcases hO with ⟨h1, h2, h3⟩ | ⟨m, lb, v, ⟨h1, h2⟩, h3, h4, h5⟩
  · exact Or.inl ⟨h1, h2, by omega⟩
  · have hl := h3.le
    obtain ⟨y1, y2, y3⟩ := h4.in
    have hc := @ic y
    refine Or.inr ⟨m, lb, v, ⟨by omega, h2⟩, WS.cg (lo := lo) (fun lo' hi' v z k1 k2 hz => ?_) (Int.le_refl _) h3, PK.wd hn (Int.le_refl _) (Nat.le_refl _) (h4.ag (Nat.le_refl _) (Nat.le_refl _) (hA.sub hl (Int.le_refl _))), (hA.r (g := 27) (by omega) (by omega) (by omega) (by omega) (by omega) (by omega)).trans h5⟩
    obtain ⟨z1, z2, z3⟩ := hz.in
    have hcz := @ic z
    exact ⟨hz.ag (Nat.le_refl _) (Nat.le_refl _) (hA.sub k1 (by omega)), hA.r (g := 27) (by omega) (by omega) (by omega) (by omega) (by omega) (by omega)⟩
theorem OW.rb {u : Nat} {f y : Int32} (hO : OW ν h K n s lo u f y) (hr : RB e (ν.1 19).toInt ν ν1) (hn : (ν.1 19).toInt ≤ (ν1.1 19).toInt) (he : e < lo ∨ (ν.1 19).toInt ≤ e) : OW ν1 h K n s lo u f y := hO.ag (hr.ag (Int.le_refl _) he) hn
theorem OW.add {u : Nat} {f y : Int32} (hO : OW ν h K n s lo u f y) (hy : 0 ≤ y.toInt) (hr : RB (-1) (ν.1 19).toInt ν ν1) (h0 : 0 ≤ lo) (hP : PK ν1 h K n s (ν.1 19).toInt (ν1.1 19).toInt v x) (hl : ν1.2.1 27 x.toNatClampNeg = -1) : OW (mA1 ν1 27 y.toNatClampNeg x) h K n s lo (u + v) f x := by
  rcases hO with ⟨-, h2, -⟩ | ⟨m, lb, v0, ⟨h1, h2⟩, h3, h4, h5⟩
  · rw [h2] at hy; exact absurd hy (by decide)
  have hll := h3.le
  obtain ⟨y1, y2, y3⟩ := h4.in
  obtain ⟨x1, x2, x3⟩ := hP.in
  have hc := @ic y
  have hcx := @ic x
  have row : ∀ g, g ≤ 26 → (mA1 ν1 27 y.toNatClampNeg x).2.1 g = ν1.2.1 g := fun g hg => by
    show (bif Nat.beq g 27 then upd (ν1.2.1 27) y.toNatClampNeg x else ν1.2.1 g) = _
    rw [nb_ne (by omega)]; rfl
  have off : ∀ j : Nat, j ≠ y.toNatClampNeg → ∀ g, g ≤ 27 → (mA1 ν1 27 y.toNatClampNeg x).2.1 g j = ν1.2.1 g j := fun j hj g hg => by
    by_cases c : g = 27
    · subst c; exact upd_off hj
    · rw [row g (by omega)]
  have a1 : Ag ν (mA1 ν1 27 y.toNatClampNeg x) lo lb := fun g g1 g2 j j1 j2 => Or.inr <| (off j (by omega) g g2).trans (hr g g1 (by omega) j (by omega) (by omega))
  have w : WS (PK (mA1 ν1 27 y.toNatClampNeg x) h K n s) ((mA1 ν1 27 y.toNatClampNeg x).2.1 27) m lo lb (u - v0) f y := WS.cg (lo := lo) (fun lo' hi' v z k1 k2 hz => by
    obtain ⟨z1, z2, z3⟩ := hz.in
    have hcz := @ic z
    exact ⟨hz.ag (Nat.le_refl _) (Nat.le_refl _) (a1.sub k1 (by omega)), a1.r (g := 27) (by omega) (by omega) (by omega) (by omega) (by omega) (by omega)⟩) (Int.le_refl _) h3
  have e4 : PK (mA1 ν1 27 y.toNatClampNeg x) h K n s lb (ν.1 19).toInt v0 y := h4.cg (Nat.le_refl _) (Nat.le_refl _) (fun g g1 g2 => by rw [row g (by omega)]; exact Or.inr (hr g g1 (by omega) _ (by omega) (by omega))) (fun g g1 g2 j j1 j2 => Or.inr <| (off j (by omega) g g2).trans (hr g g1 (by omega) j (by omega) (by omega)))
  have e5 : PK (mA1 ν1 27 y.toNatClampNeg x) h K n s (ν.1 19).toInt (ν1.1 19).toInt v x := hP.ag (Nat.le_refl _) (Nat.le_refl _) (fun g g1 g2 j j1 j2 => Or.inr <| off j (by omega) g g2)
  have w2 := WS.snoc (c := x) e4 h1 (show upd (ν1.2.1 27) y.toNatClampNeg x y.toNatClampNeg = x from upd_at) w
  rw [show u - v0 + v0 = u + v - v by omega] at w2
  exact Or.inr ⟨m + 1, (ν.1 19).toInt, v, ⟨by show _ ≤ (ν1.1 19).toInt; omega, by omega⟩, w2, e5, (off x.toNatClampNeg (by omega) 27 (by omega)).trans hl⟩
/-- a row of names is such a list -/
theorem Ek.pk {k : Int32} (hE : Ek ν k lo hi i) {mid : Int} (h1 : i.toInt < mid) (hk : sK s k = true) (hf : ∀ f, f < 5 → fW k.toNatClampNeg f = (0, 0)) (hw : ow k ≤ w) : PK ν h K n s i.toInt mid w i := by
  obtain ⟨k1, k2, k3, k4, k5⟩ := hE
  refine ⟨⟨k1, Int.le_refl _, h1⟩, by rw [k4]; exact hk, fun _ => i.toInt + 1, fun _ => 0, ⟨Int.le_refl _, by show i.toInt + 1 ≤ mid; omega⟩, by rw [k4]; show 0 + 0 + 0 + 0 + 0 + ow k ≤ w; omega, fun f hf' => ?_⟩
  rw [k4, hf f hf']
  exact ⟨Int.le_refl _, trivial⟩
theorem WL.ek {k : Int32} (hk : sK s k = true) (hf : ∀ f, f < 5 → fW k.toNatClampNeg f = (0, 0)) (hw : ow k = 1) : ∀ {m : Nat} {l : Int} {x : Int32} {w : Nat}, Lst (Ek ν k lo hi) (ν.2.1 27) m x → (x = -1 → l ≤ hi) → (0 ≤ x.toInt → l ≤ x.toInt ∧ hi - x.toInt ≤ (w : Int)) → WL (PK ν h K n s) (ν.2.1 27) m l hi w x
  | 0, l, x, w, h, h1, h2 => ⟨h, h1 h⟩
  | m + 1, l, x, w, h, h1, h2 => by
    rcases h with h | ⟨hE, hL⟩
    · exact Or.inl ⟨h, h1 h⟩
    obtain ⟨k1, k2, k3, k4, k5⟩ := hE
    obtain ⟨k6, k7⟩ := h2 k1
    rcases k5 with k5 | k5
    · refine Or.inr ⟨hi, 1, ⟨by omega, Int.le_refl _, by omega⟩, PK.wd (Int.le_refl _) k6 (Nat.le_refl _) (Ek.pk ⟨k1, k2, k3, k4, Or.inl k5⟩ k3 hk hf (by omega)), ?_⟩
      refine WL.ek hk hf hw hL (fun _ => Int.le_refl _) (fun e => ?_)
      rw [k5] at e; exact absurd e (by decide)
    · have k8 : (ν.2.1 27 x.toNatClampNeg).toInt ≤ hi := by
        cases m with
        | zero => rw [show ν.2.1 27 x.toNatClampNeg = -1 from hL] at k5 ⊢; rw [show (-1 : Int32).toInt = -1 from rfl] at k5; omega
        | succ m =>
          rcases hL with hL | ⟨hE2, -⟩
          · rw [hL] at k5 ⊢; rw [show (-1 : Int32).toInt = -1 from rfl] at k5; omega
          · have := hE2.2.2.1; omega
      refine Or.inr ⟨(ν.2.1 27 x.toNatClampNeg).toInt, 1, ⟨by omega, k8, by omega⟩, PK.wd (Int.le_refl _) k6 (Nat.le_refl _) (Ek.pk ⟨k1, k2, k3, k4, Or.inr k5⟩ k5 hk hf (by omega)), ?_⟩
      refine WL.ek hk hf hw hL (fun e => ?_) (fun e => ⟨Int.le_refl _, by omega⟩)
      rw [e] at k5; rw [show (-1 : Int32).toInt = -1 from rfl] at k5; omega
/-- the same of the answer of nameRow -/
theorem NQ.lk {μ : MS} {k r : Int32} (hN : NQ k μ r ν) (h0 : 0 ≤ (μ.1 19).toInt) (hk : sK s k = true) (hf : ∀ f, f < 5 → fW k.toNatClampNeg f = (0, 0)) (hw : ow k = 1) : ∃ w : Nat, 2 * (w : Int) ≤ (ν.1 32).toInt - (μ.1 32).toInt + 1 ∧ LK ν h K n s (μ.1 19).toInt (ν.1 19).toInt w r := by
  obtain ⟨⟨⟨p, -, -, rfl, m, hm⟩, -⟩, hc⟩ := hN
  have l := p.2.2.2.1
  obtain ⟨w, hw'⟩ : ∃ w : Nat, (w : Int) = (ν.1 19).toInt - (μ.1 19).toInt := ⟨((ν.1 19).toInt - (μ.1 19).toInt).toNat, by omega⟩
  exact ⟨w, by omega, m, WL.ek hk hf hw hm (fun _ => l) (fun _ => ⟨Int.le_refl _, by omega⟩)⟩
end BOD
