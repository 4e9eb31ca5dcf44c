/-! contracts of the reference: FOR, TRY, TYPECASE -/
section PSH
variable {X : ev_X} {W : Nat → Prop} {d : Nat} {P : MP}
theorem st_for (hE : XC X W P 332 [] 1 20 12 0 0 d) (hSt : SL X W P 321 [] 3 19 11 d) : FiC X W P 324 0 0 (d + 1) := fun μ T h s hS hd hh hn hT s0 s1 nd0 => by
  have hp := px0 hS
  have h0 := hS.2.2.2.2.1
  have at0 := hS.at
  have hb0 := hS.2.2.2.2.2.1.1
  have hcs := @ic s
  have p0 : TR s.toInt 0 0 0 0 0 μ μ := TR.rf hS
  have lt0 : s.toInt < (μ.1 19).toInt := by omega
  have s9 : s.toInt < 15990 := by omega
  have cv0 : CVs μ (s.toInt + 1) (μ.1 19).toInt [] := CVs.nil (by omega)
  obtain ⟨K, hK⟩ : ∃ K : Nat, (K : Int) + (μ.1 40).toInt = 20 := ⟨(20 - (μ.1 40).toInt).toNat, by have := hS.2.2.2.2.2.2.2.2; omega⟩
  refine me_meth (by omega) rfl (v_forStatement_0 _ ?_)
  obtain ⟨A1, hA2⟩ : ∃ A : Int, A = (μ.1 19).toInt := ⟨_, rfl⟩
  have g3 : TR s.toInt 0 0 0 0 0 μ (mA1 μ 20 s.toNatClampNeg 48) := TR.put p0.ps s0 rfl rfl
  have e5 : ((mA1 μ 20 s.toNatClampNeg 48).1 19).toInt = (μ.1 19).toInt := rfl
  have e6 : ((mA1 μ 20 s.toNatClampNeg 48).1 32).toInt = (μ.1 32).toInt := rfl
  have sr8 : srt (mA1 μ 20 s.toNatClampNeg 48) = srt μ := srt_off rfl
  have nd7 := nd0.pk (x := 48)
  have p9 : TR (s.toInt) (0) 0 0 0 (0) μ (mA1 μ 20 s.toNatClampNeg 48) := p0.trS g3 (Or.inr (Or.inl rfl)) rfl rfl rfl rfl (by omega)
  have cv10 : CVs (mA1 μ 20 s.toNatClampNeg 48) (s.toInt + 1) (((mA1 μ 20 s.toNatClampNeg 48)).1 19).toInt [] := cv0.st g3.rb (Int.le_refl _) (Or.inl (by omega)) rfl
  refine ⟨TR.mi p0.ps rfl rfl s0 (by omega), ?_⟩
  generalize mA1 μ 20 s.toNatClampNeg 48 = κ4 at *
  have lt11 : s.toInt < (κ4.1 19).toInt := by omega
  have u22 := p9.2
  have a23 := p9.ps.at
  refine MC.mono (t_node (by omega) p9.ps (by omega)) (fun x12 κ20 h21 => ?_) (fun _ h => h)
  obtain ⟨q13, ⟨z14, z15⟩, z16, z17, z18, z19⟩ := h21
  have c24 := @ic x12
  have p25 : TR (s.toInt) (0) 0 0 0 (1) μ κ20 := p9.trS q13 (Or.inl (by decide)) rfl rfl rfl rfl (by omega)
  have cv26 : CVs κ20 (s.toInt + 1) ((κ20).1 19).toInt [] := cv10.ns q13.rb (Int.le_refl _) (Or.inl (by omega)) (by omega) (NS.one z19 (by omega) (by omega) (by decide))
  have nd27 := nd7.tr q13 (by have := @ic s; omega) (by omega)
  have lt28 : s.toInt < (κ20.1 19).toInt := by omega
  have k29 : Kd κ20 h s.toInt s 6 x12 := Kd.of ((n10 (h := 0) (lo := x12.toInt) (hi := (κ20.1 19).toInt) z15 (Int.le_refl _) (by omega) z19).up (by omega) (Int.le_refl _) (Int.le_refl _)) (by omega) (Int.le_refl _) s0 (Or.inl (by omega)) z19.2.2.2.2.2.2
  obtain ⟨A30, hA31⟩ : ∃ A : Int, A = (κ20.1 19).toInt := ⟨_, rfl⟩
  have b32 : FK κ20 (h) K 1 (1, 6) A1 A30 1 x12 := FK.nm (by omega) ((n10 (h := 0) (lo := A1) (hi := A30) z15 (by omega) (by omega) z19).up (by omega) (Int.le_refl _) (Int.le_refl _)) z19.2.2.2.2.2.2
  have g33 : TR s.toInt 0 0 0 0 0 κ20 (mA1 κ20 22 s.toNatClampNeg x12) := TR.put p25.ps s0 rfl rfl
  have e35 : ((mA1 κ20 22 s.toNatClampNeg x12).1 19).toInt = (κ20.1 19).toInt := rfl
  have e36 : ((mA1 κ20 22 s.toNatClampNeg x12).1 32).toInt = (κ20.1 32).toInt := rfl
  have sr38 : srt (mA1 κ20 22 s.toNatClampNeg x12) = srt κ20 := srt_off rfl
  have nd37 := nd27.pa (x := x12)
  have p39 : TR (s.toInt) (0) 0 0 0 (1) μ (mA1 κ20 22 s.toNatClampNeg x12) := p25.trS g33 (Or.inr (Or.inl rfl)) rfl rfl rfl rfl (by omega)
  have k40 := k29.tr g33 (Or.inr rfl) s0
  have cv41 : CVs (mA1 κ20 22 s.toNatClampNeg x12) (s.toInt + 1) (((mA1 κ20 22 s.toNatClampNeg x12)).1 19).toInt [] := cv26.st g33.rb (Int.le_refl _) (Or.inl (by omega)) rfl
  have b42 := FK.tr b32 g33 (by omega) (by omega)
  have nx43 := z19.off (g := 22) (t := s.toNatClampNeg) (x := x12) (by have := @ic s; have := @ic x12; omega)
  refine ⟨TR.mi p25.ps rfl rfl s0 (by omega), TR.mi p25.ps rfl rfl s0 (by omega), ?_⟩
  generalize mA1 κ20 22 s.toNatClampNeg x12 = κ34 at *
  have lt44 : s.toInt < (κ34.1 19).toInt := by omega
  refine MC.mono (t_name (by omega) p39.ps (fun _ h => hT _ (p39.1.1.tr h))) (fun v45 κ50 h46 => ?_) (fun _ h => h)
  obtain ⟨q47, m48, a49⟩ := h46
  have p51 : TR (s.toInt) (0) 0 0 0 (-1) μ κ50 := p39.trS q47 (Or.inl (by decide)) rfl rfl rfl rfl (by omega)
  have k52 := k40.tr q47 (Or.inl (by decide)) s0
  have cv53 : CVs κ50 (s.toInt + 1) ((κ50).1 19).toInt [] := cv41.st q47.rb (Int.le_refl _) (Or.inl (by omega)) m48
  have b54 := FK.tr b42 q47 (by omega) (by omega)
  have nx55 := nx43.tr q47 (by have := @ic x12; omega) (by omega)
  have nd56 := nd37.tr q47 (by have := @ic s; omega) (by omega)
  have lt57 : s.toInt < (κ50.1 19).toInt := by omega
  rw [upd_at]
  have c62 := @ic x12
  have c63 := @ic s
  have g58 : TR x12.toInt 0 0 0 0 0 κ50 (mA1 κ50 22 x12.toNatClampNeg v45) := TR.put p51.ps z15 rfl rfl
  have e60 : ((mA1 κ50 22 x12.toNatClampNeg v45).1 19).toInt = (κ50.1 19).toInt := rfl
  have e61 : ((mA1 κ50 22 x12.toNatClampNeg v45).1 32).toInt = (κ50.1 32).toInt := rfl
  have nd64 := nd56.off (g := 22) (t := x12.toNatClampNeg) (x := v45) (by omega)
  have p65 : TR (s.toInt) (0) 0 0 0 (-1) μ (mA1 κ50 22 x12.toNatClampNeg v45) := p51.trS g58 (Or.inr (Or.inr (by omega))) rfl rfl rfl rfl (by omega)
  have k66 := Kd.free0 (t := x12.toNatClampNeg) (y := v45) nx55.1 k52
  have b67 := FK.nm0 (k := x12.toNatClampNeg) (y := v45) nx55.1 b54
  have cv68 : CVs (mA1 κ50 22 x12.toNatClampNeg v45) (s.toInt + 1) ((mA1 κ50 22 x12.toNatClampNeg v45).1 19).toInt [] := cv53.free0 nx55.1
  refine ⟨TR.mi p51.ps rfl rfl z15 (by omega), ?_⟩
  generalize mA1 κ50 22 x12.toNatClampNeg v45 = κ59 at *
  have lt69 : s.toInt < (κ59.1 19).toInt := by omega
  refine MC.mono (t_expect (by omega) p65.ps (by decide) (fun _ h => hT _ (p65.1.1.tr h))) (fun v70 κ75 h71 => ?_) (fun _ h => h)
  obtain ⟨q72, m73, a74⟩ := h71
  have p76 : TR (s.toInt) (0) 0 0 0 (-3) μ κ75 := p65.trS q72 (Or.inl (by decide)) rfl rfl rfl rfl (by omega)
  have k77 := k66.tr q72 (Or.inl (by decide)) s0
  have cv78 : CVs κ75 (s.toInt + 1) ((κ75).1 19).toInt [] := cv68.st q72.rb (Int.le_refl _) (Or.inl (by omega)) m73
  have b79 := FK.tr b67 q72 (by omega) (by omega)
  have nd80 := nd64.tr q72 (by have := @ic s; omega) (by omega)
  have lt81 : s.toInt < (κ75.1 19).toInt := by omega
  have x85 := p76.px
  have u86 := p76.2
  have y87 := tT p76
  have z88 := px0 p76.ps
  refine MC.mono (hE κ75 T h p76.ps (by omega) (by omega) (by omega) (fun _ h => hT _ (p76.1.1.tr h))) (fun r82 κ83 h84 => ?_) (fun _ h => h)
  obtain ⟨q89, a91, g90, n92, c93⟩ := h84
  have l94 := q89.l19
  have l95 := q89.l32
  have p96 : TR (s.toInt) (0) 0 0 0 (-3) μ κ83 := p76.trS q89 (Or.inl (by decide)) rfl rfl rfl rfl (by omega)
  have k97 := k77.tr q89 (Or.inl (by decide)) s0
  have cv98 : CVs κ83 (s.toInt + 1) ((κ83).1 19).toInt [r82] := cv78.add q89.rb (Int.le_refl _) (Or.inl (by omega)) (by omega) l94 (LCO.of g90.in.1 c93)
  have b99 := FK.tr b79 q89 (by omega) (by omega)
  have nd100 := nd80.tr q89 (by have := @ic s; omega) (by omega)
  have lt101 : s.toInt < (κ83.1 19).toInt := by omega
  have k102 : Kd κ83 h s.toInt s 1 r82 := Kd.of g90 (by omega) (Int.le_refl _) s0 (Or.inl (by omega)) n92
  obtain ⟨A103, hA104⟩ : ∃ A : Int, A = (κ83.1 19).toInt := ⟨_, rfl⟩
  have b105 : FK κ83 (h) K 1 (1, 1) A30 A103 0 r82 := FK.one (by omega) (g90.up (Nat.le_refl _) (by omega) (by omega)) n92 (by decide) (by decide)
  have g106 : TR s.toInt 0 0 0 0 0 κ83 (mA1 κ83 23 s.toNatClampNeg r82) := TR.put p96.ps s0 rfl rfl
  have e108 : ((mA1 κ83 23 s.toNatClampNeg r82).1 19).toInt = (κ83.1 19).toInt := rfl
  have e109 : ((mA1 κ83 23 s.toNatClampNeg r82).1 32).toInt = (κ83.1 32).toInt := rfl
  have sr111 : srt (mA1 κ83 23 s.toNatClampNeg r82) = srt κ83 := srt_off rfl
  have nd110 := nd100.pb (x := r82)
  have p112 : TR (s.toInt) (0) 0 0 0 (-3) μ (mA1 κ83 23 s.toNatClampNeg r82) := p96.trS g106 (Or.inr (Or.inl rfl)) rfl rfl rfl rfl (by omega)
  have k113 := k97.tr g106 (Or.inr rfl) s0
  have k114 := k102.tr g106 (Or.inr rfl) s0
  have cv115 : CVs (mA1 κ83 23 s.toNatClampNeg r82) (s.toInt + 1) (((mA1 κ83 23 s.toNatClampNeg r82)).1 19).toInt [r82] := cv98.st g106.rb (Int.le_refl _) (Or.inl (by omega)) rfl
  have b116 := FK.tr b99 g106 (by omega) (by omega)
  have b117 := FK.tr b105 g106 (by omega) (by omega)
  refine ⟨TR.mi p96.ps rfl rfl s0 (by omega), ?_⟩
  generalize mA1 κ83 23 s.toNatClampNeg r82 = κ107 at *
  have lt118 : s.toInt < (κ107.1 19).toInt := by omega
  refine MC.mono (t_expect (by omega) p112.ps (by decide) (fun _ h => hT _ (p112.1.1.tr h))) (fun v119 κ124 h120 => ?_) (fun _ h => h)
  obtain ⟨q121, m122, a123⟩ := h120
  have p125 : TR (s.toInt) (0) 0 0 0 (-5) μ κ124 := p112.trS q121 (Or.inl (by decide)) rfl rfl rfl rfl (by omega)
  have k126 := k113.tr q121 (Or.inl (by decide)) s0
  have k127 := k114.tr q121 (Or.inl (by decide)) s0
  have cv128 : CVs κ124 (s.toInt + 1) ((κ124).1 19).toInt [r82] := cv115.st q121.rb (Int.le_refl _) (Or.inl (by omega)) m122
  have b129 := FK.tr b116 q121 (by omega) (by omega)
  have b130 := FK.tr b117 q121 (by omega) (by omega)
  have nd131 := nd110.tr q121 (by have := @ic s; omega) (by omega)
  have lt132 : s.toInt < (κ124.1 19).toInt := by omega
  have x136 := p125.px
  have u137 := p125.2
  have y138 := tT p125
  have z139 := px0 p125.ps
  refine MC.mono (hE κ124 T h p125.ps (by omega) (by omega) (by omega) (fun _ h => hT _ (p125.1.1.tr h))) (fun r133 κ134 h135 => ?_) (fun _ h => h)
  obtain ⟨q140, a142, g141, n143, c144⟩ := h135
  have l145 := q140.l19
  have l146 := q140.l32
  have p147 : TR (s.toInt) (0) 0 0 0 (-5) μ κ134 := p125.trS q140 (Or.inl (by decide)) rfl rfl rfl rfl (by omega)
  have k148 := k126.tr q140 (Or.inl (by decide)) s0
  have k149 := k127.tr q140 (Or.inl (by decide)) s0
  have cv150 : CVs κ134 (s.toInt + 1) ((κ134).1 19).toInt [r133, r82] := cv128.add q140.rb (Int.le_refl _) (Or.inl (by omega)) (by omega) l145 (LCO.of g141.in.1 c144)
  have b151 := FK.tr b129 q140 (by omega) (by omega)
  have b152 := FK.tr b130 q140 (by omega) (by omega)
  have nd153 := nd131.tr q140 (by have := @ic s; omega) (by omega)
  have lt154 : s.toInt < (κ134.1 19).toInt := by omega
  have k155 : Kd κ134 h s.toInt s 1 r133 := Kd.of g141 (by omega) (Int.le_refl _) s0 (Or.inl (by omega)) n143
  obtain ⟨A156, hA157⟩ : ∃ A : Int, A = (κ134.1 19).toInt := ⟨_, rfl⟩
  have b158 : FK κ134 (h) K 1 (1, 1) A103 A156 0 r133 := FK.one (by omega) (g141.up (Nat.le_refl _) (by omega) (by omega)) n143 (by decide) (by decide)
  have g159 : TR s.toInt 0 0 0 0 0 κ134 (mA1 κ134 24 s.toNatClampNeg r133) := TR.put p147.ps s0 rfl rfl
  have e161 : ((mA1 κ134 24 s.toNatClampNeg r133).1 19).toInt = (κ134.1 19).toInt := rfl
  have e162 : ((mA1 κ134 24 s.toNatClampNeg r133).1 32).toInt = (κ134.1 32).toInt := rfl
  have sr164 : srt (mA1 κ134 24 s.toNatClampNeg r133) = srt κ134 := srt_off rfl
  have nd163 := nd153.pc (x := r133)
  have p165 : TR (s.toInt) (0) 0 0 0 (-5) μ (mA1 κ134 24 s.toNatClampNeg r133) := p147.trS g159 (Or.inr (Or.inl rfl)) rfl rfl rfl rfl (by omega)
  have k166 := k148.tr g159 (Or.inr rfl) s0
  have k167 := k149.tr g159 (Or.inr rfl) s0
  have k168 := k155.tr g159 (Or.inr rfl) s0
  have cv169 : CVs (mA1 κ134 24 s.toNatClampNeg r133) (s.toInt + 1) (((mA1 κ134 24 s.toNatClampNeg r133)).1 19).toInt [r133, r82] := cv150.st g159.rb (Int.le_refl _) (Or.inl (by omega)) rfl
  have b170 := FK.tr b151 g159 (by omega) (by omega)
  have b171 := FK.tr b152 g159 (by omega) (by omega)
  have b172 := FK.tr b158 g159 (by omega) (by omega)
  refine ⟨TR.mi p147.ps rfl rfl s0 (by omega), ?_⟩
  generalize mA1 κ134 24 s.toNatClampNeg r133 = κ160 at *
  have lt173 : s.toInt < (κ160.1 19).toInt := by omega
  refine MC.mono (t_expect (by omega) p165.ps (by decide) (fun _ h => hT _ (p165.1.1.tr h))) (fun v174 κ179 h175 => ?_) (fun _ h => h)
  obtain ⟨q176, m177, a178⟩ := h175
  have p180 : TR (s.toInt) (0) 0 0 0 (-7) μ κ179 := p165.trS q176 (Or.inl (by decide)) rfl rfl rfl rfl (by omega)
  have k181 := k166.tr q176 (Or.inl (by decide)) s0
  have k182 := k167.tr q176 (Or.inl (by decide)) s0
  have k183 := k168.tr q176 (Or.inl (by decide)) s0
  have cv184 : CVs κ179 (s.toInt + 1) ((κ179).1 19).toInt [r133, r82] := cv169.st q176.rb (Int.le_refl _) (Or.inl (by omega)) m177
  have b185 := FK.tr b170 q176 (by omega) (by omega)
  have b186 := FK.tr b171 q176 (by omega) (by omega)
  have b187 := FK.tr b172 q176 (by omega) (by omega)
  have nd188 := nd163.tr q176 (by have := @ic s; omega) (by omega)
  have lt189 : s.toInt < (κ179.1 19).toInt := by omega
  have x193 := p180.px
  have u194 := p180.2
  have y195 := tT p180
  have z196 := px0 p180.ps
  refine MC.mono (hSt κ179 T h p180.ps (by omega) (by omega) (by omega) (fun _ h => hT _ (p180.1.1.tr h))) (fun r190 κ191 h192 => ?_) (fun _ h => h)
  obtain ⟨q197, g198, c199, hb200⟩ := h192
  obtain ⟨v201, hv202, b203⟩ := hb200 K (by have y40 := p180.1.2.2.2.2.2.2.2.2.1; omega)
  have l204 := q197.l19
  have l205 := q197.l32
  have p206 : TR (s.toInt) (0) 0 0 0 (-7) μ κ191 := p180.trS q197 (Or.inl (by decide)) rfl rfl rfl rfl (by omega)
  have k207 := k181.tr q197 (Or.inl (by decide)) s0
  have k208 := k182.tr q197 (Or.inl (by decide)) s0
  have k209 := k183.tr q197 (Or.inl (by decide)) s0
  have cv210 : CVs κ191 (s.toInt + 1) ((κ191).1 19).toInt [r190, r133, r82] := cv184.add q197.rb (Int.le_refl _) (Or.inl (by omega)) (by omega) l204 (c199)
  have b211 := FK.tr b185 q197 (by omega) (by omega)
  have b212 := FK.tr b186 q197 (by omega) (by omega)
  have b213 := FK.tr b187 q197 (by omega) (by omega)
  have nd214 := nd188.tr q197 (by have := @ic s; omega) (by omega)
  have lt215 : s.toInt < (κ191.1 19).toInt := by omega
  have k216 : KL κ191 h s.toInt s 3 r190 := KL.of g198 (by omega) (Int.le_refl _) s0 (Or.inl (by omega))
  obtain ⟨A217, hA218⟩ : ∃ A : Int, A = (κ191.1 19).toInt := ⟨_, rfl⟩
  have b219 : FK κ191 (h) K 1 (3, 3) A156 A217 v201 r190 := FK.at (by omega) (by omega) b203.b3
  have g220 : TR s.toInt 0 0 0 0 0 κ191 (mA1 κ191 25 s.toNatClampNeg r190) := TR.put p206.ps s0 rfl rfl
  have e222 : ((mA1 κ191 25 s.toNatClampNeg r190).1 19).toInt = (κ191.1 19).toInt := rfl
  have e223 : ((mA1 κ191 25 s.toNatClampNeg r190).1 32).toInt = (κ191.1 32).toInt := rfl
  have sr225 : srt (mA1 κ191 25 s.toNatClampNeg r190) = srt κ191 := srt_off rfl
  have nd224 := nd214.pd (x := r190)
  have p226 : TR (s.toInt) (0) 0 0 0 (-7) μ (mA1 κ191 25 s.toNatClampNeg r190) := p206.trS g220 (Or.inr (Or.inl rfl)) rfl rfl rfl rfl (by omega)
  have k227 := k207.tr g220 (Or.inr rfl) s0
  have k228 := k208.tr g220 (Or.inr rfl) s0
  have k229 := k209.tr g220 (Or.inr rfl) s0
  have k230 := k216.tr g220 (Or.inr rfl) s0
  have cv231 : CVs (mA1 κ191 25 s.toNatClampNeg r190) (s.toInt + 1) (((mA1 κ191 25 s.toNatClampNeg r190)).1 19).toInt [r190, r133, r82] := cv210.st g220.rb (Int.le_refl _) (Or.inl (by omega)) rfl
  have b232 := FK.tr b211 g220 (by omega) (by omega)
  have b233 := FK.tr b212 g220 (by omega) (by omega)
  have b234 := FK.tr b213 g220 (by omega) (by omega)
  have b235 := FK.tr b219 g220 (by omega) (by omega)
  refine ⟨TR.mi p206.ps rfl rfl s0 (by omega), ?_⟩
  generalize mA1 κ191 25 s.toNatClampNeg r190 = κ221 at *
  have lt236 : s.toInt < (κ221.1 19).toInt := by omega
  refine MC.mono (t_expect (by omega) p226.ps (by decide) (fun _ h => hT _ (p226.1.1.tr h))) (fun v237 κ242 h238 => ?_) (fun _ h => h)
  obtain ⟨q239, m240, a241⟩ := h238
  have p243 : TR (s.toInt) (0) 0 0 0 (-9) μ κ242 := p226.trS q239 (Or.inl (by decide)) rfl rfl rfl rfl (by omega)
  have k244 := k227.tr q239 (Or.inl (by decide)) s0
  have k245 := k228.tr q239 (Or.inl (by decide)) s0
  have k246 := k229.tr q239 (Or.inl (by decide)) s0
  have k247 := k230.tr q239 (Or.inl (by decide)) s0
  have cv248 : CVs κ242 (s.toInt + 1) ((κ242).1 19).toInt [r190, r133, r82] := cv231.st q239.rb (Int.le_refl _) (Or.inl (by omega)) m240
  have b249 := FK.tr b232 q239 (by omega) (by omega)
  have b250 := FK.tr b233 q239 (by omega) (by omega)
  have b251 := FK.tr b234 q239 (by omega) (by omega)
  have b252 := FK.tr b235 q239 (by omega) (by omega)
  have nd253 := nd224.tr q239 (by have := @ic s; omega) (by omega)
  have lt254 : s.toInt < (κ242.1 19).toInt := by omega
  exact ⟨⟨p243.1, by have := p243.2; omega⟩, G.mk s0 (Int.le_refl _) lt254 nd253 (by decide) (k244) (k245) (k246) (k247) True.intro, nd253.2.2.2.2.2.2, (CO.fin' (by omega) cv248 s0 ⟨fun h => Par.fd nd253 (by decide) h, fun h => Par.fc nd253 (by decide) h, fun h => Par.fb nd253 (by decide) h, True.intro⟩ lt254), (fun K9 hK9 => by obtain rfl : K9 = K := (by omega); exact ⟨1 + 0 + 0 + v201 + 0 + 0, by omega, PK.mk (c0 := A1) (v0 := 1) (v1 := 0) (v2 := 0) (v3 := v201) (v4 := 0) nd253 s0 (by omega) (by omega) (by omega) (by decide) (by have e : ow (48 : Int32) = 0 := (by decide); omega) ((FK.up (by omega) b249)) ((FK.up (by omega) b250)) ((FK.up (by omega) b251)) ((FK.up (by omega) b252)) (FK.fr (Int.le_refl _))⟩)⟩
theorem st_try (hSt : SL X W P 321 [] 3 19 11 d) (hH : SL X W P 328 [.int 52] 14 20 12 d) (hO : OtC X W P d) : FiC X W P 325 0 0 (d + 1) := fun μ T h s hS hd hh hn hT s0 s1 nd0 => by
  have hp := px0 hS
  have h0 := hS.2.2.2.2.1
  have at0 := hS.at
  have hb0 := hS.2.2.2.2.2.1.1
  have hcs := @ic s
  have p0 : TR s.toInt 0 0 0 0 0 μ μ := TR.rf hS
  have lt0 : s.toInt < (μ.1 19).toInt := by omega
  have s9 : s.toInt < 15990 := by omega
  have cv0 : CVs μ (s.toInt + 1) (μ.1 19).toInt [] := CVs.nil (by omega)
  obtain ⟨K, hK⟩ : ∃ K : Nat, (K : Int) + (μ.1 40).toInt = 20 := ⟨(20 - (μ.1 40).toInt).toNat, by have := hS.2.2.2.2.2.2.2.2; omega⟩
  refine me_meth (by omega) rfl (v_tryStatement_0 _ ?_)
  obtain ⟨A255, hA256⟩ : ∃ A : Int, A = (μ.1 19).toInt := ⟨_, rfl⟩
  have x260 := p0.px
  have u261 := p0.2
  have y262 := tT p0
  have z263 := px0 p0.ps
  refine MC.mono (hSt μ T h p0.ps (by omega) (by omega) (by omega) (fun _ h => hT _ (p0.1.1.tr h))) (fun r257 κ258 h259 => ?_) (fun _ h => h)
  obtain ⟨q264, g265, c266, hb267⟩ := h259
  obtain ⟨v268, hv269, b270⟩ := hb267 K (by have y40 := p0.1.2.2.2.2.2.2.2.2.1; omega)
  have l271 := q264.l19
  have l272 := q264.l32
  have p273 : TR (s.toInt) (0) 0 0 0 (0) μ κ258 := p0.trS q264 (Or.inl (by decide)) rfl rfl rfl rfl (by omega)
  have cv274 : CVs κ258 (s.toInt + 1) ((κ258).1 19).toInt [r257] := cv0.add q264.rb (Int.le_refl _) (Or.inl (by omega)) (by omega) l271 (c266)
  have nd275 := nd0.tr q264 (by have := @ic s; omega) (by omega)
  have lt276 : s.toInt < (κ258.1 19).toInt := by omega
  have k277 : KL κ258 h s.toInt s 3 r257 := KL.of g265 (by omega) (Int.le_refl _) s0 (Or.inl (by omega))
  obtain ⟨A278, hA279⟩ : ∃ A : Int, A = (κ258.1 19).toInt := ⟨_, rfl⟩
  have b280 : FK κ258 (h) K 1 (3, 3) A255 A278 v268 r257 := FK.at (by omega) (by omega) b270.b3
  have g281 : TR s.toInt 0 0 0 0 0 κ258 (mA1 κ258 22 s.toNatClampNeg r257) := TR.put p273.ps s0 rfl rfl
  have e283 : ((mA1 κ258 22 s.toNatClampNeg r257).1 19).toInt = (κ258.1 19).toInt := rfl
  have e284 : ((mA1 κ258 22 s.toNatClampNeg r257).1 32).toInt = (κ258.1 32).toInt := rfl
  have sr286 : srt (mA1 κ258 22 s.toNatClampNeg r257) = srt κ258 := srt_off rfl
  have nd285 := nd275.pa (x := r257)
  have p287 : TR (s.toInt) (0) 0 0 0 (0) μ (mA1 κ258 22 s.toNatClampNeg r257) := p273.trS g281 (Or.inr (Or.inl rfl)) rfl rfl rfl rfl (by omega)
  have k288 := k277.tr g281 (Or.inr rfl) s0
  have cv289 : CVs (mA1 κ258 22 s.toNatClampNeg r257) (s.toInt + 1) (((mA1 κ258 22 s.toNatClampNeg r257)).1 19).toInt [r257] := cv274.st g281.rb (Int.le_refl _) (Or.inl (by omega)) rfl
  have b290 := FK.tr b280 g281 (by omega) (by omega)
  refine ⟨TR.mi p273.ps rfl rfl s0 (by omega), ?_⟩
  generalize mA1 κ258 22 s.toNatClampNeg r257 = κ282 at *
  have lt291 : s.toInt < (κ282.1 19).toInt := by omega
  refine MC.mono (c_is (by omega) p287.ps) (fun r292 κ293 h294 => ?_) (fun _ h => h)
  obtain ⟨rfl, rfl⟩ := h294
  refine ⟨fun _ => ?_, fun hw => ?_⟩
  · skip
    have g295 : TR s.toInt 0 0 0 0 0 κ293 (mA1 κ293 20 s.toNatClampNeg 51) := TR.put p287.ps s0 rfl rfl
    have e297 : ((mA1 κ293 20 s.toNatClampNeg 51).1 19).toInt = (κ293.1 19).toInt := rfl
    have e298 : ((mA1 κ293 20 s.toNatClampNeg 51).1 32).toInt = (κ293.1 32).toInt := rfl
    have sr300 : srt (mA1 κ293 20 s.toNatClampNeg 51) = srt κ293 := srt_off rfl
    have nd299 := nd285.pk (x := 51)
    have p301 : TR (s.toInt) (0) 0 0 0 (0) μ (mA1 κ293 20 s.toNatClampNeg 51) := p287.trS g295 (Or.inr (Or.inl rfl)) rfl rfl rfl rfl (by omega)
    have k302 := k288.tr g295 (Or.inr rfl) s0
    have cv303 : CVs (mA1 κ293 20 s.toNatClampNeg 51) (s.toInt + 1) (((mA1 κ293 20 s.toNatClampNeg 51)).1 19).toInt [r257] := cv289.st g295.rb (Int.le_refl _) (Or.inl (by omega)) rfl
    have b304 := FK.tr b290 g295 (by omega) (by omega)
    refine ⟨TR.mi p287.ps rfl rfl s0 (by omega), ?_⟩
    generalize mA1 κ293 20 s.toNatClampNeg 51 = κ296 at *
    have lt305 : s.toInt < (κ296.1 19).toInt := by omega
    refine MC.mono (t_expect (by omega) p301.ps (by decide) (fun _ h => hT _ (p301.1.1.tr h))) (fun v306 κ311 h307 => ?_) (fun _ h => h)
    obtain ⟨q308, m309, a310⟩ := h307
    have p312 : TR (s.toInt) (0) 0 0 0 (-2) μ κ311 := p301.trS q308 (Or.inl (by decide)) rfl rfl rfl rfl (by omega)
    have k313 := k302.tr q308 (Or.inl (by decide)) s0
    have cv314 : CVs κ311 (s.toInt + 1) ((κ311).1 19).toInt [r257] := cv303.st q308.rb (Int.le_refl _) (Or.inl (by omega)) m309
    have b315 := FK.tr b304 q308 (by omega) (by omega)
    have nd316 := nd299.tr q308 (by have := @ic s; omega) (by omega)
    have lt317 : s.toInt < (κ311.1 19).toInt := by omega
    have x321 := p312.px
    have u322 := p312.2
    have y323 := tT p312
    have z324 := px0 p312.ps
    refine MC.mono (hH κ311 T h p312.ps (by omega) (by omega) (by omega) (fun _ h => hT _ (p312.1.1.tr h))) (fun r318 κ319 h320 => ?_) (fun _ h => h)
    obtain ⟨q325, g326, c327, hb328⟩ := h320
    obtain ⟨v329, hv330, b331⟩ := hb328 K (by have y40 := p312.1.2.2.2.2.2.2.2.2.1; omega)
    have l332 := q325.l19
    have l333 := q325.l32
    have p334 : TR (s.toInt) (0) 0 0 0 (-2) μ κ319 := p312.trS q325 (Or.inl (by decide)) rfl rfl rfl rfl (by omega)
    have k335 := k313.tr q325 (Or.inl (by decide)) s0
    have cv336 : CVs κ319 (s.toInt + 1) ((κ319).1 19).toInt [r318, r257] := cv314.add q325.rb (Int.le_refl _) (Or.inl (by omega)) (by omega) l332 (c327)
    have b337 := FK.tr b315 q325 (by omega) (by omega)
    have nd338 := nd316.tr q325 (by have := @ic s; omega) (by omega)
    have lt339 : s.toInt < (κ319.1 19).toInt := by omega
    have k340 : KL κ319 h s.toInt s 14 r318 := KL.of g326 (by omega) (Int.le_refl _) s0 (Or.inl (by omega))
    obtain ⟨A341, hA342⟩ : ∃ A : Int, A = (κ319.1 19).toInt := ⟨_, rfl⟩
    have b343 : FK κ319 (h) K 1 (3, 14) A278 A341 v329 r318 := FK.at (by omega) (by omega) b331
    have g344 : TR s.toInt 0 0 0 0 0 κ319 (mA1 κ319 23 s.toNatClampNeg r318) := TR.put p334.ps s0 rfl rfl
    have e346 : ((mA1 κ319 23 s.toNatClampNeg r318).1 19).toInt = (κ319.1 19).toInt := rfl
    have e347 : ((mA1 κ319 23 s.toNatClampNeg r318).1 32).toInt = (κ319.1 32).toInt := rfl
    have sr349 : srt (mA1 κ319 23 s.toNatClampNeg r318) = srt κ319 := srt_off rfl
    have nd348 := nd338.pb (x := r318)
    have p350 : TR (s.toInt) (0) 0 0 0 (-2) μ (mA1 κ319 23 s.toNatClampNeg r318) := p334.trS g344 (Or.inr (Or.inl rfl)) rfl rfl rfl rfl (by omega)
    have k351 := k335.tr g344 (Or.inr rfl) s0
    have k352 := k340.tr g344 (Or.inr rfl) s0
    have cv353 : CVs (mA1 κ319 23 s.toNatClampNeg r318) (s.toInt + 1) (((mA1 κ319 23 s.toNatClampNeg r318)).1 19).toInt [r318, r257] := cv336.st g344.rb (Int.le_refl _) (Or.inl (by omega)) rfl
    have b354 := FK.tr b337 g344 (by omega) (by omega)
    have b355 := FK.tr b343 g344 (by omega) (by omega)
    refine ⟨TR.mi p334.ps rfl rfl s0 (by omega), ?_⟩
    generalize mA1 κ319 23 s.toNatClampNeg r318 = κ345 at *
    have lt356 : s.toInt < (κ345.1 19).toInt := by omega
    have x357 := p350.px
    have u358 := p350.2
    have y359 := tT p350
    have z360 := px0 p350.ps
    refine MC.mono (hO κ345 T h s _ _ _ p350.ps (by omega) (by omega) (by omega) (fun _ h => hT _ (p350.1.1.tr h)) s0 lt356 nd348) (fun _ κ361 h362 => ?_) (fun _ h => h)
    obtain ⟨q363, c364, e365, nd366, k367, c368, hb369⟩ := h362
    obtain ⟨v370, hv371, b372⟩ := hb369 K (by have y40 := p350.1.2.2.2.2.2.2.2.2.1; omega)
    have l373 := q363.l19
    have p374 : TR (s.toInt) (0) 0 0 0 (-2) μ κ361 := p350.trS q363 (Or.inr (Or.inl rfl)) rfl rfl rfl rfl (by omega)
    have k375 := k351.tr q363 (Or.inr rfl) s0
    have k376 := k352.tr q363 (Or.inr rfl) s0
    have cv377 : CVs κ361 (s.toInt + 1) ((κ361).1 19).toInt [c364, r318, r257] := cv353.add q363.rb (Int.le_refl _) (Or.inl (by omega)) (by omega) l373 c368
    have b378 := FK.tr b354 q363 (by omega) (by omega)
    have b379 := FK.tr b355 q363 (by omega) (by omega)
    have lt380 : s.toInt < (κ361.1 19).toInt := by omega
    obtain ⟨A381, hA382⟩ : ∃ A : Int, A = (κ361.1 19).toInt := ⟨_, rfl⟩
    have b383 : FK κ361 (h) K 1 (3, 3) A341 A381 v370 c364 := FK.at (by omega) (by omega) b372
    exact ⟨⟨p374.1, by have := p374.2; omega⟩, G.mk s0 (Int.le_refl _) lt380 nd366 (by decide) (k375) (k376) (k367) True.intro True.intro, nd366.2.2.2.2.2.2, (CO.fin' (by omega) cv377 s0 ⟨fun h => Par.fc nd366 (by decide) h, fun h => Par.fb nd366 (by decide) h, fun h => Par.fa nd366 (by decide) h, True.intro⟩ lt380), (fun K9 hK9 => by obtain rfl : K9 = K := (by omega); exact ⟨v268 + v329 + v370 + 0 + 0 + 0, by omega, PK.mk (c0 := A255) (v0 := v268) (v1 := v329) (v2 := v370) (v3 := 0) (v4 := 0) nd366 s0 (by omega) (by omega) (by omega) (by decide) (by have e : ow (51 : Int32) = 0 := (by decide); omega) ((FK.up (by omega) b378)) ((FK.up (by omega) b379)) ((FK.up (by omega) b383)) (FK.fr (Int.le_refl _)) (FK.fr (Int.le_refl _))⟩)⟩
  · skip
    have hw3 : ¬ srt κ293 = 203 := by rw [is_t hw]; decide
    have g384 : TR s.toInt 0 0 0 0 0 κ293 (mA1 κ293 20 s.toNatClampNeg 53) := TR.put p287.ps s0 rfl rfl
    have e386 : ((mA1 κ293 20 s.toNatClampNeg 53).1 19).toInt = (κ293.1 19).toInt := rfl
    have e387 : ((mA1 κ293 20 s.toNatClampNeg 53).1 32).toInt = (κ293.1 32).toInt := rfl
    have sr389 : srt (mA1 κ293 20 s.toNatClampNeg 53) = srt κ293 := srt_off rfl
    have nd388 := nd285.pk (x := 53)
    have p390 : TR (s.toInt) (0) 0 0 0 (0) μ (mA1 κ293 20 s.toNatClampNeg 53) := p287.trS g384 (Or.inr (Or.inl rfl)) rfl rfl rfl rfl (by omega)
    have k391 := k288.tr g384 (Or.inr rfl) s0
    have cv392 : CVs (mA1 κ293 20 s.toNatClampNeg 53) (s.toInt + 1) (((mA1 κ293 20 s.toNatClampNeg 53)).1 19).toInt [r257] := cv289.st g384.rb (Int.le_refl _) (Or.inl (by omega)) rfl
    have b393 := FK.tr b290 g384 (by omega) (by omega)
    refine ⟨TR.mi p287.ps rfl rfl s0 (by omega), ?_⟩
    generalize mA1 κ293 20 s.toNatClampNeg 53 = κ385 at *
    have lt394 : s.toInt < (κ385.1 19).toInt := by omega
    have hw4 : ¬ srt κ385 = 203 := by rw [sr389]; exact hw3
    refine MC.mono (t_next (by omega) p390.ps (hw4) (fun _ h => hT _ (p390.1.1.tr h))) (fun v395 κ400 h396 => ?_) (fun _ h => h)
    obtain ⟨q397, m398, a399⟩ := h396
    have p401 : TR (s.toInt) (0) 0 0 0 (-2) μ κ400 := p390.trS q397 (Or.inl (by decide)) rfl rfl rfl rfl (by omega)
    have k402 := k391.tr q397 (Or.inl (by decide)) s0
    have cv403 : CVs κ400 (s.toInt + 1) ((κ400).1 19).toInt [r257] := cv392.st q397.rb (Int.le_refl _) (Or.inl (by omega)) m398
    have b404 := FK.tr b393 q397 (by omega) (by omega)
    have nd405 := nd388.tr q397 (by have := @ic s; omega) (by omega)
    have lt406 : s.toInt < (κ400.1 19).toInt := by omega
    have x410 := p401.px
    have u411 := p401.2
    have y412 := tT p401
    have z413 := px0 p401.ps
    refine MC.mono (hSt κ400 T h p401.ps (by omega) (by omega) (by omega) (fun _ h => hT _ (p401.1.1.tr h))) (fun r407 κ408 h409 => ?_) (fun _ h => h)
    obtain ⟨q414, g415, c416, hb417⟩ := h409
    obtain ⟨v418, hv419, b420⟩ := hb417 K (by have y40 := p401.1.2.2.2.2.2.2.2.2.1; omega)
    have l421 := q414.l19
    have l422 := q414.l32
    have p423 : TR (s.toInt) (0) 0 0 0 (-2) μ κ408 := p401.trS q414 (Or.inl (by decide)) rfl rfl rfl rfl (by omega)
    have k424 := k402.tr q414 (Or.inl (by decide)) s0
    have cv425 : CVs κ408 (s.toInt + 1) ((κ408).1 19).toInt [r407, r257] := cv403.add q414.rb (Int.le_refl _) (Or.inl (by omega)) (by omega) l421 (c416)
    have b426 := FK.tr b404 q414 (by omega) (by omega)
    have nd427 := nd405.tr q414 (by have := @ic s; omega) (by omega)
    have lt428 : s.toInt < (κ408.1 19).toInt := by omega
    have k429 : KL κ408 h s.toInt s 3 r407 := KL.of g415 (by omega) (Int.le_refl _) s0 (Or.inl (by omega))
    obtain ⟨A430, hA431⟩ : ∃ A : Int, A = (κ408.1 19).toInt := ⟨_, rfl⟩
    have b432 : FK κ408 (h) K 1 (3, 3) A278 A430 v418 r407 := FK.at (by omega) (by omega) b420.b3
    have g433 : TR s.toInt 0 0 0 0 0 κ408 (mA1 κ408 23 s.toNatClampNeg r407) := TR.put p423.ps s0 rfl rfl
    have e435 : ((mA1 κ408 23 s.toNatClampNeg r407).1 19).toInt = (κ408.1 19).toInt := rfl
    have e436 : ((mA1 κ408 23 s.toNatClampNeg r407).1 32).toInt = (κ408.1 32).toInt := rfl
    have sr438 : srt (mA1 κ408 23 s.toNatClampNeg r407) = srt κ408 := srt_off rfl
    have nd437 := nd427.pb (x := r407)
    have p439 : TR (s.toInt) (0) 0 0 0 (-2) μ (mA1 κ408 23 s.toNatClampNeg r407) := p423.trS g433 (Or.inr (Or.inl rfl)) rfl rfl rfl rfl (by omega)
    have k440 := k424.tr g433 (Or.inr rfl) s0
    have k441 := k429.tr g433 (Or.inr rfl) s0
    have cv442 : CVs (mA1 κ408 23 s.toNatClampNeg r407) (s.toInt + 1) (((mA1 κ408 23 s.toNatClampNeg r407)).1 19).toInt [r407, r257] := cv425.st g433.rb (Int.le_refl _) (Or.inl (by omega)) rfl
    have b443 := FK.tr b426 g433 (by omega) (by omega)
    have b444 := FK.tr b432 g433 (by omega) (by omega)
    refine ⟨TR.mi p423.ps rfl rfl s0 (by omega), ?_⟩
    generalize mA1 κ408 23 s.toNatClampNeg r407 = κ434 at *
    have lt445 : s.toInt < (κ434.1 19).toInt := by omega
    refine MC.mono (t_expect (by omega) p439.ps (by decide) (fun _ h => hT _ (p439.1.1.tr h))) (fun v446 κ451 h447 => ?_) (fun _ h => h)
    obtain ⟨q448, m449, a450⟩ := h447
    have p452 : TR (s.toInt) (0) 0 0 0 (-4) μ κ451 := p439.trS q448 (Or.inl (by decide)) rfl rfl rfl rfl (by omega)
    have k453 := k440.tr q448 (Or.inl (by decide)) s0
    have k454 := k441.tr q448 (Or.inl (by decide)) s0
    have cv455 : CVs κ451 (s.toInt + 1) ((κ451).1 19).toInt [r407, r257] := cv442.st q448.rb (Int.le_refl _) (Or.inl (by omega)) m449
    have b456 := FK.tr b443 q448 (by omega) (by omega)
    have b457 := FK.tr b444 q448 (by omega) (by omega)
    have nd458 := nd437.tr q448 (by have := @ic s; omega) (by omega)
    have lt459 : s.toInt < (κ451.1 19).toInt := by omega
    exact ⟨⟨p452.1, by have := p452.2; omega⟩, G.mk s0 (Int.le_refl _) lt459 nd458 (by decide) (k453) (k454) True.intro True.intro True.intro, nd458.2.2.2.2.2.2, (CO.fin' (by omega) cv455 s0 ⟨fun h => Par.fb nd458 (by decide) h, fun h => Par.fa nd458 (by decide) h, True.intro⟩ lt459), (fun K9 hK9 => by obtain rfl : K9 = K := (by omega); exact ⟨v268 + v418 + 0 + 0 + 0 + 0, by omega, PK.mk (c0 := A255) (v0 := v268) (v1 := v418) (v2 := 0) (v3 := 0) (v4 := 0) nd458 s0 (by omega) (by omega) (by omega) (by decide) (by have e : ow (53 : Int32) = 0 := (by decide); omega) ((FK.up (by omega) b456)) ((FK.up (by omega) b457)) (FK.fr (Int.le_refl _)) (FK.fr (Int.le_refl _)) (FK.fr (Int.le_refl _))⟩)⟩
theorem st_typecase (hE : XC X W P 332 [] 1 20 12 0 0 d) (hB : SL X W P 328 [.int 61] 15 20 12 d) (hO : OtC X W P d) : FiC X W P 327 0 0 (d + 1) := fun μ T h s hS hd hh hn hT s0 s1 nd0 => by
  have hp := px0 hS
  have h0 := hS.2.2.2.2.1
  have at0 := hS.at
  have hb0 := hS.2.2.2.2.2.1.1
  have hcs := @ic s
  have p0 : TR s.toInt 0 0 0 0 0 μ μ := TR.rf hS
  have lt0 : s.toInt < (μ.1 19).toInt := by omega
  have s9 : s.toInt < 15990 := by omega
  have cv0 : CVs μ (s.toInt + 1) (μ.1 19).toInt [] := CVs.nil (by omega)
  obtain ⟨K, hK⟩ : ∃ K : Nat, (K : Int) + (μ.1 40).toInt = 20 := ⟨(20 - (μ.1 40).toInt).toNat, by have := hS.2.2.2.2.2.2.2.2; omega⟩
  refine me_meth (by omega) rfl (v_typecase_0 _ ?_)
  obtain ⟨A460, hA461⟩ : ∃ A : Int, A = (μ.1 19).toInt := ⟨_, rfl⟩
  have g462 : TR s.toInt 0 0 0 0 0 μ (mA1 μ 20 s.toNatClampNeg 60) := TR.put p0.ps s0 rfl rfl
  have e464 : ((mA1 μ 20 s.toNatClampNeg 60).1 19).toInt = (μ.1 19).toInt := rfl
  have e465 : ((mA1 μ 20 s.toNatClampNeg 60).1 32).toInt = (μ.1 32).toInt := rfl
  have sr467 : srt (mA1 μ 20 s.toNatClampNeg 60) = srt μ := srt_off rfl
  have nd466 := nd0.pk (x := 60)
  have p468 : TR (s.toInt) (0) 0 0 0 (0) μ (mA1 μ 20 s.toNatClampNeg 60) := p0.trS g462 (Or.inr (Or.inl rfl)) rfl rfl rfl rfl (by omega)
  have cv469 : CVs (mA1 μ 20 s.toNatClampNeg 60) (s.toInt + 1) (((mA1 μ 20 s.toNatClampNeg 60)).1 19).toInt [] := cv0.st g462.rb (Int.le_refl _) (Or.inl (by omega)) rfl
  refine ⟨TR.mi p0.ps rfl rfl s0 (by omega), ?_⟩
  generalize mA1 μ 20 s.toNatClampNeg 60 = κ463 at *
  have lt470 : s.toInt < (κ463.1 19).toInt := by omega
  have x474 := p468.px
  have u475 := p468.2
  have y476 := tT p468
  have z477 := px0 p468.ps
  refine MC.mono (hE κ463 T h p468.ps (by omega) (by omega) (by omega) (fun _ h => hT _ (p468.1.1.tr h))) (fun r471 κ472 h473 => ?_) (fun _ h => h)
  obtain ⟨q478, a480, g479, n481, c482⟩ := h473
  have l483 := q478.l19
  have l484 := q478.l32
  have p485 : TR (s.toInt) (0) 0 0 0 (0) μ κ472 := p468.trS q478 (Or.inl (by decide)) rfl rfl rfl rfl (by omega)
  have cv486 : CVs κ472 (s.toInt + 1) ((κ472).1 19).toInt [r471] := cv469.add q478.rb (Int.le_refl _) (Or.inl (by omega)) (by omega) l483 (LCO.of g479.in.1 c482)
  have nd487 := nd466.tr q478 (by have := @ic s; omega) (by omega)
  have lt488 : s.toInt < (κ472.1 19).toInt := by omega
  have k489 : Kd κ472 h s.toInt s 1 r471 := Kd.of g479 (by omega) (Int.le_refl _) s0 (Or.inl (by omega)) n481
  obtain ⟨A490, hA491⟩ : ∃ A : Int, A = (κ472.1 19).toInt := ⟨_, rfl⟩
  have b492 : FK κ472 (h) K 1 (1, 1) A460 A490 0 r471 := FK.one (by omega) (g479.up (Nat.le_refl _) (by omega) (by omega)) n481 (by decide) (by decide)
  have g493 : TR s.toInt 0 0 0 0 0 κ472 (mA1 κ472 22 s.toNatClampNeg r471) := TR.put p485.ps s0 rfl rfl
  have e495 : ((mA1 κ472 22 s.toNatClampNeg r471).1 19).toInt = (κ472.1 19).toInt := rfl
  have e496 : ((mA1 κ472 22 s.toNatClampNeg r471).1 32).toInt = (κ472.1 32).toInt := rfl
  have sr498 : srt (mA1 κ472 22 s.toNatClampNeg r471) = srt κ472 := srt_off rfl
  have nd497 := nd487.pa (x := r471)
  have p499 : TR (s.toInt) (0) 0 0 0 (0) μ (mA1 κ472 22 s.toNatClampNeg r471) := p485.trS g493 (Or.inr (Or.inl rfl)) rfl rfl rfl rfl (by omega)
  have k500 := k489.tr g493 (Or.inr rfl) s0
  have cv501 : CVs (mA1 κ472 22 s.toNatClampNeg r471) (s.toInt + 1) (((mA1 κ472 22 s.toNatClampNeg r471)).1 19).toInt [r471] := cv486.st g493.rb (Int.le_refl _) (Or.inl (by omega)) rfl
  have b502 := FK.tr b492 g493 (by omega) (by omega)
  refine ⟨TR.mi p485.ps rfl rfl s0 (by omega), ?_⟩
  generalize mA1 κ472 22 s.toNatClampNeg r471 = κ494 at *
  have lt503 : s.toInt < (κ494.1 19).toInt := by omega
  refine MC.mono (t_expect (by omega) p499.ps (by decide) (fun _ h => hT _ (p499.1.1.tr h))) (fun v504 κ509 h505 => ?_) (fun _ h => h)
  obtain ⟨q506, m507, a508⟩ := h505
  have p510 : TR (s.toInt) (0) 0 0 0 (-2) μ κ509 := p499.trS q506 (Or.inl (by decide)) rfl rfl rfl rfl (by omega)
  have k511 := k500.tr q506 (Or.inl (by decide)) s0
  have cv512 : CVs κ509 (s.toInt + 1) ((κ509).1 19).toInt [r471] := cv501.st q506.rb (Int.le_refl _) (Or.inl (by omega)) m507
  have b513 := FK.tr b502 q506 (by omega) (by omega)
  have nd514 := nd497.tr q506 (by have := @ic s; omega) (by omega)
  have lt515 : s.toInt < (κ509.1 19).toInt := by omega
  have x519 := p510.px
  have u520 := p510.2
  have y521 := tT p510
  have z522 := px0 p510.ps
  refine MC.mono (hB κ509 T h p510.ps (by omega) (by omega) (by omega) (fun _ h => hT _ (p510.1.1.tr h))) (fun r516 κ517 h518 => ?_) (fun _ h => h)
  obtain ⟨q523, g524, c525, hb526⟩ := h518
  obtain ⟨v527, hv528, b529⟩ := hb526 K (by have y40 := p510.1.2.2.2.2.2.2.2.2.1; omega)
  have l530 := q523.l19
  have l531 := q523.l32
  have p532 : TR (s.toInt) (0) 0 0 0 (-2) μ κ517 := p510.trS q523 (Or.inl (by decide)) rfl rfl rfl rfl (by omega)
  have k533 := k511.tr q523 (Or.inl (by decide)) s0
  have cv534 : CVs κ517 (s.toInt + 1) ((κ517).1 19).toInt [r516, r471] := cv512.add q523.rb (Int.le_refl _) (Or.inl (by omega)) (by omega) l530 (c525)
  have b535 := FK.tr b513 q523 (by omega) (by omega)
  have nd536 := nd514.tr q523 (by have := @ic s; omega) (by omega)
  have lt537 : s.toInt < (κ517.1 19).toInt := by omega
  have k538 : KL κ517 h s.toInt s 15 r516 := KL.of g524 (by omega) (Int.le_refl _) s0 (Or.inl (by omega))
  obtain ⟨A539, hA540⟩ : ∃ A : Int, A = (κ517.1 19).toInt := ⟨_, rfl⟩
  have b541 : FK κ517 (h) K 1 (3, 15) A490 A539 v527 r516 := FK.at (by omega) (by omega) b529
  have g542 : TR s.toInt 0 0 0 0 0 κ517 (mA1 κ517 23 s.toNatClampNeg r516) := TR.put p532.ps s0 rfl rfl
  have e544 : ((mA1 κ517 23 s.toNatClampNeg r516).1 19).toInt = (κ517.1 19).toInt := rfl
  have e545 : ((mA1 κ517 23 s.toNatClampNeg r516).1 32).toInt = (κ517.1 32).toInt := rfl
  have sr547 : srt (mA1 κ517 23 s.toNatClampNeg r516) = srt κ517 := srt_off rfl
  have nd546 := nd536.pb (x := r516)
  have p548 : TR (s.toInt) (0) 0 0 0 (-2) μ (mA1 κ517 23 s.toNatClampNeg r516) := p532.trS g542 (Or.inr (Or.inl rfl)) rfl rfl rfl rfl (by omega)
  have k549 := k533.tr g542 (Or.inr rfl) s0
  have k550 := k538.tr g542 (Or.inr rfl) s0
  have cv551 : CVs (mA1 κ517 23 s.toNatClampNeg r516) (s.toInt + 1) (((mA1 κ517 23 s.toNatClampNeg r516)).1 19).toInt [r516, r471] := cv534.st g542.rb (Int.le_refl _) (Or.inl (by omega)) rfl
  have b552 := FK.tr b535 g542 (by omega) (by omega)
  have b553 := FK.tr b541 g542 (by omega) (by omega)
  refine ⟨TR.mi p532.ps rfl rfl s0 (by omega), ?_⟩
  generalize mA1 κ517 23 s.toNatClampNeg r516 = κ543 at *
  have lt554 : s.toInt < (κ543.1 19).toInt := by omega
  have x555 := p548.px
  have u556 := p548.2
  have y557 := tT p548
  have z558 := px0 p548.ps
  refine MC.mono (hO κ543 T h s _ _ _ p548.ps (by omega) (by omega) (by omega) (fun _ h => hT _ (p548.1.1.tr h)) s0 lt554 nd546) (fun _ κ559 h560 => ?_) (fun _ h => h)
  obtain ⟨q561, c562, e563, nd564, k565, c566, hb567⟩ := h560
  obtain ⟨v568, hv569, b570⟩ := hb567 K (by have y40 := p548.1.2.2.2.2.2.2.2.2.1; omega)
  have l571 := q561.l19
  have p572 : TR (s.toInt) (0) 0 0 0 (-2) μ κ559 := p548.trS q561 (Or.inr (Or.inl rfl)) rfl rfl rfl rfl (by omega)
  have k573 := k549.tr q561 (Or.inr rfl) s0
  have k574 := k550.tr q561 (Or.inr rfl) s0
  have cv575 : CVs κ559 (s.toInt + 1) ((κ559).1 19).toInt [c562, r516, r471] := cv551.add q561.rb (Int.le_refl _) (Or.inl (by omega)) (by omega) l571 c566
  have b576 := FK.tr b552 q561 (by omega) (by omega)
  have b577 := FK.tr b553 q561 (by omega) (by omega)
  have lt578 : s.toInt < (κ559.1 19).toInt := by omega
  obtain ⟨A579, hA580⟩ : ∃ A : Int, A = (κ559.1 19).toInt := ⟨_, rfl⟩
  have b581 : FK κ559 (h) K 1 (3, 3) A539 A579 v568 c562 := FK.at (by omega) (by omega) b570
  exact ⟨⟨p572.1, by have := p572.2; omega⟩, G.mk s0 (Int.le_refl _) lt578 nd564 (by decide) (k573) (k574) (k565) True.intro True.intro, nd564.2.2.2.2.2.2, (CO.fin' (by omega) cv575 s0 ⟨fun h => Par.fc nd564 (by decide) h, fun h => Par.fb nd564 (by decide) h, fun h => Par.fa nd564 (by decide) h, True.intro⟩ lt578), (fun K9 hK9 => by obtain rfl : K9 = K := (by omega); exact ⟨0 + v527 + v568 + 0 + 0 + 0, by omega, PK.mk (c0 := A460) (v0 := 0) (v1 := v527) (v2 := v568) (v3 := 0) (v4 := 0) nd564 s0 (by omega) (by omega) (by omega) (by decide) (by have e : ow (60 : Int32) = 0 := (by decide); omega) ((FK.up (by omega) b576)) ((FK.up (by omega) b577)) ((FK.up (by omega) b581)) (FK.fr (Int.le_refl _)) (FK.fr (Int.le_refl _))⟩)⟩
theorem st_otherwise (hSt : SL X W P 321 [] 3 19 11 d) : OtC X W P (d + 1) := fun μ T h s k a b hS hd hh hn hT s0 s1 nd0 => by
  have hp := px0 hS
  have h0 := hS.2.2.2.2.1
  have at0 := hS.at
  have hcs := @ic s
  have p0 : TR s.toInt 0 0 0 0 0 μ μ := TR.rf hS
  have lt0 : s.toInt < (μ.1 19).toInt := s1
  have s9 : s.toInt < 15990 := by omega
  obtain ⟨K, hK⟩ : ∃ K : Nat, (K : Int) + (μ.1 40).toInt = 20 := ⟨(20 - (μ.1 40).toInt).toNat, by have := hS.2.2.2.2.2.2.2.2; omega⟩
  refine me_meth (by omega) rfl (v_otherwise_0 _ ?_)
  obtain ⟨A582, hA583⟩ : ∃ A : Int, A = (μ.1 19).toInt := ⟨_, rfl⟩
  refine MC.mono (c_is (by omega) p0.ps) (fun r584 κ585 h586 => ?_) (fun _ h => h)
  obtain ⟨rfl, rfl⟩ := h586
  refine ⟨fun _ => ?_, fun _ => ?_⟩
  · skip
    have g587 : TR s.toInt 0 0 0 0 0 κ585 (mA1 κ585 25 s.toNatClampNeg 0) := TR.put p0.ps s0 rfl rfl
    have e589 : ((mA1 κ585 25 s.toNatClampNeg 0).1 19).toInt = (κ585.1 19).toInt := rfl
    have e590 : ((mA1 κ585 25 s.toNatClampNeg 0).1 32).toInt = (κ585.1 32).toInt := rfl
    have sr592 : srt (mA1 κ585 25 s.toNatClampNeg 0) = srt κ585 := srt_off rfl
    have nd591 := nd0.pd (x := 0)
    have p593 : TR (s.toInt) (0) 0 0 0 (0) κ585 (mA1 κ585 25 s.toNatClampNeg 0) := p0.trS g587 (Or.inr (Or.inl rfl)) rfl rfl rfl rfl (by omega)
    refine ⟨TR.mi p0.ps rfl rfl s0 (by omega), ?_⟩
    generalize mA1 κ585 25 s.toNatClampNeg 0 = κ588 at *
    have lt594 : s.toInt < (κ588.1 19).toInt := by omega
    refine MC.mono (c_is (by omega) p593.ps) (fun r595 κ596 h597 => ?_) (fun _ h => h)
    obtain ⟨rfl, rfl⟩ := h597
    refine ⟨fun _ => ?_, fun hw => ?_⟩
    · skip
      refine MC.mono (t_expect (by omega) p593.ps (by decide) (fun _ h => hT _ (p593.1.1.tr h))) (fun v598 κ603 h599 => ?_) (fun _ h => h)
      obtain ⟨q600, m601, a602⟩ := h599
      have p604 : TR (s.toInt) (0) 0 0 0 (-2) κ585 κ603 := p593.trS q600 (Or.inl (by decide)) rfl rfl rfl rfl (by omega)
      have nd605 := nd591.tr q600 (by have := @ic s; omega) (by omega)
      have lt606 : s.toInt < (κ603.1 19).toInt := by omega
      exact ⟨⟨p604.1, by have := p604.2; omega⟩, -1, 0, nd605, KL.nil, Or.inl ⟨rfl, NS.nil (by omega)⟩, fun K9 hK9 => ⟨0, by omega, FK.st (by omega) (BT.nil (by omega))⟩⟩
    · skip
      have hw3 : ¬ srt κ596 = 203 := by rw [is_t hw]; decide
      refine MC.mono (t_next (by omega) p593.ps (hw3) (fun _ h => hT _ (p593.1.1.tr h))) (fun v607 κ612 h608 => ?_) (fun _ h => h)
      obtain ⟨q609, m610, a611⟩ := h608
      have p613 : TR (s.toInt) (0) 0 0 0 (-2) κ585 κ612 := p593.trS q609 (Or.inl (by decide)) rfl rfl rfl rfl (by omega)
      have nd614 := nd591.tr q609 (by have := @ic s; omega) (by omega)
      have lt615 : s.toInt < (κ612.1 19).toInt := by omega
      have x619 := p613.px
      have u620 := p613.2
      have y621 := tT p613
      have z622 := px0 p613.ps
      refine MC.mono (hSt κ612 T h p613.ps (by omega) (by omega) (by omega) (fun _ h => hT _ (p613.1.1.tr h))) (fun r616 κ617 h618 => ?_) (fun _ h => h)
      obtain ⟨q623, g624, c625, hb626⟩ := h618
      obtain ⟨v627, hv628, b629⟩ := hb626 K (by have y40 := p613.1.2.2.2.2.2.2.2.2.1; omega)
      have l630 := q623.l19
      have l631 := q623.l32
      have p632 : TR (s.toInt) (0) 0 0 0 (-2) κ585 κ617 := p613.trS q623 (Or.inl (by decide)) rfl rfl rfl rfl (by omega)
      have nd633 := nd614.tr q623 (by have := @ic s; omega) (by omega)
      have lt634 : s.toInt < (κ617.1 19).toInt := by omega
      have k635 : KL κ617 h s.toInt s 3 r616 := KL.of g624 (by omega) (Int.le_refl _) s0 (Or.inl (by omega))
      obtain ⟨A636, hA637⟩ : ∃ A : Int, A = (κ617.1 19).toInt := ⟨_, rfl⟩
      have b638 : FK κ617 (h) K 1 (3, 3) A582 A636 v627 r616 := FK.at (by omega) (by omega) b629.b3
      have lcA : LCO κ617 (κ585.1 19).toInt (κ617.1 19).toInt r616 := LCO.at2 c625 (by omega)
      have g639 : TR s.toInt 0 0 0 0 0 κ617 (mA1 κ617 24 s.toNatClampNeg r616) := TR.put p632.ps s0 rfl rfl
      have e641 : ((mA1 κ617 24 s.toNatClampNeg r616).1 19).toInt = (κ617.1 19).toInt := rfl
      have e642 : ((mA1 κ617 24 s.toNatClampNeg r616).1 32).toInt = (κ617.1 32).toInt := rfl
      have sr644 : srt (mA1 κ617 24 s.toNatClampNeg r616) = srt κ617 := srt_off rfl
      have nd643 := nd633.pc (x := r616)
      have p645 : TR (s.toInt) (0) 0 0 0 (-2) κ585 (mA1 κ617 24 s.toNatClampNeg r616) := p632.trS g639 (Or.inr (Or.inl rfl)) rfl rfl rfl rfl (by omega)
      have k646 := k635.tr g639 (Or.inr rfl) s0
      have b647 := FK.tr b638 g639 (by omega) (by omega)
      have lcB := lcA.rb g639.rb (Int.le_refl _) (Or.inl (by omega))
      refine ⟨TR.mi p632.ps rfl rfl s0 (by omega), ?_⟩
      generalize mA1 κ617 24 s.toNatClampNeg r616 = κ640 at *
      have lt648 : s.toInt < (κ640.1 19).toInt := by omega
      refine MC.mono (t_expect (by omega) p645.ps (by decide) (fun _ h => hT _ (p645.1.1.tr h))) (fun v649 κ654 h650 => ?_) (fun _ h => h)
      obtain ⟨q651, m652, a653⟩ := h650
      have p655 : TR (s.toInt) (0) 0 0 0 (-4) κ585 κ654 := p645.trS q651 (Or.inl (by decide)) rfl rfl rfl rfl (by omega)
      have k656 := k646.tr q651 (Or.inl (by decide)) s0
      have b657 := FK.tr b647 q651 (by omega) (by omega)
      have nd658 := nd643.tr q651 (by have := @ic s; omega) (by omega)
      have lt659 : s.toInt < (κ654.1 19).toInt := by omega
      have lcC : LCO κ654 (κ585.1 19).toInt (κ654.1 19).toInt r616 := LCO.ub (lcB.rb q651.rb (by omega) (Or.inl (by omega))) (by omega)
      exact ⟨⟨p655.1, by have := p655.2; omega⟩, r616, 0, nd658, k656, lcC, fun K9 hK9 => by obtain rfl : K9 = K := (by omega); exact ⟨v627, by omega, FK.at (by omega) (by omega) b657⟩⟩
  · skip
    have g660 : TR s.toInt 0 0 0 0 0 κ585 (mA1 κ585 25 s.toNatClampNeg 1) := TR.put p0.ps s0 rfl rfl
    have e662 : ((mA1 κ585 25 s.toNatClampNeg 1).1 19).toInt = (κ585.1 19).toInt := rfl
    have e663 : ((mA1 κ585 25 s.toNatClampNeg 1).1 32).toInt = (κ585.1 32).toInt := rfl
    have sr665 : srt (mA1 κ585 25 s.toNatClampNeg 1) = srt κ585 := srt_off rfl
    have nd664 := nd0.pd (x := 1)
    have p666 : TR (s.toInt) (0) 0 0 0 (0) κ585 (mA1 κ585 25 s.toNatClampNeg 1) := p0.trS g660 (Or.inr (Or.inl rfl)) rfl rfl rfl rfl (by omega)
    refine ⟨TR.mi p0.ps rfl rfl s0 (by omega), ?_⟩
    generalize mA1 κ585 25 s.toNatClampNeg 1 = κ661 at *
    have lt667 : s.toInt < (κ661.1 19).toInt := by omega
    refine MC.mono (c_is (by omega) p666.ps) (fun r668 κ669 h670 => ?_) (fun _ h => h)
    obtain ⟨rfl, rfl⟩ := h670
    refine ⟨fun _ => ?_, fun hw => ?_⟩
    · skip
      refine MC.mono (t_expect (by omega) p666.ps (by decide) (fun _ h => hT _ (p666.1.1.tr h))) (fun v671 κ676 h672 => ?_) (fun _ h => h)
      obtain ⟨q673, m674, a675⟩ := h672
      have p677 : TR (s.toInt) (0) 0 0 0 (-2) κ585 κ676 := p666.trS q673 (Or.inl (by decide)) rfl rfl rfl rfl (by omega)
      have nd678 := nd664.tr q673 (by have := @ic s; omega) (by omega)
      have lt679 : s.toInt < (κ676.1 19).toInt := by omega
      exact ⟨⟨p677.1, by have := p677.2; omega⟩, -1, 1, nd678, KL.nil, Or.inl ⟨rfl, NS.nil (by omega)⟩, fun K9 hK9 => ⟨0, by omega, FK.st (by omega) (BT.nil (by omega))⟩⟩
    · skip
      have hw3 : ¬ srt κ669 = 203 := by rw [is_t hw]; decide
      refine MC.mono (t_next (by omega) p666.ps (hw3) (fun _ h => hT _ (p666.1.1.tr h))) (fun v680 κ685 h681 => ?_) (fun _ h => h)
      obtain ⟨q682, m683, a684⟩ := h681
      have p686 : TR (s.toInt) (0) 0 0 0 (-2) κ585 κ685 := p666.trS q682 (Or.inl (by decide)) rfl rfl rfl rfl (by omega)
      have nd687 := nd664.tr q682 (by have := @ic s; omega) (by omega)
      have lt688 : s.toInt < (κ685.1 19).toInt := by omega
      have x692 := p686.px
      have u693 := p686.2
      have y694 := tT p686
      have z695 := px0 p686.ps
      refine MC.mono (hSt κ685 T h p686.ps (by omega) (by omega) (by omega) (fun _ h => hT _ (p686.1.1.tr h))) (fun r689 κ690 h691 => ?_) (fun _ h => h)
      obtain ⟨q696, g697, c698, hb699⟩ := h691
      obtain ⟨v700, hv701, b702⟩ := hb699 K (by have y40 := p686.1.2.2.2.2.2.2.2.2.1; omega)
      have l703 := q696.l19
      have l704 := q696.l32
      have p705 : TR (s.toInt) (0) 0 0 0 (-2) κ585 κ690 := p686.trS q696 (Or.inl (by decide)) rfl rfl rfl rfl (by omega)
      have nd706 := nd687.tr q696 (by have := @ic s; omega) (by omega)
      have lt707 : s.toInt < (κ690.1 19).toInt := by omega
      have k708 : KL κ690 h s.toInt s 3 r689 := KL.of g697 (by omega) (Int.le_refl _) s0 (Or.inl (by omega))
      obtain ⟨A709, hA710⟩ : ∃ A : Int, A = (κ690.1 19).toInt := ⟨_, rfl⟩
      have b711 : FK κ690 (h) K 1 (3, 3) A582 A709 v700 r689 := FK.at (by omega) (by omega) b702.b3
      have lcA : LCO κ690 (κ585.1 19).toInt (κ690.1 19).toInt r689 := LCO.at2 c698 (by omega)
      have g712 : TR s.toInt 0 0 0 0 0 κ690 (mA1 κ690 24 s.toNatClampNeg r689) := TR.put p705.ps s0 rfl rfl
      have e714 : ((mA1 κ690 24 s.toNatClampNeg r689).1 19).toInt = (κ690.1 19).toInt := rfl
      have e715 : ((mA1 κ690 24 s.toNatClampNeg r689).1 32).toInt = (κ690.1 32).toInt := rfl
      have sr717 : srt (mA1 κ690 24 s.toNatClampNeg r689) = srt κ690 := srt_off rfl
      have nd716 := nd706.pc (x := r689)
      have p718 : TR (s.toInt) (0) 0 0 0 (-2) κ585 (mA1 κ690 24 s.toNatClampNeg r689) := p705.trS g712 (Or.inr (Or.inl rfl)) rfl rfl rfl rfl (by omega)
      have k719 := k708.tr g712 (Or.inr rfl) s0
      have b720 := FK.tr b711 g712 (by omega) (by omega)
      have lcB := lcA.rb g712.rb (Int.le_refl _) (Or.inl (by omega))
      refine ⟨TR.mi p705.ps rfl rfl s0 (by omega), ?_⟩
      generalize mA1 κ690 24 s.toNatClampNeg r689 = κ713 at *
      have lt721 : s.toInt < (κ713.1 19).toInt := by omega
      refine MC.mono (t_expect (by omega) p718.ps (by decide) (fun _ h => hT _ (p718.1.1.tr h))) (fun v722 κ727 h723 => ?_) (fun _ h => h)
      obtain ⟨q724, m725, a726⟩ := h723
      have p728 : TR (s.toInt) (0) 0 0 0 (-4) κ585 κ727 := p718.trS q724 (Or.inl (by decide)) rfl rfl rfl rfl (by omega)
      have k729 := k719.tr q724 (Or.inl (by decide)) s0
      have b730 := FK.tr b720 q724 (by omega) (by omega)
      have nd731 := nd716.tr q724 (by have := @ic s; omega) (by omega)
      have lt732 : s.toInt < (κ727.1 19).toInt := by omega
      have lcC : LCO κ727 (κ585.1 19).toInt (κ727.1 19).toInt r689 := LCO.ub (lcB.rb q724.rb (by omega) (Or.inl (by omega))) (by omega)
      exact ⟨⟨p728.1, by have := p728.2; omega⟩, r689, 1, nd731, k729, lcC, fun K9 hK9 => by obtain rfl : K9 = K := (by omega); exact ⟨v700, by omega, FK.at (by omega) (by omega) b730⟩⟩
end PSH
