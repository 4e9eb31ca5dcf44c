/-! contracts of the reference: FOR, TRY, TYPECASE -/
section PSH
variable {X : ev_X} {W : Nat → Prop} {d : Nat} {P : MP}
theorem st_for (hE : XC X W P 332 [] 1 20 12 0 0 d) (hSt : SL X W P 321 [] 3 19 11 d) : FiC X W P 324 0 0 (d + 1) := fun μ T h s hS hd hh hn hT s0 s1 nd0 => by
  have hp := px0 hS
  have h0 := hS.2.2.2.2.1
  have at0 := hS.at
  have hb0 := hS.2.2.2.2.2.1.1
  have hcs := @ic s
  have p0 : TR s.toInt 0 0 0 0 0 μ μ := TR.rf hS
  have lt0 : s.toInt < (μ.1 19).toInt := by omega
  have s9 : s.toInt < 15990 := by omega
  have cv0 : CVs μ (s.toInt + 1) (μ.1 19).toInt [] := CVs.nil (by omega)
  refine me_meth (by omega) rfl (v_forStatement_0 _ ?_)
  have g1 : TR s.toInt 0 0 0 0 0 μ (mA1 μ 20 s.toNatClampNeg 48) := TR.put p0.ps s0 rfl rfl
  have e3 : ((mA1 μ 20 s.toNatClampNeg 48).1 19).toInt = (μ.1 19).toInt := rfl
  have e4 : ((mA1 μ 20 s.toNatClampNeg 48).1 32).toInt = (μ.1 32).toInt := rfl
  have sr6 : srt (mA1 μ 20 s.toNatClampNeg 48) = srt μ := srt_off rfl
  have nd5 := nd0.pk (x := 48)
  have p7 : TR (s.toInt) (0) 0 0 0 (0) μ (mA1 μ 20 s.toNatClampNeg 48) := p0.trS g1 (Or.inr (Or.inl rfl)) rfl rfl rfl rfl (by omega)
  have cv8 : CVs (mA1 μ 20 s.toNatClampNeg 48) (s.toInt + 1) (((mA1 μ 20 s.toNatClampNeg 48)).1 19).toInt [] := cv0.st g1.rb (Int.le_refl _) (Or.inl (by omega)) rfl
  refine ⟨TR.mi p0.ps rfl rfl s0 (by omega), ?_⟩
  generalize mA1 μ 20 s.toNatClampNeg 48 = κ2 at *
  have lt9 : s.toInt < (κ2.1 19).toInt := by omega
  have u20 := p7.2
  have a21 := p7.ps.at
  refine MC.mono (t_node (by omega) p7.ps (by omega)) (fun x10 κ18 h19 => ?_) (fun _ h => h)
  obtain ⟨q11, ⟨z12, z13⟩, z14, z15, z16, z17⟩ := h19
  have c22 := @ic x10
  have p23 : TR (s.toInt) (0) 0 0 0 (1) μ κ18 := p7.trS q11 (Or.inl (by decide)) rfl rfl rfl rfl (by omega)
  have cv24 : CVs κ18 (s.toInt + 1) ((κ18).1 19).toInt [] := cv8.ns q11.rb (Int.le_refl _) (Or.inl (by omega)) (by omega) (NS.one z17 (by omega) (by omega) (by decide))
  have nd25 := nd5.tr q11 (by have := @ic s; omega) (by omega)
  have lt26 : s.toInt < (κ18.1 19).toInt := by omega
  have k27 : Kd κ18 h s.toInt s 6 x10 := Kd.of ((n10 (h := 0) (lo := x10.toInt) (hi := (κ18.1 19).toInt) z13 (Int.le_refl _) (by omega) z17).up (by omega) (Int.le_refl _) (Int.le_refl _)) (by omega) (Int.le_refl _) s0 (Or.inl (by omega)) z17.2.2.2.2.2.2
  have g28 : TR s.toInt 0 0 0 0 0 κ18 (mA1 κ18 22 s.toNatClampNeg x10) := TR.put p23.ps s0 rfl rfl
  have e30 : ((mA1 κ18 22 s.toNatClampNeg x10).1 19).toInt = (κ18.1 19).toInt := rfl
  have e31 : ((mA1 κ18 22 s.toNatClampNeg x10).1 32).toInt = (κ18.1 32).toInt := rfl
  have sr33 : srt (mA1 κ18 22 s.toNatClampNeg x10) = srt κ18 := srt_off rfl
  have nd32 := nd25.pa (x := x10)
  have p34 : TR (s.toInt) (0) 0 0 0 (1) μ (mA1 κ18 22 s.toNatClampNeg x10) := p23.trS g28 (Or.inr (Or.inl rfl)) rfl rfl rfl rfl (by omega)
  have k35 := k27.tr g28 (Or.inr rfl) s0
  have cv36 : CVs (mA1 κ18 22 s.toNatClampNeg x10) (s.toInt + 1) (((mA1 κ18 22 s.toNatClampNeg x10)).1 19).toInt [] := cv24.st g28.rb (Int.le_refl _) (Or.inl (by omega)) rfl
  have nx37 := z17.off (g := 22) (t := s.toNatClampNeg) (x := x10) (by have := @ic s; have := @ic x10; omega)
  refine ⟨TR.mi p23.ps rfl rfl s0 (by omega), TR.mi p23.ps rfl rfl s0 (by omega), ?_⟩
  generalize mA1 κ18 22 s.toNatClampNeg x10 = κ29 at *
  have lt38 : s.toInt < (κ29.1 19).toInt := by omega
  refine MC.mono (t_name (by omega) p34.ps (fun _ h => hT _ (p34.1.1.tr h))) (fun v39 κ44 h40 => ?_) (fun _ h => h)
  obtain ⟨q41, m42, a43⟩ := h40
  have p45 : TR (s.toInt) (0) 0 0 0 (-1) μ κ44 := p34.trS q41 (Or.inl (by decide)) rfl rfl rfl rfl (by omega)
  have k46 := k35.tr q41 (Or.inl (by decide)) s0
  have cv47 : CVs κ44 (s.toInt + 1) ((κ44).1 19).toInt [] := cv36.st q41.rb (Int.le_refl _) (Or.inl (by omega)) m42
  have nx48 := nx37.tr q41 (by have := @ic x10; omega) (by omega)
  have nd49 := nd32.tr q41 (by have := @ic s; omega) (by omega)
  have lt50 : s.toInt < (κ44.1 19).toInt := by omega
  rw [upd_at]
  have c55 := @ic x10
  have c56 := @ic s
  have g51 : TR x10.toInt 0 0 0 0 0 κ44 (mA1 κ44 22 x10.toNatClampNeg v39) := TR.put p45.ps z13 rfl rfl
  have e53 : ((mA1 κ44 22 x10.toNatClampNeg v39).1 19).toInt = (κ44.1 19).toInt := rfl
  have e54 : ((mA1 κ44 22 x10.toNatClampNeg v39).1 32).toInt = (κ44.1 32).toInt := rfl
  have nd57 := nd49.off (g := 22) (t := x10.toNatClampNeg) (x := v39) (by omega)
  have p58 : TR (s.toInt) (0) 0 0 0 (-1) μ (mA1 κ44 22 x10.toNatClampNeg v39) := p45.trS g51 (Or.inr (Or.inr (by omega))) rfl rfl rfl rfl (by omega)
  have k59 := Kd.free0 (t := x10.toNatClampNeg) (y := v39) nx48.1 k46
  have cv60 : CVs (mA1 κ44 22 x10.toNatClampNeg v39) (s.toInt + 1) ((mA1 κ44 22 x10.toNatClampNeg v39).1 19).toInt [] := cv47.free0 nx48.1
  refine ⟨TR.mi p45.ps rfl rfl z13 (by omega), ?_⟩
  generalize mA1 κ44 22 x10.toNatClampNeg v39 = κ52 at *
  have lt61 : s.toInt < (κ52.1 19).toInt := by omega
  refine MC.mono (t_expect (by omega) p58.ps (by decide) (fun _ h => hT _ (p58.1.1.tr h))) (fun v62 κ67 h63 => ?_) (fun _ h => h)
  obtain ⟨q64, m65, a66⟩ := h63
  have p68 : TR (s.toInt) (0) 0 0 0 (-3) μ κ67 := p58.trS q64 (Or.inl (by decide)) rfl rfl rfl rfl (by omega)
  have k69 := k59.tr q64 (Or.inl (by decide)) s0
  have cv70 : CVs κ67 (s.toInt + 1) ((κ67).1 19).toInt [] := cv60.st q64.rb (Int.le_refl _) (Or.inl (by omega)) m65
  have nd71 := nd57.tr q64 (by have := @ic s; omega) (by omega)
  have lt72 : s.toInt < (κ67.1 19).toInt := by omega
  have x76 := p68.px
  have u77 := p68.2
  have y78 := tT p68
  have z79 := px0 p68.ps
  refine MC.mono (hE κ67 T h p68.ps (by omega) (by omega) (by omega) (fun _ h => hT _ (p68.1.1.tr h))) (fun r73 κ74 h75 => ?_) (fun _ h => h)
  obtain ⟨q80, a82, g81, n83, c84⟩ := h75
  have l85 := q80.l19
  have l86 := q80.l32
  have p87 : TR (s.toInt) (0) 0 0 0 (-3) μ κ74 := p68.trS q80 (Or.inl (by decide)) rfl rfl rfl rfl (by omega)
  have k88 := k69.tr q80 (Or.inl (by decide)) s0
  have cv89 : CVs κ74 (s.toInt + 1) ((κ74).1 19).toInt [r73] := cv70.add q80.rb (Int.le_refl _) (Or.inl (by omega)) (by omega) l85 (LCO.of g81.in.1 c84)
  have nd90 := nd71.tr q80 (by have := @ic s; omega) (by omega)
  have lt91 : s.toInt < (κ74.1 19).toInt := by omega
  have k92 : Kd κ74 h s.toInt s 1 r73 := Kd.of g81 (by omega) (Int.le_refl _) s0 (Or.inl (by omega)) n83
  have g93 : TR s.toInt 0 0 0 0 0 κ74 (mA1 κ74 23 s.toNatClampNeg r73) := TR.put p87.ps s0 rfl rfl
  have e95 : ((mA1 κ74 23 s.toNatClampNeg r73).1 19).toInt = (κ74.1 19).toInt := rfl
  have e96 : ((mA1 κ74 23 s.toNatClampNeg r73).1 32).toInt = (κ74.1 32).toInt := rfl
  have sr98 : srt (mA1 κ74 23 s.toNatClampNeg r73) = srt κ74 := srt_off rfl
  have nd97 := nd90.pb (x := r73)
  have p99 : TR (s.toInt) (0) 0 0 0 (-3) μ (mA1 κ74 23 s.toNatClampNeg r73) := p87.trS g93 (Or.inr (Or.inl rfl)) rfl rfl rfl rfl (by omega)
  have k100 := k88.tr g93 (Or.inr rfl) s0
  have k101 := k92.tr g93 (Or.inr rfl) s0
  have cv102 : CVs (mA1 κ74 23 s.toNatClampNeg r73) (s.toInt + 1) (((mA1 κ74 23 s.toNatClampNeg r73)).1 19).toInt [r73] := cv89.st g93.rb (Int.le_refl _) (Or.inl (by omega)) rfl
  refine ⟨TR.mi p87.ps rfl rfl s0 (by omega), ?_⟩
  generalize mA1 κ74 23 s.toNatClampNeg r73 = κ94 at *
  have lt103 : s.toInt < (κ94.1 19).toInt := by omega
  refine MC.mono (t_expect (by omega) p99.ps (by decide) (fun _ h => hT _ (p99.1.1.tr h))) (fun v104 κ109 h105 => ?_) (fun _ h => h)
  obtain ⟨q106, m107, a108⟩ := h105
  have p110 : TR (s.toInt) (0) 0 0 0 (-5) μ κ109 := p99.trS q106 (Or.inl (by decide)) rfl rfl rfl rfl (by omega)
  have k111 := k100.tr q106 (Or.inl (by decide)) s0
  have k112 := k101.tr q106 (Or.inl (by decide)) s0
  have cv113 : CVs κ109 (s.toInt + 1) ((κ109).1 19).toInt [r73] := cv102.st q106.rb (Int.le_refl _) (Or.inl (by omega)) m107
  have nd114 := nd97.tr q106 (by have := @ic s; omega) (by omega)
  have lt115 : s.toInt < (κ109.1 19).toInt := by omega
  have x119 := p110.px
  have u120 := p110.2
  have y121 := tT p110
  have z122 := px0 p110.ps
  refine MC.mono (hE κ109 T h p110.ps (by omega) (by omega) (by omega) (fun _ h => hT _ (p110.1.1.tr h))) (fun r116 κ117 h118 => ?_) (fun _ h => h)
  obtain ⟨q123, a125, g124, n126, c127⟩ := h118
  have l128 := q123.l19
  have l129 := q123.l32
  have p130 : TR (s.toInt) (0) 0 0 0 (-5) μ κ117 := p110.trS q123 (Or.inl (by decide)) rfl rfl rfl rfl (by omega)
  have k131 := k111.tr q123 (Or.inl (by decide)) s0
  have k132 := k112.tr q123 (Or.inl (by decide)) s0
  have cv133 : CVs κ117 (s.toInt + 1) ((κ117).1 19).toInt [r116, r73] := cv113.add q123.rb (Int.le_refl _) (Or.inl (by omega)) (by omega) l128 (LCO.of g124.in.1 c127)
  have nd134 := nd114.tr q123 (by have := @ic s; omega) (by omega)
  have lt135 : s.toInt < (κ117.1 19).toInt := by omega
  have k136 : Kd κ117 h s.toInt s 1 r116 := Kd.of g124 (by omega) (Int.le_refl _) s0 (Or.inl (by omega)) n126
  have g137 : TR s.toInt 0 0 0 0 0 κ117 (mA1 κ117 24 s.toNatClampNeg r116) := TR.put p130.ps s0 rfl rfl
  have e139 : ((mA1 κ117 24 s.toNatClampNeg r116).1 19).toInt = (κ117.1 19).toInt := rfl
  have e140 : ((mA1 κ117 24 s.toNatClampNeg r116).1 32).toInt = (κ117.1 32).toInt := rfl
  have sr142 : srt (mA1 κ117 24 s.toNatClampNeg r116) = srt κ117 := srt_off rfl
  have nd141 := nd134.pc (x := r116)
  have p143 : TR (s.toInt) (0) 0 0 0 (-5) μ (mA1 κ117 24 s.toNatClampNeg r116) := p130.trS g137 (Or.inr (Or.inl rfl)) rfl rfl rfl rfl (by omega)
  have k144 := k131.tr g137 (Or.inr rfl) s0
  have k145 := k132.tr g137 (Or.inr rfl) s0
  have k146 := k136.tr g137 (Or.inr rfl) s0
  have cv147 : CVs (mA1 κ117 24 s.toNatClampNeg r116) (s.toInt + 1) (((mA1 κ117 24 s.toNatClampNeg r116)).1 19).toInt [r116, r73] := cv133.st g137.rb (Int.le_refl _) (Or.inl (by omega)) rfl
  refine ⟨TR.mi p130.ps rfl rfl s0 (by omega), ?_⟩
  generalize mA1 κ117 24 s.toNatClampNeg r116 = κ138 at *
  have lt148 : s.toInt < (κ138.1 19).toInt := by omega
  refine MC.mono (t_expect (by omega) p143.ps (by decide) (fun _ h => hT _ (p143.1.1.tr h))) (fun v149 κ154 h150 => ?_) (fun _ h => h)
  obtain ⟨q151, m152, a153⟩ := h150
  have p155 : TR (s.toInt) (0) 0 0 0 (-7) μ κ154 := p143.trS q151 (Or.inl (by decide)) rfl rfl rfl rfl (by omega)
  have k156 := k144.tr q151 (Or.inl (by decide)) s0
  have k157 := k145.tr q151 (Or.inl (by decide)) s0
  have k158 := k146.tr q151 (Or.inl (by decide)) s0
  have cv159 : CVs κ154 (s.toInt + 1) ((κ154).1 19).toInt [r116, r73] := cv147.st q151.rb (Int.le_refl _) (Or.inl (by omega)) m152
  have nd160 := nd141.tr q151 (by have := @ic s; omega) (by omega)
  have lt161 : s.toInt < (κ154.1 19).toInt := by omega
  have x165 := p155.px
  have u166 := p155.2
  have y167 := tT p155
  have z168 := px0 p155.ps
  refine MC.mono (hSt κ154 T h p155.ps (by omega) (by omega) (by omega) (fun _ h => hT _ (p155.1.1.tr h))) (fun r162 κ163 h164 => ?_) (fun _ h => h)
  obtain ⟨q169, g170, c171⟩ := h164
  have l172 := q169.l19
  have l173 := q169.l32
  have p174 : TR (s.toInt) (0) 0 0 0 (-7) μ κ163 := p155.trS q169 (Or.inl (by decide)) rfl rfl rfl rfl (by omega)
  have k175 := k156.tr q169 (Or.inl (by decide)) s0
  have k176 := k157.tr q169 (Or.inl (by decide)) s0
  have k177 := k158.tr q169 (Or.inl (by decide)) s0
  have cv178 : CVs κ163 (s.toInt + 1) ((κ163).1 19).toInt [r162, r116, r73] := cv159.add q169.rb (Int.le_refl _) (Or.inl (by omega)) (by omega) l172 (c171)
  have nd179 := nd160.tr q169 (by have := @ic s; omega) (by omega)
  have lt180 : s.toInt < (κ163.1 19).toInt := by omega
  have k181 : KL κ163 h s.toInt s 3 r162 := KL.of g170 (by omega) (Int.le_refl _) s0 (Or.inl (by omega))
  have g182 : TR s.toInt 0 0 0 0 0 κ163 (mA1 κ163 25 s.toNatClampNeg r162) := TR.put p174.ps s0 rfl rfl
  have e184 : ((mA1 κ163 25 s.toNatClampNeg r162).1 19).toInt = (κ163.1 19).toInt := rfl
  have e185 : ((mA1 κ163 25 s.toNatClampNeg r162).1 32).toInt = (κ163.1 32).toInt := rfl
  have sr187 : srt (mA1 κ163 25 s.toNatClampNeg r162) = srt κ163 := srt_off rfl
  have nd186 := nd179.pd (x := r162)
  have p188 : TR (s.toInt) (0) 0 0 0 (-7) μ (mA1 κ163 25 s.toNatClampNeg r162) := p174.trS g182 (Or.inr (Or.inl rfl)) rfl rfl rfl rfl (by omega)
  have k189 := k175.tr g182 (Or.inr rfl) s0
  have k190 := k176.tr g182 (Or.inr rfl) s0
  have k191 := k177.tr g182 (Or.inr rfl) s0
  have k192 := k181.tr g182 (Or.inr rfl) s0
  have cv193 : CVs (mA1 κ163 25 s.toNatClampNeg r162) (s.toInt + 1) (((mA1 κ163 25 s.toNatClampNeg r162)).1 19).toInt [r162, r116, r73] := cv178.st g182.rb (Int.le_refl _) (Or.inl (by omega)) rfl
  refine ⟨TR.mi p174.ps rfl rfl s0 (by omega), ?_⟩
  generalize mA1 κ163 25 s.toNatClampNeg r162 = κ183 at *
  have lt194 : s.toInt < (κ183.1 19).toInt := by omega
  refine MC.mono (t_expect (by omega) p188.ps (by decide) (fun _ h => hT _ (p188.1.1.tr h))) (fun v195 κ200 h196 => ?_) (fun _ h => h)
  obtain ⟨q197, m198, a199⟩ := h196
  have p201 : TR (s.toInt) (0) 0 0 0 (-9) μ κ200 := p188.trS q197 (Or.inl (by decide)) rfl rfl rfl rfl (by omega)
  have k202 := k189.tr q197 (Or.inl (by decide)) s0
  have k203 := k190.tr q197 (Or.inl (by decide)) s0
  have k204 := k191.tr q197 (Or.inl (by decide)) s0
  have k205 := k192.tr q197 (Or.inl (by decide)) s0
  have cv206 : CVs κ200 (s.toInt + 1) ((κ200).1 19).toInt [r162, r116, r73] := cv193.st q197.rb (Int.le_refl _) (Or.inl (by omega)) m198
  have nd207 := nd186.tr q197 (by have := @ic s; omega) (by omega)
  have lt208 : s.toInt < (κ200.1 19).toInt := by omega
  exact ⟨⟨p201.1, by have := p201.2; omega⟩, G.mk s0 (Int.le_refl _) lt208 nd207 (by decide) (k202) (k203) (k204) (k205) True.intro, nd207.2.2.2.2.2.2, (CO.fin' (by omega) cv206 s0 ⟨fun h => Par.fd nd207 (by decide) h, fun h => Par.fc nd207 (by decide) h, fun h => Par.fb nd207 (by decide) h, True.intro⟩ lt208)⟩
theorem st_try (hSt : SL X W P 321 [] 3 19 11 d) (hH : SL X W P 328 [.int 52] 14 20 12 d) (hO : OtC X W P d) : FiC X W P 325 0 0 (d + 1) := fun μ T h s hS hd hh hn hT s0 s1 nd0 => by
  have hp := px0 hS
  have h0 := hS.2.2.2.2.1
  have at0 := hS.at
  have hb0 := hS.2.2.2.2.2.1.1
  have hcs := @ic s
  have p0 : TR s.toInt 0 0 0 0 0 μ μ := TR.rf hS
  have lt0 : s.toInt < (μ.1 19).toInt := by omega
  have s9 : s.toInt < 15990 := by omega
  have cv0 : CVs μ (s.toInt + 1) (μ.1 19).toInt [] := CVs.nil (by omega)
  refine me_meth (by omega) rfl (v_tryStatement_0 _ ?_)
  have x212 := p0.px
  have u213 := p0.2
  have y214 := tT p0
  have z215 := px0 p0.ps
  refine MC.mono (hSt μ T h p0.ps (by omega) (by omega) (by omega) (fun _ h => hT _ (p0.1.1.tr h))) (fun r209 κ210 h211 => ?_) (fun _ h => h)
  obtain ⟨q216, g217, c218⟩ := h211
  have l219 := q216.l19
  have l220 := q216.l32
  have p221 : TR (s.toInt) (0) 0 0 0 (0) μ κ210 := p0.trS q216 (Or.inl (by decide)) rfl rfl rfl rfl (by omega)
  have cv222 : CVs κ210 (s.toInt + 1) ((κ210).1 19).toInt [r209] := cv0.add q216.rb (Int.le_refl _) (Or.inl (by omega)) (by omega) l219 (c218)
  have nd223 := nd0.tr q216 (by have := @ic s; omega) (by omega)
  have lt224 : s.toInt < (κ210.1 19).toInt := by omega
  have k225 : KL κ210 h s.toInt s 3 r209 := KL.of g217 (by omega) (Int.le_refl _) s0 (Or.inl (by omega))
  have g226 : TR s.toInt 0 0 0 0 0 κ210 (mA1 κ210 22 s.toNatClampNeg r209) := TR.put p221.ps s0 rfl rfl
  have e228 : ((mA1 κ210 22 s.toNatClampNeg r209).1 19).toInt = (κ210.1 19).toInt := rfl
  have e229 : ((mA1 κ210 22 s.toNatClampNeg r209).1 32).toInt = (κ210.1 32).toInt := rfl
  have sr231 : srt (mA1 κ210 22 s.toNatClampNeg r209) = srt κ210 := srt_off rfl
  have nd230 := nd223.pa (x := r209)
  have p232 : TR (s.toInt) (0) 0 0 0 (0) μ (mA1 κ210 22 s.toNatClampNeg r209) := p221.trS g226 (Or.inr (Or.inl rfl)) rfl rfl rfl rfl (by omega)
  have k233 := k225.tr g226 (Or.inr rfl) s0
  have cv234 : CVs (mA1 κ210 22 s.toNatClampNeg r209) (s.toInt + 1) (((mA1 κ210 22 s.toNatClampNeg r209)).1 19).toInt [r209] := cv222.st g226.rb (Int.le_refl _) (Or.inl (by omega)) rfl
  refine ⟨TR.mi p221.ps rfl rfl s0 (by omega), ?_⟩
  generalize mA1 κ210 22 s.toNatClampNeg r209 = κ227 at *
  have lt235 : s.toInt < (κ227.1 19).toInt := by omega
  refine MC.mono (c_is (by omega) p232.ps) (fun r236 κ237 h238 => ?_) (fun _ h => h)
  obtain ⟨rfl, rfl⟩ := h238
  refine ⟨fun _ => ?_, fun hw => ?_⟩
  · skip
    have g239 : TR s.toInt 0 0 0 0 0 κ237 (mA1 κ237 20 s.toNatClampNeg 51) := TR.put p232.ps s0 rfl rfl
    have e241 : ((mA1 κ237 20 s.toNatClampNeg 51).1 19).toInt = (κ237.1 19).toInt := rfl
    have e242 : ((mA1 κ237 20 s.toNatClampNeg 51).1 32).toInt = (κ237.1 32).toInt := rfl
    have sr244 : srt (mA1 κ237 20 s.toNatClampNeg 51) = srt κ237 := srt_off rfl
    have nd243 := nd230.pk (x := 51)
    have p245 : TR (s.toInt) (0) 0 0 0 (0) μ (mA1 κ237 20 s.toNatClampNeg 51) := p232.trS g239 (Or.inr (Or.inl rfl)) rfl rfl rfl rfl (by omega)
    have k246 := k233.tr g239 (Or.inr rfl) s0
    have cv247 : CVs (mA1 κ237 20 s.toNatClampNeg 51) (s.toInt + 1) (((mA1 κ237 20 s.toNatClampNeg 51)).1 19).toInt [r209] := cv234.st g239.rb (Int.le_refl _) (Or.inl (by omega)) rfl
    refine ⟨TR.mi p232.ps rfl rfl s0 (by omega), ?_⟩
    generalize mA1 κ237 20 s.toNatClampNeg 51 = κ240 at *
    have lt248 : s.toInt < (κ240.1 19).toInt := by omega
    refine MC.mono (t_expect (by omega) p245.ps (by decide) (fun _ h => hT _ (p245.1.1.tr h))) (fun v249 κ254 h250 => ?_) (fun _ h => h)
    obtain ⟨q251, m252, a253⟩ := h250
    have p255 : TR (s.toInt) (0) 0 0 0 (-2) μ κ254 := p245.trS q251 (Or.inl (by decide)) rfl rfl rfl rfl (by omega)
    have k256 := k246.tr q251 (Or.inl (by decide)) s0
    have cv257 : CVs κ254 (s.toInt + 1) ((κ254).1 19).toInt [r209] := cv247.st q251.rb (Int.le_refl _) (Or.inl (by omega)) m252
    have nd258 := nd243.tr q251 (by have := @ic s; omega) (by omega)
    have lt259 : s.toInt < (κ254.1 19).toInt := by omega
    have x263 := p255.px
    have u264 := p255.2
    have y265 := tT p255
    have z266 := px0 p255.ps
    refine MC.mono (hH κ254 T h p255.ps (by omega) (by omega) (by omega) (fun _ h => hT _ (p255.1.1.tr h))) (fun r260 κ261 h262 => ?_) (fun _ h => h)
    obtain ⟨q267, g268, c269⟩ := h262
    have l270 := q267.l19
    have l271 := q267.l32
    have p272 : TR (s.toInt) (0) 0 0 0 (-2) μ κ261 := p255.trS q267 (Or.inl (by decide)) rfl rfl rfl rfl (by omega)
    have k273 := k256.tr q267 (Or.inl (by decide)) s0
    have cv274 : CVs κ261 (s.toInt + 1) ((κ261).1 19).toInt [r260, r209] := cv257.add q267.rb (Int.le_refl _) (Or.inl (by omega)) (by omega) l270 (c269)
    have nd275 := nd258.tr q267 (by have := @ic s; omega) (by omega)
    have lt276 : s.toInt < (κ261.1 19).toInt := by omega
    have k277 : KL κ261 h s.toInt s 14 r260 := KL.of g268 (by omega) (Int.le_refl _) s0 (Or.inl (by omega))
    have g278 : TR s.toInt 0 0 0 0 0 κ261 (mA1 κ261 23 s.toNatClampNeg r260) := TR.put p272.ps s0 rfl rfl
    have e280 : ((mA1 κ261 23 s.toNatClampNeg r260).1 19).toInt = (κ261.1 19).toInt := rfl
    have e281 : ((mA1 κ261 23 s.toNatClampNeg r260).1 32).toInt = (κ261.1 32).toInt := rfl
    have sr283 : srt (mA1 κ261 23 s.toNatClampNeg r260) = srt κ261 := srt_off rfl
    have nd282 := nd275.pb (x := r260)
    have p284 : TR (s.toInt) (0) 0 0 0 (-2) μ (mA1 κ261 23 s.toNatClampNeg r260) := p272.trS g278 (Or.inr (Or.inl rfl)) rfl rfl rfl rfl (by omega)
    have k285 := k273.tr g278 (Or.inr rfl) s0
    have k286 := k277.tr g278 (Or.inr rfl) s0
    have cv287 : CVs (mA1 κ261 23 s.toNatClampNeg r260) (s.toInt + 1) (((mA1 κ261 23 s.toNatClampNeg r260)).1 19).toInt [r260, r209] := cv274.st g278.rb (Int.le_refl _) (Or.inl (by omega)) rfl
    refine ⟨TR.mi p272.ps rfl rfl s0 (by omega), ?_⟩
    generalize mA1 κ261 23 s.toNatClampNeg r260 = κ279 at *
    have lt288 : s.toInt < (κ279.1 19).toInt := by omega
    have x289 := p284.px
    have u290 := p284.2
    have y291 := tT p284
    have z292 := px0 p284.ps
    refine MC.mono (hO κ279 T h s _ _ _ p284.ps (by omega) (by omega) (by omega) (fun _ h => hT _ (p284.1.1.tr h)) s0 lt288 nd282) (fun _ κ293 h294 => ?_) (fun _ h => h)
    obtain ⟨q295, c296, e297, nd298, k299, c300⟩ := h294
    have l301 := q295.l19
    have p302 : TR (s.toInt) (0) 0 0 0 (-2) μ κ293 := p284.trS q295 (Or.inr (Or.inl rfl)) rfl rfl rfl rfl (by omega)
    have k303 := k285.tr q295 (Or.inr rfl) s0
    have k304 := k286.tr q295 (Or.inr rfl) s0
    have cv305 : CVs κ293 (s.toInt + 1) ((κ293).1 19).toInt [c296, r260, r209] := cv287.add q295.rb (Int.le_refl _) (Or.inl (by omega)) (by omega) l301 c300
    have lt306 : s.toInt < (κ293.1 19).toInt := by omega
    exact ⟨⟨p302.1, by have := p302.2; omega⟩, G.mk s0 (Int.le_refl _) lt306 nd298 (by decide) (k303) (k304) (k299) True.intro True.intro, nd298.2.2.2.2.2.2, (CO.fin' (by omega) cv305 s0 ⟨fun h => Par.fc nd298 (by decide) h, fun h => Par.fb nd298 (by decide) h, fun h => Par.fa nd298 (by decide) h, True.intro⟩ lt306)⟩
  · skip
    have hw3 : ¬ srt κ237 = 203 := by rw [is_t hw]; decide
    have g307 : TR s.toInt 0 0 0 0 0 κ237 (mA1 κ237 20 s.toNatClampNeg 53) := TR.put p232.ps s0 rfl rfl
    have e309 : ((mA1 κ237 20 s.toNatClampNeg 53).1 19).toInt = (κ237.1 19).toInt := rfl
    have e310 : ((mA1 κ237 20 s.toNatClampNeg 53).1 32).toInt = (κ237.1 32).toInt := rfl
    have sr312 : srt (mA1 κ237 20 s.toNatClampNeg 53) = srt κ237 := srt_off rfl
    have nd311 := nd230.pk (x := 53)
    have p313 : TR (s.toInt) (0) 0 0 0 (0) μ (mA1 κ237 20 s.toNatClampNeg 53) := p232.trS g307 (Or.inr (Or.inl rfl)) rfl rfl rfl rfl (by omega)
    have k314 := k233.tr g307 (Or.inr rfl) s0
    have cv315 : CVs (mA1 κ237 20 s.toNatClampNeg 53) (s.toInt + 1) (((mA1 κ237 20 s.toNatClampNeg 53)).1 19).toInt [r209] := cv234.st g307.rb (Int.le_refl _) (Or.inl (by omega)) rfl
    refine ⟨TR.mi p232.ps rfl rfl s0 (by omega), ?_⟩
    generalize mA1 κ237 20 s.toNatClampNeg 53 = κ308 at *
    have lt316 : s.toInt < (κ308.1 19).toInt := by omega
    have hw4 : ¬ srt κ308 = 203 := by rw [sr312]; exact hw3
    refine MC.mono (t_next (by omega) p313.ps (hw4) (fun _ h => hT _ (p313.1.1.tr h))) (fun v317 κ322 h318 => ?_) (fun _ h => h)
    obtain ⟨q319, m320, a321⟩ := h318
    have p323 : TR (s.toInt) (0) 0 0 0 (-2) μ κ322 := p313.trS q319 (Or.inl (by decide)) rfl rfl rfl rfl (by omega)
    have k324 := k314.tr q319 (Or.inl (by decide)) s0
    have cv325 : CVs κ322 (s.toInt + 1) ((κ322).1 19).toInt [r209] := cv315.st q319.rb (Int.le_refl _) (Or.inl (by omega)) m320
    have nd326 := nd311.tr q319 (by have := @ic s; omega) (by omega)
    have lt327 : s.toInt < (κ322.1 19).toInt := by omega
    have x331 := p323.px
    have u332 := p323.2
    have y333 := tT p323
    have z334 := px0 p323.ps
    refine MC.mono (hSt κ322 T h p323.ps (by omega) (by omega) (by omega) (fun _ h => hT _ (p323.1.1.tr h))) (fun r328 κ329 h330 => ?_) (fun _ h => h)
    obtain ⟨q335, g336, c337⟩ := h330
    have l338 := q335.l19
    have l339 := q335.l32
    have p340 : TR (s.toInt) (0) 0 0 0 (-2) μ κ329 := p323.trS q335 (Or.inl (by decide)) rfl rfl rfl rfl (by omega)
    have k341 := k324.tr q335 (Or.inl (by decide)) s0
    have cv342 : CVs κ329 (s.toInt + 1) ((κ329).1 19).toInt [r328, r209] := cv325.add q335.rb (Int.le_refl _) (Or.inl (by omega)) (by omega) l338 (c337)
    have nd343 := nd326.tr q335 (by have := @ic s; omega) (by omega)
    have lt344 : s.toInt < (κ329.1 19).toInt := by omega
    have k345 : KL κ329 h s.toInt s 3 r328 := KL.of g336 (by omega) (Int.le_refl _) s0 (Or.inl (by omega))
    have g346 : TR s.toInt 0 0 0 0 0 κ329 (mA1 κ329 23 s.toNatClampNeg r328) := TR.put p340.ps s0 rfl rfl
    have e348 : ((mA1 κ329 23 s.toNatClampNeg r328).1 19).toInt = (κ329.1 19).toInt := rfl
    have e349 : ((mA1 κ329 23 s.toNatClampNeg r328).1 32).toInt = (κ329.1 32).toInt := rfl
    have sr351 : srt (mA1 κ329 23 s.toNatClampNeg r328) = srt κ329 := srt_off rfl
    have nd350 := nd343.pb (x := r328)
    have p352 : TR (s.toInt) (0) 0 0 0 (-2) μ (mA1 κ329 23 s.toNatClampNeg r328) := p340.trS g346 (Or.inr (Or.inl rfl)) rfl rfl rfl rfl (by omega)
    have k353 := k341.tr g346 (Or.inr rfl) s0
    have k354 := k345.tr g346 (Or.inr rfl) s0
    have cv355 : CVs (mA1 κ329 23 s.toNatClampNeg r328) (s.toInt + 1) (((mA1 κ329 23 s.toNatClampNeg r328)).1 19).toInt [r328, r209] := cv342.st g346.rb (Int.le_refl _) (Or.inl (by omega)) rfl
    refine ⟨TR.mi p340.ps rfl rfl s0 (by omega), ?_⟩
    generalize mA1 κ329 23 s.toNatClampNeg r328 = κ347 at *
    have lt356 : s.toInt < (κ347.1 19).toInt := by omega
    refine MC.mono (t_expect (by omega) p352.ps (by decide) (fun _ h => hT _ (p352.1.1.tr h))) (fun v357 κ362 h358 => ?_) (fun _ h => h)
    obtain ⟨q359, m360, a361⟩ := h358
    have p363 : TR (s.toInt) (0) 0 0 0 (-4) μ κ362 := p352.trS q359 (Or.inl (by decide)) rfl rfl rfl rfl (by omega)
    have k364 := k353.tr q359 (Or.inl (by decide)) s0
    have k365 := k354.tr q359 (Or.inl (by decide)) s0
    have cv366 : CVs κ362 (s.toInt + 1) ((κ362).1 19).toInt [r328, r209] := cv355.st q359.rb (Int.le_refl _) (Or.inl (by omega)) m360
    have nd367 := nd350.tr q359 (by have := @ic s; omega) (by omega)
    have lt368 : s.toInt < (κ362.1 19).toInt := by omega
    exact ⟨⟨p363.1, by have := p363.2; omega⟩, G.mk s0 (Int.le_refl _) lt368 nd367 (by decide) (k364) (k365) True.intro True.intro True.intro, nd367.2.2.2.2.2.2, (CO.fin' (by omega) cv366 s0 ⟨fun h => Par.fb nd367 (by decide) h, fun h => Par.fa nd367 (by decide) h, True.intro⟩ lt368)⟩
theorem st_typecase (hE : XC X W P 332 [] 1 20 12 0 0 d) (hB : SL X W P 328 [.int 61] 15 20 12 d) (hO : OtC X W P d) : FiC X W P 327 0 0 (d + 1) := fun μ T h s hS hd hh hn hT s0 s1 nd0 => by
  have hp := px0 hS
  have h0 := hS.2.2.2.2.1
  have at0 := hS.at
  have hb0 := hS.2.2.2.2.2.1.1
  have hcs := @ic s
  have p0 : TR s.toInt 0 0 0 0 0 μ μ := TR.rf hS
  have lt0 : s.toInt < (μ.1 19).toInt := by omega
  have s9 : s.toInt < 15990 := by omega
  have cv0 : CVs μ (s.toInt + 1) (μ.1 19).toInt [] := CVs.nil (by omega)
  refine me_meth (by omega) rfl (v_typecase_0 _ ?_)
  have g369 : TR s.toInt 0 0 0 0 0 μ (mA1 μ 20 s.toNatClampNeg 60) := TR.put p0.ps s0 rfl rfl
  have e371 : ((mA1 μ 20 s.toNatClampNeg 60).1 19).toInt = (μ.1 19).toInt := rfl
  have e372 : ((mA1 μ 20 s.toNatClampNeg 60).1 32).toInt = (μ.1 32).toInt := rfl
  have sr374 : srt (mA1 μ 20 s.toNatClampNeg 60) = srt μ := srt_off rfl
  have nd373 := nd0.pk (x := 60)
  have p375 : TR (s.toInt) (0) 0 0 0 (0) μ (mA1 μ 20 s.toNatClampNeg 60) := p0.trS g369 (Or.inr (Or.inl rfl)) rfl rfl rfl rfl (by omega)
  have cv376 : CVs (mA1 μ 20 s.toNatClampNeg 60) (s.toInt + 1) (((mA1 μ 20 s.toNatClampNeg 60)).1 19).toInt [] := cv0.st g369.rb (Int.le_refl _) (Or.inl (by omega)) rfl
  refine ⟨TR.mi p0.ps rfl rfl s0 (by omega), ?_⟩
  generalize mA1 μ 20 s.toNatClampNeg 60 = κ370 at *
  have lt377 : s.toInt < (κ370.1 19).toInt := by omega
  have x381 := p375.px
  have u382 := p375.2
  have y383 := tT p375
  have z384 := px0 p375.ps
  refine MC.mono (hE κ370 T h p375.ps (by omega) (by omega) (by omega) (fun _ h => hT _ (p375.1.1.tr h))) (fun r378 κ379 h380 => ?_) (fun _ h => h)
  obtain ⟨q385, a387, g386, n388, c389⟩ := h380
  have l390 := q385.l19
  have l391 := q385.l32
  have p392 : TR (s.toInt) (0) 0 0 0 (0) μ κ379 := p375.trS q385 (Or.inl (by decide)) rfl rfl rfl rfl (by omega)
  have cv393 : CVs κ379 (s.toInt + 1) ((κ379).1 19).toInt [r378] := cv376.add q385.rb (Int.le_refl _) (Or.inl (by omega)) (by omega) l390 (LCO.of g386.in.1 c389)
  have nd394 := nd373.tr q385 (by have := @ic s; omega) (by omega)
  have lt395 : s.toInt < (κ379.1 19).toInt := by omega
  have k396 : Kd κ379 h s.toInt s 1 r378 := Kd.of g386 (by omega) (Int.le_refl _) s0 (Or.inl (by omega)) n388
  have g397 : TR s.toInt 0 0 0 0 0 κ379 (mA1 κ379 22 s.toNatClampNeg r378) := TR.put p392.ps s0 rfl rfl
  have e399 : ((mA1 κ379 22 s.toNatClampNeg r378).1 19).toInt = (κ379.1 19).toInt := rfl
  have e400 : ((mA1 κ379 22 s.toNatClampNeg r378).1 32).toInt = (κ379.1 32).toInt := rfl
  have sr402 : srt (mA1 κ379 22 s.toNatClampNeg r378) = srt κ379 := srt_off rfl
  have nd401 := nd394.pa (x := r378)
  have p403 : TR (s.toInt) (0) 0 0 0 (0) μ (mA1 κ379 22 s.toNatClampNeg r378) := p392.trS g397 (Or.inr (Or.inl rfl)) rfl rfl rfl rfl (by omega)
  have k404 := k396.tr g397 (Or.inr rfl) s0
  have cv405 : CVs (mA1 κ379 22 s.toNatClampNeg r378) (s.toInt + 1) (((mA1 κ379 22 s.toNatClampNeg r378)).1 19).toInt [r378] := cv393.st g397.rb (Int.le_refl _) (Or.inl (by omega)) rfl
  refine ⟨TR.mi p392.ps rfl rfl s0 (by omega), ?_⟩
  generalize mA1 κ379 22 s.toNatClampNeg r378 = κ398 at *
  have lt406 : s.toInt < (κ398.1 19).toInt := by omega
  refine MC.mono (t_expect (by omega) p403.ps (by decide) (fun _ h => hT _ (p403.1.1.tr h))) (fun v407 κ412 h408 => ?_) (fun _ h => h)
  obtain ⟨q409, m410, a411⟩ := h408
  have p413 : TR (s.toInt) (0) 0 0 0 (-2) μ κ412 := p403.trS q409 (Or.inl (by decide)) rfl rfl rfl rfl (by omega)
  have k414 := k404.tr q409 (Or.inl (by decide)) s0
  have cv415 : CVs κ412 (s.toInt + 1) ((κ412).1 19).toInt [r378] := cv405.st q409.rb (Int.le_refl _) (Or.inl (by omega)) m410
  have nd416 := nd401.tr q409 (by have := @ic s; omega) (by omega)
  have lt417 : s.toInt < (κ412.1 19).toInt := by omega
  have x421 := p413.px
  have u422 := p413.2
  have y423 := tT p413
  have z424 := px0 p413.ps
  refine MC.mono (hB κ412 T h p413.ps (by omega) (by omega) (by omega) (fun _ h => hT _ (p413.1.1.tr h))) (fun r418 κ419 h420 => ?_) (fun _ h => h)
  obtain ⟨q425, g426, c427⟩ := h420
  have l428 := q425.l19
  have l429 := q425.l32
  have p430 : TR (s.toInt) (0) 0 0 0 (-2) μ κ419 := p413.trS q425 (Or.inl (by decide)) rfl rfl rfl rfl (by omega)
  have k431 := k414.tr q425 (Or.inl (by decide)) s0
  have cv432 : CVs κ419 (s.toInt + 1) ((κ419).1 19).toInt [r418, r378] := cv415.add q425.rb (Int.le_refl _) (Or.inl (by omega)) (by omega) l428 (c427)
  have nd433 := nd416.tr q425 (by have := @ic s; omega) (by omega)
  have lt434 : s.toInt < (κ419.1 19).toInt := by omega
  have k435 : KL κ419 h s.toInt s 15 r418 := KL.of g426 (by omega) (Int.le_refl _) s0 (Or.inl (by omega))
  have g436 : TR s.toInt 0 0 0 0 0 κ419 (mA1 κ419 23 s.toNatClampNeg r418) := TR.put p430.ps s0 rfl rfl
  have e438 : ((mA1 κ419 23 s.toNatClampNeg r418).1 19).toInt = (κ419.1 19).toInt := rfl
  have e439 : ((mA1 κ419 23 s.toNatClampNeg r418).1 32).toInt = (κ419.1 32).toInt := rfl
  have sr441 : srt (mA1 κ419 23 s.toNatClampNeg r418) = srt κ419 := srt_off rfl
  have nd440 := nd433.pb (x := r418)
  have p442 : TR (s.toInt) (0) 0 0 0 (-2) μ (mA1 κ419 23 s.toNatClampNeg r418) := p430.trS g436 (Or.inr (Or.inl rfl)) rfl rfl rfl rfl (by omega)
  have k443 := k431.tr g436 (Or.inr rfl) s0
  have k444 := k435.tr g436 (Or.inr rfl) s0
  have cv445 : CVs (mA1 κ419 23 s.toNatClampNeg r418) (s.toInt + 1) (((mA1 κ419 23 s.toNatClampNeg r418)).1 19).toInt [r418, r378] := cv432.st g436.rb (Int.le_refl _) (Or.inl (by omega)) rfl
  refine ⟨TR.mi p430.ps rfl rfl s0 (by omega), ?_⟩
  generalize mA1 κ419 23 s.toNatClampNeg r418 = κ437 at *
  have lt446 : s.toInt < (κ437.1 19).toInt := by omega
  have x447 := p442.px
  have u448 := p442.2
  have y449 := tT p442
  have z450 := px0 p442.ps
  refine MC.mono (hO κ437 T h s _ _ _ p442.ps (by omega) (by omega) (by omega) (fun _ h => hT _ (p442.1.1.tr h)) s0 lt446 nd440) (fun _ κ451 h452 => ?_) (fun _ h => h)
  obtain ⟨q453, c454, e455, nd456, k457, c458⟩ := h452
  have l459 := q453.l19
  have p460 : TR (s.toInt) (0) 0 0 0 (-2) μ κ451 := p442.trS q453 (Or.inr (Or.inl rfl)) rfl rfl rfl rfl (by omega)
  have k461 := k443.tr q453 (Or.inr rfl) s0
  have k462 := k444.tr q453 (Or.inr rfl) s0
  have cv463 : CVs κ451 (s.toInt + 1) ((κ451).1 19).toInt [c454, r418, r378] := cv445.add q453.rb (Int.le_refl _) (Or.inl (by omega)) (by omega) l459 c458
  have lt464 : s.toInt < (κ451.1 19).toInt := by omega
  exact ⟨⟨p460.1, by have := p460.2; omega⟩, G.mk s0 (Int.le_refl _) lt464 nd456 (by decide) (k461) (k462) (k457) True.intro True.intro, nd456.2.2.2.2.2.2, (CO.fin' (by omega) cv463 s0 ⟨fun h => Par.fc nd456 (by decide) h, fun h => Par.fb nd456 (by decide) h, fun h => Par.fa nd456 (by decide) h, True.intro⟩ lt464)⟩
theorem st_otherwise (hSt : SL X W P 321 [] 3 19 11 d) : OtC X W P (d + 1) := fun μ T h s k a b hS hd hh hn hT s0 s1 nd0 => by
  have hp := px0 hS
  have h0 := hS.2.2.2.2.1
  have at0 := hS.at
  have hcs := @ic s
  have p0 : TR s.toInt 0 0 0 0 0 μ μ := TR.rf hS
  have lt0 : s.toInt < (μ.1 19).toInt := s1
  have s9 : s.toInt < 15990 := by omega
  refine me_meth (by omega) rfl (v_otherwise_0 _ ?_)
  refine MC.mono (c_is (by omega) p0.ps) (fun r465 κ466 h467 => ?_) (fun _ h => h)
  obtain ⟨rfl, rfl⟩ := h467
  refine ⟨fun _ => ?_, fun _ => ?_⟩
  · skip
    have g468 : TR s.toInt 0 0 0 0 0 κ466 (mA1 κ466 25 s.toNatClampNeg 0) := TR.put p0.ps s0 rfl rfl
    have e470 : ((mA1 κ466 25 s.toNatClampNeg 0).1 19).toInt = (κ466.1 19).toInt := rfl
    have e471 : ((mA1 κ466 25 s.toNatClampNeg 0).1 32).toInt = (κ466.1 32).toInt := rfl
    have sr473 : srt (mA1 κ466 25 s.toNatClampNeg 0) = srt κ466 := srt_off rfl
    have nd472 := nd0.pd (x := 0)
    have p474 : TR (s.toInt) (0) 0 0 0 (0) κ466 (mA1 κ466 25 s.toNatClampNeg 0) := p0.trS g468 (Or.inr (Or.inl rfl)) rfl rfl rfl rfl (by omega)
    refine ⟨TR.mi p0.ps rfl rfl s0 (by omega), ?_⟩
    generalize mA1 κ466 25 s.toNatClampNeg 0 = κ469 at *
    have lt475 : s.toInt < (κ469.1 19).toInt := by omega
    refine MC.mono (c_is (by omega) p474.ps) (fun r476 κ477 h478 => ?_) (fun _ h => h)
    obtain ⟨rfl, rfl⟩ := h478
    refine ⟨fun _ => ?_, fun hw => ?_⟩
    · skip
      refine MC.mono (t_expect (by omega) p474.ps (by decide) (fun _ h => hT _ (p474.1.1.tr h))) (fun v479 κ484 h480 => ?_) (fun _ h => h)
      obtain ⟨q481, m482, a483⟩ := h480
      have p485 : TR (s.toInt) (0) 0 0 0 (-2) κ466 κ484 := p474.trS q481 (Or.inl (by decide)) rfl rfl rfl rfl (by omega)
      have nd486 := nd472.tr q481 (by have := @ic s; omega) (by omega)
      have lt487 : s.toInt < (κ484.1 19).toInt := by omega
      exact ⟨⟨p485.1, by have := p485.2; omega⟩, -1, 0, nd486, KL.nil, Or.inl ⟨rfl, NS.nil (by omega)⟩⟩
    · skip
      have hw3 : ¬ srt κ477 = 203 := by rw [is_t hw]; decide
      refine MC.mono (t_next (by omega) p474.ps (hw3) (fun _ h => hT _ (p474.1.1.tr h))) (fun v488 κ493 h489 => ?_) (fun _ h => h)
      obtain ⟨q490, m491, a492⟩ := h489
      have p494 : TR (s.toInt) (0) 0 0 0 (-2) κ466 κ493 := p474.trS q490 (Or.inl (by decide)) rfl rfl rfl rfl (by omega)
      have nd495 := nd472.tr q490 (by have := @ic s; omega) (by omega)
      have lt496 : s.toInt < (κ493.1 19).toInt := by omega
      have x500 := p494.px
      have u501 := p494.2
      have y502 := tT p494
      have z503 := px0 p494.ps
      refine MC.mono (hSt κ493 T h p494.ps (by omega) (by omega) (by omega) (fun _ h => hT _ (p494.1.1.tr h))) (fun r497 κ498 h499 => ?_) (fun _ h => h)
      obtain ⟨q504, g505, c506⟩ := h499
      have l507 := q504.l19
      have l508 := q504.l32
      have p509 : TR (s.toInt) (0) 0 0 0 (-2) κ466 κ498 := p494.trS q504 (Or.inl (by decide)) rfl rfl rfl rfl (by omega)
      have nd510 := nd495.tr q504 (by have := @ic s; omega) (by omega)
      have lt511 : s.toInt < (κ498.1 19).toInt := by omega
      have k512 : KL κ498 h s.toInt s 3 r497 := KL.of g505 (by omega) (Int.le_refl _) s0 (Or.inl (by omega))
      have lcA : LCO κ498 (κ466.1 19).toInt (κ498.1 19).toInt r497 := LCO.at2 c506 (by omega)
      have g513 : TR s.toInt 0 0 0 0 0 κ498 (mA1 κ498 24 s.toNatClampNeg r497) := TR.put p509.ps s0 rfl rfl
      have e515 : ((mA1 κ498 24 s.toNatClampNeg r497).1 19).toInt = (κ498.1 19).toInt := rfl
      have e516 : ((mA1 κ498 24 s.toNatClampNeg r497).1 32).toInt = (κ498.1 32).toInt := rfl
      have sr518 : srt (mA1 κ498 24 s.toNatClampNeg r497) = srt κ498 := srt_off rfl
      have nd517 := nd510.pc (x := r497)
      have p519 : TR (s.toInt) (0) 0 0 0 (-2) κ466 (mA1 κ498 24 s.toNatClampNeg r497) := p509.trS g513 (Or.inr (Or.inl rfl)) rfl rfl rfl rfl (by omega)
      have k520 := k512.tr g513 (Or.inr rfl) s0
      have lcB := lcA.rb g513.rb (Int.le_refl _) (Or.inl (by omega))
      refine ⟨TR.mi p509.ps rfl rfl s0 (by omega), ?_⟩
      generalize mA1 κ498 24 s.toNatClampNeg r497 = κ514 at *
      have lt521 : s.toInt < (κ514.1 19).toInt := by omega
      refine MC.mono (t_expect (by omega) p519.ps (by decide) (fun _ h => hT _ (p519.1.1.tr h))) (fun v522 κ527 h523 => ?_) (fun _ h => h)
      obtain ⟨q524, m525, a526⟩ := h523
      have p528 : TR (s.toInt) (0) 0 0 0 (-4) κ466 κ527 := p519.trS q524 (Or.inl (by decide)) rfl rfl rfl rfl (by omega)
      have k529 := k520.tr q524 (Or.inl (by decide)) s0
      have nd530 := nd517.tr q524 (by have := @ic s; omega) (by omega)
      have lt531 : s.toInt < (κ527.1 19).toInt := by omega
      have lcC : LCO κ527 (κ466.1 19).toInt (κ527.1 19).toInt r497 := LCO.ub (lcB.rb q524.rb (by omega) (Or.inl (by omega))) (by omega)
      exact ⟨⟨p528.1, by have := p528.2; omega⟩, r497, 0, nd530, k529, lcC⟩
  · skip
    have g532 : TR s.toInt 0 0 0 0 0 κ466 (mA1 κ466 25 s.toNatClampNeg 1) := TR.put p0.ps s0 rfl rfl
    have e534 : ((mA1 κ466 25 s.toNatClampNeg 1).1 19).toInt = (κ466.1 19).toInt := rfl
    have e535 : ((mA1 κ466 25 s.toNatClampNeg 1).1 32).toInt = (κ466.1 32).toInt := rfl
    have sr537 : srt (mA1 κ466 25 s.toNatClampNeg 1) = srt κ466 := srt_off rfl
    have nd536 := nd0.pd (x := 1)
    have p538 : TR (s.toInt) (0) 0 0 0 (0) κ466 (mA1 κ466 25 s.toNatClampNeg 1) := p0.trS g532 (Or.inr (Or.inl rfl)) rfl rfl rfl rfl (by omega)
    refine ⟨TR.mi p0.ps rfl rfl s0 (by omega), ?_⟩
    generalize mA1 κ466 25 s.toNatClampNeg 1 = κ533 at *
    have lt539 : s.toInt < (κ533.1 19).toInt := by omega
    refine MC.mono (c_is (by omega) p538.ps) (fun r540 κ541 h542 => ?_) (fun _ h => h)
    obtain ⟨rfl, rfl⟩ := h542
    refine ⟨fun _ => ?_, fun hw => ?_⟩
    · skip
      refine MC.mono (t_expect (by omega) p538.ps (by decide) (fun _ h => hT _ (p538.1.1.tr h))) (fun v543 κ548 h544 => ?_) (fun _ h => h)
      obtain ⟨q545, m546, a547⟩ := h544
      have p549 : TR (s.toInt) (0) 0 0 0 (-2) κ466 κ548 := p538.trS q545 (Or.inl (by decide)) rfl rfl rfl rfl (by omega)
      have nd550 := nd536.tr q545 (by have := @ic s; omega) (by omega)
      have lt551 : s.toInt < (κ548.1 19).toInt := by omega
      exact ⟨⟨p549.1, by have := p549.2; omega⟩, -1, 1, nd550, KL.nil, Or.inl ⟨rfl, NS.nil (by omega)⟩⟩
    · skip
      have hw3 : ¬ srt κ541 = 203 := by rw [is_t hw]; decide
      refine MC.mono (t_next (by omega) p538.ps (hw3) (fun _ h => hT _ (p538.1.1.tr h))) (fun v552 κ557 h553 => ?_) (fun _ h => h)
      obtain ⟨q554, m555, a556⟩ := h553
      have p558 : TR (s.toInt) (0) 0 0 0 (-2) κ466 κ557 := p538.trS q554 (Or.inl (by decide)) rfl rfl rfl rfl (by omega)
      have nd559 := nd536.tr q554 (by have := @ic s; omega) (by omega)
      have lt560 : s.toInt < (κ557.1 19).toInt := by omega
      have x564 := p558.px
      have u565 := p558.2
      have y566 := tT p558
      have z567 := px0 p558.ps
      refine MC.mono (hSt κ557 T h p558.ps (by omega) (by omega) (by omega) (fun _ h => hT _ (p558.1.1.tr h))) (fun r561 κ562 h563 => ?_) (fun _ h => h)
      obtain ⟨q568, g569, c570⟩ := h563
      have l571 := q568.l19
      have l572 := q568.l32
      have p573 : TR (s.toInt) (0) 0 0 0 (-2) κ466 κ562 := p558.trS q568 (Or.inl (by decide)) rfl rfl rfl rfl (by omega)
      have nd574 := nd559.tr q568 (by have := @ic s; omega) (by omega)
      have lt575 : s.toInt < (κ562.1 19).toInt := by omega
      have k576 : KL κ562 h s.toInt s 3 r561 := KL.of g569 (by omega) (Int.le_refl _) s0 (Or.inl (by omega))
      have lcA : LCO κ562 (κ466.1 19).toInt (κ562.1 19).toInt r561 := LCO.at2 c570 (by omega)
      have g577 : TR s.toInt 0 0 0 0 0 κ562 (mA1 κ562 24 s.toNatClampNeg r561) := TR.put p573.ps s0 rfl rfl
      have e579 : ((mA1 κ562 24 s.toNatClampNeg r561).1 19).toInt = (κ562.1 19).toInt := rfl
      have e580 : ((mA1 κ562 24 s.toNatClampNeg r561).1 32).toInt = (κ562.1 32).toInt := rfl
      have sr582 : srt (mA1 κ562 24 s.toNatClampNeg r561) = srt κ562 := srt_off rfl
      have nd581 := nd574.pc (x := r561)
      have p583 : TR (s.toInt) (0) 0 0 0 (-2) κ466 (mA1 κ562 24 s.toNatClampNeg r561) := p573.trS g577 (Or.inr (Or.inl rfl)) rfl rfl rfl rfl (by omega)
      have k584 := k576.tr g577 (Or.inr rfl) s0
      have lcB := lcA.rb g577.rb (Int.le_refl _) (Or.inl (by omega))
      refine ⟨TR.mi p573.ps rfl rfl s0 (by omega), ?_⟩
      generalize mA1 κ562 24 s.toNatClampNeg r561 = κ578 at *
      have lt585 : s.toInt < (κ578.1 19).toInt := by omega
      refine MC.mono (t_expect (by omega) p583.ps (by decide) (fun _ h => hT _ (p583.1.1.tr h))) (fun v586 κ591 h587 => ?_) (fun _ h => h)
      obtain ⟨q588, m589, a590⟩ := h587
      have p592 : TR (s.toInt) (0) 0 0 0 (-4) κ466 κ591 := p583.trS q588 (Or.inl (by decide)) rfl rfl rfl rfl (by omega)
      have k593 := k584.tr q588 (Or.inl (by decide)) s0
      have nd594 := nd581.tr q588 (by have := @ic s; omega) (by omega)
      have lt595 : s.toInt < (κ591.1 19).toInt := by omega
      have lcC : LCO κ591 (κ466.1 19).toInt (κ591.1 19).toInt r561 := LCO.ub (lcB.rb q588.rb (by omega) (Or.inl (by omega))) (by omega)
      exact ⟨⟨p592.1, by have := p592.2; omega⟩, r561, 1, nd594, k593, lcC⟩
end PSH
