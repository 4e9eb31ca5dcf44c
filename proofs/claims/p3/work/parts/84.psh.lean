/-! contracts of the reference: FOR, TRY, TYPECASE -/
section PSH
variable {X : ev_X} {W : Nat → Prop} {d : Nat} {P : MP}
theorem st_for (hE : XC X W P 332 [] 1 20 12 0 0 d) (hSt : SL X W P 321 [] 3 19 11 d) : FiC X W P 324 0 0 (d + 1) := fun μ T h s hS hd hh hn hT s0 s1 nd0 => by
  have hp := px0 hS
  have h0 := hS.2.2.2.2.1
  have at0 := hS.at
  have hb0 := hS.2.2.2.2.2.1.1
  have hcs := @ic s
  have p0 : TR s.toInt 0 0 0 0 0 μ μ := TR.rf hS
  have lt0 : s.toInt < (μ.1 19).toInt := by omega
  have s9 : s.toInt < 15990 := by omega
  refine me_meth (by omega) rfl (v_forStatement_0 _ ?_)
  have g1 : TR s.toInt 0 0 0 0 0 μ (mA1 μ 20 s.toNatClampNeg 48) := TR.put p0.ps s0 rfl rfl
  have e3 : ((mA1 μ 20 s.toNatClampNeg 48).1 19).toInt = (μ.1 19).toInt := rfl
  have e4 : ((mA1 μ 20 s.toNatClampNeg 48).1 32).toInt = (μ.1 32).toInt := rfl
  have sr6 : srt (mA1 μ 20 s.toNatClampNeg 48) = srt μ := rfl
  have nd5 := nd0.pk (x := 48)
  have p7 : TR (s.toInt) (0) 0 0 0 (0) μ (mA1 μ 20 s.toNatClampNeg 48) := p0.trS g1 (Or.inr (Or.inl rfl)) rfl rfl rfl rfl (by omega)
  refine ⟨TR.mi p0.ps rfl rfl s0 (by omega), ?_⟩
  generalize mA1 μ 20 s.toNatClampNeg 48 = κ2 at *
  have lt8 : s.toInt < (κ2.1 19).toInt := by omega
  have u19 := p7.2
  have a20 := p7.ps.at
  refine MC.mono (t_node (by omega) p7.ps (by omega)) (fun x9 κ17 h18 => ?_) (fun _ h => h)
  obtain ⟨q10, ⟨z11, z12⟩, z13, z14, z15, z16⟩ := h18
  have p21 : TR (s.toInt) (0) 0 0 0 (1) μ κ17 := p7.trS q10 (Or.inl (by decide)) rfl rfl rfl rfl (by omega)
  have nd22 := nd5.tr q10 (by have := @ic s; omega) (by omega)
  have lt23 : s.toInt < (κ17.1 19).toInt := by omega
  have k24 : Kd κ17 h s.toInt s 6 x9 := Kd.of ((n10 (h := 0) (lo := x9.toInt) (hi := (κ17.1 19).toInt) z12 (Int.le_refl _) (by omega) z16).up (by omega) (Int.le_refl _) (Int.le_refl _)) (by omega) (Int.le_refl _) s0 (Or.inl (by omega))
  have g25 : TR s.toInt 0 0 0 0 0 κ17 (mA1 κ17 22 s.toNatClampNeg x9) := TR.put p21.ps s0 rfl rfl
  have e27 : ((mA1 κ17 22 s.toNatClampNeg x9).1 19).toInt = (κ17.1 19).toInt := rfl
  have e28 : ((mA1 κ17 22 s.toNatClampNeg x9).1 32).toInt = (κ17.1 32).toInt := rfl
  have sr30 : srt (mA1 κ17 22 s.toNatClampNeg x9) = srt κ17 := rfl
  have nd29 := nd22.pa (x := x9)
  have p31 : TR (s.toInt) (0) 0 0 0 (1) μ (mA1 κ17 22 s.toNatClampNeg x9) := p21.trS g25 (Or.inr (Or.inl rfl)) rfl rfl rfl rfl (by omega)
  have k32 := k24.tr g25 (Or.inr rfl) s0
  have nx33 := z16.off (g := 22) (t := s.toNatClampNeg) (x := x9) (by have := @ic s; have := @ic x9; omega)
  refine ⟨TR.mi p21.ps rfl rfl s0 (by omega), TR.mi p21.ps rfl rfl s0 (by omega), ?_⟩
  generalize mA1 κ17 22 s.toNatClampNeg x9 = κ26 at *
  have lt34 : s.toInt < (κ26.1 19).toInt := by omega
  refine MC.mono (t_name (by omega) p31.ps (fun _ h => hT _ (p31.1.1.tr h))) (fun v35 κ40 h36 => ?_) (fun _ h => h)
  obtain ⟨q37, m38, a39⟩ := h36
  have p41 : TR (s.toInt) (0) 0 0 0 (-1) μ κ40 := p31.trS q37 (Or.inl (by decide)) rfl rfl rfl rfl (by omega)
  have k42 := k32.tr q37 (Or.inl (by decide)) s0
  have nx43 := nx33.tr q37 (by have := @ic x9; omega) (by omega)
  have nd44 := nd29.tr q37 (by have := @ic s; omega) (by omega)
  have lt45 : s.toInt < (κ40.1 19).toInt := by omega
  rw [upd_at]
  have c50 := @ic x9
  have c51 := @ic s
  have g46 : TR x9.toInt 0 0 0 0 0 κ40 (mA1 κ40 22 x9.toNatClampNeg v35) := TR.put p41.ps z12 rfl rfl
  have e48 : ((mA1 κ40 22 x9.toNatClampNeg v35).1 19).toInt = (κ40.1 19).toInt := rfl
  have e49 : ((mA1 κ40 22 x9.toNatClampNeg v35).1 32).toInt = (κ40.1 32).toInt := rfl
  have nd52 := nd44.off (g := 22) (t := x9.toNatClampNeg) (x := v35) (by omega)
  have p53 : TR (s.toInt) (0) 0 0 0 (-1) μ (mA1 κ40 22 x9.toNatClampNeg v35) := p41.trS g46 (Or.inr (Or.inr (by omega))) rfl rfl rfl rfl (by omega)
  have k54 := Kd.free0 (t := x9.toNatClampNeg) (y := v35) nx43.1 k42
  refine ⟨TR.mi p41.ps rfl rfl z12 (by omega), ?_⟩
  generalize mA1 κ40 22 x9.toNatClampNeg v35 = κ47 at *
  have lt55 : s.toInt < (κ47.1 19).toInt := by omega
  refine MC.mono (t_expect (by omega) p53.ps (by decide) (fun _ h => hT _ (p53.1.1.tr h))) (fun v56 κ61 h57 => ?_) (fun _ h => h)
  obtain ⟨q58, m59, a60⟩ := h57
  have p62 : TR (s.toInt) (0) 0 0 0 (-3) μ κ61 := p53.trS q58 (Or.inl (by decide)) rfl rfl rfl rfl (by omega)
  have k63 := k54.tr q58 (Or.inl (by decide)) s0
  have nd64 := nd52.tr q58 (by have := @ic s; omega) (by omega)
  have lt65 : s.toInt < (κ61.1 19).toInt := by omega
  have x69 := p62.px
  have u70 := p62.2
  have y71 := tT p62
  have z72 := px0 p62.ps
  refine MC.mono (hE κ61 T h p62.ps (by omega) (by omega) (by omega) (fun _ h => hT _ (p62.1.1.tr h))) (fun r66 κ67 h68 => ?_) (fun _ h => h)
  obtain ⟨q73, a75, g74, n76⟩ := h68
  have l77 := q73.l19
  have p78 : TR (s.toInt) (0) 0 0 0 (-3) μ κ67 := p62.trS q73 (Or.inl (by decide)) rfl rfl rfl rfl (by omega)
  have k79 := k63.tr q73 (Or.inl (by decide)) s0
  have nd80 := nd64.tr q73 (by have := @ic s; omega) (by omega)
  have lt81 : s.toInt < (κ67.1 19).toInt := by omega
  have k82 : Kd κ67 h s.toInt s 1 r66 := Kd.of g74 (by omega) (Int.le_refl _) s0 (Or.inl (by omega))
  have g83 : TR s.toInt 0 0 0 0 0 κ67 (mA1 κ67 23 s.toNatClampNeg r66) := TR.put p78.ps s0 rfl rfl
  have e85 : ((mA1 κ67 23 s.toNatClampNeg r66).1 19).toInt = (κ67.1 19).toInt := rfl
  have e86 : ((mA1 κ67 23 s.toNatClampNeg r66).1 32).toInt = (κ67.1 32).toInt := rfl
  have sr88 : srt (mA1 κ67 23 s.toNatClampNeg r66) = srt κ67 := rfl
  have nd87 := nd80.pb (x := r66)
  have p89 : TR (s.toInt) (0) 0 0 0 (-3) μ (mA1 κ67 23 s.toNatClampNeg r66) := p78.trS g83 (Or.inr (Or.inl rfl)) rfl rfl rfl rfl (by omega)
  have k90 := k79.tr g83 (Or.inr rfl) s0
  have k91 := k82.tr g83 (Or.inr rfl) s0
  refine ⟨TR.mi p78.ps rfl rfl s0 (by omega), ?_⟩
  generalize mA1 κ67 23 s.toNatClampNeg r66 = κ84 at *
  have lt92 : s.toInt < (κ84.1 19).toInt := by omega
  refine MC.mono (t_expect (by omega) p89.ps (by decide) (fun _ h => hT _ (p89.1.1.tr h))) (fun v93 κ98 h94 => ?_) (fun _ h => h)
  obtain ⟨q95, m96, a97⟩ := h94
  have p99 : TR (s.toInt) (0) 0 0 0 (-5) μ κ98 := p89.trS q95 (Or.inl (by decide)) rfl rfl rfl rfl (by omega)
  have k100 := k90.tr q95 (Or.inl (by decide)) s0
  have k101 := k91.tr q95 (Or.inl (by decide)) s0
  have nd102 := nd87.tr q95 (by have := @ic s; omega) (by omega)
  have lt103 : s.toInt < (κ98.1 19).toInt := by omega
  have x107 := p99.px
  have u108 := p99.2
  have y109 := tT p99
  have z110 := px0 p99.ps
  refine MC.mono (hE κ98 T h p99.ps (by omega) (by omega) (by omega) (fun _ h => hT _ (p99.1.1.tr h))) (fun r104 κ105 h106 => ?_) (fun _ h => h)
  obtain ⟨q111, a113, g112, n114⟩ := h106
  have l115 := q111.l19
  have p116 : TR (s.toInt) (0) 0 0 0 (-5) μ κ105 := p99.trS q111 (Or.inl (by decide)) rfl rfl rfl rfl (by omega)
  have k117 := k100.tr q111 (Or.inl (by decide)) s0
  have k118 := k101.tr q111 (Or.inl (by decide)) s0
  have nd119 := nd102.tr q111 (by have := @ic s; omega) (by omega)
  have lt120 : s.toInt < (κ105.1 19).toInt := by omega
  have k121 : Kd κ105 h s.toInt s 1 r104 := Kd.of g112 (by omega) (Int.le_refl _) s0 (Or.inl (by omega))
  have g122 : TR s.toInt 0 0 0 0 0 κ105 (mA1 κ105 24 s.toNatClampNeg r104) := TR.put p116.ps s0 rfl rfl
  have e124 : ((mA1 κ105 24 s.toNatClampNeg r104).1 19).toInt = (κ105.1 19).toInt := rfl
  have e125 : ((mA1 κ105 24 s.toNatClampNeg r104).1 32).toInt = (κ105.1 32).toInt := rfl
  have sr127 : srt (mA1 κ105 24 s.toNatClampNeg r104) = srt κ105 := rfl
  have nd126 := nd119.pc (x := r104)
  have p128 : TR (s.toInt) (0) 0 0 0 (-5) μ (mA1 κ105 24 s.toNatClampNeg r104) := p116.trS g122 (Or.inr (Or.inl rfl)) rfl rfl rfl rfl (by omega)
  have k129 := k117.tr g122 (Or.inr rfl) s0
  have k130 := k118.tr g122 (Or.inr rfl) s0
  have k131 := k121.tr g122 (Or.inr rfl) s0
  refine ⟨TR.mi p116.ps rfl rfl s0 (by omega), ?_⟩
  generalize mA1 κ105 24 s.toNatClampNeg r104 = κ123 at *
  have lt132 : s.toInt < (κ123.1 19).toInt := by omega
  refine MC.mono (t_expect (by omega) p128.ps (by decide) (fun _ h => hT _ (p128.1.1.tr h))) (fun v133 κ138 h134 => ?_) (fun _ h => h)
  obtain ⟨q135, m136, a137⟩ := h134
  have p139 : TR (s.toInt) (0) 0 0 0 (-7) μ κ138 := p128.trS q135 (Or.inl (by decide)) rfl rfl rfl rfl (by omega)
  have k140 := k129.tr q135 (Or.inl (by decide)) s0
  have k141 := k130.tr q135 (Or.inl (by decide)) s0
  have k142 := k131.tr q135 (Or.inl (by decide)) s0
  have nd143 := nd126.tr q135 (by have := @ic s; omega) (by omega)
  have lt144 : s.toInt < (κ138.1 19).toInt := by omega
  have x148 := p139.px
  have u149 := p139.2
  have y150 := tT p139
  have z151 := px0 p139.ps
  refine MC.mono (hSt κ138 T h p139.ps (by omega) (by omega) (by omega) (fun _ h => hT _ (p139.1.1.tr h))) (fun r145 κ146 h147 => ?_) (fun _ h => h)
  obtain ⟨q152, g153⟩ := h147
  have l154 := q152.l19
  have p155 : TR (s.toInt) (0) 0 0 0 (-7) μ κ146 := p139.trS q152 (Or.inl (by decide)) rfl rfl rfl rfl (by omega)
  have k156 := k140.tr q152 (Or.inl (by decide)) s0
  have k157 := k141.tr q152 (Or.inl (by decide)) s0
  have k158 := k142.tr q152 (Or.inl (by decide)) s0
  have nd159 := nd143.tr q152 (by have := @ic s; omega) (by omega)
  have lt160 : s.toInt < (κ146.1 19).toInt := by omega
  have k161 : KL κ146 h s.toInt s 3 r145 := KL.of g153 (by omega) (Int.le_refl _) s0 (Or.inl (by omega))
  have g162 : TR s.toInt 0 0 0 0 0 κ146 (mA1 κ146 25 s.toNatClampNeg r145) := TR.put p155.ps s0 rfl rfl
  have e164 : ((mA1 κ146 25 s.toNatClampNeg r145).1 19).toInt = (κ146.1 19).toInt := rfl
  have e165 : ((mA1 κ146 25 s.toNatClampNeg r145).1 32).toInt = (κ146.1 32).toInt := rfl
  have sr167 : srt (mA1 κ146 25 s.toNatClampNeg r145) = srt κ146 := rfl
  have nd166 := nd159.pd (x := r145)
  have p168 : TR (s.toInt) (0) 0 0 0 (-7) μ (mA1 κ146 25 s.toNatClampNeg r145) := p155.trS g162 (Or.inr (Or.inl rfl)) rfl rfl rfl rfl (by omega)
  have k169 := k156.tr g162 (Or.inr rfl) s0
  have k170 := k157.tr g162 (Or.inr rfl) s0
  have k171 := k158.tr g162 (Or.inr rfl) s0
  have k172 := k161.tr g162 (Or.inr rfl) s0
  refine ⟨TR.mi p155.ps rfl rfl s0 (by omega), ?_⟩
  generalize mA1 κ146 25 s.toNatClampNeg r145 = κ163 at *
  have lt173 : s.toInt < (κ163.1 19).toInt := by omega
  refine MC.mono (t_expect (by omega) p168.ps (by decide) (fun _ h => hT _ (p168.1.1.tr h))) (fun v174 κ179 h175 => ?_) (fun _ h => h)
  obtain ⟨q176, m177, a178⟩ := h175
  have p180 : TR (s.toInt) (0) 0 0 0 (-9) μ κ179 := p168.trS q176 (Or.inl (by decide)) rfl rfl rfl rfl (by omega)
  have k181 := k169.tr q176 (Or.inl (by decide)) s0
  have k182 := k170.tr q176 (Or.inl (by decide)) s0
  have k183 := k171.tr q176 (Or.inl (by decide)) s0
  have k184 := k172.tr q176 (Or.inl (by decide)) s0
  have nd185 := nd166.tr q176 (by have := @ic s; omega) (by omega)
  have lt186 : s.toInt < (κ179.1 19).toInt := by omega
  exact ⟨⟨p180.1, by have := p180.2; omega⟩, G.mk s0 (Int.le_refl _) lt186 nd185 (by decide) (k181) (k182) (k183) (k184) True.intro, nd185.2.2.2.2.2.2⟩
theorem st_try (hSt : SL X W P 321 [] 3 19 11 d) (hH : SL X W P 328 [.int 52] 14 20 12 d) (hO : OtC X W P d) : FiC X W P 325 0 0 (d + 1) := fun μ T h s hS hd hh hn hT s0 s1 nd0 => by
  have hp := px0 hS
  have h0 := hS.2.2.2.2.1
  have at0 := hS.at
  have hb0 := hS.2.2.2.2.2.1.1
  have hcs := @ic s
  have p0 : TR s.toInt 0 0 0 0 0 μ μ := TR.rf hS
  have lt0 : s.toInt < (μ.1 19).toInt := by omega
  have s9 : s.toInt < 15990 := by omega
  refine me_meth (by omega) rfl (v_tryStatement_0 _ ?_)
  have x190 := p0.px
  have u191 := p0.2
  have y192 := tT p0
  have z193 := px0 p0.ps
  refine MC.mono (hSt μ T h p0.ps (by omega) (by omega) (by omega) (fun _ h => hT _ (p0.1.1.tr h))) (fun r187 κ188 h189 => ?_) (fun _ h => h)
  obtain ⟨q194, g195⟩ := h189
  have l196 := q194.l19
  have p197 : TR (s.toInt) (0) 0 0 0 (0) μ κ188 := p0.trS q194 (Or.inl (by decide)) rfl rfl rfl rfl (by omega)
  have nd198 := nd0.tr q194 (by have := @ic s; omega) (by omega)
  have lt199 : s.toInt < (κ188.1 19).toInt := by omega
  have k200 : KL κ188 h s.toInt s 3 r187 := KL.of g195 (by omega) (Int.le_refl _) s0 (Or.inl (by omega))
  have g201 : TR s.toInt 0 0 0 0 0 κ188 (mA1 κ188 22 s.toNatClampNeg r187) := TR.put p197.ps s0 rfl rfl
  have e203 : ((mA1 κ188 22 s.toNatClampNeg r187).1 19).toInt = (κ188.1 19).toInt := rfl
  have e204 : ((mA1 κ188 22 s.toNatClampNeg r187).1 32).toInt = (κ188.1 32).toInt := rfl
  have sr206 : srt (mA1 κ188 22 s.toNatClampNeg r187) = srt κ188 := rfl
  have nd205 := nd198.pa (x := r187)
  have p207 : TR (s.toInt) (0) 0 0 0 (0) μ (mA1 κ188 22 s.toNatClampNeg r187) := p197.trS g201 (Or.inr (Or.inl rfl)) rfl rfl rfl rfl (by omega)
  have k208 := k200.tr g201 (Or.inr rfl) s0
  refine ⟨TR.mi p197.ps rfl rfl s0 (by omega), ?_⟩
  generalize mA1 κ188 22 s.toNatClampNeg r187 = κ202 at *
  have lt209 : s.toInt < (κ202.1 19).toInt := by omega
  refine MC.mono (c_is (by omega) p207.ps) (fun r210 κ211 h212 => ?_) (fun _ h => h)
  obtain ⟨rfl, rfl⟩ := h212
  refine ⟨fun _ => ?_, fun hw => ?_⟩
  · skip
    have g213 : TR s.toInt 0 0 0 0 0 κ211 (mA1 κ211 20 s.toNatClampNeg 51) := TR.put p207.ps s0 rfl rfl
    have e215 : ((mA1 κ211 20 s.toNatClampNeg 51).1 19).toInt = (κ211.1 19).toInt := rfl
    have e216 : ((mA1 κ211 20 s.toNatClampNeg 51).1 32).toInt = (κ211.1 32).toInt := rfl
    have sr218 : srt (mA1 κ211 20 s.toNatClampNeg 51) = srt κ211 := rfl
    have nd217 := nd205.pk (x := 51)
    have p219 : TR (s.toInt) (0) 0 0 0 (0) μ (mA1 κ211 20 s.toNatClampNeg 51) := p207.trS g213 (Or.inr (Or.inl rfl)) rfl rfl rfl rfl (by omega)
    have k220 := k208.tr g213 (Or.inr rfl) s0
    refine ⟨TR.mi p207.ps rfl rfl s0 (by omega), ?_⟩
    generalize mA1 κ211 20 s.toNatClampNeg 51 = κ214 at *
    have lt221 : s.toInt < (κ214.1 19).toInt := by omega
    refine MC.mono (t_expect (by omega) p219.ps (by decide) (fun _ h => hT _ (p219.1.1.tr h))) (fun v222 κ227 h223 => ?_) (fun _ h => h)
    obtain ⟨q224, m225, a226⟩ := h223
    have p228 : TR (s.toInt) (0) 0 0 0 (-2) μ κ227 := p219.trS q224 (Or.inl (by decide)) rfl rfl rfl rfl (by omega)
    have k229 := k220.tr q224 (Or.inl (by decide)) s0
    have nd230 := nd217.tr q224 (by have := @ic s; omega) (by omega)
    have lt231 : s.toInt < (κ227.1 19).toInt := by omega
    have x235 := p228.px
    have u236 := p228.2
    have y237 := tT p228
    have z238 := px0 p228.ps
    refine MC.mono (hH κ227 T h p228.ps (by omega) (by omega) (by omega) (fun _ h => hT _ (p228.1.1.tr h))) (fun r232 κ233 h234 => ?_) (fun _ h => h)
    obtain ⟨q239, g240⟩ := h234
    have l241 := q239.l19
    have p242 : TR (s.toInt) (0) 0 0 0 (-2) μ κ233 := p228.trS q239 (Or.inl (by decide)) rfl rfl rfl rfl (by omega)
    have k243 := k229.tr q239 (Or.inl (by decide)) s0
    have nd244 := nd230.tr q239 (by have := @ic s; omega) (by omega)
    have lt245 : s.toInt < (κ233.1 19).toInt := by omega
    have k246 : KL κ233 h s.toInt s 14 r232 := KL.of g240 (by omega) (Int.le_refl _) s0 (Or.inl (by omega))
    have g247 : TR s.toInt 0 0 0 0 0 κ233 (mA1 κ233 23 s.toNatClampNeg r232) := TR.put p242.ps s0 rfl rfl
    have e249 : ((mA1 κ233 23 s.toNatClampNeg r232).1 19).toInt = (κ233.1 19).toInt := rfl
    have e250 : ((mA1 κ233 23 s.toNatClampNeg r232).1 32).toInt = (κ233.1 32).toInt := rfl
    have sr252 : srt (mA1 κ233 23 s.toNatClampNeg r232) = srt κ233 := rfl
    have nd251 := nd244.pb (x := r232)
    have p253 : TR (s.toInt) (0) 0 0 0 (-2) μ (mA1 κ233 23 s.toNatClampNeg r232) := p242.trS g247 (Or.inr (Or.inl rfl)) rfl rfl rfl rfl (by omega)
    have k254 := k243.tr g247 (Or.inr rfl) s0
    have k255 := k246.tr g247 (Or.inr rfl) s0
    refine ⟨TR.mi p242.ps rfl rfl s0 (by omega), ?_⟩
    generalize mA1 κ233 23 s.toNatClampNeg r232 = κ248 at *
    have lt256 : s.toInt < (κ248.1 19).toInt := by omega
    have x257 := p253.px
    have u258 := p253.2
    have y259 := tT p253
    have z260 := px0 p253.ps
    refine MC.mono (hO κ248 T h s _ _ _ p253.ps (by omega) (by omega) (by omega) (fun _ h => hT _ (p253.1.1.tr h)) s0 lt256 nd251) (fun _ κ261 h262 => ?_) (fun _ h => h)
    obtain ⟨q263, c264, e265, nd266, k267⟩ := h262
    have l268 := q263.l19
    have p269 : TR (s.toInt) (0) 0 0 0 (-2) μ κ261 := p253.trS q263 (Or.inr (Or.inl rfl)) rfl rfl rfl rfl (by omega)
    have k270 := k254.tr q263 (Or.inr rfl) s0
    have k271 := k255.tr q263 (Or.inr rfl) s0
    have lt272 : s.toInt < (κ261.1 19).toInt := by omega
    exact ⟨⟨p269.1, by have := p269.2; omega⟩, G.mk s0 (Int.le_refl _) lt272 nd266 (by decide) (k270) (k271) (k267) True.intro True.intro, nd266.2.2.2.2.2.2⟩
  · skip
    have hw3 : ¬ srt κ211 = 203 := by rw [is_t hw]; decide
    have g273 : TR s.toInt 0 0 0 0 0 κ211 (mA1 κ211 20 s.toNatClampNeg 53) := TR.put p207.ps s0 rfl rfl
    have e275 : ((mA1 κ211 20 s.toNatClampNeg 53).1 19).toInt = (κ211.1 19).toInt := rfl
    have e276 : ((mA1 κ211 20 s.toNatClampNeg 53).1 32).toInt = (κ211.1 32).toInt := rfl
    have sr278 : srt (mA1 κ211 20 s.toNatClampNeg 53) = srt κ211 := rfl
    have nd277 := nd205.pk (x := 53)
    have p279 : TR (s.toInt) (0) 0 0 0 (0) μ (mA1 κ211 20 s.toNatClampNeg 53) := p207.trS g273 (Or.inr (Or.inl rfl)) rfl rfl rfl rfl (by omega)
    have k280 := k208.tr g273 (Or.inr rfl) s0
    refine ⟨TR.mi p207.ps rfl rfl s0 (by omega), ?_⟩
    generalize mA1 κ211 20 s.toNatClampNeg 53 = κ274 at *
    have lt281 : s.toInt < (κ274.1 19).toInt := by omega
    refine MC.mono (t_next (by omega) p279.ps (hw3) (fun _ h => hT _ (p279.1.1.tr h))) (fun v282 κ287 h283 => ?_) (fun _ h => h)
    obtain ⟨q284, m285, a286⟩ := h283
    have p288 : TR (s.toInt) (0) 0 0 0 (-2) μ κ287 := p279.trS q284 (Or.inl (by decide)) rfl rfl rfl rfl (by omega)
    have k289 := k280.tr q284 (Or.inl (by decide)) s0
    have nd290 := nd277.tr q284 (by have := @ic s; omega) (by omega)
    have lt291 : s.toInt < (κ287.1 19).toInt := by omega
    have x295 := p288.px
    have u296 := p288.2
    have y297 := tT p288
    have z298 := px0 p288.ps
    refine MC.mono (hSt κ287 T h p288.ps (by omega) (by omega) (by omega) (fun _ h => hT _ (p288.1.1.tr h))) (fun r292 κ293 h294 => ?_) (fun _ h => h)
    obtain ⟨q299, g300⟩ := h294
    have l301 := q299.l19
    have p302 : TR (s.toInt) (0) 0 0 0 (-2) μ κ293 := p288.trS q299 (Or.inl (by decide)) rfl rfl rfl rfl (by omega)
    have k303 := k289.tr q299 (Or.inl (by decide)) s0
    have nd304 := nd290.tr q299 (by have := @ic s; omega) (by omega)
    have lt305 : s.toInt < (κ293.1 19).toInt := by omega
    have k306 : KL κ293 h s.toInt s 3 r292 := KL.of g300 (by omega) (Int.le_refl _) s0 (Or.inl (by omega))
    have g307 : TR s.toInt 0 0 0 0 0 κ293 (mA1 κ293 23 s.toNatClampNeg r292) := TR.put p302.ps s0 rfl rfl
    have e309 : ((mA1 κ293 23 s.toNatClampNeg r292).1 19).toInt = (κ293.1 19).toInt := rfl
    have e310 : ((mA1 κ293 23 s.toNatClampNeg r292).1 32).toInt = (κ293.1 32).toInt := rfl
    have sr312 : srt (mA1 κ293 23 s.toNatClampNeg r292) = srt κ293 := rfl
    have nd311 := nd304.pb (x := r292)
    have p313 : TR (s.toInt) (0) 0 0 0 (-2) μ (mA1 κ293 23 s.toNatClampNeg r292) := p302.trS g307 (Or.inr (Or.inl rfl)) rfl rfl rfl rfl (by omega)
    have k314 := k303.tr g307 (Or.inr rfl) s0
    have k315 := k306.tr g307 (Or.inr rfl) s0
    refine ⟨TR.mi p302.ps rfl rfl s0 (by omega), ?_⟩
    generalize mA1 κ293 23 s.toNatClampNeg r292 = κ308 at *
    have lt316 : s.toInt < (κ308.1 19).toInt := by omega
    refine MC.mono (t_expect (by omega) p313.ps (by decide) (fun _ h => hT _ (p313.1.1.tr h))) (fun v317 κ322 h318 => ?_) (fun _ h => h)
    obtain ⟨q319, m320, a321⟩ := h318
    have p323 : TR (s.toInt) (0) 0 0 0 (-4) μ κ322 := p313.trS q319 (Or.inl (by decide)) rfl rfl rfl rfl (by omega)
    have k324 := k314.tr q319 (Or.inl (by decide)) s0
    have k325 := k315.tr q319 (Or.inl (by decide)) s0
    have nd326 := nd311.tr q319 (by have := @ic s; omega) (by omega)
    have lt327 : s.toInt < (κ322.1 19).toInt := by omega
    exact ⟨⟨p323.1, by have := p323.2; omega⟩, G.mk s0 (Int.le_refl _) lt327 nd326 (by decide) (k324) (k325) True.intro True.intro True.intro, nd326.2.2.2.2.2.2⟩
theorem st_typecase (hE : XC X W P 332 [] 1 20 12 0 0 d) (hB : SL X W P 328 [.int 61] 15 20 12 d) (hO : OtC X W P d) : FiC X W P 327 0 0 (d + 1) := fun μ T h s hS hd hh hn hT s0 s1 nd0 => by
  have hp := px0 hS
  have h0 := hS.2.2.2.2.1
  have at0 := hS.at
  have hb0 := hS.2.2.2.2.2.1.1
  have hcs := @ic s
  have p0 : TR s.toInt 0 0 0 0 0 μ μ := TR.rf hS
  have lt0 : s.toInt < (μ.1 19).toInt := by omega
  have s9 : s.toInt < 15990 := by omega
  refine me_meth (by omega) rfl (v_typecase_0 _ ?_)
  have g328 : TR s.toInt 0 0 0 0 0 μ (mA1 μ 20 s.toNatClampNeg 60) := TR.put p0.ps s0 rfl rfl
  have e330 : ((mA1 μ 20 s.toNatClampNeg 60).1 19).toInt = (μ.1 19).toInt := rfl
  have e331 : ((mA1 μ 20 s.toNatClampNeg 60).1 32).toInt = (μ.1 32).toInt := rfl
  have sr333 : srt (mA1 μ 20 s.toNatClampNeg 60) = srt μ := rfl
  have nd332 := nd0.pk (x := 60)
  have p334 : TR (s.toInt) (0) 0 0 0 (0) μ (mA1 μ 20 s.toNatClampNeg 60) := p0.trS g328 (Or.inr (Or.inl rfl)) rfl rfl rfl rfl (by omega)
  refine ⟨TR.mi p0.ps rfl rfl s0 (by omega), ?_⟩
  generalize mA1 μ 20 s.toNatClampNeg 60 = κ329 at *
  have lt335 : s.toInt < (κ329.1 19).toInt := by omega
  have x339 := p334.px
  have u340 := p334.2
  have y341 := tT p334
  have z342 := px0 p334.ps
  refine MC.mono (hE κ329 T h p334.ps (by omega) (by omega) (by omega) (fun _ h => hT _ (p334.1.1.tr h))) (fun r336 κ337 h338 => ?_) (fun _ h => h)
  obtain ⟨q343, a345, g344, n346⟩ := h338
  have l347 := q343.l19
  have p348 : TR (s.toInt) (0) 0 0 0 (0) μ κ337 := p334.trS q343 (Or.inl (by decide)) rfl rfl rfl rfl (by omega)
  have nd349 := nd332.tr q343 (by have := @ic s; omega) (by omega)
  have lt350 : s.toInt < (κ337.1 19).toInt := by omega
  have k351 : Kd κ337 h s.toInt s 1 r336 := Kd.of g344 (by omega) (Int.le_refl _) s0 (Or.inl (by omega))
  have g352 : TR s.toInt 0 0 0 0 0 κ337 (mA1 κ337 22 s.toNatClampNeg r336) := TR.put p348.ps s0 rfl rfl
  have e354 : ((mA1 κ337 22 s.toNatClampNeg r336).1 19).toInt = (κ337.1 19).toInt := rfl
  have e355 : ((mA1 κ337 22 s.toNatClampNeg r336).1 32).toInt = (κ337.1 32).toInt := rfl
  have sr357 : srt (mA1 κ337 22 s.toNatClampNeg r336) = srt κ337 := rfl
  have nd356 := nd349.pa (x := r336)
  have p358 : TR (s.toInt) (0) 0 0 0 (0) μ (mA1 κ337 22 s.toNatClampNeg r336) := p348.trS g352 (Or.inr (Or.inl rfl)) rfl rfl rfl rfl (by omega)
  have k359 := k351.tr g352 (Or.inr rfl) s0
  refine ⟨TR.mi p348.ps rfl rfl s0 (by omega), ?_⟩
  generalize mA1 κ337 22 s.toNatClampNeg r336 = κ353 at *
  have lt360 : s.toInt < (κ353.1 19).toInt := by omega
  refine MC.mono (t_expect (by omega) p358.ps (by decide) (fun _ h => hT _ (p358.1.1.tr h))) (fun v361 κ366 h362 => ?_) (fun _ h => h)
  obtain ⟨q363, m364, a365⟩ := h362
  have p367 : TR (s.toInt) (0) 0 0 0 (-2) μ κ366 := p358.trS q363 (Or.inl (by decide)) rfl rfl rfl rfl (by omega)
  have k368 := k359.tr q363 (Or.inl (by decide)) s0
  have nd369 := nd356.tr q363 (by have := @ic s; omega) (by omega)
  have lt370 : s.toInt < (κ366.1 19).toInt := by omega
  have x374 := p367.px
  have u375 := p367.2
  have y376 := tT p367
  have z377 := px0 p367.ps
  refine MC.mono (hB κ366 T h p367.ps (by omega) (by omega) (by omega) (fun _ h => hT _ (p367.1.1.tr h))) (fun r371 κ372 h373 => ?_) (fun _ h => h)
  obtain ⟨q378, g379⟩ := h373
  have l380 := q378.l19
  have p381 : TR (s.toInt) (0) 0 0 0 (-2) μ κ372 := p367.trS q378 (Or.inl (by decide)) rfl rfl rfl rfl (by omega)
  have k382 := k368.tr q378 (Or.inl (by decide)) s0
  have nd383 := nd369.tr q378 (by have := @ic s; omega) (by omega)
  have lt384 : s.toInt < (κ372.1 19).toInt := by omega
  have k385 : KL κ372 h s.toInt s 15 r371 := KL.of g379 (by omega) (Int.le_refl _) s0 (Or.inl (by omega))
  have g386 : TR s.toInt 0 0 0 0 0 κ372 (mA1 κ372 23 s.toNatClampNeg r371) := TR.put p381.ps s0 rfl rfl
  have e388 : ((mA1 κ372 23 s.toNatClampNeg r371).1 19).toInt = (κ372.1 19).toInt := rfl
  have e389 : ((mA1 κ372 23 s.toNatClampNeg r371).1 32).toInt = (κ372.1 32).toInt := rfl
  have sr391 : srt (mA1 κ372 23 s.toNatClampNeg r371) = srt κ372 := rfl
  have nd390 := nd383.pb (x := r371)
  have p392 : TR (s.toInt) (0) 0 0 0 (-2) μ (mA1 κ372 23 s.toNatClampNeg r371) := p381.trS g386 (Or.inr (Or.inl rfl)) rfl rfl rfl rfl (by omega)
  have k393 := k382.tr g386 (Or.inr rfl) s0
  have k394 := k385.tr g386 (Or.inr rfl) s0
  refine ⟨TR.mi p381.ps rfl rfl s0 (by omega), ?_⟩
  generalize mA1 κ372 23 s.toNatClampNeg r371 = κ387 at *
  have lt395 : s.toInt < (κ387.1 19).toInt := by omega
  have x396 := p392.px
  have u397 := p392.2
  have y398 := tT p392
  have z399 := px0 p392.ps
  refine MC.mono (hO κ387 T h s _ _ _ p392.ps (by omega) (by omega) (by omega) (fun _ h => hT _ (p392.1.1.tr h)) s0 lt395 nd390) (fun _ κ400 h401 => ?_) (fun _ h => h)
  obtain ⟨q402, c403, e404, nd405, k406⟩ := h401
  have l407 := q402.l19
  have p408 : TR (s.toInt) (0) 0 0 0 (-2) μ κ400 := p392.trS q402 (Or.inr (Or.inl rfl)) rfl rfl rfl rfl (by omega)
  have k409 := k393.tr q402 (Or.inr rfl) s0
  have k410 := k394.tr q402 (Or.inr rfl) s0
  have lt411 : s.toInt < (κ400.1 19).toInt := by omega
  exact ⟨⟨p408.1, by have := p408.2; omega⟩, G.mk s0 (Int.le_refl _) lt411 nd405 (by decide) (k409) (k410) (k406) True.intro True.intro, nd405.2.2.2.2.2.2⟩
theorem st_otherwise (hSt : SL X W P 321 [] 3 19 11 d) : OtC X W P (d + 1) := fun μ T h s k a b hS hd hh hn hT s0 s1 nd0 => by
  have hp := px0 hS
  have h0 := hS.2.2.2.2.1
  have at0 := hS.at
  have hcs := @ic s
  have p0 : TR s.toInt 0 0 0 0 0 μ μ := TR.rf hS
  have lt0 : s.toInt < (μ.1 19).toInt := s1
  have s9 : s.toInt < 15990 := by omega
  refine me_meth (by omega) rfl (v_otherwise_0 _ ?_)
  refine MC.mono (c_is (by omega) p0.ps) (fun r412 κ413 h414 => ?_) (fun _ h => h)
  obtain ⟨rfl, rfl⟩ := h414
  refine ⟨fun _ => ?_, fun _ => ?_⟩
  · skip
    have g415 : TR s.toInt 0 0 0 0 0 κ413 (mA1 κ413 25 s.toNatClampNeg 0) := TR.put p0.ps s0 rfl rfl
    have e417 : ((mA1 κ413 25 s.toNatClampNeg 0).1 19).toInt = (κ413.1 19).toInt := rfl
    have e418 : ((mA1 κ413 25 s.toNatClampNeg 0).1 32).toInt = (κ413.1 32).toInt := rfl
    have sr420 : srt (mA1 κ413 25 s.toNatClampNeg 0) = srt κ413 := rfl
    have nd419 := nd0.pd (x := 0)
    have p421 : TR (s.toInt) (0) 0 0 0 (0) κ413 (mA1 κ413 25 s.toNatClampNeg 0) := p0.trS g415 (Or.inr (Or.inl rfl)) rfl rfl rfl rfl (by omega)
    refine ⟨TR.mi p0.ps rfl rfl s0 (by omega), ?_⟩
    generalize mA1 κ413 25 s.toNatClampNeg 0 = κ416 at *
    have lt422 : s.toInt < (κ416.1 19).toInt := by omega
    refine MC.mono (c_is (by omega) p421.ps) (fun r423 κ424 h425 => ?_) (fun _ h => h)
    obtain ⟨rfl, rfl⟩ := h425
    refine ⟨fun _ => ?_, fun hw => ?_⟩
    · skip
      refine MC.mono (t_expect (by omega) p421.ps (by decide) (fun _ h => hT _ (p421.1.1.tr h))) (fun v426 κ431 h427 => ?_) (fun _ h => h)
      obtain ⟨q428, m429, a430⟩ := h427
      have p432 : TR (s.toInt) (0) 0 0 0 (-2) κ413 κ431 := p421.trS q428 (Or.inl (by decide)) rfl rfl rfl rfl (by omega)
      have nd433 := nd419.tr q428 (by have := @ic s; omega) (by omega)
      have lt434 : s.toInt < (κ431.1 19).toInt := by omega
      exact ⟨⟨p432.1, by have := p432.2; omega⟩, -1, 0, nd433, KL.nil⟩
    · skip
      have hw3 : ¬ srt κ424 = 203 := by rw [is_t hw]; decide
      refine MC.mono (t_next (by omega) p421.ps (hw3) (fun _ h => hT _ (p421.1.1.tr h))) (fun v435 κ440 h436 => ?_) (fun _ h => h)
      obtain ⟨q437, m438, a439⟩ := h436
      have p441 : TR (s.toInt) (0) 0 0 0 (-2) κ413 κ440 := p421.trS q437 (Or.inl (by decide)) rfl rfl rfl rfl (by omega)
      have nd442 := nd419.tr q437 (by have := @ic s; omega) (by omega)
      have lt443 : s.toInt < (κ440.1 19).toInt := by omega
      have x447 := p441.px
      have u448 := p441.2
      have y449 := tT p441
      have z450 := px0 p441.ps
      refine MC.mono (hSt κ440 T h p441.ps (by omega) (by omega) (by omega) (fun _ h => hT _ (p441.1.1.tr h))) (fun r444 κ445 h446 => ?_) (fun _ h => h)
      obtain ⟨q451, g452⟩ := h446
      have l453 := q451.l19
      have p454 : TR (s.toInt) (0) 0 0 0 (-2) κ413 κ445 := p441.trS q451 (Or.inl (by decide)) rfl rfl rfl rfl (by omega)
      have nd455 := nd442.tr q451 (by have := @ic s; omega) (by omega)
      have lt456 : s.toInt < (κ445.1 19).toInt := by omega
      have k457 : KL κ445 h s.toInt s 3 r444 := KL.of g452 (by omega) (Int.le_refl _) s0 (Or.inl (by omega))
      have g458 : TR s.toInt 0 0 0 0 0 κ445 (mA1 κ445 24 s.toNatClampNeg r444) := TR.put p454.ps s0 rfl rfl
      have e460 : ((mA1 κ445 24 s.toNatClampNeg r444).1 19).toInt = (κ445.1 19).toInt := rfl
      have e461 : ((mA1 κ445 24 s.toNatClampNeg r444).1 32).toInt = (κ445.1 32).toInt := rfl
      have sr463 : srt (mA1 κ445 24 s.toNatClampNeg r444) = srt κ445 := rfl
      have nd462 := nd455.pc (x := r444)
      have p464 : TR (s.toInt) (0) 0 0 0 (-2) κ413 (mA1 κ445 24 s.toNatClampNeg r444) := p454.trS g458 (Or.inr (Or.inl rfl)) rfl rfl rfl rfl (by omega)
      have k465 := k457.tr g458 (Or.inr rfl) s0
      refine ⟨TR.mi p454.ps rfl rfl s0 (by omega), ?_⟩
      generalize mA1 κ445 24 s.toNatClampNeg r444 = κ459 at *
      have lt466 : s.toInt < (κ459.1 19).toInt := by omega
      refine MC.mono (t_expect (by omega) p464.ps (by decide) (fun _ h => hT _ (p464.1.1.tr h))) (fun v467 κ472 h468 => ?_) (fun _ h => h)
      obtain ⟨q469, m470, a471⟩ := h468
      have p473 : TR (s.toInt) (0) 0 0 0 (-4) κ413 κ472 := p464.trS q469 (Or.inl (by decide)) rfl rfl rfl rfl (by omega)
      have k474 := k465.tr q469 (Or.inl (by decide)) s0
      have nd475 := nd462.tr q469 (by have := @ic s; omega) (by omega)
      have lt476 : s.toInt < (κ472.1 19).toInt := by omega
      exact ⟨⟨p473.1, by have := p473.2; omega⟩, r444, 0, nd475, k474⟩
  · skip
    have g477 : TR s.toInt 0 0 0 0 0 κ413 (mA1 κ413 25 s.toNatClampNeg 1) := TR.put p0.ps s0 rfl rfl
    have e479 : ((mA1 κ413 25 s.toNatClampNeg 1).1 19).toInt = (κ413.1 19).toInt := rfl
    have e480 : ((mA1 κ413 25 s.toNatClampNeg 1).1 32).toInt = (κ413.1 32).toInt := rfl
    have sr482 : srt (mA1 κ413 25 s.toNatClampNeg 1) = srt κ413 := rfl
    have nd481 := nd0.pd (x := 1)
    have p483 : TR (s.toInt) (0) 0 0 0 (0) κ413 (mA1 κ413 25 s.toNatClampNeg 1) := p0.trS g477 (Or.inr (Or.inl rfl)) rfl rfl rfl rfl (by omega)
    refine ⟨TR.mi p0.ps rfl rfl s0 (by omega), ?_⟩
    generalize mA1 κ413 25 s.toNatClampNeg 1 = κ478 at *
    have lt484 : s.toInt < (κ478.1 19).toInt := by omega
    refine MC.mono (c_is (by omega) p483.ps) (fun r485 κ486 h487 => ?_) (fun _ h => h)
    obtain ⟨rfl, rfl⟩ := h487
    refine ⟨fun _ => ?_, fun hw => ?_⟩
    · skip
      refine MC.mono (t_expect (by omega) p483.ps (by decide) (fun _ h => hT _ (p483.1.1.tr h))) (fun v488 κ493 h489 => ?_) (fun _ h => h)
      obtain ⟨q490, m491, a492⟩ := h489
      have p494 : TR (s.toInt) (0) 0 0 0 (-2) κ413 κ493 := p483.trS q490 (Or.inl (by decide)) rfl rfl rfl rfl (by omega)
      have nd495 := nd481.tr q490 (by have := @ic s; omega) (by omega)
      have lt496 : s.toInt < (κ493.1 19).toInt := by omega
      exact ⟨⟨p494.1, by have := p494.2; omega⟩, -1, 1, nd495, KL.nil⟩
    · skip
      have hw3 : ¬ srt κ486 = 203 := by rw [is_t hw]; decide
      refine MC.mono (t_next (by omega) p483.ps (hw3) (fun _ h => hT _ (p483.1.1.tr h))) (fun v497 κ502 h498 => ?_) (fun _ h => h)
      obtain ⟨q499, m500, a501⟩ := h498
      have p503 : TR (s.toInt) (0) 0 0 0 (-2) κ413 κ502 := p483.trS q499 (Or.inl (by decide)) rfl rfl rfl rfl (by omega)
      have nd504 := nd481.tr q499 (by have := @ic s; omega) (by omega)
      have lt505 : s.toInt < (κ502.1 19).toInt := by omega
      have x509 := p503.px
      have u510 := p503.2
      have y511 := tT p503
      have z512 := px0 p503.ps
      refine MC.mono (hSt κ502 T h p503.ps (by omega) (by omega) (by omega) (fun _ h => hT _ (p503.1.1.tr h))) (fun r506 κ507 h508 => ?_) (fun _ h => h)
      obtain ⟨q513, g514⟩ := h508
      have l515 := q513.l19
      have p516 : TR (s.toInt) (0) 0 0 0 (-2) κ413 κ507 := p503.trS q513 (Or.inl (by decide)) rfl rfl rfl rfl (by omega)
      have nd517 := nd504.tr q513 (by have := @ic s; omega) (by omega)
      have lt518 : s.toInt < (κ507.1 19).toInt := by omega
      have k519 : KL κ507 h s.toInt s 3 r506 := KL.of g514 (by omega) (Int.le_refl _) s0 (Or.inl (by omega))
      have g520 : TR s.toInt 0 0 0 0 0 κ507 (mA1 κ507 24 s.toNatClampNeg r506) := TR.put p516.ps s0 rfl rfl
      have e522 : ((mA1 κ507 24 s.toNatClampNeg r506).1 19).toInt = (κ507.1 19).toInt := rfl
      have e523 : ((mA1 κ507 24 s.toNatClampNeg r506).1 32).toInt = (κ507.1 32).toInt := rfl
      have sr525 : srt (mA1 κ507 24 s.toNatClampNeg r506) = srt κ507 := rfl
      have nd524 := nd517.pc (x := r506)
      have p526 : TR (s.toInt) (0) 0 0 0 (-2) κ413 (mA1 κ507 24 s.toNatClampNeg r506) := p516.trS g520 (Or.inr (Or.inl rfl)) rfl rfl rfl rfl (by omega)
      have k527 := k519.tr g520 (Or.inr rfl) s0
      refine ⟨TR.mi p516.ps rfl rfl s0 (by omega), ?_⟩
      generalize mA1 κ507 24 s.toNatClampNeg r506 = κ521 at *
      have lt528 : s.toInt < (κ521.1 19).toInt := by omega
      refine MC.mono (t_expect (by omega) p526.ps (by decide) (fun _ h => hT _ (p526.1.1.tr h))) (fun v529 κ534 h530 => ?_) (fun _ h => h)
      obtain ⟨q531, m532, a533⟩ := h530
      have p535 : TR (s.toInt) (0) 0 0 0 (-4) κ413 κ534 := p526.trS q531 (Or.inl (by decide)) rfl rfl rfl rfl (by omega)
      have k536 := k527.tr q531 (Or.inl (by decide)) s0
      have nd537 := nd524.tr q531 (by have := @ic s; omega) (by omega)
      have lt538 : s.toInt < (κ534.1 19).toInt := by omega
      exact ⟨⟨p535.1, by have := p535.2; omega⟩, r506, 1, nd537, k536⟩
end PSH
