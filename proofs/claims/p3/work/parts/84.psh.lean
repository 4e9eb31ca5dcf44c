/-! contracts of the reference: FOR, TRY, TYPECASE -/
section PSH
variable {X : ev_X} {W : Nat → Prop} {d : Nat} {P : MP}
theorem st_for (hE : XC X W P 332 [] 1 20 12 0 0 d) (hSt : SL X W P 321 [] 3 19 11 d) : FiC X W P 324 0 0 (d + 1) := fun μ T h s hS hd hh hn hT s0 s1 nd0 => by
  have hp := px0 hS
  have h0 := hS.2.2.2.2.1
  have at0 := hS.at
  have hb0 := hS.2.2.2.2.2.1.1
  have hcs := @ic s
  have p0 : TR s.toInt 0 0 0 0 0 μ μ := TR.rf hS
  have lt0 : s.toInt < (μ.1 19).toInt := by omega
  have s9 : s.toInt < 15990 := by omega
  refine me_meth (by omega) rfl (v_forStatement_0 _ ?_)
  have g1 : TR s.toInt 0 0 0 0 0 μ (mA1 μ 20 s.toNatClampNeg 48) := TR.put p0.ps s0 rfl rfl
  have e3 : ((mA1 μ 20 s.toNatClampNeg 48).1 19).toInt = (μ.1 19).toInt := rfl
  have e4 : ((mA1 μ 20 s.toNatClampNeg 48).1 32).toInt = (μ.1 32).toInt := rfl
  have sr6 : srt (mA1 μ 20 s.toNatClampNeg 48) = srt μ := srt_off rfl
  have nd5 := nd0.pk (x := 48)
  have p7 : TR (s.toInt) (0) 0 0 0 (0) μ (mA1 μ 20 s.toNatClampNeg 48) := p0.trS g1 (Or.inr (Or.inl rfl)) rfl rfl rfl rfl (by omega)
  refine ⟨TR.mi p0.ps rfl rfl s0 (by omega), ?_⟩
  generalize mA1 μ 20 s.toNatClampNeg 48 = κ2 at *
  have lt8 : s.toInt < (κ2.1 19).toInt := by omega
  have u19 := p7.2
  have a20 := p7.ps.at
  refine MC.mono (t_node (by omega) p7.ps (by omega)) (fun x9 κ17 h18 => ?_) (fun _ h => h)
  obtain ⟨q10, ⟨z11, z12⟩, z13, z14, z15, z16⟩ := h18
  have p21 : TR (s.toInt) (0) 0 0 0 (1) μ κ17 := p7.trS q10 (Or.inl (by decide)) rfl rfl rfl rfl (by omega)
  have nd22 := nd5.tr q10 (by have := @ic s; omega) (by omega)
  have lt23 : s.toInt < (κ17.1 19).toInt := by omega
  have k24 : Kd κ17 h s.toInt s 6 x9 := Kd.of ((n10 (h := 0) (lo := x9.toInt) (hi := (κ17.1 19).toInt) z12 (Int.le_refl _) (by omega) z16).up (by omega) (Int.le_refl _) (Int.le_refl _)) (by omega) (Int.le_refl _) s0 (Or.inl (by omega))
  have g25 : TR s.toInt 0 0 0 0 0 κ17 (mA1 κ17 22 s.toNatClampNeg x9) := TR.put p21.ps s0 rfl rfl
  have e27 : ((mA1 κ17 22 s.toNatClampNeg x9).1 19).toInt = (κ17.1 19).toInt := rfl
  have e28 : ((mA1 κ17 22 s.toNatClampNeg x9).1 32).toInt = (κ17.1 32).toInt := rfl
  have sr30 : srt (mA1 κ17 22 s.toNatClampNeg x9) = srt κ17 := srt_off rfl
  have nd29 := nd22.pa (x := x9)
  have p31 : TR (s.toInt) (0) 0 0 0 (1) μ (mA1 κ17 22 s.toNatClampNeg x9) := p21.trS g25 (Or.inr (Or.inl rfl)) rfl rfl rfl rfl (by omega)
  have k32 := k24.tr g25 (Or.inr rfl) s0
  have nx33 := z16.off (g := 22) (t := s.toNatClampNeg) (x := x9) (by have := @ic s; have := @ic x9; omega)
  refine ⟨TR.mi p21.ps rfl rfl s0 (by omega), TR.mi p21.ps rfl rfl s0 (by omega), ?_⟩
  generalize mA1 κ17 22 s.toNatClampNeg x9 = κ26 at *
  have lt34 : s.toInt < (κ26.1 19).toInt := by omega
  refine MC.mono (t_name (by omega) p31.ps (fun _ h => hT _ (p31.1.1.tr h))) (fun v35 κ40 h36 => ?_) (fun _ h => h)
  obtain ⟨q37, m38, a39⟩ := h36
  have p41 : TR (s.toInt) (0) 0 0 0 (-1) μ κ40 := p31.trS q37 (Or.inl (by decide)) rfl rfl rfl rfl (by omega)
  have k42 := k32.tr q37 (Or.inl (by decide)) s0
  have nx43 := nx33.tr q37 (by have := @ic x9; omega) (by omega)
  have nd44 := nd29.tr q37 (by have := @ic s; omega) (by omega)
  have lt45 : s.toInt < (κ40.1 19).toInt := by omega
  rw [upd_at]
  have c50 := @ic x9
  have c51 := @ic s
  have g46 : TR x9.toInt 0 0 0 0 0 κ40 (mA1 κ40 22 x9.toNatClampNeg v35) := TR.put p41.ps z12 rfl rfl
  have e48 : ((mA1 κ40 22 x9.toNatClampNeg v35).1 19).toInt = (κ40.1 19).toInt := rfl
  have e49 : ((mA1 κ40 22 x9.toNatClampNeg v35).1 32).toInt = (κ40.1 32).toInt := rfl
  have nd52 := nd44.off (g := 22) (t := x9.toNatClampNeg) (x := v35) (by omega)
  have p53 : TR (s.toInt) (0) 0 0 0 (-1) μ (mA1 κ40 22 x9.toNatClampNeg v35) := p41.trS g46 (Or.inr (Or.inr (by omega))) rfl rfl rfl rfl (by omega)
  have k54 := Kd.free0 (t := x9.toNatClampNeg) (y := v35) nx43.1 k42
  refine ⟨TR.mi p41.ps rfl rfl z12 (by omega), ?_⟩
  generalize mA1 κ40 22 x9.toNatClampNeg v35 = κ47 at *
  have lt55 : s.toInt < (κ47.1 19).toInt := by omega
  refine MC.mono (t_expect (by omega) p53.ps (by decide) (fun _ h => hT _ (p53.1.1.tr h))) (fun v56 κ61 h57 => ?_) (fun _ h => h)
  obtain ⟨q58, m59, a60⟩ := h57
  have p62 : TR (s.toInt) (0) 0 0 0 (-3) μ κ61 := p53.trS q58 (Or.inl (by decide)) rfl rfl rfl rfl (by omega)
  have k63 := k54.tr q58 (Or.inl (by decide)) s0
  have nd64 := nd52.tr q58 (by have := @ic s; omega) (by omega)
  have lt65 : s.toInt < (κ61.1 19).toInt := by omega
  have x69 := p62.px
  have u70 := p62.2
  have y71 := tT p62
  have z72 := px0 p62.ps
  refine MC.mono (hE κ61 T h p62.ps (by omega) (by omega) (by omega) (fun _ h => hT _ (p62.1.1.tr h))) (fun r66 κ67 h68 => ?_) (fun _ h => h)
  obtain ⟨q73, a75, g74, n76⟩ := h68
  have l77 := q73.l19
  have l78 := q73.l32
  have p79 : TR (s.toInt) (0) 0 0 0 (-3) μ κ67 := p62.trS q73 (Or.inl (by decide)) rfl rfl rfl rfl (by omega)
  have k80 := k63.tr q73 (Or.inl (by decide)) s0
  have nd81 := nd64.tr q73 (by have := @ic s; omega) (by omega)
  have lt82 : s.toInt < (κ67.1 19).toInt := by omega
  have k83 : Kd κ67 h s.toInt s 1 r66 := Kd.of g74 (by omega) (Int.le_refl _) s0 (Or.inl (by omega))
  have g84 : TR s.toInt 0 0 0 0 0 κ67 (mA1 κ67 23 s.toNatClampNeg r66) := TR.put p79.ps s0 rfl rfl
  have e86 : ((mA1 κ67 23 s.toNatClampNeg r66).1 19).toInt = (κ67.1 19).toInt := rfl
  have e87 : ((mA1 κ67 23 s.toNatClampNeg r66).1 32).toInt = (κ67.1 32).toInt := rfl
  have sr89 : srt (mA1 κ67 23 s.toNatClampNeg r66) = srt κ67 := srt_off rfl
  have nd88 := nd81.pb (x := r66)
  have p90 : TR (s.toInt) (0) 0 0 0 (-3) μ (mA1 κ67 23 s.toNatClampNeg r66) := p79.trS g84 (Or.inr (Or.inl rfl)) rfl rfl rfl rfl (by omega)
  have k91 := k80.tr g84 (Or.inr rfl) s0
  have k92 := k83.tr g84 (Or.inr rfl) s0
  refine ⟨TR.mi p79.ps rfl rfl s0 (by omega), ?_⟩
  generalize mA1 κ67 23 s.toNatClampNeg r66 = κ85 at *
  have lt93 : s.toInt < (κ85.1 19).toInt := by omega
  refine MC.mono (t_expect (by omega) p90.ps (by decide) (fun _ h => hT _ (p90.1.1.tr h))) (fun v94 κ99 h95 => ?_) (fun _ h => h)
  obtain ⟨q96, m97, a98⟩ := h95
  have p100 : TR (s.toInt) (0) 0 0 0 (-5) μ κ99 := p90.trS q96 (Or.inl (by decide)) rfl rfl rfl rfl (by omega)
  have k101 := k91.tr q96 (Or.inl (by decide)) s0
  have k102 := k92.tr q96 (Or.inl (by decide)) s0
  have nd103 := nd88.tr q96 (by have := @ic s; omega) (by omega)
  have lt104 : s.toInt < (κ99.1 19).toInt := by omega
  have x108 := p100.px
  have u109 := p100.2
  have y110 := tT p100
  have z111 := px0 p100.ps
  refine MC.mono (hE κ99 T h p100.ps (by omega) (by omega) (by omega) (fun _ h => hT _ (p100.1.1.tr h))) (fun r105 κ106 h107 => ?_) (fun _ h => h)
  obtain ⟨q112, a114, g113, n115⟩ := h107
  have l116 := q112.l19
  have l117 := q112.l32
  have p118 : TR (s.toInt) (0) 0 0 0 (-5) μ κ106 := p100.trS q112 (Or.inl (by decide)) rfl rfl rfl rfl (by omega)
  have k119 := k101.tr q112 (Or.inl (by decide)) s0
  have k120 := k102.tr q112 (Or.inl (by decide)) s0
  have nd121 := nd103.tr q112 (by have := @ic s; omega) (by omega)
  have lt122 : s.toInt < (κ106.1 19).toInt := by omega
  have k123 : Kd κ106 h s.toInt s 1 r105 := Kd.of g113 (by omega) (Int.le_refl _) s0 (Or.inl (by omega))
  have g124 : TR s.toInt 0 0 0 0 0 κ106 (mA1 κ106 24 s.toNatClampNeg r105) := TR.put p118.ps s0 rfl rfl
  have e126 : ((mA1 κ106 24 s.toNatClampNeg r105).1 19).toInt = (κ106.1 19).toInt := rfl
  have e127 : ((mA1 κ106 24 s.toNatClampNeg r105).1 32).toInt = (κ106.1 32).toInt := rfl
  have sr129 : srt (mA1 κ106 24 s.toNatClampNeg r105) = srt κ106 := srt_off rfl
  have nd128 := nd121.pc (x := r105)
  have p130 : TR (s.toInt) (0) 0 0 0 (-5) μ (mA1 κ106 24 s.toNatClampNeg r105) := p118.trS g124 (Or.inr (Or.inl rfl)) rfl rfl rfl rfl (by omega)
  have k131 := k119.tr g124 (Or.inr rfl) s0
  have k132 := k120.tr g124 (Or.inr rfl) s0
  have k133 := k123.tr g124 (Or.inr rfl) s0
  refine ⟨TR.mi p118.ps rfl rfl s0 (by omega), ?_⟩
  generalize mA1 κ106 24 s.toNatClampNeg r105 = κ125 at *
  have lt134 : s.toInt < (κ125.1 19).toInt := by omega
  refine MC.mono (t_expect (by omega) p130.ps (by decide) (fun _ h => hT _ (p130.1.1.tr h))) (fun v135 κ140 h136 => ?_) (fun _ h => h)
  obtain ⟨q137, m138, a139⟩ := h136
  have p141 : TR (s.toInt) (0) 0 0 0 (-7) μ κ140 := p130.trS q137 (Or.inl (by decide)) rfl rfl rfl rfl (by omega)
  have k142 := k131.tr q137 (Or.inl (by decide)) s0
  have k143 := k132.tr q137 (Or.inl (by decide)) s0
  have k144 := k133.tr q137 (Or.inl (by decide)) s0
  have nd145 := nd128.tr q137 (by have := @ic s; omega) (by omega)
  have lt146 : s.toInt < (κ140.1 19).toInt := by omega
  have x150 := p141.px
  have u151 := p141.2
  have y152 := tT p141
  have z153 := px0 p141.ps
  refine MC.mono (hSt κ140 T h p141.ps (by omega) (by omega) (by omega) (fun _ h => hT _ (p141.1.1.tr h))) (fun r147 κ148 h149 => ?_) (fun _ h => h)
  obtain ⟨q154, g155⟩ := h149
  have l156 := q154.l19
  have l157 := q154.l32
  have p158 : TR (s.toInt) (0) 0 0 0 (-7) μ κ148 := p141.trS q154 (Or.inl (by decide)) rfl rfl rfl rfl (by omega)
  have k159 := k142.tr q154 (Or.inl (by decide)) s0
  have k160 := k143.tr q154 (Or.inl (by decide)) s0
  have k161 := k144.tr q154 (Or.inl (by decide)) s0
  have nd162 := nd145.tr q154 (by have := @ic s; omega) (by omega)
  have lt163 : s.toInt < (κ148.1 19).toInt := by omega
  have k164 : KL κ148 h s.toInt s 3 r147 := KL.of g155 (by omega) (Int.le_refl _) s0 (Or.inl (by omega))
  have g165 : TR s.toInt 0 0 0 0 0 κ148 (mA1 κ148 25 s.toNatClampNeg r147) := TR.put p158.ps s0 rfl rfl
  have e167 : ((mA1 κ148 25 s.toNatClampNeg r147).1 19).toInt = (κ148.1 19).toInt := rfl
  have e168 : ((mA1 κ148 25 s.toNatClampNeg r147).1 32).toInt = (κ148.1 32).toInt := rfl
  have sr170 : srt (mA1 κ148 25 s.toNatClampNeg r147) = srt κ148 := srt_off rfl
  have nd169 := nd162.pd (x := r147)
  have p171 : TR (s.toInt) (0) 0 0 0 (-7) μ (mA1 κ148 25 s.toNatClampNeg r147) := p158.trS g165 (Or.inr (Or.inl rfl)) rfl rfl rfl rfl (by omega)
  have k172 := k159.tr g165 (Or.inr rfl) s0
  have k173 := k160.tr g165 (Or.inr rfl) s0
  have k174 := k161.tr g165 (Or.inr rfl) s0
  have k175 := k164.tr g165 (Or.inr rfl) s0
  refine ⟨TR.mi p158.ps rfl rfl s0 (by omega), ?_⟩
  generalize mA1 κ148 25 s.toNatClampNeg r147 = κ166 at *
  have lt176 : s.toInt < (κ166.1 19).toInt := by omega
  refine MC.mono (t_expect (by omega) p171.ps (by decide) (fun _ h => hT _ (p171.1.1.tr h))) (fun v177 κ182 h178 => ?_) (fun _ h => h)
  obtain ⟨q179, m180, a181⟩ := h178
  have p183 : TR (s.toInt) (0) 0 0 0 (-9) μ κ182 := p171.trS q179 (Or.inl (by decide)) rfl rfl rfl rfl (by omega)
  have k184 := k172.tr q179 (Or.inl (by decide)) s0
  have k185 := k173.tr q179 (Or.inl (by decide)) s0
  have k186 := k174.tr q179 (Or.inl (by decide)) s0
  have k187 := k175.tr q179 (Or.inl (by decide)) s0
  have nd188 := nd169.tr q179 (by have := @ic s; omega) (by omega)
  have lt189 : s.toInt < (κ182.1 19).toInt := by omega
  exact ⟨⟨p183.1, by have := p183.2; omega⟩, G.mk s0 (Int.le_refl _) lt189 nd188 (by decide) (k184) (k185) (k186) (k187) True.intro, nd188.2.2.2.2.2.2⟩
theorem st_try (hSt : SL X W P 321 [] 3 19 11 d) (hH : SL X W P 328 [.int 52] 14 20 12 d) (hO : OtC X W P d) : FiC X W P 325 0 0 (d + 1) := fun μ T h s hS hd hh hn hT s0 s1 nd0 => by
  have hp := px0 hS
  have h0 := hS.2.2.2.2.1
  have at0 := hS.at
  have hb0 := hS.2.2.2.2.2.1.1
  have hcs := @ic s
  have p0 : TR s.toInt 0 0 0 0 0 μ μ := TR.rf hS
  have lt0 : s.toInt < (μ.1 19).toInt := by omega
  have s9 : s.toInt < 15990 := by omega
  refine me_meth (by omega) rfl (v_tryStatement_0 _ ?_)
  have x193 := p0.px
  have u194 := p0.2
  have y195 := tT p0
  have z196 := px0 p0.ps
  refine MC.mono (hSt μ T h p0.ps (by omega) (by omega) (by omega) (fun _ h => hT _ (p0.1.1.tr h))) (fun r190 κ191 h192 => ?_) (fun _ h => h)
  obtain ⟨q197, g198⟩ := h192
  have l199 := q197.l19
  have l200 := q197.l32
  have p201 : TR (s.toInt) (0) 0 0 0 (0) μ κ191 := p0.trS q197 (Or.inl (by decide)) rfl rfl rfl rfl (by omega)
  have nd202 := nd0.tr q197 (by have := @ic s; omega) (by omega)
  have lt203 : s.toInt < (κ191.1 19).toInt := by omega
  have k204 : KL κ191 h s.toInt s 3 r190 := KL.of g198 (by omega) (Int.le_refl _) s0 (Or.inl (by omega))
  have g205 : TR s.toInt 0 0 0 0 0 κ191 (mA1 κ191 22 s.toNatClampNeg r190) := TR.put p201.ps s0 rfl rfl
  have e207 : ((mA1 κ191 22 s.toNatClampNeg r190).1 19).toInt = (κ191.1 19).toInt := rfl
  have e208 : ((mA1 κ191 22 s.toNatClampNeg r190).1 32).toInt = (κ191.1 32).toInt := rfl
  have sr210 : srt (mA1 κ191 22 s.toNatClampNeg r190) = srt κ191 := srt_off rfl
  have nd209 := nd202.pa (x := r190)
  have p211 : TR (s.toInt) (0) 0 0 0 (0) μ (mA1 κ191 22 s.toNatClampNeg r190) := p201.trS g205 (Or.inr (Or.inl rfl)) rfl rfl rfl rfl (by omega)
  have k212 := k204.tr g205 (Or.inr rfl) s0
  refine ⟨TR.mi p201.ps rfl rfl s0 (by omega), ?_⟩
  generalize mA1 κ191 22 s.toNatClampNeg r190 = κ206 at *
  have lt213 : s.toInt < (κ206.1 19).toInt := by omega
  refine MC.mono (c_is (by omega) p211.ps) (fun r214 κ215 h216 => ?_) (fun _ h => h)
  obtain ⟨rfl, rfl⟩ := h216
  refine ⟨fun _ => ?_, fun hw => ?_⟩
  · skip
    have g217 : TR s.toInt 0 0 0 0 0 κ215 (mA1 κ215 20 s.toNatClampNeg 51) := TR.put p211.ps s0 rfl rfl
    have e219 : ((mA1 κ215 20 s.toNatClampNeg 51).1 19).toInt = (κ215.1 19).toInt := rfl
    have e220 : ((mA1 κ215 20 s.toNatClampNeg 51).1 32).toInt = (κ215.1 32).toInt := rfl
    have sr222 : srt (mA1 κ215 20 s.toNatClampNeg 51) = srt κ215 := srt_off rfl
    have nd221 := nd209.pk (x := 51)
    have p223 : TR (s.toInt) (0) 0 0 0 (0) μ (mA1 κ215 20 s.toNatClampNeg 51) := p211.trS g217 (Or.inr (Or.inl rfl)) rfl rfl rfl rfl (by omega)
    have k224 := k212.tr g217 (Or.inr rfl) s0
    refine ⟨TR.mi p211.ps rfl rfl s0 (by omega), ?_⟩
    generalize mA1 κ215 20 s.toNatClampNeg 51 = κ218 at *
    have lt225 : s.toInt < (κ218.1 19).toInt := by omega
    refine MC.mono (t_expect (by omega) p223.ps (by decide) (fun _ h => hT _ (p223.1.1.tr h))) (fun v226 κ231 h227 => ?_) (fun _ h => h)
    obtain ⟨q228, m229, a230⟩ := h227
    have p232 : TR (s.toInt) (0) 0 0 0 (-2) μ κ231 := p223.trS q228 (Or.inl (by decide)) rfl rfl rfl rfl (by omega)
    have k233 := k224.tr q228 (Or.inl (by decide)) s0
    have nd234 := nd221.tr q228 (by have := @ic s; omega) (by omega)
    have lt235 : s.toInt < (κ231.1 19).toInt := by omega
    have x239 := p232.px
    have u240 := p232.2
    have y241 := tT p232
    have z242 := px0 p232.ps
    refine MC.mono (hH κ231 T h p232.ps (by omega) (by omega) (by omega) (fun _ h => hT _ (p232.1.1.tr h))) (fun r236 κ237 h238 => ?_) (fun _ h => h)
    obtain ⟨q243, g244⟩ := h238
    have l245 := q243.l19
    have l246 := q243.l32
    have p247 : TR (s.toInt) (0) 0 0 0 (-2) μ κ237 := p232.trS q243 (Or.inl (by decide)) rfl rfl rfl rfl (by omega)
    have k248 := k233.tr q243 (Or.inl (by decide)) s0
    have nd249 := nd234.tr q243 (by have := @ic s; omega) (by omega)
    have lt250 : s.toInt < (κ237.1 19).toInt := by omega
    have k251 : KL κ237 h s.toInt s 14 r236 := KL.of g244 (by omega) (Int.le_refl _) s0 (Or.inl (by omega))
    have g252 : TR s.toInt 0 0 0 0 0 κ237 (mA1 κ237 23 s.toNatClampNeg r236) := TR.put p247.ps s0 rfl rfl
    have e254 : ((mA1 κ237 23 s.toNatClampNeg r236).1 19).toInt = (κ237.1 19).toInt := rfl
    have e255 : ((mA1 κ237 23 s.toNatClampNeg r236).1 32).toInt = (κ237.1 32).toInt := rfl
    have sr257 : srt (mA1 κ237 23 s.toNatClampNeg r236) = srt κ237 := srt_off rfl
    have nd256 := nd249.pb (x := r236)
    have p258 : TR (s.toInt) (0) 0 0 0 (-2) μ (mA1 κ237 23 s.toNatClampNeg r236) := p247.trS g252 (Or.inr (Or.inl rfl)) rfl rfl rfl rfl (by omega)
    have k259 := k248.tr g252 (Or.inr rfl) s0
    have k260 := k251.tr g252 (Or.inr rfl) s0
    refine ⟨TR.mi p247.ps rfl rfl s0 (by omega), ?_⟩
    generalize mA1 κ237 23 s.toNatClampNeg r236 = κ253 at *
    have lt261 : s.toInt < (κ253.1 19).toInt := by omega
    have x262 := p258.px
    have u263 := p258.2
    have y264 := tT p258
    have z265 := px0 p258.ps
    refine MC.mono (hO κ253 T h s _ _ _ p258.ps (by omega) (by omega) (by omega) (fun _ h => hT _ (p258.1.1.tr h)) s0 lt261 nd256) (fun _ κ266 h267 => ?_) (fun _ h => h)
    obtain ⟨q268, c269, e270, nd271, k272⟩ := h267
    have l273 := q268.l19
    have p274 : TR (s.toInt) (0) 0 0 0 (-2) μ κ266 := p258.trS q268 (Or.inr (Or.inl rfl)) rfl rfl rfl rfl (by omega)
    have k275 := k259.tr q268 (Or.inr rfl) s0
    have k276 := k260.tr q268 (Or.inr rfl) s0
    have lt277 : s.toInt < (κ266.1 19).toInt := by omega
    exact ⟨⟨p274.1, by have := p274.2; omega⟩, G.mk s0 (Int.le_refl _) lt277 nd271 (by decide) (k275) (k276) (k272) True.intro True.intro, nd271.2.2.2.2.2.2⟩
  · skip
    have hw3 : ¬ srt κ215 = 203 := by rw [is_t hw]; decide
    have g278 : TR s.toInt 0 0 0 0 0 κ215 (mA1 κ215 20 s.toNatClampNeg 53) := TR.put p211.ps s0 rfl rfl
    have e280 : ((mA1 κ215 20 s.toNatClampNeg 53).1 19).toInt = (κ215.1 19).toInt := rfl
    have e281 : ((mA1 κ215 20 s.toNatClampNeg 53).1 32).toInt = (κ215.1 32).toInt := rfl
    have sr283 : srt (mA1 κ215 20 s.toNatClampNeg 53) = srt κ215 := srt_off rfl
    have nd282 := nd209.pk (x := 53)
    have p284 : TR (s.toInt) (0) 0 0 0 (0) μ (mA1 κ215 20 s.toNatClampNeg 53) := p211.trS g278 (Or.inr (Or.inl rfl)) rfl rfl rfl rfl (by omega)
    have k285 := k212.tr g278 (Or.inr rfl) s0
    refine ⟨TR.mi p211.ps rfl rfl s0 (by omega), ?_⟩
    generalize mA1 κ215 20 s.toNatClampNeg 53 = κ279 at *
    have lt286 : s.toInt < (κ279.1 19).toInt := by omega
    have hw4 : ¬ srt κ279 = 203 := by rw [sr283]; exact hw3
    refine MC.mono (t_next (by omega) p284.ps (hw4) (fun _ h => hT _ (p284.1.1.tr h))) (fun v287 κ292 h288 => ?_) (fun _ h => h)
    obtain ⟨q289, m290, a291⟩ := h288
    have p293 : TR (s.toInt) (0) 0 0 0 (-2) μ κ292 := p284.trS q289 (Or.inl (by decide)) rfl rfl rfl rfl (by omega)
    have k294 := k285.tr q289 (Or.inl (by decide)) s0
    have nd295 := nd282.tr q289 (by have := @ic s; omega) (by omega)
    have lt296 : s.toInt < (κ292.1 19).toInt := by omega
    have x300 := p293.px
    have u301 := p293.2
    have y302 := tT p293
    have z303 := px0 p293.ps
    refine MC.mono (hSt κ292 T h p293.ps (by omega) (by omega) (by omega) (fun _ h => hT _ (p293.1.1.tr h))) (fun r297 κ298 h299 => ?_) (fun _ h => h)
    obtain ⟨q304, g305⟩ := h299
    have l306 := q304.l19
    have l307 := q304.l32
    have p308 : TR (s.toInt) (0) 0 0 0 (-2) μ κ298 := p293.trS q304 (Or.inl (by decide)) rfl rfl rfl rfl (by omega)
    have k309 := k294.tr q304 (Or.inl (by decide)) s0
    have nd310 := nd295.tr q304 (by have := @ic s; omega) (by omega)
    have lt311 : s.toInt < (κ298.1 19).toInt := by omega
    have k312 : KL κ298 h s.toInt s 3 r297 := KL.of g305 (by omega) (Int.le_refl _) s0 (Or.inl (by omega))
    have g313 : TR s.toInt 0 0 0 0 0 κ298 (mA1 κ298 23 s.toNatClampNeg r297) := TR.put p308.ps s0 rfl rfl
    have e315 : ((mA1 κ298 23 s.toNatClampNeg r297).1 19).toInt = (κ298.1 19).toInt := rfl
    have e316 : ((mA1 κ298 23 s.toNatClampNeg r297).1 32).toInt = (κ298.1 32).toInt := rfl
    have sr318 : srt (mA1 κ298 23 s.toNatClampNeg r297) = srt κ298 := srt_off rfl
    have nd317 := nd310.pb (x := r297)
    have p319 : TR (s.toInt) (0) 0 0 0 (-2) μ (mA1 κ298 23 s.toNatClampNeg r297) := p308.trS g313 (Or.inr (Or.inl rfl)) rfl rfl rfl rfl (by omega)
    have k320 := k309.tr g313 (Or.inr rfl) s0
    have k321 := k312.tr g313 (Or.inr rfl) s0
    refine ⟨TR.mi p308.ps rfl rfl s0 (by omega), ?_⟩
    generalize mA1 κ298 23 s.toNatClampNeg r297 = κ314 at *
    have lt322 : s.toInt < (κ314.1 19).toInt := by omega
    refine MC.mono (t_expect (by omega) p319.ps (by decide) (fun _ h => hT _ (p319.1.1.tr h))) (fun v323 κ328 h324 => ?_) (fun _ h => h)
    obtain ⟨q325, m326, a327⟩ := h324
    have p329 : TR (s.toInt) (0) 0 0 0 (-4) μ κ328 := p319.trS q325 (Or.inl (by decide)) rfl rfl rfl rfl (by omega)
    have k330 := k320.tr q325 (Or.inl (by decide)) s0
    have k331 := k321.tr q325 (Or.inl (by decide)) s0
    have nd332 := nd317.tr q325 (by have := @ic s; omega) (by omega)
    have lt333 : s.toInt < (κ328.1 19).toInt := by omega
    exact ⟨⟨p329.1, by have := p329.2; omega⟩, G.mk s0 (Int.le_refl _) lt333 nd332 (by decide) (k330) (k331) True.intro True.intro True.intro, nd332.2.2.2.2.2.2⟩
theorem st_typecase (hE : XC X W P 332 [] 1 20 12 0 0 d) (hB : SL X W P 328 [.int 61] 15 20 12 d) (hO : OtC X W P d) : FiC X W P 327 0 0 (d + 1) := fun μ T h s hS hd hh hn hT s0 s1 nd0 => by
  have hp := px0 hS
  have h0 := hS.2.2.2.2.1
  have at0 := hS.at
  have hb0 := hS.2.2.2.2.2.1.1
  have hcs := @ic s
  have p0 : TR s.toInt 0 0 0 0 0 μ μ := TR.rf hS
  have lt0 : s.toInt < (μ.1 19).toInt := by omega
  have s9 : s.toInt < 15990 := by omega
  refine me_meth (by omega) rfl (v_typecase_0 _ ?_)
  have g334 : TR s.toInt 0 0 0 0 0 μ (mA1 μ 20 s.toNatClampNeg 60) := TR.put p0.ps s0 rfl rfl
  have e336 : ((mA1 μ 20 s.toNatClampNeg 60).1 19).toInt = (μ.1 19).toInt := rfl
  have e337 : ((mA1 μ 20 s.toNatClampNeg 60).1 32).toInt = (μ.1 32).toInt := rfl
  have sr339 : srt (mA1 μ 20 s.toNatClampNeg 60) = srt μ := srt_off rfl
  have nd338 := nd0.pk (x := 60)
  have p340 : TR (s.toInt) (0) 0 0 0 (0) μ (mA1 μ 20 s.toNatClampNeg 60) := p0.trS g334 (Or.inr (Or.inl rfl)) rfl rfl rfl rfl (by omega)
  refine ⟨TR.mi p0.ps rfl rfl s0 (by omega), ?_⟩
  generalize mA1 μ 20 s.toNatClampNeg 60 = κ335 at *
  have lt341 : s.toInt < (κ335.1 19).toInt := by omega
  have x345 := p340.px
  have u346 := p340.2
  have y347 := tT p340
  have z348 := px0 p340.ps
  refine MC.mono (hE κ335 T h p340.ps (by omega) (by omega) (by omega) (fun _ h => hT _ (p340.1.1.tr h))) (fun r342 κ343 h344 => ?_) (fun _ h => h)
  obtain ⟨q349, a351, g350, n352⟩ := h344
  have l353 := q349.l19
  have l354 := q349.l32
  have p355 : TR (s.toInt) (0) 0 0 0 (0) μ κ343 := p340.trS q349 (Or.inl (by decide)) rfl rfl rfl rfl (by omega)
  have nd356 := nd338.tr q349 (by have := @ic s; omega) (by omega)
  have lt357 : s.toInt < (κ343.1 19).toInt := by omega
  have k358 : Kd κ343 h s.toInt s 1 r342 := Kd.of g350 (by omega) (Int.le_refl _) s0 (Or.inl (by omega))
  have g359 : TR s.toInt 0 0 0 0 0 κ343 (mA1 κ343 22 s.toNatClampNeg r342) := TR.put p355.ps s0 rfl rfl
  have e361 : ((mA1 κ343 22 s.toNatClampNeg r342).1 19).toInt = (κ343.1 19).toInt := rfl
  have e362 : ((mA1 κ343 22 s.toNatClampNeg r342).1 32).toInt = (κ343.1 32).toInt := rfl
  have sr364 : srt (mA1 κ343 22 s.toNatClampNeg r342) = srt κ343 := srt_off rfl
  have nd363 := nd356.pa (x := r342)
  have p365 : TR (s.toInt) (0) 0 0 0 (0) μ (mA1 κ343 22 s.toNatClampNeg r342) := p355.trS g359 (Or.inr (Or.inl rfl)) rfl rfl rfl rfl (by omega)
  have k366 := k358.tr g359 (Or.inr rfl) s0
  refine ⟨TR.mi p355.ps rfl rfl s0 (by omega), ?_⟩
  generalize mA1 κ343 22 s.toNatClampNeg r342 = κ360 at *
  have lt367 : s.toInt < (κ360.1 19).toInt := by omega
  refine MC.mono (t_expect (by omega) p365.ps (by decide) (fun _ h => hT _ (p365.1.1.tr h))) (fun v368 κ373 h369 => ?_) (fun _ h => h)
  obtain ⟨q370, m371, a372⟩ := h369
  have p374 : TR (s.toInt) (0) 0 0 0 (-2) μ κ373 := p365.trS q370 (Or.inl (by decide)) rfl rfl rfl rfl (by omega)
  have k375 := k366.tr q370 (Or.inl (by decide)) s0
  have nd376 := nd363.tr q370 (by have := @ic s; omega) (by omega)
  have lt377 : s.toInt < (κ373.1 19).toInt := by omega
  have x381 := p374.px
  have u382 := p374.2
  have y383 := tT p374
  have z384 := px0 p374.ps
  refine MC.mono (hB κ373 T h p374.ps (by omega) (by omega) (by omega) (fun _ h => hT _ (p374.1.1.tr h))) (fun r378 κ379 h380 => ?_) (fun _ h => h)
  obtain ⟨q385, g386⟩ := h380
  have l387 := q385.l19
  have l388 := q385.l32
  have p389 : TR (s.toInt) (0) 0 0 0 (-2) μ κ379 := p374.trS q385 (Or.inl (by decide)) rfl rfl rfl rfl (by omega)
  have k390 := k375.tr q385 (Or.inl (by decide)) s0
  have nd391 := nd376.tr q385 (by have := @ic s; omega) (by omega)
  have lt392 : s.toInt < (κ379.1 19).toInt := by omega
  have k393 : KL κ379 h s.toInt s 15 r378 := KL.of g386 (by omega) (Int.le_refl _) s0 (Or.inl (by omega))
  have g394 : TR s.toInt 0 0 0 0 0 κ379 (mA1 κ379 23 s.toNatClampNeg r378) := TR.put p389.ps s0 rfl rfl
  have e396 : ((mA1 κ379 23 s.toNatClampNeg r378).1 19).toInt = (κ379.1 19).toInt := rfl
  have e397 : ((mA1 κ379 23 s.toNatClampNeg r378).1 32).toInt = (κ379.1 32).toInt := rfl
  have sr399 : srt (mA1 κ379 23 s.toNatClampNeg r378) = srt κ379 := srt_off rfl
  have nd398 := nd391.pb (x := r378)
  have p400 : TR (s.toInt) (0) 0 0 0 (-2) μ (mA1 κ379 23 s.toNatClampNeg r378) := p389.trS g394 (Or.inr (Or.inl rfl)) rfl rfl rfl rfl (by omega)
  have k401 := k390.tr g394 (Or.inr rfl) s0
  have k402 := k393.tr g394 (Or.inr rfl) s0
  refine ⟨TR.mi p389.ps rfl rfl s0 (by omega), ?_⟩
  generalize mA1 κ379 23 s.toNatClampNeg r378 = κ395 at *
  have lt403 : s.toInt < (κ395.1 19).toInt := by omega
  have x404 := p400.px
  have u405 := p400.2
  have y406 := tT p400
  have z407 := px0 p400.ps
  refine MC.mono (hO κ395 T h s _ _ _ p400.ps (by omega) (by omega) (by omega) (fun _ h => hT _ (p400.1.1.tr h)) s0 lt403 nd398) (fun _ κ408 h409 => ?_) (fun _ h => h)
  obtain ⟨q410, c411, e412, nd413, k414⟩ := h409
  have l415 := q410.l19
  have p416 : TR (s.toInt) (0) 0 0 0 (-2) μ κ408 := p400.trS q410 (Or.inr (Or.inl rfl)) rfl rfl rfl rfl (by omega)
  have k417 := k401.tr q410 (Or.inr rfl) s0
  have k418 := k402.tr q410 (Or.inr rfl) s0
  have lt419 : s.toInt < (κ408.1 19).toInt := by omega
  exact ⟨⟨p416.1, by have := p416.2; omega⟩, G.mk s0 (Int.le_refl _) lt419 nd413 (by decide) (k417) (k418) (k414) True.intro True.intro, nd413.2.2.2.2.2.2⟩
theorem st_otherwise (hSt : SL X W P 321 [] 3 19 11 d) : OtC X W P (d + 1) := fun μ T h s k a b hS hd hh hn hT s0 s1 nd0 => by
  have hp := px0 hS
  have h0 := hS.2.2.2.2.1
  have at0 := hS.at
  have hcs := @ic s
  have p0 : TR s.toInt 0 0 0 0 0 μ μ := TR.rf hS
  have lt0 : s.toInt < (μ.1 19).toInt := s1
  have s9 : s.toInt < 15990 := by omega
  refine me_meth (by omega) rfl (v_otherwise_0 _ ?_)
  refine MC.mono (c_is (by omega) p0.ps) (fun r420 κ421 h422 => ?_) (fun _ h => h)
  obtain ⟨rfl, rfl⟩ := h422
  refine ⟨fun _ => ?_, fun _ => ?_⟩
  · skip
    have g423 : TR s.toInt 0 0 0 0 0 κ421 (mA1 κ421 25 s.toNatClampNeg 0) := TR.put p0.ps s0 rfl rfl
    have e425 : ((mA1 κ421 25 s.toNatClampNeg 0).1 19).toInt = (κ421.1 19).toInt := rfl
    have e426 : ((mA1 κ421 25 s.toNatClampNeg 0).1 32).toInt = (κ421.1 32).toInt := rfl
    have sr428 : srt (mA1 κ421 25 s.toNatClampNeg 0) = srt κ421 := srt_off rfl
    have nd427 := nd0.pd (x := 0)
    have p429 : TR (s.toInt) (0) 0 0 0 (0) κ421 (mA1 κ421 25 s.toNatClampNeg 0) := p0.trS g423 (Or.inr (Or.inl rfl)) rfl rfl rfl rfl (by omega)
    refine ⟨TR.mi p0.ps rfl rfl s0 (by omega), ?_⟩
    generalize mA1 κ421 25 s.toNatClampNeg 0 = κ424 at *
    have lt430 : s.toInt < (κ424.1 19).toInt := by omega
    refine MC.mono (c_is (by omega) p429.ps) (fun r431 κ432 h433 => ?_) (fun _ h => h)
    obtain ⟨rfl, rfl⟩ := h433
    refine ⟨fun _ => ?_, fun hw => ?_⟩
    · skip
      refine MC.mono (t_expect (by omega) p429.ps (by decide) (fun _ h => hT _ (p429.1.1.tr h))) (fun v434 κ439 h435 => ?_) (fun _ h => h)
      obtain ⟨q436, m437, a438⟩ := h435
      have p440 : TR (s.toInt) (0) 0 0 0 (-2) κ421 κ439 := p429.trS q436 (Or.inl (by decide)) rfl rfl rfl rfl (by omega)
      have nd441 := nd427.tr q436 (by have := @ic s; omega) (by omega)
      have lt442 : s.toInt < (κ439.1 19).toInt := by omega
      exact ⟨⟨p440.1, by have := p440.2; omega⟩, -1, 0, nd441, KL.nil⟩
    · skip
      have hw3 : ¬ srt κ432 = 203 := by rw [is_t hw]; decide
      refine MC.mono (t_next (by omega) p429.ps (hw3) (fun _ h => hT _ (p429.1.1.tr h))) (fun v443 κ448 h444 => ?_) (fun _ h => h)
      obtain ⟨q445, m446, a447⟩ := h444
      have p449 : TR (s.toInt) (0) 0 0 0 (-2) κ421 κ448 := p429.trS q445 (Or.inl (by decide)) rfl rfl rfl rfl (by omega)
      have nd450 := nd427.tr q445 (by have := @ic s; omega) (by omega)
      have lt451 : s.toInt < (κ448.1 19).toInt := by omega
      have x455 := p449.px
      have u456 := p449.2
      have y457 := tT p449
      have z458 := px0 p449.ps
      refine MC.mono (hSt κ448 T h p449.ps (by omega) (by omega) (by omega) (fun _ h => hT _ (p449.1.1.tr h))) (fun r452 κ453 h454 => ?_) (fun _ h => h)
      obtain ⟨q459, g460⟩ := h454
      have l461 := q459.l19
      have l462 := q459.l32
      have p463 : TR (s.toInt) (0) 0 0 0 (-2) κ421 κ453 := p449.trS q459 (Or.inl (by decide)) rfl rfl rfl rfl (by omega)
      have nd464 := nd450.tr q459 (by have := @ic s; omega) (by omega)
      have lt465 : s.toInt < (κ453.1 19).toInt := by omega
      have k466 : KL κ453 h s.toInt s 3 r452 := KL.of g460 (by omega) (Int.le_refl _) s0 (Or.inl (by omega))
      have g467 : TR s.toInt 0 0 0 0 0 κ453 (mA1 κ453 24 s.toNatClampNeg r452) := TR.put p463.ps s0 rfl rfl
      have e469 : ((mA1 κ453 24 s.toNatClampNeg r452).1 19).toInt = (κ453.1 19).toInt := rfl
      have e470 : ((mA1 κ453 24 s.toNatClampNeg r452).1 32).toInt = (κ453.1 32).toInt := rfl
      have sr472 : srt (mA1 κ453 24 s.toNatClampNeg r452) = srt κ453 := srt_off rfl
      have nd471 := nd464.pc (x := r452)
      have p473 : TR (s.toInt) (0) 0 0 0 (-2) κ421 (mA1 κ453 24 s.toNatClampNeg r452) := p463.trS g467 (Or.inr (Or.inl rfl)) rfl rfl rfl rfl (by omega)
      have k474 := k466.tr g467 (Or.inr rfl) s0
      refine ⟨TR.mi p463.ps rfl rfl s0 (by omega), ?_⟩
      generalize mA1 κ453 24 s.toNatClampNeg r452 = κ468 at *
      have lt475 : s.toInt < (κ468.1 19).toInt := by omega
      refine MC.mono (t_expect (by omega) p473.ps (by decide) (fun _ h => hT _ (p473.1.1.tr h))) (fun v476 κ481 h477 => ?_) (fun _ h => h)
      obtain ⟨q478, m479, a480⟩ := h477
      have p482 : TR (s.toInt) (0) 0 0 0 (-4) κ421 κ481 := p473.trS q478 (Or.inl (by decide)) rfl rfl rfl rfl (by omega)
      have k483 := k474.tr q478 (Or.inl (by decide)) s0
      have nd484 := nd471.tr q478 (by have := @ic s; omega) (by omega)
      have lt485 : s.toInt < (κ481.1 19).toInt := by omega
      exact ⟨⟨p482.1, by have := p482.2; omega⟩, r452, 0, nd484, k483⟩
  · skip
    have g486 : TR s.toInt 0 0 0 0 0 κ421 (mA1 κ421 25 s.toNatClampNeg 1) := TR.put p0.ps s0 rfl rfl
    have e488 : ((mA1 κ421 25 s.toNatClampNeg 1).1 19).toInt = (κ421.1 19).toInt := rfl
    have e489 : ((mA1 κ421 25 s.toNatClampNeg 1).1 32).toInt = (κ421.1 32).toInt := rfl
    have sr491 : srt (mA1 κ421 25 s.toNatClampNeg 1) = srt κ421 := srt_off rfl
    have nd490 := nd0.pd (x := 1)
    have p492 : TR (s.toInt) (0) 0 0 0 (0) κ421 (mA1 κ421 25 s.toNatClampNeg 1) := p0.trS g486 (Or.inr (Or.inl rfl)) rfl rfl rfl rfl (by omega)
    refine ⟨TR.mi p0.ps rfl rfl s0 (by omega), ?_⟩
    generalize mA1 κ421 25 s.toNatClampNeg 1 = κ487 at *
    have lt493 : s.toInt < (κ487.1 19).toInt := by omega
    refine MC.mono (c_is (by omega) p492.ps) (fun r494 κ495 h496 => ?_) (fun _ h => h)
    obtain ⟨rfl, rfl⟩ := h496
    refine ⟨fun _ => ?_, fun hw => ?_⟩
    · skip
      refine MC.mono (t_expect (by omega) p492.ps (by decide) (fun _ h => hT _ (p492.1.1.tr h))) (fun v497 κ502 h498 => ?_) (fun _ h => h)
      obtain ⟨q499, m500, a501⟩ := h498
      have p503 : TR (s.toInt) (0) 0 0 0 (-2) κ421 κ502 := p492.trS q499 (Or.inl (by decide)) rfl rfl rfl rfl (by omega)
      have nd504 := nd490.tr q499 (by have := @ic s; omega) (by omega)
      have lt505 : s.toInt < (κ502.1 19).toInt := by omega
      exact ⟨⟨p503.1, by have := p503.2; omega⟩, -1, 1, nd504, KL.nil⟩
    · skip
      have hw3 : ¬ srt κ495 = 203 := by rw [is_t hw]; decide
      refine MC.mono (t_next (by omega) p492.ps (hw3) (fun _ h => hT _ (p492.1.1.tr h))) (fun v506 κ511 h507 => ?_) (fun _ h => h)
      obtain ⟨q508, m509, a510⟩ := h507
      have p512 : TR (s.toInt) (0) 0 0 0 (-2) κ421 κ511 := p492.trS q508 (Or.inl (by decide)) rfl rfl rfl rfl (by omega)
      have nd513 := nd490.tr q508 (by have := @ic s; omega) (by omega)
      have lt514 : s.toInt < (κ511.1 19).toInt := by omega
      have x518 := p512.px
      have u519 := p512.2
      have y520 := tT p512
      have z521 := px0 p512.ps
      refine MC.mono (hSt κ511 T h p512.ps (by omega) (by omega) (by omega) (fun _ h => hT _ (p512.1.1.tr h))) (fun r515 κ516 h517 => ?_) (fun _ h => h)
      obtain ⟨q522, g523⟩ := h517
      have l524 := q522.l19
      have l525 := q522.l32
      have p526 : TR (s.toInt) (0) 0 0 0 (-2) κ421 κ516 := p512.trS q522 (Or.inl (by decide)) rfl rfl rfl rfl (by omega)
      have nd527 := nd513.tr q522 (by have := @ic s; omega) (by omega)
      have lt528 : s.toInt < (κ516.1 19).toInt := by omega
      have k529 : KL κ516 h s.toInt s 3 r515 := KL.of g523 (by omega) (Int.le_refl _) s0 (Or.inl (by omega))
      have g530 : TR s.toInt 0 0 0 0 0 κ516 (mA1 κ516 24 s.toNatClampNeg r515) := TR.put p526.ps s0 rfl rfl
      have e532 : ((mA1 κ516 24 s.toNatClampNeg r515).1 19).toInt = (κ516.1 19).toInt := rfl
      have e533 : ((mA1 κ516 24 s.toNatClampNeg r515).1 32).toInt = (κ516.1 32).toInt := rfl
      have sr535 : srt (mA1 κ516 24 s.toNatClampNeg r515) = srt κ516 := srt_off rfl
      have nd534 := nd527.pc (x := r515)
      have p536 : TR (s.toInt) (0) 0 0 0 (-2) κ421 (mA1 κ516 24 s.toNatClampNeg r515) := p526.trS g530 (Or.inr (Or.inl rfl)) rfl rfl rfl rfl (by omega)
      have k537 := k529.tr g530 (Or.inr rfl) s0
      refine ⟨TR.mi p526.ps rfl rfl s0 (by omega), ?_⟩
      generalize mA1 κ516 24 s.toNatClampNeg r515 = κ531 at *
      have lt538 : s.toInt < (κ531.1 19).toInt := by omega
      refine MC.mono (t_expect (by omega) p536.ps (by decide) (fun _ h => hT _ (p536.1.1.tr h))) (fun v539 κ544 h540 => ?_) (fun _ h => h)
      obtain ⟨q541, m542, a543⟩ := h540
      have p545 : TR (s.toInt) (0) 0 0 0 (-4) κ421 κ544 := p536.trS q541 (Or.inl (by decide)) rfl rfl rfl rfl (by omega)
      have k546 := k537.tr q541 (Or.inl (by decide)) s0
      have nd547 := nd534.tr q541 (by have := @ic s; omega) (by omega)
      have lt548 : s.toInt < (κ544.1 19).toInt := by omega
      exact ⟨⟨p545.1, by have := p545.2; omega⟩, r515, 1, nd547, k546⟩
end PSH
