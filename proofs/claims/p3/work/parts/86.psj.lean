/-! contracts of the reference: statements -/
section PSJ
variable {X : ev_X} {W : Nat → Prop} {d : Nat} {P : MP}
theorem st_byPlace (hP : XC X W P 331 [] 2 7 2 1 1 d) (hC : CallC X W P d) (hE : XC X W P 332 [] 1 20 12 0 0 d) : FiC X W P 329 1 1 (d + 1) := fun μ T h9 s hS hd hh hn hT s0 s1 nd0 => by
  have hp := px0 hS
  have h0 := hS.2.2.2.2.1
  have at0 := hS.at
  have hcs := @ic s
  obtain ⟨h, rfl⟩ : ∃ h, h9 = h + 1 := ⟨h9 - 1, by omega⟩
  have p0 : TR s.toInt 0 0 0 0 0 μ μ := TR.rf hS
  have lt0 : s.toInt < (μ.1 19).toInt := by omega
  have s9 : s.toInt < 15990 := by omega
  have cv0 : CVs μ (s.toInt + 1) (μ.1 19).toInt [] := CVs.nil (by omega)
  refine me_meth (by omega) rfl (v_byPlace_0 _ ?_)
  have x977 := p0.px
  have u978 := p0.2
  have y979 := tT p0
  have z980 := px0 p0.ps
  refine MC.mono (hP μ T h p0.ps (by omega) (by omega) (by omega) (fun _ h => hT _ (p0.1.1.tr h))) (fun r974 κ975 h976 => ?_) (fun _ h => h)
  obtain ⟨q981, a983, g982, n984, c985⟩ := h976
  have l986 := q981.l19
  have l987 := q981.l32
  have p988 : TR (s.toInt) (0) 0 0 0 (0) μ κ975 := p0.trS q981 (Or.inl (by decide)) rfl rfl rfl rfl (by omega)
  have cv989 : CVs κ975 (s.toInt + 1) ((κ975).1 19).toInt [r974] := cv0.add q981.rb (Int.le_refl _) (Or.inl (by omega)) (by omega) l986 (LCO.of g982.in.1 c985)
  have cx990 := cv0.rb q981.rb (by omega) (Or.inl (by omega))
  have nd991 := nd0.tr q981 (by have := @ic s; omega) (by omega)
  have lt992 : s.toInt < (κ975.1 19).toInt := by omega
  have k993 : Kd κ975 h s.toInt s 2 r974 := Kd.of g982 (by omega) (Int.le_refl _) s0 (Or.inl (by omega)) n984
  have p994 : TR (s.toInt) (0) 0 0 0 (-1) μ κ975 := ⟨p988.1, by have := p988.2; have := q981.2; omega⟩
  refine MC.mono (c_is (by omega) p994.ps) (fun r995 κ996 h997 => ?_) (fun _ h => h)
  obtain ⟨rfl, rfl⟩ := h997
  refine ⟨fun _ => ?_, fun _ => ?_⟩
  · skip
    refine MC.mono (t_expect (by omega) p994.ps (by decide) (fun _ h => hT _ (p994.1.1.tr h))) (fun v998 κ1003 h999 => ?_) (fun _ h => h)
    obtain ⟨q1000, m1001, a1002⟩ := h999
    have p1004 : TR (s.toInt) (0) 0 0 0 (-3) μ κ1003 := p994.trS q1000 (Or.inl (by decide)) rfl rfl rfl rfl (by omega)
    have k1005 := k993.tr q1000 (Or.inl (by decide)) s0
    have cv1006 : CVs κ1003 (s.toInt + 1) ((κ1003).1 19).toInt [r974] := cv989.st q1000.rb (Int.le_refl _) (Or.inl (by omega)) m1001
    have nd1007 := nd991.tr q1000 (by have := @ic s; omega) (by omega)
    have lt1008 : s.toInt < (κ1003.1 19).toInt := by omega
    have g1009 : TR s.toInt 0 0 0 0 0 κ1003 (mA1 κ1003 22 s.toNatClampNeg r974) := TR.put p1004.ps s0 rfl rfl
    have e1011 : ((mA1 κ1003 22 s.toNatClampNeg r974).1 19).toInt = (κ1003.1 19).toInt := rfl
    have e1012 : ((mA1 κ1003 22 s.toNatClampNeg r974).1 32).toInt = (κ1003.1 32).toInt := rfl
    have sr1014 : srt (mA1 κ1003 22 s.toNatClampNeg r974) = srt κ1003 := srt_off rfl
    have nd1013 := nd1007.pa (x := r974)
    have p1015 : TR (s.toInt) (0) 0 0 0 (-3) μ (mA1 κ1003 22 s.toNatClampNeg r974) := p1004.trS g1009 (Or.inr (Or.inl rfl)) rfl rfl rfl rfl (by omega)
    have k1016 := k1005.tr g1009 (Or.inr rfl) s0
    have cv1017 : CVs (mA1 κ1003 22 s.toNatClampNeg r974) (s.toInt + 1) (((mA1 κ1003 22 s.toNatClampNeg r974)).1 19).toInt [r974] := cv1006.st g1009.rb (Int.le_refl _) (Or.inl (by omega)) rfl
    refine ⟨TR.mi p1004.ps rfl rfl s0 (by omega), ?_⟩
    generalize mA1 κ1003 22 s.toNatClampNeg r974 = κ1010 at *
    have lt1018 : s.toInt < (κ1010.1 19).toInt := by omega
    refine MC.mono (c_is (by omega) p1015.ps) (fun r1019 κ1020 h1021 => ?_) (fun _ h => h)
    obtain ⟨rfl, rfl⟩ := h1021
    refine ⟨fun _ => ?_, fun hw => ?_⟩
    · skip
      have g1022 : TR s.toInt 0 0 0 0 0 κ1020 (mA1 κ1020 20 s.toNatClampNeg 40) := TR.put p1015.ps s0 rfl rfl
      have e1024 : ((mA1 κ1020 20 s.toNatClampNeg 40).1 19).toInt = (κ1020.1 19).toInt := rfl
      have e1025 : ((mA1 κ1020 20 s.toNatClampNeg 40).1 32).toInt = (κ1020.1 32).toInt := rfl
      have sr1027 : srt (mA1 κ1020 20 s.toNatClampNeg 40) = srt κ1020 := srt_off rfl
      have nd1026 := nd1013.pk (x := 40)
      have p1028 : TR (s.toInt) (0) 0 0 0 (-3) μ (mA1 κ1020 20 s.toNatClampNeg 40) := p1015.trS g1022 (Or.inr (Or.inl rfl)) rfl rfl rfl rfl (by omega)
      have k1029 := k1016.tr g1022 (Or.inr rfl) s0
      have cv1030 : CVs (mA1 κ1020 20 s.toNatClampNeg 40) (s.toInt + 1) (((mA1 κ1020 20 s.toNatClampNeg 40)).1 19).toInt [r974] := cv1017.st g1022.rb (Int.le_refl _) (Or.inl (by omega)) rfl
      refine ⟨TR.mi p1015.ps rfl rfl s0 (by omega), ?_⟩
      generalize mA1 κ1020 20 s.toNatClampNeg 40 = κ1023 at *
      have lt1031 : s.toInt < (κ1023.1 19).toInt := by omega
      have x1035 := p1028.px
      have u1036 := p1028.2
      have y1037 := tT p1028
      have z1038 := px0 p1028.ps
      refine MC.mono (hE κ1023 T h p1028.ps (by omega) (by omega) (by omega) (fun _ h => hT _ (p1028.1.1.tr h))) (fun r1032 κ1033 h1034 => ?_) (fun _ h => h)
      obtain ⟨q1039, a1041, g1040, n1042, c1043⟩ := h1034
      have l1044 := q1039.l19
      have l1045 := q1039.l32
      have p1046 : TR (s.toInt) (0) 0 0 0 (-3) μ κ1033 := p1028.trS q1039 (Or.inl (by decide)) rfl rfl rfl rfl (by omega)
      have k1047 := k1029.tr q1039 (Or.inl (by decide)) s0
      have cv1048 : CVs κ1033 (s.toInt + 1) ((κ1033).1 19).toInt [r1032, r974] := cv1030.add q1039.rb (Int.le_refl _) (Or.inl (by omega)) (by omega) l1044 (LCO.of g1040.in.1 c1043)
      have cx1049 := cv1030.rb q1039.rb (by omega) (Or.inl (by omega))
      have nd1050 := nd1026.tr q1039 (by have := @ic s; omega) (by omega)
      have lt1051 : s.toInt < (κ1033.1 19).toInt := by omega
      have k1052 : Kd κ1033 h s.toInt s 1 r1032 := Kd.of g1040 (by omega) (Int.le_refl _) s0 (Or.inl (by omega)) n1042
      have g1053 : TR s.toInt 0 0 0 0 0 κ1033 (mA1 κ1033 23 s.toNatClampNeg r1032) := TR.put p1046.ps s0 rfl rfl
      have e1055 : ((mA1 κ1033 23 s.toNatClampNeg r1032).1 19).toInt = (κ1033.1 19).toInt := rfl
      have e1056 : ((mA1 κ1033 23 s.toNatClampNeg r1032).1 32).toInt = (κ1033.1 32).toInt := rfl
      have sr1058 : srt (mA1 κ1033 23 s.toNatClampNeg r1032) = srt κ1033 := srt_off rfl
      have nd1057 := nd1050.pb (x := r1032)
      have p1059 : TR (s.toInt) (0) 0 0 0 (-3) μ (mA1 κ1033 23 s.toNatClampNeg r1032) := p1046.trS g1053 (Or.inr (Or.inl rfl)) rfl rfl rfl rfl (by omega)
      have k1060 := k1047.tr g1053 (Or.inr rfl) s0
      have k1061 := k1052.tr g1053 (Or.inr rfl) s0
      have cv1062 : CVs (mA1 κ1033 23 s.toNatClampNeg r1032) (s.toInt + 1) (((mA1 κ1033 23 s.toNatClampNeg r1032)).1 19).toInt [r1032, r974] := cv1048.st g1053.rb (Int.le_refl _) (Or.inl (by omega)) rfl
      have co1063 := c1043.rb g1053.rb (by omega) (Or.inl (by omega))
      have cx1064 := cx1049.rb g1053.rb (by omega) (Or.inl (by omega))
      have lk1066 := G.lk g1040 g1053 (by omega) (Or.inl (by omega)) n1042
      have gg1065 := g1040.tr g1053 (by omega) (Or.inl (by omega))
      refine ⟨TR.mi p1046.ps rfl rfl s0 (by omega), ?_⟩
      generalize mA1 κ1033 23 s.toNatClampNeg r1032 = κ1054 at *
      have lt1067 : s.toInt < (κ1054.1 19).toInt := by omega
      refine MC.mono (c_is (by omega) p1059.ps) (fun r1068 κ1069 h1070 => ?_) (fun _ h => h)
      obtain ⟨rfl, rfl⟩ := h1070
      refine ⟨fun _ => ?_, fun _ => ?_⟩
      · skip
        exact ⟨⟨p1059.1, by have := p1059.2; omega⟩, G.mk s0 (Int.le_refl _) lt1067 nd1057 (by decide) (Kd.up k1060 (Nat.le_succ _)) (Kd.up k1061 (Nat.le_succ _)) True.intro True.intro True.intro, nd1057.2.2.2.2.2.2, (CO.fin' (by omega) cv1062 s0 ⟨fun h => Par.fb nd1057 (by decide) h, fun h => Par.fa nd1057 (by decide) h, True.intro⟩ lt1067)⟩
      · skip
        obtain ⟨i1, i2, i3⟩ := gg1065.in
        have hce := @ic r1032
        have uc := p1059.2
        have ac := p1059.ps.at
        have eb := nd1057.2.2.1
        refine ⟨TR.mi p1059.ps rfl rfl s0 (by omega), ?_⟩
        rw [eb]
        refine ⟨TR.mi p1059.ps rfl rfl i1 (by omega), fun _ => ?_, fun h70 => ⟨TR.mi p1059.ps rfl rfl s0 (by omega), TR.mi p1059.ps rfl rfl i1 (by omega), fun _ => ?_, fun _ => ?_⟩⟩
        · skip
          exact ⟨⟨p1059.1, by have := p1059.2; omega⟩, G.mk s0 (Int.le_refl _) lt1067 nd1057 (by decide) (Kd.up k1060 (Nat.le_succ _)) (Kd.up k1061 (Nat.le_succ _)) True.intro True.intro True.intro, nd1057.2.2.2.2.2.2, (CO.fin' (by omega) cv1062 s0 ⟨fun h => Par.fb nd1057 (by decide) h, fun h => Par.fa nd1057 (by decide) h, True.intro⟩ lt1067)⟩
        · skip
          exact ⟨⟨p1059.1, by have := p1059.2; omega⟩, G.mk s0 (Int.le_refl _) lt1067 nd1057 (by decide) (Kd.up k1060 (Nat.le_succ _)) (Kd.up k1061 (Nat.le_succ _)) True.intro True.intro True.intro, nd1057.2.2.2.2.2.2, (CO.fin' (by omega) cv1062 s0 ⟨fun h => Par.fb nd1057 (by decide) h, fun h => Par.fa nd1057 (by decide) h, True.intro⟩ lt1067)⟩
        · skip
          refine ⟨TR.mi p1059.ps rfl rfl s0 (by omega), ?_⟩
          have gg1071 := G.lp gg1065 h70
          have g1073 : TR s.toInt 0 0 0 0 0 κ1069 (mA1 κ1069 20 s.toNatClampNeg 42) := TR.put p1059.ps s0 rfl rfl
          have e1075 : ((mA1 κ1069 20 s.toNatClampNeg 42).1 19).toInt = (κ1069.1 19).toInt := rfl
          have e1076 : ((mA1 κ1069 20 s.toNatClampNeg 42).1 32).toInt = (κ1069.1 32).toInt := rfl
          have sr1078 : srt (mA1 κ1069 20 s.toNatClampNeg 42) = srt κ1069 := srt_off rfl
          have nd1077 := nd1057.pk (x := 42)
          have p1079 : TR (s.toInt) (0) 0 0 0 (-3) μ (mA1 κ1069 20 s.toNatClampNeg 42) := p1059.trS g1073 (Or.inr (Or.inl rfl)) rfl rfl rfl rfl (by omega)
          have k1080 := k1060.tr g1073 (Or.inr rfl) s0
          have cv1081 : CVs (mA1 κ1069 20 s.toNatClampNeg 42) (s.toInt + 1) (((mA1 κ1069 20 s.toNatClampNeg 42)).1 19).toInt [r1032, r974] := cv1062.st g1073.rb (Int.le_refl _) (Or.inl (by omega)) rfl
          have co1082 := co1063.rb g1073.rb (by omega) (Or.inl (by omega))
          have cx1083 := cx1064.rb g1073.rb (by omega) (Or.inl (by omega))
          have lk1085 := G.lk gg1071 g1073 (by omega) (Or.inl (by omega)) lk1066
          have gg1084 := gg1071.tr g1073 (by omega) (Or.inl (by omega))
          refine ⟨TR.mi p1059.ps rfl rfl s0 (by omega), ?_⟩
          generalize mA1 κ1069 20 s.toNatClampNeg 42 = κ1074 at *
          have lt1086 : s.toInt < (κ1074.1 19).toInt := by omega
          have x1095 := p1079.px
          have u1096 := p1079.2
          have y1097 := tT p1079
          have z1098 := px0 p1079.ps
          refine MC.mono (hC κ1074 T h r1032 (_) p1079.ps (by omega) (by omega) (by omega) (by omega) (by omega) (gg1084.up (Nat.le_refl _) (Int.le_refl _) (by omega)) (CO.ub co1082 (by omega)) lk1085 (fun _ h => hT _ (p1079.1.1.tr h))) (fun r1088 κ1089 h1090 => ?_) (fun _ h => h)
          obtain ⟨q1091, a1092, g1093, n1094, c1099⟩ := h1090
          have l1100 := q1091.l19
          have l1101 := q1091.l32
          have p1102 : TR (s.toInt) (0) 0 0 0 (-3) μ κ1089 := p1079.trS q1091 (Or.inl (by decide)) rfl rfl rfl rfl (by omega)
          have k1103 := k1080.tr q1091 (Or.inl (by decide)) s0
          have cx1104 := cx1083.rb q1091.rb (by omega) (Or.inl (by omega))
          have cv1105 : CVs κ1089 (s.toInt + 1) (κ1089.1 19).toInt [r1088, r974] := cx1104.add (e := -1) (n := (κ1089.1 19).toInt) RB.rf (by omega) (Or.inl (by omega)) (by omega) (by omega) (LCO.of g1093.in.1 c1099)
          have nd1106 := nd1077.tr q1091 (by have := @ic s; omega) (by omega)
          have lt1107 : s.toInt < (κ1089.1 19).toInt := by omega
          have k1108 : Kd κ1089 (h + 1) s.toInt s 17 r1088 := Kd.of g1093 (by omega) (Int.le_refl _) s0 (Or.inl (by omega)) n1094
          have g1109 : TR s.toInt 0 0 0 0 0 κ1089 (mA1 κ1089 23 s.toNatClampNeg r1088) := TR.put p1102.ps s0 rfl rfl
          have e1111 : ((mA1 κ1089 23 s.toNatClampNeg r1088).1 19).toInt = (κ1089.1 19).toInt := rfl
          have e1112 : ((mA1 κ1089 23 s.toNatClampNeg r1088).1 32).toInt = (κ1089.1 32).toInt := rfl
          have sr1114 : srt (mA1 κ1089 23 s.toNatClampNeg r1088) = srt κ1089 := srt_off rfl
          have nd1113 := nd1106.pb (x := r1088)
          have p1115 : TR (s.toInt) (0) 0 0 0 (-3) μ (mA1 κ1089 23 s.toNatClampNeg r1088) := p1102.trS g1109 (Or.inr (Or.inl rfl)) rfl rfl rfl rfl (by omega)
          have k1116 := k1103.tr g1109 (Or.inr rfl) s0
          have k1117 := k1108.tr g1109 (Or.inr rfl) s0
          have cv1118 : CVs (mA1 κ1089 23 s.toNatClampNeg r1088) (s.toInt + 1) (((mA1 κ1089 23 s.toNatClampNeg r1088)).1 19).toInt [r1088, r974] := cv1105.st g1109.rb (Int.le_refl _) (Or.inl (by omega)) rfl
          refine ⟨TR.mi p1102.ps rfl rfl s0 (by omega), ?_⟩
          generalize mA1 κ1089 23 s.toNatClampNeg r1088 = κ1110 at *
          have lt1119 : s.toInt < (κ1110.1 19).toInt := by omega
          exact ⟨⟨p1115.1, by have := p1115.2; omega⟩, G.mk s0 (Int.le_refl _) lt1119 nd1113 (by decide) (Or.inr (Kd.up k1116 (Nat.le_succ _))) (k1117) True.intro True.intro True.intro, nd1113.2.2.2.2.2.2, (CO.fin' (by omega) cv1118 s0 ⟨fun h => Par.fb nd1113 (by decide) h, fun h => Par.fa nd1113 (by decide) h, True.intro⟩ lt1119)⟩
    · skip
      have hw3 : ¬ srt κ1020 = 203 := by rw [is_t hw]; decide
      have g1120 : TR s.toInt 0 0 0 0 0 κ1020 (mA1 κ1020 20 s.toNatClampNeg 41) := TR.put p1015.ps s0 rfl rfl
      have e1122 : ((mA1 κ1020 20 s.toNatClampNeg 41).1 19).toInt = (κ1020.1 19).toInt := rfl
      have e1123 : ((mA1 κ1020 20 s.toNatClampNeg 41).1 32).toInt = (κ1020.1 32).toInt := rfl
      have sr1125 : srt (mA1 κ1020 20 s.toNatClampNeg 41) = srt κ1020 := srt_off rfl
      have nd1124 := nd1013.pk (x := 41)
      have p1126 : TR (s.toInt) (0) 0 0 0 (-3) μ (mA1 κ1020 20 s.toNatClampNeg 41) := p1015.trS g1120 (Or.inr (Or.inl rfl)) rfl rfl rfl rfl (by omega)
      have k1127 := k1016.tr g1120 (Or.inr rfl) s0
      have cv1128 : CVs (mA1 κ1020 20 s.toNatClampNeg 41) (s.toInt + 1) (((mA1 κ1020 20 s.toNatClampNeg 41)).1 19).toInt [r974] := cv1017.st g1120.rb (Int.le_refl _) (Or.inl (by omega)) rfl
      refine ⟨TR.mi p1015.ps rfl rfl s0 (by omega), ?_⟩
      generalize mA1 κ1020 20 s.toNatClampNeg 41 = κ1121 at *
      have lt1129 : s.toInt < (κ1121.1 19).toInt := by omega
      have hw4 : ¬ srt κ1121 = 203 := by rw [sr1125]; exact hw3
      refine MC.mono (t_next (by omega) p1126.ps (hw4) (fun _ h => hT _ (p1126.1.1.tr h))) (fun v1130 κ1135 h1131 => ?_) (fun _ h => h)
      obtain ⟨q1132, m1133, a1134⟩ := h1131
      have p1136 : TR (s.toInt) (0) 0 0 0 (-5) μ κ1135 := p1126.trS q1132 (Or.inl (by decide)) rfl rfl rfl rfl (by omega)
      have k1137 := k1127.tr q1132 (Or.inl (by decide)) s0
      have cv1138 : CVs κ1135 (s.toInt + 1) ((κ1135).1 19).toInt [r974] := cv1128.st q1132.rb (Int.le_refl _) (Or.inl (by omega)) m1133
      have nd1139 := nd1124.tr q1132 (by have := @ic s; omega) (by omega)
      have lt1140 : s.toInt < (κ1135.1 19).toInt := by omega
      have x1144 := p1136.px
      have u1145 := p1136.2
      have y1146 := tT p1136
      have z1147 := px0 p1136.ps
      refine MC.mono (hP κ1135 T h p1136.ps (by omega) (by omega) (by omega) (fun _ h => hT _ (p1136.1.1.tr h))) (fun r1141 κ1142 h1143 => ?_) (fun _ h => h)
      obtain ⟨q1148, a1150, g1149, n1151, c1152⟩ := h1143
      have l1153 := q1148.l19
      have l1154 := q1148.l32
      have p1155 : TR (s.toInt) (0) 0 0 0 (-5) μ κ1142 := p1136.trS q1148 (Or.inl (by decide)) rfl rfl rfl rfl (by omega)
      have k1156 := k1137.tr q1148 (Or.inl (by decide)) s0
      have cv1157 : CVs κ1142 (s.toInt + 1) ((κ1142).1 19).toInt [r1141, r974] := cv1138.add q1148.rb (Int.le_refl _) (Or.inl (by omega)) (by omega) l1153 (LCO.of g1149.in.1 c1152)
      have cx1158 := cv1138.rb q1148.rb (by omega) (Or.inl (by omega))
      have nd1159 := nd1139.tr q1148 (by have := @ic s; omega) (by omega)
      have lt1160 : s.toInt < (κ1142.1 19).toInt := by omega
      have k1161 : Kd κ1142 h s.toInt s 2 r1141 := Kd.of g1149 (by omega) (Int.le_refl _) s0 (Or.inl (by omega)) n1151
      refine MC.mono (c_is (by omega) p1155.ps) (fun r1162 κ1163 h1164 => ?_) (fun _ h => h)
      obtain ⟨rfl, rfl⟩ := h1164
      refine ⟨fun _ => ?_, fun _ => MC.mono (c_unfit (by omega) p1155.ps (fun _ h => hT _ (p1155.1.1.tr h))) (fun _ _ h => h.elim) (fun _ h => h)⟩
      have x1172 := p1155.px
      have u1173 := p1155.2
      have y1174 := tT p1155
      have z1175 := px0 p1155.ps
      refine MC.mono (hC κ1163 T h r1141 (_) p1155.ps (by omega) (by omega) (by omega) (by omega) (by omega) (g1149.up (Nat.le_refl _) (Int.le_refl _) (by omega)) (CO.ub c1152 (by omega)) n1151 (fun _ h => hT _ (p1155.1.1.tr h))) (fun r1165 κ1166 h1167 => ?_) (fun _ h => h)
      obtain ⟨q1168, a1169, g1170, n1171, c1176⟩ := h1167
      have l1177 := q1168.l19
      have l1178 := q1168.l32
      have p1179 : TR (s.toInt) (0) 0 0 0 (-5) μ κ1166 := p1155.trS q1168 (Or.inl (by decide)) rfl rfl rfl rfl (by omega)
      have k1180 := k1156.tr q1168 (Or.inl (by decide)) s0
      have cx1181 := cx1158.rb q1168.rb (by omega) (Or.inl (by omega))
      have cv1182 : CVs κ1166 (s.toInt + 1) (κ1166.1 19).toInt [r1165, r974] := cx1181.add (e := -1) (n := (κ1166.1 19).toInt) RB.rf (by omega) (Or.inl (by omega)) (by omega) (by omega) (LCO.of g1170.in.1 c1176)
      have nd1183 := nd1159.tr q1168 (by have := @ic s; omega) (by omega)
      have lt1184 : s.toInt < (κ1166.1 19).toInt := by omega
      have k1185 : Kd κ1166 (h + 1) s.toInt s 17 r1165 := Kd.of g1170 (by omega) (Int.le_refl _) s0 (Or.inl (by omega)) n1171
      have g1186 : TR s.toInt 0 0 0 0 0 κ1166 (mA1 κ1166 23 s.toNatClampNeg r1165) := TR.put p1179.ps s0 rfl rfl
      have e1188 : ((mA1 κ1166 23 s.toNatClampNeg r1165).1 19).toInt = (κ1166.1 19).toInt := rfl
      have e1189 : ((mA1 κ1166 23 s.toNatClampNeg r1165).1 32).toInt = (κ1166.1 32).toInt := rfl
      have sr1191 : srt (mA1 κ1166 23 s.toNatClampNeg r1165) = srt κ1166 := srt_off rfl
      have nd1190 := nd1183.pb (x := r1165)
      have p1192 : TR (s.toInt) (0) 0 0 0 (-5) μ (mA1 κ1166 23 s.toNatClampNeg r1165) := p1179.trS g1186 (Or.inr (Or.inl rfl)) rfl rfl rfl rfl (by omega)
      have k1193 := k1180.tr g1186 (Or.inr rfl) s0
      have k1194 := k1185.tr g1186 (Or.inr rfl) s0
      have cv1195 : CVs (mA1 κ1166 23 s.toNatClampNeg r1165) (s.toInt + 1) (((mA1 κ1166 23 s.toNatClampNeg r1165)).1 19).toInt [r1165, r974] := cv1182.st g1186.rb (Int.le_refl _) (Or.inl (by omega)) rfl
      refine ⟨TR.mi p1179.ps rfl rfl s0 (by omega), ?_⟩
      generalize mA1 κ1166 23 s.toNatClampNeg r1165 = κ1187 at *
      have lt1196 : s.toInt < (κ1187.1 19).toInt := by omega
      exact ⟨⟨p1192.1, by have := p1192.2; omega⟩, G.mk s0 (Int.le_refl _) lt1196 nd1190 (by decide) (Kd.up k1193 (Nat.le_succ _)) (k1194) True.intro True.intro True.intro, nd1190.2.2.2.2.2.2, (CO.fin' (by omega) cv1195 s0 ⟨fun h => Par.fb nd1190 (by decide) h, fun h => Par.fa nd1190 (by decide) h, True.intro⟩ lt1196)⟩
  · skip
    have g1197 : TR s.toInt 0 0 0 0 0 κ996 (mA1 κ996 20 s.toNatClampNeg 42) := TR.put p994.ps s0 rfl rfl
    have e1199 : ((mA1 κ996 20 s.toNatClampNeg 42).1 19).toInt = (κ996.1 19).toInt := rfl
    have e1200 : ((mA1 κ996 20 s.toNatClampNeg 42).1 32).toInt = (κ996.1 32).toInt := rfl
    have sr1202 : srt (mA1 κ996 20 s.toNatClampNeg 42) = srt κ996 := srt_off rfl
    have nd1201 := nd991.pk (x := 42)
    have p1203 : TR (s.toInt) (0) 0 0 0 (-1) μ (mA1 κ996 20 s.toNatClampNeg 42) := p994.trS g1197 (Or.inr (Or.inl rfl)) rfl rfl rfl rfl (by omega)
    have cv1204 : CVs (mA1 κ996 20 s.toNatClampNeg 42) (s.toInt + 1) (((mA1 κ996 20 s.toNatClampNeg 42)).1 19).toInt [r974] := cv989.st g1197.rb (Int.le_refl _) (Or.inl (by omega)) rfl
    have co1205 := c985.rb g1197.rb (by omega) (Or.inl (by omega))
    have cx1206 := cx990.rb g1197.rb (by omega) (Or.inl (by omega))
    have lk1208 := G.lk g982 g1197 (by omega) (Or.inl (by omega)) n984
    have gg1207 := g982.tr g1197 (by omega) (Or.inl (by omega))
    refine ⟨TR.mi p994.ps rfl rfl s0 (by omega), ?_⟩
    generalize mA1 κ996 20 s.toNatClampNeg 42 = κ1198 at *
    have lt1209 : s.toInt < (κ1198.1 19).toInt := by omega
    have x1217 := p1203.px
    have u1218 := p1203.2
    have y1219 := tT p1203
    have z1220 := px0 p1203.ps
    refine MC.mono (hC κ1198 T h r974 (_) p1203.ps (by omega) (by omega) (by omega) (by omega) (by omega) (gg1207.up (Nat.le_refl _) (Int.le_refl _) (by omega)) (CO.ub co1205 (by omega)) lk1208 (fun _ h => hT _ (p1203.1.1.tr h))) (fun r1210 κ1211 h1212 => ?_) (fun _ h => h)
    obtain ⟨q1213, a1214, g1215, n1216, c1221⟩ := h1212
    have l1222 := q1213.l19
    have l1223 := q1213.l32
    have p1224 : TR (s.toInt) (0) 0 0 0 (-1) μ κ1211 := p1203.trS q1213 (Or.inl (by decide)) rfl rfl rfl rfl (by omega)
    have cx1225 := cx1206.rb q1213.rb (by omega) (Or.inl (by omega))
    have cv1226 : CVs κ1211 (s.toInt + 1) (κ1211.1 19).toInt [r1210] := cx1225.add (e := -1) (n := (κ1211.1 19).toInt) RB.rf (by omega) (Or.inl (by omega)) (by omega) (by omega) (LCO.of g1215.in.1 c1221)
    have nd1227 := nd1201.tr q1213 (by have := @ic s; omega) (by omega)
    have lt1228 : s.toInt < (κ1211.1 19).toInt := by omega
    have k1229 : Kd κ1211 (h + 1) s.toInt s 17 r1210 := Kd.of g1215 (by omega) (Int.le_refl _) s0 (Or.inl (by omega)) n1216
    have g1230 : TR s.toInt 0 0 0 0 0 κ1211 (mA1 κ1211 23 s.toNatClampNeg r1210) := TR.put p1224.ps s0 rfl rfl
    have e1232 : ((mA1 κ1211 23 s.toNatClampNeg r1210).1 19).toInt = (κ1211.1 19).toInt := rfl
    have e1233 : ((mA1 κ1211 23 s.toNatClampNeg r1210).1 32).toInt = (κ1211.1 32).toInt := rfl
    have sr1235 : srt (mA1 κ1211 23 s.toNatClampNeg r1210) = srt κ1211 := srt_off rfl
    have nd1234 := nd1227.pb (x := r1210)
    have p1236 : TR (s.toInt) (0) 0 0 0 (-1) μ (mA1 κ1211 23 s.toNatClampNeg r1210) := p1224.trS g1230 (Or.inr (Or.inl rfl)) rfl rfl rfl rfl (by omega)
    have k1237 := k1229.tr g1230 (Or.inr rfl) s0
    have cv1238 : CVs (mA1 κ1211 23 s.toNatClampNeg r1210) (s.toInt + 1) (((mA1 κ1211 23 s.toNatClampNeg r1210)).1 19).toInt [r1210] := cv1226.st g1230.rb (Int.le_refl _) (Or.inl (by omega)) rfl
    refine ⟨TR.mi p1224.ps rfl rfl s0 (by omega), ?_⟩
    generalize mA1 κ1211 23 s.toNatClampNeg r1210 = κ1231 at *
    have lt1239 : s.toInt < (κ1231.1 19).toInt := by omega
    exact ⟨⟨p1236.1, by have := p1236.2; omega⟩, G.mk s0 (Int.le_refl _) lt1239 nd1234 (by decide) (Or.inl rfl) (k1237) True.intro True.intro True.intro, nd1234.2.2.2.2.2.2, (CO.fin' (by omega) cv1238 s0 ⟨fun h => Par.fb nd1234 (by decide) h, True.intro⟩ lt1239)⟩
theorem st_statement (hE : XC X W P 332 [] 1 20 12 0 0 d) (hSt : SL X W P 321 [] 3 19 11 d) (hA : ArC X W P d) (hFor : FiC X W P 324 0 0 d) (hTry : FiC X W P 325 0 0 d) (hTc : FiC X W P 327 0 0 d) (hBy : FiC X W P 329 1 1 d) : SC X W P 322 3 22 14 (d + 1) := fun μ T h9 hS hd hh hn hT hb => by
  have hp := px0 hS
  have h0 := hS.2.2.2.2.1
  have at0 := hS.at
  have hb0 := hS.2.2.2.2.2.1.1
  obtain ⟨h, rfl⟩ : ∃ h, h9 = h + 1 := ⟨h9 - 1, by omega⟩
  refine me_meth (by omega) rfl (v_statement_0 (MC.mono (t_node (by omega) hS (by omega)) (fun s ν h1 => ?_) (fun _ h => h)))
  obtain ⟨q1, ⟨q2, s0⟩, q3, q4, q5, q6⟩ := h1
  have hcs := @ic s
  have s9 : s.toInt < 15990 := by omega
  have atν := q1.ps.at
  have hs3 : ¬ srt ν = 203 := by rw [q5]; exact bgS_e hb
  have xν := q1.px
  refine ⟨MI.of (q1.ps.1.g rfl rfl : _ = 6002) atν.1 atν.2, fun _ => ?_, fun _ => MC.mono (hBy ν T h s q1.ps (by omega) (by omega) (by omega) (fun _ h => hT _ (q1.1.1.tr h)) s0 (by omega) q6) (fun r κ hk => ?_) (fun _ h => h)⟩
  · generalize ν.2.1 9 (ν.1 32).toNatClampNeg = w
    refine MC.mono (t_next (by omega) q1.ps hs3 (fun _ h => hT _ (q1.1.1.tr h))) (fun _ κ hk => ?_) (fun _ h => h)
    obtain ⟨m1, m2, m3⟩ := hk
    have p0 : TR (-1) 0 0 0 0 (-1) μ κ := q1.tr m1 (Or.inl (by decide)) rfl rfl rfl rfl (by omega)
    have nd0 := q6.tr m1 (by omega) (by omega)
    have lt0 : s.toInt < (κ.1 19).toInt := by omega
    have xκ := p0.px
    have cv0 : CVs κ (s.toInt + 1) (κ.1 19).toInt [] := CVs.nil (by omega)
    have fill : ∀ k, FiC X W P k 0 0 d → MC X W true d k [.ref P.1, .int s] P κ (fun _ κ1 => ME X W true d 322 553 [(0, .ref P.1), (1, .int s), (2, .int w)] [] P κ1 (fun r μ1 => XN 0 3 (h + 1) μ r μ1) T) T := fun k hk => MC.mono (hk κ T h s p0.ps (by omega) (by omega) (by omega) (fun _ h => hT _ (p0.1.1.tr h)) s0 (by omega) nd0) (fun r κ1 h1 => by
      obtain ⟨z1, z2, z3, z4⟩ := h1
      have l1 := z1.l32
      exact v_statement_553 _ _ ⟨p0.tr z1 (Or.inr (by omega)) rfl rfl rfl rfl (by omega), by omega, z2.up (Nat.le_refl _) (by omega) (Int.le_refl _), z3, by rw [← q2]; exact z4⟩) (fun _ h => h)
    refine ⟨fun _ => ?_, fun _ => fill 324 hFor, fun _ => ?_, fun _ => ?_, fun _ => ?_, fun _ => ?_, fun _ => ?_, fun _ => fill 325 hTry, fun _ => fill 327 hTc, fun _ => ?_, fun _ => ?_, fun _ => ⟨fun _ => ⟨fun _ => ⟨fun _ => ?_, fun _ => ?_⟩, fun _ => ?_⟩, fun _ => ?_⟩⟩
    · skip
      exact v_statement_553 _ _ ⟨⟨p0.1, by have := p0.2; omega⟩, by omega, (G.mk (lo := s.toInt) s0 (Int.le_refl _) lt0 nd0 (by decide) True.intro True.intro True.intro True.intro True.intro : G κ (h + 1) (bt s.toInt (κ.1 19).toInt) 3 s).up (Nat.le_refl _) (by omega) (Int.le_refl _), nd0.2.2.2.2.2.2, (CO.fin' (by omega) cv0 s0 True.intro lt0)⟩
    · skip
      have g1240 : TR s.toInt 0 0 0 0 0 κ (mA1 κ 20 s.toNatClampNeg 44) := TR.put p0.ps s0 rfl rfl
      have e1242 : ((mA1 κ 20 s.toNatClampNeg 44).1 19).toInt = (κ.1 19).toInt := rfl
      have e1243 : ((mA1 κ 20 s.toNatClampNeg 44).1 32).toInt = (κ.1 32).toInt := rfl
      have sr1245 : srt (mA1 κ 20 s.toNatClampNeg 44) = srt κ := srt_off rfl
      have nd1244 := nd0.pk (x := 44)
      have p1246 : TR (-1) (0) 0 0 0 (-1) μ (mA1 κ 20 s.toNatClampNeg 44) := p0.trS g1240 (Or.inr (Or.inr (by omega))) rfl rfl rfl rfl (by omega)
      have cv1247 : CVs (mA1 κ 20 s.toNatClampNeg 44) (s.toInt + 1) (((mA1 κ 20 s.toNatClampNeg 44)).1 19).toInt [] := cv0.st g1240.rb (Int.le_refl _) (Or.inl (by omega)) rfl
      refine ⟨TR.mi p0.ps rfl rfl s0 (by omega), ?_⟩
      generalize mA1 κ 20 s.toNatClampNeg 44 = κ1241 at *
      have lt1248 : s.toInt < (κ1241.1 19).toInt := by omega
      have x1249 := p1246.px
      have u1250 := p1246.2
      have y1251 := tT p1246
      have z1252 := px0 p1246.ps
      refine MC.mono (hA κ1241 T h p1246.ps (by omega) (by omega) (by omega) (fun _ h => hT _ (p1246.1.1.tr h))) (fun r4 κ4 h4 => ?_) (fun _ h => h)
      obtain ⟨qA, neA, gA, cA⟩ := h4
      have lA := qA.l19
      have lA2 := qA.l32
      have p1253 : TR (-1) (0) 0 0 0 (-1) μ κ4 := p1246.trS qA (Or.inl (by decide)) rfl rfl rfl rfl (by omega)
      have cv1254 : CVs κ4 (s.toInt + 1) ((κ4).1 19).toInt [r4] := cv1247.add qA.rb (Int.le_refl _) (Or.inl (by omega)) (by omega) lA cA
      have nd1255 := nd1244.tr qA (by have := @ic s; omega) (by omega)
      have lt1256 : s.toInt < (κ4.1 19).toInt := by omega
      have kA : KL κ4 h s.toInt s 13 r4 := KL.of gA (by omega) (Int.le_refl _) s0 (Or.inl (by omega))
      have g1257 : TR s.toInt 0 0 0 0 0 κ4 (mA1 κ4 22 s.toNatClampNeg r4) := TR.put p1253.ps s0 rfl rfl
      have e1259 : ((mA1 κ4 22 s.toNatClampNeg r4).1 19).toInt = (κ4.1 19).toInt := rfl
      have e1260 : ((mA1 κ4 22 s.toNatClampNeg r4).1 32).toInt = (κ4.1 32).toInt := rfl
      have sr1262 : srt (mA1 κ4 22 s.toNatClampNeg r4) = srt κ4 := srt_off rfl
      have nd1261 := nd1255.pa (x := r4)
      have p1263 : TR (-1) (0) 0 0 0 (-1) μ (mA1 κ4 22 s.toNatClampNeg r4) := p1253.trS g1257 (Or.inr (Or.inr (by omega))) rfl rfl rfl rfl (by omega)
      have k1264 := kA.tr g1257 (Or.inr rfl) s0
      have cv1265 : CVs (mA1 κ4 22 s.toNatClampNeg r4) (s.toInt + 1) (((mA1 κ4 22 s.toNatClampNeg r4)).1 19).toInt [r4] := cv1254.st g1257.rb (Int.le_refl _) (Or.inl (by omega)) rfl
      refine ⟨TR.mi p1253.ps rfl rfl s0 (by omega), ?_⟩
      generalize mA1 κ4 22 s.toNatClampNeg r4 = κ1258 at *
      have lt1266 : s.toInt < (κ1258.1 19).toInt := by omega
      exact v_statement_553 _ _ ⟨⟨p1263.1, by have := p1263.2; omega⟩, by omega, (G.mk (lo := s.toInt) s0 (Int.le_refl _) lt1266 nd1261 (by decide) (⟨neA, k1264⟩) True.intro True.intro True.intro True.intro : G κ1258 (h + 1) (bt s.toInt (κ1258.1 19).toInt) 3 s).up (Nat.le_refl _) (by omega) (Int.le_refl _), nd1261.2.2.2.2.2.2, (CO.fin' (by omega) cv1265 s0 ⟨fun h => Par.fa nd1261 (by decide) h, True.intro⟩ lt1266)⟩
    · skip
      have g1267 : TR s.toInt 0 0 0 0 0 κ (mA1 κ 20 s.toNatClampNeg 54) := TR.put p0.ps s0 rfl rfl
      have e1269 : ((mA1 κ 20 s.toNatClampNeg 54).1 19).toInt = (κ.1 19).toInt := rfl
      have e1270 : ((mA1 κ 20 s.toNatClampNeg 54).1 32).toInt = (κ.1 32).toInt := rfl
      have sr1272 : srt (mA1 κ 20 s.toNatClampNeg 54) = srt κ := srt_off rfl
      have nd1271 := nd0.pk (x := 54)
      have p1273 : TR (-1) (0) 0 0 0 (-1) μ (mA1 κ 20 s.toNatClampNeg 54) := p0.trS g1267 (Or.inr (Or.inr (by omega))) rfl rfl rfl rfl (by omega)
      have cv1274 : CVs (mA1 κ 20 s.toNatClampNeg 54) (s.toInt + 1) (((mA1 κ 20 s.toNatClampNeg 54)).1 19).toInt [] := cv0.st g1267.rb (Int.le_refl _) (Or.inl (by omega)) rfl
      refine ⟨TR.mi p0.ps rfl rfl s0 (by omega), ?_⟩
      generalize mA1 κ 20 s.toNatClampNeg 54 = κ1268 at *
      have lt1275 : s.toInt < (κ1268.1 19).toInt := by omega
      have x1279 := p1273.px
      have u1280 := p1273.2
      have y1281 := tT p1273
      have z1282 := px0 p1273.ps
      refine MC.mono (hE κ1268 T h p1273.ps (by omega) (by omega) (by omega) (fun _ h => hT _ (p1273.1.1.tr h))) (fun r1276 κ1277 h1278 => ?_) (fun _ h => h)
      obtain ⟨q1283, a1285, g1284, n1286, c1287⟩ := h1278
      have l1288 := q1283.l19
      have l1289 := q1283.l32
      have p1290 : TR (-1) (0) 0 0 0 (-1) μ κ1277 := p1273.trS q1283 (Or.inl (by decide)) rfl rfl rfl rfl (by omega)
      have cv1291 : CVs κ1277 (s.toInt + 1) ((κ1277).1 19).toInt [r1276] := cv1274.add q1283.rb (Int.le_refl _) (Or.inl (by omega)) (by omega) l1288 (LCO.of g1284.in.1 c1287)
      have nd1292 := nd1271.tr q1283 (by have := @ic s; omega) (by omega)
      have lt1293 : s.toInt < (κ1277.1 19).toInt := by omega
      have k1294 : Kd κ1277 h s.toInt s 1 r1276 := Kd.of g1284 (by omega) (Int.le_refl _) s0 (Or.inl (by omega)) n1286
      have g1295 : TR s.toInt 0 0 0 0 0 κ1277 (mA1 κ1277 22 s.toNatClampNeg r1276) := TR.put p1290.ps s0 rfl rfl
      have e1297 : ((mA1 κ1277 22 s.toNatClampNeg r1276).1 19).toInt = (κ1277.1 19).toInt := rfl
      have e1298 : ((mA1 κ1277 22 s.toNatClampNeg r1276).1 32).toInt = (κ1277.1 32).toInt := rfl
      have sr1300 : srt (mA1 κ1277 22 s.toNatClampNeg r1276) = srt κ1277 := srt_off rfl
      have nd1299 := nd1292.pa (x := r1276)
      have p1301 : TR (-1) (0) 0 0 0 (-1) μ (mA1 κ1277 22 s.toNatClampNeg r1276) := p1290.trS g1295 (Or.inr (Or.inr (by omega))) rfl rfl rfl rfl (by omega)
      have k1302 := k1294.tr g1295 (Or.inr rfl) s0
      have cv1303 : CVs (mA1 κ1277 22 s.toNatClampNeg r1276) (s.toInt + 1) (((mA1 κ1277 22 s.toNatClampNeg r1276)).1 19).toInt [r1276] := cv1291.st g1295.rb (Int.le_refl _) (Or.inl (by omega)) rfl
      refine ⟨TR.mi p1290.ps rfl rfl s0 (by omega), ?_⟩
      generalize mA1 κ1277 22 s.toNatClampNeg r1276 = κ1296 at *
      have lt1304 : s.toInt < (κ1296.1 19).toInt := by omega
      refine MC.mono (t_expect (by omega) p1301.ps (by decide) (fun _ h => hT _ (p1301.1.1.tr h))) (fun v1305 κ1310 h1306 => ?_) (fun _ h => h)
      obtain ⟨q1307, m1308, a1309⟩ := h1306
      have p1311 : TR (-1) (0) 0 0 0 (-3) μ κ1310 := p1301.trS q1307 (Or.inl (by decide)) rfl rfl rfl rfl (by omega)
      have k1312 := k1302.tr q1307 (Or.inl (by decide)) s0
      have cv1313 : CVs κ1310 (s.toInt + 1) ((κ1310).1 19).toInt [r1276] := cv1303.st q1307.rb (Int.le_refl _) (Or.inl (by omega)) m1308
      have nd1314 := nd1299.tr q1307 (by have := @ic s; omega) (by omega)
      have lt1315 : s.toInt < (κ1310.1 19).toInt := by omega
      have x1319 := p1311.px
      have u1320 := p1311.2
      have y1321 := tT p1311
      have z1322 := px0 p1311.ps
      refine MC.mono (hSt κ1310 T h p1311.ps (by omega) (by omega) (by omega) (fun _ h => hT _ (p1311.1.1.tr h))) (fun r1316 κ1317 h1318 => ?_) (fun _ h => h)
      obtain ⟨q1323, g1324, c1325⟩ := h1318
      have l1326 := q1323.l19
      have l1327 := q1323.l32
      have p1328 : TR (-1) (0) 0 0 0 (-3) μ κ1317 := p1311.trS q1323 (Or.inl (by decide)) rfl rfl rfl rfl (by omega)
      have k1329 := k1312.tr q1323 (Or.inl (by decide)) s0
      have cv1330 : CVs κ1317 (s.toInt + 1) ((κ1317).1 19).toInt [r1316, r1276] := cv1313.add q1323.rb (Int.le_refl _) (Or.inl (by omega)) (by omega) l1326 (c1325)
      have nd1331 := nd1314.tr q1323 (by have := @ic s; omega) (by omega)
      have lt1332 : s.toInt < (κ1317.1 19).toInt := by omega
      have k1333 : KL κ1317 h s.toInt s 3 r1316 := KL.of g1324 (by omega) (Int.le_refl _) s0 (Or.inl (by omega))
      have g1334 : TR s.toInt 0 0 0 0 0 κ1317 (mA1 κ1317 23 s.toNatClampNeg r1316) := TR.put p1328.ps s0 rfl rfl
      have e1336 : ((mA1 κ1317 23 s.toNatClampNeg r1316).1 19).toInt = (κ1317.1 19).toInt := rfl
      have e1337 : ((mA1 κ1317 23 s.toNatClampNeg r1316).1 32).toInt = (κ1317.1 32).toInt := rfl
      have sr1339 : srt (mA1 κ1317 23 s.toNatClampNeg r1316) = srt κ1317 := srt_off rfl
      have nd1338 := nd1331.pb (x := r1316)
      have p1340 : TR (-1) (0) 0 0 0 (-3) μ (mA1 κ1317 23 s.toNatClampNeg r1316) := p1328.trS g1334 (Or.inr (Or.inr (by omega))) rfl rfl rfl rfl (by omega)
      have k1341 := k1329.tr g1334 (Or.inr rfl) s0
      have k1342 := k1333.tr g1334 (Or.inr rfl) s0
      have cv1343 : CVs (mA1 κ1317 23 s.toNatClampNeg r1316) (s.toInt + 1) (((mA1 κ1317 23 s.toNatClampNeg r1316)).1 19).toInt [r1316, r1276] := cv1330.st g1334.rb (Int.le_refl _) (Or.inl (by omega)) rfl
      refine ⟨TR.mi p1328.ps rfl rfl s0 (by omega), ?_⟩
      generalize mA1 κ1317 23 s.toNatClampNeg r1316 = κ1335 at *
      have lt1344 : s.toInt < (κ1335.1 19).toInt := by omega
      refine MC.mono (t_expect (by omega) p1340.ps (by decide) (fun _ h => hT _ (p1340.1.1.tr h))) (fun v1345 κ1350 h1346 => ?_) (fun _ h => h)
      obtain ⟨q1347, m1348, a1349⟩ := h1346
      have p1351 : TR (-1) (0) 0 0 0 (-5) μ κ1350 := p1340.trS q1347 (Or.inl (by decide)) rfl rfl rfl rfl (by omega)
      have k1352 := k1341.tr q1347 (Or.inl (by decide)) s0
      have k1353 := k1342.tr q1347 (Or.inl (by decide)) s0
      have cv1354 : CVs κ1350 (s.toInt + 1) ((κ1350).1 19).toInt [r1316, r1276] := cv1343.st q1347.rb (Int.le_refl _) (Or.inl (by omega)) m1348
      have nd1355 := nd1338.tr q1347 (by have := @ic s; omega) (by omega)
      have lt1356 : s.toInt < (κ1350.1 19).toInt := by omega
      exact v_statement_553 _ _ ⟨⟨p1351.1, by have := p1351.2; omega⟩, by omega, (G.mk (lo := s.toInt) s0 (Int.le_refl _) lt1356 nd1355 (by decide) (k1352) (k1353) True.intro True.intro True.intro : G κ1350 (h + 1) (bt s.toInt (κ1350.1 19).toInt) 3 s).up (Nat.le_refl _) (by omega) (Int.le_refl _), nd1355.2.2.2.2.2.2, (CO.fin' (by omega) cv1354 s0 ⟨fun h => Par.fb nd1355 (by decide) h, fun h => Par.fa nd1355 (by decide) h, True.intro⟩ lt1356)⟩
    · skip
      have g1357 : TR s.toInt 0 0 0 0 0 κ (mA1 κ 20 s.toNatClampNeg 47) := TR.put p0.ps s0 rfl rfl
      have e1359 : ((mA1 κ 20 s.toNatClampNeg 47).1 19).toInt = (κ.1 19).toInt := rfl
      have e1360 : ((mA1 κ 20 s.toNatClampNeg 47).1 32).toInt = (κ.1 32).toInt := rfl
      have sr1362 : srt (mA1 κ 20 s.toNatClampNeg 47) = srt κ := srt_off rfl
      have nd1361 := nd0.pk (x := 47)
      have p1363 : TR (-1) (0) 0 0 0 (-1) μ (mA1 κ 20 s.toNatClampNeg 47) := p0.trS g1357 (Or.inr (Or.inr (by omega))) rfl rfl rfl rfl (by omega)
      have cv1364 : CVs (mA1 κ 20 s.toNatClampNeg 47) (s.toInt + 1) (((mA1 κ 20 s.toNatClampNeg 47)).1 19).toInt [] := cv0.st g1357.rb (Int.le_refl _) (Or.inl (by omega)) rfl
      refine ⟨TR.mi p0.ps rfl rfl s0 (by omega), ?_⟩
      generalize mA1 κ 20 s.toNatClampNeg 47 = κ1358 at *
      have lt1365 : s.toInt < (κ1358.1 19).toInt := by omega
      have x1369 := p1363.px
      have u1370 := p1363.2
      have y1371 := tT p1363
      have z1372 := px0 p1363.ps
      refine MC.mono (hSt κ1358 T h p1363.ps (by omega) (by omega) (by omega) (fun _ h => hT _ (p1363.1.1.tr h))) (fun r1366 κ1367 h1368 => ?_) (fun _ h => h)
      obtain ⟨q1373, g1374, c1375⟩ := h1368
      have l1376 := q1373.l19
      have l1377 := q1373.l32
      have p1378 : TR (-1) (0) 0 0 0 (-1) μ κ1367 := p1363.trS q1373 (Or.inl (by decide)) rfl rfl rfl rfl (by omega)
      have cv1379 : CVs κ1367 (s.toInt + 1) ((κ1367).1 19).toInt [r1366] := cv1364.add q1373.rb (Int.le_refl _) (Or.inl (by omega)) (by omega) l1376 (c1375)
      have nd1380 := nd1361.tr q1373 (by have := @ic s; omega) (by omega)
      have lt1381 : s.toInt < (κ1367.1 19).toInt := by omega
      have k1382 : KL κ1367 h s.toInt s 3 r1366 := KL.of g1374 (by omega) (Int.le_refl _) s0 (Or.inl (by omega))
      have g1383 : TR s.toInt 0 0 0 0 0 κ1367 (mA1 κ1367 23 s.toNatClampNeg r1366) := TR.put p1378.ps s0 rfl rfl
      have e1385 : ((mA1 κ1367 23 s.toNatClampNeg r1366).1 19).toInt = (κ1367.1 19).toInt := rfl
      have e1386 : ((mA1 κ1367 23 s.toNatClampNeg r1366).1 32).toInt = (κ1367.1 32).toInt := rfl
      have sr1388 : srt (mA1 κ1367 23 s.toNatClampNeg r1366) = srt κ1367 := srt_off rfl
      have nd1387 := nd1380.pb (x := r1366)
      have p1389 : TR (-1) (0) 0 0 0 (-1) μ (mA1 κ1367 23 s.toNatClampNeg r1366) := p1378.trS g1383 (Or.inr (Or.inr (by omega))) rfl rfl rfl rfl (by omega)
      have k1390 := k1382.tr g1383 (Or.inr rfl) s0
      have cv1391 : CVs (mA1 κ1367 23 s.toNatClampNeg r1366) (s.toInt + 1) (((mA1 κ1367 23 s.toNatClampNeg r1366)).1 19).toInt [r1366] := cv1379.st g1383.rb (Int.le_refl _) (Or.inl (by omega)) rfl
      refine ⟨TR.mi p1378.ps rfl rfl s0 (by omega), ?_⟩
      generalize mA1 κ1367 23 s.toNatClampNeg r1366 = κ1384 at *
      have lt1392 : s.toInt < (κ1384.1 19).toInt := by omega
      refine MC.mono (t_expect (by omega) p1389.ps (by decide) (fun _ h => hT _ (p1389.1.1.tr h))) (fun v1393 κ1398 h1394 => ?_) (fun _ h => h)
      obtain ⟨q1395, m1396, a1397⟩ := h1394
      have p1399 : TR (-1) (0) 0 0 0 (-3) μ κ1398 := p1389.trS q1395 (Or.inl (by decide)) rfl rfl rfl rfl (by omega)
      have k1400 := k1390.tr q1395 (Or.inl (by decide)) s0
      have cv1401 : CVs κ1398 (s.toInt + 1) ((κ1398).1 19).toInt [r1366] := cv1391.st q1395.rb (Int.le_refl _) (Or.inl (by omega)) m1396
      have nd1402 := nd1387.tr q1395 (by have := @ic s; omega) (by omega)
      have lt1403 : s.toInt < (κ1398.1 19).toInt := by omega
      exact v_statement_553 _ _ ⟨⟨p1399.1, by have := p1399.2; omega⟩, by omega, (G.mk (lo := s.toInt) s0 (Int.le_refl _) lt1403 nd1402 (by decide) True.intro (k1400) True.intro True.intro True.intro : G κ1398 (h + 1) (bt s.toInt (κ1398.1 19).toInt) 3 s).up (Nat.le_refl _) (by omega) (Int.le_refl _), nd1402.2.2.2.2.2.2, (CO.fin' (by omega) cv1401 s0 ⟨fun h => Par.fb nd1402 (by decide) h, True.intro⟩ lt1403)⟩
    · skip
      have g1404 : TR s.toInt 0 0 0 0 0 κ (mA1 κ 20 s.toNatClampNeg 50) := TR.put p0.ps s0 rfl rfl
      have e1406 : ((mA1 κ 20 s.toNatClampNeg 50).1 19).toInt = (κ.1 19).toInt := rfl
      have e1407 : ((mA1 κ 20 s.toNatClampNeg 50).1 32).toInt = (κ.1 32).toInt := rfl
      have sr1409 : srt (mA1 κ 20 s.toNatClampNeg 50) = srt κ := srt_off rfl
      have nd1408 := nd0.pk (x := 50)
      have p1410 : TR (-1) (0) 0 0 0 (-1) μ (mA1 κ 20 s.toNatClampNeg 50) := p0.trS g1404 (Or.inr (Or.inr (by omega))) rfl rfl rfl rfl (by omega)
      have cv1411 : CVs (mA1 κ 20 s.toNatClampNeg 50) (s.toInt + 1) (((mA1 κ 20 s.toNatClampNeg 50)).1 19).toInt [] := cv0.st g1404.rb (Int.le_refl _) (Or.inl (by omega)) rfl
      refine ⟨TR.mi p0.ps rfl rfl s0 (by omega), ?_⟩
      generalize mA1 κ 20 s.toNatClampNeg 50 = κ1405 at *
      have lt1412 : s.toInt < (κ1405.1 19).toInt := by omega
      have x1416 := p1410.px
      have u1417 := p1410.2
      have y1418 := tT p1410
      have z1419 := px0 p1410.ps
      refine MC.mono (c_qname (by omega) p1410.ps (by omega) (fun _ h => hT _ (p1410.1.1.tr h))) (fun r1413 κ1414 h1415 => ?_) (fun _ h => h)
      obtain ⟨⟨z1422, z1423, z1424, z1425, z1426⟩, z1427, z1428⟩ := h1415
      have q1420 : TR (-1) 0 0 0 0 0 κ1405 κ1414 := ⟨z1422, by omega⟩
      have g1421 := z1425.up (h' := h) (by omega) (Int.le_refl _) (Int.le_refl _)
      have l1429 := q1420.l19
      have l1430 := q1420.l32
      have p1431 : TR (-1) (0) 0 0 0 (-1) μ κ1414 := p1410.trS q1420 (Or.inl (by decide)) rfl rfl rfl rfl (by omega)
      have cv1432 : CVs κ1414 (s.toInt + 1) ((κ1414).1 19).toInt [] := cv1411.ns q1420.rb (Int.le_refl _) (Or.inl (by omega)) l1429 z1428
      have nd1433 := nd1408.tr q1420 (by have := @ic s; omega) (by omega)
      have lt1434 : s.toInt < (κ1414.1 19).toInt := by omega
      have k1435 : Kd κ1414 h s.toInt s 7 r1413 := Kd.of g1421 (by omega) (Int.le_refl _) s0 (Or.inl (by omega)) z1426
      have g1436 : TR s.toInt 0 0 0 0 0 κ1414 (mA1 κ1414 22 s.toNatClampNeg r1413) := TR.put p1431.ps s0 rfl rfl
      have e1438 : ((mA1 κ1414 22 s.toNatClampNeg r1413).1 19).toInt = (κ1414.1 19).toInt := rfl
      have e1439 : ((mA1 κ1414 22 s.toNatClampNeg r1413).1 32).toInt = (κ1414.1 32).toInt := rfl
      have sr1441 : srt (mA1 κ1414 22 s.toNatClampNeg r1413) = srt κ1414 := srt_off rfl
      have nd1440 := nd1433.pa (x := r1413)
      have p1442 : TR (-1) (0) 0 0 0 (-1) μ (mA1 κ1414 22 s.toNatClampNeg r1413) := p1431.trS g1436 (Or.inr (Or.inr (by omega))) rfl rfl rfl rfl (by omega)
      have k1443 := k1435.tr g1436 (Or.inr rfl) s0
      have cv1444 : CVs (mA1 κ1414 22 s.toNatClampNeg r1413) (s.toInt + 1) (((mA1 κ1414 22 s.toNatClampNeg r1413)).1 19).toInt [] := cv1432.st g1436.rb (Int.le_refl _) (Or.inl (by omega)) rfl
      refine ⟨TR.mi p1431.ps rfl rfl s0 (by omega), ?_⟩
      generalize mA1 κ1414 22 s.toNatClampNeg r1413 = κ1437 at *
      have lt1445 : s.toInt < (κ1437.1 19).toInt := by omega
      refine MC.mono (t_open (by omega) p1442.ps (by decide) (fun _ h => hT _ (p1442.1.1.tr h))) (fun v1446 κ1451 h1447 => ?_) (fun _ h => h)
      obtain ⟨q1448, m1449, a1450⟩ := h1447
      have p1452 : TR (-1) (1) 0 0 0 (-3) μ κ1451 := p1442.trS q1448 (Or.inl (by decide)) rfl rfl rfl rfl (by omega)
      have k1453 := k1443.tr q1448 (Or.inl (by decide)) s0
      have cv1454 : CVs κ1451 (s.toInt + 1) ((κ1451).1 19).toInt [] := cv1444.st q1448.rb (Int.le_refl _) (Or.inl (by omega)) m1449
      have nd1455 := nd1440.tr q1448 (by have := @ic s; omega) (by omega)
      have lt1456 : s.toInt < (κ1451.1 19).toInt := by omega
      have x1460 := p1452.px
      have u1461 := p1452.2
      have y1462 := tT p1452
      have z1463 := px0 p1452.ps
      refine MC.mono (hE κ1451 T h p1452.ps (by omega) (by omega) (by omega) (fun _ h => hT _ (p1452.1.1.tr h))) (fun r1457 κ1458 h1459 => ?_) (fun _ h => h)
      obtain ⟨q1464, a1466, g1465, n1467, c1468⟩ := h1459
      have l1469 := q1464.l19
      have l1470 := q1464.l32
      have p1471 : TR (-1) (1) 0 0 0 (-3) μ κ1458 := p1452.trS q1464 (Or.inl (by decide)) rfl rfl rfl rfl (by omega)
      have k1472 := k1453.tr q1464 (Or.inl (by decide)) s0
      have cv1473 : CVs κ1458 (s.toInt + 1) ((κ1458).1 19).toInt [r1457] := cv1454.add q1464.rb (Int.le_refl _) (Or.inl (by omega)) (by omega) l1469 (LCO.of g1465.in.1 c1468)
      have nd1474 := nd1455.tr q1464 (by have := @ic s; omega) (by omega)
      have lt1475 : s.toInt < (κ1458.1 19).toInt := by omega
      have k1476 : Kd κ1458 h s.toInt s 1 r1457 := Kd.of g1465 (by omega) (Int.le_refl _) s0 (Or.inl (by omega)) n1467
      have g1477 : TR s.toInt 0 0 0 0 0 κ1458 (mA1 κ1458 23 s.toNatClampNeg r1457) := TR.put p1471.ps s0 rfl rfl
      have e1479 : ((mA1 κ1458 23 s.toNatClampNeg r1457).1 19).toInt = (κ1458.1 19).toInt := rfl
      have e1480 : ((mA1 κ1458 23 s.toNatClampNeg r1457).1 32).toInt = (κ1458.1 32).toInt := rfl
      have sr1482 : srt (mA1 κ1458 23 s.toNatClampNeg r1457) = srt κ1458 := srt_off rfl
      have nd1481 := nd1474.pb (x := r1457)
      have p1483 : TR (-1) (1) 0 0 0 (-3) μ (mA1 κ1458 23 s.toNatClampNeg r1457) := p1471.trS g1477 (Or.inr (Or.inr (by omega))) rfl rfl rfl rfl (by omega)
      have k1484 := k1472.tr g1477 (Or.inr rfl) s0
      have k1485 := k1476.tr g1477 (Or.inr rfl) s0
      have cv1486 : CVs (mA1 κ1458 23 s.toNatClampNeg r1457) (s.toInt + 1) (((mA1 κ1458 23 s.toNatClampNeg r1457)).1 19).toInt [r1457] := cv1473.st g1477.rb (Int.le_refl _) (Or.inl (by omega)) rfl
      refine ⟨TR.mi p1471.ps rfl rfl s0 (by omega), ?_⟩
      generalize mA1 κ1458 23 s.toNatClampNeg r1457 = κ1478 at *
      have lt1487 : s.toInt < (κ1478.1 19).toInt := by omega
      have hb1488 := p1483.b37
      refine MC.mono (t_close (by omega) p1483.ps (by decide) (by omega) (fun _ h => hT _ (p1483.1.1.tr h))) (fun v1489 κ1494 h1490 => ?_) (fun _ h => h)
      obtain ⟨q1491, m1492, a1493⟩ := h1490
      have p1495 : TR (-1) (0) 0 0 0 (-5) μ κ1494 := p1483.trS q1491 (Or.inl (by decide)) rfl rfl rfl rfl (by omega)
      have k1496 := k1484.tr q1491 (Or.inl (by decide)) s0
      have k1497 := k1485.tr q1491 (Or.inl (by decide)) s0
      have cv1498 : CVs κ1494 (s.toInt + 1) ((κ1494).1 19).toInt [r1457] := cv1486.st q1491.rb (Int.le_refl _) (Or.inl (by omega)) m1492
      have nd1499 := nd1481.tr q1491 (by have := @ic s; omega) (by omega)
      have lt1500 : s.toInt < (κ1494.1 19).toInt := by omega
      exact v_statement_553 _ _ ⟨⟨p1495.1, by have := p1495.2; omega⟩, by omega, (G.mk (lo := s.toInt) s0 (Int.le_refl _) lt1500 nd1499 (by decide) (k1496) (k1497) True.intro True.intro True.intro : G κ1494 (h + 1) (bt s.toInt (κ1494.1 19).toInt) 3 s).up (Nat.le_refl _) (by omega) (Int.le_refl _), nd1499.2.2.2.2.2.2, (CO.fin' (by omega) cv1498 s0 ⟨fun h => Par.fb nd1499 (by decide) h, True.intro⟩ lt1500)⟩
    · skip
      have g1501 : TR s.toInt 0 0 0 0 0 κ (mA1 κ 20 s.toNatClampNeg 49) := TR.put p0.ps s0 rfl rfl
      have e1503 : ((mA1 κ 20 s.toNatClampNeg 49).1 19).toInt = (κ.1 19).toInt := rfl
      have e1504 : ((mA1 κ 20 s.toNatClampNeg 49).1 32).toInt = (κ.1 32).toInt := rfl
      have sr1506 : srt (mA1 κ 20 s.toNatClampNeg 49) = srt κ := srt_off rfl
      have nd1505 := nd0.pk (x := 49)
      have p1507 : TR (-1) (0) 0 0 0 (-1) μ (mA1 κ 20 s.toNatClampNeg 49) := p0.trS g1501 (Or.inr (Or.inr (by omega))) rfl rfl rfl rfl (by omega)
      have cv1508 : CVs (mA1 κ 20 s.toNatClampNeg 49) (s.toInt + 1) (((mA1 κ 20 s.toNatClampNeg 49)).1 19).toInt [] := cv0.st g1501.rb (Int.le_refl _) (Or.inl (by omega)) rfl
      refine ⟨TR.mi p0.ps rfl rfl s0 (by omega), ?_⟩
      generalize mA1 κ 20 s.toNatClampNeg 49 = κ1502 at *
      have lt1509 : s.toInt < (κ1502.1 19).toInt := by omega
      refine MC.mono (c_is (by omega) p1507.ps) (fun r1510 κ1511 h1512 => ?_) (fun _ h => h)
      obtain ⟨rfl, rfl⟩ := h1512
      refine ⟨fun _ => ?_, fun _ => ?_⟩
      · skip
        exact v_statement_553 _ _ ⟨⟨p1507.1, by have := p1507.2; omega⟩, by omega, (G.mk (lo := s.toInt) s0 (Int.le_refl _) lt1509 nd1505 (by decide) (Or.inl rfl) True.intro True.intro True.intro True.intro : G κ1511 (h + 1) (bt s.toInt (κ1511.1 19).toInt) 3 s).up (Nat.le_refl _) (by omega) (Int.le_refl _), nd1505.2.2.2.2.2.2, (CO.fin' (by omega) cv1508 s0 True.intro lt1509)⟩
      · skip
        have x1516 := p1507.px
        have u1517 := p1507.2
        have y1518 := tT p1507
        have z1519 := px0 p1507.ps
        refine MC.mono (hE κ1511 T h p1507.ps (by omega) (by omega) (by omega) (fun _ h => hT _ (p1507.1.1.tr h))) (fun r1513 κ1514 h1515 => ?_) (fun _ h => h)
        obtain ⟨q1520, a1522, g1521, n1523, c1524⟩ := h1515
        have l1525 := q1520.l19
        have l1526 := q1520.l32
        have p1527 : TR (-1) (0) 0 0 0 (-1) μ κ1514 := p1507.trS q1520 (Or.inl (by decide)) rfl rfl rfl rfl (by omega)
        have cv1528 : CVs κ1514 (s.toInt + 1) ((κ1514).1 19).toInt [r1513] := cv1508.add q1520.rb (Int.le_refl _) (Or.inl (by omega)) (by omega) l1525 (LCO.of g1521.in.1 c1524)
        have nd1529 := nd1505.tr q1520 (by have := @ic s; omega) (by omega)
        have lt1530 : s.toInt < (κ1514.1 19).toInt := by omega
        have k1531 : Kd κ1514 h s.toInt s 1 r1513 := Kd.of g1521 (by omega) (Int.le_refl _) s0 (Or.inl (by omega)) n1523
        have g1532 : TR s.toInt 0 0 0 0 0 κ1514 (mA1 κ1514 22 s.toNatClampNeg r1513) := TR.put p1527.ps s0 rfl rfl
        have e1534 : ((mA1 κ1514 22 s.toNatClampNeg r1513).1 19).toInt = (κ1514.1 19).toInt := rfl
        have e1535 : ((mA1 κ1514 22 s.toNatClampNeg r1513).1 32).toInt = (κ1514.1 32).toInt := rfl
        have sr1537 : srt (mA1 κ1514 22 s.toNatClampNeg r1513) = srt κ1514 := srt_off rfl
        have nd1536 := nd1529.pa (x := r1513)
        have p1538 : TR (-1) (0) 0 0 0 (-1) μ (mA1 κ1514 22 s.toNatClampNeg r1513) := p1527.trS g1532 (Or.inr (Or.inr (by omega))) rfl rfl rfl rfl (by omega)
        have k1539 := k1531.tr g1532 (Or.inr rfl) s0
        have cv1540 : CVs (mA1 κ1514 22 s.toNatClampNeg r1513) (s.toInt + 1) (((mA1 κ1514 22 s.toNatClampNeg r1513)).1 19).toInt [r1513] := cv1528.st g1532.rb (Int.le_refl _) (Or.inl (by omega)) rfl
        refine ⟨TR.mi p1527.ps rfl rfl s0 (by omega), ?_⟩
        generalize mA1 κ1514 22 s.toNatClampNeg r1513 = κ1533 at *
        have lt1541 : s.toInt < (κ1533.1 19).toInt := by omega
        exact v_statement_553 _ _ ⟨⟨p1538.1, by have := p1538.2; omega⟩, by omega, (G.mk (lo := s.toInt) s0 (Int.le_refl _) lt1541 nd1536 (by decide) (Or.inr k1539) True.intro True.intro True.intro True.intro : G κ1533 (h + 1) (bt s.toInt (κ1533.1 19).toInt) 3 s).up (Nat.le_refl _) (by omega) (Int.le_refl _), nd1536.2.2.2.2.2.2, (CO.fin' (by omega) cv1540 s0 ⟨fun h => Par.fa nd1536 (by decide) h, True.intro⟩ lt1541)⟩
    · skip
      have g1542 : TR s.toInt 0 0 0 0 0 κ (mA1 κ 20 s.toNatClampNeg 55) := TR.put p0.ps s0 rfl rfl
      have e1544 : ((mA1 κ 20 s.toNatClampNeg 55).1 19).toInt = (κ.1 19).toInt := rfl
      have e1545 : ((mA1 κ 20 s.toNatClampNeg 55).1 32).toInt = (κ.1 32).toInt := rfl
      have sr1547 : srt (mA1 κ 20 s.toNatClampNeg 55) = srt κ := srt_off rfl
      have nd1546 := nd0.pk (x := 55)
      have p1548 : TR (-1) (0) 0 0 0 (-1) μ (mA1 κ 20 s.toNatClampNeg 55) := p0.trS g1542 (Or.inr (Or.inr (by omega))) rfl rfl rfl rfl (by omega)
      have cv1549 : CVs (mA1 κ 20 s.toNatClampNeg 55) (s.toInt + 1) (((mA1 κ 20 s.toNatClampNeg 55)).1 19).toInt [] := cv0.st g1542.rb (Int.le_refl _) (Or.inl (by omega)) rfl
      refine ⟨TR.mi p0.ps rfl rfl s0 (by omega), ?_⟩
      generalize mA1 κ 20 s.toNatClampNeg 55 = κ1543 at *
      have lt1550 : s.toInt < (κ1543.1 19).toInt := by omega
      have x1554 := p1548.px
      have u1555 := p1548.2
      have y1556 := tT p1548
      have z1557 := px0 p1548.ps
      refine MC.mono (hE κ1543 T h p1548.ps (by omega) (by omega) (by omega) (fun _ h => hT _ (p1548.1.1.tr h))) (fun r1551 κ1552 h1553 => ?_) (fun _ h => h)
      obtain ⟨q1558, a1560, g1559, n1561, c1562⟩ := h1553
      have l1563 := q1558.l19
      have l1564 := q1558.l32
      have p1565 : TR (-1) (0) 0 0 0 (-1) μ κ1552 := p1548.trS q1558 (Or.inl (by decide)) rfl rfl rfl rfl (by omega)
      have cv1566 : CVs κ1552 (s.toInt + 1) ((κ1552).1 19).toInt [r1551] := cv1549.add q1558.rb (Int.le_refl _) (Or.inl (by omega)) (by omega) l1563 (LCO.of g1559.in.1 c1562)
      have nd1567 := nd1546.tr q1558 (by have := @ic s; omega) (by omega)
      have lt1568 : s.toInt < (κ1552.1 19).toInt := by omega
      have k1569 : Kd κ1552 h s.toInt s 1 r1551 := Kd.of g1559 (by omega) (Int.le_refl _) s0 (Or.inl (by omega)) n1561
      have g1570 : TR s.toInt 0 0 0 0 0 κ1552 (mA1 κ1552 22 s.toNatClampNeg r1551) := TR.put p1565.ps s0 rfl rfl
      have e1572 : ((mA1 κ1552 22 s.toNatClampNeg r1551).1 19).toInt = (κ1552.1 19).toInt := rfl
      have e1573 : ((mA1 κ1552 22 s.toNatClampNeg r1551).1 32).toInt = (κ1552.1 32).toInt := rfl
      have sr1575 : srt (mA1 κ1552 22 s.toNatClampNeg r1551) = srt κ1552 := srt_off rfl
      have nd1574 := nd1567.pa (x := r1551)
      have p1576 : TR (-1) (0) 0 0 0 (-1) μ (mA1 κ1552 22 s.toNatClampNeg r1551) := p1565.trS g1570 (Or.inr (Or.inr (by omega))) rfl rfl rfl rfl (by omega)
      have k1577 := k1569.tr g1570 (Or.inr rfl) s0
      have cv1578 : CVs (mA1 κ1552 22 s.toNatClampNeg r1551) (s.toInt + 1) (((mA1 κ1552 22 s.toNatClampNeg r1551)).1 19).toInt [r1551] := cv1566.st g1570.rb (Int.le_refl _) (Or.inl (by omega)) rfl
      refine ⟨TR.mi p1565.ps rfl rfl s0 (by omega), ?_⟩
      generalize mA1 κ1552 22 s.toNatClampNeg r1551 = κ1571 at *
      have lt1579 : s.toInt < (κ1571.1 19).toInt := by omega
      refine MC.mono (t_expect (by omega) p1576.ps (by decide) (fun _ h => hT _ (p1576.1.1.tr h))) (fun v1580 κ1585 h1581 => ?_) (fun _ h => h)
      obtain ⟨q1582, m1583, a1584⟩ := h1581
      have p1586 : TR (-1) (0) 0 0 0 (-3) μ κ1585 := p1576.trS q1582 (Or.inl (by decide)) rfl rfl rfl rfl (by omega)
      have k1587 := k1577.tr q1582 (Or.inl (by decide)) s0
      have cv1588 : CVs κ1585 (s.toInt + 1) ((κ1585).1 19).toInt [r1551] := cv1578.st q1582.rb (Int.le_refl _) (Or.inl (by omega)) m1583
      have nd1589 := nd1574.tr q1582 (by have := @ic s; omega) (by omega)
      have lt1590 : s.toInt < (κ1585.1 19).toInt := by omega
      have x1594 := p1586.px
      have u1595 := p1586.2
      have y1596 := tT p1586
      have z1597 := px0 p1586.ps
      refine MC.mono (hE κ1585 T h p1586.ps (by omega) (by omega) (by omega) (fun _ h => hT _ (p1586.1.1.tr h))) (fun r1591 κ1592 h1593 => ?_) (fun _ h => h)
      obtain ⟨q1598, a1600, g1599, n1601, c1602⟩ := h1593
      have l1603 := q1598.l19
      have l1604 := q1598.l32
      have p1605 : TR (-1) (0) 0 0 0 (-3) μ κ1592 := p1586.trS q1598 (Or.inl (by decide)) rfl rfl rfl rfl (by omega)
      have k1606 := k1587.tr q1598 (Or.inl (by decide)) s0
      have cv1607 : CVs κ1592 (s.toInt + 1) ((κ1592).1 19).toInt [r1591, r1551] := cv1588.add q1598.rb (Int.le_refl _) (Or.inl (by omega)) (by omega) l1603 (LCO.of g1599.in.1 c1602)
      have nd1608 := nd1589.tr q1598 (by have := @ic s; omega) (by omega)
      have lt1609 : s.toInt < (κ1592.1 19).toInt := by omega
      have k1610 : Kd κ1592 h s.toInt s 1 r1591 := Kd.of g1599 (by omega) (Int.le_refl _) s0 (Or.inl (by omega)) n1601
      have g1611 : TR s.toInt 0 0 0 0 0 κ1592 (mA1 κ1592 23 s.toNatClampNeg r1591) := TR.put p1605.ps s0 rfl rfl
      have e1613 : ((mA1 κ1592 23 s.toNatClampNeg r1591).1 19).toInt = (κ1592.1 19).toInt := rfl
      have e1614 : ((mA1 κ1592 23 s.toNatClampNeg r1591).1 32).toInt = (κ1592.1 32).toInt := rfl
      have sr1616 : srt (mA1 κ1592 23 s.toNatClampNeg r1591) = srt κ1592 := srt_off rfl
      have nd1615 := nd1608.pb (x := r1591)
      have p1617 : TR (-1) (0) 0 0 0 (-3) μ (mA1 κ1592 23 s.toNatClampNeg r1591) := p1605.trS g1611 (Or.inr (Or.inr (by omega))) rfl rfl rfl rfl (by omega)
      have k1618 := k1606.tr g1611 (Or.inr rfl) s0
      have k1619 := k1610.tr g1611 (Or.inr rfl) s0
      have cv1620 : CVs (mA1 κ1592 23 s.toNatClampNeg r1591) (s.toInt + 1) (((mA1 κ1592 23 s.toNatClampNeg r1591)).1 19).toInt [r1591, r1551] := cv1607.st g1611.rb (Int.le_refl _) (Or.inl (by omega)) rfl
      refine ⟨TR.mi p1605.ps rfl rfl s0 (by omega), ?_⟩
      generalize mA1 κ1592 23 s.toNatClampNeg r1591 = κ1612 at *
      have lt1621 : s.toInt < (κ1612.1 19).toInt := by omega
      exact v_statement_553 _ _ ⟨⟨p1617.1, by have := p1617.2; omega⟩, by omega, (G.mk (lo := s.toInt) s0 (Int.le_refl _) lt1621 nd1615 (by decide) (k1618) (k1619) True.intro True.intro True.intro : G κ1612 (h + 1) (bt s.toInt (κ1612.1 19).toInt) 3 s).up (Nat.le_refl _) (by omega) (Int.le_refl _), nd1615.2.2.2.2.2.2, (CO.fin' (by omega) cv1620 s0 ⟨fun h => Par.fb nd1615 (by decide) h, fun h => Par.fa nd1615 (by decide) h, True.intro⟩ lt1621)⟩
    · skip
      have g1622 : TR s.toInt 0 0 0 0 0 κ (mA1 κ 20 s.toNatClampNeg 46) := TR.put p0.ps s0 rfl rfl
      have e1624 : ((mA1 κ 20 s.toNatClampNeg 46).1 19).toInt = (κ.1 19).toInt := rfl
      have e1625 : ((mA1 κ 20 s.toNatClampNeg 46).1 32).toInt = (κ.1 32).toInt := rfl
      have sr1627 : srt (mA1 κ 20 s.toNatClampNeg 46) = srt κ := srt_off rfl
      have nd1626 := nd0.pk (x := 46)
      have p1628 : TR (-1) (0) 0 0 0 (-1) μ (mA1 κ 20 s.toNatClampNeg 46) := p0.trS g1622 (Or.inr (Or.inr (by omega))) rfl rfl rfl rfl (by omega)
      have cv1629 : CVs (mA1 κ 20 s.toNatClampNeg 46) (s.toInt + 1) (((mA1 κ 20 s.toNatClampNeg 46)).1 19).toInt [] := cv0.st g1622.rb (Int.le_refl _) (Or.inl (by omega)) rfl
      refine ⟨TR.mi p0.ps rfl rfl s0 (by omega), ?_⟩
      generalize mA1 κ 20 s.toNatClampNeg 46 = κ1623 at *
      have lt1630 : s.toInt < (κ1623.1 19).toInt := by omega
      have x1634 := p1628.px
      have u1635 := p1628.2
      have y1636 := tT p1628
      have z1637 := px0 p1628.ps
      refine MC.mono (hE κ1623 T h p1628.ps (by omega) (by omega) (by omega) (fun _ h => hT _ (p1628.1.1.tr h))) (fun r1631 κ1632 h1633 => ?_) (fun _ h => h)
      obtain ⟨q1638, a1640, g1639, n1641, c1642⟩ := h1633
      have l1643 := q1638.l19
      have l1644 := q1638.l32
      have p1645 : TR (-1) (0) 0 0 0 (-1) μ κ1632 := p1628.trS q1638 (Or.inl (by decide)) rfl rfl rfl rfl (by omega)
      have cv1646 : CVs κ1632 (s.toInt + 1) ((κ1632).1 19).toInt [r1631] := cv1629.add q1638.rb (Int.le_refl _) (Or.inl (by omega)) (by omega) l1643 (LCO.of g1639.in.1 c1642)
      have nd1647 := nd1626.tr q1638 (by have := @ic s; omega) (by omega)
      have lt1648 : s.toInt < (κ1632.1 19).toInt := by omega
      have k1649 : Kd κ1632 h s.toInt s 1 r1631 := Kd.of g1639 (by omega) (Int.le_refl _) s0 (Or.inl (by omega)) n1641
      have g1650 : TR s.toInt 0 0 0 0 0 κ1632 (mA1 κ1632 22 s.toNatClampNeg r1631) := TR.put p1645.ps s0 rfl rfl
      have e1652 : ((mA1 κ1632 22 s.toNatClampNeg r1631).1 19).toInt = (κ1632.1 19).toInt := rfl
      have e1653 : ((mA1 κ1632 22 s.toNatClampNeg r1631).1 32).toInt = (κ1632.1 32).toInt := rfl
      have sr1655 : srt (mA1 κ1632 22 s.toNatClampNeg r1631) = srt κ1632 := srt_off rfl
      have nd1654 := nd1647.pa (x := r1631)
      have p1656 : TR (-1) (0) 0 0 0 (-1) μ (mA1 κ1632 22 s.toNatClampNeg r1631) := p1645.trS g1650 (Or.inr (Or.inr (by omega))) rfl rfl rfl rfl (by omega)
      have k1657 := k1649.tr g1650 (Or.inr rfl) s0
      have cv1658 : CVs (mA1 κ1632 22 s.toNatClampNeg r1631) (s.toInt + 1) (((mA1 κ1632 22 s.toNatClampNeg r1631)).1 19).toInt [r1631] := cv1646.st g1650.rb (Int.le_refl _) (Or.inl (by omega)) rfl
      refine ⟨TR.mi p1645.ps rfl rfl s0 (by omega), ?_⟩
      generalize mA1 κ1632 22 s.toNatClampNeg r1631 = κ1651 at *
      have lt1659 : s.toInt < (κ1651.1 19).toInt := by omega
      refine MC.mono (t_expect (by omega) p1656.ps (by decide) (fun _ h => hT _ (p1656.1.1.tr h))) (fun v1660 κ1665 h1661 => ?_) (fun _ h => h)
      obtain ⟨q1662, m1663, a1664⟩ := h1661
      have p1666 : TR (-1) (0) 0 0 0 (-3) μ κ1665 := p1656.trS q1662 (Or.inl (by decide)) rfl rfl rfl rfl (by omega)
      have k1667 := k1657.tr q1662 (Or.inl (by decide)) s0
      have cv1668 : CVs κ1665 (s.toInt + 1) ((κ1665).1 19).toInt [r1631] := cv1658.st q1662.rb (Int.le_refl _) (Or.inl (by omega)) m1663
      have nd1669 := nd1654.tr q1662 (by have := @ic s; omega) (by omega)
      have lt1670 : s.toInt < (κ1665.1 19).toInt := by omega
      have x1674 := p1666.px
      have u1675 := p1666.2
      have y1676 := tT p1666
      have z1677 := px0 p1666.ps
      refine MC.mono (hSt κ1665 T h p1666.ps (by omega) (by omega) (by omega) (fun _ h => hT _ (p1666.1.1.tr h))) (fun r1671 κ1672 h1673 => ?_) (fun _ h => h)
      obtain ⟨q1678, g1679, c1680⟩ := h1673
      have l1681 := q1678.l19
      have l1682 := q1678.l32
      have p1683 : TR (-1) (0) 0 0 0 (-3) μ κ1672 := p1666.trS q1678 (Or.inl (by decide)) rfl rfl rfl rfl (by omega)
      have k1684 := k1667.tr q1678 (Or.inl (by decide)) s0
      have cv1685 : CVs κ1672 (s.toInt + 1) ((κ1672).1 19).toInt [r1671, r1631] := cv1668.add q1678.rb (Int.le_refl _) (Or.inl (by omega)) (by omega) l1681 (c1680)
      have nd1686 := nd1669.tr q1678 (by have := @ic s; omega) (by omega)
      have lt1687 : s.toInt < (κ1672.1 19).toInt := by omega
      have k1688 : KL κ1672 h s.toInt s 3 r1671 := KL.of g1679 (by omega) (Int.le_refl _) s0 (Or.inl (by omega))
      have g1689 : TR s.toInt 0 0 0 0 0 κ1672 (mA1 κ1672 23 s.toNatClampNeg r1671) := TR.put p1683.ps s0 rfl rfl
      have e1691 : ((mA1 κ1672 23 s.toNatClampNeg r1671).1 19).toInt = (κ1672.1 19).toInt := rfl
      have e1692 : ((mA1 κ1672 23 s.toNatClampNeg r1671).1 32).toInt = (κ1672.1 32).toInt := rfl
      have sr1694 : srt (mA1 κ1672 23 s.toNatClampNeg r1671) = srt κ1672 := srt_off rfl
      have nd1693 := nd1686.pb (x := r1671)
      have p1695 : TR (-1) (0) 0 0 0 (-3) μ (mA1 κ1672 23 s.toNatClampNeg r1671) := p1683.trS g1689 (Or.inr (Or.inr (by omega))) rfl rfl rfl rfl (by omega)
      have k1696 := k1684.tr g1689 (Or.inr rfl) s0
      have k1697 := k1688.tr g1689 (Or.inr rfl) s0
      have cv1698 : CVs (mA1 κ1672 23 s.toNatClampNeg r1671) (s.toInt + 1) (((mA1 κ1672 23 s.toNatClampNeg r1671)).1 19).toInt [r1671, r1631] := cv1685.st g1689.rb (Int.le_refl _) (Or.inl (by omega)) rfl
      refine ⟨TR.mi p1683.ps rfl rfl s0 (by omega), ?_⟩
      generalize mA1 κ1672 23 s.toNatClampNeg r1671 = κ1690 at *
      have lt1699 : s.toInt < (κ1690.1 19).toInt := by omega
      refine MC.mono (t_expect (by omega) p1695.ps (by decide) (fun _ h => hT _ (p1695.1.1.tr h))) (fun v1700 κ1705 h1701 => ?_) (fun _ h => h)
      obtain ⟨q1702, m1703, a1704⟩ := h1701
      have p1706 : TR (-1) (0) 0 0 0 (-5) μ κ1705 := p1695.trS q1702 (Or.inl (by decide)) rfl rfl rfl rfl (by omega)
      have k1707 := k1696.tr q1702 (Or.inl (by decide)) s0
      have k1708 := k1697.tr q1702 (Or.inl (by decide)) s0
      have cv1709 : CVs κ1705 (s.toInt + 1) ((κ1705).1 19).toInt [r1671, r1631] := cv1698.st q1702.rb (Int.le_refl _) (Or.inl (by omega)) m1703
      have nd1710 := nd1693.tr q1702 (by have := @ic s; omega) (by omega)
      have lt1711 : s.toInt < (κ1705.1 19).toInt := by omega
      exact v_statement_553 _ _ ⟨⟨p1706.1, by have := p1706.2; omega⟩, by omega, (G.mk (lo := s.toInt) s0 (Int.le_refl _) lt1711 nd1710 (by decide) (k1707) (k1708) True.intro True.intro True.intro : G κ1705 (h + 1) (bt s.toInt (κ1705.1 19).toInt) 3 s).up (Nat.le_refl _) (by omega) (Int.le_refl _), nd1710.2.2.2.2.2.2, (CO.fin' (by omega) cv1709 s0 ⟨fun h => Par.fb nd1710 (by decide) h, fun h => Par.fa nd1710 (by decide) h, True.intro⟩ lt1711)⟩
    · skip
      have g1712 : TR s.toInt 0 0 0 0 0 κ (mA1 κ 20 s.toNatClampNeg 59) := TR.put p0.ps s0 rfl rfl
      have e1714 : ((mA1 κ 20 s.toNatClampNeg 59).1 19).toInt = (κ.1 19).toInt := rfl
      have e1715 : ((mA1 κ 20 s.toNatClampNeg 59).1 32).toInt = (κ.1 32).toInt := rfl
      have sr1717 : srt (mA1 κ 20 s.toNatClampNeg 59) = srt κ := srt_off rfl
      have nd1716 := nd0.pk (x := 59)
      have p1718 : TR (-1) (0) 0 0 0 (-1) μ (mA1 κ 20 s.toNatClampNeg 59) := p0.trS g1712 (Or.inr (Or.inr (by omega))) rfl rfl rfl rfl (by omega)
      have cv1719 : CVs (mA1 κ 20 s.toNatClampNeg 59) (s.toInt + 1) (((mA1 κ 20 s.toNatClampNeg 59)).1 19).toInt [] := cv0.st g1712.rb (Int.le_refl _) (Or.inl (by omega)) rfl
      refine ⟨TR.mi p0.ps rfl rfl s0 (by omega), ?_⟩
      generalize mA1 κ 20 s.toNatClampNeg 59 = κ1713 at *
      have lt1720 : s.toInt < (κ1713.1 19).toInt := by omega
      have x1724 := p1718.px
      have u1725 := p1718.2
      have y1726 := tT p1718
      have z1727 := px0 p1718.ps
      refine MC.mono (hE κ1713 T h p1718.ps (by omega) (by omega) (by omega) (fun _ h => hT _ (p1718.1.1.tr h))) (fun r1721 κ1722 h1723 => ?_) (fun _ h => h)
      obtain ⟨q1728, a1730, g1729, n1731, c1732⟩ := h1723
      have l1733 := q1728.l19
      have l1734 := q1728.l32
      have p1735 : TR (-1) (0) 0 0 0 (-1) μ κ1722 := p1718.trS q1728 (Or.inl (by decide)) rfl rfl rfl rfl (by omega)
      have cv1736 : CVs κ1722 (s.toInt + 1) ((κ1722).1 19).toInt [r1721] := cv1719.add q1728.rb (Int.le_refl _) (Or.inl (by omega)) (by omega) l1733 (LCO.of g1729.in.1 c1732)
      have nd1737 := nd1716.tr q1728 (by have := @ic s; omega) (by omega)
      have lt1738 : s.toInt < (κ1722.1 19).toInt := by omega
      have k1739 : Kd κ1722 h s.toInt s 1 r1721 := Kd.of g1729 (by omega) (Int.le_refl _) s0 (Or.inl (by omega)) n1731
      have g1740 : TR s.toInt 0 0 0 0 0 κ1722 (mA1 κ1722 22 s.toNatClampNeg r1721) := TR.put p1735.ps s0 rfl rfl
      have e1742 : ((mA1 κ1722 22 s.toNatClampNeg r1721).1 19).toInt = (κ1722.1 19).toInt := rfl
      have e1743 : ((mA1 κ1722 22 s.toNatClampNeg r1721).1 32).toInt = (κ1722.1 32).toInt := rfl
      have sr1745 : srt (mA1 κ1722 22 s.toNatClampNeg r1721) = srt κ1722 := srt_off rfl
      have nd1744 := nd1737.pa (x := r1721)
      have p1746 : TR (-1) (0) 0 0 0 (-1) μ (mA1 κ1722 22 s.toNatClampNeg r1721) := p1735.trS g1740 (Or.inr (Or.inr (by omega))) rfl rfl rfl rfl (by omega)
      have k1747 := k1739.tr g1740 (Or.inr rfl) s0
      have cv1748 : CVs (mA1 κ1722 22 s.toNatClampNeg r1721) (s.toInt + 1) (((mA1 κ1722 22 s.toNatClampNeg r1721)).1 19).toInt [r1721] := cv1736.st g1740.rb (Int.le_refl _) (Or.inl (by omega)) rfl
      refine ⟨TR.mi p1735.ps rfl rfl s0 (by omega), ?_⟩
      generalize mA1 κ1722 22 s.toNatClampNeg r1721 = κ1741 at *
      have lt1749 : s.toInt < (κ1741.1 19).toInt := by omega
      exact v_statement_553 _ _ ⟨⟨p1746.1, by have := p1746.2; omega⟩, by omega, (G.mk (lo := s.toInt) s0 (Int.le_refl _) lt1749 nd1744 (by decide) (k1747) True.intro True.intro True.intro True.intro : G κ1741 (h + 1) (bt s.toInt (κ1741.1 19).toInt) 3 s).up (Nat.le_refl _) (by omega) (Int.le_refl _), nd1744.2.2.2.2.2.2, (CO.fin' (by omega) cv1748 s0 ⟨fun h => Par.fa nd1744 (by decide) h, True.intro⟩ lt1749)⟩
    · skip
      have g1750 : TR s.toInt 0 0 0 0 0 κ (mA1 κ 20 s.toNatClampNeg 58) := TR.put p0.ps s0 rfl rfl
      have e1752 : ((mA1 κ 20 s.toNatClampNeg 58).1 19).toInt = (κ.1 19).toInt := rfl
      have e1753 : ((mA1 κ 20 s.toNatClampNeg 58).1 32).toInt = (κ.1 32).toInt := rfl
      have sr1755 : srt (mA1 κ 20 s.toNatClampNeg 58) = srt κ := srt_off rfl
      have nd1754 := nd0.pk (x := 58)
      have p1756 : TR (-1) (0) 0 0 0 (-1) μ (mA1 κ 20 s.toNatClampNeg 58) := p0.trS g1750 (Or.inr (Or.inr (by omega))) rfl rfl rfl rfl (by omega)
      have cv1757 : CVs (mA1 κ 20 s.toNatClampNeg 58) (s.toInt + 1) (((mA1 κ 20 s.toNatClampNeg 58)).1 19).toInt [] := cv0.st g1750.rb (Int.le_refl _) (Or.inl (by omega)) rfl
      refine ⟨TR.mi p0.ps rfl rfl s0 (by omega), ?_⟩
      generalize mA1 κ 20 s.toNatClampNeg 58 = κ1751 at *
      have lt1758 : s.toInt < (κ1751.1 19).toInt := by omega
      have x1762 := p1756.px
      have u1763 := p1756.2
      have y1764 := tT p1756
      have z1765 := px0 p1756.ps
      refine MC.mono (hE κ1751 T h p1756.ps (by omega) (by omega) (by omega) (fun _ h => hT _ (p1756.1.1.tr h))) (fun r1759 κ1760 h1761 => ?_) (fun _ h => h)
      obtain ⟨q1766, a1768, g1767, n1769, c1770⟩ := h1761
      have l1771 := q1766.l19
      have l1772 := q1766.l32
      have p1773 : TR (-1) (0) 0 0 0 (-1) μ κ1760 := p1756.trS q1766 (Or.inl (by decide)) rfl rfl rfl rfl (by omega)
      have cv1774 : CVs κ1760 (s.toInt + 1) ((κ1760).1 19).toInt [r1759] := cv1757.add q1766.rb (Int.le_refl _) (Or.inl (by omega)) (by omega) l1771 (LCO.of g1767.in.1 c1770)
      have nd1775 := nd1754.tr q1766 (by have := @ic s; omega) (by omega)
      have lt1776 : s.toInt < (κ1760.1 19).toInt := by omega
      have k1777 : Kd κ1760 h s.toInt s 1 r1759 := Kd.of g1767 (by omega) (Int.le_refl _) s0 (Or.inl (by omega)) n1769
      have g1778 : TR s.toInt 0 0 0 0 0 κ1760 (mA1 κ1760 22 s.toNatClampNeg r1759) := TR.put p1773.ps s0 rfl rfl
      have e1780 : ((mA1 κ1760 22 s.toNatClampNeg r1759).1 19).toInt = (κ1760.1 19).toInt := rfl
      have e1781 : ((mA1 κ1760 22 s.toNatClampNeg r1759).1 32).toInt = (κ1760.1 32).toInt := rfl
      have sr1783 : srt (mA1 κ1760 22 s.toNatClampNeg r1759) = srt κ1760 := srt_off rfl
      have nd1782 := nd1775.pa (x := r1759)
      have p1784 : TR (-1) (0) 0 0 0 (-1) μ (mA1 κ1760 22 s.toNatClampNeg r1759) := p1773.trS g1778 (Or.inr (Or.inr (by omega))) rfl rfl rfl rfl (by omega)
      have k1785 := k1777.tr g1778 (Or.inr rfl) s0
      have cv1786 : CVs (mA1 κ1760 22 s.toNatClampNeg r1759) (s.toInt + 1) (((mA1 κ1760 22 s.toNatClampNeg r1759)).1 19).toInt [r1759] := cv1774.st g1778.rb (Int.le_refl _) (Or.inl (by omega)) rfl
      refine ⟨TR.mi p1773.ps rfl rfl s0 (by omega), ?_⟩
      generalize mA1 κ1760 22 s.toNatClampNeg r1759 = κ1779 at *
      have lt1787 : s.toInt < (κ1779.1 19).toInt := by omega
      exact v_statement_553 _ _ ⟨⟨p1784.1, by have := p1784.2; omega⟩, by omega, (G.mk (lo := s.toInt) s0 (Int.le_refl _) lt1787 nd1782 (by decide) (k1785) True.intro True.intro True.intro True.intro : G κ1779 (h + 1) (bt s.toInt (κ1779.1 19).toInt) 3 s).up (Nat.le_refl _) (by omega) (Int.le_refl _), nd1782.2.2.2.2.2.2, (CO.fin' (by omega) cv1786 s0 ⟨fun h => Par.fa nd1782 (by decide) h, True.intro⟩ lt1787)⟩
    · skip
      have g1788 : TR s.toInt 0 0 0 0 0 κ (mA1 κ 20 s.toNatClampNeg 57) := TR.put p0.ps s0 rfl rfl
      have e1790 : ((mA1 κ 20 s.toNatClampNeg 57).1 19).toInt = (κ.1 19).toInt := rfl
      have e1791 : ((mA1 κ 20 s.toNatClampNeg 57).1 32).toInt = (κ.1 32).toInt := rfl
      have sr1793 : srt (mA1 κ 20 s.toNatClampNeg 57) = srt κ := srt_off rfl
      have nd1792 := nd0.pk (x := 57)
      have p1794 : TR (-1) (0) 0 0 0 (-1) μ (mA1 κ 20 s.toNatClampNeg 57) := p0.trS g1788 (Or.inr (Or.inr (by omega))) rfl rfl rfl rfl (by omega)
      have cv1795 : CVs (mA1 κ 20 s.toNatClampNeg 57) (s.toInt + 1) (((mA1 κ 20 s.toNatClampNeg 57)).1 19).toInt [] := cv0.st g1788.rb (Int.le_refl _) (Or.inl (by omega)) rfl
      refine ⟨TR.mi p0.ps rfl rfl s0 (by omega), ?_⟩
      generalize mA1 κ 20 s.toNatClampNeg 57 = κ1789 at *
      have lt1796 : s.toInt < (κ1789.1 19).toInt := by omega
      have x1800 := p1794.px
      have u1801 := p1794.2
      have y1802 := tT p1794
      have z1803 := px0 p1794.ps
      refine MC.mono (hE κ1789 T h p1794.ps (by omega) (by omega) (by omega) (fun _ h => hT _ (p1794.1.1.tr h))) (fun r1797 κ1798 h1799 => ?_) (fun _ h => h)
      obtain ⟨q1804, a1806, g1805, n1807, c1808⟩ := h1799
      have l1809 := q1804.l19
      have l1810 := q1804.l32
      have p1811 : TR (-1) (0) 0 0 0 (-1) μ κ1798 := p1794.trS q1804 (Or.inl (by decide)) rfl rfl rfl rfl (by omega)
      have cv1812 : CVs κ1798 (s.toInt + 1) ((κ1798).1 19).toInt [r1797] := cv1795.add q1804.rb (Int.le_refl _) (Or.inl (by omega)) (by omega) l1809 (LCO.of g1805.in.1 c1808)
      have nd1813 := nd1792.tr q1804 (by have := @ic s; omega) (by omega)
      have lt1814 : s.toInt < (κ1798.1 19).toInt := by omega
      have k1815 : Kd κ1798 h s.toInt s 1 r1797 := Kd.of g1805 (by omega) (Int.le_refl _) s0 (Or.inl (by omega)) n1807
      have g1816 : TR s.toInt 0 0 0 0 0 κ1798 (mA1 κ1798 22 s.toNatClampNeg r1797) := TR.put p1811.ps s0 rfl rfl
      have e1818 : ((mA1 κ1798 22 s.toNatClampNeg r1797).1 19).toInt = (κ1798.1 19).toInt := rfl
      have e1819 : ((mA1 κ1798 22 s.toNatClampNeg r1797).1 32).toInt = (κ1798.1 32).toInt := rfl
      have sr1821 : srt (mA1 κ1798 22 s.toNatClampNeg r1797) = srt κ1798 := srt_off rfl
      have nd1820 := nd1813.pa (x := r1797)
      have p1822 : TR (-1) (0) 0 0 0 (-1) μ (mA1 κ1798 22 s.toNatClampNeg r1797) := p1811.trS g1816 (Or.inr (Or.inr (by omega))) rfl rfl rfl rfl (by omega)
      have k1823 := k1815.tr g1816 (Or.inr rfl) s0
      have cv1824 : CVs (mA1 κ1798 22 s.toNatClampNeg r1797) (s.toInt + 1) (((mA1 κ1798 22 s.toNatClampNeg r1797)).1 19).toInt [r1797] := cv1812.st g1816.rb (Int.le_refl _) (Or.inl (by omega)) rfl
      refine ⟨TR.mi p1811.ps rfl rfl s0 (by omega), ?_⟩
      generalize mA1 κ1798 22 s.toNatClampNeg r1797 = κ1817 at *
      have lt1825 : s.toInt < (κ1817.1 19).toInt := by omega
      exact v_statement_553 _ _ ⟨⟨p1822.1, by have := p1822.2; omega⟩, by omega, (G.mk (lo := s.toInt) s0 (Int.le_refl _) lt1825 nd1820 (by decide) (k1823) True.intro True.intro True.intro True.intro : G κ1817 (h + 1) (bt s.toInt (κ1817.1 19).toInt) 3 s).up (Nat.le_refl _) (by omega) (Int.le_refl _), nd1820.2.2.2.2.2.2, (CO.fin' (by omega) cv1824 s0 ⟨fun h => Par.fa nd1820 (by decide) h, True.intro⟩ lt1825)⟩
    · skip
      have g1826 : TR s.toInt 0 0 0 0 0 κ (mA1 κ 20 s.toNatClampNeg 56) := TR.put p0.ps s0 rfl rfl
      have e1828 : ((mA1 κ 20 s.toNatClampNeg 56).1 19).toInt = (κ.1 19).toInt := rfl
      have e1829 : ((mA1 κ 20 s.toNatClampNeg 56).1 32).toInt = (κ.1 32).toInt := rfl
      have sr1831 : srt (mA1 κ 20 s.toNatClampNeg 56) = srt κ := srt_off rfl
      have nd1830 := nd0.pk (x := 56)
      have p1832 : TR (-1) (0) 0 0 0 (-1) μ (mA1 κ 20 s.toNatClampNeg 56) := p0.trS g1826 (Or.inr (Or.inr (by omega))) rfl rfl rfl rfl (by omega)
      have cv1833 : CVs (mA1 κ 20 s.toNatClampNeg 56) (s.toInt + 1) (((mA1 κ 20 s.toNatClampNeg 56)).1 19).toInt [] := cv0.st g1826.rb (Int.le_refl _) (Or.inl (by omega)) rfl
      refine ⟨TR.mi p0.ps rfl rfl s0 (by omega), ?_⟩
      generalize mA1 κ 20 s.toNatClampNeg 56 = κ1827 at *
      have lt1834 : s.toInt < (κ1827.1 19).toInt := by omega
      have x1838 := p1832.px
      have u1839 := p1832.2
      have y1840 := tT p1832
      have z1841 := px0 p1832.ps
      refine MC.mono (hE κ1827 T h p1832.ps (by omega) (by omega) (by omega) (fun _ h => hT _ (p1832.1.1.tr h))) (fun r1835 κ1836 h1837 => ?_) (fun _ h => h)
      obtain ⟨q1842, a1844, g1843, n1845, c1846⟩ := h1837
      have l1847 := q1842.l19
      have l1848 := q1842.l32
      have p1849 : TR (-1) (0) 0 0 0 (-1) μ κ1836 := p1832.trS q1842 (Or.inl (by decide)) rfl rfl rfl rfl (by omega)
      have cv1850 : CVs κ1836 (s.toInt + 1) ((κ1836).1 19).toInt [r1835] := cv1833.add q1842.rb (Int.le_refl _) (Or.inl (by omega)) (by omega) l1847 (LCO.of g1843.in.1 c1846)
      have nd1851 := nd1830.tr q1842 (by have := @ic s; omega) (by omega)
      have lt1852 : s.toInt < (κ1836.1 19).toInt := by omega
      have k1853 : Kd κ1836 h s.toInt s 1 r1835 := Kd.of g1843 (by omega) (Int.le_refl _) s0 (Or.inl (by omega)) n1845
      have g1854 : TR s.toInt 0 0 0 0 0 κ1836 (mA1 κ1836 22 s.toNatClampNeg r1835) := TR.put p1849.ps s0 rfl rfl
      have e1856 : ((mA1 κ1836 22 s.toNatClampNeg r1835).1 19).toInt = (κ1836.1 19).toInt := rfl
      have e1857 : ((mA1 κ1836 22 s.toNatClampNeg r1835).1 32).toInt = (κ1836.1 32).toInt := rfl
      have sr1859 : srt (mA1 κ1836 22 s.toNatClampNeg r1835) = srt κ1836 := srt_off rfl
      have nd1858 := nd1851.pa (x := r1835)
      have p1860 : TR (-1) (0) 0 0 0 (-1) μ (mA1 κ1836 22 s.toNatClampNeg r1835) := p1849.trS g1854 (Or.inr (Or.inr (by omega))) rfl rfl rfl rfl (by omega)
      have k1861 := k1853.tr g1854 (Or.inr rfl) s0
      have cv1862 : CVs (mA1 κ1836 22 s.toNatClampNeg r1835) (s.toInt + 1) (((mA1 κ1836 22 s.toNatClampNeg r1835)).1 19).toInt [r1835] := cv1850.st g1854.rb (Int.le_refl _) (Or.inl (by omega)) rfl
      refine ⟨TR.mi p1849.ps rfl rfl s0 (by omega), ?_⟩
      generalize mA1 κ1836 22 s.toNatClampNeg r1835 = κ1855 at *
      have lt1863 : s.toInt < (κ1855.1 19).toInt := by omega
      exact v_statement_553 _ _ ⟨⟨p1860.1, by have := p1860.2; omega⟩, by omega, (G.mk (lo := s.toInt) s0 (Int.le_refl _) lt1863 nd1858 (by decide) (k1861) True.intro True.intro True.intro True.intro : G κ1855 (h + 1) (bt s.toInt (κ1855.1 19).toInt) 3 s).up (Nat.le_refl _) (by omega) (Int.le_refl _), nd1858.2.2.2.2.2.2, (CO.fin' (by omega) cv1862 s0 ⟨fun h => Par.fa nd1858 (by decide) h, True.intro⟩ lt1863)⟩
  · obtain ⟨z1, z2, z3, z4⟩ := hk
    have l1 := z1.l32
    have l2 := z1.l19
    have u1 := z1.2
    exact ⟨q1.tr z1 (Or.inr (by omega)) rfl rfl rfl rfl (by omega), by omega, z2.up (Nat.le_refl _) (by omega) (Int.le_refl _), z3, by rw [← q2]; exact z4⟩
end PSJ
section PSK
variable {X : ev_X} {W : Nat → Prop} {P : MP}
def StA (X : ev_X) (W : Nat → Prop) (P : MP) (d : Nat) : Prop := (SL X W P 321 [] 3 19 11 d ∧ SC X W P 322 3 22 14 d ∧ ArC X W P d) ∧ (FiC X W P 324 0 0 d ∧ FiC X W P 325 0 0 d ∧ FiC X W P 327 0 0 d ∧ FiC X W P 329 1 1 d) ∧ OtC X W P d ∧ SL X W P 328 [.int 52] 14 20 12 d ∧ SL X W P 328 [.int 61] 15 20 12 d
theorem SL.z {k : Nat} {as : List Value} {s : Nat} {rd rh : Int} (h : 0 < rd) : SL X W P k as s rd rh 0 := fun μ T h hS hd => by have := px0 hS; omega
theorem FiC.z {k : Nat} {up dn : Int} : FiC X W P k up dn 0 := fun μ T h s hS hd => by have := px0 hS; omega
theorem stm_all : ∀ d : Nat, StA X W P d
  | 0 => ⟨⟨SL.z (by decide), fun μ T h hS hd => by have := px0 hS; omega, fun μ T h hS hd => by have := px0 hS; omega⟩, ⟨FiC.z, FiC.z, FiC.z, FiC.z⟩, fun μ T h s k a b hS hd => by have := px0 hS; omega, SL.z (by decide), SL.z (by decide)⟩
  | d + 1 => by
    obtain ⟨⟨a1, a2, a3⟩, ⟨b1, b2, b3, b4⟩, c1, c2, c3⟩ := stm_all d
    obtain ⟨⟨e1, -⟩, -, -, e2, e3⟩ := (ex_all d : ExA X W P d)
    exact ⟨⟨st_statements a2, st_statement e1 a1 a3 b1 b2 b3 b4, st_arms e1 a1⟩, ⟨st_for e1 a1, st_try a1 c2 c1, st_typecase e1 c3 c1, st_byPlace e2 e3 e1⟩, st_otherwise a1, st_cases52 a1, st_cases61 (ty_all d).1 a1⟩
end PSK
