/-! contracts of the reference: statements -/
section PSJ
variable {X : ev_X} {W : Nat → Prop} {d : Nat} {P : MP}
theorem st_byPlace (hP : XC X W P 331 [] 2 7 2 1 1 d) (hC : CallC X W P d) (hE : XC X W P 332 [] 1 20 12 0 0 d) : FiC X W P 329 1 1 (d + 1) := fun μ T h9 s hS hd hh hn hT s0 s1 nd0 => by
  have hp := px0 hS
  have h0 := hS.2.2.2.2.1
  have at0 := hS.at
  have hcs := @ic s
  obtain ⟨h, rfl⟩ : ∃ h, h9 = h + 1 := ⟨h9 - 1, by omega⟩
  have p0 : TR s.toInt 0 0 0 0 0 μ μ := TR.rf hS
  have lt0 : s.toInt < (μ.1 19).toInt := by omega
  have s9 : s.toInt < 15990 := by omega
  have cv0 : CVs μ (s.toInt + 1) (μ.1 19).toInt [] := CVs.nil (by omega)
  refine me_meth (by omega) rfl (v_byPlace_0 _ ?_)
  have x977 := p0.px
  have u978 := p0.2
  have y979 := tT p0
  have z980 := px0 p0.ps
  refine MC.mono (hP μ T h p0.ps (by omega) (by omega) (by omega) (fun _ h => hT _ (p0.1.1.tr h))) (fun r974 κ975 h976 => ?_) (fun _ h => h)
  obtain ⟨q981, a983, g982, n984, c985⟩ := h976
  have l986 := q981.l19
  have l987 := q981.l32
  have p988 : TR (s.toInt) (0) 0 0 0 (0) μ κ975 := p0.trS q981 (Or.inl (by decide)) rfl rfl rfl rfl (by omega)
  have cv989 : CVs κ975 (s.toInt + 1) ((κ975).1 19).toInt [r974] := cv0.add q981.rb (Int.le_refl _) (Or.inl (by omega)) (by omega) l986 (LCO.of g982.in.1 c985)
  have cx990 := cv0.rb q981.rb (by omega) (Or.inl (by omega))
  have nd991 := nd0.tr q981 (by have := @ic s; omega) (by omega)
  have lt992 : s.toInt < (κ975.1 19).toInt := by omega
  have k993 : Kd κ975 h s.toInt s 2 r974 := Kd.of g982 (by omega) (Int.le_refl _) s0 (Or.inl (by omega))
  have p994 : TR (s.toInt) (0) 0 0 0 (-1) μ κ975 := ⟨p988.1, by have := p988.2; have := q981.2; omega⟩
  refine MC.mono (c_is (by omega) p994.ps) (fun r995 κ996 h997 => ?_) (fun _ h => h)
  obtain ⟨rfl, rfl⟩ := h997
  refine ⟨fun _ => ?_, fun _ => ?_⟩
  · skip
    refine MC.mono (t_expect (by omega) p994.ps (by decide) (fun _ h => hT _ (p994.1.1.tr h))) (fun v998 κ1003 h999 => ?_) (fun _ h => h)
    obtain ⟨q1000, m1001, a1002⟩ := h999
    have p1004 : TR (s.toInt) (0) 0 0 0 (-3) μ κ1003 := p994.trS q1000 (Or.inl (by decide)) rfl rfl rfl rfl (by omega)
    have k1005 := k993.tr q1000 (Or.inl (by decide)) s0
    have cv1006 : CVs κ1003 (s.toInt + 1) ((κ1003).1 19).toInt [r974] := cv989.st q1000.rb (Int.le_refl _) (Or.inl (by omega)) m1001
    have nd1007 := nd991.tr q1000 (by have := @ic s; omega) (by omega)
    have lt1008 : s.toInt < (κ1003.1 19).toInt := by omega
    have g1009 : TR s.toInt 0 0 0 0 0 κ1003 (mA1 κ1003 22 s.toNatClampNeg r974) := TR.put p1004.ps s0 rfl rfl
    have e1011 : ((mA1 κ1003 22 s.toNatClampNeg r974).1 19).toInt = (κ1003.1 19).toInt := rfl
    have e1012 : ((mA1 κ1003 22 s.toNatClampNeg r974).1 32).toInt = (κ1003.1 32).toInt := rfl
    have sr1014 : srt (mA1 κ1003 22 s.toNatClampNeg r974) = srt κ1003 := srt_off rfl
    have nd1013 := nd1007.pa (x := r974)
    have p1015 : TR (s.toInt) (0) 0 0 0 (-3) μ (mA1 κ1003 22 s.toNatClampNeg r974) := p1004.trS g1009 (Or.inr (Or.inl rfl)) rfl rfl rfl rfl (by omega)
    have k1016 := k1005.tr g1009 (Or.inr rfl) s0
    have cv1017 : CVs (mA1 κ1003 22 s.toNatClampNeg r974) (s.toInt + 1) (((mA1 κ1003 22 s.toNatClampNeg r974)).1 19).toInt [r974] := cv1006.st g1009.rb (Int.le_refl _) (Or.inl (by omega)) rfl
    refine ⟨TR.mi p1004.ps rfl rfl s0 (by omega), ?_⟩
    generalize mA1 κ1003 22 s.toNatClampNeg r974 = κ1010 at *
    have lt1018 : s.toInt < (κ1010.1 19).toInt := by omega
    refine MC.mono (c_is (by omega) p1015.ps) (fun r1019 κ1020 h1021 => ?_) (fun _ h => h)
    obtain ⟨rfl, rfl⟩ := h1021
    refine ⟨fun _ => ?_, fun hw => ?_⟩
    · skip
      have g1022 : TR s.toInt 0 0 0 0 0 κ1020 (mA1 κ1020 20 s.toNatClampNeg 40) := TR.put p1015.ps s0 rfl rfl
      have e1024 : ((mA1 κ1020 20 s.toNatClampNeg 40).1 19).toInt = (κ1020.1 19).toInt := rfl
      have e1025 : ((mA1 κ1020 20 s.toNatClampNeg 40).1 32).toInt = (κ1020.1 32).toInt := rfl
      have sr1027 : srt (mA1 κ1020 20 s.toNatClampNeg 40) = srt κ1020 := srt_off rfl
      have nd1026 := nd1013.pk (x := 40)
      have p1028 : TR (s.toInt) (0) 0 0 0 (-3) μ (mA1 κ1020 20 s.toNatClampNeg 40) := p1015.trS g1022 (Or.inr (Or.inl rfl)) rfl rfl rfl rfl (by omega)
      have k1029 := k1016.tr g1022 (Or.inr rfl) s0
      have cv1030 : CVs (mA1 κ1020 20 s.toNatClampNeg 40) (s.toInt + 1) (((mA1 κ1020 20 s.toNatClampNeg 40)).1 19).toInt [r974] := cv1017.st g1022.rb (Int.le_refl _) (Or.inl (by omega)) rfl
      refine ⟨TR.mi p1015.ps rfl rfl s0 (by omega), ?_⟩
      generalize mA1 κ1020 20 s.toNatClampNeg 40 = κ1023 at *
      have lt1031 : s.toInt < (κ1023.1 19).toInt := by omega
      have x1035 := p1028.px
      have u1036 := p1028.2
      have y1037 := tT p1028
      have z1038 := px0 p1028.ps
      refine MC.mono (hE κ1023 T h p1028.ps (by omega) (by omega) (by omega) (fun _ h => hT _ (p1028.1.1.tr h))) (fun r1032 κ1033 h1034 => ?_) (fun _ h => h)
      obtain ⟨q1039, a1041, g1040, n1042, c1043⟩ := h1034
      have l1044 := q1039.l19
      have l1045 := q1039.l32
      have p1046 : TR (s.toInt) (0) 0 0 0 (-3) μ κ1033 := p1028.trS q1039 (Or.inl (by decide)) rfl rfl rfl rfl (by omega)
      have k1047 := k1029.tr q1039 (Or.inl (by decide)) s0
      have cv1048 : CVs κ1033 (s.toInt + 1) ((κ1033).1 19).toInt [r1032, r974] := cv1030.add q1039.rb (Int.le_refl _) (Or.inl (by omega)) (by omega) l1044 (LCO.of g1040.in.1 c1043)
      have cx1049 := cv1030.rb q1039.rb (by omega) (Or.inl (by omega))
      have nd1050 := nd1026.tr q1039 (by have := @ic s; omega) (by omega)
      have lt1051 : s.toInt < (κ1033.1 19).toInt := by omega
      have k1052 : Kd κ1033 h s.toInt s 1 r1032 := Kd.of g1040 (by omega) (Int.le_refl _) s0 (Or.inl (by omega))
      have g1053 : TR s.toInt 0 0 0 0 0 κ1033 (mA1 κ1033 23 s.toNatClampNeg r1032) := TR.put p1046.ps s0 rfl rfl
      have e1055 : ((mA1 κ1033 23 s.toNatClampNeg r1032).1 19).toInt = (κ1033.1 19).toInt := rfl
      have e1056 : ((mA1 κ1033 23 s.toNatClampNeg r1032).1 32).toInt = (κ1033.1 32).toInt := rfl
      have sr1058 : srt (mA1 κ1033 23 s.toNatClampNeg r1032) = srt κ1033 := srt_off rfl
      have nd1057 := nd1050.pb (x := r1032)
      have p1059 : TR (s.toInt) (0) 0 0 0 (-3) μ (mA1 κ1033 23 s.toNatClampNeg r1032) := p1046.trS g1053 (Or.inr (Or.inl rfl)) rfl rfl rfl rfl (by omega)
      have k1060 := k1047.tr g1053 (Or.inr rfl) s0
      have k1061 := k1052.tr g1053 (Or.inr rfl) s0
      have cv1062 : CVs (mA1 κ1033 23 s.toNatClampNeg r1032) (s.toInt + 1) (((mA1 κ1033 23 s.toNatClampNeg r1032)).1 19).toInt [r1032, r974] := cv1048.st g1053.rb (Int.le_refl _) (Or.inl (by omega)) rfl
      have co1063 := c1043.rb g1053.rb (by omega) (Or.inl (by omega))
      have cx1064 := cx1049.rb g1053.rb (by omega) (Or.inl (by omega))
      have gg1065 := g1040.tr g1053 (by omega) (Or.inl (by omega))
      refine ⟨TR.mi p1046.ps rfl rfl s0 (by omega), ?_⟩
      generalize mA1 κ1033 23 s.toNatClampNeg r1032 = κ1054 at *
      have lt1066 : s.toInt < (κ1054.1 19).toInt := by omega
      refine MC.mono (c_is (by omega) p1059.ps) (fun r1067 κ1068 h1069 => ?_) (fun _ h => h)
      obtain ⟨rfl, rfl⟩ := h1069
      refine ⟨fun _ => ?_, fun _ => ?_⟩
      · skip
        exact ⟨⟨p1059.1, by have := p1059.2; omega⟩, G.mk s0 (Int.le_refl _) lt1066 nd1057 (by decide) (Kd.up k1060 (Nat.le_succ _)) (Kd.up k1061 (Nat.le_succ _)) True.intro True.intro True.intro, nd1057.2.2.2.2.2.2, (CO.fin' (by omega) cv1062 s0 ⟨fun h => Par.fb nd1057 (by decide) h, fun h => Par.fa nd1057 (by decide) h, True.intro⟩ lt1066)⟩
      · skip
        obtain ⟨i1, i2, i3⟩ := gg1065.in
        have hce := @ic r1032
        have uc := p1059.2
        have ac := p1059.ps.at
        have eb := nd1057.2.2.1
        refine ⟨TR.mi p1059.ps rfl rfl s0 (by omega), ?_⟩
        rw [eb]
        refine ⟨TR.mi p1059.ps rfl rfl i1 (by omega), fun _ => ?_, fun h70 => ⟨TR.mi p1059.ps rfl rfl s0 (by omega), TR.mi p1059.ps rfl rfl i1 (by omega), fun _ => ?_, fun _ => ?_⟩⟩
        · skip
          exact ⟨⟨p1059.1, by have := p1059.2; omega⟩, G.mk s0 (Int.le_refl _) lt1066 nd1057 (by decide) (Kd.up k1060 (Nat.le_succ _)) (Kd.up k1061 (Nat.le_succ _)) True.intro True.intro True.intro, nd1057.2.2.2.2.2.2, (CO.fin' (by omega) cv1062 s0 ⟨fun h => Par.fb nd1057 (by decide) h, fun h => Par.fa nd1057 (by decide) h, True.intro⟩ lt1066)⟩
        · skip
          exact ⟨⟨p1059.1, by have := p1059.2; omega⟩, G.mk s0 (Int.le_refl _) lt1066 nd1057 (by decide) (Kd.up k1060 (Nat.le_succ _)) (Kd.up k1061 (Nat.le_succ _)) True.intro True.intro True.intro, nd1057.2.2.2.2.2.2, (CO.fin' (by omega) cv1062 s0 ⟨fun h => Par.fb nd1057 (by decide) h, fun h => Par.fa nd1057 (by decide) h, True.intro⟩ lt1066)⟩
        · skip
          refine ⟨TR.mi p1059.ps rfl rfl s0 (by omega), ?_⟩
          have gg1070 := G.lp gg1065 h70
          have g1072 : TR s.toInt 0 0 0 0 0 κ1068 (mA1 κ1068 20 s.toNatClampNeg 42) := TR.put p1059.ps s0 rfl rfl
          have e1074 : ((mA1 κ1068 20 s.toNatClampNeg 42).1 19).toInt = (κ1068.1 19).toInt := rfl
          have e1075 : ((mA1 κ1068 20 s.toNatClampNeg 42).1 32).toInt = (κ1068.1 32).toInt := rfl
          have sr1077 : srt (mA1 κ1068 20 s.toNatClampNeg 42) = srt κ1068 := srt_off rfl
          have nd1076 := nd1057.pk (x := 42)
          have p1078 : TR (s.toInt) (0) 0 0 0 (-3) μ (mA1 κ1068 20 s.toNatClampNeg 42) := p1059.trS g1072 (Or.inr (Or.inl rfl)) rfl rfl rfl rfl (by omega)
          have k1079 := k1060.tr g1072 (Or.inr rfl) s0
          have cv1080 : CVs (mA1 κ1068 20 s.toNatClampNeg 42) (s.toInt + 1) (((mA1 κ1068 20 s.toNatClampNeg 42)).1 19).toInt [r1032, r974] := cv1062.st g1072.rb (Int.le_refl _) (Or.inl (by omega)) rfl
          have co1081 := co1063.rb g1072.rb (by omega) (Or.inl (by omega))
          have cx1082 := cx1064.rb g1072.rb (by omega) (Or.inl (by omega))
          have gg1083 := gg1070.tr g1072 (by omega) (Or.inl (by omega))
          refine ⟨TR.mi p1059.ps rfl rfl s0 (by omega), ?_⟩
          generalize mA1 κ1068 20 s.toNatClampNeg 42 = κ1073 at *
          have lt1084 : s.toInt < (κ1073.1 19).toInt := by omega
          have x1093 := p1078.px
          have u1094 := p1078.2
          have y1095 := tT p1078
          have z1096 := px0 p1078.ps
          refine MC.mono (hC κ1073 T h r1032 (_) p1078.ps (by omega) (by omega) (by omega) (by omega) (by omega) (gg1083.up (Nat.le_refl _) (Int.le_refl _) (by omega)) (CO.ub co1081 (by omega)) (fun _ h => hT _ (p1078.1.1.tr h))) (fun r1086 κ1087 h1088 => ?_) (fun _ h => h)
          obtain ⟨q1089, a1090, g1091, n1092, c1097⟩ := h1088
          have l1098 := q1089.l19
          have l1099 := q1089.l32
          have p1100 : TR (s.toInt) (0) 0 0 0 (-3) μ κ1087 := p1078.trS q1089 (Or.inl (by decide)) rfl rfl rfl rfl (by omega)
          have k1101 := k1079.tr q1089 (Or.inl (by decide)) s0
          have cx1102 := cx1082.rb q1089.rb (by omega) (Or.inl (by omega))
          have cv1103 : CVs κ1087 (s.toInt + 1) (κ1087.1 19).toInt [r1086, r974] := cx1102.add (e := -1) (n := (κ1087.1 19).toInt) RB.rf (by omega) (Or.inl (by omega)) (by omega) (by omega) (LCO.of g1091.in.1 c1097)
          have nd1104 := nd1076.tr q1089 (by have := @ic s; omega) (by omega)
          have lt1105 : s.toInt < (κ1087.1 19).toInt := by omega
          have k1106 : Kd κ1087 (h + 1) s.toInt s 17 r1086 := Kd.of g1091 (by omega) (Int.le_refl _) s0 (Or.inl (by omega))
          have g1107 : TR s.toInt 0 0 0 0 0 κ1087 (mA1 κ1087 23 s.toNatClampNeg r1086) := TR.put p1100.ps s0 rfl rfl
          have e1109 : ((mA1 κ1087 23 s.toNatClampNeg r1086).1 19).toInt = (κ1087.1 19).toInt := rfl
          have e1110 : ((mA1 κ1087 23 s.toNatClampNeg r1086).1 32).toInt = (κ1087.1 32).toInt := rfl
          have sr1112 : srt (mA1 κ1087 23 s.toNatClampNeg r1086) = srt κ1087 := srt_off rfl
          have nd1111 := nd1104.pb (x := r1086)
          have p1113 : TR (s.toInt) (0) 0 0 0 (-3) μ (mA1 κ1087 23 s.toNatClampNeg r1086) := p1100.trS g1107 (Or.inr (Or.inl rfl)) rfl rfl rfl rfl (by omega)
          have k1114 := k1101.tr g1107 (Or.inr rfl) s0
          have k1115 := k1106.tr g1107 (Or.inr rfl) s0
          have cv1116 : CVs (mA1 κ1087 23 s.toNatClampNeg r1086) (s.toInt + 1) (((mA1 κ1087 23 s.toNatClampNeg r1086)).1 19).toInt [r1086, r974] := cv1103.st g1107.rb (Int.le_refl _) (Or.inl (by omega)) rfl
          refine ⟨TR.mi p1100.ps rfl rfl s0 (by omega), ?_⟩
          generalize mA1 κ1087 23 s.toNatClampNeg r1086 = κ1108 at *
          have lt1117 : s.toInt < (κ1108.1 19).toInt := by omega
          exact ⟨⟨p1113.1, by have := p1113.2; omega⟩, G.mk s0 (Int.le_refl _) lt1117 nd1111 (by decide) (Or.inr (Kd.up k1114 (Nat.le_succ _))) (k1115) True.intro True.intro True.intro, nd1111.2.2.2.2.2.2, (CO.fin' (by omega) cv1116 s0 ⟨fun h => Par.fb nd1111 (by decide) h, fun h => Par.fa nd1111 (by decide) h, True.intro⟩ lt1117)⟩
    · skip
      have hw3 : ¬ srt κ1020 = 203 := by rw [is_t hw]; decide
      have g1118 : TR s.toInt 0 0 0 0 0 κ1020 (mA1 κ1020 20 s.toNatClampNeg 41) := TR.put p1015.ps s0 rfl rfl
      have e1120 : ((mA1 κ1020 20 s.toNatClampNeg 41).1 19).toInt = (κ1020.1 19).toInt := rfl
      have e1121 : ((mA1 κ1020 20 s.toNatClampNeg 41).1 32).toInt = (κ1020.1 32).toInt := rfl
      have sr1123 : srt (mA1 κ1020 20 s.toNatClampNeg 41) = srt κ1020 := srt_off rfl
      have nd1122 := nd1013.pk (x := 41)
      have p1124 : TR (s.toInt) (0) 0 0 0 (-3) μ (mA1 κ1020 20 s.toNatClampNeg 41) := p1015.trS g1118 (Or.inr (Or.inl rfl)) rfl rfl rfl rfl (by omega)
      have k1125 := k1016.tr g1118 (Or.inr rfl) s0
      have cv1126 : CVs (mA1 κ1020 20 s.toNatClampNeg 41) (s.toInt + 1) (((mA1 κ1020 20 s.toNatClampNeg 41)).1 19).toInt [r974] := cv1017.st g1118.rb (Int.le_refl _) (Or.inl (by omega)) rfl
      refine ⟨TR.mi p1015.ps rfl rfl s0 (by omega), ?_⟩
      generalize mA1 κ1020 20 s.toNatClampNeg 41 = κ1119 at *
      have lt1127 : s.toInt < (κ1119.1 19).toInt := by omega
      have hw4 : ¬ srt κ1119 = 203 := by rw [sr1123]; exact hw3
      refine MC.mono (t_next (by omega) p1124.ps (hw4) (fun _ h => hT _ (p1124.1.1.tr h))) (fun v1128 κ1133 h1129 => ?_) (fun _ h => h)
      obtain ⟨q1130, m1131, a1132⟩ := h1129
      have p1134 : TR (s.toInt) (0) 0 0 0 (-5) μ κ1133 := p1124.trS q1130 (Or.inl (by decide)) rfl rfl rfl rfl (by omega)
      have k1135 := k1125.tr q1130 (Or.inl (by decide)) s0
      have cv1136 : CVs κ1133 (s.toInt + 1) ((κ1133).1 19).toInt [r974] := cv1126.st q1130.rb (Int.le_refl _) (Or.inl (by omega)) m1131
      have nd1137 := nd1122.tr q1130 (by have := @ic s; omega) (by omega)
      have lt1138 : s.toInt < (κ1133.1 19).toInt := by omega
      have x1142 := p1134.px
      have u1143 := p1134.2
      have y1144 := tT p1134
      have z1145 := px0 p1134.ps
      refine MC.mono (hP κ1133 T h p1134.ps (by omega) (by omega) (by omega) (fun _ h => hT _ (p1134.1.1.tr h))) (fun r1139 κ1140 h1141 => ?_) (fun _ h => h)
      obtain ⟨q1146, a1148, g1147, n1149, c1150⟩ := h1141
      have l1151 := q1146.l19
      have l1152 := q1146.l32
      have p1153 : TR (s.toInt) (0) 0 0 0 (-5) μ κ1140 := p1134.trS q1146 (Or.inl (by decide)) rfl rfl rfl rfl (by omega)
      have k1154 := k1135.tr q1146 (Or.inl (by decide)) s0
      have cv1155 : CVs κ1140 (s.toInt + 1) ((κ1140).1 19).toInt [r1139, r974] := cv1136.add q1146.rb (Int.le_refl _) (Or.inl (by omega)) (by omega) l1151 (LCO.of g1147.in.1 c1150)
      have cx1156 := cv1136.rb q1146.rb (by omega) (Or.inl (by omega))
      have nd1157 := nd1137.tr q1146 (by have := @ic s; omega) (by omega)
      have lt1158 : s.toInt < (κ1140.1 19).toInt := by omega
      have k1159 : Kd κ1140 h s.toInt s 2 r1139 := Kd.of g1147 (by omega) (Int.le_refl _) s0 (Or.inl (by omega))
      refine MC.mono (c_is (by omega) p1153.ps) (fun r1160 κ1161 h1162 => ?_) (fun _ h => h)
      obtain ⟨rfl, rfl⟩ := h1162
      refine ⟨fun _ => ?_, fun _ => MC.mono (c_unfit (by omega) p1153.ps (fun _ h => hT _ (p1153.1.1.tr h))) (fun _ _ h => h.elim) (fun _ h => h)⟩
      have x1170 := p1153.px
      have u1171 := p1153.2
      have y1172 := tT p1153
      have z1173 := px0 p1153.ps
      refine MC.mono (hC κ1161 T h r1139 (_) p1153.ps (by omega) (by omega) (by omega) (by omega) (by omega) (g1147.up (Nat.le_refl _) (Int.le_refl _) (by omega)) (CO.ub c1150 (by omega)) (fun _ h => hT _ (p1153.1.1.tr h))) (fun r1163 κ1164 h1165 => ?_) (fun _ h => h)
      obtain ⟨q1166, a1167, g1168, n1169, c1174⟩ := h1165
      have l1175 := q1166.l19
      have l1176 := q1166.l32
      have p1177 : TR (s.toInt) (0) 0 0 0 (-5) μ κ1164 := p1153.trS q1166 (Or.inl (by decide)) rfl rfl rfl rfl (by omega)
      have k1178 := k1154.tr q1166 (Or.inl (by decide)) s0
      have cx1179 := cx1156.rb q1166.rb (by omega) (Or.inl (by omega))
      have cv1180 : CVs κ1164 (s.toInt + 1) (κ1164.1 19).toInt [r1163, r974] := cx1179.add (e := -1) (n := (κ1164.1 19).toInt) RB.rf (by omega) (Or.inl (by omega)) (by omega) (by omega) (LCO.of g1168.in.1 c1174)
      have nd1181 := nd1157.tr q1166 (by have := @ic s; omega) (by omega)
      have lt1182 : s.toInt < (κ1164.1 19).toInt := by omega
      have k1183 : Kd κ1164 (h + 1) s.toInt s 17 r1163 := Kd.of g1168 (by omega) (Int.le_refl _) s0 (Or.inl (by omega))
      have g1184 : TR s.toInt 0 0 0 0 0 κ1164 (mA1 κ1164 23 s.toNatClampNeg r1163) := TR.put p1177.ps s0 rfl rfl
      have e1186 : ((mA1 κ1164 23 s.toNatClampNeg r1163).1 19).toInt = (κ1164.1 19).toInt := rfl
      have e1187 : ((mA1 κ1164 23 s.toNatClampNeg r1163).1 32).toInt = (κ1164.1 32).toInt := rfl
      have sr1189 : srt (mA1 κ1164 23 s.toNatClampNeg r1163) = srt κ1164 := srt_off rfl
      have nd1188 := nd1181.pb (x := r1163)
      have p1190 : TR (s.toInt) (0) 0 0 0 (-5) μ (mA1 κ1164 23 s.toNatClampNeg r1163) := p1177.trS g1184 (Or.inr (Or.inl rfl)) rfl rfl rfl rfl (by omega)
      have k1191 := k1178.tr g1184 (Or.inr rfl) s0
      have k1192 := k1183.tr g1184 (Or.inr rfl) s0
      have cv1193 : CVs (mA1 κ1164 23 s.toNatClampNeg r1163) (s.toInt + 1) (((mA1 κ1164 23 s.toNatClampNeg r1163)).1 19).toInt [r1163, r974] := cv1180.st g1184.rb (Int.le_refl _) (Or.inl (by omega)) rfl
      refine ⟨TR.mi p1177.ps rfl rfl s0 (by omega), ?_⟩
      generalize mA1 κ1164 23 s.toNatClampNeg r1163 = κ1185 at *
      have lt1194 : s.toInt < (κ1185.1 19).toInt := by omega
      exact ⟨⟨p1190.1, by have := p1190.2; omega⟩, G.mk s0 (Int.le_refl _) lt1194 nd1188 (by decide) (Kd.up k1191 (Nat.le_succ _)) (k1192) True.intro True.intro True.intro, nd1188.2.2.2.2.2.2, (CO.fin' (by omega) cv1193 s0 ⟨fun h => Par.fb nd1188 (by decide) h, fun h => Par.fa nd1188 (by decide) h, True.intro⟩ lt1194)⟩
  · skip
    have g1195 : TR s.toInt 0 0 0 0 0 κ996 (mA1 κ996 20 s.toNatClampNeg 42) := TR.put p994.ps s0 rfl rfl
    have e1197 : ((mA1 κ996 20 s.toNatClampNeg 42).1 19).toInt = (κ996.1 19).toInt := rfl
    have e1198 : ((mA1 κ996 20 s.toNatClampNeg 42).1 32).toInt = (κ996.1 32).toInt := rfl
    have sr1200 : srt (mA1 κ996 20 s.toNatClampNeg 42) = srt κ996 := srt_off rfl
    have nd1199 := nd991.pk (x := 42)
    have p1201 : TR (s.toInt) (0) 0 0 0 (-1) μ (mA1 κ996 20 s.toNatClampNeg 42) := p994.trS g1195 (Or.inr (Or.inl rfl)) rfl rfl rfl rfl (by omega)
    have cv1202 : CVs (mA1 κ996 20 s.toNatClampNeg 42) (s.toInt + 1) (((mA1 κ996 20 s.toNatClampNeg 42)).1 19).toInt [r974] := cv989.st g1195.rb (Int.le_refl _) (Or.inl (by omega)) rfl
    have co1203 := c985.rb g1195.rb (by omega) (Or.inl (by omega))
    have cx1204 := cx990.rb g1195.rb (by omega) (Or.inl (by omega))
    have gg1205 := g982.tr g1195 (by omega) (Or.inl (by omega))
    refine ⟨TR.mi p994.ps rfl rfl s0 (by omega), ?_⟩
    generalize mA1 κ996 20 s.toNatClampNeg 42 = κ1196 at *
    have lt1206 : s.toInt < (κ1196.1 19).toInt := by omega
    have x1214 := p1201.px
    have u1215 := p1201.2
    have y1216 := tT p1201
    have z1217 := px0 p1201.ps
    refine MC.mono (hC κ1196 T h r974 (_) p1201.ps (by omega) (by omega) (by omega) (by omega) (by omega) (gg1205.up (Nat.le_refl _) (Int.le_refl _) (by omega)) (CO.ub co1203 (by omega)) (fun _ h => hT _ (p1201.1.1.tr h))) (fun r1207 κ1208 h1209 => ?_) (fun _ h => h)
    obtain ⟨q1210, a1211, g1212, n1213, c1218⟩ := h1209
    have l1219 := q1210.l19
    have l1220 := q1210.l32
    have p1221 : TR (s.toInt) (0) 0 0 0 (-1) μ κ1208 := p1201.trS q1210 (Or.inl (by decide)) rfl rfl rfl rfl (by omega)
    have cx1222 := cx1204.rb q1210.rb (by omega) (Or.inl (by omega))
    have cv1223 : CVs κ1208 (s.toInt + 1) (κ1208.1 19).toInt [r1207] := cx1222.add (e := -1) (n := (κ1208.1 19).toInt) RB.rf (by omega) (Or.inl (by omega)) (by omega) (by omega) (LCO.of g1212.in.1 c1218)
    have nd1224 := nd1199.tr q1210 (by have := @ic s; omega) (by omega)
    have lt1225 : s.toInt < (κ1208.1 19).toInt := by omega
    have k1226 : Kd κ1208 (h + 1) s.toInt s 17 r1207 := Kd.of g1212 (by omega) (Int.le_refl _) s0 (Or.inl (by omega))
    have g1227 : TR s.toInt 0 0 0 0 0 κ1208 (mA1 κ1208 23 s.toNatClampNeg r1207) := TR.put p1221.ps s0 rfl rfl
    have e1229 : ((mA1 κ1208 23 s.toNatClampNeg r1207).1 19).toInt = (κ1208.1 19).toInt := rfl
    have e1230 : ((mA1 κ1208 23 s.toNatClampNeg r1207).1 32).toInt = (κ1208.1 32).toInt := rfl
    have sr1232 : srt (mA1 κ1208 23 s.toNatClampNeg r1207) = srt κ1208 := srt_off rfl
    have nd1231 := nd1224.pb (x := r1207)
    have p1233 : TR (s.toInt) (0) 0 0 0 (-1) μ (mA1 κ1208 23 s.toNatClampNeg r1207) := p1221.trS g1227 (Or.inr (Or.inl rfl)) rfl rfl rfl rfl (by omega)
    have k1234 := k1226.tr g1227 (Or.inr rfl) s0
    have cv1235 : CVs (mA1 κ1208 23 s.toNatClampNeg r1207) (s.toInt + 1) (((mA1 κ1208 23 s.toNatClampNeg r1207)).1 19).toInt [r1207] := cv1223.st g1227.rb (Int.le_refl _) (Or.inl (by omega)) rfl
    refine ⟨TR.mi p1221.ps rfl rfl s0 (by omega), ?_⟩
    generalize mA1 κ1208 23 s.toNatClampNeg r1207 = κ1228 at *
    have lt1236 : s.toInt < (κ1228.1 19).toInt := by omega
    exact ⟨⟨p1233.1, by have := p1233.2; omega⟩, G.mk s0 (Int.le_refl _) lt1236 nd1231 (by decide) (Or.inl rfl) (k1234) True.intro True.intro True.intro, nd1231.2.2.2.2.2.2, (CO.fin' (by omega) cv1235 s0 ⟨fun h => Par.fb nd1231 (by decide) h, True.intro⟩ lt1236)⟩
theorem st_statement (hE : XC X W P 332 [] 1 20 12 0 0 d) (hSt : SL X W P 321 [] 3 19 11 d) (hA : ArC X W P d) (hFor : FiC X W P 324 0 0 d) (hTry : FiC X W P 325 0 0 d) (hTc : FiC X W P 327 0 0 d) (hBy : FiC X W P 329 1 1 d) : SC X W P 322 3 22 14 (d + 1) := fun μ T h9 hS hd hh hn hT hb => by
  have hp := px0 hS
  have h0 := hS.2.2.2.2.1
  have at0 := hS.at
  have hb0 := hS.2.2.2.2.2.1.1
  obtain ⟨h, rfl⟩ : ∃ h, h9 = h + 1 := ⟨h9 - 1, by omega⟩
  refine me_meth (by omega) rfl (v_statement_0 (MC.mono (t_node (by omega) hS (by omega)) (fun s ν h1 => ?_) (fun _ h => h)))
  obtain ⟨q1, ⟨q2, s0⟩, q3, q4, q5, q6⟩ := h1
  have hcs := @ic s
  have s9 : s.toInt < 15990 := by omega
  have atν := q1.ps.at
  have hs3 : ¬ srt ν = 203 := by rw [q5]; exact bgS_e hb
  have xν := q1.px
  refine ⟨MI.of (q1.ps.1.g rfl rfl : _ = 6002) atν.1 atν.2, fun _ => ?_, fun _ => MC.mono (hBy ν T h s q1.ps (by omega) (by omega) (by omega) (fun _ h => hT _ (q1.1.1.tr h)) s0 (by omega) q6) (fun r κ hk => ?_) (fun _ h => h)⟩
  · generalize ν.2.1 9 (ν.1 32).toNatClampNeg = w
    refine MC.mono (t_next (by omega) q1.ps hs3 (fun _ h => hT _ (q1.1.1.tr h))) (fun _ κ hk => ?_) (fun _ h => h)
    obtain ⟨m1, m2, m3⟩ := hk
    have p0 : TR (-1) 0 0 0 0 (-1) μ κ := q1.tr m1 (Or.inl (by decide)) rfl rfl rfl rfl (by omega)
    have nd0 := q6.tr m1 (by omega) (by omega)
    have lt0 : s.toInt < (κ.1 19).toInt := by omega
    have xκ := p0.px
    have cv0 : CVs κ (s.toInt + 1) (κ.1 19).toInt [] := CVs.nil (by omega)
    have fill : ∀ k, FiC X W P k 0 0 d → MC X W true d k [.ref P.1, .int s] P κ (fun _ κ1 => ME X W true d 322 553 [(0, .ref P.1), (1, .int s), (2, .int w)] [] P κ1 (fun r μ1 => XN 0 3 (h + 1) μ r μ1) T) T := fun k hk => MC.mono (hk κ T h s p0.ps (by omega) (by omega) (by omega) (fun _ h => hT _ (p0.1.1.tr h)) s0 (by omega) nd0) (fun r κ1 h1 => by
      obtain ⟨z1, z2, z3, z4⟩ := h1
      have l1 := z1.l32
      exact v_statement_553 _ _ ⟨p0.tr z1 (Or.inr (by omega)) rfl rfl rfl rfl (by omega), by omega, z2.up (Nat.le_refl _) (by omega) (Int.le_refl _), z3, by rw [← q2]; exact z4⟩) (fun _ h => h)
    refine ⟨fun _ => ?_, fun _ => fill 324 hFor, fun _ => ?_, fun _ => ?_, fun _ => ?_, fun _ => ?_, fun _ => ?_, fun _ => fill 325 hTry, fun _ => fill 327 hTc, fun _ => ?_, fun _ => ?_, fun _ => ⟨fun _ => ⟨fun _ => ⟨fun _ => ?_, fun _ => ?_⟩, fun _ => ?_⟩, fun _ => ?_⟩⟩
    · skip
      exact v_statement_553 _ _ ⟨⟨p0.1, by have := p0.2; omega⟩, by omega, (G.mk (lo := s.toInt) s0 (Int.le_refl _) lt0 nd0 (by decide) True.intro True.intro True.intro True.intro True.intro : G κ (h + 1) (bt s.toInt (κ.1 19).toInt) 3 s).up (Nat.le_refl _) (by omega) (Int.le_refl _), nd0.2.2.2.2.2.2, (CO.fin' (by omega) cv0 s0 True.intro lt0)⟩
    · skip
      have g1237 : TR s.toInt 0 0 0 0 0 κ (mA1 κ 20 s.toNatClampNeg 44) := TR.put p0.ps s0 rfl rfl
      have e1239 : ((mA1 κ 20 s.toNatClampNeg 44).1 19).toInt = (κ.1 19).toInt := rfl
      have e1240 : ((mA1 κ 20 s.toNatClampNeg 44).1 32).toInt = (κ.1 32).toInt := rfl
      have sr1242 : srt (mA1 κ 20 s.toNatClampNeg 44) = srt κ := srt_off rfl
      have nd1241 := nd0.pk (x := 44)
      have p1243 : TR (-1) (0) 0 0 0 (-1) μ (mA1 κ 20 s.toNatClampNeg 44) := p0.trS g1237 (Or.inr (Or.inr (by omega))) rfl rfl rfl rfl (by omega)
      have cv1244 : CVs (mA1 κ 20 s.toNatClampNeg 44) (s.toInt + 1) (((mA1 κ 20 s.toNatClampNeg 44)).1 19).toInt [] := cv0.st g1237.rb (Int.le_refl _) (Or.inl (by omega)) rfl
      refine ⟨TR.mi p0.ps rfl rfl s0 (by omega), ?_⟩
      generalize mA1 κ 20 s.toNatClampNeg 44 = κ1238 at *
      have lt1245 : s.toInt < (κ1238.1 19).toInt := by omega
      have x1246 := p1243.px
      have u1247 := p1243.2
      have y1248 := tT p1243
      have z1249 := px0 p1243.ps
      refine MC.mono (hA κ1238 T h p1243.ps (by omega) (by omega) (by omega) (fun _ h => hT _ (p1243.1.1.tr h))) (fun r4 κ4 h4 => ?_) (fun _ h => h)
      obtain ⟨qA, neA, gA, cA⟩ := h4
      have lA := qA.l19
      have lA2 := qA.l32
      have p1250 : TR (-1) (0) 0 0 0 (-1) μ κ4 := p1243.trS qA (Or.inl (by decide)) rfl rfl rfl rfl (by omega)
      have cv1251 : CVs κ4 (s.toInt + 1) ((κ4).1 19).toInt [r4] := cv1244.add qA.rb (Int.le_refl _) (Or.inl (by omega)) (by omega) lA cA
      have nd1252 := nd1241.tr qA (by have := @ic s; omega) (by omega)
      have lt1253 : s.toInt < (κ4.1 19).toInt := by omega
      have kA : KL κ4 h s.toInt s 13 r4 := KL.of gA (by omega) (Int.le_refl _) s0 (Or.inl (by omega))
      have g1254 : TR s.toInt 0 0 0 0 0 κ4 (mA1 κ4 22 s.toNatClampNeg r4) := TR.put p1250.ps s0 rfl rfl
      have e1256 : ((mA1 κ4 22 s.toNatClampNeg r4).1 19).toInt = (κ4.1 19).toInt := rfl
      have e1257 : ((mA1 κ4 22 s.toNatClampNeg r4).1 32).toInt = (κ4.1 32).toInt := rfl
      have sr1259 : srt (mA1 κ4 22 s.toNatClampNeg r4) = srt κ4 := srt_off rfl
      have nd1258 := nd1252.pa (x := r4)
      have p1260 : TR (-1) (0) 0 0 0 (-1) μ (mA1 κ4 22 s.toNatClampNeg r4) := p1250.trS g1254 (Or.inr (Or.inr (by omega))) rfl rfl rfl rfl (by omega)
      have k1261 := kA.tr g1254 (Or.inr rfl) s0
      have cv1262 : CVs (mA1 κ4 22 s.toNatClampNeg r4) (s.toInt + 1) (((mA1 κ4 22 s.toNatClampNeg r4)).1 19).toInt [r4] := cv1251.st g1254.rb (Int.le_refl _) (Or.inl (by omega)) rfl
      refine ⟨TR.mi p1250.ps rfl rfl s0 (by omega), ?_⟩
      generalize mA1 κ4 22 s.toNatClampNeg r4 = κ1255 at *
      have lt1263 : s.toInt < (κ1255.1 19).toInt := by omega
      exact v_statement_553 _ _ ⟨⟨p1260.1, by have := p1260.2; omega⟩, by omega, (G.mk (lo := s.toInt) s0 (Int.le_refl _) lt1263 nd1258 (by decide) (⟨neA, k1261⟩) True.intro True.intro True.intro True.intro : G κ1255 (h + 1) (bt s.toInt (κ1255.1 19).toInt) 3 s).up (Nat.le_refl _) (by omega) (Int.le_refl _), nd1258.2.2.2.2.2.2, (CO.fin' (by omega) cv1262 s0 ⟨fun h => Par.fa nd1258 (by decide) h, True.intro⟩ lt1263)⟩
    · skip
      have g1264 : TR s.toInt 0 0 0 0 0 κ (mA1 κ 20 s.toNatClampNeg 54) := TR.put p0.ps s0 rfl rfl
      have e1266 : ((mA1 κ 20 s.toNatClampNeg 54).1 19).toInt = (κ.1 19).toInt := rfl
      have e1267 : ((mA1 κ 20 s.toNatClampNeg 54).1 32).toInt = (κ.1 32).toInt := rfl
      have sr1269 : srt (mA1 κ 20 s.toNatClampNeg 54) = srt κ := srt_off rfl
      have nd1268 := nd0.pk (x := 54)
      have p1270 : TR (-1) (0) 0 0 0 (-1) μ (mA1 κ 20 s.toNatClampNeg 54) := p0.trS g1264 (Or.inr (Or.inr (by omega))) rfl rfl rfl rfl (by omega)
      have cv1271 : CVs (mA1 κ 20 s.toNatClampNeg 54) (s.toInt + 1) (((mA1 κ 20 s.toNatClampNeg 54)).1 19).toInt [] := cv0.st g1264.rb (Int.le_refl _) (Or.inl (by omega)) rfl
      refine ⟨TR.mi p0.ps rfl rfl s0 (by omega), ?_⟩
      generalize mA1 κ 20 s.toNatClampNeg 54 = κ1265 at *
      have lt1272 : s.toInt < (κ1265.1 19).toInt := by omega
      have x1276 := p1270.px
      have u1277 := p1270.2
      have y1278 := tT p1270
      have z1279 := px0 p1270.ps
      refine MC.mono (hE κ1265 T h p1270.ps (by omega) (by omega) (by omega) (fun _ h => hT _ (p1270.1.1.tr h))) (fun r1273 κ1274 h1275 => ?_) (fun _ h => h)
      obtain ⟨q1280, a1282, g1281, n1283, c1284⟩ := h1275
      have l1285 := q1280.l19
      have l1286 := q1280.l32
      have p1287 : TR (-1) (0) 0 0 0 (-1) μ κ1274 := p1270.trS q1280 (Or.inl (by decide)) rfl rfl rfl rfl (by omega)
      have cv1288 : CVs κ1274 (s.toInt + 1) ((κ1274).1 19).toInt [r1273] := cv1271.add q1280.rb (Int.le_refl _) (Or.inl (by omega)) (by omega) l1285 (LCO.of g1281.in.1 c1284)
      have nd1289 := nd1268.tr q1280 (by have := @ic s; omega) (by omega)
      have lt1290 : s.toInt < (κ1274.1 19).toInt := by omega
      have k1291 : Kd κ1274 h s.toInt s 1 r1273 := Kd.of g1281 (by omega) (Int.le_refl _) s0 (Or.inl (by omega))
      have g1292 : TR s.toInt 0 0 0 0 0 κ1274 (mA1 κ1274 22 s.toNatClampNeg r1273) := TR.put p1287.ps s0 rfl rfl
      have e1294 : ((mA1 κ1274 22 s.toNatClampNeg r1273).1 19).toInt = (κ1274.1 19).toInt := rfl
      have e1295 : ((mA1 κ1274 22 s.toNatClampNeg r1273).1 32).toInt = (κ1274.1 32).toInt := rfl
      have sr1297 : srt (mA1 κ1274 22 s.toNatClampNeg r1273) = srt κ1274 := srt_off rfl
      have nd1296 := nd1289.pa (x := r1273)
      have p1298 : TR (-1) (0) 0 0 0 (-1) μ (mA1 κ1274 22 s.toNatClampNeg r1273) := p1287.trS g1292 (Or.inr (Or.inr (by omega))) rfl rfl rfl rfl (by omega)
      have k1299 := k1291.tr g1292 (Or.inr rfl) s0
      have cv1300 : CVs (mA1 κ1274 22 s.toNatClampNeg r1273) (s.toInt + 1) (((mA1 κ1274 22 s.toNatClampNeg r1273)).1 19).toInt [r1273] := cv1288.st g1292.rb (Int.le_refl _) (Or.inl (by omega)) rfl
      refine ⟨TR.mi p1287.ps rfl rfl s0 (by omega), ?_⟩
      generalize mA1 κ1274 22 s.toNatClampNeg r1273 = κ1293 at *
      have lt1301 : s.toInt < (κ1293.1 19).toInt := by omega
      refine MC.mono (t_expect (by omega) p1298.ps (by decide) (fun _ h => hT _ (p1298.1.1.tr h))) (fun v1302 κ1307 h1303 => ?_) (fun _ h => h)
      obtain ⟨q1304, m1305, a1306⟩ := h1303
      have p1308 : TR (-1) (0) 0 0 0 (-3) μ κ1307 := p1298.trS q1304 (Or.inl (by decide)) rfl rfl rfl rfl (by omega)
      have k1309 := k1299.tr q1304 (Or.inl (by decide)) s0
      have cv1310 : CVs κ1307 (s.toInt + 1) ((κ1307).1 19).toInt [r1273] := cv1300.st q1304.rb (Int.le_refl _) (Or.inl (by omega)) m1305
      have nd1311 := nd1296.tr q1304 (by have := @ic s; omega) (by omega)
      have lt1312 : s.toInt < (κ1307.1 19).toInt := by omega
      have x1316 := p1308.px
      have u1317 := p1308.2
      have y1318 := tT p1308
      have z1319 := px0 p1308.ps
      refine MC.mono (hSt κ1307 T h p1308.ps (by omega) (by omega) (by omega) (fun _ h => hT _ (p1308.1.1.tr h))) (fun r1313 κ1314 h1315 => ?_) (fun _ h => h)
      obtain ⟨q1320, g1321, c1322⟩ := h1315
      have l1323 := q1320.l19
      have l1324 := q1320.l32
      have p1325 : TR (-1) (0) 0 0 0 (-3) μ κ1314 := p1308.trS q1320 (Or.inl (by decide)) rfl rfl rfl rfl (by omega)
      have k1326 := k1309.tr q1320 (Or.inl (by decide)) s0
      have cv1327 : CVs κ1314 (s.toInt + 1) ((κ1314).1 19).toInt [r1313, r1273] := cv1310.add q1320.rb (Int.le_refl _) (Or.inl (by omega)) (by omega) l1323 (c1322)
      have nd1328 := nd1311.tr q1320 (by have := @ic s; omega) (by omega)
      have lt1329 : s.toInt < (κ1314.1 19).toInt := by omega
      have k1330 : KL κ1314 h s.toInt s 3 r1313 := KL.of g1321 (by omega) (Int.le_refl _) s0 (Or.inl (by omega))
      have g1331 : TR s.toInt 0 0 0 0 0 κ1314 (mA1 κ1314 23 s.toNatClampNeg r1313) := TR.put p1325.ps s0 rfl rfl
      have e1333 : ((mA1 κ1314 23 s.toNatClampNeg r1313).1 19).toInt = (κ1314.1 19).toInt := rfl
      have e1334 : ((mA1 κ1314 23 s.toNatClampNeg r1313).1 32).toInt = (κ1314.1 32).toInt := rfl
      have sr1336 : srt (mA1 κ1314 23 s.toNatClampNeg r1313) = srt κ1314 := srt_off rfl
      have nd1335 := nd1328.pb (x := r1313)
      have p1337 : TR (-1) (0) 0 0 0 (-3) μ (mA1 κ1314 23 s.toNatClampNeg r1313) := p1325.trS g1331 (Or.inr (Or.inr (by omega))) rfl rfl rfl rfl (by omega)
      have k1338 := k1326.tr g1331 (Or.inr rfl) s0
      have k1339 := k1330.tr g1331 (Or.inr rfl) s0
      have cv1340 : CVs (mA1 κ1314 23 s.toNatClampNeg r1313) (s.toInt + 1) (((mA1 κ1314 23 s.toNatClampNeg r1313)).1 19).toInt [r1313, r1273] := cv1327.st g1331.rb (Int.le_refl _) (Or.inl (by omega)) rfl
      refine ⟨TR.mi p1325.ps rfl rfl s0 (by omega), ?_⟩
      generalize mA1 κ1314 23 s.toNatClampNeg r1313 = κ1332 at *
      have lt1341 : s.toInt < (κ1332.1 19).toInt := by omega
      refine MC.mono (t_expect (by omega) p1337.ps (by decide) (fun _ h => hT _ (p1337.1.1.tr h))) (fun v1342 κ1347 h1343 => ?_) (fun _ h => h)
      obtain ⟨q1344, m1345, a1346⟩ := h1343
      have p1348 : TR (-1) (0) 0 0 0 (-5) μ κ1347 := p1337.trS q1344 (Or.inl (by decide)) rfl rfl rfl rfl (by omega)
      have k1349 := k1338.tr q1344 (Or.inl (by decide)) s0
      have k1350 := k1339.tr q1344 (Or.inl (by decide)) s0
      have cv1351 : CVs κ1347 (s.toInt + 1) ((κ1347).1 19).toInt [r1313, r1273] := cv1340.st q1344.rb (Int.le_refl _) (Or.inl (by omega)) m1345
      have nd1352 := nd1335.tr q1344 (by have := @ic s; omega) (by omega)
      have lt1353 : s.toInt < (κ1347.1 19).toInt := by omega
      exact v_statement_553 _ _ ⟨⟨p1348.1, by have := p1348.2; omega⟩, by omega, (G.mk (lo := s.toInt) s0 (Int.le_refl _) lt1353 nd1352 (by decide) (k1349) (k1350) True.intro True.intro True.intro : G κ1347 (h + 1) (bt s.toInt (κ1347.1 19).toInt) 3 s).up (Nat.le_refl _) (by omega) (Int.le_refl _), nd1352.2.2.2.2.2.2, (CO.fin' (by omega) cv1351 s0 ⟨fun h => Par.fb nd1352 (by decide) h, fun h => Par.fa nd1352 (by decide) h, True.intro⟩ lt1353)⟩
    · skip
      have g1354 : TR s.toInt 0 0 0 0 0 κ (mA1 κ 20 s.toNatClampNeg 47) := TR.put p0.ps s0 rfl rfl
      have e1356 : ((mA1 κ 20 s.toNatClampNeg 47).1 19).toInt = (κ.1 19).toInt := rfl
      have e1357 : ((mA1 κ 20 s.toNatClampNeg 47).1 32).toInt = (κ.1 32).toInt := rfl
      have sr1359 : srt (mA1 κ 20 s.toNatClampNeg 47) = srt κ := srt_off rfl
      have nd1358 := nd0.pk (x := 47)
      have p1360 : TR (-1) (0) 0 0 0 (-1) μ (mA1 κ 20 s.toNatClampNeg 47) := p0.trS g1354 (Or.inr (Or.inr (by omega))) rfl rfl rfl rfl (by omega)
      have cv1361 : CVs (mA1 κ 20 s.toNatClampNeg 47) (s.toInt + 1) (((mA1 κ 20 s.toNatClampNeg 47)).1 19).toInt [] := cv0.st g1354.rb (Int.le_refl _) (Or.inl (by omega)) rfl
      refine ⟨TR.mi p0.ps rfl rfl s0 (by omega), ?_⟩
      generalize mA1 κ 20 s.toNatClampNeg 47 = κ1355 at *
      have lt1362 : s.toInt < (κ1355.1 19).toInt := by omega
      have x1366 := p1360.px
      have u1367 := p1360.2
      have y1368 := tT p1360
      have z1369 := px0 p1360.ps
      refine MC.mono (hSt κ1355 T h p1360.ps (by omega) (by omega) (by omega) (fun _ h => hT _ (p1360.1.1.tr h))) (fun r1363 κ1364 h1365 => ?_) (fun _ h => h)
      obtain ⟨q1370, g1371, c1372⟩ := h1365
      have l1373 := q1370.l19
      have l1374 := q1370.l32
      have p1375 : TR (-1) (0) 0 0 0 (-1) μ κ1364 := p1360.trS q1370 (Or.inl (by decide)) rfl rfl rfl rfl (by omega)
      have cv1376 : CVs κ1364 (s.toInt + 1) ((κ1364).1 19).toInt [r1363] := cv1361.add q1370.rb (Int.le_refl _) (Or.inl (by omega)) (by omega) l1373 (c1372)
      have nd1377 := nd1358.tr q1370 (by have := @ic s; omega) (by omega)
      have lt1378 : s.toInt < (κ1364.1 19).toInt := by omega
      have k1379 : KL κ1364 h s.toInt s 3 r1363 := KL.of g1371 (by omega) (Int.le_refl _) s0 (Or.inl (by omega))
      have g1380 : TR s.toInt 0 0 0 0 0 κ1364 (mA1 κ1364 23 s.toNatClampNeg r1363) := TR.put p1375.ps s0 rfl rfl
      have e1382 : ((mA1 κ1364 23 s.toNatClampNeg r1363).1 19).toInt = (κ1364.1 19).toInt := rfl
      have e1383 : ((mA1 κ1364 23 s.toNatClampNeg r1363).1 32).toInt = (κ1364.1 32).toInt := rfl
      have sr1385 : srt (mA1 κ1364 23 s.toNatClampNeg r1363) = srt κ1364 := srt_off rfl
      have nd1384 := nd1377.pb (x := r1363)
      have p1386 : TR (-1) (0) 0 0 0 (-1) μ (mA1 κ1364 23 s.toNatClampNeg r1363) := p1375.trS g1380 (Or.inr (Or.inr (by omega))) rfl rfl rfl rfl (by omega)
      have k1387 := k1379.tr g1380 (Or.inr rfl) s0
      have cv1388 : CVs (mA1 κ1364 23 s.toNatClampNeg r1363) (s.toInt + 1) (((mA1 κ1364 23 s.toNatClampNeg r1363)).1 19).toInt [r1363] := cv1376.st g1380.rb (Int.le_refl _) (Or.inl (by omega)) rfl
      refine ⟨TR.mi p1375.ps rfl rfl s0 (by omega), ?_⟩
      generalize mA1 κ1364 23 s.toNatClampNeg r1363 = κ1381 at *
      have lt1389 : s.toInt < (κ1381.1 19).toInt := by omega
      refine MC.mono (t_expect (by omega) p1386.ps (by decide) (fun _ h => hT _ (p1386.1.1.tr h))) (fun v1390 κ1395 h1391 => ?_) (fun _ h => h)
      obtain ⟨q1392, m1393, a1394⟩ := h1391
      have p1396 : TR (-1) (0) 0 0 0 (-3) μ κ1395 := p1386.trS q1392 (Or.inl (by decide)) rfl rfl rfl rfl (by omega)
      have k1397 := k1387.tr q1392 (Or.inl (by decide)) s0
      have cv1398 : CVs κ1395 (s.toInt + 1) ((κ1395).1 19).toInt [r1363] := cv1388.st q1392.rb (Int.le_refl _) (Or.inl (by omega)) m1393
      have nd1399 := nd1384.tr q1392 (by have := @ic s; omega) (by omega)
      have lt1400 : s.toInt < (κ1395.1 19).toInt := by omega
      exact v_statement_553 _ _ ⟨⟨p1396.1, by have := p1396.2; omega⟩, by omega, (G.mk (lo := s.toInt) s0 (Int.le_refl _) lt1400 nd1399 (by decide) True.intro (k1397) True.intro True.intro True.intro : G κ1395 (h + 1) (bt s.toInt (κ1395.1 19).toInt) 3 s).up (Nat.le_refl _) (by omega) (Int.le_refl _), nd1399.2.2.2.2.2.2, (CO.fin' (by omega) cv1398 s0 ⟨fun h => Par.fb nd1399 (by decide) h, True.intro⟩ lt1400)⟩
    · skip
      have g1401 : TR s.toInt 0 0 0 0 0 κ (mA1 κ 20 s.toNatClampNeg 50) := TR.put p0.ps s0 rfl rfl
      have e1403 : ((mA1 κ 20 s.toNatClampNeg 50).1 19).toInt = (κ.1 19).toInt := rfl
      have e1404 : ((mA1 κ 20 s.toNatClampNeg 50).1 32).toInt = (κ.1 32).toInt := rfl
      have sr1406 : srt (mA1 κ 20 s.toNatClampNeg 50) = srt κ := srt_off rfl
      have nd1405 := nd0.pk (x := 50)
      have p1407 : TR (-1) (0) 0 0 0 (-1) μ (mA1 κ 20 s.toNatClampNeg 50) := p0.trS g1401 (Or.inr (Or.inr (by omega))) rfl rfl rfl rfl (by omega)
      have cv1408 : CVs (mA1 κ 20 s.toNatClampNeg 50) (s.toInt + 1) (((mA1 κ 20 s.toNatClampNeg 50)).1 19).toInt [] := cv0.st g1401.rb (Int.le_refl _) (Or.inl (by omega)) rfl
      refine ⟨TR.mi p0.ps rfl rfl s0 (by omega), ?_⟩
      generalize mA1 κ 20 s.toNatClampNeg 50 = κ1402 at *
      have lt1409 : s.toInt < (κ1402.1 19).toInt := by omega
      have x1413 := p1407.px
      have u1414 := p1407.2
      have y1415 := tT p1407
      have z1416 := px0 p1407.ps
      refine MC.mono (c_qname (by omega) p1407.ps (by omega) (fun _ h => hT _ (p1407.1.1.tr h))) (fun r1410 κ1411 h1412 => ?_) (fun _ h => h)
      obtain ⟨⟨z1419, z1420, z1421, z1422, z1423⟩, z1424, z1425⟩ := h1412
      have q1417 : TR (-1) 0 0 0 0 0 κ1402 κ1411 := ⟨z1419, by omega⟩
      have g1418 := z1422.up (h' := h) (by omega) (Int.le_refl _) (Int.le_refl _)
      have l1426 := q1417.l19
      have l1427 := q1417.l32
      have p1428 : TR (-1) (0) 0 0 0 (-1) μ κ1411 := p1407.trS q1417 (Or.inl (by decide)) rfl rfl rfl rfl (by omega)
      have cv1429 : CVs κ1411 (s.toInt + 1) ((κ1411).1 19).toInt [] := cv1408.ns q1417.rb (Int.le_refl _) (Or.inl (by omega)) l1426 z1425
      have nd1430 := nd1405.tr q1417 (by have := @ic s; omega) (by omega)
      have lt1431 : s.toInt < (κ1411.1 19).toInt := by omega
      have k1432 : Kd κ1411 h s.toInt s 7 r1410 := Kd.of g1418 (by omega) (Int.le_refl _) s0 (Or.inl (by omega))
      have g1433 : TR s.toInt 0 0 0 0 0 κ1411 (mA1 κ1411 22 s.toNatClampNeg r1410) := TR.put p1428.ps s0 rfl rfl
      have e1435 : ((mA1 κ1411 22 s.toNatClampNeg r1410).1 19).toInt = (κ1411.1 19).toInt := rfl
      have e1436 : ((mA1 κ1411 22 s.toNatClampNeg r1410).1 32).toInt = (κ1411.1 32).toInt := rfl
      have sr1438 : srt (mA1 κ1411 22 s.toNatClampNeg r1410) = srt κ1411 := srt_off rfl
      have nd1437 := nd1430.pa (x := r1410)
      have p1439 : TR (-1) (0) 0 0 0 (-1) μ (mA1 κ1411 22 s.toNatClampNeg r1410) := p1428.trS g1433 (Or.inr (Or.inr (by omega))) rfl rfl rfl rfl (by omega)
      have k1440 := k1432.tr g1433 (Or.inr rfl) s0
      have cv1441 : CVs (mA1 κ1411 22 s.toNatClampNeg r1410) (s.toInt + 1) (((mA1 κ1411 22 s.toNatClampNeg r1410)).1 19).toInt [] := cv1429.st g1433.rb (Int.le_refl _) (Or.inl (by omega)) rfl
      refine ⟨TR.mi p1428.ps rfl rfl s0 (by omega), ?_⟩
      generalize mA1 κ1411 22 s.toNatClampNeg r1410 = κ1434 at *
      have lt1442 : s.toInt < (κ1434.1 19).toInt := by omega
      refine MC.mono (t_open (by omega) p1439.ps (by decide) (fun _ h => hT _ (p1439.1.1.tr h))) (fun v1443 κ1448 h1444 => ?_) (fun _ h => h)
      obtain ⟨q1445, m1446, a1447⟩ := h1444
      have p1449 : TR (-1) (1) 0 0 0 (-3) μ κ1448 := p1439.trS q1445 (Or.inl (by decide)) rfl rfl rfl rfl (by omega)
      have k1450 := k1440.tr q1445 (Or.inl (by decide)) s0
      have cv1451 : CVs κ1448 (s.toInt + 1) ((κ1448).1 19).toInt [] := cv1441.st q1445.rb (Int.le_refl _) (Or.inl (by omega)) m1446
      have nd1452 := nd1437.tr q1445 (by have := @ic s; omega) (by omega)
      have lt1453 : s.toInt < (κ1448.1 19).toInt := by omega
      have x1457 := p1449.px
      have u1458 := p1449.2
      have y1459 := tT p1449
      have z1460 := px0 p1449.ps
      refine MC.mono (hE κ1448 T h p1449.ps (by omega) (by omega) (by omega) (fun _ h => hT _ (p1449.1.1.tr h))) (fun r1454 κ1455 h1456 => ?_) (fun _ h => h)
      obtain ⟨q1461, a1463, g1462, n1464, c1465⟩ := h1456
      have l1466 := q1461.l19
      have l1467 := q1461.l32
      have p1468 : TR (-1) (1) 0 0 0 (-3) μ κ1455 := p1449.trS q1461 (Or.inl (by decide)) rfl rfl rfl rfl (by omega)
      have k1469 := k1450.tr q1461 (Or.inl (by decide)) s0
      have cv1470 : CVs κ1455 (s.toInt + 1) ((κ1455).1 19).toInt [r1454] := cv1451.add q1461.rb (Int.le_refl _) (Or.inl (by omega)) (by omega) l1466 (LCO.of g1462.in.1 c1465)
      have nd1471 := nd1452.tr q1461 (by have := @ic s; omega) (by omega)
      have lt1472 : s.toInt < (κ1455.1 19).toInt := by omega
      have k1473 : Kd κ1455 h s.toInt s 1 r1454 := Kd.of g1462 (by omega) (Int.le_refl _) s0 (Or.inl (by omega))
      have g1474 : TR s.toInt 0 0 0 0 0 κ1455 (mA1 κ1455 23 s.toNatClampNeg r1454) := TR.put p1468.ps s0 rfl rfl
      have e1476 : ((mA1 κ1455 23 s.toNatClampNeg r1454).1 19).toInt = (κ1455.1 19).toInt := rfl
      have e1477 : ((mA1 κ1455 23 s.toNatClampNeg r1454).1 32).toInt = (κ1455.1 32).toInt := rfl
      have sr1479 : srt (mA1 κ1455 23 s.toNatClampNeg r1454) = srt κ1455 := srt_off rfl
      have nd1478 := nd1471.pb (x := r1454)
      have p1480 : TR (-1) (1) 0 0 0 (-3) μ (mA1 κ1455 23 s.toNatClampNeg r1454) := p1468.trS g1474 (Or.inr (Or.inr (by omega))) rfl rfl rfl rfl (by omega)
      have k1481 := k1469.tr g1474 (Or.inr rfl) s0
      have k1482 := k1473.tr g1474 (Or.inr rfl) s0
      have cv1483 : CVs (mA1 κ1455 23 s.toNatClampNeg r1454) (s.toInt + 1) (((mA1 κ1455 23 s.toNatClampNeg r1454)).1 19).toInt [r1454] := cv1470.st g1474.rb (Int.le_refl _) (Or.inl (by omega)) rfl
      refine ⟨TR.mi p1468.ps rfl rfl s0 (by omega), ?_⟩
      generalize mA1 κ1455 23 s.toNatClampNeg r1454 = κ1475 at *
      have lt1484 : s.toInt < (κ1475.1 19).toInt := by omega
      have hb1485 := p1480.b37
      refine MC.mono (t_close (by omega) p1480.ps (by decide) (by omega) (fun _ h => hT _ (p1480.1.1.tr h))) (fun v1486 κ1491 h1487 => ?_) (fun _ h => h)
      obtain ⟨q1488, m1489, a1490⟩ := h1487
      have p1492 : TR (-1) (0) 0 0 0 (-5) μ κ1491 := p1480.trS q1488 (Or.inl (by decide)) rfl rfl rfl rfl (by omega)
      have k1493 := k1481.tr q1488 (Or.inl (by decide)) s0
      have k1494 := k1482.tr q1488 (Or.inl (by decide)) s0
      have cv1495 : CVs κ1491 (s.toInt + 1) ((κ1491).1 19).toInt [r1454] := cv1483.st q1488.rb (Int.le_refl _) (Or.inl (by omega)) m1489
      have nd1496 := nd1478.tr q1488 (by have := @ic s; omega) (by omega)
      have lt1497 : s.toInt < (κ1491.1 19).toInt := by omega
      exact v_statement_553 _ _ ⟨⟨p1492.1, by have := p1492.2; omega⟩, by omega, (G.mk (lo := s.toInt) s0 (Int.le_refl _) lt1497 nd1496 (by decide) (k1493) (k1494) True.intro True.intro True.intro : G κ1491 (h + 1) (bt s.toInt (κ1491.1 19).toInt) 3 s).up (Nat.le_refl _) (by omega) (Int.le_refl _), nd1496.2.2.2.2.2.2, (CO.fin' (by omega) cv1495 s0 ⟨fun h => Par.fb nd1496 (by decide) h, True.intro⟩ lt1497)⟩
    · skip
      have g1498 : TR s.toInt 0 0 0 0 0 κ (mA1 κ 20 s.toNatClampNeg 49) := TR.put p0.ps s0 rfl rfl
      have e1500 : ((mA1 κ 20 s.toNatClampNeg 49).1 19).toInt = (κ.1 19).toInt := rfl
      have e1501 : ((mA1 κ 20 s.toNatClampNeg 49).1 32).toInt = (κ.1 32).toInt := rfl
      have sr1503 : srt (mA1 κ 20 s.toNatClampNeg 49) = srt κ := srt_off rfl
      have nd1502 := nd0.pk (x := 49)
      have p1504 : TR (-1) (0) 0 0 0 (-1) μ (mA1 κ 20 s.toNatClampNeg 49) := p0.trS g1498 (Or.inr (Or.inr (by omega))) rfl rfl rfl rfl (by omega)
      have cv1505 : CVs (mA1 κ 20 s.toNatClampNeg 49) (s.toInt + 1) (((mA1 κ 20 s.toNatClampNeg 49)).1 19).toInt [] := cv0.st g1498.rb (Int.le_refl _) (Or.inl (by omega)) rfl
      refine ⟨TR.mi p0.ps rfl rfl s0 (by omega), ?_⟩
      generalize mA1 κ 20 s.toNatClampNeg 49 = κ1499 at *
      have lt1506 : s.toInt < (κ1499.1 19).toInt := by omega
      refine MC.mono (c_is (by omega) p1504.ps) (fun r1507 κ1508 h1509 => ?_) (fun _ h => h)
      obtain ⟨rfl, rfl⟩ := h1509
      refine ⟨fun _ => ?_, fun _ => ?_⟩
      · skip
        exact v_statement_553 _ _ ⟨⟨p1504.1, by have := p1504.2; omega⟩, by omega, (G.mk (lo := s.toInt) s0 (Int.le_refl _) lt1506 nd1502 (by decide) (Or.inl rfl) True.intro True.intro True.intro True.intro : G κ1508 (h + 1) (bt s.toInt (κ1508.1 19).toInt) 3 s).up (Nat.le_refl _) (by omega) (Int.le_refl _), nd1502.2.2.2.2.2.2, (CO.fin' (by omega) cv1505 s0 True.intro lt1506)⟩
      · skip
        have x1513 := p1504.px
        have u1514 := p1504.2
        have y1515 := tT p1504
        have z1516 := px0 p1504.ps
        refine MC.mono (hE κ1508 T h p1504.ps (by omega) (by omega) (by omega) (fun _ h => hT _ (p1504.1.1.tr h))) (fun r1510 κ1511 h1512 => ?_) (fun _ h => h)
        obtain ⟨q1517, a1519, g1518, n1520, c1521⟩ := h1512
        have l1522 := q1517.l19
        have l1523 := q1517.l32
        have p1524 : TR (-1) (0) 0 0 0 (-1) μ κ1511 := p1504.trS q1517 (Or.inl (by decide)) rfl rfl rfl rfl (by omega)
        have cv1525 : CVs κ1511 (s.toInt + 1) ((κ1511).1 19).toInt [r1510] := cv1505.add q1517.rb (Int.le_refl _) (Or.inl (by omega)) (by omega) l1522 (LCO.of g1518.in.1 c1521)
        have nd1526 := nd1502.tr q1517 (by have := @ic s; omega) (by omega)
        have lt1527 : s.toInt < (κ1511.1 19).toInt := by omega
        have k1528 : Kd κ1511 h s.toInt s 1 r1510 := Kd.of g1518 (by omega) (Int.le_refl _) s0 (Or.inl (by omega))
        have g1529 : TR s.toInt 0 0 0 0 0 κ1511 (mA1 κ1511 22 s.toNatClampNeg r1510) := TR.put p1524.ps s0 rfl rfl
        have e1531 : ((mA1 κ1511 22 s.toNatClampNeg r1510).1 19).toInt = (κ1511.1 19).toInt := rfl
        have e1532 : ((mA1 κ1511 22 s.toNatClampNeg r1510).1 32).toInt = (κ1511.1 32).toInt := rfl
        have sr1534 : srt (mA1 κ1511 22 s.toNatClampNeg r1510) = srt κ1511 := srt_off rfl
        have nd1533 := nd1526.pa (x := r1510)
        have p1535 : TR (-1) (0) 0 0 0 (-1) μ (mA1 κ1511 22 s.toNatClampNeg r1510) := p1524.trS g1529 (Or.inr (Or.inr (by omega))) rfl rfl rfl rfl (by omega)
        have k1536 := k1528.tr g1529 (Or.inr rfl) s0
        have cv1537 : CVs (mA1 κ1511 22 s.toNatClampNeg r1510) (s.toInt + 1) (((mA1 κ1511 22 s.toNatClampNeg r1510)).1 19).toInt [r1510] := cv1525.st g1529.rb (Int.le_refl _) (Or.inl (by omega)) rfl
        refine ⟨TR.mi p1524.ps rfl rfl s0 (by omega), ?_⟩
        generalize mA1 κ1511 22 s.toNatClampNeg r1510 = κ1530 at *
        have lt1538 : s.toInt < (κ1530.1 19).toInt := by omega
        exact v_statement_553 _ _ ⟨⟨p1535.1, by have := p1535.2; omega⟩, by omega, (G.mk (lo := s.toInt) s0 (Int.le_refl _) lt1538 nd1533 (by decide) (Or.inr k1536) True.intro True.intro True.intro True.intro : G κ1530 (h + 1) (bt s.toInt (κ1530.1 19).toInt) 3 s).up (Nat.le_refl _) (by omega) (Int.le_refl _), nd1533.2.2.2.2.2.2, (CO.fin' (by omega) cv1537 s0 ⟨fun h => Par.fa nd1533 (by decide) h, True.intro⟩ lt1538)⟩
    · skip
      have g1539 : TR s.toInt 0 0 0 0 0 κ (mA1 κ 20 s.toNatClampNeg 55) := TR.put p0.ps s0 rfl rfl
      have e1541 : ((mA1 κ 20 s.toNatClampNeg 55).1 19).toInt = (κ.1 19).toInt := rfl
      have e1542 : ((mA1 κ 20 s.toNatClampNeg 55).1 32).toInt = (κ.1 32).toInt := rfl
      have sr1544 : srt (mA1 κ 20 s.toNatClampNeg 55) = srt κ := srt_off rfl
      have nd1543 := nd0.pk (x := 55)
      have p1545 : TR (-1) (0) 0 0 0 (-1) μ (mA1 κ 20 s.toNatClampNeg 55) := p0.trS g1539 (Or.inr (Or.inr (by omega))) rfl rfl rfl rfl (by omega)
      have cv1546 : CVs (mA1 κ 20 s.toNatClampNeg 55) (s.toInt + 1) (((mA1 κ 20 s.toNatClampNeg 55)).1 19).toInt [] := cv0.st g1539.rb (Int.le_refl _) (Or.inl (by omega)) rfl
      refine ⟨TR.mi p0.ps rfl rfl s0 (by omega), ?_⟩
      generalize mA1 κ 20 s.toNatClampNeg 55 = κ1540 at *
      have lt1547 : s.toInt < (κ1540.1 19).toInt := by omega
      have x1551 := p1545.px
      have u1552 := p1545.2
      have y1553 := tT p1545
      have z1554 := px0 p1545.ps
      refine MC.mono (hE κ1540 T h p1545.ps (by omega) (by omega) (by omega) (fun _ h => hT _ (p1545.1.1.tr h))) (fun r1548 κ1549 h1550 => ?_) (fun _ h => h)
      obtain ⟨q1555, a1557, g1556, n1558, c1559⟩ := h1550
      have l1560 := q1555.l19
      have l1561 := q1555.l32
      have p1562 : TR (-1) (0) 0 0 0 (-1) μ κ1549 := p1545.trS q1555 (Or.inl (by decide)) rfl rfl rfl rfl (by omega)
      have cv1563 : CVs κ1549 (s.toInt + 1) ((κ1549).1 19).toInt [r1548] := cv1546.add q1555.rb (Int.le_refl _) (Or.inl (by omega)) (by omega) l1560 (LCO.of g1556.in.1 c1559)
      have nd1564 := nd1543.tr q1555 (by have := @ic s; omega) (by omega)
      have lt1565 : s.toInt < (κ1549.1 19).toInt := by omega
      have k1566 : Kd κ1549 h s.toInt s 1 r1548 := Kd.of g1556 (by omega) (Int.le_refl _) s0 (Or.inl (by omega))
      have g1567 : TR s.toInt 0 0 0 0 0 κ1549 (mA1 κ1549 22 s.toNatClampNeg r1548) := TR.put p1562.ps s0 rfl rfl
      have e1569 : ((mA1 κ1549 22 s.toNatClampNeg r1548).1 19).toInt = (κ1549.1 19).toInt := rfl
      have e1570 : ((mA1 κ1549 22 s.toNatClampNeg r1548).1 32).toInt = (κ1549.1 32).toInt := rfl
      have sr1572 : srt (mA1 κ1549 22 s.toNatClampNeg r1548) = srt κ1549 := srt_off rfl
      have nd1571 := nd1564.pa (x := r1548)
      have p1573 : TR (-1) (0) 0 0 0 (-1) μ (mA1 κ1549 22 s.toNatClampNeg r1548) := p1562.trS g1567 (Or.inr (Or.inr (by omega))) rfl rfl rfl rfl (by omega)
      have k1574 := k1566.tr g1567 (Or.inr rfl) s0
      have cv1575 : CVs (mA1 κ1549 22 s.toNatClampNeg r1548) (s.toInt + 1) (((mA1 κ1549 22 s.toNatClampNeg r1548)).1 19).toInt [r1548] := cv1563.st g1567.rb (Int.le_refl _) (Or.inl (by omega)) rfl
      refine ⟨TR.mi p1562.ps rfl rfl s0 (by omega), ?_⟩
      generalize mA1 κ1549 22 s.toNatClampNeg r1548 = κ1568 at *
      have lt1576 : s.toInt < (κ1568.1 19).toInt := by omega
      refine MC.mono (t_expect (by omega) p1573.ps (by decide) (fun _ h => hT _ (p1573.1.1.tr h))) (fun v1577 κ1582 h1578 => ?_) (fun _ h => h)
      obtain ⟨q1579, m1580, a1581⟩ := h1578
      have p1583 : TR (-1) (0) 0 0 0 (-3) μ κ1582 := p1573.trS q1579 (Or.inl (by decide)) rfl rfl rfl rfl (by omega)
      have k1584 := k1574.tr q1579 (Or.inl (by decide)) s0
      have cv1585 : CVs κ1582 (s.toInt + 1) ((κ1582).1 19).toInt [r1548] := cv1575.st q1579.rb (Int.le_refl _) (Or.inl (by omega)) m1580
      have nd1586 := nd1571.tr q1579 (by have := @ic s; omega) (by omega)
      have lt1587 : s.toInt < (κ1582.1 19).toInt := by omega
      have x1591 := p1583.px
      have u1592 := p1583.2
      have y1593 := tT p1583
      have z1594 := px0 p1583.ps
      refine MC.mono (hE κ1582 T h p1583.ps (by omega) (by omega) (by omega) (fun _ h => hT _ (p1583.1.1.tr h))) (fun r1588 κ1589 h1590 => ?_) (fun _ h => h)
      obtain ⟨q1595, a1597, g1596, n1598, c1599⟩ := h1590
      have l1600 := q1595.l19
      have l1601 := q1595.l32
      have p1602 : TR (-1) (0) 0 0 0 (-3) μ κ1589 := p1583.trS q1595 (Or.inl (by decide)) rfl rfl rfl rfl (by omega)
      have k1603 := k1584.tr q1595 (Or.inl (by decide)) s0
      have cv1604 : CVs κ1589 (s.toInt + 1) ((κ1589).1 19).toInt [r1588, r1548] := cv1585.add q1595.rb (Int.le_refl _) (Or.inl (by omega)) (by omega) l1600 (LCO.of g1596.in.1 c1599)
      have nd1605 := nd1586.tr q1595 (by have := @ic s; omega) (by omega)
      have lt1606 : s.toInt < (κ1589.1 19).toInt := by omega
      have k1607 : Kd κ1589 h s.toInt s 1 r1588 := Kd.of g1596 (by omega) (Int.le_refl _) s0 (Or.inl (by omega))
      have g1608 : TR s.toInt 0 0 0 0 0 κ1589 (mA1 κ1589 23 s.toNatClampNeg r1588) := TR.put p1602.ps s0 rfl rfl
      have e1610 : ((mA1 κ1589 23 s.toNatClampNeg r1588).1 19).toInt = (κ1589.1 19).toInt := rfl
      have e1611 : ((mA1 κ1589 23 s.toNatClampNeg r1588).1 32).toInt = (κ1589.1 32).toInt := rfl
      have sr1613 : srt (mA1 κ1589 23 s.toNatClampNeg r1588) = srt κ1589 := srt_off rfl
      have nd1612 := nd1605.pb (x := r1588)
      have p1614 : TR (-1) (0) 0 0 0 (-3) μ (mA1 κ1589 23 s.toNatClampNeg r1588) := p1602.trS g1608 (Or.inr (Or.inr (by omega))) rfl rfl rfl rfl (by omega)
      have k1615 := k1603.tr g1608 (Or.inr rfl) s0
      have k1616 := k1607.tr g1608 (Or.inr rfl) s0
      have cv1617 : CVs (mA1 κ1589 23 s.toNatClampNeg r1588) (s.toInt + 1) (((mA1 κ1589 23 s.toNatClampNeg r1588)).1 19).toInt [r1588, r1548] := cv1604.st g1608.rb (Int.le_refl _) (Or.inl (by omega)) rfl
      refine ⟨TR.mi p1602.ps rfl rfl s0 (by omega), ?_⟩
      generalize mA1 κ1589 23 s.toNatClampNeg r1588 = κ1609 at *
      have lt1618 : s.toInt < (κ1609.1 19).toInt := by omega
      exact v_statement_553 _ _ ⟨⟨p1614.1, by have := p1614.2; omega⟩, by omega, (G.mk (lo := s.toInt) s0 (Int.le_refl _) lt1618 nd1612 (by decide) (k1615) (k1616) True.intro True.intro True.intro : G κ1609 (h + 1) (bt s.toInt (κ1609.1 19).toInt) 3 s).up (Nat.le_refl _) (by omega) (Int.le_refl _), nd1612.2.2.2.2.2.2, (CO.fin' (by omega) cv1617 s0 ⟨fun h => Par.fb nd1612 (by decide) h, fun h => Par.fa nd1612 (by decide) h, True.intro⟩ lt1618)⟩
    · skip
      have g1619 : TR s.toInt 0 0 0 0 0 κ (mA1 κ 20 s.toNatClampNeg 46) := TR.put p0.ps s0 rfl rfl
      have e1621 : ((mA1 κ 20 s.toNatClampNeg 46).1 19).toInt = (κ.1 19).toInt := rfl
      have e1622 : ((mA1 κ 20 s.toNatClampNeg 46).1 32).toInt = (κ.1 32).toInt := rfl
      have sr1624 : srt (mA1 κ 20 s.toNatClampNeg 46) = srt κ := srt_off rfl
      have nd1623 := nd0.pk (x := 46)
      have p1625 : TR (-1) (0) 0 0 0 (-1) μ (mA1 κ 20 s.toNatClampNeg 46) := p0.trS g1619 (Or.inr (Or.inr (by omega))) rfl rfl rfl rfl (by omega)
      have cv1626 : CVs (mA1 κ 20 s.toNatClampNeg 46) (s.toInt + 1) (((mA1 κ 20 s.toNatClampNeg 46)).1 19).toInt [] := cv0.st g1619.rb (Int.le_refl _) (Or.inl (by omega)) rfl
      refine ⟨TR.mi p0.ps rfl rfl s0 (by omega), ?_⟩
      generalize mA1 κ 20 s.toNatClampNeg 46 = κ1620 at *
      have lt1627 : s.toInt < (κ1620.1 19).toInt := by omega
      have x1631 := p1625.px
      have u1632 := p1625.2
      have y1633 := tT p1625
      have z1634 := px0 p1625.ps
      refine MC.mono (hE κ1620 T h p1625.ps (by omega) (by omega) (by omega) (fun _ h => hT _ (p1625.1.1.tr h))) (fun r1628 κ1629 h1630 => ?_) (fun _ h => h)
      obtain ⟨q1635, a1637, g1636, n1638, c1639⟩ := h1630
      have l1640 := q1635.l19
      have l1641 := q1635.l32
      have p1642 : TR (-1) (0) 0 0 0 (-1) μ κ1629 := p1625.trS q1635 (Or.inl (by decide)) rfl rfl rfl rfl (by omega)
      have cv1643 : CVs κ1629 (s.toInt + 1) ((κ1629).1 19).toInt [r1628] := cv1626.add q1635.rb (Int.le_refl _) (Or.inl (by omega)) (by omega) l1640 (LCO.of g1636.in.1 c1639)
      have nd1644 := nd1623.tr q1635 (by have := @ic s; omega) (by omega)
      have lt1645 : s.toInt < (κ1629.1 19).toInt := by omega
      have k1646 : Kd κ1629 h s.toInt s 1 r1628 := Kd.of g1636 (by omega) (Int.le_refl _) s0 (Or.inl (by omega))
      have g1647 : TR s.toInt 0 0 0 0 0 κ1629 (mA1 κ1629 22 s.toNatClampNeg r1628) := TR.put p1642.ps s0 rfl rfl
      have e1649 : ((mA1 κ1629 22 s.toNatClampNeg r1628).1 19).toInt = (κ1629.1 19).toInt := rfl
      have e1650 : ((mA1 κ1629 22 s.toNatClampNeg r1628).1 32).toInt = (κ1629.1 32).toInt := rfl
      have sr1652 : srt (mA1 κ1629 22 s.toNatClampNeg r1628) = srt κ1629 := srt_off rfl
      have nd1651 := nd1644.pa (x := r1628)
      have p1653 : TR (-1) (0) 0 0 0 (-1) μ (mA1 κ1629 22 s.toNatClampNeg r1628) := p1642.trS g1647 (Or.inr (Or.inr (by omega))) rfl rfl rfl rfl (by omega)
      have k1654 := k1646.tr g1647 (Or.inr rfl) s0
      have cv1655 : CVs (mA1 κ1629 22 s.toNatClampNeg r1628) (s.toInt + 1) (((mA1 κ1629 22 s.toNatClampNeg r1628)).1 19).toInt [r1628] := cv1643.st g1647.rb (Int.le_refl _) (Or.inl (by omega)) rfl
      refine ⟨TR.mi p1642.ps rfl rfl s0 (by omega), ?_⟩
      generalize mA1 κ1629 22 s.toNatClampNeg r1628 = κ1648 at *
      have lt1656 : s.toInt < (κ1648.1 19).toInt := by omega
      refine MC.mono (t_expect (by omega) p1653.ps (by decide) (fun _ h => hT _ (p1653.1.1.tr h))) (fun v1657 κ1662 h1658 => ?_) (fun _ h => h)
      obtain ⟨q1659, m1660, a1661⟩ := h1658
      have p1663 : TR (-1) (0) 0 0 0 (-3) μ κ1662 := p1653.trS q1659 (Or.inl (by decide)) rfl rfl rfl rfl (by omega)
      have k1664 := k1654.tr q1659 (Or.inl (by decide)) s0
      have cv1665 : CVs κ1662 (s.toInt + 1) ((κ1662).1 19).toInt [r1628] := cv1655.st q1659.rb (Int.le_refl _) (Or.inl (by omega)) m1660
      have nd1666 := nd1651.tr q1659 (by have := @ic s; omega) (by omega)
      have lt1667 : s.toInt < (κ1662.1 19).toInt := by omega
      have x1671 := p1663.px
      have u1672 := p1663.2
      have y1673 := tT p1663
      have z1674 := px0 p1663.ps
      refine MC.mono (hSt κ1662 T h p1663.ps (by omega) (by omega) (by omega) (fun _ h => hT _ (p1663.1.1.tr h))) (fun r1668 κ1669 h1670 => ?_) (fun _ h => h)
      obtain ⟨q1675, g1676, c1677⟩ := h1670
      have l1678 := q1675.l19
      have l1679 := q1675.l32
      have p1680 : TR (-1) (0) 0 0 0 (-3) μ κ1669 := p1663.trS q1675 (Or.inl (by decide)) rfl rfl rfl rfl (by omega)
      have k1681 := k1664.tr q1675 (Or.inl (by decide)) s0
      have cv1682 : CVs κ1669 (s.toInt + 1) ((κ1669).1 19).toInt [r1668, r1628] := cv1665.add q1675.rb (Int.le_refl _) (Or.inl (by omega)) (by omega) l1678 (c1677)
      have nd1683 := nd1666.tr q1675 (by have := @ic s; omega) (by omega)
      have lt1684 : s.toInt < (κ1669.1 19).toInt := by omega
      have k1685 : KL κ1669 h s.toInt s 3 r1668 := KL.of g1676 (by omega) (Int.le_refl _) s0 (Or.inl (by omega))
      have g1686 : TR s.toInt 0 0 0 0 0 κ1669 (mA1 κ1669 23 s.toNatClampNeg r1668) := TR.put p1680.ps s0 rfl rfl
      have e1688 : ((mA1 κ1669 23 s.toNatClampNeg r1668).1 19).toInt = (κ1669.1 19).toInt := rfl
      have e1689 : ((mA1 κ1669 23 s.toNatClampNeg r1668).1 32).toInt = (κ1669.1 32).toInt := rfl
      have sr1691 : srt (mA1 κ1669 23 s.toNatClampNeg r1668) = srt κ1669 := srt_off rfl
      have nd1690 := nd1683.pb (x := r1668)
      have p1692 : TR (-1) (0) 0 0 0 (-3) μ (mA1 κ1669 23 s.toNatClampNeg r1668) := p1680.trS g1686 (Or.inr (Or.inr (by omega))) rfl rfl rfl rfl (by omega)
      have k1693 := k1681.tr g1686 (Or.inr rfl) s0
      have k1694 := k1685.tr g1686 (Or.inr rfl) s0
      have cv1695 : CVs (mA1 κ1669 23 s.toNatClampNeg r1668) (s.toInt + 1) (((mA1 κ1669 23 s.toNatClampNeg r1668)).1 19).toInt [r1668, r1628] := cv1682.st g1686.rb (Int.le_refl _) (Or.inl (by omega)) rfl
      refine ⟨TR.mi p1680.ps rfl rfl s0 (by omega), ?_⟩
      generalize mA1 κ1669 23 s.toNatClampNeg r1668 = κ1687 at *
      have lt1696 : s.toInt < (κ1687.1 19).toInt := by omega
      refine MC.mono (t_expect (by omega) p1692.ps (by decide) (fun _ h => hT _ (p1692.1.1.tr h))) (fun v1697 κ1702 h1698 => ?_) (fun _ h => h)
      obtain ⟨q1699, m1700, a1701⟩ := h1698
      have p1703 : TR (-1) (0) 0 0 0 (-5) μ κ1702 := p1692.trS q1699 (Or.inl (by decide)) rfl rfl rfl rfl (by omega)
      have k1704 := k1693.tr q1699 (Or.inl (by decide)) s0
      have k1705 := k1694.tr q1699 (Or.inl (by decide)) s0
      have cv1706 : CVs κ1702 (s.toInt + 1) ((κ1702).1 19).toInt [r1668, r1628] := cv1695.st q1699.rb (Int.le_refl _) (Or.inl (by omega)) m1700
      have nd1707 := nd1690.tr q1699 (by have := @ic s; omega) (by omega)
      have lt1708 : s.toInt < (κ1702.1 19).toInt := by omega
      exact v_statement_553 _ _ ⟨⟨p1703.1, by have := p1703.2; omega⟩, by omega, (G.mk (lo := s.toInt) s0 (Int.le_refl _) lt1708 nd1707 (by decide) (k1704) (k1705) True.intro True.intro True.intro : G κ1702 (h + 1) (bt s.toInt (κ1702.1 19).toInt) 3 s).up (Nat.le_refl _) (by omega) (Int.le_refl _), nd1707.2.2.2.2.2.2, (CO.fin' (by omega) cv1706 s0 ⟨fun h => Par.fb nd1707 (by decide) h, fun h => Par.fa nd1707 (by decide) h, True.intro⟩ lt1708)⟩
    · skip
      have g1709 : TR s.toInt 0 0 0 0 0 κ (mA1 κ 20 s.toNatClampNeg 59) := TR.put p0.ps s0 rfl rfl
      have e1711 : ((mA1 κ 20 s.toNatClampNeg 59).1 19).toInt = (κ.1 19).toInt := rfl
      have e1712 : ((mA1 κ 20 s.toNatClampNeg 59).1 32).toInt = (κ.1 32).toInt := rfl
      have sr1714 : srt (mA1 κ 20 s.toNatClampNeg 59) = srt κ := srt_off rfl
      have nd1713 := nd0.pk (x := 59)
      have p1715 : TR (-1) (0) 0 0 0 (-1) μ (mA1 κ 20 s.toNatClampNeg 59) := p0.trS g1709 (Or.inr (Or.inr (by omega))) rfl rfl rfl rfl (by omega)
      have cv1716 : CVs (mA1 κ 20 s.toNatClampNeg 59) (s.toInt + 1) (((mA1 κ 20 s.toNatClampNeg 59)).1 19).toInt [] := cv0.st g1709.rb (Int.le_refl _) (Or.inl (by omega)) rfl
      refine ⟨TR.mi p0.ps rfl rfl s0 (by omega), ?_⟩
      generalize mA1 κ 20 s.toNatClampNeg 59 = κ1710 at *
      have lt1717 : s.toInt < (κ1710.1 19).toInt := by omega
      have x1721 := p1715.px
      have u1722 := p1715.2
      have y1723 := tT p1715
      have z1724 := px0 p1715.ps
      refine MC.mono (hE κ1710 T h p1715.ps (by omega) (by omega) (by omega) (fun _ h => hT _ (p1715.1.1.tr h))) (fun r1718 κ1719 h1720 => ?_) (fun _ h => h)
      obtain ⟨q1725, a1727, g1726, n1728, c1729⟩ := h1720
      have l1730 := q1725.l19
      have l1731 := q1725.l32
      have p1732 : TR (-1) (0) 0 0 0 (-1) μ κ1719 := p1715.trS q1725 (Or.inl (by decide)) rfl rfl rfl rfl (by omega)
      have cv1733 : CVs κ1719 (s.toInt + 1) ((κ1719).1 19).toInt [r1718] := cv1716.add q1725.rb (Int.le_refl _) (Or.inl (by omega)) (by omega) l1730 (LCO.of g1726.in.1 c1729)
      have nd1734 := nd1713.tr q1725 (by have := @ic s; omega) (by omega)
      have lt1735 : s.toInt < (κ1719.1 19).toInt := by omega
      have k1736 : Kd κ1719 h s.toInt s 1 r1718 := Kd.of g1726 (by omega) (Int.le_refl _) s0 (Or.inl (by omega))
      have g1737 : TR s.toInt 0 0 0 0 0 κ1719 (mA1 κ1719 22 s.toNatClampNeg r1718) := TR.put p1732.ps s0 rfl rfl
      have e1739 : ((mA1 κ1719 22 s.toNatClampNeg r1718).1 19).toInt = (κ1719.1 19).toInt := rfl
      have e1740 : ((mA1 κ1719 22 s.toNatClampNeg r1718).1 32).toInt = (κ1719.1 32).toInt := rfl
      have sr1742 : srt (mA1 κ1719 22 s.toNatClampNeg r1718) = srt κ1719 := srt_off rfl
      have nd1741 := nd1734.pa (x := r1718)
      have p1743 : TR (-1) (0) 0 0 0 (-1) μ (mA1 κ1719 22 s.toNatClampNeg r1718) := p1732.trS g1737 (Or.inr (Or.inr (by omega))) rfl rfl rfl rfl (by omega)
      have k1744 := k1736.tr g1737 (Or.inr rfl) s0
      have cv1745 : CVs (mA1 κ1719 22 s.toNatClampNeg r1718) (s.toInt + 1) (((mA1 κ1719 22 s.toNatClampNeg r1718)).1 19).toInt [r1718] := cv1733.st g1737.rb (Int.le_refl _) (Or.inl (by omega)) rfl
      refine ⟨TR.mi p1732.ps rfl rfl s0 (by omega), ?_⟩
      generalize mA1 κ1719 22 s.toNatClampNeg r1718 = κ1738 at *
      have lt1746 : s.toInt < (κ1738.1 19).toInt := by omega
      exact v_statement_553 _ _ ⟨⟨p1743.1, by have := p1743.2; omega⟩, by omega, (G.mk (lo := s.toInt) s0 (Int.le_refl _) lt1746 nd1741 (by decide) (k1744) True.intro True.intro True.intro True.intro : G κ1738 (h + 1) (bt s.toInt (κ1738.1 19).toInt) 3 s).up (Nat.le_refl _) (by omega) (Int.le_refl _), nd1741.2.2.2.2.2.2, (CO.fin' (by omega) cv1745 s0 ⟨fun h => Par.fa nd1741 (by decide) h, True.intro⟩ lt1746)⟩
    · skip
      have g1747 : TR s.toInt 0 0 0 0 0 κ (mA1 κ 20 s.toNatClampNeg 58) := TR.put p0.ps s0 rfl rfl
      have e1749 : ((mA1 κ 20 s.toNatClampNeg 58).1 19).toInt = (κ.1 19).toInt := rfl
      have e1750 : ((mA1 κ 20 s.toNatClampNeg 58).1 32).toInt = (κ.1 32).toInt := rfl
      have sr1752 : srt (mA1 κ 20 s.toNatClampNeg 58) = srt κ := srt_off rfl
      have nd1751 := nd0.pk (x := 58)
      have p1753 : TR (-1) (0) 0 0 0 (-1) μ (mA1 κ 20 s.toNatClampNeg 58) := p0.trS g1747 (Or.inr (Or.inr (by omega))) rfl rfl rfl rfl (by omega)
      have cv1754 : CVs (mA1 κ 20 s.toNatClampNeg 58) (s.toInt + 1) (((mA1 κ 20 s.toNatClampNeg 58)).1 19).toInt [] := cv0.st g1747.rb (Int.le_refl _) (Or.inl (by omega)) rfl
      refine ⟨TR.mi p0.ps rfl rfl s0 (by omega), ?_⟩
      generalize mA1 κ 20 s.toNatClampNeg 58 = κ1748 at *
      have lt1755 : s.toInt < (κ1748.1 19).toInt := by omega
      have x1759 := p1753.px
      have u1760 := p1753.2
      have y1761 := tT p1753
      have z1762 := px0 p1753.ps
      refine MC.mono (hE κ1748 T h p1753.ps (by omega) (by omega) (by omega) (fun _ h => hT _ (p1753.1.1.tr h))) (fun r1756 κ1757 h1758 => ?_) (fun _ h => h)
      obtain ⟨q1763, a1765, g1764, n1766, c1767⟩ := h1758
      have l1768 := q1763.l19
      have l1769 := q1763.l32
      have p1770 : TR (-1) (0) 0 0 0 (-1) μ κ1757 := p1753.trS q1763 (Or.inl (by decide)) rfl rfl rfl rfl (by omega)
      have cv1771 : CVs κ1757 (s.toInt + 1) ((κ1757).1 19).toInt [r1756] := cv1754.add q1763.rb (Int.le_refl _) (Or.inl (by omega)) (by omega) l1768 (LCO.of g1764.in.1 c1767)
      have nd1772 := nd1751.tr q1763 (by have := @ic s; omega) (by omega)
      have lt1773 : s.toInt < (κ1757.1 19).toInt := by omega
      have k1774 : Kd κ1757 h s.toInt s 1 r1756 := Kd.of g1764 (by omega) (Int.le_refl _) s0 (Or.inl (by omega))
      have g1775 : TR s.toInt 0 0 0 0 0 κ1757 (mA1 κ1757 22 s.toNatClampNeg r1756) := TR.put p1770.ps s0 rfl rfl
      have e1777 : ((mA1 κ1757 22 s.toNatClampNeg r1756).1 19).toInt = (κ1757.1 19).toInt := rfl
      have e1778 : ((mA1 κ1757 22 s.toNatClampNeg r1756).1 32).toInt = (κ1757.1 32).toInt := rfl
      have sr1780 : srt (mA1 κ1757 22 s.toNatClampNeg r1756) = srt κ1757 := srt_off rfl
      have nd1779 := nd1772.pa (x := r1756)
      have p1781 : TR (-1) (0) 0 0 0 (-1) μ (mA1 κ1757 22 s.toNatClampNeg r1756) := p1770.trS g1775 (Or.inr (Or.inr (by omega))) rfl rfl rfl rfl (by omega)
      have k1782 := k1774.tr g1775 (Or.inr rfl) s0
      have cv1783 : CVs (mA1 κ1757 22 s.toNatClampNeg r1756) (s.toInt + 1) (((mA1 κ1757 22 s.toNatClampNeg r1756)).1 19).toInt [r1756] := cv1771.st g1775.rb (Int.le_refl _) (Or.inl (by omega)) rfl
      refine ⟨TR.mi p1770.ps rfl rfl s0 (by omega), ?_⟩
      generalize mA1 κ1757 22 s.toNatClampNeg r1756 = κ1776 at *
      have lt1784 : s.toInt < (κ1776.1 19).toInt := by omega
      exact v_statement_553 _ _ ⟨⟨p1781.1, by have := p1781.2; omega⟩, by omega, (G.mk (lo := s.toInt) s0 (Int.le_refl _) lt1784 nd1779 (by decide) (k1782) True.intro True.intro True.intro True.intro : G κ1776 (h + 1) (bt s.toInt (κ1776.1 19).toInt) 3 s).up (Nat.le_refl _) (by omega) (Int.le_refl _), nd1779.2.2.2.2.2.2, (CO.fin' (by omega) cv1783 s0 ⟨fun h => Par.fa nd1779 (by decide) h, True.intro⟩ lt1784)⟩
    · skip
      have g1785 : TR s.toInt 0 0 0 0 0 κ (mA1 κ 20 s.toNatClampNeg 57) := TR.put p0.ps s0 rfl rfl
      have e1787 : ((mA1 κ 20 s.toNatClampNeg 57).1 19).toInt = (κ.1 19).toInt := rfl
      have e1788 : ((mA1 κ 20 s.toNatClampNeg 57).1 32).toInt = (κ.1 32).toInt := rfl
      have sr1790 : srt (mA1 κ 20 s.toNatClampNeg 57) = srt κ := srt_off rfl
      have nd1789 := nd0.pk (x := 57)
      have p1791 : TR (-1) (0) 0 0 0 (-1) μ (mA1 κ 20 s.toNatClampNeg 57) := p0.trS g1785 (Or.inr (Or.inr (by omega))) rfl rfl rfl rfl (by omega)
      have cv1792 : CVs (mA1 κ 20 s.toNatClampNeg 57) (s.toInt + 1) (((mA1 κ 20 s.toNatClampNeg 57)).1 19).toInt [] := cv0.st g1785.rb (Int.le_refl _) (Or.inl (by omega)) rfl
      refine ⟨TR.mi p0.ps rfl rfl s0 (by omega), ?_⟩
      generalize mA1 κ 20 s.toNatClampNeg 57 = κ1786 at *
      have lt1793 : s.toInt < (κ1786.1 19).toInt := by omega
      have x1797 := p1791.px
      have u1798 := p1791.2
      have y1799 := tT p1791
      have z1800 := px0 p1791.ps
      refine MC.mono (hE κ1786 T h p1791.ps (by omega) (by omega) (by omega) (fun _ h => hT _ (p1791.1.1.tr h))) (fun r1794 κ1795 h1796 => ?_) (fun _ h => h)
      obtain ⟨q1801, a1803, g1802, n1804, c1805⟩ := h1796
      have l1806 := q1801.l19
      have l1807 := q1801.l32
      have p1808 : TR (-1) (0) 0 0 0 (-1) μ κ1795 := p1791.trS q1801 (Or.inl (by decide)) rfl rfl rfl rfl (by omega)
      have cv1809 : CVs κ1795 (s.toInt + 1) ((κ1795).1 19).toInt [r1794] := cv1792.add q1801.rb (Int.le_refl _) (Or.inl (by omega)) (by omega) l1806 (LCO.of g1802.in.1 c1805)
      have nd1810 := nd1789.tr q1801 (by have := @ic s; omega) (by omega)
      have lt1811 : s.toInt < (κ1795.1 19).toInt := by omega
      have k1812 : Kd κ1795 h s.toInt s 1 r1794 := Kd.of g1802 (by omega) (Int.le_refl _) s0 (Or.inl (by omega))
      have g1813 : TR s.toInt 0 0 0 0 0 κ1795 (mA1 κ1795 22 s.toNatClampNeg r1794) := TR.put p1808.ps s0 rfl rfl
      have e1815 : ((mA1 κ1795 22 s.toNatClampNeg r1794).1 19).toInt = (κ1795.1 19).toInt := rfl
      have e1816 : ((mA1 κ1795 22 s.toNatClampNeg r1794).1 32).toInt = (κ1795.1 32).toInt := rfl
      have sr1818 : srt (mA1 κ1795 22 s.toNatClampNeg r1794) = srt κ1795 := srt_off rfl
      have nd1817 := nd1810.pa (x := r1794)
      have p1819 : TR (-1) (0) 0 0 0 (-1) μ (mA1 κ1795 22 s.toNatClampNeg r1794) := p1808.trS g1813 (Or.inr (Or.inr (by omega))) rfl rfl rfl rfl (by omega)
      have k1820 := k1812.tr g1813 (Or.inr rfl) s0
      have cv1821 : CVs (mA1 κ1795 22 s.toNatClampNeg r1794) (s.toInt + 1) (((mA1 κ1795 22 s.toNatClampNeg r1794)).1 19).toInt [r1794] := cv1809.st g1813.rb (Int.le_refl _) (Or.inl (by omega)) rfl
      refine ⟨TR.mi p1808.ps rfl rfl s0 (by omega), ?_⟩
      generalize mA1 κ1795 22 s.toNatClampNeg r1794 = κ1814 at *
      have lt1822 : s.toInt < (κ1814.1 19).toInt := by omega
      exact v_statement_553 _ _ ⟨⟨p1819.1, by have := p1819.2; omega⟩, by omega, (G.mk (lo := s.toInt) s0 (Int.le_refl _) lt1822 nd1817 (by decide) (k1820) True.intro True.intro True.intro True.intro : G κ1814 (h + 1) (bt s.toInt (κ1814.1 19).toInt) 3 s).up (Nat.le_refl _) (by omega) (Int.le_refl _), nd1817.2.2.2.2.2.2, (CO.fin' (by omega) cv1821 s0 ⟨fun h => Par.fa nd1817 (by decide) h, True.intro⟩ lt1822)⟩
    · skip
      have g1823 : TR s.toInt 0 0 0 0 0 κ (mA1 κ 20 s.toNatClampNeg 56) := TR.put p0.ps s0 rfl rfl
      have e1825 : ((mA1 κ 20 s.toNatClampNeg 56).1 19).toInt = (κ.1 19).toInt := rfl
      have e1826 : ((mA1 κ 20 s.toNatClampNeg 56).1 32).toInt = (κ.1 32).toInt := rfl
      have sr1828 : srt (mA1 κ 20 s.toNatClampNeg 56) = srt κ := srt_off rfl
      have nd1827 := nd0.pk (x := 56)
      have p1829 : TR (-1) (0) 0 0 0 (-1) μ (mA1 κ 20 s.toNatClampNeg 56) := p0.trS g1823 (Or.inr (Or.inr (by omega))) rfl rfl rfl rfl (by omega)
      have cv1830 : CVs (mA1 κ 20 s.toNatClampNeg 56) (s.toInt + 1) (((mA1 κ 20 s.toNatClampNeg 56)).1 19).toInt [] := cv0.st g1823.rb (Int.le_refl _) (Or.inl (by omega)) rfl
      refine ⟨TR.mi p0.ps rfl rfl s0 (by omega), ?_⟩
      generalize mA1 κ 20 s.toNatClampNeg 56 = κ1824 at *
      have lt1831 : s.toInt < (κ1824.1 19).toInt := by omega
      have x1835 := p1829.px
      have u1836 := p1829.2
      have y1837 := tT p1829
      have z1838 := px0 p1829.ps
      refine MC.mono (hE κ1824 T h p1829.ps (by omega) (by omega) (by omega) (fun _ h => hT _ (p1829.1.1.tr h))) (fun r1832 κ1833 h1834 => ?_) (fun _ h => h)
      obtain ⟨q1839, a1841, g1840, n1842, c1843⟩ := h1834
      have l1844 := q1839.l19
      have l1845 := q1839.l32
      have p1846 : TR (-1) (0) 0 0 0 (-1) μ κ1833 := p1829.trS q1839 (Or.inl (by decide)) rfl rfl rfl rfl (by omega)
      have cv1847 : CVs κ1833 (s.toInt + 1) ((κ1833).1 19).toInt [r1832] := cv1830.add q1839.rb (Int.le_refl _) (Or.inl (by omega)) (by omega) l1844 (LCO.of g1840.in.1 c1843)
      have nd1848 := nd1827.tr q1839 (by have := @ic s; omega) (by omega)
      have lt1849 : s.toInt < (κ1833.1 19).toInt := by omega
      have k1850 : Kd κ1833 h s.toInt s 1 r1832 := Kd.of g1840 (by omega) (Int.le_refl _) s0 (Or.inl (by omega))
      have g1851 : TR s.toInt 0 0 0 0 0 κ1833 (mA1 κ1833 22 s.toNatClampNeg r1832) := TR.put p1846.ps s0 rfl rfl
      have e1853 : ((mA1 κ1833 22 s.toNatClampNeg r1832).1 19).toInt = (κ1833.1 19).toInt := rfl
      have e1854 : ((mA1 κ1833 22 s.toNatClampNeg r1832).1 32).toInt = (κ1833.1 32).toInt := rfl
      have sr1856 : srt (mA1 κ1833 22 s.toNatClampNeg r1832) = srt κ1833 := srt_off rfl
      have nd1855 := nd1848.pa (x := r1832)
      have p1857 : TR (-1) (0) 0 0 0 (-1) μ (mA1 κ1833 22 s.toNatClampNeg r1832) := p1846.trS g1851 (Or.inr (Or.inr (by omega))) rfl rfl rfl rfl (by omega)
      have k1858 := k1850.tr g1851 (Or.inr rfl) s0
      have cv1859 : CVs (mA1 κ1833 22 s.toNatClampNeg r1832) (s.toInt + 1) (((mA1 κ1833 22 s.toNatClampNeg r1832)).1 19).toInt [r1832] := cv1847.st g1851.rb (Int.le_refl _) (Or.inl (by omega)) rfl
      refine ⟨TR.mi p1846.ps rfl rfl s0 (by omega), ?_⟩
      generalize mA1 κ1833 22 s.toNatClampNeg r1832 = κ1852 at *
      have lt1860 : s.toInt < (κ1852.1 19).toInt := by omega
      exact v_statement_553 _ _ ⟨⟨p1857.1, by have := p1857.2; omega⟩, by omega, (G.mk (lo := s.toInt) s0 (Int.le_refl _) lt1860 nd1855 (by decide) (k1858) True.intro True.intro True.intro True.intro : G κ1852 (h + 1) (bt s.toInt (κ1852.1 19).toInt) 3 s).up (Nat.le_refl _) (by omega) (Int.le_refl _), nd1855.2.2.2.2.2.2, (CO.fin' (by omega) cv1859 s0 ⟨fun h => Par.fa nd1855 (by decide) h, True.intro⟩ lt1860)⟩
  · obtain ⟨z1, z2, z3, z4⟩ := hk
    have l1 := z1.l32
    have l2 := z1.l19
    have u1 := z1.2
    exact ⟨q1.tr z1 (Or.inr (by omega)) rfl rfl rfl rfl (by omega), by omega, z2.up (Nat.le_refl _) (by omega) (Int.le_refl _), z3, by rw [← q2]; exact z4⟩
end PSJ
section PSK
variable {X : ev_X} {W : Nat → Prop} {P : MP}
def StA (X : ev_X) (W : Nat → Prop) (P : MP) (d : Nat) : Prop := (SL X W P 321 [] 3 19 11 d ∧ SC X W P 322 3 22 14 d ∧ ArC X W P d) ∧ (FiC X W P 324 0 0 d ∧ FiC X W P 325 0 0 d ∧ FiC X W P 327 0 0 d ∧ FiC X W P 329 1 1 d) ∧ OtC X W P d ∧ SL X W P 328 [.int 52] 14 20 12 d ∧ SL X W P 328 [.int 61] 15 20 12 d
theorem SL.z {k : Nat} {as : List Value} {s : Nat} {rd rh : Int} (h : 0 < rd) : SL X W P k as s rd rh 0 := fun μ T h hS hd => by have := px0 hS; omega
theorem FiC.z {k : Nat} {up dn : Int} : FiC X W P k up dn 0 := fun μ T h s hS hd => by have := px0 hS; omega
theorem stm_all : ∀ d : Nat, StA X W P d
  | 0 => ⟨⟨SL.z (by decide), fun μ T h hS hd => by have := px0 hS; omega, fun μ T h hS hd => by have := px0 hS; omega⟩, ⟨FiC.z, FiC.z, FiC.z, FiC.z⟩, fun μ T h s k a b hS hd => by have := px0 hS; omega, SL.z (by decide), SL.z (by decide)⟩
  | d + 1 => by
    obtain ⟨⟨a1, a2, a3⟩, ⟨b1, b2, b3, b4⟩, c1, c2, c3⟩ := stm_all d
    obtain ⟨⟨e1, -⟩, -, -, e2, e3⟩ := (ex_all d : ExA X W P d)
    exact ⟨⟨st_statements a2, st_statement e1 a1 a3 b1 b2 b3 b4, st_arms e1 a1⟩, ⟨st_for e1 a1, st_try a1 c2 c1, st_typecase e1 c3 c1, st_byPlace e2 e3 e1⟩, st_otherwise a1, st_cases52 a1, st_cases61 (ty_all d).1 a1⟩
end PSK
