/-! contracts of the reference: statements -/
section PSJ
variable {X : ev_X} {W : Nat → Prop} {d : Nat} {P : MP}
theorem st_byPlace (hP : XC X W P 331 [] 2 7 2 1 1 d) (hC : CallC X W P d) (hE : XC X W P 332 [] 1 20 12 0 0 d) : FiC X W P 329 1 1 (d + 1) := fun μ T h9 s hS hd hh hn hT s0 s1 nd0 => by
  have hp := px0 hS
  have h0 := hS.2.2.2.2.1
  have at0 := hS.at
  have hcs := @ic s
  obtain ⟨h, rfl⟩ : ∃ h, h9 = h + 1 := ⟨h9 - 1, by omega⟩
  have p0 : TR s.toInt 0 0 0 0 0 μ μ := TR.rf hS
  have lt0 : s.toInt < (μ.1 19).toInt := by omega
  have s9 : s.toInt < 15990 := by omega
  refine me_meth (by omega) rfl (v_byPlace_0 _ ?_)
  have x895 := p0.px
  have u896 := p0.2
  have y897 := tT p0
  have z898 := px0 p0.ps
  refine MC.mono (hP μ T h p0.ps (by omega) (by omega) (by omega) (fun _ h => hT _ (p0.1.1.tr h))) (fun r892 κ893 h894 => ?_) (fun _ h => h)
  obtain ⟨q899, a901, g900, n902⟩ := h894
  have l903 := q899.l19
  have l904 := q899.l32
  have p905 : TR (s.toInt) (0) 0 0 0 (0) μ κ893 := p0.trS q899 (Or.inl (by decide)) rfl rfl rfl rfl (by omega)
  have nd906 := nd0.tr q899 (by have := @ic s; omega) (by omega)
  have lt907 : s.toInt < (κ893.1 19).toInt := by omega
  have k908 : Kd κ893 h s.toInt s 2 r892 := Kd.of g900 (by omega) (Int.le_refl _) s0 (Or.inl (by omega))
  have p909 : TR (s.toInt) (0) 0 0 0 (-1) μ κ893 := ⟨p905.1, by have := p905.2; have := q899.2; omega⟩
  refine MC.mono (c_is (by omega) p909.ps) (fun r910 κ911 h912 => ?_) (fun _ h => h)
  obtain ⟨rfl, rfl⟩ := h912
  refine ⟨fun _ => ?_, fun _ => ?_⟩
  · skip
    refine MC.mono (t_expect (by omega) p909.ps (by decide) (fun _ h => hT _ (p909.1.1.tr h))) (fun v913 κ918 h914 => ?_) (fun _ h => h)
    obtain ⟨q915, m916, a917⟩ := h914
    have p919 : TR (s.toInt) (0) 0 0 0 (-3) μ κ918 := p909.trS q915 (Or.inl (by decide)) rfl rfl rfl rfl (by omega)
    have k920 := k908.tr q915 (Or.inl (by decide)) s0
    have nd921 := nd906.tr q915 (by have := @ic s; omega) (by omega)
    have lt922 : s.toInt < (κ918.1 19).toInt := by omega
    have g923 : TR s.toInt 0 0 0 0 0 κ918 (mA1 κ918 22 s.toNatClampNeg r892) := TR.put p919.ps s0 rfl rfl
    have e925 : ((mA1 κ918 22 s.toNatClampNeg r892).1 19).toInt = (κ918.1 19).toInt := rfl
    have e926 : ((mA1 κ918 22 s.toNatClampNeg r892).1 32).toInt = (κ918.1 32).toInt := rfl
    have sr928 : srt (mA1 κ918 22 s.toNatClampNeg r892) = srt κ918 := srt_off rfl
    have nd927 := nd921.pa (x := r892)
    have p929 : TR (s.toInt) (0) 0 0 0 (-3) μ (mA1 κ918 22 s.toNatClampNeg r892) := p919.trS g923 (Or.inr (Or.inl rfl)) rfl rfl rfl rfl (by omega)
    have k930 := k920.tr g923 (Or.inr rfl) s0
    refine ⟨TR.mi p919.ps rfl rfl s0 (by omega), ?_⟩
    generalize mA1 κ918 22 s.toNatClampNeg r892 = κ924 at *
    have lt931 : s.toInt < (κ924.1 19).toInt := by omega
    refine MC.mono (c_is (by omega) p929.ps) (fun r932 κ933 h934 => ?_) (fun _ h => h)
    obtain ⟨rfl, rfl⟩ := h934
    refine ⟨fun _ => ?_, fun hw => ?_⟩
    · skip
      have g935 : TR s.toInt 0 0 0 0 0 κ933 (mA1 κ933 20 s.toNatClampNeg 40) := TR.put p929.ps s0 rfl rfl
      have e937 : ((mA1 κ933 20 s.toNatClampNeg 40).1 19).toInt = (κ933.1 19).toInt := rfl
      have e938 : ((mA1 κ933 20 s.toNatClampNeg 40).1 32).toInt = (κ933.1 32).toInt := rfl
      have sr940 : srt (mA1 κ933 20 s.toNatClampNeg 40) = srt κ933 := srt_off rfl
      have nd939 := nd927.pk (x := 40)
      have p941 : TR (s.toInt) (0) 0 0 0 (-3) μ (mA1 κ933 20 s.toNatClampNeg 40) := p929.trS g935 (Or.inr (Or.inl rfl)) rfl rfl rfl rfl (by omega)
      have k942 := k930.tr g935 (Or.inr rfl) s0
      refine ⟨TR.mi p929.ps rfl rfl s0 (by omega), ?_⟩
      generalize mA1 κ933 20 s.toNatClampNeg 40 = κ936 at *
      have lt943 : s.toInt < (κ936.1 19).toInt := by omega
      have x947 := p941.px
      have u948 := p941.2
      have y949 := tT p941
      have z950 := px0 p941.ps
      refine MC.mono (hE κ936 T h p941.ps (by omega) (by omega) (by omega) (fun _ h => hT _ (p941.1.1.tr h))) (fun r944 κ945 h946 => ?_) (fun _ h => h)
      obtain ⟨q951, a953, g952, n954⟩ := h946
      have l955 := q951.l19
      have l956 := q951.l32
      have p957 : TR (s.toInt) (0) 0 0 0 (-3) μ κ945 := p941.trS q951 (Or.inl (by decide)) rfl rfl rfl rfl (by omega)
      have k958 := k942.tr q951 (Or.inl (by decide)) s0
      have nd959 := nd939.tr q951 (by have := @ic s; omega) (by omega)
      have lt960 : s.toInt < (κ945.1 19).toInt := by omega
      have k961 : Kd κ945 h s.toInt s 1 r944 := Kd.of g952 (by omega) (Int.le_refl _) s0 (Or.inl (by omega))
      have g962 : TR s.toInt 0 0 0 0 0 κ945 (mA1 κ945 23 s.toNatClampNeg r944) := TR.put p957.ps s0 rfl rfl
      have e964 : ((mA1 κ945 23 s.toNatClampNeg r944).1 19).toInt = (κ945.1 19).toInt := rfl
      have e965 : ((mA1 κ945 23 s.toNatClampNeg r944).1 32).toInt = (κ945.1 32).toInt := rfl
      have sr967 : srt (mA1 κ945 23 s.toNatClampNeg r944) = srt κ945 := srt_off rfl
      have nd966 := nd959.pb (x := r944)
      have p968 : TR (s.toInt) (0) 0 0 0 (-3) μ (mA1 κ945 23 s.toNatClampNeg r944) := p957.trS g962 (Or.inr (Or.inl rfl)) rfl rfl rfl rfl (by omega)
      have k969 := k958.tr g962 (Or.inr rfl) s0
      have k970 := k961.tr g962 (Or.inr rfl) s0
      have gg971 := g952.tr g962 (by omega) (Or.inl (by omega))
      refine ⟨TR.mi p957.ps rfl rfl s0 (by omega), ?_⟩
      generalize mA1 κ945 23 s.toNatClampNeg r944 = κ963 at *
      have lt972 : s.toInt < (κ963.1 19).toInt := by omega
      refine MC.mono (c_is (by omega) p968.ps) (fun r973 κ974 h975 => ?_) (fun _ h => h)
      obtain ⟨rfl, rfl⟩ := h975
      refine ⟨fun _ => ?_, fun _ => ?_⟩
      · skip
        exact ⟨⟨p968.1, by have := p968.2; omega⟩, G.mk s0 (Int.le_refl _) lt972 nd966 (by decide) (Kd.up k969 (Nat.le_succ _)) (Kd.up k970 (Nat.le_succ _)) True.intro True.intro True.intro, nd966.2.2.2.2.2.2⟩
      · skip
        obtain ⟨i1, i2, i3⟩ := gg971.in
        have hce := @ic r944
        have uc := p968.2
        have ac := p968.ps.at
        have eb := nd966.2.2.1
        refine ⟨TR.mi p968.ps rfl rfl s0 (by omega), ?_⟩
        rw [eb]
        refine ⟨TR.mi p968.ps rfl rfl i1 (by omega), fun _ => ?_, fun h70 => ⟨TR.mi p968.ps rfl rfl s0 (by omega), TR.mi p968.ps rfl rfl i1 (by omega), fun _ => ?_, fun _ => ?_⟩⟩
        · skip
          exact ⟨⟨p968.1, by have := p968.2; omega⟩, G.mk s0 (Int.le_refl _) lt972 nd966 (by decide) (Kd.up k969 (Nat.le_succ _)) (Kd.up k970 (Nat.le_succ _)) True.intro True.intro True.intro, nd966.2.2.2.2.2.2⟩
        · skip
          exact ⟨⟨p968.1, by have := p968.2; omega⟩, G.mk s0 (Int.le_refl _) lt972 nd966 (by decide) (Kd.up k969 (Nat.le_succ _)) (Kd.up k970 (Nat.le_succ _)) True.intro True.intro True.intro, nd966.2.2.2.2.2.2⟩
        · skip
          refine ⟨TR.mi p968.ps rfl rfl s0 (by omega), ?_⟩
          have gg976 := G.lp gg971 h70
          have g978 : TR s.toInt 0 0 0 0 0 κ974 (mA1 κ974 20 s.toNatClampNeg 42) := TR.put p968.ps s0 rfl rfl
          have e980 : ((mA1 κ974 20 s.toNatClampNeg 42).1 19).toInt = (κ974.1 19).toInt := rfl
          have e981 : ((mA1 κ974 20 s.toNatClampNeg 42).1 32).toInt = (κ974.1 32).toInt := rfl
          have sr983 : srt (mA1 κ974 20 s.toNatClampNeg 42) = srt κ974 := srt_off rfl
          have nd982 := nd966.pk (x := 42)
          have p984 : TR (s.toInt) (0) 0 0 0 (-3) μ (mA1 κ974 20 s.toNatClampNeg 42) := p968.trS g978 (Or.inr (Or.inl rfl)) rfl rfl rfl rfl (by omega)
          have k985 := k969.tr g978 (Or.inr rfl) s0
          have gg986 := gg976.tr g978 (by omega) (Or.inl (by omega))
          refine ⟨TR.mi p968.ps rfl rfl s0 (by omega), ?_⟩
          generalize mA1 κ974 20 s.toNatClampNeg 42 = κ979 at *
          have lt987 : s.toInt < (κ979.1 19).toInt := by omega
          have x996 := p984.px
          have u997 := p984.2
          have y998 := tT p984
          have z999 := px0 p984.ps
          refine MC.mono (hC κ979 T h r944 (_) p984.ps (by omega) (by omega) (by omega) (by omega) (by omega) (gg986.up (Nat.le_refl _) (Int.le_refl _) (by omega)) (fun _ h => hT _ (p984.1.1.tr h))) (fun r989 κ990 h991 => ?_) (fun _ h => h)
          obtain ⟨q992, a993, g994, n995⟩ := h991
          have l1000 := q992.l19
          have l1001 := q992.l32
          have p1002 : TR (s.toInt) (0) 0 0 0 (-3) μ κ990 := p984.trS q992 (Or.inl (by decide)) rfl rfl rfl rfl (by omega)
          have k1003 := k985.tr q992 (Or.inl (by decide)) s0
          have nd1004 := nd982.tr q992 (by have := @ic s; omega) (by omega)
          have lt1005 : s.toInt < (κ990.1 19).toInt := by omega
          have k1006 : Kd κ990 (h + 1) s.toInt s 17 r989 := Kd.of g994 (by omega) (Int.le_refl _) s0 (Or.inl (by omega))
          have g1007 : TR s.toInt 0 0 0 0 0 κ990 (mA1 κ990 23 s.toNatClampNeg r989) := TR.put p1002.ps s0 rfl rfl
          have e1009 : ((mA1 κ990 23 s.toNatClampNeg r989).1 19).toInt = (κ990.1 19).toInt := rfl
          have e1010 : ((mA1 κ990 23 s.toNatClampNeg r989).1 32).toInt = (κ990.1 32).toInt := rfl
          have sr1012 : srt (mA1 κ990 23 s.toNatClampNeg r989) = srt κ990 := srt_off rfl
          have nd1011 := nd1004.pb (x := r989)
          have p1013 : TR (s.toInt) (0) 0 0 0 (-3) μ (mA1 κ990 23 s.toNatClampNeg r989) := p1002.trS g1007 (Or.inr (Or.inl rfl)) rfl rfl rfl rfl (by omega)
          have k1014 := k1003.tr g1007 (Or.inr rfl) s0
          have k1015 := k1006.tr g1007 (Or.inr rfl) s0
          refine ⟨TR.mi p1002.ps rfl rfl s0 (by omega), ?_⟩
          generalize mA1 κ990 23 s.toNatClampNeg r989 = κ1008 at *
          have lt1016 : s.toInt < (κ1008.1 19).toInt := by omega
          exact ⟨⟨p1013.1, by have := p1013.2; omega⟩, G.mk s0 (Int.le_refl _) lt1016 nd1011 (by decide) (Or.inr (Kd.up k1014 (Nat.le_succ _))) (k1015) True.intro True.intro True.intro, nd1011.2.2.2.2.2.2⟩
    · skip
      have hw3 : ¬ srt κ933 = 203 := by rw [is_t hw]; decide
      have g1017 : TR s.toInt 0 0 0 0 0 κ933 (mA1 κ933 20 s.toNatClampNeg 41) := TR.put p929.ps s0 rfl rfl
      have e1019 : ((mA1 κ933 20 s.toNatClampNeg 41).1 19).toInt = (κ933.1 19).toInt := rfl
      have e1020 : ((mA1 κ933 20 s.toNatClampNeg 41).1 32).toInt = (κ933.1 32).toInt := rfl
      have sr1022 : srt (mA1 κ933 20 s.toNatClampNeg 41) = srt κ933 := srt_off rfl
      have nd1021 := nd927.pk (x := 41)
      have p1023 : TR (s.toInt) (0) 0 0 0 (-3) μ (mA1 κ933 20 s.toNatClampNeg 41) := p929.trS g1017 (Or.inr (Or.inl rfl)) rfl rfl rfl rfl (by omega)
      have k1024 := k930.tr g1017 (Or.inr rfl) s0
      refine ⟨TR.mi p929.ps rfl rfl s0 (by omega), ?_⟩
      generalize mA1 κ933 20 s.toNatClampNeg 41 = κ1018 at *
      have lt1025 : s.toInt < (κ1018.1 19).toInt := by omega
      have hw4 : ¬ srt κ1018 = 203 := by rw [sr1022]; exact hw3
      refine MC.mono (t_next (by omega) p1023.ps (hw4) (fun _ h => hT _ (p1023.1.1.tr h))) (fun v1026 κ1031 h1027 => ?_) (fun _ h => h)
      obtain ⟨q1028, m1029, a1030⟩ := h1027
      have p1032 : TR (s.toInt) (0) 0 0 0 (-5) μ κ1031 := p1023.trS q1028 (Or.inl (by decide)) rfl rfl rfl rfl (by omega)
      have k1033 := k1024.tr q1028 (Or.inl (by decide)) s0
      have nd1034 := nd1021.tr q1028 (by have := @ic s; omega) (by omega)
      have lt1035 : s.toInt < (κ1031.1 19).toInt := by omega
      have x1039 := p1032.px
      have u1040 := p1032.2
      have y1041 := tT p1032
      have z1042 := px0 p1032.ps
      refine MC.mono (hP κ1031 T h p1032.ps (by omega) (by omega) (by omega) (fun _ h => hT _ (p1032.1.1.tr h))) (fun r1036 κ1037 h1038 => ?_) (fun _ h => h)
      obtain ⟨q1043, a1045, g1044, n1046⟩ := h1038
      have l1047 := q1043.l19
      have l1048 := q1043.l32
      have p1049 : TR (s.toInt) (0) 0 0 0 (-5) μ κ1037 := p1032.trS q1043 (Or.inl (by decide)) rfl rfl rfl rfl (by omega)
      have k1050 := k1033.tr q1043 (Or.inl (by decide)) s0
      have nd1051 := nd1034.tr q1043 (by have := @ic s; omega) (by omega)
      have lt1052 : s.toInt < (κ1037.1 19).toInt := by omega
      have k1053 : Kd κ1037 h s.toInt s 2 r1036 := Kd.of g1044 (by omega) (Int.le_refl _) s0 (Or.inl (by omega))
      refine MC.mono (c_is (by omega) p1049.ps) (fun r1054 κ1055 h1056 => ?_) (fun _ h => h)
      obtain ⟨rfl, rfl⟩ := h1056
      refine ⟨fun _ => ?_, fun _ => MC.mono (c_unfit (by omega) p1049.ps (fun _ h => hT _ (p1049.1.1.tr h))) (fun _ _ h => h.elim) (fun _ h => h)⟩
      have x1064 := p1049.px
      have u1065 := p1049.2
      have y1066 := tT p1049
      have z1067 := px0 p1049.ps
      refine MC.mono (hC κ1055 T h r1036 (_) p1049.ps (by omega) (by omega) (by omega) (by omega) (by omega) (g1044.up (Nat.le_refl _) (Int.le_refl _) (by omega)) (fun _ h => hT _ (p1049.1.1.tr h))) (fun r1057 κ1058 h1059 => ?_) (fun _ h => h)
      obtain ⟨q1060, a1061, g1062, n1063⟩ := h1059
      have l1068 := q1060.l19
      have l1069 := q1060.l32
      have p1070 : TR (s.toInt) (0) 0 0 0 (-5) μ κ1058 := p1049.trS q1060 (Or.inl (by decide)) rfl rfl rfl rfl (by omega)
      have k1071 := k1050.tr q1060 (Or.inl (by decide)) s0
      have nd1072 := nd1051.tr q1060 (by have := @ic s; omega) (by omega)
      have lt1073 : s.toInt < (κ1058.1 19).toInt := by omega
      have k1074 : Kd κ1058 (h + 1) s.toInt s 17 r1057 := Kd.of g1062 (by omega) (Int.le_refl _) s0 (Or.inl (by omega))
      have g1075 : TR s.toInt 0 0 0 0 0 κ1058 (mA1 κ1058 23 s.toNatClampNeg r1057) := TR.put p1070.ps s0 rfl rfl
      have e1077 : ((mA1 κ1058 23 s.toNatClampNeg r1057).1 19).toInt = (κ1058.1 19).toInt := rfl
      have e1078 : ((mA1 κ1058 23 s.toNatClampNeg r1057).1 32).toInt = (κ1058.1 32).toInt := rfl
      have sr1080 : srt (mA1 κ1058 23 s.toNatClampNeg r1057) = srt κ1058 := srt_off rfl
      have nd1079 := nd1072.pb (x := r1057)
      have p1081 : TR (s.toInt) (0) 0 0 0 (-5) μ (mA1 κ1058 23 s.toNatClampNeg r1057) := p1070.trS g1075 (Or.inr (Or.inl rfl)) rfl rfl rfl rfl (by omega)
      have k1082 := k1071.tr g1075 (Or.inr rfl) s0
      have k1083 := k1074.tr g1075 (Or.inr rfl) s0
      refine ⟨TR.mi p1070.ps rfl rfl s0 (by omega), ?_⟩
      generalize mA1 κ1058 23 s.toNatClampNeg r1057 = κ1076 at *
      have lt1084 : s.toInt < (κ1076.1 19).toInt := by omega
      exact ⟨⟨p1081.1, by have := p1081.2; omega⟩, G.mk s0 (Int.le_refl _) lt1084 nd1079 (by decide) (Kd.up k1082 (Nat.le_succ _)) (k1083) True.intro True.intro True.intro, nd1079.2.2.2.2.2.2⟩
  · skip
    have g1085 : TR s.toInt 0 0 0 0 0 κ911 (mA1 κ911 20 s.toNatClampNeg 42) := TR.put p909.ps s0 rfl rfl
    have e1087 : ((mA1 κ911 20 s.toNatClampNeg 42).1 19).toInt = (κ911.1 19).toInt := rfl
    have e1088 : ((mA1 κ911 20 s.toNatClampNeg 42).1 32).toInt = (κ911.1 32).toInt := rfl
    have sr1090 : srt (mA1 κ911 20 s.toNatClampNeg 42) = srt κ911 := srt_off rfl
    have nd1089 := nd906.pk (x := 42)
    have p1091 : TR (s.toInt) (0) 0 0 0 (-1) μ (mA1 κ911 20 s.toNatClampNeg 42) := p909.trS g1085 (Or.inr (Or.inl rfl)) rfl rfl rfl rfl (by omega)
    have gg1092 := g900.tr g1085 (by omega) (Or.inl (by omega))
    refine ⟨TR.mi p909.ps rfl rfl s0 (by omega), ?_⟩
    generalize mA1 κ911 20 s.toNatClampNeg 42 = κ1086 at *
    have lt1093 : s.toInt < (κ1086.1 19).toInt := by omega
    have x1101 := p1091.px
    have u1102 := p1091.2
    have y1103 := tT p1091
    have z1104 := px0 p1091.ps
    refine MC.mono (hC κ1086 T h r892 (_) p1091.ps (by omega) (by omega) (by omega) (by omega) (by omega) (gg1092.up (Nat.le_refl _) (Int.le_refl _) (by omega)) (fun _ h => hT _ (p1091.1.1.tr h))) (fun r1094 κ1095 h1096 => ?_) (fun _ h => h)
    obtain ⟨q1097, a1098, g1099, n1100⟩ := h1096
    have l1105 := q1097.l19
    have l1106 := q1097.l32
    have p1107 : TR (s.toInt) (0) 0 0 0 (-1) μ κ1095 := p1091.trS q1097 (Or.inl (by decide)) rfl rfl rfl rfl (by omega)
    have nd1108 := nd1089.tr q1097 (by have := @ic s; omega) (by omega)
    have lt1109 : s.toInt < (κ1095.1 19).toInt := by omega
    have k1110 : Kd κ1095 (h + 1) s.toInt s 17 r1094 := Kd.of g1099 (by omega) (Int.le_refl _) s0 (Or.inl (by omega))
    have g1111 : TR s.toInt 0 0 0 0 0 κ1095 (mA1 κ1095 23 s.toNatClampNeg r1094) := TR.put p1107.ps s0 rfl rfl
    have e1113 : ((mA1 κ1095 23 s.toNatClampNeg r1094).1 19).toInt = (κ1095.1 19).toInt := rfl
    have e1114 : ((mA1 κ1095 23 s.toNatClampNeg r1094).1 32).toInt = (κ1095.1 32).toInt := rfl
    have sr1116 : srt (mA1 κ1095 23 s.toNatClampNeg r1094) = srt κ1095 := srt_off rfl
    have nd1115 := nd1108.pb (x := r1094)
    have p1117 : TR (s.toInt) (0) 0 0 0 (-1) μ (mA1 κ1095 23 s.toNatClampNeg r1094) := p1107.trS g1111 (Or.inr (Or.inl rfl)) rfl rfl rfl rfl (by omega)
    have k1118 := k1110.tr g1111 (Or.inr rfl) s0
    refine ⟨TR.mi p1107.ps rfl rfl s0 (by omega), ?_⟩
    generalize mA1 κ1095 23 s.toNatClampNeg r1094 = κ1112 at *
    have lt1119 : s.toInt < (κ1112.1 19).toInt := by omega
    exact ⟨⟨p1117.1, by have := p1117.2; omega⟩, G.mk s0 (Int.le_refl _) lt1119 nd1115 (by decide) (Or.inl rfl) (k1118) True.intro True.intro True.intro, nd1115.2.2.2.2.2.2⟩
theorem st_statement (hE : XC X W P 332 [] 1 20 12 0 0 d) (hSt : SL X W P 321 [] 3 19 11 d) (hA : ArC X W P d) (hFor : FiC X W P 324 0 0 d) (hTry : FiC X W P 325 0 0 d) (hTc : FiC X W P 327 0 0 d) (hBy : FiC X W P 329 1 1 d) : SC X W P 322 3 22 14 (d + 1) := fun μ T h9 hS hd hh hn hT hb => by
  have hp := px0 hS
  have h0 := hS.2.2.2.2.1
  have at0 := hS.at
  have hb0 := hS.2.2.2.2.2.1.1
  obtain ⟨h, rfl⟩ : ∃ h, h9 = h + 1 := ⟨h9 - 1, by omega⟩
  refine me_meth (by omega) rfl (v_statement_0 (MC.mono (t_node (by omega) hS (by omega)) (fun s ν h1 => ?_) (fun _ h => h)))
  obtain ⟨q1, ⟨q2, s0⟩, q3, q4, q5, q6⟩ := h1
  have hcs := @ic s
  have s9 : s.toInt < 15990 := by omega
  have atν := q1.ps.at
  have hs3 : ¬ srt ν = 203 := by rw [q5]; exact bgS_e hb
  have xν := q1.px
  refine ⟨MI.of (q1.ps.1.g rfl rfl : _ = 6002) atν.1 atν.2, fun _ => ?_, fun _ => MC.mono (hBy ν T h s q1.ps (by omega) (by omega) (by omega) (fun _ h => hT _ (q1.1.1.tr h)) s0 (by omega) q6) (fun r κ hk => ?_) (fun _ h => h)⟩
  · generalize ν.2.1 9 (ν.1 32).toNatClampNeg = w
    refine MC.mono (t_next (by omega) q1.ps hs3 (fun _ h => hT _ (q1.1.1.tr h))) (fun _ κ hk => ?_) (fun _ h => h)
    obtain ⟨m1, m2, m3⟩ := hk
    have p0 : TR (-1) 0 0 0 0 (-1) μ κ := q1.tr m1 (Or.inl (by decide)) rfl rfl rfl rfl (by omega)
    have nd0 := q6.tr m1 (by omega) (by omega)
    have lt0 : s.toInt < (κ.1 19).toInt := by omega
    have xκ := p0.px
    have fill : ∀ k, FiC X W P k 0 0 d → MC X W true d k [.ref P.1, .int s] P κ (fun _ κ1 => ME X W true d 322 553 [(0, .ref P.1), (1, .int s), (2, .int w)] [] P κ1 (fun r μ1 => XN 0 3 (h + 1) μ r μ1) T) T := fun k hk => MC.mono (hk κ T h s p0.ps (by omega) (by omega) (by omega) (fun _ h => hT _ (p0.1.1.tr h)) s0 (by omega) nd0) (fun r κ1 h1 => by
      obtain ⟨z1, z2, z3⟩ := h1
      have l1 := z1.l32
      exact v_statement_553 _ _ ⟨p0.tr z1 (Or.inr (by omega)) rfl rfl rfl rfl (by omega), by omega, z2.up (Nat.le_refl _) (by omega) (Int.le_refl _), z3⟩) (fun _ h => h)
    refine ⟨fun _ => ?_, fun _ => fill 324 hFor, fun _ => ?_, fun _ => ?_, fun _ => ?_, fun _ => ?_, fun _ => ?_, fun _ => fill 325 hTry, fun _ => fill 327 hTc, fun _ => ?_, fun _ => ?_, fun _ => ⟨fun _ => ⟨fun _ => ⟨fun _ => ?_, fun _ => ?_⟩, fun _ => ?_⟩, fun _ => ?_⟩⟩
    · skip
      exact v_statement_553 _ _ ⟨⟨p0.1, by have := p0.2; omega⟩, by omega, (G.mk (lo := s.toInt) s0 (Int.le_refl _) lt0 nd0 (by decide) True.intro True.intro True.intro True.intro True.intro : G κ (h + 1) (bt s.toInt (κ.1 19).toInt) 3 s).up (Nat.le_refl _) (by omega) (Int.le_refl _), nd0.2.2.2.2.2.2⟩
    · skip
      have g1120 : TR s.toInt 0 0 0 0 0 κ (mA1 κ 20 s.toNatClampNeg 44) := TR.put p0.ps s0 rfl rfl
      have e1122 : ((mA1 κ 20 s.toNatClampNeg 44).1 19).toInt = (κ.1 19).toInt := rfl
      have e1123 : ((mA1 κ 20 s.toNatClampNeg 44).1 32).toInt = (κ.1 32).toInt := rfl
      have sr1125 : srt (mA1 κ 20 s.toNatClampNeg 44) = srt κ := srt_off rfl
      have nd1124 := nd0.pk (x := 44)
      have p1126 : TR (-1) (0) 0 0 0 (-1) μ (mA1 κ 20 s.toNatClampNeg 44) := p0.trS g1120 (Or.inr (Or.inr (by omega))) rfl rfl rfl rfl (by omega)
      refine ⟨TR.mi p0.ps rfl rfl s0 (by omega), ?_⟩
      generalize mA1 κ 20 s.toNatClampNeg 44 = κ1121 at *
      have lt1127 : s.toInt < (κ1121.1 19).toInt := by omega
      have x1128 := p1126.px
      have u1129 := p1126.2
      have y1130 := tT p1126
      have z1131 := px0 p1126.ps
      refine MC.mono (hA κ1121 T h p1126.ps (by omega) (by omega) (by omega) (fun _ h => hT _ (p1126.1.1.tr h))) (fun r4 κ4 h4 => ?_) (fun _ h => h)
      obtain ⟨qA, neA, gA⟩ := h4
      have lA := qA.l19
      have lA2 := qA.l32
      have p1132 : TR (-1) (0) 0 0 0 (-1) μ κ4 := p1126.trS qA (Or.inl (by decide)) rfl rfl rfl rfl (by omega)
      have nd1133 := nd1124.tr qA (by have := @ic s; omega) (by omega)
      have lt1134 : s.toInt < (κ4.1 19).toInt := by omega
      have kA : KL κ4 h s.toInt s 13 r4 := KL.of gA (by omega) (Int.le_refl _) s0 (Or.inl (by omega))
      have g1135 : TR s.toInt 0 0 0 0 0 κ4 (mA1 κ4 22 s.toNatClampNeg r4) := TR.put p1132.ps s0 rfl rfl
      have e1137 : ((mA1 κ4 22 s.toNatClampNeg r4).1 19).toInt = (κ4.1 19).toInt := rfl
      have e1138 : ((mA1 κ4 22 s.toNatClampNeg r4).1 32).toInt = (κ4.1 32).toInt := rfl
      have sr1140 : srt (mA1 κ4 22 s.toNatClampNeg r4) = srt κ4 := srt_off rfl
      have nd1139 := nd1133.pa (x := r4)
      have p1141 : TR (-1) (0) 0 0 0 (-1) μ (mA1 κ4 22 s.toNatClampNeg r4) := p1132.trS g1135 (Or.inr (Or.inr (by omega))) rfl rfl rfl rfl (by omega)
      have k1142 := kA.tr g1135 (Or.inr rfl) s0
      refine ⟨TR.mi p1132.ps rfl rfl s0 (by omega), ?_⟩
      generalize mA1 κ4 22 s.toNatClampNeg r4 = κ1136 at *
      have lt1143 : s.toInt < (κ1136.1 19).toInt := by omega
      exact v_statement_553 _ _ ⟨⟨p1141.1, by have := p1141.2; omega⟩, by omega, (G.mk (lo := s.toInt) s0 (Int.le_refl _) lt1143 nd1139 (by decide) (⟨neA, k1142⟩) True.intro True.intro True.intro True.intro : G κ1136 (h + 1) (bt s.toInt (κ1136.1 19).toInt) 3 s).up (Nat.le_refl _) (by omega) (Int.le_refl _), nd1139.2.2.2.2.2.2⟩
    · skip
      have g1144 : TR s.toInt 0 0 0 0 0 κ (mA1 κ 20 s.toNatClampNeg 54) := TR.put p0.ps s0 rfl rfl
      have e1146 : ((mA1 κ 20 s.toNatClampNeg 54).1 19).toInt = (κ.1 19).toInt := rfl
      have e1147 : ((mA1 κ 20 s.toNatClampNeg 54).1 32).toInt = (κ.1 32).toInt := rfl
      have sr1149 : srt (mA1 κ 20 s.toNatClampNeg 54) = srt κ := srt_off rfl
      have nd1148 := nd0.pk (x := 54)
      have p1150 : TR (-1) (0) 0 0 0 (-1) μ (mA1 κ 20 s.toNatClampNeg 54) := p0.trS g1144 (Or.inr (Or.inr (by omega))) rfl rfl rfl rfl (by omega)
      refine ⟨TR.mi p0.ps rfl rfl s0 (by omega), ?_⟩
      generalize mA1 κ 20 s.toNatClampNeg 54 = κ1145 at *
      have lt1151 : s.toInt < (κ1145.1 19).toInt := by omega
      have x1155 := p1150.px
      have u1156 := p1150.2
      have y1157 := tT p1150
      have z1158 := px0 p1150.ps
      refine MC.mono (hE κ1145 T h p1150.ps (by omega) (by omega) (by omega) (fun _ h => hT _ (p1150.1.1.tr h))) (fun r1152 κ1153 h1154 => ?_) (fun _ h => h)
      obtain ⟨q1159, a1161, g1160, n1162⟩ := h1154
      have l1163 := q1159.l19
      have l1164 := q1159.l32
      have p1165 : TR (-1) (0) 0 0 0 (-1) μ κ1153 := p1150.trS q1159 (Or.inl (by decide)) rfl rfl rfl rfl (by omega)
      have nd1166 := nd1148.tr q1159 (by have := @ic s; omega) (by omega)
      have lt1167 : s.toInt < (κ1153.1 19).toInt := by omega
      have k1168 : Kd κ1153 h s.toInt s 1 r1152 := Kd.of g1160 (by omega) (Int.le_refl _) s0 (Or.inl (by omega))
      have g1169 : TR s.toInt 0 0 0 0 0 κ1153 (mA1 κ1153 22 s.toNatClampNeg r1152) := TR.put p1165.ps s0 rfl rfl
      have e1171 : ((mA1 κ1153 22 s.toNatClampNeg r1152).1 19).toInt = (κ1153.1 19).toInt := rfl
      have e1172 : ((mA1 κ1153 22 s.toNatClampNeg r1152).1 32).toInt = (κ1153.1 32).toInt := rfl
      have sr1174 : srt (mA1 κ1153 22 s.toNatClampNeg r1152) = srt κ1153 := srt_off rfl
      have nd1173 := nd1166.pa (x := r1152)
      have p1175 : TR (-1) (0) 0 0 0 (-1) μ (mA1 κ1153 22 s.toNatClampNeg r1152) := p1165.trS g1169 (Or.inr (Or.inr (by omega))) rfl rfl rfl rfl (by omega)
      have k1176 := k1168.tr g1169 (Or.inr rfl) s0
      refine ⟨TR.mi p1165.ps rfl rfl s0 (by omega), ?_⟩
      generalize mA1 κ1153 22 s.toNatClampNeg r1152 = κ1170 at *
      have lt1177 : s.toInt < (κ1170.1 19).toInt := by omega
      refine MC.mono (t_expect (by omega) p1175.ps (by decide) (fun _ h => hT _ (p1175.1.1.tr h))) (fun v1178 κ1183 h1179 => ?_) (fun _ h => h)
      obtain ⟨q1180, m1181, a1182⟩ := h1179
      have p1184 : TR (-1) (0) 0 0 0 (-3) μ κ1183 := p1175.trS q1180 (Or.inl (by decide)) rfl rfl rfl rfl (by omega)
      have k1185 := k1176.tr q1180 (Or.inl (by decide)) s0
      have nd1186 := nd1173.tr q1180 (by have := @ic s; omega) (by omega)
      have lt1187 : s.toInt < (κ1183.1 19).toInt := by omega
      have x1191 := p1184.px
      have u1192 := p1184.2
      have y1193 := tT p1184
      have z1194 := px0 p1184.ps
      refine MC.mono (hSt κ1183 T h p1184.ps (by omega) (by omega) (by omega) (fun _ h => hT _ (p1184.1.1.tr h))) (fun r1188 κ1189 h1190 => ?_) (fun _ h => h)
      obtain ⟨q1195, g1196⟩ := h1190
      have l1197 := q1195.l19
      have l1198 := q1195.l32
      have p1199 : TR (-1) (0) 0 0 0 (-3) μ κ1189 := p1184.trS q1195 (Or.inl (by decide)) rfl rfl rfl rfl (by omega)
      have k1200 := k1185.tr q1195 (Or.inl (by decide)) s0
      have nd1201 := nd1186.tr q1195 (by have := @ic s; omega) (by omega)
      have lt1202 : s.toInt < (κ1189.1 19).toInt := by omega
      have k1203 : KL κ1189 h s.toInt s 3 r1188 := KL.of g1196 (by omega) (Int.le_refl _) s0 (Or.inl (by omega))
      have g1204 : TR s.toInt 0 0 0 0 0 κ1189 (mA1 κ1189 23 s.toNatClampNeg r1188) := TR.put p1199.ps s0 rfl rfl
      have e1206 : ((mA1 κ1189 23 s.toNatClampNeg r1188).1 19).toInt = (κ1189.1 19).toInt := rfl
      have e1207 : ((mA1 κ1189 23 s.toNatClampNeg r1188).1 32).toInt = (κ1189.1 32).toInt := rfl
      have sr1209 : srt (mA1 κ1189 23 s.toNatClampNeg r1188) = srt κ1189 := srt_off rfl
      have nd1208 := nd1201.pb (x := r1188)
      have p1210 : TR (-1) (0) 0 0 0 (-3) μ (mA1 κ1189 23 s.toNatClampNeg r1188) := p1199.trS g1204 (Or.inr (Or.inr (by omega))) rfl rfl rfl rfl (by omega)
      have k1211 := k1200.tr g1204 (Or.inr rfl) s0
      have k1212 := k1203.tr g1204 (Or.inr rfl) s0
      refine ⟨TR.mi p1199.ps rfl rfl s0 (by omega), ?_⟩
      generalize mA1 κ1189 23 s.toNatClampNeg r1188 = κ1205 at *
      have lt1213 : s.toInt < (κ1205.1 19).toInt := by omega
      refine MC.mono (t_expect (by omega) p1210.ps (by decide) (fun _ h => hT _ (p1210.1.1.tr h))) (fun v1214 κ1219 h1215 => ?_) (fun _ h => h)
      obtain ⟨q1216, m1217, a1218⟩ := h1215
      have p1220 : TR (-1) (0) 0 0 0 (-5) μ κ1219 := p1210.trS q1216 (Or.inl (by decide)) rfl rfl rfl rfl (by omega)
      have k1221 := k1211.tr q1216 (Or.inl (by decide)) s0
      have k1222 := k1212.tr q1216 (Or.inl (by decide)) s0
      have nd1223 := nd1208.tr q1216 (by have := @ic s; omega) (by omega)
      have lt1224 : s.toInt < (κ1219.1 19).toInt := by omega
      exact v_statement_553 _ _ ⟨⟨p1220.1, by have := p1220.2; omega⟩, by omega, (G.mk (lo := s.toInt) s0 (Int.le_refl _) lt1224 nd1223 (by decide) (k1221) (k1222) True.intro True.intro True.intro : G κ1219 (h + 1) (bt s.toInt (κ1219.1 19).toInt) 3 s).up (Nat.le_refl _) (by omega) (Int.le_refl _), nd1223.2.2.2.2.2.2⟩
    · skip
      have g1225 : TR s.toInt 0 0 0 0 0 κ (mA1 κ 20 s.toNatClampNeg 47) := TR.put p0.ps s0 rfl rfl
      have e1227 : ((mA1 κ 20 s.toNatClampNeg 47).1 19).toInt = (κ.1 19).toInt := rfl
      have e1228 : ((mA1 κ 20 s.toNatClampNeg 47).1 32).toInt = (κ.1 32).toInt := rfl
      have sr1230 : srt (mA1 κ 20 s.toNatClampNeg 47) = srt κ := srt_off rfl
      have nd1229 := nd0.pk (x := 47)
      have p1231 : TR (-1) (0) 0 0 0 (-1) μ (mA1 κ 20 s.toNatClampNeg 47) := p0.trS g1225 (Or.inr (Or.inr (by omega))) rfl rfl rfl rfl (by omega)
      refine ⟨TR.mi p0.ps rfl rfl s0 (by omega), ?_⟩
      generalize mA1 κ 20 s.toNatClampNeg 47 = κ1226 at *
      have lt1232 : s.toInt < (κ1226.1 19).toInt := by omega
      have x1236 := p1231.px
      have u1237 := p1231.2
      have y1238 := tT p1231
      have z1239 := px0 p1231.ps
      refine MC.mono (hSt κ1226 T h p1231.ps (by omega) (by omega) (by omega) (fun _ h => hT _ (p1231.1.1.tr h))) (fun r1233 κ1234 h1235 => ?_) (fun _ h => h)
      obtain ⟨q1240, g1241⟩ := h1235
      have l1242 := q1240.l19
      have l1243 := q1240.l32
      have p1244 : TR (-1) (0) 0 0 0 (-1) μ κ1234 := p1231.trS q1240 (Or.inl (by decide)) rfl rfl rfl rfl (by omega)
      have nd1245 := nd1229.tr q1240 (by have := @ic s; omega) (by omega)
      have lt1246 : s.toInt < (κ1234.1 19).toInt := by omega
      have k1247 : KL κ1234 h s.toInt s 3 r1233 := KL.of g1241 (by omega) (Int.le_refl _) s0 (Or.inl (by omega))
      have g1248 : TR s.toInt 0 0 0 0 0 κ1234 (mA1 κ1234 23 s.toNatClampNeg r1233) := TR.put p1244.ps s0 rfl rfl
      have e1250 : ((mA1 κ1234 23 s.toNatClampNeg r1233).1 19).toInt = (κ1234.1 19).toInt := rfl
      have e1251 : ((mA1 κ1234 23 s.toNatClampNeg r1233).1 32).toInt = (κ1234.1 32).toInt := rfl
      have sr1253 : srt (mA1 κ1234 23 s.toNatClampNeg r1233) = srt κ1234 := srt_off rfl
      have nd1252 := nd1245.pb (x := r1233)
      have p1254 : TR (-1) (0) 0 0 0 (-1) μ (mA1 κ1234 23 s.toNatClampNeg r1233) := p1244.trS g1248 (Or.inr (Or.inr (by omega))) rfl rfl rfl rfl (by omega)
      have k1255 := k1247.tr g1248 (Or.inr rfl) s0
      refine ⟨TR.mi p1244.ps rfl rfl s0 (by omega), ?_⟩
      generalize mA1 κ1234 23 s.toNatClampNeg r1233 = κ1249 at *
      have lt1256 : s.toInt < (κ1249.1 19).toInt := by omega
      refine MC.mono (t_expect (by omega) p1254.ps (by decide) (fun _ h => hT _ (p1254.1.1.tr h))) (fun v1257 κ1262 h1258 => ?_) (fun _ h => h)
      obtain ⟨q1259, m1260, a1261⟩ := h1258
      have p1263 : TR (-1) (0) 0 0 0 (-3) μ κ1262 := p1254.trS q1259 (Or.inl (by decide)) rfl rfl rfl rfl (by omega)
      have k1264 := k1255.tr q1259 (Or.inl (by decide)) s0
      have nd1265 := nd1252.tr q1259 (by have := @ic s; omega) (by omega)
      have lt1266 : s.toInt < (κ1262.1 19).toInt := by omega
      exact v_statement_553 _ _ ⟨⟨p1263.1, by have := p1263.2; omega⟩, by omega, (G.mk (lo := s.toInt) s0 (Int.le_refl _) lt1266 nd1265 (by decide) True.intro (k1264) True.intro True.intro True.intro : G κ1262 (h + 1) (bt s.toInt (κ1262.1 19).toInt) 3 s).up (Nat.le_refl _) (by omega) (Int.le_refl _), nd1265.2.2.2.2.2.2⟩
    · skip
      have g1267 : TR s.toInt 0 0 0 0 0 κ (mA1 κ 20 s.toNatClampNeg 50) := TR.put p0.ps s0 rfl rfl
      have e1269 : ((mA1 κ 20 s.toNatClampNeg 50).1 19).toInt = (κ.1 19).toInt := rfl
      have e1270 : ((mA1 κ 20 s.toNatClampNeg 50).1 32).toInt = (κ.1 32).toInt := rfl
      have sr1272 : srt (mA1 κ 20 s.toNatClampNeg 50) = srt κ := srt_off rfl
      have nd1271 := nd0.pk (x := 50)
      have p1273 : TR (-1) (0) 0 0 0 (-1) μ (mA1 κ 20 s.toNatClampNeg 50) := p0.trS g1267 (Or.inr (Or.inr (by omega))) rfl rfl rfl rfl (by omega)
      refine ⟨TR.mi p0.ps rfl rfl s0 (by omega), ?_⟩
      generalize mA1 κ 20 s.toNatClampNeg 50 = κ1268 at *
      have lt1274 : s.toInt < (κ1268.1 19).toInt := by omega
      have x1278 := p1273.px
      have u1279 := p1273.2
      have y1280 := tT p1273
      have z1281 := px0 p1273.ps
      refine MC.mono (c_qname (by omega) p1273.ps (by omega) (fun _ h => hT _ (p1273.1.1.tr h))) (fun r1275 κ1276 h1277 => ?_) (fun _ h => h)
      obtain ⟨⟨z1284, z1285, z1286, z1287, z1288⟩, z1289⟩ := h1277
      have q1282 : TR (-1) 0 0 0 0 0 κ1268 κ1276 := ⟨z1284, by omega⟩
      have g1283 := z1287.up (h' := h) (by omega) (Int.le_refl _) (Int.le_refl _)
      have l1290 := q1282.l19
      have l1291 := q1282.l32
      have p1292 : TR (-1) (0) 0 0 0 (-1) μ κ1276 := p1273.trS q1282 (Or.inl (by decide)) rfl rfl rfl rfl (by omega)
      have nd1293 := nd1271.tr q1282 (by have := @ic s; omega) (by omega)
      have lt1294 : s.toInt < (κ1276.1 19).toInt := by omega
      have k1295 : Kd κ1276 h s.toInt s 7 r1275 := Kd.of g1283 (by omega) (Int.le_refl _) s0 (Or.inl (by omega))
      have g1296 : TR s.toInt 0 0 0 0 0 κ1276 (mA1 κ1276 22 s.toNatClampNeg r1275) := TR.put p1292.ps s0 rfl rfl
      have e1298 : ((mA1 κ1276 22 s.toNatClampNeg r1275).1 19).toInt = (κ1276.1 19).toInt := rfl
      have e1299 : ((mA1 κ1276 22 s.toNatClampNeg r1275).1 32).toInt = (κ1276.1 32).toInt := rfl
      have sr1301 : srt (mA1 κ1276 22 s.toNatClampNeg r1275) = srt κ1276 := srt_off rfl
      have nd1300 := nd1293.pa (x := r1275)
      have p1302 : TR (-1) (0) 0 0 0 (-1) μ (mA1 κ1276 22 s.toNatClampNeg r1275) := p1292.trS g1296 (Or.inr (Or.inr (by omega))) rfl rfl rfl rfl (by omega)
      have k1303 := k1295.tr g1296 (Or.inr rfl) s0
      refine ⟨TR.mi p1292.ps rfl rfl s0 (by omega), ?_⟩
      generalize mA1 κ1276 22 s.toNatClampNeg r1275 = κ1297 at *
      have lt1304 : s.toInt < (κ1297.1 19).toInt := by omega
      refine MC.mono (t_open (by omega) p1302.ps (by decide) (fun _ h => hT _ (p1302.1.1.tr h))) (fun v1305 κ1310 h1306 => ?_) (fun _ h => h)
      obtain ⟨q1307, m1308, a1309⟩ := h1306
      have p1311 : TR (-1) (1) 0 0 0 (-3) μ κ1310 := p1302.trS q1307 (Or.inl (by decide)) rfl rfl rfl rfl (by omega)
      have k1312 := k1303.tr q1307 (Or.inl (by decide)) s0
      have nd1313 := nd1300.tr q1307 (by have := @ic s; omega) (by omega)
      have lt1314 : s.toInt < (κ1310.1 19).toInt := by omega
      have x1318 := p1311.px
      have u1319 := p1311.2
      have y1320 := tT p1311
      have z1321 := px0 p1311.ps
      refine MC.mono (hE κ1310 T h p1311.ps (by omega) (by omega) (by omega) (fun _ h => hT _ (p1311.1.1.tr h))) (fun r1315 κ1316 h1317 => ?_) (fun _ h => h)
      obtain ⟨q1322, a1324, g1323, n1325⟩ := h1317
      have l1326 := q1322.l19
      have l1327 := q1322.l32
      have p1328 : TR (-1) (1) 0 0 0 (-3) μ κ1316 := p1311.trS q1322 (Or.inl (by decide)) rfl rfl rfl rfl (by omega)
      have k1329 := k1312.tr q1322 (Or.inl (by decide)) s0
      have nd1330 := nd1313.tr q1322 (by have := @ic s; omega) (by omega)
      have lt1331 : s.toInt < (κ1316.1 19).toInt := by omega
      have k1332 : Kd κ1316 h s.toInt s 1 r1315 := Kd.of g1323 (by omega) (Int.le_refl _) s0 (Or.inl (by omega))
      have g1333 : TR s.toInt 0 0 0 0 0 κ1316 (mA1 κ1316 23 s.toNatClampNeg r1315) := TR.put p1328.ps s0 rfl rfl
      have e1335 : ((mA1 κ1316 23 s.toNatClampNeg r1315).1 19).toInt = (κ1316.1 19).toInt := rfl
      have e1336 : ((mA1 κ1316 23 s.toNatClampNeg r1315).1 32).toInt = (κ1316.1 32).toInt := rfl
      have sr1338 : srt (mA1 κ1316 23 s.toNatClampNeg r1315) = srt κ1316 := srt_off rfl
      have nd1337 := nd1330.pb (x := r1315)
      have p1339 : TR (-1) (1) 0 0 0 (-3) μ (mA1 κ1316 23 s.toNatClampNeg r1315) := p1328.trS g1333 (Or.inr (Or.inr (by omega))) rfl rfl rfl rfl (by omega)
      have k1340 := k1329.tr g1333 (Or.inr rfl) s0
      have k1341 := k1332.tr g1333 (Or.inr rfl) s0
      refine ⟨TR.mi p1328.ps rfl rfl s0 (by omega), ?_⟩
      generalize mA1 κ1316 23 s.toNatClampNeg r1315 = κ1334 at *
      have lt1342 : s.toInt < (κ1334.1 19).toInt := by omega
      have hb1343 := p1339.b37
      refine MC.mono (t_close (by omega) p1339.ps (by decide) (by omega) (fun _ h => hT _ (p1339.1.1.tr h))) (fun v1344 κ1349 h1345 => ?_) (fun _ h => h)
      obtain ⟨q1346, m1347, a1348⟩ := h1345
      have p1350 : TR (-1) (0) 0 0 0 (-5) μ κ1349 := p1339.trS q1346 (Or.inl (by decide)) rfl rfl rfl rfl (by omega)
      have k1351 := k1340.tr q1346 (Or.inl (by decide)) s0
      have k1352 := k1341.tr q1346 (Or.inl (by decide)) s0
      have nd1353 := nd1337.tr q1346 (by have := @ic s; omega) (by omega)
      have lt1354 : s.toInt < (κ1349.1 19).toInt := by omega
      exact v_statement_553 _ _ ⟨⟨p1350.1, by have := p1350.2; omega⟩, by omega, (G.mk (lo := s.toInt) s0 (Int.le_refl _) lt1354 nd1353 (by decide) (k1351) (k1352) True.intro True.intro True.intro : G κ1349 (h + 1) (bt s.toInt (κ1349.1 19).toInt) 3 s).up (Nat.le_refl _) (by omega) (Int.le_refl _), nd1353.2.2.2.2.2.2⟩
    · skip
      have g1355 : TR s.toInt 0 0 0 0 0 κ (mA1 κ 20 s.toNatClampNeg 49) := TR.put p0.ps s0 rfl rfl
      have e1357 : ((mA1 κ 20 s.toNatClampNeg 49).1 19).toInt = (κ.1 19).toInt := rfl
      have e1358 : ((mA1 κ 20 s.toNatClampNeg 49).1 32).toInt = (κ.1 32).toInt := rfl
      have sr1360 : srt (mA1 κ 20 s.toNatClampNeg 49) = srt κ := srt_off rfl
      have nd1359 := nd0.pk (x := 49)
      have p1361 : TR (-1) (0) 0 0 0 (-1) μ (mA1 κ 20 s.toNatClampNeg 49) := p0.trS g1355 (Or.inr (Or.inr (by omega))) rfl rfl rfl rfl (by omega)
      refine ⟨TR.mi p0.ps rfl rfl s0 (by omega), ?_⟩
      generalize mA1 κ 20 s.toNatClampNeg 49 = κ1356 at *
      have lt1362 : s.toInt < (κ1356.1 19).toInt := by omega
      refine MC.mono (c_is (by omega) p1361.ps) (fun r1363 κ1364 h1365 => ?_) (fun _ h => h)
      obtain ⟨rfl, rfl⟩ := h1365
      refine ⟨fun _ => ?_, fun _ => ?_⟩
      · skip
        exact v_statement_553 _ _ ⟨⟨p1361.1, by have := p1361.2; omega⟩, by omega, (G.mk (lo := s.toInt) s0 (Int.le_refl _) lt1362 nd1359 (by decide) (Or.inl rfl) True.intro True.intro True.intro True.intro : G κ1364 (h + 1) (bt s.toInt (κ1364.1 19).toInt) 3 s).up (Nat.le_refl _) (by omega) (Int.le_refl _), nd1359.2.2.2.2.2.2⟩
      · skip
        have x1369 := p1361.px
        have u1370 := p1361.2
        have y1371 := tT p1361
        have z1372 := px0 p1361.ps
        refine MC.mono (hE κ1364 T h p1361.ps (by omega) (by omega) (by omega) (fun _ h => hT _ (p1361.1.1.tr h))) (fun r1366 κ1367 h1368 => ?_) (fun _ h => h)
        obtain ⟨q1373, a1375, g1374, n1376⟩ := h1368
        have l1377 := q1373.l19
        have l1378 := q1373.l32
        have p1379 : TR (-1) (0) 0 0 0 (-1) μ κ1367 := p1361.trS q1373 (Or.inl (by decide)) rfl rfl rfl rfl (by omega)
        have nd1380 := nd1359.tr q1373 (by have := @ic s; omega) (by omega)
        have lt1381 : s.toInt < (κ1367.1 19).toInt := by omega
        have k1382 : Kd κ1367 h s.toInt s 1 r1366 := Kd.of g1374 (by omega) (Int.le_refl _) s0 (Or.inl (by omega))
        have g1383 : TR s.toInt 0 0 0 0 0 κ1367 (mA1 κ1367 22 s.toNatClampNeg r1366) := TR.put p1379.ps s0 rfl rfl
        have e1385 : ((mA1 κ1367 22 s.toNatClampNeg r1366).1 19).toInt = (κ1367.1 19).toInt := rfl
        have e1386 : ((mA1 κ1367 22 s.toNatClampNeg r1366).1 32).toInt = (κ1367.1 32).toInt := rfl
        have sr1388 : srt (mA1 κ1367 22 s.toNatClampNeg r1366) = srt κ1367 := srt_off rfl
        have nd1387 := nd1380.pa (x := r1366)
        have p1389 : TR (-1) (0) 0 0 0 (-1) μ (mA1 κ1367 22 s.toNatClampNeg r1366) := p1379.trS g1383 (Or.inr (Or.inr (by omega))) rfl rfl rfl rfl (by omega)
        have k1390 := k1382.tr g1383 (Or.inr rfl) s0
        refine ⟨TR.mi p1379.ps rfl rfl s0 (by omega), ?_⟩
        generalize mA1 κ1367 22 s.toNatClampNeg r1366 = κ1384 at *
        have lt1391 : s.toInt < (κ1384.1 19).toInt := by omega
        exact v_statement_553 _ _ ⟨⟨p1389.1, by have := p1389.2; omega⟩, by omega, (G.mk (lo := s.toInt) s0 (Int.le_refl _) lt1391 nd1387 (by decide) (Or.inr k1390) True.intro True.intro True.intro True.intro : G κ1384 (h + 1) (bt s.toInt (κ1384.1 19).toInt) 3 s).up (Nat.le_refl _) (by omega) (Int.le_refl _), nd1387.2.2.2.2.2.2⟩
    · skip
      have g1392 : TR s.toInt 0 0 0 0 0 κ (mA1 κ 20 s.toNatClampNeg 55) := TR.put p0.ps s0 rfl rfl
      have e1394 : ((mA1 κ 20 s.toNatClampNeg 55).1 19).toInt = (κ.1 19).toInt := rfl
      have e1395 : ((mA1 κ 20 s.toNatClampNeg 55).1 32).toInt = (κ.1 32).toInt := rfl
      have sr1397 : srt (mA1 κ 20 s.toNatClampNeg 55) = srt κ := srt_off rfl
      have nd1396 := nd0.pk (x := 55)
      have p1398 : TR (-1) (0) 0 0 0 (-1) μ (mA1 κ 20 s.toNatClampNeg 55) := p0.trS g1392 (Or.inr (Or.inr (by omega))) rfl rfl rfl rfl (by omega)
      refine ⟨TR.mi p0.ps rfl rfl s0 (by omega), ?_⟩
      generalize mA1 κ 20 s.toNatClampNeg 55 = κ1393 at *
      have lt1399 : s.toInt < (κ1393.1 19).toInt := by omega
      have x1403 := p1398.px
      have u1404 := p1398.2
      have y1405 := tT p1398
      have z1406 := px0 p1398.ps
      refine MC.mono (hE κ1393 T h p1398.ps (by omega) (by omega) (by omega) (fun _ h => hT _ (p1398.1.1.tr h))) (fun r1400 κ1401 h1402 => ?_) (fun _ h => h)
      obtain ⟨q1407, a1409, g1408, n1410⟩ := h1402
      have l1411 := q1407.l19
      have l1412 := q1407.l32
      have p1413 : TR (-1) (0) 0 0 0 (-1) μ κ1401 := p1398.trS q1407 (Or.inl (by decide)) rfl rfl rfl rfl (by omega)
      have nd1414 := nd1396.tr q1407 (by have := @ic s; omega) (by omega)
      have lt1415 : s.toInt < (κ1401.1 19).toInt := by omega
      have k1416 : Kd κ1401 h s.toInt s 1 r1400 := Kd.of g1408 (by omega) (Int.le_refl _) s0 (Or.inl (by omega))
      have g1417 : TR s.toInt 0 0 0 0 0 κ1401 (mA1 κ1401 22 s.toNatClampNeg r1400) := TR.put p1413.ps s0 rfl rfl
      have e1419 : ((mA1 κ1401 22 s.toNatClampNeg r1400).1 19).toInt = (κ1401.1 19).toInt := rfl
      have e1420 : ((mA1 κ1401 22 s.toNatClampNeg r1400).1 32).toInt = (κ1401.1 32).toInt := rfl
      have sr1422 : srt (mA1 κ1401 22 s.toNatClampNeg r1400) = srt κ1401 := srt_off rfl
      have nd1421 := nd1414.pa (x := r1400)
      have p1423 : TR (-1) (0) 0 0 0 (-1) μ (mA1 κ1401 22 s.toNatClampNeg r1400) := p1413.trS g1417 (Or.inr (Or.inr (by omega))) rfl rfl rfl rfl (by omega)
      have k1424 := k1416.tr g1417 (Or.inr rfl) s0
      refine ⟨TR.mi p1413.ps rfl rfl s0 (by omega), ?_⟩
      generalize mA1 κ1401 22 s.toNatClampNeg r1400 = κ1418 at *
      have lt1425 : s.toInt < (κ1418.1 19).toInt := by omega
      refine MC.mono (t_expect (by omega) p1423.ps (by decide) (fun _ h => hT _ (p1423.1.1.tr h))) (fun v1426 κ1431 h1427 => ?_) (fun _ h => h)
      obtain ⟨q1428, m1429, a1430⟩ := h1427
      have p1432 : TR (-1) (0) 0 0 0 (-3) μ κ1431 := p1423.trS q1428 (Or.inl (by decide)) rfl rfl rfl rfl (by omega)
      have k1433 := k1424.tr q1428 (Or.inl (by decide)) s0
      have nd1434 := nd1421.tr q1428 (by have := @ic s; omega) (by omega)
      have lt1435 : s.toInt < (κ1431.1 19).toInt := by omega
      have x1439 := p1432.px
      have u1440 := p1432.2
      have y1441 := tT p1432
      have z1442 := px0 p1432.ps
      refine MC.mono (hE κ1431 T h p1432.ps (by omega) (by omega) (by omega) (fun _ h => hT _ (p1432.1.1.tr h))) (fun r1436 κ1437 h1438 => ?_) (fun _ h => h)
      obtain ⟨q1443, a1445, g1444, n1446⟩ := h1438
      have l1447 := q1443.l19
      have l1448 := q1443.l32
      have p1449 : TR (-1) (0) 0 0 0 (-3) μ κ1437 := p1432.trS q1443 (Or.inl (by decide)) rfl rfl rfl rfl (by omega)
      have k1450 := k1433.tr q1443 (Or.inl (by decide)) s0
      have nd1451 := nd1434.tr q1443 (by have := @ic s; omega) (by omega)
      have lt1452 : s.toInt < (κ1437.1 19).toInt := by omega
      have k1453 : Kd κ1437 h s.toInt s 1 r1436 := Kd.of g1444 (by omega) (Int.le_refl _) s0 (Or.inl (by omega))
      have g1454 : TR s.toInt 0 0 0 0 0 κ1437 (mA1 κ1437 23 s.toNatClampNeg r1436) := TR.put p1449.ps s0 rfl rfl
      have e1456 : ((mA1 κ1437 23 s.toNatClampNeg r1436).1 19).toInt = (κ1437.1 19).toInt := rfl
      have e1457 : ((mA1 κ1437 23 s.toNatClampNeg r1436).1 32).toInt = (κ1437.1 32).toInt := rfl
      have sr1459 : srt (mA1 κ1437 23 s.toNatClampNeg r1436) = srt κ1437 := srt_off rfl
      have nd1458 := nd1451.pb (x := r1436)
      have p1460 : TR (-1) (0) 0 0 0 (-3) μ (mA1 κ1437 23 s.toNatClampNeg r1436) := p1449.trS g1454 (Or.inr (Or.inr (by omega))) rfl rfl rfl rfl (by omega)
      have k1461 := k1450.tr g1454 (Or.inr rfl) s0
      have k1462 := k1453.tr g1454 (Or.inr rfl) s0
      refine ⟨TR.mi p1449.ps rfl rfl s0 (by omega), ?_⟩
      generalize mA1 κ1437 23 s.toNatClampNeg r1436 = κ1455 at *
      have lt1463 : s.toInt < (κ1455.1 19).toInt := by omega
      exact v_statement_553 _ _ ⟨⟨p1460.1, by have := p1460.2; omega⟩, by omega, (G.mk (lo := s.toInt) s0 (Int.le_refl _) lt1463 nd1458 (by decide) (k1461) (k1462) True.intro True.intro True.intro : G κ1455 (h + 1) (bt s.toInt (κ1455.1 19).toInt) 3 s).up (Nat.le_refl _) (by omega) (Int.le_refl _), nd1458.2.2.2.2.2.2⟩
    · skip
      have g1464 : TR s.toInt 0 0 0 0 0 κ (mA1 κ 20 s.toNatClampNeg 46) := TR.put p0.ps s0 rfl rfl
      have e1466 : ((mA1 κ 20 s.toNatClampNeg 46).1 19).toInt = (κ.1 19).toInt := rfl
      have e1467 : ((mA1 κ 20 s.toNatClampNeg 46).1 32).toInt = (κ.1 32).toInt := rfl
      have sr1469 : srt (mA1 κ 20 s.toNatClampNeg 46) = srt κ := srt_off rfl
      have nd1468 := nd0.pk (x := 46)
      have p1470 : TR (-1) (0) 0 0 0 (-1) μ (mA1 κ 20 s.toNatClampNeg 46) := p0.trS g1464 (Or.inr (Or.inr (by omega))) rfl rfl rfl rfl (by omega)
      refine ⟨TR.mi p0.ps rfl rfl s0 (by omega), ?_⟩
      generalize mA1 κ 20 s.toNatClampNeg 46 = κ1465 at *
      have lt1471 : s.toInt < (κ1465.1 19).toInt := by omega
      have x1475 := p1470.px
      have u1476 := p1470.2
      have y1477 := tT p1470
      have z1478 := px0 p1470.ps
      refine MC.mono (hE κ1465 T h p1470.ps (by omega) (by omega) (by omega) (fun _ h => hT _ (p1470.1.1.tr h))) (fun r1472 κ1473 h1474 => ?_) (fun _ h => h)
      obtain ⟨q1479, a1481, g1480, n1482⟩ := h1474
      have l1483 := q1479.l19
      have l1484 := q1479.l32
      have p1485 : TR (-1) (0) 0 0 0 (-1) μ κ1473 := p1470.trS q1479 (Or.inl (by decide)) rfl rfl rfl rfl (by omega)
      have nd1486 := nd1468.tr q1479 (by have := @ic s; omega) (by omega)
      have lt1487 : s.toInt < (κ1473.1 19).toInt := by omega
      have k1488 : Kd κ1473 h s.toInt s 1 r1472 := Kd.of g1480 (by omega) (Int.le_refl _) s0 (Or.inl (by omega))
      have g1489 : TR s.toInt 0 0 0 0 0 κ1473 (mA1 κ1473 22 s.toNatClampNeg r1472) := TR.put p1485.ps s0 rfl rfl
      have e1491 : ((mA1 κ1473 22 s.toNatClampNeg r1472).1 19).toInt = (κ1473.1 19).toInt := rfl
      have e1492 : ((mA1 κ1473 22 s.toNatClampNeg r1472).1 32).toInt = (κ1473.1 32).toInt := rfl
      have sr1494 : srt (mA1 κ1473 22 s.toNatClampNeg r1472) = srt κ1473 := srt_off rfl
      have nd1493 := nd1486.pa (x := r1472)
      have p1495 : TR (-1) (0) 0 0 0 (-1) μ (mA1 κ1473 22 s.toNatClampNeg r1472) := p1485.trS g1489 (Or.inr (Or.inr (by omega))) rfl rfl rfl rfl (by omega)
      have k1496 := k1488.tr g1489 (Or.inr rfl) s0
      refine ⟨TR.mi p1485.ps rfl rfl s0 (by omega), ?_⟩
      generalize mA1 κ1473 22 s.toNatClampNeg r1472 = κ1490 at *
      have lt1497 : s.toInt < (κ1490.1 19).toInt := by omega
      refine MC.mono (t_expect (by omega) p1495.ps (by decide) (fun _ h => hT _ (p1495.1.1.tr h))) (fun v1498 κ1503 h1499 => ?_) (fun _ h => h)
      obtain ⟨q1500, m1501, a1502⟩ := h1499
      have p1504 : TR (-1) (0) 0 0 0 (-3) μ κ1503 := p1495.trS q1500 (Or.inl (by decide)) rfl rfl rfl rfl (by omega)
      have k1505 := k1496.tr q1500 (Or.inl (by decide)) s0
      have nd1506 := nd1493.tr q1500 (by have := @ic s; omega) (by omega)
      have lt1507 : s.toInt < (κ1503.1 19).toInt := by omega
      have x1511 := p1504.px
      have u1512 := p1504.2
      have y1513 := tT p1504
      have z1514 := px0 p1504.ps
      refine MC.mono (hSt κ1503 T h p1504.ps (by omega) (by omega) (by omega) (fun _ h => hT _ (p1504.1.1.tr h))) (fun r1508 κ1509 h1510 => ?_) (fun _ h => h)
      obtain ⟨q1515, g1516⟩ := h1510
      have l1517 := q1515.l19
      have l1518 := q1515.l32
      have p1519 : TR (-1) (0) 0 0 0 (-3) μ κ1509 := p1504.trS q1515 (Or.inl (by decide)) rfl rfl rfl rfl (by omega)
      have k1520 := k1505.tr q1515 (Or.inl (by decide)) s0
      have nd1521 := nd1506.tr q1515 (by have := @ic s; omega) (by omega)
      have lt1522 : s.toInt < (κ1509.1 19).toInt := by omega
      have k1523 : KL κ1509 h s.toInt s 3 r1508 := KL.of g1516 (by omega) (Int.le_refl _) s0 (Or.inl (by omega))
      have g1524 : TR s.toInt 0 0 0 0 0 κ1509 (mA1 κ1509 23 s.toNatClampNeg r1508) := TR.put p1519.ps s0 rfl rfl
      have e1526 : ((mA1 κ1509 23 s.toNatClampNeg r1508).1 19).toInt = (κ1509.1 19).toInt := rfl
      have e1527 : ((mA1 κ1509 23 s.toNatClampNeg r1508).1 32).toInt = (κ1509.1 32).toInt := rfl
      have sr1529 : srt (mA1 κ1509 23 s.toNatClampNeg r1508) = srt κ1509 := srt_off rfl
      have nd1528 := nd1521.pb (x := r1508)
      have p1530 : TR (-1) (0) 0 0 0 (-3) μ (mA1 κ1509 23 s.toNatClampNeg r1508) := p1519.trS g1524 (Or.inr (Or.inr (by omega))) rfl rfl rfl rfl (by omega)
      have k1531 := k1520.tr g1524 (Or.inr rfl) s0
      have k1532 := k1523.tr g1524 (Or.inr rfl) s0
      refine ⟨TR.mi p1519.ps rfl rfl s0 (by omega), ?_⟩
      generalize mA1 κ1509 23 s.toNatClampNeg r1508 = κ1525 at *
      have lt1533 : s.toInt < (κ1525.1 19).toInt := by omega
      refine MC.mono (t_expect (by omega) p1530.ps (by decide) (fun _ h => hT _ (p1530.1.1.tr h))) (fun v1534 κ1539 h1535 => ?_) (fun _ h => h)
      obtain ⟨q1536, m1537, a1538⟩ := h1535
      have p1540 : TR (-1) (0) 0 0 0 (-5) μ κ1539 := p1530.trS q1536 (Or.inl (by decide)) rfl rfl rfl rfl (by omega)
      have k1541 := k1531.tr q1536 (Or.inl (by decide)) s0
      have k1542 := k1532.tr q1536 (Or.inl (by decide)) s0
      have nd1543 := nd1528.tr q1536 (by have := @ic s; omega) (by omega)
      have lt1544 : s.toInt < (κ1539.1 19).toInt := by omega
      exact v_statement_553 _ _ ⟨⟨p1540.1, by have := p1540.2; omega⟩, by omega, (G.mk (lo := s.toInt) s0 (Int.le_refl _) lt1544 nd1543 (by decide) (k1541) (k1542) True.intro True.intro True.intro : G κ1539 (h + 1) (bt s.toInt (κ1539.1 19).toInt) 3 s).up (Nat.le_refl _) (by omega) (Int.le_refl _), nd1543.2.2.2.2.2.2⟩
    · skip
      have g1545 : TR s.toInt 0 0 0 0 0 κ (mA1 κ 20 s.toNatClampNeg 59) := TR.put p0.ps s0 rfl rfl
      have e1547 : ((mA1 κ 20 s.toNatClampNeg 59).1 19).toInt = (κ.1 19).toInt := rfl
      have e1548 : ((mA1 κ 20 s.toNatClampNeg 59).1 32).toInt = (κ.1 32).toInt := rfl
      have sr1550 : srt (mA1 κ 20 s.toNatClampNeg 59) = srt κ := srt_off rfl
      have nd1549 := nd0.pk (x := 59)
      have p1551 : TR (-1) (0) 0 0 0 (-1) μ (mA1 κ 20 s.toNatClampNeg 59) := p0.trS g1545 (Or.inr (Or.inr (by omega))) rfl rfl rfl rfl (by omega)
      refine ⟨TR.mi p0.ps rfl rfl s0 (by omega), ?_⟩
      generalize mA1 κ 20 s.toNatClampNeg 59 = κ1546 at *
      have lt1552 : s.toInt < (κ1546.1 19).toInt := by omega
      have x1556 := p1551.px
      have u1557 := p1551.2
      have y1558 := tT p1551
      have z1559 := px0 p1551.ps
      refine MC.mono (hE κ1546 T h p1551.ps (by omega) (by omega) (by omega) (fun _ h => hT _ (p1551.1.1.tr h))) (fun r1553 κ1554 h1555 => ?_) (fun _ h => h)
      obtain ⟨q1560, a1562, g1561, n1563⟩ := h1555
      have l1564 := q1560.l19
      have l1565 := q1560.l32
      have p1566 : TR (-1) (0) 0 0 0 (-1) μ κ1554 := p1551.trS q1560 (Or.inl (by decide)) rfl rfl rfl rfl (by omega)
      have nd1567 := nd1549.tr q1560 (by have := @ic s; omega) (by omega)
      have lt1568 : s.toInt < (κ1554.1 19).toInt := by omega
      have k1569 : Kd κ1554 h s.toInt s 1 r1553 := Kd.of g1561 (by omega) (Int.le_refl _) s0 (Or.inl (by omega))
      have g1570 : TR s.toInt 0 0 0 0 0 κ1554 (mA1 κ1554 22 s.toNatClampNeg r1553) := TR.put p1566.ps s0 rfl rfl
      have e1572 : ((mA1 κ1554 22 s.toNatClampNeg r1553).1 19).toInt = (κ1554.1 19).toInt := rfl
      have e1573 : ((mA1 κ1554 22 s.toNatClampNeg r1553).1 32).toInt = (κ1554.1 32).toInt := rfl
      have sr1575 : srt (mA1 κ1554 22 s.toNatClampNeg r1553) = srt κ1554 := srt_off rfl
      have nd1574 := nd1567.pa (x := r1553)
      have p1576 : TR (-1) (0) 0 0 0 (-1) μ (mA1 κ1554 22 s.toNatClampNeg r1553) := p1566.trS g1570 (Or.inr (Or.inr (by omega))) rfl rfl rfl rfl (by omega)
      have k1577 := k1569.tr g1570 (Or.inr rfl) s0
      refine ⟨TR.mi p1566.ps rfl rfl s0 (by omega), ?_⟩
      generalize mA1 κ1554 22 s.toNatClampNeg r1553 = κ1571 at *
      have lt1578 : s.toInt < (κ1571.1 19).toInt := by omega
      exact v_statement_553 _ _ ⟨⟨p1576.1, by have := p1576.2; omega⟩, by omega, (G.mk (lo := s.toInt) s0 (Int.le_refl _) lt1578 nd1574 (by decide) (k1577) True.intro True.intro True.intro True.intro : G κ1571 (h + 1) (bt s.toInt (κ1571.1 19).toInt) 3 s).up (Nat.le_refl _) (by omega) (Int.le_refl _), nd1574.2.2.2.2.2.2⟩
    · skip
      have g1579 : TR s.toInt 0 0 0 0 0 κ (mA1 κ 20 s.toNatClampNeg 58) := TR.put p0.ps s0 rfl rfl
      have e1581 : ((mA1 κ 20 s.toNatClampNeg 58).1 19).toInt = (κ.1 19).toInt := rfl
      have e1582 : ((mA1 κ 20 s.toNatClampNeg 58).1 32).toInt = (κ.1 32).toInt := rfl
      have sr1584 : srt (mA1 κ 20 s.toNatClampNeg 58) = srt κ := srt_off rfl
      have nd1583 := nd0.pk (x := 58)
      have p1585 : TR (-1) (0) 0 0 0 (-1) μ (mA1 κ 20 s.toNatClampNeg 58) := p0.trS g1579 (Or.inr (Or.inr (by omega))) rfl rfl rfl rfl (by omega)
      refine ⟨TR.mi p0.ps rfl rfl s0 (by omega), ?_⟩
      generalize mA1 κ 20 s.toNatClampNeg 58 = κ1580 at *
      have lt1586 : s.toInt < (κ1580.1 19).toInt := by omega
      have x1590 := p1585.px
      have u1591 := p1585.2
      have y1592 := tT p1585
      have z1593 := px0 p1585.ps
      refine MC.mono (hE κ1580 T h p1585.ps (by omega) (by omega) (by omega) (fun _ h => hT _ (p1585.1.1.tr h))) (fun r1587 κ1588 h1589 => ?_) (fun _ h => h)
      obtain ⟨q1594, a1596, g1595, n1597⟩ := h1589
      have l1598 := q1594.l19
      have l1599 := q1594.l32
      have p1600 : TR (-1) (0) 0 0 0 (-1) μ κ1588 := p1585.trS q1594 (Or.inl (by decide)) rfl rfl rfl rfl (by omega)
      have nd1601 := nd1583.tr q1594 (by have := @ic s; omega) (by omega)
      have lt1602 : s.toInt < (κ1588.1 19).toInt := by omega
      have k1603 : Kd κ1588 h s.toInt s 1 r1587 := Kd.of g1595 (by omega) (Int.le_refl _) s0 (Or.inl (by omega))
      have g1604 : TR s.toInt 0 0 0 0 0 κ1588 (mA1 κ1588 22 s.toNatClampNeg r1587) := TR.put p1600.ps s0 rfl rfl
      have e1606 : ((mA1 κ1588 22 s.toNatClampNeg r1587).1 19).toInt = (κ1588.1 19).toInt := rfl
      have e1607 : ((mA1 κ1588 22 s.toNatClampNeg r1587).1 32).toInt = (κ1588.1 32).toInt := rfl
      have sr1609 : srt (mA1 κ1588 22 s.toNatClampNeg r1587) = srt κ1588 := srt_off rfl
      have nd1608 := nd1601.pa (x := r1587)
      have p1610 : TR (-1) (0) 0 0 0 (-1) μ (mA1 κ1588 22 s.toNatClampNeg r1587) := p1600.trS g1604 (Or.inr (Or.inr (by omega))) rfl rfl rfl rfl (by omega)
      have k1611 := k1603.tr g1604 (Or.inr rfl) s0
      refine ⟨TR.mi p1600.ps rfl rfl s0 (by omega), ?_⟩
      generalize mA1 κ1588 22 s.toNatClampNeg r1587 = κ1605 at *
      have lt1612 : s.toInt < (κ1605.1 19).toInt := by omega
      exact v_statement_553 _ _ ⟨⟨p1610.1, by have := p1610.2; omega⟩, by omega, (G.mk (lo := s.toInt) s0 (Int.le_refl _) lt1612 nd1608 (by decide) (k1611) True.intro True.intro True.intro True.intro : G κ1605 (h + 1) (bt s.toInt (κ1605.1 19).toInt) 3 s).up (Nat.le_refl _) (by omega) (Int.le_refl _), nd1608.2.2.2.2.2.2⟩
    · skip
      have g1613 : TR s.toInt 0 0 0 0 0 κ (mA1 κ 20 s.toNatClampNeg 57) := TR.put p0.ps s0 rfl rfl
      have e1615 : ((mA1 κ 20 s.toNatClampNeg 57).1 19).toInt = (κ.1 19).toInt := rfl
      have e1616 : ((mA1 κ 20 s.toNatClampNeg 57).1 32).toInt = (κ.1 32).toInt := rfl
      have sr1618 : srt (mA1 κ 20 s.toNatClampNeg 57) = srt κ := srt_off rfl
      have nd1617 := nd0.pk (x := 57)
      have p1619 : TR (-1) (0) 0 0 0 (-1) μ (mA1 κ 20 s.toNatClampNeg 57) := p0.trS g1613 (Or.inr (Or.inr (by omega))) rfl rfl rfl rfl (by omega)
      refine ⟨TR.mi p0.ps rfl rfl s0 (by omega), ?_⟩
      generalize mA1 κ 20 s.toNatClampNeg 57 = κ1614 at *
      have lt1620 : s.toInt < (κ1614.1 19).toInt := by omega
      have x1624 := p1619.px
      have u1625 := p1619.2
      have y1626 := tT p1619
      have z1627 := px0 p1619.ps
      refine MC.mono (hE κ1614 T h p1619.ps (by omega) (by omega) (by omega) (fun _ h => hT _ (p1619.1.1.tr h))) (fun r1621 κ1622 h1623 => ?_) (fun _ h => h)
      obtain ⟨q1628, a1630, g1629, n1631⟩ := h1623
      have l1632 := q1628.l19
      have l1633 := q1628.l32
      have p1634 : TR (-1) (0) 0 0 0 (-1) μ κ1622 := p1619.trS q1628 (Or.inl (by decide)) rfl rfl rfl rfl (by omega)
      have nd1635 := nd1617.tr q1628 (by have := @ic s; omega) (by omega)
      have lt1636 : s.toInt < (κ1622.1 19).toInt := by omega
      have k1637 : Kd κ1622 h s.toInt s 1 r1621 := Kd.of g1629 (by omega) (Int.le_refl _) s0 (Or.inl (by omega))
      have g1638 : TR s.toInt 0 0 0 0 0 κ1622 (mA1 κ1622 22 s.toNatClampNeg r1621) := TR.put p1634.ps s0 rfl rfl
      have e1640 : ((mA1 κ1622 22 s.toNatClampNeg r1621).1 19).toInt = (κ1622.1 19).toInt := rfl
      have e1641 : ((mA1 κ1622 22 s.toNatClampNeg r1621).1 32).toInt = (κ1622.1 32).toInt := rfl
      have sr1643 : srt (mA1 κ1622 22 s.toNatClampNeg r1621) = srt κ1622 := srt_off rfl
      have nd1642 := nd1635.pa (x := r1621)
      have p1644 : TR (-1) (0) 0 0 0 (-1) μ (mA1 κ1622 22 s.toNatClampNeg r1621) := p1634.trS g1638 (Or.inr (Or.inr (by omega))) rfl rfl rfl rfl (by omega)
      have k1645 := k1637.tr g1638 (Or.inr rfl) s0
      refine ⟨TR.mi p1634.ps rfl rfl s0 (by omega), ?_⟩
      generalize mA1 κ1622 22 s.toNatClampNeg r1621 = κ1639 at *
      have lt1646 : s.toInt < (κ1639.1 19).toInt := by omega
      exact v_statement_553 _ _ ⟨⟨p1644.1, by have := p1644.2; omega⟩, by omega, (G.mk (lo := s.toInt) s0 (Int.le_refl _) lt1646 nd1642 (by decide) (k1645) True.intro True.intro True.intro True.intro : G κ1639 (h + 1) (bt s.toInt (κ1639.1 19).toInt) 3 s).up (Nat.le_refl _) (by omega) (Int.le_refl _), nd1642.2.2.2.2.2.2⟩
    · skip
      have g1647 : TR s.toInt 0 0 0 0 0 κ (mA1 κ 20 s.toNatClampNeg 56) := TR.put p0.ps s0 rfl rfl
      have e1649 : ((mA1 κ 20 s.toNatClampNeg 56).1 19).toInt = (κ.1 19).toInt := rfl
      have e1650 : ((mA1 κ 20 s.toNatClampNeg 56).1 32).toInt = (κ.1 32).toInt := rfl
      have sr1652 : srt (mA1 κ 20 s.toNatClampNeg 56) = srt κ := srt_off rfl
      have nd1651 := nd0.pk (x := 56)
      have p1653 : TR (-1) (0) 0 0 0 (-1) μ (mA1 κ 20 s.toNatClampNeg 56) := p0.trS g1647 (Or.inr (Or.inr (by omega))) rfl rfl rfl rfl (by omega)
      refine ⟨TR.mi p0.ps rfl rfl s0 (by omega), ?_⟩
      generalize mA1 κ 20 s.toNatClampNeg 56 = κ1648 at *
      have lt1654 : s.toInt < (κ1648.1 19).toInt := by omega
      have x1658 := p1653.px
      have u1659 := p1653.2
      have y1660 := tT p1653
      have z1661 := px0 p1653.ps
      refine MC.mono (hE κ1648 T h p1653.ps (by omega) (by omega) (by omega) (fun _ h => hT _ (p1653.1.1.tr h))) (fun r1655 κ1656 h1657 => ?_) (fun _ h => h)
      obtain ⟨q1662, a1664, g1663, n1665⟩ := h1657
      have l1666 := q1662.l19
      have l1667 := q1662.l32
      have p1668 : TR (-1) (0) 0 0 0 (-1) μ κ1656 := p1653.trS q1662 (Or.inl (by decide)) rfl rfl rfl rfl (by omega)
      have nd1669 := nd1651.tr q1662 (by have := @ic s; omega) (by omega)
      have lt1670 : s.toInt < (κ1656.1 19).toInt := by omega
      have k1671 : Kd κ1656 h s.toInt s 1 r1655 := Kd.of g1663 (by omega) (Int.le_refl _) s0 (Or.inl (by omega))
      have g1672 : TR s.toInt 0 0 0 0 0 κ1656 (mA1 κ1656 22 s.toNatClampNeg r1655) := TR.put p1668.ps s0 rfl rfl
      have e1674 : ((mA1 κ1656 22 s.toNatClampNeg r1655).1 19).toInt = (κ1656.1 19).toInt := rfl
      have e1675 : ((mA1 κ1656 22 s.toNatClampNeg r1655).1 32).toInt = (κ1656.1 32).toInt := rfl
      have sr1677 : srt (mA1 κ1656 22 s.toNatClampNeg r1655) = srt κ1656 := srt_off rfl
      have nd1676 := nd1669.pa (x := r1655)
      have p1678 : TR (-1) (0) 0 0 0 (-1) μ (mA1 κ1656 22 s.toNatClampNeg r1655) := p1668.trS g1672 (Or.inr (Or.inr (by omega))) rfl rfl rfl rfl (by omega)
      have k1679 := k1671.tr g1672 (Or.inr rfl) s0
      refine ⟨TR.mi p1668.ps rfl rfl s0 (by omega), ?_⟩
      generalize mA1 κ1656 22 s.toNatClampNeg r1655 = κ1673 at *
      have lt1680 : s.toInt < (κ1673.1 19).toInt := by omega
      exact v_statement_553 _ _ ⟨⟨p1678.1, by have := p1678.2; omega⟩, by omega, (G.mk (lo := s.toInt) s0 (Int.le_refl _) lt1680 nd1676 (by decide) (k1679) True.intro True.intro True.intro True.intro : G κ1673 (h + 1) (bt s.toInt (κ1673.1 19).toInt) 3 s).up (Nat.le_refl _) (by omega) (Int.le_refl _), nd1676.2.2.2.2.2.2⟩
  · obtain ⟨z1, z2, z3⟩ := hk
    have l1 := z1.l32
    have l2 := z1.l19
    have u1 := z1.2
    exact ⟨q1.tr z1 (Or.inr (by omega)) rfl rfl rfl rfl (by omega), by omega, z2.up (Nat.le_refl _) (by omega) (Int.le_refl _), z3⟩
end PSJ
section PSK
variable {X : ev_X} {W : Nat → Prop} {P : MP}
def StA (X : ev_X) (W : Nat → Prop) (P : MP) (d : Nat) : Prop := (SL X W P 321 [] 3 19 11 d ∧ SC X W P 322 3 22 14 d ∧ ArC X W P d) ∧ (FiC X W P 324 0 0 d ∧ FiC X W P 325 0 0 d ∧ FiC X W P 327 0 0 d ∧ FiC X W P 329 1 1 d) ∧ OtC X W P d ∧ SL X W P 328 [.int 52] 14 20 12 d ∧ SL X W P 328 [.int 61] 15 20 12 d
theorem SL.z {k : Nat} {as : List Value} {s : Nat} {rd rh : Int} (h : 0 < rd) : SL X W P k as s rd rh 0 := fun μ T h hS hd => by have := px0 hS; omega
theorem FiC.z {k : Nat} {up dn : Int} : FiC X W P k up dn 0 := fun μ T h s hS hd => by have := px0 hS; omega
theorem stm_all : ∀ d : Nat, StA X W P d
  | 0 => ⟨⟨SL.z (by decide), fun μ T h hS hd => by have := px0 hS; omega, fun μ T h hS hd => by have := px0 hS; omega⟩, ⟨FiC.z, FiC.z, FiC.z, FiC.z⟩, fun μ T h s k a b hS hd => by have := px0 hS; omega, SL.z (by decide), SL.z (by decide)⟩
  | d + 1 => by
    obtain ⟨⟨a1, a2, a3⟩, ⟨b1, b2, b3, b4⟩, c1, c2, c3⟩ := stm_all d
    obtain ⟨⟨e1, -⟩, -, -, e2, e3⟩ := (ex_all d : ExA X W P d)
    exact ⟨⟨st_statements a2, st_statement e1 a1 a3 b1 b2 b3 b4, st_arms e1 a1⟩, ⟨st_for e1 a1, st_try a1 c2 c1, st_typecase e1 c3 c1, st_byPlace e2 e3 e1⟩, st_otherwise a1, st_cases52 a1, st_cases61 (ty_all d).1 a1⟩
end PSK
