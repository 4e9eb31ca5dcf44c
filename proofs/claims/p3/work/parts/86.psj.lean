/-! contracts of the reference: statements -/
section PSJ
variable {X : ev_X} {W : Nat → Prop} {d : Nat} {P : MP}
theorem st_byPlace (hP : XC X W P 331 [] 2 7 2 1 1 d) (hC : CallC X W P d) (hE : XC X W P 332 [] 1 20 12 0 0 d) : FiC X W P 329 1 1 (d + 1) := fun μ T h9 s hS hd hh hn hT s0 s1 nd0 => by
  have hp := px0 hS
  have h0 := hS.2.2.2.2.1
  have at0 := hS.at
  have hcs := @ic s
  obtain ⟨h, rfl⟩ : ∃ h, h9 = h + 1 := ⟨h9 - 1, by omega⟩
  have p0 : TR s.toInt 0 0 0 0 0 μ μ := TR.rf hS
  have lt0 : s.toInt < (μ.1 19).toInt := by omega
  have s9 : s.toInt < 15990 := by omega
  refine me_meth (by omega) rfl (v_byPlace_0 _ ?_)
  have x879 := p0.px
  have u880 := p0.2
  have y881 := tT p0
  have z882 := px0 p0.ps
  refine MC.mono (hP μ T h p0.ps (by omega) (by omega) (by omega) (fun _ h => hT _ (p0.1.1.tr h))) (fun r876 κ877 h878 => ?_) (fun _ h => h)
  obtain ⟨q883, a885, g884, n886⟩ := h878
  have l887 := q883.l19
  have p888 : TR (s.toInt) (0) 0 0 0 (0) μ κ877 := p0.trS q883 (Or.inl (by decide)) rfl rfl rfl rfl (by omega)
  have nd889 := nd0.tr q883 (by have := @ic s; omega) (by omega)
  have lt890 : s.toInt < (κ877.1 19).toInt := by omega
  have k891 : Kd κ877 h s.toInt s 2 r876 := Kd.of g884 (by omega) (Int.le_refl _) s0 (Or.inl (by omega))
  have p892 : TR (s.toInt) (0) 0 0 0 (-1) μ κ877 := ⟨p888.1, by have := p888.2; have := q883.2; omega⟩
  refine MC.mono (c_is (by omega) p892.ps) (fun r893 κ894 h895 => ?_) (fun _ h => h)
  obtain ⟨rfl, rfl⟩ := h895
  refine ⟨fun _ => ?_, fun _ => ?_⟩
  · skip
    refine MC.mono (t_expect (by omega) p892.ps (by decide) (fun _ h => hT _ (p892.1.1.tr h))) (fun v896 κ901 h897 => ?_) (fun _ h => h)
    obtain ⟨q898, m899, a900⟩ := h897
    have p902 : TR (s.toInt) (0) 0 0 0 (-3) μ κ901 := p892.trS q898 (Or.inl (by decide)) rfl rfl rfl rfl (by omega)
    have k903 := k891.tr q898 (Or.inl (by decide)) s0
    have nd904 := nd889.tr q898 (by have := @ic s; omega) (by omega)
    have lt905 : s.toInt < (κ901.1 19).toInt := by omega
    have g906 : TR s.toInt 0 0 0 0 0 κ901 (mA1 κ901 22 s.toNatClampNeg r876) := TR.put p902.ps s0 rfl rfl
    have e908 : ((mA1 κ901 22 s.toNatClampNeg r876).1 19).toInt = (κ901.1 19).toInt := rfl
    have e909 : ((mA1 κ901 22 s.toNatClampNeg r876).1 32).toInt = (κ901.1 32).toInt := rfl
    have sr911 : srt (mA1 κ901 22 s.toNatClampNeg r876) = srt κ901 := rfl
    have nd910 := nd904.pa (x := r876)
    have p912 : TR (s.toInt) (0) 0 0 0 (-3) μ (mA1 κ901 22 s.toNatClampNeg r876) := p902.trS g906 (Or.inr (Or.inl rfl)) rfl rfl rfl rfl (by omega)
    have k913 := k903.tr g906 (Or.inr rfl) s0
    refine ⟨TR.mi p902.ps rfl rfl s0 (by omega), ?_⟩
    generalize mA1 κ901 22 s.toNatClampNeg r876 = κ907 at *
    have lt914 : s.toInt < (κ907.1 19).toInt := by omega
    refine MC.mono (c_is (by omega) p912.ps) (fun r915 κ916 h917 => ?_) (fun _ h => h)
    obtain ⟨rfl, rfl⟩ := h917
    refine ⟨fun _ => ?_, fun hw => ?_⟩
    · skip
      have g918 : TR s.toInt 0 0 0 0 0 κ916 (mA1 κ916 20 s.toNatClampNeg 40) := TR.put p912.ps s0 rfl rfl
      have e920 : ((mA1 κ916 20 s.toNatClampNeg 40).1 19).toInt = (κ916.1 19).toInt := rfl
      have e921 : ((mA1 κ916 20 s.toNatClampNeg 40).1 32).toInt = (κ916.1 32).toInt := rfl
      have sr923 : srt (mA1 κ916 20 s.toNatClampNeg 40) = srt κ916 := rfl
      have nd922 := nd910.pk (x := 40)
      have p924 : TR (s.toInt) (0) 0 0 0 (-3) μ (mA1 κ916 20 s.toNatClampNeg 40) := p912.trS g918 (Or.inr (Or.inl rfl)) rfl rfl rfl rfl (by omega)
      have k925 := k913.tr g918 (Or.inr rfl) s0
      refine ⟨TR.mi p912.ps rfl rfl s0 (by omega), ?_⟩
      generalize mA1 κ916 20 s.toNatClampNeg 40 = κ919 at *
      have lt926 : s.toInt < (κ919.1 19).toInt := by omega
      have x930 := p924.px
      have u931 := p924.2
      have y932 := tT p924
      have z933 := px0 p924.ps
      refine MC.mono (hE κ919 T h p924.ps (by omega) (by omega) (by omega) (fun _ h => hT _ (p924.1.1.tr h))) (fun r927 κ928 h929 => ?_) (fun _ h => h)
      obtain ⟨q934, a936, g935, n937⟩ := h929
      have l938 := q934.l19
      have p939 : TR (s.toInt) (0) 0 0 0 (-3) μ κ928 := p924.trS q934 (Or.inl (by decide)) rfl rfl rfl rfl (by omega)
      have k940 := k925.tr q934 (Or.inl (by decide)) s0
      have nd941 := nd922.tr q934 (by have := @ic s; omega) (by omega)
      have lt942 : s.toInt < (κ928.1 19).toInt := by omega
      have k943 : Kd κ928 h s.toInt s 1 r927 := Kd.of g935 (by omega) (Int.le_refl _) s0 (Or.inl (by omega))
      have g944 : TR s.toInt 0 0 0 0 0 κ928 (mA1 κ928 23 s.toNatClampNeg r927) := TR.put p939.ps s0 rfl rfl
      have e946 : ((mA1 κ928 23 s.toNatClampNeg r927).1 19).toInt = (κ928.1 19).toInt := rfl
      have e947 : ((mA1 κ928 23 s.toNatClampNeg r927).1 32).toInt = (κ928.1 32).toInt := rfl
      have sr949 : srt (mA1 κ928 23 s.toNatClampNeg r927) = srt κ928 := rfl
      have nd948 := nd941.pb (x := r927)
      have p950 : TR (s.toInt) (0) 0 0 0 (-3) μ (mA1 κ928 23 s.toNatClampNeg r927) := p939.trS g944 (Or.inr (Or.inl rfl)) rfl rfl rfl rfl (by omega)
      have k951 := k940.tr g944 (Or.inr rfl) s0
      have k952 := k943.tr g944 (Or.inr rfl) s0
      have gg953 := g935.tr g944 (by omega) (Or.inl (by omega))
      refine ⟨TR.mi p939.ps rfl rfl s0 (by omega), ?_⟩
      generalize mA1 κ928 23 s.toNatClampNeg r927 = κ945 at *
      have lt954 : s.toInt < (κ945.1 19).toInt := by omega
      refine MC.mono (c_is (by omega) p950.ps) (fun r955 κ956 h957 => ?_) (fun _ h => h)
      obtain ⟨rfl, rfl⟩ := h957
      refine ⟨fun _ => ?_, fun _ => ?_⟩
      · skip
        exact ⟨⟨p950.1, by have := p950.2; omega⟩, G.mk s0 (Int.le_refl _) lt954 nd948 (by decide) (Kd.up k951 (Nat.le_succ _)) (Kd.up k952 (Nat.le_succ _)) True.intro True.intro True.intro, nd948.2.2.2.2.2.2⟩
      · skip
        obtain ⟨i1, i2, i3⟩ := gg953.in
        have hce := @ic r927
        have uc := p950.2
        have ac := p950.ps.at
        have eb := nd948.2.2.1
        refine ⟨TR.mi p950.ps rfl rfl s0 (by omega), ?_⟩
        rw [eb]
        refine ⟨TR.mi p950.ps rfl rfl i1 (by omega), fun _ => ?_, fun h70 => ⟨TR.mi p950.ps rfl rfl s0 (by omega), TR.mi p950.ps rfl rfl i1 (by omega), fun _ => ?_, fun _ => ?_⟩⟩
        · skip
          exact ⟨⟨p950.1, by have := p950.2; omega⟩, G.mk s0 (Int.le_refl _) lt954 nd948 (by decide) (Kd.up k951 (Nat.le_succ _)) (Kd.up k952 (Nat.le_succ _)) True.intro True.intro True.intro, nd948.2.2.2.2.2.2⟩
        · skip
          exact ⟨⟨p950.1, by have := p950.2; omega⟩, G.mk s0 (Int.le_refl _) lt954 nd948 (by decide) (Kd.up k951 (Nat.le_succ _)) (Kd.up k952 (Nat.le_succ _)) True.intro True.intro True.intro, nd948.2.2.2.2.2.2⟩
        · skip
          refine ⟨TR.mi p950.ps rfl rfl s0 (by omega), ?_⟩
          have gg958 := G.lp gg953 h70
          have g960 : TR s.toInt 0 0 0 0 0 κ956 (mA1 κ956 20 s.toNatClampNeg 42) := TR.put p950.ps s0 rfl rfl
          have e962 : ((mA1 κ956 20 s.toNatClampNeg 42).1 19).toInt = (κ956.1 19).toInt := rfl
          have e963 : ((mA1 κ956 20 s.toNatClampNeg 42).1 32).toInt = (κ956.1 32).toInt := rfl
          have sr965 : srt (mA1 κ956 20 s.toNatClampNeg 42) = srt κ956 := rfl
          have nd964 := nd948.pk (x := 42)
          have p966 : TR (s.toInt) (0) 0 0 0 (-3) μ (mA1 κ956 20 s.toNatClampNeg 42) := p950.trS g960 (Or.inr (Or.inl rfl)) rfl rfl rfl rfl (by omega)
          have k967 := k951.tr g960 (Or.inr rfl) s0
          have gg968 := gg958.tr g960 (by omega) (Or.inl (by omega))
          refine ⟨TR.mi p950.ps rfl rfl s0 (by omega), ?_⟩
          generalize mA1 κ956 20 s.toNatClampNeg 42 = κ961 at *
          have lt969 : s.toInt < (κ961.1 19).toInt := by omega
          have x978 := p966.px
          have u979 := p966.2
          have y980 := tT p966
          have z981 := px0 p966.ps
          refine MC.mono (hC κ961 T h r927 (_) p966.ps (by omega) (by omega) (by omega) (by omega) (by omega) (gg968.up (Nat.le_refl _) (Int.le_refl _) (by omega)) (fun _ h => hT _ (p966.1.1.tr h))) (fun r971 κ972 h973 => ?_) (fun _ h => h)
          obtain ⟨q974, a975, g976, n977⟩ := h973
          have l982 := q974.l19
          have p983 : TR (s.toInt) (0) 0 0 0 (-3) μ κ972 := p966.trS q974 (Or.inl (by decide)) rfl rfl rfl rfl (by omega)
          have k984 := k967.tr q974 (Or.inl (by decide)) s0
          have nd985 := nd964.tr q974 (by have := @ic s; omega) (by omega)
          have lt986 : s.toInt < (κ972.1 19).toInt := by omega
          have k987 : Kd κ972 (h + 1) s.toInt s 17 r971 := Kd.of g976 (by omega) (Int.le_refl _) s0 (Or.inl (by omega))
          have g988 : TR s.toInt 0 0 0 0 0 κ972 (mA1 κ972 23 s.toNatClampNeg r971) := TR.put p983.ps s0 rfl rfl
          have e990 : ((mA1 κ972 23 s.toNatClampNeg r971).1 19).toInt = (κ972.1 19).toInt := rfl
          have e991 : ((mA1 κ972 23 s.toNatClampNeg r971).1 32).toInt = (κ972.1 32).toInt := rfl
          have sr993 : srt (mA1 κ972 23 s.toNatClampNeg r971) = srt κ972 := rfl
          have nd992 := nd985.pb (x := r971)
          have p994 : TR (s.toInt) (0) 0 0 0 (-3) μ (mA1 κ972 23 s.toNatClampNeg r971) := p983.trS g988 (Or.inr (Or.inl rfl)) rfl rfl rfl rfl (by omega)
          have k995 := k984.tr g988 (Or.inr rfl) s0
          have k996 := k987.tr g988 (Or.inr rfl) s0
          refine ⟨TR.mi p983.ps rfl rfl s0 (by omega), ?_⟩
          generalize mA1 κ972 23 s.toNatClampNeg r971 = κ989 at *
          have lt997 : s.toInt < (κ989.1 19).toInt := by omega
          exact ⟨⟨p994.1, by have := p994.2; omega⟩, G.mk s0 (Int.le_refl _) lt997 nd992 (by decide) (Or.inr (Kd.up k995 (Nat.le_succ _))) (k996) True.intro True.intro True.intro, nd992.2.2.2.2.2.2⟩
    · skip
      have hw3 : ¬ srt κ916 = 203 := by rw [is_t hw]; decide
      have g998 : TR s.toInt 0 0 0 0 0 κ916 (mA1 κ916 20 s.toNatClampNeg 41) := TR.put p912.ps s0 rfl rfl
      have e1000 : ((mA1 κ916 20 s.toNatClampNeg 41).1 19).toInt = (κ916.1 19).toInt := rfl
      have e1001 : ((mA1 κ916 20 s.toNatClampNeg 41).1 32).toInt = (κ916.1 32).toInt := rfl
      have sr1003 : srt (mA1 κ916 20 s.toNatClampNeg 41) = srt κ916 := rfl
      have nd1002 := nd910.pk (x := 41)
      have p1004 : TR (s.toInt) (0) 0 0 0 (-3) μ (mA1 κ916 20 s.toNatClampNeg 41) := p912.trS g998 (Or.inr (Or.inl rfl)) rfl rfl rfl rfl (by omega)
      have k1005 := k913.tr g998 (Or.inr rfl) s0
      refine ⟨TR.mi p912.ps rfl rfl s0 (by omega), ?_⟩
      generalize mA1 κ916 20 s.toNatClampNeg 41 = κ999 at *
      have lt1006 : s.toInt < (κ999.1 19).toInt := by omega
      refine MC.mono (t_next (by omega) p1004.ps (hw3) (fun _ h => hT _ (p1004.1.1.tr h))) (fun v1007 κ1012 h1008 => ?_) (fun _ h => h)
      obtain ⟨q1009, m1010, a1011⟩ := h1008
      have p1013 : TR (s.toInt) (0) 0 0 0 (-5) μ κ1012 := p1004.trS q1009 (Or.inl (by decide)) rfl rfl rfl rfl (by omega)
      have k1014 := k1005.tr q1009 (Or.inl (by decide)) s0
      have nd1015 := nd1002.tr q1009 (by have := @ic s; omega) (by omega)
      have lt1016 : s.toInt < (κ1012.1 19).toInt := by omega
      have x1020 := p1013.px
      have u1021 := p1013.2
      have y1022 := tT p1013
      have z1023 := px0 p1013.ps
      refine MC.mono (hP κ1012 T h p1013.ps (by omega) (by omega) (by omega) (fun _ h => hT _ (p1013.1.1.tr h))) (fun r1017 κ1018 h1019 => ?_) (fun _ h => h)
      obtain ⟨q1024, a1026, g1025, n1027⟩ := h1019
      have l1028 := q1024.l19
      have p1029 : TR (s.toInt) (0) 0 0 0 (-5) μ κ1018 := p1013.trS q1024 (Or.inl (by decide)) rfl rfl rfl rfl (by omega)
      have k1030 := k1014.tr q1024 (Or.inl (by decide)) s0
      have nd1031 := nd1015.tr q1024 (by have := @ic s; omega) (by omega)
      have lt1032 : s.toInt < (κ1018.1 19).toInt := by omega
      have k1033 : Kd κ1018 h s.toInt s 2 r1017 := Kd.of g1025 (by omega) (Int.le_refl _) s0 (Or.inl (by omega))
      refine MC.mono (c_is (by omega) p1029.ps) (fun r1034 κ1035 h1036 => ?_) (fun _ h => h)
      obtain ⟨rfl, rfl⟩ := h1036
      refine ⟨fun _ => ?_, fun _ => MC.mono (c_unfit (by omega) p1029.ps (fun _ h => hT _ (p1029.1.1.tr h))) (fun _ _ h => h.elim) (fun _ h => h)⟩
      have x1044 := p1029.px
      have u1045 := p1029.2
      have y1046 := tT p1029
      have z1047 := px0 p1029.ps
      refine MC.mono (hC κ1035 T h r1017 (_) p1029.ps (by omega) (by omega) (by omega) (by omega) (by omega) (g1025.up (Nat.le_refl _) (Int.le_refl _) (by omega)) (fun _ h => hT _ (p1029.1.1.tr h))) (fun r1037 κ1038 h1039 => ?_) (fun _ h => h)
      obtain ⟨q1040, a1041, g1042, n1043⟩ := h1039
      have l1048 := q1040.l19
      have p1049 : TR (s.toInt) (0) 0 0 0 (-5) μ κ1038 := p1029.trS q1040 (Or.inl (by decide)) rfl rfl rfl rfl (by omega)
      have k1050 := k1030.tr q1040 (Or.inl (by decide)) s0
      have nd1051 := nd1031.tr q1040 (by have := @ic s; omega) (by omega)
      have lt1052 : s.toInt < (κ1038.1 19).toInt := by omega
      have k1053 : Kd κ1038 (h + 1) s.toInt s 17 r1037 := Kd.of g1042 (by omega) (Int.le_refl _) s0 (Or.inl (by omega))
      have g1054 : TR s.toInt 0 0 0 0 0 κ1038 (mA1 κ1038 23 s.toNatClampNeg r1037) := TR.put p1049.ps s0 rfl rfl
      have e1056 : ((mA1 κ1038 23 s.toNatClampNeg r1037).1 19).toInt = (κ1038.1 19).toInt := rfl
      have e1057 : ((mA1 κ1038 23 s.toNatClampNeg r1037).1 32).toInt = (κ1038.1 32).toInt := rfl
      have sr1059 : srt (mA1 κ1038 23 s.toNatClampNeg r1037) = srt κ1038 := rfl
      have nd1058 := nd1051.pb (x := r1037)
      have p1060 : TR (s.toInt) (0) 0 0 0 (-5) μ (mA1 κ1038 23 s.toNatClampNeg r1037) := p1049.trS g1054 (Or.inr (Or.inl rfl)) rfl rfl rfl rfl (by omega)
      have k1061 := k1050.tr g1054 (Or.inr rfl) s0
      have k1062 := k1053.tr g1054 (Or.inr rfl) s0
      refine ⟨TR.mi p1049.ps rfl rfl s0 (by omega), ?_⟩
      generalize mA1 κ1038 23 s.toNatClampNeg r1037 = κ1055 at *
      have lt1063 : s.toInt < (κ1055.1 19).toInt := by omega
      exact ⟨⟨p1060.1, by have := p1060.2; omega⟩, G.mk s0 (Int.le_refl _) lt1063 nd1058 (by decide) (Kd.up k1061 (Nat.le_succ _)) (k1062) True.intro True.intro True.intro, nd1058.2.2.2.2.2.2⟩
  · skip
    have g1064 : TR s.toInt 0 0 0 0 0 κ894 (mA1 κ894 20 s.toNatClampNeg 42) := TR.put p892.ps s0 rfl rfl
    have e1066 : ((mA1 κ894 20 s.toNatClampNeg 42).1 19).toInt = (κ894.1 19).toInt := rfl
    have e1067 : ((mA1 κ894 20 s.toNatClampNeg 42).1 32).toInt = (κ894.1 32).toInt := rfl
    have sr1069 : srt (mA1 κ894 20 s.toNatClampNeg 42) = srt κ894 := rfl
    have nd1068 := nd889.pk (x := 42)
    have p1070 : TR (s.toInt) (0) 0 0 0 (-1) μ (mA1 κ894 20 s.toNatClampNeg 42) := p892.trS g1064 (Or.inr (Or.inl rfl)) rfl rfl rfl rfl (by omega)
    have gg1071 := g884.tr g1064 (by omega) (Or.inl (by omega))
    refine ⟨TR.mi p892.ps rfl rfl s0 (by omega), ?_⟩
    generalize mA1 κ894 20 s.toNatClampNeg 42 = κ1065 at *
    have lt1072 : s.toInt < (κ1065.1 19).toInt := by omega
    have x1080 := p1070.px
    have u1081 := p1070.2
    have y1082 := tT p1070
    have z1083 := px0 p1070.ps
    refine MC.mono (hC κ1065 T h r876 (_) p1070.ps (by omega) (by omega) (by omega) (by omega) (by omega) (gg1071.up (Nat.le_refl _) (Int.le_refl _) (by omega)) (fun _ h => hT _ (p1070.1.1.tr h))) (fun r1073 κ1074 h1075 => ?_) (fun _ h => h)
    obtain ⟨q1076, a1077, g1078, n1079⟩ := h1075
    have l1084 := q1076.l19
    have p1085 : TR (s.toInt) (0) 0 0 0 (-1) μ κ1074 := p1070.trS q1076 (Or.inl (by decide)) rfl rfl rfl rfl (by omega)
    have nd1086 := nd1068.tr q1076 (by have := @ic s; omega) (by omega)
    have lt1087 : s.toInt < (κ1074.1 19).toInt := by omega
    have k1088 : Kd κ1074 (h + 1) s.toInt s 17 r1073 := Kd.of g1078 (by omega) (Int.le_refl _) s0 (Or.inl (by omega))
    have g1089 : TR s.toInt 0 0 0 0 0 κ1074 (mA1 κ1074 23 s.toNatClampNeg r1073) := TR.put p1085.ps s0 rfl rfl
    have e1091 : ((mA1 κ1074 23 s.toNatClampNeg r1073).1 19).toInt = (κ1074.1 19).toInt := rfl
    have e1092 : ((mA1 κ1074 23 s.toNatClampNeg r1073).1 32).toInt = (κ1074.1 32).toInt := rfl
    have sr1094 : srt (mA1 κ1074 23 s.toNatClampNeg r1073) = srt κ1074 := rfl
    have nd1093 := nd1086.pb (x := r1073)
    have p1095 : TR (s.toInt) (0) 0 0 0 (-1) μ (mA1 κ1074 23 s.toNatClampNeg r1073) := p1085.trS g1089 (Or.inr (Or.inl rfl)) rfl rfl rfl rfl (by omega)
    have k1096 := k1088.tr g1089 (Or.inr rfl) s0
    refine ⟨TR.mi p1085.ps rfl rfl s0 (by omega), ?_⟩
    generalize mA1 κ1074 23 s.toNatClampNeg r1073 = κ1090 at *
    have lt1097 : s.toInt < (κ1090.1 19).toInt := by omega
    exact ⟨⟨p1095.1, by have := p1095.2; omega⟩, G.mk s0 (Int.le_refl _) lt1097 nd1093 (by decide) Or.inl rfl (k1096) True.intro True.intro True.intro, nd1093.2.2.2.2.2.2⟩
theorem st_statement (hE : XC X W P 332 [] 1 20 12 0 0 d) (hSt : SL X W P 321 [] 3 19 11 d) (hA : ArC X W P d) (hFor : FiC X W P 324 0 0 d) (hTry : FiC X W P 325 0 0 d) (hTc : FiC X W P 327 0 0 d) (hBy : FiC X W P 329 1 1 d) : SC X W P 322 3 22 14 (d + 1) := fun μ T h9 hS hd hh hn hT hb => by
  have hp := px0 hS
  have h0 := hS.2.2.2.2.1
  have at0 := hS.at
  have hb0 := hS.2.2.2.2.2.1.1
  obtain ⟨h, rfl⟩ : ∃ h, h9 = h + 1 := ⟨h9 - 1, by omega⟩
  refine me_meth (by omega) rfl (v_statement_0 (MC.mono (t_node (by omega) hS (by omega)) (fun s ν h1 => ?_) (fun _ h => h)))
  obtain ⟨q1, ⟨q2, s0⟩, q3, q4, q5, q6⟩ := h1
  have hcs := @ic s
  have s9 : s.toInt < 15990 := by omega
  have atν := q1.ps.at
  have hs3 : ¬ srt ν = 203 := by rw [q5]; exact bgS_e hb
  have xν := q1.px
  refine ⟨MI.of (q1.ps.1.g rfl rfl : _ = 6002) atν.1 atν.2, fun _ => ?_, fun _ => MC.mono (hBy ν T h s q1.ps (by omega) (by omega) (by omega) (fun _ h => hT _ (q1.1.1.tr h)) s0 (by omega) q6) (fun r κ hk => ?_) (fun _ h => h)⟩
  · generalize ν.2.1 9 (ν.1 32).toNatClampNeg = w
    refine MC.mono (t_next (by omega) q1.ps hs3 (fun _ h => hT _ (q1.1.1.tr h))) (fun _ κ hk => ?_) (fun _ h => h)
    obtain ⟨m1, m2, m3⟩ := hk
    have p0 : TR (-1) 0 0 0 0 (-1) μ κ := q1.tr m1 (Or.inl (by decide)) rfl rfl rfl rfl (by omega)
    have nd0 := q6.tr m1 (by omega) (by omega)
    have lt0 : s.toInt < (κ.1 19).toInt := by omega
    have xκ := p0.px
    have fill : ∀ k, FiC X W P k 0 0 d → MC X W true d k [.ref P.1, .int s] P κ (fun _ κ1 => ME X W true d 322 553 [(0, .ref P.1), (1, .int s), (2, .int w)] [] P κ1 (fun r μ1 => XN 0 3 (h + 1) μ r μ1) T) T := fun k hk => MC.mono (hk κ T h s p0.ps (by omega) (by omega) (by omega) (fun _ h => hT _ (p0.1.1.tr h)) s0 (by omega) nd0) (fun r κ1 h1 => by
      obtain ⟨z1, z2, z3⟩ := h1
      have l1 := z1.l32
      exact v_statement_553 _ _ ⟨p0.tr z1 (Or.inr (by omega)) rfl rfl rfl rfl (by omega), by omega, z2.up (Nat.le_refl _) (by omega) (Int.le_refl _), z3⟩) (fun _ h => h)
    refine ⟨fun _ => ?_, fun _ => fill 324 hFor, fun _ => ?_, fun _ => ?_, fun _ => ?_, fun _ => ?_, fun _ => ?_, fun _ => fill 325 hTry, fun _ => fill 327 hTc, fun _ => ?_, fun _ => ?_, fun _ => ⟨fun _ => ⟨fun _ => ⟨fun _ => ?_, fun _ => ?_⟩, fun _ => ?_⟩, fun _ => ?_⟩⟩
    · skip
      exact v_statement_553 _ _ ⟨⟨p0.1, by have := p0.2; omega⟩, by omega, (G.mk (lo := s.toInt) s0 (Int.le_refl _) lt0 nd0 (by decide) True.intro True.intro True.intro True.intro True.intro : G κ (h + 1) (bt s.toInt (κ.1 19).toInt) 3 s).up (Nat.le_refl _) (by omega) (Int.le_refl _), nd0.2.2.2.2.2.2⟩
    · skip
      have g1098 : TR s.toInt 0 0 0 0 0 κ (mA1 κ 20 s.toNatClampNeg 44) := TR.put p0.ps s0 rfl rfl
      have e1100 : ((mA1 κ 20 s.toNatClampNeg 44).1 19).toInt = (κ.1 19).toInt := rfl
      have e1101 : ((mA1 κ 20 s.toNatClampNeg 44).1 32).toInt = (κ.1 32).toInt := rfl
      have sr1103 : srt (mA1 κ 20 s.toNatClampNeg 44) = srt κ := rfl
      have nd1102 := nd0.pk (x := 44)
      have p1104 : TR (-1) (0) 0 0 0 (-1) μ (mA1 κ 20 s.toNatClampNeg 44) := p0.trS g1098 (Or.inr (Or.inr (by omega))) rfl rfl rfl rfl (by omega)
      refine ⟨TR.mi p0.ps rfl rfl s0 (by omega), ?_⟩
      generalize mA1 κ 20 s.toNatClampNeg 44 = κ1099 at *
      have lt1105 : s.toInt < (κ1099.1 19).toInt := by omega
      have x1106 := p1104.px
      have u1107 := p1104.2
      have y1108 := tT p1104
      have z1109 := px0 p1104.ps
      refine MC.mono (hA κ1099 T h p1104.ps (by omega) (by omega) (by omega) (fun _ h => hT _ (p1104.1.1.tr h))) (fun r4 κ4 h4 => ?_) (fun _ h => h)
      obtain ⟨qA, neA, gA⟩ := h4
      have lA := qA.l19
      have p1110 : TR (-1) (0) 0 0 0 (-1) μ κ4 := p1104.trS qA (Or.inl (by decide)) rfl rfl rfl rfl (by omega)
      have nd1111 := nd1102.tr qA (by have := @ic s; omega) (by omega)
      have lt1112 : s.toInt < (κ4.1 19).toInt := by omega
      have kA : KL κ4 h s.toInt s 13 r4 := KL.of gA (by omega) (Int.le_refl _) s0 (Or.inl (by omega))
      have g1113 : TR s.toInt 0 0 0 0 0 κ4 (mA1 κ4 22 s.toNatClampNeg r4) := TR.put p1110.ps s0 rfl rfl
      have e1115 : ((mA1 κ4 22 s.toNatClampNeg r4).1 19).toInt = (κ4.1 19).toInt := rfl
      have e1116 : ((mA1 κ4 22 s.toNatClampNeg r4).1 32).toInt = (κ4.1 32).toInt := rfl
      have sr1118 : srt (mA1 κ4 22 s.toNatClampNeg r4) = srt κ4 := rfl
      have nd1117 := nd1111.pa (x := r4)
      have p1119 : TR (-1) (0) 0 0 0 (-1) μ (mA1 κ4 22 s.toNatClampNeg r4) := p1110.trS g1113 (Or.inr (Or.inr (by omega))) rfl rfl rfl rfl (by omega)
      have k1120 := kA.tr g1113 (Or.inr rfl) s0
      refine ⟨TR.mi p1110.ps rfl rfl s0 (by omega), ?_⟩
      generalize mA1 κ4 22 s.toNatClampNeg r4 = κ1114 at *
      have lt1121 : s.toInt < (κ1114.1 19).toInt := by omega
      exact v_statement_553 _ _ ⟨⟨p1119.1, by have := p1119.2; omega⟩, by omega, (G.mk (lo := s.toInt) s0 (Int.le_refl _) lt1121 nd1117 (by decide) (⟨neA, k1120⟩) True.intro True.intro True.intro True.intro : G κ1114 (h + 1) (bt s.toInt (κ1114.1 19).toInt) 3 s).up (Nat.le_refl _) (by omega) (Int.le_refl _), nd1117.2.2.2.2.2.2⟩
    · skip
      have g1122 : TR s.toInt 0 0 0 0 0 κ (mA1 κ 20 s.toNatClampNeg 54) := TR.put p0.ps s0 rfl rfl
      have e1124 : ((mA1 κ 20 s.toNatClampNeg 54).1 19).toInt = (κ.1 19).toInt := rfl
      have e1125 : ((mA1 κ 20 s.toNatClampNeg 54).1 32).toInt = (κ.1 32).toInt := rfl
      have sr1127 : srt (mA1 κ 20 s.toNatClampNeg 54) = srt κ := rfl
      have nd1126 := nd0.pk (x := 54)
      have p1128 : TR (-1) (0) 0 0 0 (-1) μ (mA1 κ 20 s.toNatClampNeg 54) := p0.trS g1122 (Or.inr (Or.inr (by omega))) rfl rfl rfl rfl (by omega)
      refine ⟨TR.mi p0.ps rfl rfl s0 (by omega), ?_⟩
      generalize mA1 κ 20 s.toNatClampNeg 54 = κ1123 at *
      have lt1129 : s.toInt < (κ1123.1 19).toInt := by omega
      have x1133 := p1128.px
      have u1134 := p1128.2
      have y1135 := tT p1128
      have z1136 := px0 p1128.ps
      refine MC.mono (hE κ1123 T h p1128.ps (by omega) (by omega) (by omega) (fun _ h => hT _ (p1128.1.1.tr h))) (fun r1130 κ1131 h1132 => ?_) (fun _ h => h)
      obtain ⟨q1137, a1139, g1138, n1140⟩ := h1132
      have l1141 := q1137.l19
      have p1142 : TR (-1) (0) 0 0 0 (-1) μ κ1131 := p1128.trS q1137 (Or.inl (by decide)) rfl rfl rfl rfl (by omega)
      have nd1143 := nd1126.tr q1137 (by have := @ic s; omega) (by omega)
      have lt1144 : s.toInt < (κ1131.1 19).toInt := by omega
      have k1145 : Kd κ1131 h s.toInt s 1 r1130 := Kd.of g1138 (by omega) (Int.le_refl _) s0 (Or.inl (by omega))
      have g1146 : TR s.toInt 0 0 0 0 0 κ1131 (mA1 κ1131 22 s.toNatClampNeg r1130) := TR.put p1142.ps s0 rfl rfl
      have e1148 : ((mA1 κ1131 22 s.toNatClampNeg r1130).1 19).toInt = (κ1131.1 19).toInt := rfl
      have e1149 : ((mA1 κ1131 22 s.toNatClampNeg r1130).1 32).toInt = (κ1131.1 32).toInt := rfl
      have sr1151 : srt (mA1 κ1131 22 s.toNatClampNeg r1130) = srt κ1131 := rfl
      have nd1150 := nd1143.pa (x := r1130)
      have p1152 : TR (-1) (0) 0 0 0 (-1) μ (mA1 κ1131 22 s.toNatClampNeg r1130) := p1142.trS g1146 (Or.inr (Or.inr (by omega))) rfl rfl rfl rfl (by omega)
      have k1153 := k1145.tr g1146 (Or.inr rfl) s0
      refine ⟨TR.mi p1142.ps rfl rfl s0 (by omega), ?_⟩
      generalize mA1 κ1131 22 s.toNatClampNeg r1130 = κ1147 at *
      have lt1154 : s.toInt < (κ1147.1 19).toInt := by omega
      refine MC.mono (t_expect (by omega) p1152.ps (by decide) (fun _ h => hT _ (p1152.1.1.tr h))) (fun v1155 κ1160 h1156 => ?_) (fun _ h => h)
      obtain ⟨q1157, m1158, a1159⟩ := h1156
      have p1161 : TR (-1) (0) 0 0 0 (-3) μ κ1160 := p1152.trS q1157 (Or.inl (by decide)) rfl rfl rfl rfl (by omega)
      have k1162 := k1153.tr q1157 (Or.inl (by decide)) s0
      have nd1163 := nd1150.tr q1157 (by have := @ic s; omega) (by omega)
      have lt1164 : s.toInt < (κ1160.1 19).toInt := by omega
      have x1168 := p1161.px
      have u1169 := p1161.2
      have y1170 := tT p1161
      have z1171 := px0 p1161.ps
      refine MC.mono (hSt κ1160 T h p1161.ps (by omega) (by omega) (by omega) (fun _ h => hT _ (p1161.1.1.tr h))) (fun r1165 κ1166 h1167 => ?_) (fun _ h => h)
      obtain ⟨q1172, g1173⟩ := h1167
      have l1174 := q1172.l19
      have p1175 : TR (-1) (0) 0 0 0 (-3) μ κ1166 := p1161.trS q1172 (Or.inl (by decide)) rfl rfl rfl rfl (by omega)
      have k1176 := k1162.tr q1172 (Or.inl (by decide)) s0
      have nd1177 := nd1163.tr q1172 (by have := @ic s; omega) (by omega)
      have lt1178 : s.toInt < (κ1166.1 19).toInt := by omega
      have k1179 : KL κ1166 h s.toInt s 3 r1165 := KL.of g1173 (by omega) (Int.le_refl _) s0 (Or.inl (by omega))
      have g1180 : TR s.toInt 0 0 0 0 0 κ1166 (mA1 κ1166 23 s.toNatClampNeg r1165) := TR.put p1175.ps s0 rfl rfl
      have e1182 : ((mA1 κ1166 23 s.toNatClampNeg r1165).1 19).toInt = (κ1166.1 19).toInt := rfl
      have e1183 : ((mA1 κ1166 23 s.toNatClampNeg r1165).1 32).toInt = (κ1166.1 32).toInt := rfl
      have sr1185 : srt (mA1 κ1166 23 s.toNatClampNeg r1165) = srt κ1166 := rfl
      have nd1184 := nd1177.pb (x := r1165)
      have p1186 : TR (-1) (0) 0 0 0 (-3) μ (mA1 κ1166 23 s.toNatClampNeg r1165) := p1175.trS g1180 (Or.inr (Or.inr (by omega))) rfl rfl rfl rfl (by omega)
      have k1187 := k1176.tr g1180 (Or.inr rfl) s0
      have k1188 := k1179.tr g1180 (Or.inr rfl) s0
      refine ⟨TR.mi p1175.ps rfl rfl s0 (by omega), ?_⟩
      generalize mA1 κ1166 23 s.toNatClampNeg r1165 = κ1181 at *
      have lt1189 : s.toInt < (κ1181.1 19).toInt := by omega
      refine MC.mono (t_expect (by omega) p1186.ps (by decide) (fun _ h => hT _ (p1186.1.1.tr h))) (fun v1190 κ1195 h1191 => ?_) (fun _ h => h)
      obtain ⟨q1192, m1193, a1194⟩ := h1191
      have p1196 : TR (-1) (0) 0 0 0 (-5) μ κ1195 := p1186.trS q1192 (Or.inl (by decide)) rfl rfl rfl rfl (by omega)
      have k1197 := k1187.tr q1192 (Or.inl (by decide)) s0
      have k1198 := k1188.tr q1192 (Or.inl (by decide)) s0
      have nd1199 := nd1184.tr q1192 (by have := @ic s; omega) (by omega)
      have lt1200 : s.toInt < (κ1195.1 19).toInt := by omega
      exact v_statement_553 _ _ ⟨⟨p1196.1, by have := p1196.2; omega⟩, by omega, (G.mk (lo := s.toInt) s0 (Int.le_refl _) lt1200 nd1199 (by decide) (k1197) (k1198) True.intro True.intro True.intro : G κ1195 (h + 1) (bt s.toInt (κ1195.1 19).toInt) 3 s).up (Nat.le_refl _) (by omega) (Int.le_refl _), nd1199.2.2.2.2.2.2⟩
    · skip
      have g1201 : TR s.toInt 0 0 0 0 0 κ (mA1 κ 20 s.toNatClampNeg 47) := TR.put p0.ps s0 rfl rfl
      have e1203 : ((mA1 κ 20 s.toNatClampNeg 47).1 19).toInt = (κ.1 19).toInt := rfl
      have e1204 : ((mA1 κ 20 s.toNatClampNeg 47).1 32).toInt = (κ.1 32).toInt := rfl
      have sr1206 : srt (mA1 κ 20 s.toNatClampNeg 47) = srt κ := rfl
      have nd1205 := nd0.pk (x := 47)
      have p1207 : TR (-1) (0) 0 0 0 (-1) μ (mA1 κ 20 s.toNatClampNeg 47) := p0.trS g1201 (Or.inr (Or.inr (by omega))) rfl rfl rfl rfl (by omega)
      refine ⟨TR.mi p0.ps rfl rfl s0 (by omega), ?_⟩
      generalize mA1 κ 20 s.toNatClampNeg 47 = κ1202 at *
      have lt1208 : s.toInt < (κ1202.1 19).toInt := by omega
      have x1212 := p1207.px
      have u1213 := p1207.2
      have y1214 := tT p1207
      have z1215 := px0 p1207.ps
      refine MC.mono (hSt κ1202 T h p1207.ps (by omega) (by omega) (by omega) (fun _ h => hT _ (p1207.1.1.tr h))) (fun r1209 κ1210 h1211 => ?_) (fun _ h => h)
      obtain ⟨q1216, g1217⟩ := h1211
      have l1218 := q1216.l19
      have p1219 : TR (-1) (0) 0 0 0 (-1) μ κ1210 := p1207.trS q1216 (Or.inl (by decide)) rfl rfl rfl rfl (by omega)
      have nd1220 := nd1205.tr q1216 (by have := @ic s; omega) (by omega)
      have lt1221 : s.toInt < (κ1210.1 19).toInt := by omega
      have k1222 : KL κ1210 h s.toInt s 3 r1209 := KL.of g1217 (by omega) (Int.le_refl _) s0 (Or.inl (by omega))
      have g1223 : TR s.toInt 0 0 0 0 0 κ1210 (mA1 κ1210 23 s.toNatClampNeg r1209) := TR.put p1219.ps s0 rfl rfl
      have e1225 : ((mA1 κ1210 23 s.toNatClampNeg r1209).1 19).toInt = (κ1210.1 19).toInt := rfl
      have e1226 : ((mA1 κ1210 23 s.toNatClampNeg r1209).1 32).toInt = (κ1210.1 32).toInt := rfl
      have sr1228 : srt (mA1 κ1210 23 s.toNatClampNeg r1209) = srt κ1210 := rfl
      have nd1227 := nd1220.pb (x := r1209)
      have p1229 : TR (-1) (0) 0 0 0 (-1) μ (mA1 κ1210 23 s.toNatClampNeg r1209) := p1219.trS g1223 (Or.inr (Or.inr (by omega))) rfl rfl rfl rfl (by omega)
      have k1230 := k1222.tr g1223 (Or.inr rfl) s0
      refine ⟨TR.mi p1219.ps rfl rfl s0 (by omega), ?_⟩
      generalize mA1 κ1210 23 s.toNatClampNeg r1209 = κ1224 at *
      have lt1231 : s.toInt < (κ1224.1 19).toInt := by omega
      refine MC.mono (t_expect (by omega) p1229.ps (by decide) (fun _ h => hT _ (p1229.1.1.tr h))) (fun v1232 κ1237 h1233 => ?_) (fun _ h => h)
      obtain ⟨q1234, m1235, a1236⟩ := h1233
      have p1238 : TR (-1) (0) 0 0 0 (-3) μ κ1237 := p1229.trS q1234 (Or.inl (by decide)) rfl rfl rfl rfl (by omega)
      have k1239 := k1230.tr q1234 (Or.inl (by decide)) s0
      have nd1240 := nd1227.tr q1234 (by have := @ic s; omega) (by omega)
      have lt1241 : s.toInt < (κ1237.1 19).toInt := by omega
      exact v_statement_553 _ _ ⟨⟨p1238.1, by have := p1238.2; omega⟩, by omega, (G.mk (lo := s.toInt) s0 (Int.le_refl _) lt1241 nd1240 (by decide) True.intro (k1239) True.intro True.intro True.intro : G κ1237 (h + 1) (bt s.toInt (κ1237.1 19).toInt) 3 s).up (Nat.le_refl _) (by omega) (Int.le_refl _), nd1240.2.2.2.2.2.2⟩
    · skip
      have g1242 : TR s.toInt 0 0 0 0 0 κ (mA1 κ 20 s.toNatClampNeg 50) := TR.put p0.ps s0 rfl rfl
      have e1244 : ((mA1 κ 20 s.toNatClampNeg 50).1 19).toInt = (κ.1 19).toInt := rfl
      have e1245 : ((mA1 κ 20 s.toNatClampNeg 50).1 32).toInt = (κ.1 32).toInt := rfl
      have sr1247 : srt (mA1 κ 20 s.toNatClampNeg 50) = srt κ := rfl
      have nd1246 := nd0.pk (x := 50)
      have p1248 : TR (-1) (0) 0 0 0 (-1) μ (mA1 κ 20 s.toNatClampNeg 50) := p0.trS g1242 (Or.inr (Or.inr (by omega))) rfl rfl rfl rfl (by omega)
      refine ⟨TR.mi p0.ps rfl rfl s0 (by omega), ?_⟩
      generalize mA1 κ 20 s.toNatClampNeg 50 = κ1243 at *
      have lt1249 : s.toInt < (κ1243.1 19).toInt := by omega
      have x1253 := p1248.px
      have u1254 := p1248.2
      have y1255 := tT p1248
      have z1256 := px0 p1248.ps
      refine MC.mono (c_qname (by omega) p1248.ps (by omega) (fun _ h => hT _ (p1248.1.1.tr h))) (fun r1250 κ1251 h1252 => ?_) (fun _ h => h)
      obtain ⟨⟨z1259, z1260, z1261, z1262, z1263⟩, z1264⟩ := h1252
      have q1257 : TR (-1) 0 0 0 0 0 κ1243 κ1251 := ⟨z1259, by omega⟩
      have g1258 := z1262.up (h' := h) (by omega) (Int.le_refl _) (Int.le_refl _)
      have l1265 := q1257.l19
      have p1266 : TR (-1) (0) 0 0 0 (-1) μ κ1251 := p1248.trS q1257 (Or.inl (by decide)) rfl rfl rfl rfl (by omega)
      have nd1267 := nd1246.tr q1257 (by have := @ic s; omega) (by omega)
      have lt1268 : s.toInt < (κ1251.1 19).toInt := by omega
      have k1269 : Kd κ1251 h s.toInt s 7 r1250 := Kd.of g1258 (by omega) (Int.le_refl _) s0 (Or.inl (by omega))
      have g1270 : TR s.toInt 0 0 0 0 0 κ1251 (mA1 κ1251 22 s.toNatClampNeg r1250) := TR.put p1266.ps s0 rfl rfl
      have e1272 : ((mA1 κ1251 22 s.toNatClampNeg r1250).1 19).toInt = (κ1251.1 19).toInt := rfl
      have e1273 : ((mA1 κ1251 22 s.toNatClampNeg r1250).1 32).toInt = (κ1251.1 32).toInt := rfl
      have sr1275 : srt (mA1 κ1251 22 s.toNatClampNeg r1250) = srt κ1251 := rfl
      have nd1274 := nd1267.pa (x := r1250)
      have p1276 : TR (-1) (0) 0 0 0 (-1) μ (mA1 κ1251 22 s.toNatClampNeg r1250) := p1266.trS g1270 (Or.inr (Or.inr (by omega))) rfl rfl rfl rfl (by omega)
      have k1277 := k1269.tr g1270 (Or.inr rfl) s0
      refine ⟨TR.mi p1266.ps rfl rfl s0 (by omega), ?_⟩
      generalize mA1 κ1251 22 s.toNatClampNeg r1250 = κ1271 at *
      have lt1278 : s.toInt < (κ1271.1 19).toInt := by omega
      refine MC.mono (t_open (by omega) p1276.ps (by decide) (fun _ h => hT _ (p1276.1.1.tr h))) (fun v1279 κ1284 h1280 => ?_) (fun _ h => h)
      obtain ⟨q1281, m1282, a1283⟩ := h1280
      have p1285 : TR (-1) (1) 0 0 0 (-3) μ κ1284 := p1276.trS q1281 (Or.inl (by decide)) rfl rfl rfl rfl (by omega)
      have k1286 := k1277.tr q1281 (Or.inl (by decide)) s0
      have nd1287 := nd1274.tr q1281 (by have := @ic s; omega) (by omega)
      have lt1288 : s.toInt < (κ1284.1 19).toInt := by omega
      have x1292 := p1285.px
      have u1293 := p1285.2
      have y1294 := tT p1285
      have z1295 := px0 p1285.ps
      refine MC.mono (hE κ1284 T h p1285.ps (by omega) (by omega) (by omega) (fun _ h => hT _ (p1285.1.1.tr h))) (fun r1289 κ1290 h1291 => ?_) (fun _ h => h)
      obtain ⟨q1296, a1298, g1297, n1299⟩ := h1291
      have l1300 := q1296.l19
      have p1301 : TR (-1) (1) 0 0 0 (-3) μ κ1290 := p1285.trS q1296 (Or.inl (by decide)) rfl rfl rfl rfl (by omega)
      have k1302 := k1286.tr q1296 (Or.inl (by decide)) s0
      have nd1303 := nd1287.tr q1296 (by have := @ic s; omega) (by omega)
      have lt1304 : s.toInt < (κ1290.1 19).toInt := by omega
      have k1305 : Kd κ1290 h s.toInt s 1 r1289 := Kd.of g1297 (by omega) (Int.le_refl _) s0 (Or.inl (by omega))
      have g1306 : TR s.toInt 0 0 0 0 0 κ1290 (mA1 κ1290 23 s.toNatClampNeg r1289) := TR.put p1301.ps s0 rfl rfl
      have e1308 : ((mA1 κ1290 23 s.toNatClampNeg r1289).1 19).toInt = (κ1290.1 19).toInt := rfl
      have e1309 : ((mA1 κ1290 23 s.toNatClampNeg r1289).1 32).toInt = (κ1290.1 32).toInt := rfl
      have sr1311 : srt (mA1 κ1290 23 s.toNatClampNeg r1289) = srt κ1290 := rfl
      have nd1310 := nd1303.pb (x := r1289)
      have p1312 : TR (-1) (1) 0 0 0 (-3) μ (mA1 κ1290 23 s.toNatClampNeg r1289) := p1301.trS g1306 (Or.inr (Or.inr (by omega))) rfl rfl rfl rfl (by omega)
      have k1313 := k1302.tr g1306 (Or.inr rfl) s0
      have k1314 := k1305.tr g1306 (Or.inr rfl) s0
      refine ⟨TR.mi p1301.ps rfl rfl s0 (by omega), ?_⟩
      generalize mA1 κ1290 23 s.toNatClampNeg r1289 = κ1307 at *
      have lt1315 : s.toInt < (κ1307.1 19).toInt := by omega
      have hb1316 := p1312.b37
      refine MC.mono (t_close (by omega) p1312.ps (by decide) (by omega) (fun _ h => hT _ (p1312.1.1.tr h))) (fun v1317 κ1322 h1318 => ?_) (fun _ h => h)
      obtain ⟨q1319, m1320, a1321⟩ := h1318
      have p1323 : TR (-1) (0) 0 0 0 (-5) μ κ1322 := p1312.trS q1319 (Or.inl (by decide)) rfl rfl rfl rfl (by omega)
      have k1324 := k1313.tr q1319 (Or.inl (by decide)) s0
      have k1325 := k1314.tr q1319 (Or.inl (by decide)) s0
      have nd1326 := nd1310.tr q1319 (by have := @ic s; omega) (by omega)
      have lt1327 : s.toInt < (κ1322.1 19).toInt := by omega
      exact v_statement_553 _ _ ⟨⟨p1323.1, by have := p1323.2; omega⟩, by omega, (G.mk (lo := s.toInt) s0 (Int.le_refl _) lt1327 nd1326 (by decide) (k1324) (k1325) True.intro True.intro True.intro : G κ1322 (h + 1) (bt s.toInt (κ1322.1 19).toInt) 3 s).up (Nat.le_refl _) (by omega) (Int.le_refl _), nd1326.2.2.2.2.2.2⟩
    · skip
      have g1328 : TR s.toInt 0 0 0 0 0 κ (mA1 κ 20 s.toNatClampNeg 49) := TR.put p0.ps s0 rfl rfl
      have e1330 : ((mA1 κ 20 s.toNatClampNeg 49).1 19).toInt = (κ.1 19).toInt := rfl
      have e1331 : ((mA1 κ 20 s.toNatClampNeg 49).1 32).toInt = (κ.1 32).toInt := rfl
      have sr1333 : srt (mA1 κ 20 s.toNatClampNeg 49) = srt κ := rfl
      have nd1332 := nd0.pk (x := 49)
      have p1334 : TR (-1) (0) 0 0 0 (-1) μ (mA1 κ 20 s.toNatClampNeg 49) := p0.trS g1328 (Or.inr (Or.inr (by omega))) rfl rfl rfl rfl (by omega)
      refine ⟨TR.mi p0.ps rfl rfl s0 (by omega), ?_⟩
      generalize mA1 κ 20 s.toNatClampNeg 49 = κ1329 at *
      have lt1335 : s.toInt < (κ1329.1 19).toInt := by omega
      refine MC.mono (c_is (by omega) p1334.ps) (fun r1336 κ1337 h1338 => ?_) (fun _ h => h)
      obtain ⟨rfl, rfl⟩ := h1338
      refine ⟨fun _ => ?_, fun _ => ?_⟩
      · skip
        exact v_statement_553 _ _ ⟨⟨p1334.1, by have := p1334.2; omega⟩, by omega, (G.mk (lo := s.toInt) s0 (Int.le_refl _) lt1335 nd1332 (by decide) Or.inl rfl True.intro True.intro True.intro True.intro : G κ1337 (h + 1) (bt s.toInt (κ1337.1 19).toInt) 3 s).up (Nat.le_refl _) (by omega) (Int.le_refl _), nd1332.2.2.2.2.2.2⟩
      · skip
        have x1342 := p1334.px
        have u1343 := p1334.2
        have y1344 := tT p1334
        have z1345 := px0 p1334.ps
        refine MC.mono (hE κ1337 T h p1334.ps (by omega) (by omega) (by omega) (fun _ h => hT _ (p1334.1.1.tr h))) (fun r1339 κ1340 h1341 => ?_) (fun _ h => h)
        obtain ⟨q1346, a1348, g1347, n1349⟩ := h1341
        have l1350 := q1346.l19
        have p1351 : TR (-1) (0) 0 0 0 (-1) μ κ1340 := p1334.trS q1346 (Or.inl (by decide)) rfl rfl rfl rfl (by omega)
        have nd1352 := nd1332.tr q1346 (by have := @ic s; omega) (by omega)
        have lt1353 : s.toInt < (κ1340.1 19).toInt := by omega
        have k1354 : Kd κ1340 h s.toInt s 1 r1339 := Kd.of g1347 (by omega) (Int.le_refl _) s0 (Or.inl (by omega))
        have g1355 : TR s.toInt 0 0 0 0 0 κ1340 (mA1 κ1340 22 s.toNatClampNeg r1339) := TR.put p1351.ps s0 rfl rfl
        have e1357 : ((mA1 κ1340 22 s.toNatClampNeg r1339).1 19).toInt = (κ1340.1 19).toInt := rfl
        have e1358 : ((mA1 κ1340 22 s.toNatClampNeg r1339).1 32).toInt = (κ1340.1 32).toInt := rfl
        have sr1360 : srt (mA1 κ1340 22 s.toNatClampNeg r1339) = srt κ1340 := rfl
        have nd1359 := nd1352.pa (x := r1339)
        have p1361 : TR (-1) (0) 0 0 0 (-1) μ (mA1 κ1340 22 s.toNatClampNeg r1339) := p1351.trS g1355 (Or.inr (Or.inr (by omega))) rfl rfl rfl rfl (by omega)
        have k1362 := k1354.tr g1355 (Or.inr rfl) s0
        refine ⟨TR.mi p1351.ps rfl rfl s0 (by omega), ?_⟩
        generalize mA1 κ1340 22 s.toNatClampNeg r1339 = κ1356 at *
        have lt1363 : s.toInt < (κ1356.1 19).toInt := by omega
        exact v_statement_553 _ _ ⟨⟨p1361.1, by have := p1361.2; omega⟩, by omega, (G.mk (lo := s.toInt) s0 (Int.le_refl _) lt1363 nd1359 (by decide) (Or.inr k1362) True.intro True.intro True.intro True.intro : G κ1356 (h + 1) (bt s.toInt (κ1356.1 19).toInt) 3 s).up (Nat.le_refl _) (by omega) (Int.le_refl _), nd1359.2.2.2.2.2.2⟩
    · skip
      have g1364 : TR s.toInt 0 0 0 0 0 κ (mA1 κ 20 s.toNatClampNeg 55) := TR.put p0.ps s0 rfl rfl
      have e1366 : ((mA1 κ 20 s.toNatClampNeg 55).1 19).toInt = (κ.1 19).toInt := rfl
      have e1367 : ((mA1 κ 20 s.toNatClampNeg 55).1 32).toInt = (κ.1 32).toInt := rfl
      have sr1369 : srt (mA1 κ 20 s.toNatClampNeg 55) = srt κ := rfl
      have nd1368 := nd0.pk (x := 55)
      have p1370 : TR (-1) (0) 0 0 0 (-1) μ (mA1 κ 20 s.toNatClampNeg 55) := p0.trS g1364 (Or.inr (Or.inr (by omega))) rfl rfl rfl rfl (by omega)
      refine ⟨TR.mi p0.ps rfl rfl s0 (by omega), ?_⟩
      generalize mA1 κ 20 s.toNatClampNeg 55 = κ1365 at *
      have lt1371 : s.toInt < (κ1365.1 19).toInt := by omega
      have x1375 := p1370.px
      have u1376 := p1370.2
      have y1377 := tT p1370
      have z1378 := px0 p1370.ps
      refine MC.mono (hE κ1365 T h p1370.ps (by omega) (by omega) (by omega) (fun _ h => hT _ (p1370.1.1.tr h))) (fun r1372 κ1373 h1374 => ?_) (fun _ h => h)
      obtain ⟨q1379, a1381, g1380, n1382⟩ := h1374
      have l1383 := q1379.l19
      have p1384 : TR (-1) (0) 0 0 0 (-1) μ κ1373 := p1370.trS q1379 (Or.inl (by decide)) rfl rfl rfl rfl (by omega)
      have nd1385 := nd1368.tr q1379 (by have := @ic s; omega) (by omega)
      have lt1386 : s.toInt < (κ1373.1 19).toInt := by omega
      have k1387 : Kd κ1373 h s.toInt s 1 r1372 := Kd.of g1380 (by omega) (Int.le_refl _) s0 (Or.inl (by omega))
      have g1388 : TR s.toInt 0 0 0 0 0 κ1373 (mA1 κ1373 22 s.toNatClampNeg r1372) := TR.put p1384.ps s0 rfl rfl
      have e1390 : ((mA1 κ1373 22 s.toNatClampNeg r1372).1 19).toInt = (κ1373.1 19).toInt := rfl
      have e1391 : ((mA1 κ1373 22 s.toNatClampNeg r1372).1 32).toInt = (κ1373.1 32).toInt := rfl
      have sr1393 : srt (mA1 κ1373 22 s.toNatClampNeg r1372) = srt κ1373 := rfl
      have nd1392 := nd1385.pa (x := r1372)
      have p1394 : TR (-1) (0) 0 0 0 (-1) μ (mA1 κ1373 22 s.toNatClampNeg r1372) := p1384.trS g1388 (Or.inr (Or.inr (by omega))) rfl rfl rfl rfl (by omega)
      have k1395 := k1387.tr g1388 (Or.inr rfl) s0
      refine ⟨TR.mi p1384.ps rfl rfl s0 (by omega), ?_⟩
      generalize mA1 κ1373 22 s.toNatClampNeg r1372 = κ1389 at *
      have lt1396 : s.toInt < (κ1389.1 19).toInt := by omega
      refine MC.mono (t_expect (by omega) p1394.ps (by decide) (fun _ h => hT _ (p1394.1.1.tr h))) (fun v1397 κ1402 h1398 => ?_) (fun _ h => h)
      obtain ⟨q1399, m1400, a1401⟩ := h1398
      have p1403 : TR (-1) (0) 0 0 0 (-3) μ κ1402 := p1394.trS q1399 (Or.inl (by decide)) rfl rfl rfl rfl (by omega)
      have k1404 := k1395.tr q1399 (Or.inl (by decide)) s0
      have nd1405 := nd1392.tr q1399 (by have := @ic s; omega) (by omega)
      have lt1406 : s.toInt < (κ1402.1 19).toInt := by omega
      have x1410 := p1403.px
      have u1411 := p1403.2
      have y1412 := tT p1403
      have z1413 := px0 p1403.ps
      refine MC.mono (hE κ1402 T h p1403.ps (by omega) (by omega) (by omega) (fun _ h => hT _ (p1403.1.1.tr h))) (fun r1407 κ1408 h1409 => ?_) (fun _ h => h)
      obtain ⟨q1414, a1416, g1415, n1417⟩ := h1409
      have l1418 := q1414.l19
      have p1419 : TR (-1) (0) 0 0 0 (-3) μ κ1408 := p1403.trS q1414 (Or.inl (by decide)) rfl rfl rfl rfl (by omega)
      have k1420 := k1404.tr q1414 (Or.inl (by decide)) s0
      have nd1421 := nd1405.tr q1414 (by have := @ic s; omega) (by omega)
      have lt1422 : s.toInt < (κ1408.1 19).toInt := by omega
      have k1423 : Kd κ1408 h s.toInt s 1 r1407 := Kd.of g1415 (by omega) (Int.le_refl _) s0 (Or.inl (by omega))
      have g1424 : TR s.toInt 0 0 0 0 0 κ1408 (mA1 κ1408 23 s.toNatClampNeg r1407) := TR.put p1419.ps s0 rfl rfl
      have e1426 : ((mA1 κ1408 23 s.toNatClampNeg r1407).1 19).toInt = (κ1408.1 19).toInt := rfl
      have e1427 : ((mA1 κ1408 23 s.toNatClampNeg r1407).1 32).toInt = (κ1408.1 32).toInt := rfl
      have sr1429 : srt (mA1 κ1408 23 s.toNatClampNeg r1407) = srt κ1408 := rfl
      have nd1428 := nd1421.pb (x := r1407)
      have p1430 : TR (-1) (0) 0 0 0 (-3) μ (mA1 κ1408 23 s.toNatClampNeg r1407) := p1419.trS g1424 (Or.inr (Or.inr (by omega))) rfl rfl rfl rfl (by omega)
      have k1431 := k1420.tr g1424 (Or.inr rfl) s0
      have k1432 := k1423.tr g1424 (Or.inr rfl) s0
      refine ⟨TR.mi p1419.ps rfl rfl s0 (by omega), ?_⟩
      generalize mA1 κ1408 23 s.toNatClampNeg r1407 = κ1425 at *
      have lt1433 : s.toInt < (κ1425.1 19).toInt := by omega
      exact v_statement_553 _ _ ⟨⟨p1430.1, by have := p1430.2; omega⟩, by omega, (G.mk (lo := s.toInt) s0 (Int.le_refl _) lt1433 nd1428 (by decide) (k1431) (k1432) True.intro True.intro True.intro : G κ1425 (h + 1) (bt s.toInt (κ1425.1 19).toInt) 3 s).up (Nat.le_refl _) (by omega) (Int.le_refl _), nd1428.2.2.2.2.2.2⟩
    · skip
      have g1434 : TR s.toInt 0 0 0 0 0 κ (mA1 κ 20 s.toNatClampNeg 46) := TR.put p0.ps s0 rfl rfl
      have e1436 : ((mA1 κ 20 s.toNatClampNeg 46).1 19).toInt = (κ.1 19).toInt := rfl
      have e1437 : ((mA1 κ 20 s.toNatClampNeg 46).1 32).toInt = (κ.1 32).toInt := rfl
      have sr1439 : srt (mA1 κ 20 s.toNatClampNeg 46) = srt κ := rfl
      have nd1438 := nd0.pk (x := 46)
      have p1440 : TR (-1) (0) 0 0 0 (-1) μ (mA1 κ 20 s.toNatClampNeg 46) := p0.trS g1434 (Or.inr (Or.inr (by omega))) rfl rfl rfl rfl (by omega)
      refine ⟨TR.mi p0.ps rfl rfl s0 (by omega), ?_⟩
      generalize mA1 κ 20 s.toNatClampNeg 46 = κ1435 at *
      have lt1441 : s.toInt < (κ1435.1 19).toInt := by omega
      have x1445 := p1440.px
      have u1446 := p1440.2
      have y1447 := tT p1440
      have z1448 := px0 p1440.ps
      refine MC.mono (hE κ1435 T h p1440.ps (by omega) (by omega) (by omega) (fun _ h => hT _ (p1440.1.1.tr h))) (fun r1442 κ1443 h1444 => ?_) (fun _ h => h)
      obtain ⟨q1449, a1451, g1450, n1452⟩ := h1444
      have l1453 := q1449.l19
      have p1454 : TR (-1) (0) 0 0 0 (-1) μ κ1443 := p1440.trS q1449 (Or.inl (by decide)) rfl rfl rfl rfl (by omega)
      have nd1455 := nd1438.tr q1449 (by have := @ic s; omega) (by omega)
      have lt1456 : s.toInt < (κ1443.1 19).toInt := by omega
      have k1457 : Kd κ1443 h s.toInt s 1 r1442 := Kd.of g1450 (by omega) (Int.le_refl _) s0 (Or.inl (by omega))
      have g1458 : TR s.toInt 0 0 0 0 0 κ1443 (mA1 κ1443 22 s.toNatClampNeg r1442) := TR.put p1454.ps s0 rfl rfl
      have e1460 : ((mA1 κ1443 22 s.toNatClampNeg r1442).1 19).toInt = (κ1443.1 19).toInt := rfl
      have e1461 : ((mA1 κ1443 22 s.toNatClampNeg r1442).1 32).toInt = (κ1443.1 32).toInt := rfl
      have sr1463 : srt (mA1 κ1443 22 s.toNatClampNeg r1442) = srt κ1443 := rfl
      have nd1462 := nd1455.pa (x := r1442)
      have p1464 : TR (-1) (0) 0 0 0 (-1) μ (mA1 κ1443 22 s.toNatClampNeg r1442) := p1454.trS g1458 (Or.inr (Or.inr (by omega))) rfl rfl rfl rfl (by omega)
      have k1465 := k1457.tr g1458 (Or.inr rfl) s0
      refine ⟨TR.mi p1454.ps rfl rfl s0 (by omega), ?_⟩
      generalize mA1 κ1443 22 s.toNatClampNeg r1442 = κ1459 at *
      have lt1466 : s.toInt < (κ1459.1 19).toInt := by omega
      refine MC.mono (t_expect (by omega) p1464.ps (by decide) (fun _ h => hT _ (p1464.1.1.tr h))) (fun v1467 κ1472 h1468 => ?_) (fun _ h => h)
      obtain ⟨q1469, m1470, a1471⟩ := h1468
      have p1473 : TR (-1) (0) 0 0 0 (-3) μ κ1472 := p1464.trS q1469 (Or.inl (by decide)) rfl rfl rfl rfl (by omega)
      have k1474 := k1465.tr q1469 (Or.inl (by decide)) s0
      have nd1475 := nd1462.tr q1469 (by have := @ic s; omega) (by omega)
      have lt1476 : s.toInt < (κ1472.1 19).toInt := by omega
      have x1480 := p1473.px
      have u1481 := p1473.2
      have y1482 := tT p1473
      have z1483 := px0 p1473.ps
      refine MC.mono (hSt κ1472 T h p1473.ps (by omega) (by omega) (by omega) (fun _ h => hT _ (p1473.1.1.tr h))) (fun r1477 κ1478 h1479 => ?_) (fun _ h => h)
      obtain ⟨q1484, g1485⟩ := h1479
      have l1486 := q1484.l19
      have p1487 : TR (-1) (0) 0 0 0 (-3) μ κ1478 := p1473.trS q1484 (Or.inl (by decide)) rfl rfl rfl rfl (by omega)
      have k1488 := k1474.tr q1484 (Or.inl (by decide)) s0
      have nd1489 := nd1475.tr q1484 (by have := @ic s; omega) (by omega)
      have lt1490 : s.toInt < (κ1478.1 19).toInt := by omega
      have k1491 : KL κ1478 h s.toInt s 3 r1477 := KL.of g1485 (by omega) (Int.le_refl _) s0 (Or.inl (by omega))
      have g1492 : TR s.toInt 0 0 0 0 0 κ1478 (mA1 κ1478 23 s.toNatClampNeg r1477) := TR.put p1487.ps s0 rfl rfl
      have e1494 : ((mA1 κ1478 23 s.toNatClampNeg r1477).1 19).toInt = (κ1478.1 19).toInt := rfl
      have e1495 : ((mA1 κ1478 23 s.toNatClampNeg r1477).1 32).toInt = (κ1478.1 32).toInt := rfl
      have sr1497 : srt (mA1 κ1478 23 s.toNatClampNeg r1477) = srt κ1478 := rfl
      have nd1496 := nd1489.pb (x := r1477)
      have p1498 : TR (-1) (0) 0 0 0 (-3) μ (mA1 κ1478 23 s.toNatClampNeg r1477) := p1487.trS g1492 (Or.inr (Or.inr (by omega))) rfl rfl rfl rfl (by omega)
      have k1499 := k1488.tr g1492 (Or.inr rfl) s0
      have k1500 := k1491.tr g1492 (Or.inr rfl) s0
      refine ⟨TR.mi p1487.ps rfl rfl s0 (by omega), ?_⟩
      generalize mA1 κ1478 23 s.toNatClampNeg r1477 = κ1493 at *
      have lt1501 : s.toInt < (κ1493.1 19).toInt := by omega
      refine MC.mono (t_expect (by omega) p1498.ps (by decide) (fun _ h => hT _ (p1498.1.1.tr h))) (fun v1502 κ1507 h1503 => ?_) (fun _ h => h)
      obtain ⟨q1504, m1505, a1506⟩ := h1503
      have p1508 : TR (-1) (0) 0 0 0 (-5) μ κ1507 := p1498.trS q1504 (Or.inl (by decide)) rfl rfl rfl rfl (by omega)
      have k1509 := k1499.tr q1504 (Or.inl (by decide)) s0
      have k1510 := k1500.tr q1504 (Or.inl (by decide)) s0
      have nd1511 := nd1496.tr q1504 (by have := @ic s; omega) (by omega)
      have lt1512 : s.toInt < (κ1507.1 19).toInt := by omega
      exact v_statement_553 _ _ ⟨⟨p1508.1, by have := p1508.2; omega⟩, by omega, (G.mk (lo := s.toInt) s0 (Int.le_refl _) lt1512 nd1511 (by decide) (k1509) (k1510) True.intro True.intro True.intro : G κ1507 (h + 1) (bt s.toInt (κ1507.1 19).toInt) 3 s).up (Nat.le_refl _) (by omega) (Int.le_refl _), nd1511.2.2.2.2.2.2⟩
    · skip
      have g1513 : TR s.toInt 0 0 0 0 0 κ (mA1 κ 20 s.toNatClampNeg 59) := TR.put p0.ps s0 rfl rfl
      have e1515 : ((mA1 κ 20 s.toNatClampNeg 59).1 19).toInt = (κ.1 19).toInt := rfl
      have e1516 : ((mA1 κ 20 s.toNatClampNeg 59).1 32).toInt = (κ.1 32).toInt := rfl
      have sr1518 : srt (mA1 κ 20 s.toNatClampNeg 59) = srt κ := rfl
      have nd1517 := nd0.pk (x := 59)
      have p1519 : TR (-1) (0) 0 0 0 (-1) μ (mA1 κ 20 s.toNatClampNeg 59) := p0.trS g1513 (Or.inr (Or.inr (by omega))) rfl rfl rfl rfl (by omega)
      refine ⟨TR.mi p0.ps rfl rfl s0 (by omega), ?_⟩
      generalize mA1 κ 20 s.toNatClampNeg 59 = κ1514 at *
      have lt1520 : s.toInt < (κ1514.1 19).toInt := by omega
      have x1524 := p1519.px
      have u1525 := p1519.2
      have y1526 := tT p1519
      have z1527 := px0 p1519.ps
      refine MC.mono (hE κ1514 T h p1519.ps (by omega) (by omega) (by omega) (fun _ h => hT _ (p1519.1.1.tr h))) (fun r1521 κ1522 h1523 => ?_) (fun _ h => h)
      obtain ⟨q1528, a1530, g1529, n1531⟩ := h1523
      have l1532 := q1528.l19
      have p1533 : TR (-1) (0) 0 0 0 (-1) μ κ1522 := p1519.trS q1528 (Or.inl (by decide)) rfl rfl rfl rfl (by omega)
      have nd1534 := nd1517.tr q1528 (by have := @ic s; omega) (by omega)
      have lt1535 : s.toInt < (κ1522.1 19).toInt := by omega
      have k1536 : Kd κ1522 h s.toInt s 1 r1521 := Kd.of g1529 (by omega) (Int.le_refl _) s0 (Or.inl (by omega))
      have g1537 : TR s.toInt 0 0 0 0 0 κ1522 (mA1 κ1522 22 s.toNatClampNeg r1521) := TR.put p1533.ps s0 rfl rfl
      have e1539 : ((mA1 κ1522 22 s.toNatClampNeg r1521).1 19).toInt = (κ1522.1 19).toInt := rfl
      have e1540 : ((mA1 κ1522 22 s.toNatClampNeg r1521).1 32).toInt = (κ1522.1 32).toInt := rfl
      have sr1542 : srt (mA1 κ1522 22 s.toNatClampNeg r1521) = srt κ1522 := rfl
      have nd1541 := nd1534.pa (x := r1521)
      have p1543 : TR (-1) (0) 0 0 0 (-1) μ (mA1 κ1522 22 s.toNatClampNeg r1521) := p1533.trS g1537 (Or.inr (Or.inr (by omega))) rfl rfl rfl rfl (by omega)
      have k1544 := k1536.tr g1537 (Or.inr rfl) s0
      refine ⟨TR.mi p1533.ps rfl rfl s0 (by omega), ?_⟩
      generalize mA1 κ1522 22 s.toNatClampNeg r1521 = κ1538 at *
      have lt1545 : s.toInt < (κ1538.1 19).toInt := by omega
      exact v_statement_553 _ _ ⟨⟨p1543.1, by have := p1543.2; omega⟩, by omega, (G.mk (lo := s.toInt) s0 (Int.le_refl _) lt1545 nd1541 (by decide) (k1544) True.intro True.intro True.intro True.intro : G κ1538 (h + 1) (bt s.toInt (κ1538.1 19).toInt) 3 s).up (Nat.le_refl _) (by omega) (Int.le_refl _), nd1541.2.2.2.2.2.2⟩
    · skip
      have g1546 : TR s.toInt 0 0 0 0 0 κ (mA1 κ 20 s.toNatClampNeg 58) := TR.put p0.ps s0 rfl rfl
      have e1548 : ((mA1 κ 20 s.toNatClampNeg 58).1 19).toInt = (κ.1 19).toInt := rfl
      have e1549 : ((mA1 κ 20 s.toNatClampNeg 58).1 32).toInt = (κ.1 32).toInt := rfl
      have sr1551 : srt (mA1 κ 20 s.toNatClampNeg 58) = srt κ := rfl
      have nd1550 := nd0.pk (x := 58)
      have p1552 : TR (-1) (0) 0 0 0 (-1) μ (mA1 κ 20 s.toNatClampNeg 58) := p0.trS g1546 (Or.inr (Or.inr (by omega))) rfl rfl rfl rfl (by omega)
      refine ⟨TR.mi p0.ps rfl rfl s0 (by omega), ?_⟩
      generalize mA1 κ 20 s.toNatClampNeg 58 = κ1547 at *
      have lt1553 : s.toInt < (κ1547.1 19).toInt := by omega
      have x1557 := p1552.px
      have u1558 := p1552.2
      have y1559 := tT p1552
      have z1560 := px0 p1552.ps
      refine MC.mono (hE κ1547 T h p1552.ps (by omega) (by omega) (by omega) (fun _ h => hT _ (p1552.1.1.tr h))) (fun r1554 κ1555 h1556 => ?_) (fun _ h => h)
      obtain ⟨q1561, a1563, g1562, n1564⟩ := h1556
      have l1565 := q1561.l19
      have p1566 : TR (-1) (0) 0 0 0 (-1) μ κ1555 := p1552.trS q1561 (Or.inl (by decide)) rfl rfl rfl rfl (by omega)
      have nd1567 := nd1550.tr q1561 (by have := @ic s; omega) (by omega)
      have lt1568 : s.toInt < (κ1555.1 19).toInt := by omega
      have k1569 : Kd κ1555 h s.toInt s 1 r1554 := Kd.of g1562 (by omega) (Int.le_refl _) s0 (Or.inl (by omega))
      have g1570 : TR s.toInt 0 0 0 0 0 κ1555 (mA1 κ1555 22 s.toNatClampNeg r1554) := TR.put p1566.ps s0 rfl rfl
      have e1572 : ((mA1 κ1555 22 s.toNatClampNeg r1554).1 19).toInt = (κ1555.1 19).toInt := rfl
      have e1573 : ((mA1 κ1555 22 s.toNatClampNeg r1554).1 32).toInt = (κ1555.1 32).toInt := rfl
      have sr1575 : srt (mA1 κ1555 22 s.toNatClampNeg r1554) = srt κ1555 := rfl
      have nd1574 := nd1567.pa (x := r1554)
      have p1576 : TR (-1) (0) 0 0 0 (-1) μ (mA1 κ1555 22 s.toNatClampNeg r1554) := p1566.trS g1570 (Or.inr (Or.inr (by omega))) rfl rfl rfl rfl (by omega)
      have k1577 := k1569.tr g1570 (Or.inr rfl) s0
      refine ⟨TR.mi p1566.ps rfl rfl s0 (by omega), ?_⟩
      generalize mA1 κ1555 22 s.toNatClampNeg r1554 = κ1571 at *
      have lt1578 : s.toInt < (κ1571.1 19).toInt := by omega
      exact v_statement_553 _ _ ⟨⟨p1576.1, by have := p1576.2; omega⟩, by omega, (G.mk (lo := s.toInt) s0 (Int.le_refl _) lt1578 nd1574 (by decide) (k1577) True.intro True.intro True.intro True.intro : G κ1571 (h + 1) (bt s.toInt (κ1571.1 19).toInt) 3 s).up (Nat.le_refl _) (by omega) (Int.le_refl _), nd1574.2.2.2.2.2.2⟩
    · skip
      have g1579 : TR s.toInt 0 0 0 0 0 κ (mA1 κ 20 s.toNatClampNeg 57) := TR.put p0.ps s0 rfl rfl
      have e1581 : ((mA1 κ 20 s.toNatClampNeg 57).1 19).toInt = (κ.1 19).toInt := rfl
      have e1582 : ((mA1 κ 20 s.toNatClampNeg 57).1 32).toInt = (κ.1 32).toInt := rfl
      have sr1584 : srt (mA1 κ 20 s.toNatClampNeg 57) = srt κ := rfl
      have nd1583 := nd0.pk (x := 57)
      have p1585 : TR (-1) (0) 0 0 0 (-1) μ (mA1 κ 20 s.toNatClampNeg 57) := p0.trS g1579 (Or.inr (Or.inr (by omega))) rfl rfl rfl rfl (by omega)
      refine ⟨TR.mi p0.ps rfl rfl s0 (by omega), ?_⟩
      generalize mA1 κ 20 s.toNatClampNeg 57 = κ1580 at *
      have lt1586 : s.toInt < (κ1580.1 19).toInt := by omega
      have x1590 := p1585.px
      have u1591 := p1585.2
      have y1592 := tT p1585
      have z1593 := px0 p1585.ps
      refine MC.mono (hE κ1580 T h p1585.ps (by omega) (by omega) (by omega) (fun _ h => hT _ (p1585.1.1.tr h))) (fun r1587 κ1588 h1589 => ?_) (fun _ h => h)
      obtain ⟨q1594, a1596, g1595, n1597⟩ := h1589
      have l1598 := q1594.l19
      have p1599 : TR (-1) (0) 0 0 0 (-1) μ κ1588 := p1585.trS q1594 (Or.inl (by decide)) rfl rfl rfl rfl (by omega)
      have nd1600 := nd1583.tr q1594 (by have := @ic s; omega) (by omega)
      have lt1601 : s.toInt < (κ1588.1 19).toInt := by omega
      have k1602 : Kd κ1588 h s.toInt s 1 r1587 := Kd.of g1595 (by omega) (Int.le_refl _) s0 (Or.inl (by omega))
      have g1603 : TR s.toInt 0 0 0 0 0 κ1588 (mA1 κ1588 22 s.toNatClampNeg r1587) := TR.put p1599.ps s0 rfl rfl
      have e1605 : ((mA1 κ1588 22 s.toNatClampNeg r1587).1 19).toInt = (κ1588.1 19).toInt := rfl
      have e1606 : ((mA1 κ1588 22 s.toNatClampNeg r1587).1 32).toInt = (κ1588.1 32).toInt := rfl
      have sr1608 : srt (mA1 κ1588 22 s.toNatClampNeg r1587) = srt κ1588 := rfl
      have nd1607 := nd1600.pa (x := r1587)
      have p1609 : TR (-1) (0) 0 0 0 (-1) μ (mA1 κ1588 22 s.toNatClampNeg r1587) := p1599.trS g1603 (Or.inr (Or.inr (by omega))) rfl rfl rfl rfl (by omega)
      have k1610 := k1602.tr g1603 (Or.inr rfl) s0
      refine ⟨TR.mi p1599.ps rfl rfl s0 (by omega), ?_⟩
      generalize mA1 κ1588 22 s.toNatClampNeg r1587 = κ1604 at *
      have lt1611 : s.toInt < (κ1604.1 19).toInt := by omega
      exact v_statement_553 _ _ ⟨⟨p1609.1, by have := p1609.2; omega⟩, by omega, (G.mk (lo := s.toInt) s0 (Int.le_refl _) lt1611 nd1607 (by decide) (k1610) True.intro True.intro True.intro True.intro : G κ1604 (h + 1) (bt s.toInt (κ1604.1 19).toInt) 3 s).up (Nat.le_refl _) (by omega) (Int.le_refl _), nd1607.2.2.2.2.2.2⟩
    · skip
      have g1612 : TR s.toInt 0 0 0 0 0 κ (mA1 κ 20 s.toNatClampNeg 56) := TR.put p0.ps s0 rfl rfl
      have e1614 : ((mA1 κ 20 s.toNatClampNeg 56).1 19).toInt = (κ.1 19).toInt := rfl
      have e1615 : ((mA1 κ 20 s.toNatClampNeg 56).1 32).toInt = (κ.1 32).toInt := rfl
      have sr1617 : srt (mA1 κ 20 s.toNatClampNeg 56) = srt κ := rfl
      have nd1616 := nd0.pk (x := 56)
      have p1618 : TR (-1) (0) 0 0 0 (-1) μ (mA1 κ 20 s.toNatClampNeg 56) := p0.trS g1612 (Or.inr (Or.inr (by omega))) rfl rfl rfl rfl (by omega)
      refine ⟨TR.mi p0.ps rfl rfl s0 (by omega), ?_⟩
      generalize mA1 κ 20 s.toNatClampNeg 56 = κ1613 at *
      have lt1619 : s.toInt < (κ1613.1 19).toInt := by omega
      have x1623 := p1618.px
      have u1624 := p1618.2
      have y1625 := tT p1618
      have z1626 := px0 p1618.ps
      refine MC.mono (hE κ1613 T h p1618.ps (by omega) (by omega) (by omega) (fun _ h => hT _ (p1618.1.1.tr h))) (fun r1620 κ1621 h1622 => ?_) (fun _ h => h)
      obtain ⟨q1627, a1629, g1628, n1630⟩ := h1622
      have l1631 := q1627.l19
      have p1632 : TR (-1) (0) 0 0 0 (-1) μ κ1621 := p1618.trS q1627 (Or.inl (by decide)) rfl rfl rfl rfl (by omega)
      have nd1633 := nd1616.tr q1627 (by have := @ic s; omega) (by omega)
      have lt1634 : s.toInt < (κ1621.1 19).toInt := by omega
      have k1635 : Kd κ1621 h s.toInt s 1 r1620 := Kd.of g1628 (by omega) (Int.le_refl _) s0 (Or.inl (by omega))
      have g1636 : TR s.toInt 0 0 0 0 0 κ1621 (mA1 κ1621 22 s.toNatClampNeg r1620) := TR.put p1632.ps s0 rfl rfl
      have e1638 : ((mA1 κ1621 22 s.toNatClampNeg r1620).1 19).toInt = (κ1621.1 19).toInt := rfl
      have e1639 : ((mA1 κ1621 22 s.toNatClampNeg r1620).1 32).toInt = (κ1621.1 32).toInt := rfl
      have sr1641 : srt (mA1 κ1621 22 s.toNatClampNeg r1620) = srt κ1621 := rfl
      have nd1640 := nd1633.pa (x := r1620)
      have p1642 : TR (-1) (0) 0 0 0 (-1) μ (mA1 κ1621 22 s.toNatClampNeg r1620) := p1632.trS g1636 (Or.inr (Or.inr (by omega))) rfl rfl rfl rfl (by omega)
      have k1643 := k1635.tr g1636 (Or.inr rfl) s0
      refine ⟨TR.mi p1632.ps rfl rfl s0 (by omega), ?_⟩
      generalize mA1 κ1621 22 s.toNatClampNeg r1620 = κ1637 at *
      have lt1644 : s.toInt < (κ1637.1 19).toInt := by omega
      exact v_statement_553 _ _ ⟨⟨p1642.1, by have := p1642.2; omega⟩, by omega, (G.mk (lo := s.toInt) s0 (Int.le_refl _) lt1644 nd1640 (by decide) (k1643) True.intro True.intro True.intro True.intro : G κ1637 (h + 1) (bt s.toInt (κ1637.1 19).toInt) 3 s).up (Nat.le_refl _) (by omega) (Int.le_refl _), nd1640.2.2.2.2.2.2⟩
  · obtain ⟨z1, z2, z3⟩ := hk
    have l1 := z1.l32
    have l2 := z1.l19
    have u1 := z1.2
    exact ⟨q1.tr z1 (Or.inr (by omega)) rfl rfl rfl rfl (by omega), by omega, z2.up (Nat.le_refl _) (by omega) (Int.le_refl _), z3⟩
end PSJ
section PSK
variable {X : ev_X} {W : Nat → Prop} {P : MP}
def StA (X : ev_X) (W : Nat → Prop) (P : MP) (d : Nat) : Prop := (SL X W P 321 [] 3 19 11 d ∧ SC X W P 322 3 22 14 d ∧ ArC X W P d) ∧ (FiC X W P 324 0 0 d ∧ FiC X W P 325 0 0 d ∧ FiC X W P 327 0 0 d ∧ FiC X W P 329 1 1 d) ∧ OtC X W P d ∧ SL X W P 328 [.int 52] 14 20 12 d ∧ SL X W P 328 [.int 61] 15 20 12 d
theorem SL.z {k : Nat} {as : List Value} {s : Nat} {rd rh : Int} (h : 0 < rd) : SL X W P k as s rd rh 0 := fun μ T h hS hd => by have := px0 hS; omega
theorem FiC.z {k : Nat} {up dn : Int} : FiC X W P k up dn 0 := fun μ T h s hS hd => by have := px0 hS; omega
theorem stm_all : ∀ d : Nat, StA X W P d
  | 0 => ⟨⟨SL.z (by decide), fun μ T h hS hd => by have := px0 hS; omega, fun μ T h hS hd => by have := px0 hS; omega⟩, ⟨FiC.z, FiC.z, FiC.z, FiC.z⟩, fun μ T h s k a b hS hd => by have := px0 hS; omega, SL.z (by decide), SL.z (by decide)⟩
  | d + 1 => by
    obtain ⟨⟨a1, a2, a3⟩, ⟨b1, b2, b3, b4⟩, c1, c2, c3⟩ := stm_all d
    obtain ⟨⟨e1, -⟩, -, -, e2, e3⟩ := (ex_all d : ExA X W P d)
    exact ⟨⟨st_statements a2, st_statement e1 a1 a3 b1 b2 b3 b4, st_arms e1 a1⟩, ⟨st_for e1 a1, st_try a1 c2 c1, st_typecase e1 c3 c1, st_byPlace e2 e3 e1⟩, st_otherwise a1, st_cases52 a1, st_cases61 (ty_all d).1 a1⟩
end PSK
