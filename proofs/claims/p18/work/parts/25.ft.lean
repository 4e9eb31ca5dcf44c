abbrev ev_C0 : Type := Nat × ev_Cd
abbrev ev_C1 : Type := ev_C0 × ev_C0
abbrev ev_C2 : Type := ev_C1 × ev_C1
abbrev ev_C3 : Type := ev_C2 × ev_C2
abbrev ev_C4 : Type := ev_C3 × ev_C3
abbrev ev_C5 : Type := ev_C4 × ev_C4
abbrev ev_C6 : Type := ev_C5 × ev_C5
abbrev ev_C7 : Type := ev_C6 × ev_C6
noncomputable def ev_cT0 : ev_C4 := (((((1, cl_0), (6, cl_1)), ((3, cl_2), (2, cl_3))), (((5, cl_4), (2, cl_5)), ((2, cl_6), (5, cl_7)))), ((((7, cl_8), (5, cl_9)), ((5, cl_10), (1, cl_11))), (((1, cl_12), (1, cl_13)), ((5, cl_14), (3, cl_15)))))
noncomputable def ev_cT1 : ev_C4 := (((((4, cl_16), (3, cl_17)), ((3, cl_18), (1, cl_19))), (((1, cl_20), (4, cl_21)), ((0, []), (6, cl_23)))), ((((5, cl_24), (4, cl_25)), ((0, []), (2, cl_27))), (((1, cl_28), (1, cl_29)), ((2, cl_30), (1, cl_31)))))
noncomputable def ev_cT2 : ev_C4 := (((((2, cl_32), (2, cl_33)), ((2, cl_34), (2, cl_35))), (((2, cl_36), (4, cl_37)), ((3, cl_38), (3, cl_39)))), ((((5, cl_40), (2, cl_41)), ((2, cl_42), (2, cl_43))), (((1, cl_44), (5, cl_45)), ((2, cl_46), (3, cl_47)))))
noncomputable def ev_cT3 : ev_C4 := (((((3, cl_48), (7, cl_49)), ((1, cl_50), (3, cl_51))), (((6, cl_52), (2, cl_53)), ((2, cl_54), (2, cl_55)))), ((((3, cl_56), (6, cl_57)), ((5, cl_58), (1, cl_59))), (((5, cl_60), (2, cl_61)), ((3, cl_62), (4, cl_63)))))
noncomputable def ev_cT4 : ev_C4 := (((((3, cl_64), (4, cl_65)), ((3, cl_66), (3, cl_67))), (((4, cl_68), (3, cl_69)), ((3, cl_70), (3, cl_71)))), ((((6, cl_72), (7, cl_73)), ((3, cl_74), (6, cl_75))), (((6, cl_76), (5, cl_77)), ((1, cl_78), (4, cl_79)))))
noncomputable def ev_cT5 : ev_C4 := (((((3, cl_80), (3, cl_81)), ((3, cl_82), (6, cl_83))), (((4, cl_84), (4, cl_85)), ((5, cl_86), (11, cl_87)))), ((((1, cl_88), (6, cl_89)), ((4, cl_90), (2, cl_91))), (((2, cl_92), (4, cl_93)), ((4, cl_94), (6, cl_95)))))
noncomputable def ev_cT6 : ev_C4 := (((((3, cl_96), (5, cl_97)), ((4, cl_98), (3, cl_99))), (((2, cl_100), (3, cl_101)), ((5, cl_102), (4, cl_103)))), ((((3, cl_104), (2, cl_105)), ((5, cl_106), (5, cl_107))), (((5, cl_108), (2, cl_109)), ((3, cl_110), (4, cl_111)))))
noncomputable def ev_cT7 : ev_C4 := (((((1, cl_112), (1, cl_113)), ((5, cl_114), (5, cl_115))), (((5, cl_116), (5, cl_117)), ((4, cl_118), (0, [])))), ((((0, []), (0, [])), ((0, []), (0, []))), (((0, []), (0, [])), ((0, []), (0, [])))))
noncomputable def ev_cT : ev_C7 := (((ev_cT0, ev_cT1), (ev_cT2, ev_cT3)), ((ev_cT4, ev_cT5), (ev_cT6, ev_cT7)))
noncomputable def ev_cd (k : Nat) : Nat × ev_Cd := bif Nat.ble k (nat_lit 127) then ev_sl (nat_lit 1) (ev_sl (nat_lit 2) (ev_sl (nat_lit 4) (ev_sl (nat_lit 8) (ev_sl (nat_lit 16) (ev_sl (nat_lit 32) (ev_sl (nat_lit 64) (ev_cT) k) k) k) k) k) k) k else (0, [])
def ev_cQ (k : Nat) : Prop := (ev_cd k).1 ≤ 32 ∧ (ev_cd k).1 ≤ (ev_ms k).2.2.2.1 ∧ ∀ q ∈ (ev_cd k).2, ∀ x ∈ q.2, ev_okk ev_tl ev_oc ev_df ev_ms ev_tb k x
theorem ev_cq0 {k : Nat} (h : ev_cd k = (0, [])) : ev_cQ k := by
  unfold ev_cQ
  rw [h]
  exact ⟨Nat.zero_le _, Nat.zero_le _, fun q hq => by cases hq⟩
theorem ev_cq {k : Nat} {m : ev_M} {tbk : Nat → Option ev_I} {c : Nat × ev_Cd} (hc : ev_cd k = c) (hm : ev_ms k = m) (ht : ∀ pc, ev_tb k pc = tbk pc) (h : ev_cP m k tbk c) : ev_cQ k := by
  unfold ev_cQ
  rw [hc, hm]
  refine ⟨h.1, h.2.1, fun q hq x hx => ?_⟩
  obtain ⟨e, h1, h2⟩ := h.2.2 q hq x hx
  refine ⟨e, (ht _).trans h1, ?_⟩
  rw [hm]
  exact h2
theorem ev_bt {P : Nat → Prop} {lo hi : Nat} (h0 : P lo) (h : ∀ k, lo + 1 ≤ k → k < hi → P k) : ∀ k, lo ≤ k → k < hi → P k := fun k h1 h2 => (Nat.eq_or_lt_of_le h1).elim (fun e => e ▸ h0) (fun h3 => h k h3 h2)
theorem fq_0 : ev_cQ 0 := ev_cq rfl rfl (fun _ => rfl) fm_0
theorem fq_1 : ev_cQ 1 := ev_cq rfl rfl (fun _ => rfl) fm_1
theorem fq_2 : ev_cQ 2 := ev_cq rfl rfl (fun _ => rfl) fm_2
theorem fq_3 : ev_cQ 3 := ev_cq rfl rfl (fun _ => rfl) fm_3
theorem fq_4 : ev_cQ 4 := ev_cq rfl rfl (fun _ => rfl) fm_4
theorem fq_5 : ev_cQ 5 := ev_cq rfl rfl (fun _ => rfl) fm_5
theorem fq_6 : ev_cQ 6 := ev_cq rfl rfl (fun _ => rfl) fm_6
theorem fq_7 : ev_cQ 7 := ev_cq rfl rfl (fun _ => rfl) fm_7
theorem fq_8 : ev_cQ 8 := ev_cq rfl rfl (fun _ => rfl) fm_8
theorem fq_9 : ev_cQ 9 := ev_cq rfl rfl (fun _ => rfl) fm_9
theorem fq_10 : ev_cQ 10 := ev_cq rfl rfl (fun _ => rfl) fm_10
theorem fq_11 : ev_cQ 11 := ev_cq rfl rfl (fun _ => rfl) fm_11
theorem fq_12 : ev_cQ 12 := ev_cq rfl rfl (fun _ => rfl) fm_12
theorem fq_13 : ev_cQ 13 := ev_cq rfl rfl (fun _ => rfl) fm_13
theorem fq_14 : ev_cQ 14 := ev_cq rfl rfl (fun _ => rfl) fm_14
theorem fq_15 : ev_cQ 15 := ev_cq rfl rfl (fun _ => rfl) fm_15
theorem fq_16 : ev_cQ 16 := ev_cq rfl rfl (fun _ => rfl) fm_16
theorem fq_17 : ev_cQ 17 := ev_cq rfl rfl (fun _ => rfl) fm_17
theorem fq_18 : ev_cQ 18 := ev_cq rfl rfl (fun _ => rfl) fm_18
theorem fq_19 : ev_cQ 19 := ev_cq rfl rfl (fun _ => rfl) fm_19
theorem fq_20 : ev_cQ 20 := ev_cq rfl rfl (fun _ => rfl) fm_20
theorem fq_21 : ev_cQ 21 := ev_cq rfl rfl (fun _ => rfl) fm_21
theorem fq_22 : ev_cQ 22 := ev_cq0 rfl
theorem fq_23 : ev_cQ 23 := ev_cq rfl rfl (fun _ => rfl) fm_23
theorem fq_24 : ev_cQ 24 := ev_cq rfl rfl (fun _ => rfl) fm_24
theorem fq_25 : ev_cQ 25 := ev_cq rfl rfl (fun _ => rfl) fm_25
theorem fq_26 : ev_cQ 26 := ev_cq0 rfl
theorem fq_27 : ev_cQ 27 := ev_cq rfl rfl (fun _ => rfl) fm_27
theorem fq_28 : ev_cQ 28 := ev_cq rfl rfl (fun _ => rfl) fm_28
theorem fq_29 : ev_cQ 29 := ev_cq rfl rfl (fun _ => rfl) fm_29
theorem fq_30 : ev_cQ 30 := ev_cq rfl rfl (fun _ => rfl) fm_30
theorem fq_31 : ev_cQ 31 := ev_cq rfl rfl (fun _ => rfl) fm_31
theorem fq_32 : ev_cQ 32 := ev_cq rfl rfl (fun _ => rfl) fm_32
theorem fq_33 : ev_cQ 33 := ev_cq rfl rfl (fun _ => rfl) fm_33
theorem fq_34 : ev_cQ 34 := ev_cq rfl rfl (fun _ => rfl) fm_34
theorem fq_35 : ev_cQ 35 := ev_cq rfl rfl (fun _ => rfl) fm_35
theorem fq_36 : ev_cQ 36 := ev_cq rfl rfl (fun _ => rfl) fm_36
theorem fq_37 : ev_cQ 37 := ev_cq rfl rfl (fun _ => rfl) fm_37
theorem fq_38 : ev_cQ 38 := ev_cq rfl rfl (fun _ => rfl) fm_38
theorem fq_39 : ev_cQ 39 := ev_cq rfl rfl (fun _ => rfl) fm_39
theorem fq_40 : ev_cQ 40 := ev_cq rfl rfl (fun _ => rfl) fm_40
theorem fq_41 : ev_cQ 41 := ev_cq rfl rfl (fun _ => rfl) fm_41
theorem fq_42 : ev_cQ 42 := ev_cq rfl rfl (fun _ => rfl) fm_42
theorem fq_43 : ev_cQ 43 := ev_cq rfl rfl (fun _ => rfl) fm_43
theorem fq_44 : ev_cQ 44 := ev_cq rfl rfl (fun _ => rfl) fm_44
theorem fq_45 : ev_cQ 45 := ev_cq rfl rfl (fun _ => rfl) fm_45
theorem fq_46 : ev_cQ 46 := ev_cq rfl rfl (fun _ => rfl) fm_46
theorem fq_47 : ev_cQ 47 := ev_cq rfl rfl (fun _ => rfl) fm_47
theorem fq_48 : ev_cQ 48 := ev_cq rfl rfl (fun _ => rfl) fm_48
theorem fq_49 : ev_cQ 49 := ev_cq rfl rfl (fun _ => rfl) fm_49
theorem fq_50 : ev_cQ 50 := ev_cq rfl rfl (fun _ => rfl) fm_50
theorem fq_51 : ev_cQ 51 := ev_cq rfl rfl (fun _ => rfl) fm_51
theorem fq_52 : ev_cQ 52 := ev_cq rfl rfl (fun _ => rfl) fm_52
theorem fq_53 : ev_cQ 53 := ev_cq rfl rfl (fun _ => rfl) fm_53
theorem fq_54 : ev_cQ 54 := ev_cq rfl rfl (fun _ => rfl) fm_54
theorem fq_55 : ev_cQ 55 := ev_cq rfl rfl (fun _ => rfl) fm_55
theorem fq_56 : ev_cQ 56 := ev_cq rfl rfl (fun _ => rfl) fm_56
theorem fq_57 : ev_cQ 57 := ev_cq rfl rfl (fun _ => rfl) fm_57
theorem fq_58 : ev_cQ 58 := ev_cq rfl rfl (fun _ => rfl) fm_58
theorem fq_59 : ev_cQ 59 := ev_cq rfl rfl (fun _ => rfl) fm_59
theorem fq_60 : ev_cQ 60 := ev_cq rfl rfl (fun _ => rfl) fm_60
theorem fq_61 : ev_cQ 61 := ev_cq rfl rfl (fun _ => rfl) fm_61
theorem fq_62 : ev_cQ 62 := ev_cq rfl rfl (fun _ => rfl) fm_62
theorem fq_63 : ev_cQ 63 := ev_cq rfl rfl (fun _ => rfl) fm_63
theorem fq_64 : ev_cQ 64 := ev_cq rfl rfl (fun _ => rfl) fm_64
theorem fq_65 : ev_cQ 65 := ev_cq rfl rfl (fun _ => rfl) fm_65
theorem fq_66 : ev_cQ 66 := ev_cq rfl rfl (fun _ => rfl) fm_66
theorem fq_67 : ev_cQ 67 := ev_cq rfl rfl (fun _ => rfl) fm_67
theorem fq_68 : ev_cQ 68 := ev_cq rfl rfl (fun _ => rfl) fm_68
theorem fq_69 : ev_cQ 69 := ev_cq rfl rfl (fun _ => rfl) fm_69
theorem fq_70 : ev_cQ 70 := ev_cq rfl rfl (fun _ => rfl) fm_70
theorem fq_71 : ev_cQ 71 := ev_cq rfl rfl (fun _ => rfl) fm_71
theorem fq_72 : ev_cQ 72 := ev_cq rfl rfl (fun _ => rfl) fm_72
theorem fq_73 : ev_cQ 73 := ev_cq rfl rfl (fun _ => rfl) fm_73
theorem fq_74 : ev_cQ 74 := ev_cq rfl rfl (fun _ => rfl) fm_74
theorem fq_75 : ev_cQ 75 := ev_cq rfl rfl (fun _ => rfl) fm_75
theorem fq_76 : ev_cQ 76 := ev_cq rfl rfl (fun _ => rfl) fm_76
theorem fq_77 : ev_cQ 77 := ev_cq rfl rfl (fun _ => rfl) fm_77
theorem fq_78 : ev_cQ 78 := ev_cq rfl rfl (fun _ => rfl) fm_78
theorem fq_79 : ev_cQ 79 := ev_cq rfl rfl (fun _ => rfl) fm_79
theorem fq_80 : ev_cQ 80 := ev_cq rfl rfl (fun _ => rfl) fm_80
theorem fq_81 : ev_cQ 81 := ev_cq rfl rfl (fun _ => rfl) fm_81
theorem fq_82 : ev_cQ 82 := ev_cq rfl rfl (fun _ => rfl) fm_82
theorem fq_83 : ev_cQ 83 := ev_cq rfl rfl (fun _ => rfl) fm_83
theorem fq_84 : ev_cQ 84 := ev_cq rfl rfl (fun _ => rfl) fm_84
theorem fq_85 : ev_cQ 85 := ev_cq rfl rfl (fun _ => rfl) fm_85
theorem fq_86 : ev_cQ 86 := ev_cq rfl rfl (fun _ => rfl) fm_86
theorem fq_87 : ev_cQ 87 := ev_cq rfl rfl (fun _ => rfl) fm_87
theorem fq_88 : ev_cQ 88 := ev_cq rfl rfl (fun _ => rfl) fm_88
theorem fq_89 : ev_cQ 89 := ev_cq rfl rfl (fun _ => rfl) fm_89
theorem fq_90 : ev_cQ 90 := ev_cq rfl rfl (fun _ => rfl) fm_90
theorem fq_91 : ev_cQ 91 := ev_cq rfl rfl (fun _ => rfl) fm_91
theorem fq_92 : ev_cQ 92 := ev_cq rfl rfl (fun _ => rfl) fm_92
theorem fq_93 : ev_cQ 93 := ev_cq rfl rfl (fun _ => rfl) fm_93
theorem fq_94 : ev_cQ 94 := ev_cq rfl rfl (fun _ => rfl) fm_94
theorem fq_95 : ev_cQ 95 := ev_cq rfl rfl (fun _ => rfl) fm_95
theorem fq_96 : ev_cQ 96 := ev_cq rfl rfl (fun _ => rfl) fm_96
theorem fq_97 : ev_cQ 97 := ev_cq rfl rfl (fun _ => rfl) fm_97
theorem fq_98 : ev_cQ 98 := ev_cq rfl rfl (fun _ => rfl) fm_98
theorem fq_99 : ev_cQ 99 := ev_cq rfl rfl (fun _ => rfl) fm_99
theorem fq_100 : ev_cQ 100 := ev_cq rfl rfl (fun _ => rfl) fm_100
theorem fq_101 : ev_cQ 101 := ev_cq rfl rfl (fun _ => rfl) fm_101
theorem fq_102 : ev_cQ 102 := ev_cq rfl rfl (fun _ => rfl) fm_102
theorem fq_103 : ev_cQ 103 := ev_cq rfl rfl (fun _ => rfl) fm_103
theorem fq_104 : ev_cQ 104 := ev_cq rfl rfl (fun _ => rfl) fm_104
theorem fq_105 : ev_cQ 105 := ev_cq rfl rfl (fun _ => rfl) fm_105
theorem fq_106 : ev_cQ 106 := ev_cq rfl rfl (fun _ => rfl) fm_106
theorem fq_107 : ev_cQ 107 := ev_cq rfl rfl (fun _ => rfl) fm_107
theorem fq_108 : ev_cQ 108 := ev_cq rfl rfl (fun _ => rfl) fm_108
theorem fq_109 : ev_cQ 109 := ev_cq rfl rfl (fun _ => rfl) fm_109
theorem fq_110 : ev_cQ 110 := ev_cq rfl rfl (fun _ => rfl) fm_110
theorem fq_111 : ev_cQ 111 := ev_cq rfl rfl (fun _ => rfl) fm_111
theorem fq_112 : ev_cQ 112 := ev_cq rfl rfl (fun _ => rfl) fm_112
theorem fq_113 : ev_cQ 113 := ev_cq rfl rfl (fun _ => rfl) fm_113
theorem fq_114 : ev_cQ 114 := ev_cq rfl rfl (fun _ => rfl) fm_114
theorem fq_115 : ev_cQ 115 := ev_cq rfl rfl (fun _ => rfl) fm_115
theorem fq_116 : ev_cQ 116 := ev_cq rfl rfl (fun _ => rfl) fm_116
theorem fq_117 : ev_cQ 117 := ev_cq rfl rfl (fun _ => rfl) fm_117
theorem fq_118 : ev_cQ 118 := ev_cq rfl rfl (fun _ => rfl) fm_118
theorem fq_119 : ev_cQ 119 := ev_cq0 rfl
theorem fq_120 : ev_cQ 120 := ev_cq0 rfl
theorem fq_121 : ev_cQ 121 := ev_cq0 rfl
theorem fq_122 : ev_cQ 122 := ev_cq0 rfl
theorem fq_123 : ev_cQ 123 := ev_cq0 rfl
theorem fq_124 : ev_cQ 124 := ev_cq0 rfl
theorem fq_125 : ev_cQ 125 := ev_cq0 rfl
theorem fq_126 : ev_cQ 126 := ev_cq0 rfl
theorem fq_127 : ev_cQ 127 := ev_cq0 rfl
theorem fp_7 : ∀ k, 112 ≤ k → k < 128 → ev_cQ k := ev_bt fq_112 (ev_bt fq_113 (ev_bt fq_114 (ev_bt fq_115 (ev_bt fq_116 (ev_bt fq_117 (ev_bt fq_118 (ev_bt fq_119 (ev_bt fq_120 (ev_bt fq_121 (ev_bt fq_122 (ev_bt fq_123 (ev_bt fq_124 (ev_bt fq_125 (ev_bt fq_126 (ev_bt fq_127 ((fun k h1 h2 => absurd h1 (by omega))))))))))))))))))
theorem fp_6 : ∀ k, 96 ≤ k → k < 128 → ev_cQ k := ev_bt fq_96 (ev_bt fq_97 (ev_bt fq_98 (ev_bt fq_99 (ev_bt fq_100 (ev_bt fq_101 (ev_bt fq_102 (ev_bt fq_103 (ev_bt fq_104 (ev_bt fq_105 (ev_bt fq_106 (ev_bt fq_107 (ev_bt fq_108 (ev_bt fq_109 (ev_bt fq_110 (ev_bt fq_111 (fp_7))))))))))))))))
theorem fp_5 : ∀ k, 80 ≤ k → k < 128 → ev_cQ k := ev_bt fq_80 (ev_bt fq_81 (ev_bt fq_82 (ev_bt fq_83 (ev_bt fq_84 (ev_bt fq_85 (ev_bt fq_86 (ev_bt fq_87 (ev_bt fq_88 (ev_bt fq_89 (ev_bt fq_90 (ev_bt fq_91 (ev_bt fq_92 (ev_bt fq_93 (ev_bt fq_94 (ev_bt fq_95 (fp_6))))))))))))))))
theorem fp_4 : ∀ k, 64 ≤ k → k < 128 → ev_cQ k := ev_bt fq_64 (ev_bt fq_65 (ev_bt fq_66 (ev_bt fq_67 (ev_bt fq_68 (ev_bt fq_69 (ev_bt fq_70 (ev_bt fq_71 (ev_bt fq_72 (ev_bt fq_73 (ev_bt fq_74 (ev_bt fq_75 (ev_bt fq_76 (ev_bt fq_77 (ev_bt fq_78 (ev_bt fq_79 (fp_5))))))))))))))))
theorem fp_3 : ∀ k, 48 ≤ k → k < 128 → ev_cQ k := ev_bt fq_48 (ev_bt fq_49 (ev_bt fq_50 (ev_bt fq_51 (ev_bt fq_52 (ev_bt fq_53 (ev_bt fq_54 (ev_bt fq_55 (ev_bt fq_56 (ev_bt fq_57 (ev_bt fq_58 (ev_bt fq_59 (ev_bt fq_60 (ev_bt fq_61 (ev_bt fq_62 (ev_bt fq_63 (fp_4))))))))))))))))
theorem fp_2 : ∀ k, 32 ≤ k → k < 128 → ev_cQ k := ev_bt fq_32 (ev_bt fq_33 (ev_bt fq_34 (ev_bt fq_35 (ev_bt fq_36 (ev_bt fq_37 (ev_bt fq_38 (ev_bt fq_39 (ev_bt fq_40 (ev_bt fq_41 (ev_bt fq_42 (ev_bt fq_43 (ev_bt fq_44 (ev_bt fq_45 (ev_bt fq_46 (ev_bt fq_47 (fp_3))))))))))))))))
theorem fp_1 : ∀ k, 16 ≤ k → k < 128 → ev_cQ k := ev_bt fq_16 (ev_bt fq_17 (ev_bt fq_18 (ev_bt fq_19 (ev_bt fq_20 (ev_bt fq_21 (ev_bt fq_22 (ev_bt fq_23 (ev_bt fq_24 (ev_bt fq_25 (ev_bt fq_26 (ev_bt fq_27 (ev_bt fq_28 (ev_bt fq_29 (ev_bt fq_30 (ev_bt fq_31 (fp_2))))))))))))))))
theorem fp_0 : ∀ k, 0 ≤ k → k < 128 → ev_cQ k := ev_bt fq_0 (ev_bt fq_1 (ev_bt fq_2 (ev_bt fq_3 (ev_bt fq_4 (ev_bt fq_5 (ev_bt fq_6 (ev_bt fq_7 (ev_bt fq_8 (ev_bt fq_9 (ev_bt fq_10 (ev_bt fq_11 (ev_bt fq_12 (ev_bt fq_13 (ev_bt fq_14 (ev_bt fq_15 (fp_1))))))))))))))))
theorem ev_cd_ok (k : Nat) : (ev_cd k).1 ≤ 32 ∧ (ev_cd k).1 ≤ (ev_ms k).2.2.2.1 ∧ ∀ q ∈ (ev_cd k).2, ∀ x ∈ q.2, ev_okk ev_tl ev_oc ev_df ev_ms ev_tb k x := by
  by_cases h : k < 128
  · exact fp_0 k (Nat.zero_le _) h
  · refine ev_cq0 ?_
    unfold ev_cd
    rw [show Nat.ble k (nat_lit 127) = false by
      cases hb : Nat.ble k (nat_lit 127) with
      | false => rfl
      | true => exact absurd (Nat.le_of_ble_eq_true hb) (by show ¬ k ≤ 127; omega)]
    rfl
/-- the class's methods, run in the kernel: X, what is known otherwise; N instructions in a method, d calls in one another -/
noncomputable abbrev ev_run (X : Nat → List Value → Nat → ev_T → Option (Option Value × ev_S)) (N d : Nat) : Nat → List Value → Nat → ev_T → Option (Option Value × ev_S) := ev_J ev_cd X N d
theorem ev_run_ok {X : Nat → List Value → Nat → ev_T → Option (Option Value × ev_S)} {Xr : Nat → Nat → List Value → Nat → ev_T → Option Value → ev_S → Prop} {N d k : Nat} {as : List Value} {sz : Nat} {t : ev_T} {v : Option Value} {τ : ev_S} (hX : ∀ d k as sz t v τ, X k as sz t = some (v, τ) → Xr d k as sz t v τ) (h : ev_run X N d k as sz t = some (v, τ)) : ev_C ev_tl ev_oc ev_df ev_ms ev_tb Xr d k as sz t v τ := ev_J_ok ev_cd_ok hX d k as sz t v τ h
