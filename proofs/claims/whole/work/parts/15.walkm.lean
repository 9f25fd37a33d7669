theorem dX12_of_0 : decode cX12_of 0 = .ok (.aload_n 0, 1) := by decide +kernel
theorem dX12_of_1 : decode cX12_of 1 = .ok (.iload_n 1, 1) := by decide +kernel
theorem dX12_of_2 : decode cX12_of 2 = .ok (.invokevirtual 186, 3) := by decide +kernel
theorem dX12_of_5 : decode cX12_of 5 = .ok (.ifCond .ne 6, 3) := by decide +kernel
theorem dX12_of_8 : decode cX12_of 8 = .ok (.ldc 42, 2) := by decide +kernel
theorem dX12_of_10 : decode cX12_of 10 = .ok (.ireturn, 1) := by decide +kernel
theorem dX12_of_11 : decode cX12_of 11 = .ok (.aload_n 0, 1) := by decide +kernel
theorem dX12_of_12 : decode cX12_of 12 = .ok (.iload_n 1, 1) := by decide +kernel
theorem dX12_of_13 : decode cX12_of 13 = .ok (.invokevirtual 196, 3) := by decide +kernel
theorem dX12_of_16 : decode cX12_of 16 = .ok (.istore_n 3, 1) := by decide +kernel
theorem dX12_of_17 : decode cX12_of 17 = .ok (.iload_n 2, 1) := by decide +kernel
theorem dX12_of_18 : decode cX12_of 18 = .ok (.tableswitch 103 0 6 #[42, 49, 56, 63, 65, 83, 89], 42) := by decide +kernel
theorem dX12_of_60 : decode cX12_of 60 = .ok (.aload_n 0, 1) := by decide +kernel
theorem dX12_of_61 : decode cX12_of 61 = .ok (.iload_n 1, 1) := by decide +kernel
theorem dX12_of_62 : decode cX12_of 62 = .ok (.iconst 0, 1) := by decide +kernel
theorem dX12_of_63 : decode cX12_of 63 = .ok (.invokevirtual 75, 3) := by decide +kernel
theorem dX12_of_66 : decode cX12_of 66 = .ok (.ireturn, 1) := by decide +kernel
theorem dX12_of_67 : decode cX12_of 67 = .ok (.aload_n 0, 1) := by decide +kernel
theorem dX12_of_68 : decode cX12_of 68 = .ok (.iload_n 1, 1) := by decide +kernel
theorem dX12_of_69 : decode cX12_of 69 = .ok (.iconst 1, 1) := by decide +kernel
theorem dX12_of_70 : decode cX12_of 70 = .ok (.invokevirtual 75, 3) := by decide +kernel
theorem dX12_of_73 : decode cX12_of 73 = .ok (.ireturn, 1) := by decide +kernel
theorem dX12_of_74 : decode cX12_of 74 = .ok (.aload_n 0, 1) := by decide +kernel
theorem dX12_of_75 : decode cX12_of 75 = .ok (.iload_n 1, 1) := by decide +kernel
theorem dX12_of_76 : decode cX12_of 76 = .ok (.iconst 2, 1) := by decide +kernel
theorem dX12_of_77 : decode cX12_of 77 = .ok (.invokevirtual 75, 3) := by decide +kernel
theorem dX12_of_80 : decode cX12_of 80 = .ok (.ireturn, 1) := by decide +kernel
theorem dX12_of_81 : decode cX12_of 81 = .ok (.iload_n 3, 1) := by decide +kernel
theorem dX12_of_82 : decode cX12_of 82 = .ok (.ireturn, 1) := by decide +kernel
theorem dX12_of_83 : decode cX12_of 83 = .ok (.iload_n 3, 1) := by decide +kernel
theorem dX12_of_84 : decode cX12_of 84 = .ok (.ldc 42, 2) := by decide +kernel
theorem dX12_of_86 : decode cX12_of 86 = .ok (.if_icmp .ne 8, 3) := by decide +kernel
theorem dX12_of_89 : decode cX12_of 89 = .ok (.ldc 42, 2) := by decide +kernel
theorem dX12_of_91 : decode cX12_of 91 = .ok (.goto 9, 3) := by decide +kernel
theorem dX12_of_94 : decode cX12_of 94 = .ok (.aload_n 0, 1) := by decide +kernel
theorem dX12_of_95 : decode cX12_of 95 = .ok (.iload_n 3, 1) := by decide +kernel
theorem dX12_of_96 : decode cX12_of 96 = .ok (.iload_n 1, 1) := by decide +kernel
theorem dX12_of_97 : decode cX12_of 97 = .ok (.invokevirtual 69, 3) := by decide +kernel
theorem dX12_of_100 : decode cX12_of 100 = .ok (.ireturn, 1) := by decide +kernel
theorem dX12_of_101 : decode cX12_of 101 = .ok (.aload_n 0, 1) := by decide +kernel
theorem dX12_of_102 : decode cX12_of 102 = .ok (.iload_n 1, 1) := by decide +kernel
theorem dX12_of_103 : decode cX12_of 103 = .ok (.invokevirtual 95, 3) := by decide +kernel
theorem dX12_of_106 : decode cX12_of 106 = .ok (.ireturn, 1) := by decide +kernel
theorem dX12_of_107 : decode cX12_of 107 = .ok (.aload_n 0, 1) := by decide +kernel
theorem dX12_of_108 : decode cX12_of 108 = .ok (.iload_n 1, 1) := by decide +kernel
theorem dX12_of_109 : decode cX12_of 109 = .ok (.invokevirtual 131, 3) := by decide +kernel
theorem dX12_of_112 : decode cX12_of 112 = .ok (.ifCond .eq 7, 3) := by decide +kernel
theorem dX12_of_115 : decode cX12_of 115 = .ok (.iconst 1, 1) := by decide +kernel
theorem dX12_of_116 : decode cX12_of 116 = .ok (.goto 4, 3) := by decide +kernel
theorem dX12_of_119 : decode cX12_of 119 = .ok (.iconst 0, 1) := by decide +kernel
theorem dX12_of_120 : decode cX12_of 120 = .ok (.ireturn, 1) := by decide +kernel
theorem dX12_of_121 : decode cX12_of 121 = .ok (.ldc 42, 2) := by decide +kernel
theorem dX12_of_123 : decode cX12_of 123 = .ok (.ireturn, 1) := by decide +kernel
theorem w_X12_of {z : Int32} {Γ : Gam} {cy : Nat → ClassId} {a : Nat → Nat} {V : VT} {X : va_W} {v1 : Int32} {v2 : Int32}  (C0 : CXg Γ cX12_of 4 4 RX12 cy) (hD : DM Γ cy a X) (h : f_X12_of v1 v2 V = some z) (hz : (fun y : Int32 => FinI Γ cX12_of (WM cy a V X) y) z) : Wp Γ 0 0 0 [(0, .ref (a 0)), (1, .int v1), (2, .int v2)] [] (WM cy a V X) := by
  unfold f_X12_of at h
  refine r_aload_n C0 dX12_of_0 rfl 0 rfl ?_
  refine r_iload_n C0 dX12_of_1 rfl 1 rfl ?_
  refine callV1 C0 h (hD _) mw_X12_isTold rv_m tm_X12_186 (fun y hy => c_X12_isTold hy) (Nat.le_of_ble_eq_true rfl) (Nat.le_of_ble_eq_true rfl) dX12_of_2 (fun r1 h => ?_)
  refine r_if_ne C0 11 dX12_of_5 rfl h (fun _ h => ?_) (fun _ h => ?_)
  · refine r_aload_n C0 dX12_of_11 rfl 0 rfl ?_
    refine r_iload_n C0 dX12_of_12 rfl 1 rfl ?_
    refine callV1 C0 h (hD _) mw_X12_barWith rv_m tm_X12_196 (fun y hy => c_X12_barWith hy) (Nat.le_of_ble_eq_true rfl) (Nat.le_of_ble_eq_true rfl) dX12_of_13 (fun r2 h => ?_)
    refine r_istore_n (lv2 := [(3, .int r2), (0, .ref (a 0)), (1, .int v1), (2, .int v2)]) C0 dX12_of_16 rfl rfl (Nat.le_of_ble_eq_true rfl) rfl ?_
    refine r_iload_n C0 dX12_of_17 rfl 3 rfl ?_
    by_cases c0 : v2 = 0
    · have h := op_pos c0 h
      refine r_swI C0 60 dX12_of_18 c0 (by decide) (by decide) rfl rfl ?_
      refine r_aload_n C0 dX12_of_60 rfl 1 rfl ?_
      refine r_iload_n C0 dX12_of_61 rfl 2 rfl ?_
      refine r_iconst C0 dX12_of_62 ki_0 ?_
      refine callV2 C0 h (hD _) mw_X12_thingIs rv_m tm_X12_75 (fun y hy => c_X12_thingIs hy) (Nat.le_of_ble_eq_true rfl) (Nat.le_of_ble_eq_true rfl) dX12_of_63 (fun r3 h => ?_)
      cases h
      exact hz _ _ dX12_of_66
    have h := op_neg c0 h
    have n0 := ne_toInt (i := 0) c0 (by decide)
    by_cases c1 : v2 = 1
    · have h := op_pos c1 h
      refine r_swI C0 67 dX12_of_18 c1 (by decide) (by decide) rfl rfl ?_
      refine r_aload_n C0 dX12_of_67 rfl 1 rfl ?_
      refine r_iload_n C0 dX12_of_68 rfl 2 rfl ?_
      refine r_iconst C0 dX12_of_69 ki_1 ?_
      refine callV2 C0 h (hD _) mw_X12_thingIs rv_m tm_X12_75 (fun y hy => c_X12_thingIs hy) (Nat.le_of_ble_eq_true rfl) (Nat.le_of_ble_eq_true rfl) dX12_of_70 (fun r4 h => ?_)
      cases h
      exact hz _ _ dX12_of_73
    have h := op_neg c1 h
    have n1 := ne_toInt (i := 1) c1 (by decide)
    by_cases c2 : v2 = 2
    · have h := op_pos c2 h
      refine r_swI C0 74 dX12_of_18 c2 (by decide) (by decide) rfl rfl ?_
      refine r_aload_n C0 dX12_of_74 rfl 1 rfl ?_
      refine r_iload_n C0 dX12_of_75 rfl 2 rfl ?_
      refine r_iconst C0 dX12_of_76 ki_2 ?_
      refine callV2 C0 h (hD _) mw_X12_thingIs rv_m tm_X12_75 (fun y hy => c_X12_thingIs hy) (Nat.le_of_ble_eq_true rfl) (Nat.le_of_ble_eq_true rfl) dX12_of_77 (fun r5 h => ?_)
      cases h
      exact hz _ _ dX12_of_80
    have h := op_neg c2 h
    have n2 := ne_toInt (i := 2) c2 (by decide)
    by_cases c3 : v2 = 3
    · have h := op_pos c3 h
      refine r_swI C0 81 dX12_of_18 c3 (by decide) (by decide) rfl rfl ?_
      refine r_iload_n C0 dX12_of_81 rfl 0 rfl ?_
      cases h
      exact hz _ _ dX12_of_82
    have h := op_neg c3 h
    have n3 := ne_toInt (i := 3) c3 (by decide)
    by_cases c4 : v2 = 4
    · have h := op_pos c4 h
      refine r_swI C0 83 dX12_of_18 c4 (by decide) (by decide) rfl rfl ?_
      refine r_iload_n C0 dX12_of_83 rfl 0 rfl ?_
      refine r_ldc C0 tk_X12_42 dX12_of_84 ?_
      refine r_icmp_ne C0 94 dX12_of_86 rfl h (fun _ h => ?_) (fun _ h => ?_)
      · refine r_aload_n C0 dX12_of_94 rfl 1 rfl ?_
        refine r_iload_n C0 dX12_of_95 rfl 0 rfl ?_
        refine r_iload_n C0 dX12_of_96 rfl 2 rfl ?_
        refine callV2 C0 h (hD _) mw_X12_placeOn rv_m tm_X12_69 (fun y hy => c_X12_placeOn hy) (Nat.le_of_ble_eq_true rfl) (Nat.le_of_ble_eq_true rfl) dX12_of_97 (fun r6 h => ?_)
        cases h
        exact hz _ _ dX12_of_100
      · refine r_ldc C0 tk_X12_42 dX12_of_89 ?_
        refine r_goto C0 100 dX12_of_91 rfl ?_
        cases h
        exact hz _ _ dX12_of_100
    have h := op_neg c4 h
    have n4 := ne_toInt (i := 4) c4 (by decide)
    by_cases c5 : v2 = 5
    · have h := op_pos c5 h
      refine r_swI C0 101 dX12_of_18 c5 (by decide) (by decide) rfl rfl ?_
      refine r_aload_n C0 dX12_of_101 rfl 1 rfl ?_
      refine r_iload_n C0 dX12_of_102 rfl 2 rfl ?_
      refine callV1 C0 h (hD _) mw_X12_grams rv_m tm_X12_95 (fun y hy => c_X12_grams hy) (Nat.le_of_ble_eq_true rfl) (Nat.le_of_ble_eq_true rfl) dX12_of_103 (fun r7 h => ?_)
      cases h
      exact hz _ _ dX12_of_106
    have h := op_neg c5 h
    have n5 := ne_toInt (i := 5) c5 (by decide)
    by_cases c6 : v2 = 6
    · have h := op_pos c6 h
      refine r_swI C0 107 dX12_of_18 c6 (by decide) (by decide) rfl rfl ?_
      refine r_aload_n C0 dX12_of_107 rfl 1 rfl ?_
      refine r_iload_n C0 dX12_of_108 rfl 2 rfl ?_
      refine callV1 C0 h (hD _) mw_X12_isHot rv_m tm_X12_131 (fun y hy => c_X12_isHot hy) (Nat.le_of_ble_eq_true rfl) (Nat.le_of_ble_eq_true rfl) dX12_of_109 (fun r8 h => ?_)
      refine r_if_eq C0 119 dX12_of_112 rfl h (fun _ h => ?_) (fun _ h => ?_)
      · refine r_iconst C0 dX12_of_119 ki_0 ?_
        cases h
        exact hz _ _ dX12_of_120
      · refine r_iconst C0 dX12_of_115 ki_1 ?_
        refine r_goto C0 120 dX12_of_116 rfl ?_
        cases h
        exact hz _ _ dX12_of_120
    have h := op_neg c6 h
    have n6 := ne_toInt (i := 6) c6 (by decide)
    refine r_swD C0 121 dX12_of_18 (by omega) rfl ?_
    refine r_ldc C0 tk_X12_42 dX12_of_121 ?_
    cases h
    exact hz _ _ dX12_of_123
  · refine r_ldc C0 tk_X12_42 dX12_of_8 ?_
    cases h
    exact hz _ _ dX12_of_10
theorem c_X12_of {l : Launch} {D : va_G} {cy : Nat → ClassId} {a : Nat → Nat} {V : VT} {X : va_W} {v1 : Int32} {v2 : Int32} {y : Int32} (h : f_X12_of v1 v2 V = some y) : CT l D cy yX12_of cX12_of 4 (some .int) 4 [.ref (a 0), .int v1, .int v2] (WM cy a V X) (WM cy a V X) (some (.int y)) :=
  mkI (by decide) (Nat.le_of_ble_eq_true rfl) (fun Γ _ _ C0 hD hF => w_X12_of C0 (dm_of hD) h hF)
theorem dX12_barOf_0 : decode cX12_barOf 0 = .ok (.iload_n 1, 1) := by decide +kernel
theorem dX12_barOf_1 : decode cX12_barOf 1 = .ok (.invokestatic 115, 3) := by decide +kernel
theorem dX12_barOf_4 : decode cX12_barOf 4 = .ok (.ifCond .eq 11, 3) := by decide +kernel
theorem dX12_barOf_7 : decode cX12_barOf 7 = .ok (.aload_n 0, 1) := by decide +kernel
theorem dX12_barOf_8 : decode cX12_barOf 8 = .ok (.iload_n 1, 1) := by decide +kernel
theorem dX12_barOf_9 : decode cX12_barOf 9 = .ok (.invokevirtual 66, 3) := by decide +kernel
theorem dX12_barOf_12 : decode cX12_barOf 12 = .ok (.ifCond .ne 6, 3) := by decide +kernel
theorem dX12_barOf_15 : decode cX12_barOf 15 = .ok (.ldc 42, 2) := by decide +kernel
theorem dX12_barOf_17 : decode cX12_barOf 17 = .ok (.ireturn, 1) := by decide +kernel
theorem dX12_barOf_18 : decode cX12_barOf 18 = .ok (.iload_n 2, 1) := by decide +kernel
theorem dX12_barOf_19 : decode cX12_barOf 19 = .ok (.tableswitch 136 0 8 #[49, 55, 61, 67, 79, 85, 91, 97, 111], 49) := by decide +kernel
theorem dX12_barOf_68 : decode cX12_barOf 68 = .ok (.aload_n 0, 1) := by decide +kernel
theorem dX12_barOf_69 : decode cX12_barOf 69 = .ok (.iload_n 1, 1) := by decide +kernel
theorem dX12_barOf_70 : decode cX12_barOf 70 = .ok (.invokevirtual 55, 3) := by decide +kernel
theorem dX12_barOf_73 : decode cX12_barOf 73 = .ok (.ireturn, 1) := by decide +kernel
theorem dX12_barOf_74 : decode cX12_barOf 74 = .ok (.aload_n 0, 1) := by decide +kernel
theorem dX12_barOf_75 : decode cX12_barOf 75 = .ok (.iload_n 1, 1) := by decide +kernel
theorem dX12_barOf_76 : decode cX12_barOf 76 = .ok (.invokevirtual 121, 3) := by decide +kernel
theorem dX12_barOf_79 : decode cX12_barOf 79 = .ok (.ireturn, 1) := by decide +kernel
theorem dX12_barOf_80 : decode cX12_barOf 80 = .ok (.aload_n 0, 1) := by decide +kernel
theorem dX12_barOf_81 : decode cX12_barOf 81 = .ok (.iload_n 1, 1) := by decide +kernel
theorem dX12_barOf_82 : decode cX12_barOf 82 = .ok (.invokevirtual 124, 3) := by decide +kernel
theorem dX12_barOf_85 : decode cX12_barOf 85 = .ok (.ireturn, 1) := by decide +kernel
theorem dX12_barOf_86 : decode cX12_barOf 86 = .ok (.aload_n 0, 1) := by decide +kernel
theorem dX12_barOf_87 : decode cX12_barOf 87 = .ok (.getfield 7, 3) := by decide +kernel
theorem dX12_barOf_90 : decode cX12_barOf 90 = .ok (.iload_n 1, 1) := by decide +kernel
theorem dX12_barOf_91 : decode cX12_barOf 91 = .ok (.invokestatic 51, 3) := by decide +kernel
theorem dX12_barOf_94 : decode cX12_barOf 94 = .ok (.iconst 4, 1) := by decide +kernel
theorem dX12_barOf_95 : decode cX12_barOf 95 = .ok (.iadd, 1) := by decide +kernel
theorem dX12_barOf_96 : decode cX12_barOf 96 = .ok (.iaload, 1) := by decide +kernel
theorem dX12_barOf_97 : decode cX12_barOf 97 = .ok (.ireturn, 1) := by decide +kernel
theorem dX12_barOf_98 : decode cX12_barOf 98 = .ok (.aload_n 0, 1) := by decide +kernel
theorem dX12_barOf_99 : decode cX12_barOf 99 = .ok (.iload_n 1, 1) := by decide +kernel
theorem dX12_barOf_100 : decode cX12_barOf 100 = .ok (.invokevirtual 102, 3) := by decide +kernel
theorem dX12_barOf_103 : decode cX12_barOf 103 = .ok (.ireturn, 1) := by decide +kernel
theorem dX12_barOf_104 : decode cX12_barOf 104 = .ok (.aload_n 0, 1) := by decide +kernel
theorem dX12_barOf_105 : decode cX12_barOf 105 = .ok (.iload_n 1, 1) := by decide +kernel
theorem dX12_barOf_106 : decode cX12_barOf 106 = .ok (.invokevirtual 105, 3) := by decide +kernel
theorem dX12_barOf_109 : decode cX12_barOf 109 = .ok (.ireturn, 1) := by decide +kernel
theorem dX12_barOf_110 : decode cX12_barOf 110 = .ok (.aload_n 0, 1) := by decide +kernel
theorem dX12_barOf_111 : decode cX12_barOf 111 = .ok (.iload_n 1, 1) := by decide +kernel
theorem dX12_barOf_112 : decode cX12_barOf 112 = .ok (.invokevirtual 234, 3) := by decide +kernel
theorem dX12_barOf_115 : decode cX12_barOf 115 = .ok (.ireturn, 1) := by decide +kernel
theorem dX12_barOf_116 : decode cX12_barOf 116 = .ok (.aload_n 0, 1) := by decide +kernel
theorem dX12_barOf_117 : decode cX12_barOf 117 = .ok (.iload_n 1, 1) := by decide +kernel
theorem dX12_barOf_118 : decode cX12_barOf 118 = .ok (.invokevirtual 153, 3) := by decide +kernel
theorem dX12_barOf_121 : decode cX12_barOf 121 = .ok (.ifCond .eq 7, 3) := by decide +kernel
theorem dX12_barOf_124 : decode cX12_barOf 124 = .ok (.iconst 1, 1) := by decide +kernel
theorem dX12_barOf_125 : decode cX12_barOf 125 = .ok (.goto 4, 3) := by decide +kernel
theorem dX12_barOf_128 : decode cX12_barOf 128 = .ok (.iconst 0, 1) := by decide +kernel
theorem dX12_barOf_129 : decode cX12_barOf 129 = .ok (.ireturn, 1) := by decide +kernel
theorem dX12_barOf_130 : decode cX12_barOf 130 = .ok (.aload_n 0, 1) := by decide +kernel
theorem dX12_barOf_131 : decode cX12_barOf 131 = .ok (.iload_n 1, 1) := by decide +kernel
theorem dX12_barOf_132 : decode cX12_barOf 132 = .ok (.aload_n 0, 1) := by decide +kernel
theorem dX12_barOf_133 : decode cX12_barOf 133 = .ok (.getfield 7, 3) := by decide +kernel
theorem dX12_barOf_136 : decode cX12_barOf 136 = .ok (.iload_n 1, 1) := by decide +kernel
theorem dX12_barOf_137 : decode cX12_barOf 137 = .ok (.invokestatic 51, 3) := by decide +kernel
theorem dX12_barOf_140 : decode cX12_barOf 140 = .ok (.iconst 4, 1) := by decide +kernel
theorem dX12_barOf_141 : decode cX12_barOf 141 = .ok (.iadd, 1) := by decide +kernel
theorem dX12_barOf_142 : decode cX12_barOf 142 = .ok (.iaload, 1) := by decide +kernel
theorem dX12_barOf_143 : decode cX12_barOf 143 = .ok (.invokevirtual 150, 3) := by decide +kernel
theorem dX12_barOf_146 : decode cX12_barOf 146 = .ok (.ifCond .eq 7, 3) := by decide +kernel
theorem dX12_barOf_149 : decode cX12_barOf 149 = .ok (.iconst 1, 1) := by decide +kernel
theorem dX12_barOf_150 : decode cX12_barOf 150 = .ok (.goto 4, 3) := by decide +kernel
theorem dX12_barOf_153 : decode cX12_barOf 153 = .ok (.iconst 0, 1) := by decide +kernel
theorem dX12_barOf_154 : decode cX12_barOf 154 = .ok (.ireturn, 1) := by decide +kernel
theorem dX12_barOf_155 : decode cX12_barOf 155 = .ok (.ldc 42, 2) := by decide +kernel
theorem dX12_barOf_157 : decode cX12_barOf 157 = .ok (.ireturn, 1) := by decide +kernel
theorem w_X12_barOf {z : Int32} {Γ : Gam} {cy : Nat → ClassId} {a : Nat → Nat} {V : VT} {X : va_W} {v1 : Int32} {v2 : Int32}  (C0 : CXg Γ cX12_barOf 3 6 RX12 cy) (hD : DM Γ cy a X) (h : f_X12_barOf v1 v2 V = some z) (hz : (fun y : Int32 => FinI Γ cX12_barOf (WM cy a V X) y) z) : Wp Γ 0 0 0 [(0, .ref (a 0)), (1, .int v1), (2, .int v2)] [] (WM cy a V X) := by
  unfold f_X12_barOf at h
  refine r_iload_n C0 dX12_barOf_0 rfl 1 rfl ?_
  refine callS1 C0 h (hD _) ms_X12_isBar tm_X12_115 (fun y hy => c_X12_isBar hy) (Nat.le_of_ble_eq_true rfl) (Nat.le_of_ble_eq_true rfl) dX12_barOf_1 (fun r1 h => ?_)
  refine r_if_eq C0 15 dX12_barOf_4 rfl h (fun _ h => ?_) (fun _ h => ?_)
  · refine r_ldc C0 tk_X12_42 dX12_barOf_15 ?_
    cases h
    exact hz _ _ dX12_barOf_17
  · refine r_aload_n C0 dX12_barOf_7 rfl 0 rfl ?_
    refine r_iload_n C0 dX12_barOf_8 rfl 1 rfl ?_
    refine callV1 C0 h (hD _) mw_X12_isRigged rv_m tm_X12_66 (fun y hy => c_X12_isRigged hy) (Nat.le_of_ble_eq_true rfl) (Nat.le_of_ble_eq_true rfl) dX12_barOf_9 (fun r2 h => ?_)
    refine r_if_ne C0 18 dX12_barOf_12 rfl h (fun _ h => ?_) (fun _ h => ?_)
    · refine r_iload_n C0 dX12_barOf_18 rfl 2 rfl ?_
      by_cases c0 : v2 = 0
      · have h := op_pos c0 h
        refine r_swI C0 68 dX12_barOf_19 c0 (by decide) (by decide) rfl rfl ?_
        refine r_aload_n C0 dX12_barOf_68 rfl 0 rfl ?_
        refine r_iload_n C0 dX12_barOf_69 rfl 1 rfl ?_
        refine callV1 C0 h (hD _) mw_X12_places rv_m tm_X12_55 (fun y hy => c_X12_places hy) (Nat.le_of_ble_eq_true rfl) (Nat.le_of_ble_eq_true rfl) dX12_barOf_70 (fun r3 h => ?_)
        cases h
        exact hz _ _ dX12_barOf_73
      have h := op_neg c0 h
      have n0 := ne_toInt (i := 0) c0 (by decide)
      by_cases c1 : v2 = 1
      · have h := op_pos c1 h
        refine r_swI C0 74 dX12_barOf_19 c1 (by decide) (by decide) rfl rfl ?_
        refine r_aload_n C0 dX12_barOf_74 rfl 0 rfl ?_
        refine r_iload_n C0 dX12_barOf_75 rfl 1 rfl ?_
        refine callV1 C0 h (hD _) mw_X12_gap rv_m tm_X12_121 (fun y hy => c_X12_gap hy) (Nat.le_of_ble_eq_true rfl) (Nat.le_of_ble_eq_true rfl) dX12_barOf_76 (fun r4 h => ?_)
        cases h
        exact hz _ _ dX12_barOf_79
      have h := op_neg c1 h
      have n1 := ne_toInt (i := 1) c1 (by decide)
      by_cases c2 : v2 = 2
      · have h := op_pos c2 h
        refine r_swI C0 80 dX12_barOf_19 c2 (by decide) (by decide) rfl rfl ?_
        refine r_aload_n C0 dX12_barOf_80 rfl 0 rfl ?_
        refine r_iload_n C0 dX12_barOf_81 rfl 1 rfl ?_
        refine callV1 C0 h (hD _) mw_X12_height rv_m tm_X12_124 (fun y hy => c_X12_height hy) (Nat.le_of_ble_eq_true rfl) (Nat.le_of_ble_eq_true rfl) dX12_barOf_82 (fun r5 h => ?_)
        cases h
        exact hz _ _ dX12_barOf_85
      have h := op_neg c2 h
      have n2 := ne_toInt (i := 2) c2 (by decide)
      by_cases c3 : v2 = 3
      · have h := op_pos c3 h
        refine r_swI C0 86 dX12_barOf_19 c3 (by decide) (by decide) rfl rfl ?_
        refine r_aload_n C0 dX12_barOf_86 rfl 0 rfl ?_
        refine wmg_0_0 C0 tf_X12_7 dX12_barOf_87 ?_
        refine r_iload_n C0 dX12_barOf_90 rfl 1 rfl ?_
        refine callS1 C0 h (hD _) ms_X12_bar0 tm_X12_51 (fun y hy => c_X12_bar0 hy) (Nat.le_of_ble_eq_true rfl) (Nat.le_of_ble_eq_true rfl) dX12_barOf_91 (fun r6 h => ?_)
        refine r_iconst C0 dX12_barOf_94 ki_4 ?_
        refine r_iadd C0 dX12_barOf_95 ?_
        refine wmal_1 C0 h dX12_barOf_96 (fun k7 h => ?_)
        cases h
        exact hz _ _ dX12_barOf_97
      have h := op_neg c3 h
      have n3 := ne_toInt (i := 3) c3 (by decide)
      by_cases c4 : v2 = 4
      · have h := op_pos c4 h
        refine r_swI C0 98 dX12_barOf_19 c4 (by decide) (by decide) rfl rfl ?_
        refine r_aload_n C0 dX12_barOf_98 rfl 0 rfl ?_
        refine r_iload_n C0 dX12_barOf_99 rfl 1 rfl ?_
        refine callV1 C0 h (hD _) mw_X12_things rv_m tm_X12_102 (fun y hy => c_X12_things hy) (Nat.le_of_ble_eq_true rfl) (Nat.le_of_ble_eq_true rfl) dX12_barOf_100 (fun r8 h => ?_)
        cases h
        exact hz _ _ dX12_barOf_103
      have h := op_neg c4 h
      have n4 := ne_toInt (i := 4) c4 (by decide)
      by_cases c5 : v2 = 5
      · have h := op_pos c5 h
        refine r_swI C0 104 dX12_barOf_19 c5 (by decide) (by decide) rfl rfl ?_
        refine r_aload_n C0 dX12_barOf_104 rfl 0 rfl ?_
        refine r_iload_n C0 dX12_barOf_105 rfl 1 rfl ?_
        refine callV1 C0 h (hD _) mw_X12_lines rv_m tm_X12_105 (fun y hy => c_X12_lines hy) (Nat.le_of_ble_eq_true rfl) (Nat.le_of_ble_eq_true rfl) dX12_barOf_106 (fun r9 h => ?_)
        cases h
        exact hz _ _ dX12_barOf_109
      have h := op_neg c5 h
      have n5 := ne_toInt (i := 5) c5 (by decide)
      by_cases c6 : v2 = 6
      · have h := op_pos c6 h
        refine r_swI C0 110 dX12_barOf_19 c6 (by decide) (by decide) rfl rfl ?_
        refine r_aload_n C0 dX12_barOf_110 rfl 0 rfl ?_
        refine r_iload_n C0 dX12_barOf_111 rfl 1 rfl ?_
        refine callV1 C0 h (hD _) mw_X12_firstOfGroup rv_m tm_X12_234 (fun y hy => c_X12_firstOfGroup hy) (Nat.le_of_ble_eq_true rfl) (Nat.le_of_ble_eq_true rfl) dX12_barOf_112 (fun r10 h => ?_)
        cases h
        exact hz _ _ dX12_barOf_115
      have h := op_neg c6 h
      have n6 := ne_toInt (i := 6) c6 (by decide)
      by_cases c7 : v2 = 7
      · have h := op_pos c7 h
        refine r_swI C0 116 dX12_barOf_19 c7 (by decide) (by decide) rfl rfl ?_
        refine r_aload_n C0 dX12_barOf_116 rfl 0 rfl ?_
        refine r_iload_n C0 dX12_barOf_117 rfl 1 rfl ?_
        refine callV1 C0 h (hD _) mw_X12_isHeld rv_m tm_X12_153 (fun y hy => c_X12_isHeld hy) (Nat.le_of_ble_eq_true rfl) (Nat.le_of_ble_eq_true rfl) dX12_barOf_118 (fun r11 h => ?_)
        refine r_if_eq C0 128 dX12_barOf_121 rfl h (fun _ h => ?_) (fun _ h => ?_)
        · refine r_iconst C0 dX12_barOf_128 ki_0 ?_
          cases h
          exact hz _ _ dX12_barOf_129
        · refine r_iconst C0 dX12_barOf_124 ki_1 ?_
          refine r_goto C0 129 dX12_barOf_125 rfl ?_
          cases h
          exact hz _ _ dX12_barOf_129
      have h := op_neg c7 h
      have n7 := ne_toInt (i := 7) c7 (by decide)
      by_cases c8 : v2 = 8
      · have h := op_pos c8 h
        refine r_swI C0 130 dX12_barOf_19 c8 (by decide) (by decide) rfl rfl ?_
        refine r_aload_n C0 dX12_barOf_130 rfl 0 rfl ?_
        refine r_iload_n C0 dX12_barOf_131 rfl 1 rfl ?_
        refine r_aload_n C0 dX12_barOf_132 rfl 0 rfl ?_
        refine wmg_0_0 C0 tf_X12_7 dX12_barOf_133 ?_
        refine r_iload_n C0 dX12_barOf_136 rfl 1 rfl ?_
        refine callS1 C0 h (hD _) ms_X12_bar0 tm_X12_51 (fun y hy => c_X12_bar0 hy) (Nat.le_of_ble_eq_true rfl) (Nat.le_of_ble_eq_true rfl) dX12_barOf_137 (fun r12 h => ?_)
        refine r_iconst C0 dX12_barOf_140 ki_4 ?_
        refine r_iadd C0 dX12_barOf_141 ?_
        refine wmal_1 C0 h dX12_barOf_142 (fun k13 h => ?_)
        refine callV2 C0 h (hD _) mw_X12_isBalanced rv_m tm_X12_150 (fun y hy => c_X12_isBalanced hy) (Nat.le_of_ble_eq_true rfl) (Nat.le_of_ble_eq_true rfl) dX12_barOf_143 (fun r14 h => ?_)
        refine r_if_eq C0 153 dX12_barOf_146 rfl h (fun _ h => ?_) (fun _ h => ?_)
        · refine r_iconst C0 dX12_barOf_153 ki_0 ?_
          cases h
          exact hz _ _ dX12_barOf_154
        · refine r_iconst C0 dX12_barOf_149 ki_1 ?_
          refine r_goto C0 154 dX12_barOf_150 rfl ?_
          cases h
          exact hz _ _ dX12_barOf_154
      have h := op_neg c8 h
      have n8 := ne_toInt (i := 8) c8 (by decide)
      refine r_swD C0 155 dX12_barOf_19 (by omega) rfl ?_
      refine r_ldc C0 tk_X12_42 dX12_barOf_155 ?_
      cases h
      exact hz _ _ dX12_barOf_157
    · refine r_ldc C0 tk_X12_42 dX12_barOf_15 ?_
      cases h
      exact hz _ _ dX12_barOf_17
theorem c_X12_barOf {l : Launch} {D : va_G} {cy : Nat → ClassId} {a : Nat → Nat} {V : VT} {X : va_W} {v1 : Int32} {v2 : Int32} {y : Int32} (h : f_X12_barOf v1 v2 V = some y) : CT l D cy yX12_barOf cX12_barOf 3 (some .int) 6 [.ref (a 0), .int v1, .int v2] (WM cy a V X) (WM cy a V X) (some (.int y)) :=
  mkI (by decide) (Nat.le_of_ble_eq_true rfl) (fun Γ _ _ C0 hD hF => w_X12_barOf C0 (dm_of hD) h hF)
theorem dX12_load_0 : decode cX12_load 0 = .ok (.iload_n 1, 1) := by decide +kernel
theorem dX12_load_1 : decode cX12_load 1 = .ok (.invokestatic 115, 3) := by decide +kernel
theorem dX12_load_4 : decode cX12_load 4 = .ok (.ifCond .eq 20, 3) := by decide +kernel
theorem dX12_load_7 : decode cX12_load 7 = .ok (.aload_n 0, 1) := by decide +kernel
theorem dX12_load_8 : decode cX12_load 8 = .ok (.iload_n 1, 1) := by decide +kernel
theorem dX12_load_9 : decode cX12_load 9 = .ok (.invokevirtual 66, 3) := by decide +kernel
theorem dX12_load_12 : decode cX12_load 12 = .ok (.ifCond .eq 12, 3) := by decide +kernel
theorem dX12_load_15 : decode cX12_load 15 = .ok (.aload_n 0, 1) := by decide +kernel
theorem dX12_load_16 : decode cX12_load 16 = .ok (.iload_n 1, 1) := by decide +kernel
theorem dX12_load_17 : decode cX12_load 17 = .ok (.invokevirtual 84, 3) := by decide +kernel
theorem dX12_load_20 : decode cX12_load 20 = .ok (.f2d, 1) := by decide +kernel
theorem dX12_load_21 : decode cX12_load 21 = .ok (.goto 4, 3) := by decide +kernel
theorem dX12_load_24 : decode cX12_load 24 = .ok (.dconst 0, 1) := by decide +kernel
theorem dX12_load_25 : decode cX12_load 25 = .ok (.dreturn, 1) := by decide +kernel
theorem w_X12_load_j24 {z : (UInt64)} {Γ : Gam} {cy : Nat → ClassId} {a : Nat → Nat} {V : VT} {X : va_W}  (C0 : CXg Γ cX12_load 2 3 RX12 cy) (hD : DM Γ cy a X) (h : f_X12_load_j24 V = some z) (hz : (fun y : UInt64 => FinD Γ cX12_load (WM cy a V X) y) z) : Wp Γ 0 0 24 [] [] (WM cy a V X) := by
  unfold f_X12_load_j24 at h
  refine r_dconst C0 dX12_load_24 ?_
  cases h
  exact hz _ _ dX12_load_25
theorem w_X12_load {z : UInt64} {Γ : Gam} {cy : Nat → ClassId} {a : Nat → Nat} {V : VT} {X : va_W} {v1 : Int32}  (C0 : CXg Γ cX12_load 2 3 RX12 cy) (hD : DM Γ cy a X) (h : f_X12_load v1 V = some z) (hz : (fun y : UInt64 => FinD Γ cX12_load (WM cy a V X) y) z) : Wp Γ 0 0 0 [(0, .ref (a 0)), (1, .int v1)] [] (WM cy a V X) := by
  unfold f_X12_load at h
  refine r_iload_n C0 dX12_load_0 rfl 1 rfl ?_
  refine callS1 C0 h (hD _) ms_X12_isBar tm_X12_115 (fun y hy => c_X12_isBar hy) (Nat.le_of_ble_eq_true rfl) (Nat.le_of_ble_eq_true rfl) dX12_load_1 (fun r1 h => ?_)
  refine r_if_eq C0 24 dX12_load_4 rfl h (fun _ h => ?_) (fun _ h => ?_)
  · exact r_sub [] rfl (w_X12_load_j24 C0 hD h hz)
  · refine r_aload_n C0 dX12_load_7 rfl 0 rfl ?_
    refine r_iload_n C0 dX12_load_8 rfl 1 rfl ?_
    refine callV1 C0 h (hD _) mw_X12_isRigged rv_m tm_X12_66 (fun y hy => c_X12_isRigged hy) (Nat.le_of_ble_eq_true rfl) (Nat.le_of_ble_eq_true rfl) dX12_load_9 (fun r2 h => ?_)
    refine r_if_eq C0 24 dX12_load_12 rfl h (fun _ h => ?_) (fun _ h => ?_)
    · exact r_sub [] rfl (w_X12_load_j24 C0 hD h hz)
    · refine r_aload_n C0 dX12_load_15 rfl 0 rfl ?_
      refine r_iload_n C0 dX12_load_16 rfl 1 rfl ?_
      refine callV1 C0 h (hD _) mw_X12_loadOf rv_m tm_X12_84 (fun y hy => c_X12_loadOf hy) (Nat.le_of_ble_eq_true rfl) (Nat.le_of_ble_eq_true rfl) dX12_load_17 (fun r3 h => ?_)
      refine r_f2d C0 dX12_load_20 h (fun w4 h => ?_)
      refine r_goto C0 25 dX12_load_21 rfl ?_
      cases h
      exact hz _ _ dX12_load_25
theorem c_X12_load {l : Launch} {D : va_G} {cy : Nat → ClassId} {a : Nat → Nat} {V : VT} {X : va_W} {v1 : Int32} {y : UInt64} (h : f_X12_load v1 V = some y) : CT l D cy yX12_load cX12_load 2 (some .double) 3 [.ref (a 0), .int v1] (WM cy a V X) (WM cy a V X) (some (.double y)) :=
  mkD (by decide) (Nat.le_of_ble_eq_true rfl) (fun Γ _ _ C0 hD hF => w_X12_load C0 (dm_of hD) h hF)
theorem dX12_share_0 : decode cX12_share 0 = .ok (.aload_n 0, 1) := by decide +kernel
theorem dX12_share_1 : decode cX12_share 1 = .ok (.iload_n 1, 1) := by decide +kernel
theorem dX12_share_2 : decode cX12_share 2 = .ok (.invokevirtual 182, 3) := by decide +kernel
theorem dX12_share_5 : decode cX12_share 5 = .ok (.ifCond .eq 19, 3) := by decide +kernel
theorem dX12_share_8 : decode cX12_share 8 = .ok (.aload_n 0, 1) := by decide +kernel
theorem dX12_share_9 : decode cX12_share 9 = .ok (.iload_n 1, 1) := by decide +kernel
theorem dX12_share_10 : decode cX12_share 10 = .ok (.invokevirtual 62, 3) := by decide +kernel
theorem dX12_share_13 : decode cX12_share 13 = .ok (.ifCond .eq 11, 3) := by decide +kernel
theorem dX12_share_16 : decode cX12_share 16 = .ok (.aload_n 0, 1) := by decide +kernel
theorem dX12_share_17 : decode cX12_share 17 = .ok (.iload_n 1, 1) := by decide +kernel
theorem dX12_share_18 : decode cX12_share 18 = .ok (.invokevirtual 108, 3) := by decide +kernel
theorem dX12_share_21 : decode cX12_share 21 = .ok (.goto 6, 3) := by decide +kernel
theorem dX12_share_24 : decode cX12_share 24 = .ok (.ldc2_w 237, 3) := by decide +kernel
theorem dX12_share_27 : decode cX12_share 27 = .ok (.lreturn, 1) := by decide +kernel
theorem w_X12_share_j24 {z : (Int64)} {Γ : Gam} {cy : Nat → ClassId} {a : Nat → Nat} {V : VT} {X : va_W}  (C0 : CXg Γ cX12_share 2 5 RX12 cy) (hD : DM Γ cy a X) (h : f_X12_share_j24 V = some z) (hz : (fun y : Int64 => FinL Γ cX12_share (WM cy a V X) y) z) : Wp Γ 0 0 24 [] [] (WM cy a V X) := by
  unfold f_X12_share_j24 at h
  refine r_ldc2 C0 tk_X12_237 dX12_share_24 ?_
  cases h
  exact hz _ _ dX12_share_27
theorem w_X12_share {z : Int64} {Γ : Gam} {cy : Nat → ClassId} {a : Nat → Nat} {V : VT} {X : va_W} {v1 : Int32}  (C0 : CXg Γ cX12_share 2 5 RX12 cy) (hD : DM Γ cy a X) (h : f_X12_share v1 V = some z) (hz : (fun y : Int64 => FinL Γ cX12_share (WM cy a V X) y) z) : Wp Γ 0 0 0 [(0, .ref (a 0)), (1, .int v1)] [] (WM cy a V X) := by
  unfold f_X12_share at h
  refine r_aload_n C0 dX12_share_0 rfl 0 rfl ?_
  refine r_iload_n C0 dX12_share_1 rfl 1 rfl ?_
  refine callV1 C0 h (hD _) mw_X12_isLineTold rv_m tm_X12_182 (fun y hy => c_X12_isLineTold hy) (Nat.le_of_ble_eq_true rfl) (Nat.le_of_ble_eq_true rfl) dX12_share_2 (fun r1 h => ?_)
  refine r_if_eq C0 24 dX12_share_5 rfl h (fun _ h => ?_) (fun _ h => ?_)
  · exact r_sub [] rfl (w_X12_share_j24 C0 hD h hz)
  · refine r_aload_n C0 dX12_share_8 rfl 0 rfl ?_
    refine r_iload_n C0 dX12_share_9 rfl 1 rfl ?_
    refine callV1 C0 h (hD _) mw_X12_isLineThere rv_m tm_X12_62 (fun y hy => c_X12_isLineThere hy) (Nat.le_of_ble_eq_true rfl) (Nat.le_of_ble_eq_true rfl) dX12_share_10 (fun r2 h => ?_)
    refine r_if_eq C0 24 dX12_share_13 rfl h (fun _ h => ?_) (fun _ h => ?_)
    · exact r_sub [] rfl (w_X12_share_j24 C0 hD h hz)
    · refine r_aload_n C0 dX12_share_16 rfl 0 rfl ?_
      refine r_iload_n C0 dX12_share_17 rfl 1 rfl ?_
      refine callV1 C0 h (hD _) mw_X12_shareOf rv_m tm_X12_108 (fun y hy => c_X12_shareOf hy) (Nat.le_of_ble_eq_true rfl) (Nat.le_of_ble_eq_true rfl) dX12_share_18 (fun r3 h => ?_)
      refine r_goto C0 27 dX12_share_21 rfl ?_
      cases h
      exact hz _ _ dX12_share_27
theorem c_X12_share {l : Launch} {D : va_G} {cy : Nat → ClassId} {a : Nat → Nat} {V : VT} {X : va_W} {v1 : Int32} {y : Int64} (h : f_X12_share v1 V = some y) : CT l D cy yX12_share cX12_share 2 (some .long) 5 [.ref (a 0), .int v1] (WM cy a V X) (WM cy a V X) (some (.long y)) :=
  mkL (by decide) (Nat.le_of_ble_eq_true rfl) (fun Γ _ _ C0 hD hF => w_X12_share C0 (dm_of hD) h hF)
theorem dX12_strength_0 : decode cX12_strength 0 = .ok (.aload_n 0, 1) := by decide +kernel
theorem dX12_strength_1 : decode cX12_strength 1 = .ok (.iload_n 1, 1) := by decide +kernel
theorem dX12_strength_2 : decode cX12_strength 2 = .ok (.invokevirtual 182, 3) := by decide +kernel
theorem dX12_strength_5 : decode cX12_strength 5 = .ok (.ifCond .eq 19, 3) := by decide +kernel
theorem dX12_strength_8 : decode cX12_strength 8 = .ok (.aload_n 0, 1) := by decide +kernel
theorem dX12_strength_9 : decode cX12_strength 9 = .ok (.iload_n 1, 1) := by decide +kernel
theorem dX12_strength_10 : decode cX12_strength 10 = .ok (.invokevirtual 62, 3) := by decide +kernel
theorem dX12_strength_13 : decode cX12_strength 13 = .ok (.ifCond .eq 11, 3) := by decide +kernel
theorem dX12_strength_16 : decode cX12_strength 16 = .ok (.aload_n 0, 1) := by decide +kernel
theorem dX12_strength_17 : decode cX12_strength 17 = .ok (.iload_n 1, 1) := by decide +kernel
theorem dX12_strength_18 : decode cX12_strength 18 = .ok (.invokevirtual 112, 3) := by decide +kernel
theorem dX12_strength_21 : decode cX12_strength 21 = .ok (.goto 5, 3) := by decide +kernel
theorem dX12_strength_24 : decode cX12_strength 24 = .ok (.ldc 42, 2) := by decide +kernel
theorem dX12_strength_26 : decode cX12_strength 26 = .ok (.ireturn, 1) := by decide +kernel
theorem w_X12_strength_j24 {z : (Int32)} {Γ : Gam} {cy : Nat → ClassId} {a : Nat → Nat} {V : VT} {X : va_W}  (C0 : CXg Γ cX12_strength 2 2 RX12 cy) (hD : DM Γ cy a X) (h : f_X12_strength_j24 V = some z) (hz : (fun y : Int32 => FinI Γ cX12_strength (WM cy a V X) y) z) : Wp Γ 0 0 24 [] [] (WM cy a V X) := by
  unfold f_X12_strength_j24 at h
  refine r_ldc C0 tk_X12_42 dX12_strength_24 ?_
  cases h
  exact hz _ _ dX12_strength_26
theorem w_X12_strength {z : Int32} {Γ : Gam} {cy : Nat → ClassId} {a : Nat → Nat} {V : VT} {X : va_W} {v1 : Int32}  (C0 : CXg Γ cX12_strength 2 2 RX12 cy) (hD : DM Γ cy a X) (h : f_X12_strength v1 V = some z) (hz : (fun y : Int32 => FinI Γ cX12_strength (WM cy a V X) y) z) : Wp Γ 0 0 0 [(0, .ref (a 0)), (1, .int v1)] [] (WM cy a V X) := by
  unfold f_X12_strength at h
  refine r_aload_n C0 dX12_strength_0 rfl 0 rfl ?_
  refine r_iload_n C0 dX12_strength_1 rfl 1 rfl ?_
  refine callV1 C0 h (hD _) mw_X12_isLineTold rv_m tm_X12_182 (fun y hy => c_X12_isLineTold hy) (Nat.le_of_ble_eq_true rfl) (Nat.le_of_ble_eq_true rfl) dX12_strength_2 (fun r1 h => ?_)
  refine r_if_eq C0 24 dX12_strength_5 rfl h (fun _ h => ?_) (fun _ h => ?_)
  · exact r_sub [] rfl (w_X12_strength_j24 C0 hD h hz)
  · refine r_aload_n C0 dX12_strength_8 rfl 0 rfl ?_
    refine r_iload_n C0 dX12_strength_9 rfl 1 rfl ?_
    refine callV1 C0 h (hD _) mw_X12_isLineThere rv_m tm_X12_62 (fun y hy => c_X12_isLineThere hy) (Nat.le_of_ble_eq_true rfl) (Nat.le_of_ble_eq_true rfl) dX12_strength_10 (fun r2 h => ?_)
    refine r_if_eq C0 24 dX12_strength_13 rfl h (fun _ h => ?_) (fun _ h => ?_)
    · exact r_sub [] rfl (w_X12_strength_j24 C0 hD h hz)
    · refine r_aload_n C0 dX12_strength_16 rfl 0 rfl ?_
      refine r_iload_n C0 dX12_strength_17 rfl 1 rfl ?_
      refine callV1 C0 h (hD _) mw_X12_weakest rv_m tm_X12_112 (fun y hy => c_X12_weakest hy) (Nat.le_of_ble_eq_true rfl) (Nat.le_of_ble_eq_true rfl) dX12_strength_18 (fun r3 h => ?_)
      refine r_goto C0 26 dX12_strength_21 rfl ?_
      cases h
      exact hz _ _ dX12_strength_26
theorem c_X12_strength {l : Launch} {D : va_G} {cy : Nat → ClassId} {a : Nat → Nat} {V : VT} {X : va_W} {v1 : Int32} {y : Int32} (h : f_X12_strength v1 V = some y) : CT l D cy yX12_strength cX12_strength 2 (some .int) 2 [.ref (a 0), .int v1] (WM cy a V X) (WM cy a V X) (some (.int y)) :=
  mkI (by decide) (Nat.le_of_ble_eq_true rfl) (fun Γ _ _ C0 hD hF => w_X12_strength C0 (dm_of hD) h hF)
theorem dX12_evenOf_0 : decode cX12_evenOf 0 = .ok (.aload_n 0, 1) := by decide +kernel
theorem dX12_evenOf_1 : decode cX12_evenOf 1 = .ok (.getfield 7, 3) := by decide +kernel
theorem dX12_evenOf_4 : decode cX12_evenOf 4 = .ok (.iload_n 1, 1) := by decide +kernel
theorem dX12_evenOf_5 : decode cX12_evenOf 5 = .ok (.invokestatic 51, 3) := by decide +kernel
theorem dX12_evenOf_8 : decode cX12_evenOf 8 = .ok (.iconst 4, 1) := by decide +kernel
theorem dX12_evenOf_9 : decode cX12_evenOf 9 = .ok (.iadd, 1) := by decide +kernel
theorem dX12_evenOf_10 : decode cX12_evenOf 10 = .ok (.iaload, 1) := by decide +kernel
theorem dX12_evenOf_11 : decode cX12_evenOf 11 = .ok (.istore_n 2, 1) := by decide +kernel
theorem dX12_evenOf_12 : decode cX12_evenOf 12 = .ok (.iconst 0, 1) := by decide +kernel
theorem dX12_evenOf_13 : decode cX12_evenOf 13 = .ok (.istore_n 3, 1) := by decide +kernel
theorem dX12_evenOf_14 : decode cX12_evenOf 14 = .ok (.iload_n 3, 1) := by decide +kernel
theorem dX12_evenOf_15 : decode cX12_evenOf 15 = .ok (.sipush 2000, 3) := by decide +kernel
theorem dX12_evenOf_18 : decode cX12_evenOf 18 = .ok (.if_icmp .gt 36, 3) := by decide +kernel
theorem dX12_evenOf_21 : decode cX12_evenOf 21 = .ok (.aload_n 0, 1) := by decide +kernel
theorem dX12_evenOf_22 : decode cX12_evenOf 22 = .ok (.iload_n 1, 1) := by decide +kernel
theorem dX12_evenOf_23 : decode cX12_evenOf 23 = .ok (.iload_n 2, 1) := by decide +kernel
theorem dX12_evenOf_24 : decode cX12_evenOf 24 = .ok (.iload_n 3, 1) := by decide +kernel
theorem dX12_evenOf_25 : decode cX12_evenOf 25 = .ok (.iadd, 1) := by decide +kernel
theorem dX12_evenOf_26 : decode cX12_evenOf 26 = .ok (.invokevirtual 150, 3) := by decide +kernel
theorem dX12_evenOf_29 : decode cX12_evenOf 29 = .ok (.ifCond .eq 5, 3) := by decide +kernel
theorem dX12_evenOf_32 : decode cX12_evenOf 32 = .ok (.iload_n 3, 1) := by decide +kernel
theorem dX12_evenOf_33 : decode cX12_evenOf 33 = .ok (.ireturn, 1) := by decide +kernel
theorem dX12_evenOf_34 : decode cX12_evenOf 34 = .ok (.aload_n 0, 1) := by decide +kernel
theorem dX12_evenOf_35 : decode cX12_evenOf 35 = .ok (.iload_n 1, 1) := by decide +kernel
theorem dX12_evenOf_36 : decode cX12_evenOf 36 = .ok (.iload_n 2, 1) := by decide +kernel
theorem dX12_evenOf_37 : decode cX12_evenOf 37 = .ok (.iload_n 3, 1) := by decide +kernel
theorem dX12_evenOf_38 : decode cX12_evenOf 38 = .ok (.isub, 1) := by decide +kernel
theorem dX12_evenOf_39 : decode cX12_evenOf 39 = .ok (.invokevirtual 150, 3) := by decide +kernel
theorem dX12_evenOf_42 : decode cX12_evenOf 42 = .ok (.ifCond .eq 6, 3) := by decide +kernel
theorem dX12_evenOf_45 : decode cX12_evenOf 45 = .ok (.iload_n 3, 1) := by decide +kernel
theorem dX12_evenOf_46 : decode cX12_evenOf 46 = .ok (.ineg, 1) := by decide +kernel
theorem dX12_evenOf_47 : decode cX12_evenOf 47 = .ok (.ireturn, 1) := by decide +kernel
theorem dX12_evenOf_48 : decode cX12_evenOf 48 = .ok (.iinc 3 1, 3) := by decide +kernel
theorem dX12_evenOf_51 : decode cX12_evenOf 51 = .ok (.goto (-37), 3) := by decide +kernel
theorem dX12_evenOf_54 : decode cX12_evenOf 54 = .ok (.ldc 42, 2) := by decide +kernel
theorem dX12_evenOf_56 : decode cX12_evenOf 56 = .ok (.ireturn, 1) := by decide +kernel
theorem w_X12_evenOf_B14 {x : Int32} {z : ((Int32) ⊕ (Int32))} {Γ : Gam} {cy : Nat → ClassId} {a : Nat → Nat} {V : VT} {X : va_W} {v1 : Int32} {v2 : Int32}  (C0 : CXg Γ cX12_evenOf 4 4 RX12 cy) (hD : DM Γ cy a X) (h : f_X12_evenOf_B14 v1 v2 V x = some z) (hz : (Sum.elim (fun x : Int32 => Wp Γ 0 0 14 [(0, .ref (a 0)), (1, .int v1), (2, .int v2), (3, .int x)] [] (WM cy a V X)) (fun y : Int32 => FinI Γ cX12_evenOf (WM cy a V X) y)) z) : Wp Γ 0 0 14 [(0, .ref (a 0)), (1, .int v1), (2, .int v2), (3, .int x)] [] (WM cy a V X) := by
  unfold f_X12_evenOf_B14 at h
  refine r_iload_n C0 dX12_evenOf_14 rfl 3 rfl ?_
  refine r_sipush C0 dX12_evenOf_15 ks_2000 ?_
  refine r_icmp_gt C0 54 dX12_evenOf_18 rfl h (fun _ h => ?_) (fun _ h => ?_)
  · obtain ⟨y5, h5, h9⟩ := op_bind h
    clear h
    cases h9
    have hz := (el_inr hz)
    have h := h5
    refine r_ldc C0 tk_X12_42 dX12_evenOf_54 ?_
    cases h
    exact hz _ _ dX12_evenOf_56
  · refine r_aload_n C0 dX12_evenOf_21 rfl 0 rfl ?_
    refine r_iload_n C0 dX12_evenOf_22 rfl 1 rfl ?_
    refine r_iload_n C0 dX12_evenOf_23 rfl 2 rfl ?_
    refine r_iload_n C0 dX12_evenOf_24 rfl 3 rfl ?_
    refine r_iadd C0 dX12_evenOf_25 ?_
    refine callV2 C0 h (hD _) mw_X12_isBalanced rv_m tm_X12_150 (fun y hy => c_X12_isBalanced hy) (Nat.le_of_ble_eq_true rfl) (Nat.le_of_ble_eq_true rfl) dX12_evenOf_26 (fun r6 h => ?_)
    refine r_if_eq C0 34 dX12_evenOf_29 rfl h (fun _ h => ?_) (fun _ h => ?_)
    · refine r_aload_n C0 dX12_evenOf_34 rfl 0 rfl ?_
      refine r_iload_n C0 dX12_evenOf_35 rfl 1 rfl ?_
      refine r_iload_n C0 dX12_evenOf_36 rfl 2 rfl ?_
      refine r_iload_n C0 dX12_evenOf_37 rfl 3 rfl ?_
      refine r_isub C0 dX12_evenOf_38 ?_
      refine callV2 C0 h (hD _) mw_X12_isBalanced rv_m tm_X12_150 (fun y hy => c_X12_isBalanced hy) (Nat.le_of_ble_eq_true rfl) (Nat.le_of_ble_eq_true rfl) dX12_evenOf_39 (fun r7 h => ?_)
      refine r_if_eq C0 48 dX12_evenOf_42 rfl h (fun _ h => ?_) (fun _ h => ?_)
      · obtain ⟨a8, h8, h⟩ := op_bind h
        have e8 := Option.some.inj h8
        refine r_iinc (lv2 := [(3, .int a8), (0, .ref (a 0)), (1, .int v1), (2, .int v2)]) C0 dX12_evenOf_48 3 rfl ki_1 e8 (Nat.le_of_ble_eq_true rfl) rfl ?_
        refine r_goto C0 14 dX12_evenOf_51 rfl ?_
        cases h
        have hz := el_inl hz
        exact r_sub [1, 2, 3, 0] rfl hz
      · obtain ⟨y9, h5, h9⟩ := op_bind h
        clear h
        cases h9
        have hz := (el_inr hz)
        have h := h5
        refine r_iload_n C0 dX12_evenOf_45 rfl 3 rfl ?_
        refine r_ineg C0 dX12_evenOf_46 ?_
        cases h
        exact hz _ _ dX12_evenOf_47
    · obtain ⟨y10, h5, h9⟩ := op_bind h
      clear h
      cases h9
      have hz := (el_inr hz)
      have h := h5
      refine r_iload_n C0 dX12_evenOf_32 rfl 3 rfl ?_
      cases h
      exact hz _ _ dX12_evenOf_33
theorem w_X12_evenOf_B14_lp {x : Int32} {z : (Int32)} {Γ : Gam} {cy : Nat → ClassId} {a : Nat → Nat} {V : VT} {X : va_W} {v1 : Int32} {v2 : Int32}  (C0 : CXg Γ cX12_evenOf 4 4 RX12 cy) (hD : DM Γ cy a X) (h : lp (f_X12_evenOf_B14 v1 v2 V) fuel x = some z) (hz : (fun y : Int32 => FinI Γ cX12_evenOf (WM cy a V X) y) z) : Wp Γ 0 0 14 [(0, .ref (a 0)), (1, .int v1), (2, .int v2), (3, .int x)] [] (WM cy a V X) :=
  lp_rule (hd := (fun x : Int32 => Wp Γ 0 0 14 [(0, .ref (a 0)), (1, .int v1), (2, .int v2), (3, .int x)] [] (WM cy a V X))) (C := (fun y : Int32 => FinI Γ cX12_evenOf (WM cy a V X) y)) (fun x z h hz => w_X12_evenOf_B14 C0 hD h hz) _ _ _ h hz
theorem w_X12_evenOf {z : Int32} {Γ : Gam} {cy : Nat → ClassId} {a : Nat → Nat} {V : VT} {X : va_W} {v1 : Int32}  (C0 : CXg Γ cX12_evenOf 4 4 RX12 cy) (hD : DM Γ cy a X) (h : f_X12_evenOf v1 V = some z) (hz : (fun y : Int32 => FinI Γ cX12_evenOf (WM cy a V X) y) z) : Wp Γ 0 0 0 [(0, .ref (a 0)), (1, .int v1)] [] (WM cy a V X) := by
  unfold f_X12_evenOf at h
  refine r_aload_n C0 dX12_evenOf_0 rfl 0 rfl ?_
  refine wmg_0_0 C0 tf_X12_7 dX12_evenOf_1 ?_
  refine r_iload_n C0 dX12_evenOf_4 rfl 1 rfl ?_
  refine callS1 C0 h (hD _) ms_X12_bar0 tm_X12_51 (fun y hy => c_X12_bar0 hy) (Nat.le_of_ble_eq_true rfl) (Nat.le_of_ble_eq_true rfl) dX12_evenOf_5 (fun r1 h => ?_)
  refine r_iconst C0 dX12_evenOf_8 ki_4 ?_
  refine r_iadd C0 dX12_evenOf_9 ?_
  refine wmal_1 C0 h dX12_evenOf_10 (fun k2 h => ?_)
  obtain ⟨a3, h8, h⟩ := op_bind h
  have e8 := Option.some.inj h8
  refine r_istore_n (lv2 := [(2, .int a3), (0, .ref (a 0)), (1, .int v1)]) C0 dX12_evenOf_11 rfl e8 (Nat.le_of_ble_eq_true rfl) rfl ?_
  refine r_iconst C0 dX12_evenOf_12 ki_0 ?_
  obtain ⟨a4, h8, h⟩ := op_bind h
  have e8 := Option.some.inj h8
  refine r_istore_n (lv2 := [(3, .int a4), (2, .int a3), (0, .ref (a 0)), (1, .int v1)]) C0 dX12_evenOf_13 rfl e8 (Nat.le_of_ble_eq_true rfl) rfl ?_
  exact r_sub [2, 3, 1, 0] rfl (w_X12_evenOf_B14_lp C0 hD h hz)
theorem c_X12_evenOf {l : Launch} {D : va_G} {cy : Nat → ClassId} {a : Nat → Nat} {V : VT} {X : va_W} {v1 : Int32} {y : Int32} (h : f_X12_evenOf v1 V = some y) : CT l D cy yX12_evenOf cX12_evenOf 4 (some .int) 4 [.ref (a 0), .int v1] (WM cy a V X) (WM cy a V X) (some (.int y)) :=
  mkI (by decide) (Nat.le_of_ble_eq_true rfl) (fun Γ _ _ C0 hD hF => w_X12_evenOf C0 (dm_of hD) h hF)
theorem dX12_even_0 : decode cX12_even 0 = .ok (.iload_n 1, 1) := by decide +kernel
theorem dX12_even_1 : decode cX12_even 1 = .ok (.invokestatic 115, 3) := by decide +kernel
theorem dX12_even_4 : decode cX12_even 4 = .ok (.ifCond .eq 19, 3) := by decide +kernel
theorem dX12_even_7 : decode cX12_even 7 = .ok (.aload_n 0, 1) := by decide +kernel
theorem dX12_even_8 : decode cX12_even 8 = .ok (.iload_n 1, 1) := by decide +kernel
theorem dX12_even_9 : decode cX12_even 9 = .ok (.invokevirtual 66, 3) := by decide +kernel
theorem dX12_even_12 : decode cX12_even 12 = .ok (.ifCond .eq 11, 3) := by decide +kernel
theorem dX12_even_15 : decode cX12_even 15 = .ok (.aload_n 0, 1) := by decide +kernel
theorem dX12_even_16 : decode cX12_even 16 = .ok (.iload_n 1, 1) := by decide +kernel
theorem dX12_even_17 : decode cX12_even 17 = .ok (.invokevirtual 239, 3) := by decide +kernel
theorem dX12_even_20 : decode cX12_even 20 = .ok (.goto 5, 3) := by decide +kernel
theorem dX12_even_23 : decode cX12_even 23 = .ok (.ldc 42, 2) := by decide +kernel
theorem dX12_even_25 : decode cX12_even 25 = .ok (.ireturn, 1) := by decide +kernel
theorem w_X12_even_j23 {z : (Int32)} {Γ : Gam} {cy : Nat → ClassId} {a : Nat → Nat} {V : VT} {X : va_W}  (C0 : CXg Γ cX12_even 2 5 RX12 cy) (hD : DM Γ cy a X) (h : f_X12_even_j23 V = some z) (hz : (fun y : Int32 => FinI Γ cX12_even (WM cy a V X) y) z) : Wp Γ 0 0 23 [] [] (WM cy a V X) := by
  unfold f_X12_even_j23 at h
  refine r_ldc C0 tk_X12_42 dX12_even_23 ?_
  cases h
  exact hz _ _ dX12_even_25
theorem w_X12_even {z : Int32} {Γ : Gam} {cy : Nat → ClassId} {a : Nat → Nat} {V : VT} {X : va_W} {v1 : Int32}  (C0 : CXg Γ cX12_even 2 5 RX12 cy) (hD : DM Γ cy a X) (h : f_X12_even v1 V = some z) (hz : (fun y : Int32 => FinI Γ cX12_even (WM cy a V X) y) z) : Wp Γ 0 0 0 [(0, .ref (a 0)), (1, .int v1)] [] (WM cy a V X) := by
  unfold f_X12_even at h
  refine r_iload_n C0 dX12_even_0 rfl 1 rfl ?_
  refine callS1 C0 h (hD _) ms_X12_isBar tm_X12_115 (fun y hy => c_X12_isBar hy) (Nat.le_of_ble_eq_true rfl) (Nat.le_of_ble_eq_true rfl) dX12_even_1 (fun r1 h => ?_)
  refine r_if_eq C0 23 dX12_even_4 rfl h (fun _ h => ?_) (fun _ h => ?_)
  · exact r_sub [] rfl (w_X12_even_j23 C0 hD h hz)
  · refine r_aload_n C0 dX12_even_7 rfl 0 rfl ?_
    refine r_iload_n C0 dX12_even_8 rfl 1 rfl ?_
    refine callV1 C0 h (hD _) mw_X12_isRigged rv_m tm_X12_66 (fun y hy => c_X12_isRigged hy) (Nat.le_of_ble_eq_true rfl) (Nat.le_of_ble_eq_true rfl) dX12_even_9 (fun r2 h => ?_)
    refine r_if_eq C0 23 dX12_even_12 rfl h (fun _ h => ?_) (fun _ h => ?_)
    · exact r_sub [] rfl (w_X12_even_j23 C0 hD h hz)
    · refine r_aload_n C0 dX12_even_15 rfl 0 rfl ?_
      refine r_iload_n C0 dX12_even_16 rfl 1 rfl ?_
      refine callV1 C0 h (hD _) mw_X12_evenOf rv_m tm_X12_239 (fun y hy => c_X12_evenOf hy) (Nat.le_of_ble_eq_true rfl) (Nat.le_of_ble_eq_true rfl) dX12_even_17 (fun r3 h => ?_)
      refine r_goto C0 25 dX12_even_20 rfl ?_
      cases h
      exact hz _ _ dX12_even_25
theorem c_X12_even {l : Launch} {D : va_G} {cy : Nat → ClassId} {a : Nat → Nat} {V : VT} {X : va_W} {v1 : Int32} {y : Int32} (h : f_X12_even v1 V = some y) : CT l D cy yX12_even cX12_even 2 (some .int) 5 [.ref (a 0), .int v1] (WM cy a V X) (WM cy a V X) (some (.int y)) :=
  mkI (by decide) (Nat.le_of_ble_eq_true rfl) (fun Γ _ _ C0 hD hF => w_X12_even C0 (dm_of hD) h hF)
theorem dX12_least_0 : decode cX12_least 0 = .ok (.iconst 0, 1) := by decide +kernel
theorem dX12_least_1 : decode cX12_least 1 = .ok (.istore_n 1, 1) := by decide +kernel
theorem dX12_least_2 : decode cX12_least 2 = .ok (.iconst 0, 1) := by decide +kernel
theorem dX12_least_3 : decode cX12_least 3 = .ok (.istore_n 2, 1) := by decide +kernel
theorem dX12_least_4 : decode cX12_least 4 = .ok (.iload_n 2, 1) := by decide +kernel
theorem dX12_least_5 : decode cX12_least 5 = .ok (.bipush 12, 2) := by decide +kernel
theorem dX12_least_7 : decode cX12_least 7 = .ok (.if_icmp .ge 117, 3) := by decide +kernel
theorem dX12_least_10 : decode cX12_least 10 = .ok (.aload_n 0, 1) := by decide +kernel
theorem dX12_least_11 : decode cX12_least 11 = .ok (.iload_n 2, 1) := by decide +kernel
theorem dX12_least_12 : decode cX12_least 12 = .ok (.invokevirtual 66, 3) := by decide +kernel
theorem dX12_least_15 : decode cX12_least 15 = .ok (.ifCond .ne 6, 3) := by decide +kernel
theorem dX12_least_18 : decode cX12_least 18 = .ok (.goto 100, 3) := by decide +kernel
theorem dX12_least_21 : decode cX12_least 21 = .ok (.iconst 0, 1) := by decide +kernel
theorem dX12_least_22 : decode cX12_least 22 = .ok (.istore_n 3, 1) := by decide +kernel
theorem dX12_least_23 : decode cX12_least 23 = .ok (.iconst 0, 1) := by decide +kernel
theorem dX12_least_24 : decode cX12_least 24 = .ok (.istore 4, 2) := by decide +kernel
theorem dX12_least_26 : decode cX12_least 26 = .ok (.iload 4, 2) := by decide +kernel
theorem dX12_least_28 : decode cX12_least 28 = .ok (.aload_n 0, 1) := by decide +kernel
theorem dX12_least_29 : decode cX12_least 29 = .ok (.getfield 7, 3) := by decide +kernel
theorem dX12_least_32 : decode cX12_least 32 = .ok (.sipush 1642, 3) := by decide +kernel
theorem dX12_least_35 : decode cX12_least 35 = .ok (.iaload, 1) := by decide +kernel
theorem dX12_least_36 : decode cX12_least 36 = .ok (.if_icmp .ge 51, 3) := by decide +kernel
theorem dX12_least_39 : decode cX12_least 39 = .ok (.iload_n 3, 1) := by decide +kernel
theorem dX12_least_40 : decode cX12_least 40 = .ok (.ifCond .ne 35, 3) := by decide +kernel
theorem dX12_least_43 : decode cX12_least 43 = .ok (.aload_n 0, 1) := by decide +kernel
theorem dX12_least_44 : decode cX12_least 44 = .ok (.iload 4, 2) := by decide +kernel
theorem dX12_least_46 : decode cX12_least 46 = .ok (.invokevirtual 179, 3) := by decide +kernel
theorem dX12_least_49 : decode cX12_least 49 = .ok (.ifCond .eq 30, 3) := by decide +kernel
theorem dX12_least_52 : decode cX12_least 52 = .ok (.aload_n 0, 1) := by decide +kernel
theorem dX12_least_53 : decode cX12_least 53 = .ok (.iload 4, 2) := by decide +kernel
theorem dX12_least_55 : decode cX12_least 55 = .ok (.iconst 0, 1) := by decide +kernel
theorem dX12_least_56 : decode cX12_least 56 = .ok (.invokevirtual 140, 3) := by decide +kernel
theorem dX12_least_59 : decode cX12_least 59 = .ok (.aload_n 0, 1) := by decide +kernel
theorem dX12_least_60 : decode cX12_least 60 = .ok (.iload_n 2, 1) := by decide +kernel
theorem dX12_least_61 : decode cX12_least 61 = .ok (.invokevirtual 234, 3) := by decide +kernel
theorem dX12_least_64 : decode cX12_least 64 = .ok (.aload_n 0, 1) := by decide +kernel
theorem dX12_least_65 : decode cX12_least 65 = .ok (.iload_n 2, 1) := by decide +kernel
theorem dX12_least_66 : decode cX12_least 66 = .ok (.invokevirtual 156, 3) := by decide +kernel
theorem dX12_least_69 : decode cX12_least 69 = .ok (.invokestatic 47, 3) := by decide +kernel
theorem dX12_least_72 : decode cX12_least 72 = .ok (.ifCond .eq 7, 3) := by decide +kernel
theorem dX12_least_75 : decode cX12_least 75 = .ok (.iconst 1, 1) := by decide +kernel
theorem dX12_least_76 : decode cX12_least 76 = .ok (.goto 4, 3) := by decide +kernel
theorem dX12_least_79 : decode cX12_least 79 = .ok (.iconst 0, 1) := by decide +kernel
theorem dX12_least_80 : decode cX12_least 80 = .ok (.istore_n 3, 1) := by decide +kernel
theorem dX12_least_81 : decode cX12_least 81 = .ok (.iinc 4 1, 3) := by decide +kernel
theorem dX12_least_84 : decode cX12_least 84 = .ok (.goto (-58), 3) := by decide +kernel
theorem dX12_least_87 : decode cX12_least 87 = .ok (.iload_n 3, 1) := by decide +kernel
theorem dX12_least_88 : decode cX12_least 88 = .ok (.ifCond .eq 11, 3) := by decide +kernel
theorem dX12_least_91 : decode cX12_least 91 = .ok (.aload_n 0, 1) := by decide +kernel
theorem dX12_least_92 : decode cX12_least 92 = .ok (.iload_n 2, 1) := by decide +kernel
theorem dX12_least_93 : decode cX12_least 93 = .ok (.invokevirtual 239, 3) := by decide +kernel
theorem dX12_least_96 : decode cX12_least 96 = .ok (.goto 4, 3) := by decide +kernel
theorem dX12_least_99 : decode cX12_least 99 = .ok (.iconst 0, 1) := by decide +kernel
theorem dX12_least_100 : decode cX12_least 100 = .ok (.istore 4, 2) := by decide +kernel
theorem dX12_least_102 : decode cX12_least 102 = .ok (.iload_n 1, 1) := by decide +kernel
theorem dX12_least_103 : decode cX12_least 103 = .ok (.iload 4, 2) := by decide +kernel
theorem dX12_least_105 : decode cX12_least 105 = .ok (.ifCond .ge 9, 3) := by decide +kernel
theorem dX12_least_108 : decode cX12_least 108 = .ok (.iload 4, 2) := by decide +kernel
theorem dX12_least_110 : decode cX12_least 110 = .ok (.ineg, 1) := by decide +kernel
theorem dX12_least_111 : decode cX12_least 111 = .ok (.goto 5, 3) := by decide +kernel
theorem dX12_least_114 : decode cX12_least 114 = .ok (.iload 4, 2) := by decide +kernel
theorem dX12_least_116 : decode cX12_least 116 = .ok (.iadd, 1) := by decide +kernel
theorem dX12_least_117 : decode cX12_least 117 = .ok (.istore_n 1, 1) := by decide +kernel
theorem dX12_least_118 : decode cX12_least 118 = .ok (.iinc 2 1, 3) := by decide +kernel
theorem dX12_least_121 : decode cX12_least 121 = .ok (.goto (-117), 3) := by decide +kernel
theorem dX12_least_124 : decode cX12_least 124 = .ok (.iload_n 1, 1) := by decide +kernel
theorem dX12_least_125 : decode cX12_least 125 = .ok (.ireturn, 1) := by decide +kernel
theorem w_X12_least_j118 {z : ((Int32 × Int32) ⊕ (Int32))} {Γ : Gam} {cy : Nat → ClassId} {a : Nat → Nat} {V : VT} {X : va_W} {v1 : Int32} {v2 : Int32}  (C0 : CXg Γ cX12_least 5 5 RX12 cy) (hD : DM Γ cy a X) (h : f_X12_least_j118 v1 v2 V = some z) (hz : (Sum.elim (fun x : Int32 × Int32 => Wp Γ 0 0 4 [(0, .ref (a 0)), (1, .int x.1), (2, .int x.2)] [] (WM cy a V X)) (fun y : Int32 => FinI Γ cX12_least (WM cy a V X) y)) z) : Wp Γ 0 0 118 [(0, .ref (a 0)), (1, .int v1), (2, .int v2)] [] (WM cy a V X) := by
  unfold f_X12_least_j118 at h
  obtain ⟨a10, h8, h⟩ := op_bind h
  have e8 := Option.some.inj h8
  refine r_iinc (lv2 := [(2, .int a10), (0, .ref (a 0)), (1, .int v1)]) C0 dX12_least_118 2 rfl ki_1 e8 (Nat.le_of_ble_eq_true rfl) rfl ?_
  refine r_goto C0 4 dX12_least_121 rfl ?_
  cases h
  have hz := el_inl hz
  exact r_sub [1, 2, 0] rfl hz
theorem w_X12_least_j116 {z : ((Int32 × Int32) ⊕ (Int32))} {Γ : Gam} {cy : Nat → ClassId} {a : Nat → Nat} {V : VT} {X : va_W} {v2 : Int32} {s0 : Int32} {s1 : Int32}  (C0 : CXg Γ cX12_least 5 5 RX12 cy) (hD : DM Γ cy a X) (h : f_X12_least_j116 v2 s0 s1 V = some z) (hz : (Sum.elim (fun x : Int32 × Int32 => Wp Γ 0 0 4 [(0, .ref (a 0)), (1, .int x.1), (2, .int x.2)] [] (WM cy a V X)) (fun y : Int32 => FinI Γ cX12_least (WM cy a V X) y)) z) : Wp Γ 0 0 116 [(0, .ref (a 0)), (2, .int v2)] [.int s1, .int s0] (WM cy a V X) := by
  unfold f_X12_least_j116 at h
  refine r_iadd C0 dX12_least_116 ?_
  obtain ⟨a9, h8, h⟩ := op_bind h
  have e8 := Option.some.inj h8
  refine r_istore_n (lv2 := [(1, .int a9), (0, .ref (a 0)), (2, .int v2)]) C0 dX12_least_117 rfl e8 (Nat.le_of_ble_eq_true rfl) rfl ?_
  exact r_sub [1, 0, 2] rfl (w_X12_least_j118 C0 hD h hz)
theorem w_X12_least_j100 {z : ((Int32 × Int32) ⊕ (Int32))} {Γ : Gam} {cy : Nat → ClassId} {a : Nat → Nat} {V : VT} {X : va_W} {v1 : Int32} {v2 : Int32} {s0 : Int32}  (C0 : CXg Γ cX12_least 5 5 RX12 cy) (hD : DM Γ cy a X) (h : f_X12_least_j100 v1 v2 s0 V = some z) (hz : (Sum.elim (fun x : Int32 × Int32 => Wp Γ 0 0 4 [(0, .ref (a 0)), (1, .int x.1), (2, .int x.2)] [] (WM cy a V X)) (fun y : Int32 => FinI Γ cX12_least (WM cy a V X) y)) z) : Wp Γ 0 0 100 [(0, .ref (a 0)), (1, .int v1), (2, .int v2)] [.int s0] (WM cy a V X) := by
  unfold f_X12_least_j100 at h
  refine r_istore (lv2 := [(4, .int s0), (0, .ref (a 0)), (1, .int v1), (2, .int v2)]) C0 dX12_least_100 rfl (Nat.le_of_ble_eq_true rfl) rfl ?_
  refine r_iload_n C0 dX12_least_102 rfl 2 rfl ?_
  refine r_iload C0 dX12_least_103 0 rfl ?_
  refine r_if_ge C0 114 dX12_least_105 rfl h (fun _ h => ?_) (fun _ h => ?_)
  · refine r_iload C0 dX12_least_114 0 rfl ?_
    exact r_sub [1, 3] rfl (w_X12_least_j116 C0 hD h hz)
  · refine r_iload C0 dX12_least_108 0 rfl ?_
    refine r_ineg C0 dX12_least_110 ?_
    refine r_goto C0 116 dX12_least_111 rfl ?_
    exact r_sub [1, 3] rfl (w_X12_least_j116 C0 hD h hz)
theorem w_X12_least_j80 {z : ((Int32 × Int32) ⊕ ((Int32 × Int32) ⊕ (Int32)))} {Γ : Gam} {cy : Nat → ClassId} {a : Nat → Nat} {V : VT} {X : va_W} {v1 : Int32} {v2 : Int32} {v4 : Int32} {s0 : Int32}  (C0 : CXg Γ cX12_least 5 5 RX12 cy) (hD : DM Γ cy a X) (h : f_X12_least_j80 v1 v2 v4 s0 V = some z) (hz : (Sum.elim (fun x : Int32 × Int32 => Wp Γ 0 0 26 [(0, .ref (a 0)), (1, .int v1), (2, .int v2), (3, .int x.1), (4, .int x.2)] [] (WM cy a V X)) (Sum.elim (fun x : Int32 × Int32 => Wp Γ 0 0 4 [(0, .ref (a 0)), (1, .int x.1), (2, .int x.2)] [] (WM cy a V X)) (fun y : Int32 => FinI Γ cX12_least (WM cy a V X) y))) z) : Wp Γ 0 0 80 [(0, .ref (a 0)), (1, .int v1), (2, .int v2), (4, .int v4)] [.int s0] (WM cy a V X) := by
  unfold f_X12_least_j80 at h
  refine r_istore_n (lv2 := [(3, .int s0), (0, .ref (a 0)), (1, .int v1), (2, .int v2), (4, .int v4)]) C0 dX12_least_80 rfl rfl (Nat.le_of_ble_eq_true rfl) rfl ?_
  obtain ⟨a12, h8, h⟩ := op_bind h
  have e8 := Option.some.inj h8
  refine r_iinc (lv2 := [(4, .int a12), (3, .int s0), (0, .ref (a 0)), (1, .int v1), (2, .int v2)]) C0 dX12_least_81 4 rfl ki_1 e8 (Nat.le_of_ble_eq_true rfl) rfl ?_
  refine r_goto C0 26 dX12_least_84 rfl ?_
  cases h
  have hz := el_inl hz
  exact r_sub [2, 3, 4, 1, 0] rfl hz
theorem w_X12_least_j75 {z : ((Int32 × Int32) ⊕ ((Int32 × Int32) ⊕ (Int32)))} {Γ : Gam} {cy : Nat → ClassId} {a : Nat → Nat} {V : VT} {X : va_W} {v1 : Int32} {v2 : Int32} {v4 : Int32}  (C0 : CXg Γ cX12_least 5 5 RX12 cy) (hD : DM Γ cy a X) (h : f_X12_least_j75 v1 v2 v4 V = some z) (hz : (Sum.elim (fun x : Int32 × Int32 => Wp Γ 0 0 26 [(0, .ref (a 0)), (1, .int v1), (2, .int v2), (3, .int x.1), (4, .int x.2)] [] (WM cy a V X)) (Sum.elim (fun x : Int32 × Int32 => Wp Γ 0 0 4 [(0, .ref (a 0)), (1, .int x.1), (2, .int x.2)] [] (WM cy a V X)) (fun y : Int32 => FinI Γ cX12_least (WM cy a V X) y))) z) : Wp Γ 0 0 75 [(0, .ref (a 0)), (1, .int v1), (2, .int v2), (4, .int v4)] [] (WM cy a V X) := by
  unfold f_X12_least_j75 at h
  refine r_iconst C0 dX12_least_75 ki_1 ?_
  refine r_goto C0 80 dX12_least_76 rfl ?_
  exact r_sub [0, 1, 2, 3] rfl (w_X12_least_j80 C0 hD h hz)
theorem w_X12_least_j79 {z : ((Int32 × Int32) ⊕ ((Int32 × Int32) ⊕ (Int32)))} {Γ : Gam} {cy : Nat → ClassId} {a : Nat → Nat} {V : VT} {X : va_W} {v1 : Int32} {v2 : Int32} {v4 : Int32}  (C0 : CXg Γ cX12_least 5 5 RX12 cy) (hD : DM Γ cy a X) (h : f_X12_least_j79 v1 v2 v4 V = some z) (hz : (Sum.elim (fun x : Int32 × Int32 => Wp Γ 0 0 26 [(0, .ref (a 0)), (1, .int v1), (2, .int v2), (3, .int x.1), (4, .int x.2)] [] (WM cy a V X)) (Sum.elim (fun x : Int32 × Int32 => Wp Γ 0 0 4 [(0, .ref (a 0)), (1, .int x.1), (2, .int x.2)] [] (WM cy a V X)) (fun y : Int32 => FinI Γ cX12_least (WM cy a V X) y))) z) : Wp Γ 0 0 79 [(0, .ref (a 0)), (1, .int v1), (2, .int v2), (4, .int v4)] [] (WM cy a V X) := by
  unfold f_X12_least_j79 at h
  refine r_iconst C0 dX12_least_79 ki_0 ?_
  exact r_sub [0, 1, 2, 3] rfl (w_X12_least_j80 C0 hD h hz)
theorem w_X12_least_B26 {x : Int32 × Int32} {z : ((Int32 × Int32) ⊕ ((Int32 × Int32) ⊕ (Int32)))} {Γ : Gam} {cy : Nat → ClassId} {a : Nat → Nat} {V : VT} {X : va_W} {v1 : Int32} {v2 : Int32}  (C0 : CXg Γ cX12_least 5 5 RX12 cy) (hD : DM Γ cy a X) (h : f_X12_least_B26 v1 v2 V x = some z) (hz : (Sum.elim (fun x : Int32 × Int32 => Wp Γ 0 0 26 [(0, .ref (a 0)), (1, .int v1), (2, .int v2), (3, .int x.1), (4, .int x.2)] [] (WM cy a V X)) (Sum.elim (fun x : Int32 × Int32 => Wp Γ 0 0 4 [(0, .ref (a 0)), (1, .int x.1), (2, .int x.2)] [] (WM cy a V X)) (fun y : Int32 => FinI Γ cX12_least (WM cy a V X) y))) z) : Wp Γ 0 0 26 [(0, .ref (a 0)), (1, .int v1), (2, .int v2), (3, .int x.1), (4, .int x.2)] [] (WM cy a V X) := by
  unfold f_X12_least_B26 at h
  refine r_iload C0 dX12_least_26 4 rfl ?_
  refine r_aload_n C0 dX12_least_28 rfl 0 rfl ?_
  refine wmg_0_0 C0 tf_X12_7 dX12_least_29 ?_
  refine r_sipush C0 dX12_least_32 ks_1642 ?_
  refine wmal_1 C0 h dX12_least_35 (fun k7 h => ?_)
  refine r_icmp_ge C0 87 dX12_least_36 rfl h (fun _ h => ?_) (fun _ h => ?_)
  · obtain ⟨y8, h5, h9⟩ := op_bind h
    clear h
    cases h9
    have hz := (el_inr hz)
    have h := h5
    refine r_iload_n C0 dX12_least_87 rfl 3 rfl ?_
    refine r_if_eq C0 99 dX12_least_88 rfl h (fun _ h => ?_) (fun _ h => ?_)
    · refine r_iconst C0 dX12_least_99 ki_0 ?_
      exact r_sub [0, 1, 2] rfl (w_X12_least_j100 C0 hD h hz)
    · refine r_aload_n C0 dX12_least_91 rfl 0 rfl ?_
      refine r_iload_n C0 dX12_least_92 rfl 2 rfl ?_
      refine callV1 C0 h (hD _) mw_X12_evenOf rv_m tm_X12_239 (fun y hy => c_X12_evenOf hy) (Nat.le_of_ble_eq_true rfl) (Nat.le_of_ble_eq_true rfl) dX12_least_93 (fun r11 h => ?_)
      refine r_goto C0 100 dX12_least_96 rfl ?_
      exact r_sub [0, 1, 2] rfl (w_X12_least_j100 C0 hD h hz)
  · refine r_iload_n C0 dX12_least_39 rfl 3 rfl ?_
    refine r_if_ne C0 75 dX12_least_40 rfl h (fun _ h => ?_) (fun _ h => ?_)
    · exact r_sub [0, 1, 2, 4] rfl (w_X12_least_j75 C0 hD h hz)
    · refine r_aload_n C0 dX12_least_43 rfl 0 rfl ?_
      refine r_iload C0 dX12_least_44 4 rfl ?_
      refine callV1 C0 h (hD _) mw_X12_isNotOver rv_m tm_X12_179 (fun y hy => c_X12_isNotOver hy) (Nat.le_of_ble_eq_true rfl) (Nat.le_of_ble_eq_true rfl) dX12_least_46 (fun r13 h => ?_)
      refine r_if_eq C0 79 dX12_least_49 rfl h (fun _ h => ?_) (fun _ h => ?_)
      · exact r_sub [0, 1, 2, 4] rfl (w_X12_least_j79 C0 hD h hz)
      · refine r_aload_n C0 dX12_least_52 rfl 0 rfl ?_
        refine r_iload C0 dX12_least_53 4 rfl ?_
        refine r_iconst C0 dX12_least_55 ki_0 ?_
        refine callV2 C0 h (hD _) mw_X12_cueIs rv_m tm_X12_140 (fun y hy => c_X12_cueIs hy) (Nat.le_of_ble_eq_true rfl) (Nat.le_of_ble_eq_true rfl) dX12_least_56 (fun r14 h => ?_)
        refine r_aload_n C0 dX12_least_59 rfl 0 rfl ?_
        refine r_iload_n C0 dX12_least_60 rfl 2 rfl ?_
        refine callV1 C0 h (hD _) mw_X12_firstOfGroup rv_m tm_X12_234 (fun y hy => c_X12_firstOfGroup hy) (Nat.le_of_ble_eq_true rfl) (Nat.le_of_ble_eq_true rfl) dX12_least_61 (fun r15 h => ?_)
        refine r_aload_n C0 dX12_least_64 rfl 0 rfl ?_
        refine r_iload_n C0 dX12_least_65 rfl 2 rfl ?_
        refine callV1 C0 h (hD _) mw_X12_lastOfGroup rv_m tm_X12_156 (fun y hy => c_X12_lastOfGroup hy) (Nat.le_of_ble_eq_true rfl) (Nat.le_of_ble_eq_true rfl) dX12_least_66 (fun r16 h => ?_)
        refine callS3 C0 h (hD _) ms_X12_in tm_X12_47 (fun y hy => c_X12_in hy) (Nat.le_of_ble_eq_true rfl) (Nat.le_of_ble_eq_true rfl) dX12_least_69 (fun r17 h => ?_)
        refine r_if_eq C0 79 dX12_least_72 rfl h (fun _ h => ?_) (fun _ h => ?_)
        · exact r_sub [0, 1, 2, 4] rfl (w_X12_least_j79 C0 hD h hz)
        · exact r_sub [0, 1, 2, 4] rfl (w_X12_least_j75 C0 hD h hz)
theorem w_X12_least_B26_lp {x : Int32 × Int32} {z : ((Int32 × Int32) ⊕ (Int32))} {Γ : Gam} {cy : Nat → ClassId} {a : Nat → Nat} {V : VT} {X : va_W} {v1 : Int32} {v2 : Int32}  (C0 : CXg Γ cX12_least 5 5 RX12 cy) (hD : DM Γ cy a X) (h : lp (f_X12_least_B26 v1 v2 V) fuel x = some z) (hz : (Sum.elim (fun x : Int32 × Int32 => Wp Γ 0 0 4 [(0, .ref (a 0)), (1, .int x.1), (2, .int x.2)] [] (WM cy a V X)) (fun y : Int32 => FinI Γ cX12_least (WM cy a V X) y)) z) : Wp Γ 0 0 26 [(0, .ref (a 0)), (1, .int v1), (2, .int v2), (3, .int x.1), (4, .int x.2)] [] (WM cy a V X) :=
  lp_rule (hd := (fun x : Int32 × Int32 => Wp Γ 0 0 26 [(0, .ref (a 0)), (1, .int v1), (2, .int v2), (3, .int x.1), (4, .int x.2)] [] (WM cy a V X))) (C := (Sum.elim (fun x : Int32 × Int32 => Wp Γ 0 0 4 [(0, .ref (a 0)), (1, .int x.1), (2, .int x.2)] [] (WM cy a V X)) (fun y : Int32 => FinI Γ cX12_least (WM cy a V X) y))) (fun x z h hz => w_X12_least_B26 C0 hD h hz) _ _ _ h hz
theorem w_X12_least_B4 {x : Int32 × Int32} {z : ((Int32 × Int32) ⊕ (Int32))} {Γ : Gam} {cy : Nat → ClassId} {a : Nat → Nat} {V : VT} {X : va_W}  (C0 : CXg Γ cX12_least 5 5 RX12 cy) (hD : DM Γ cy a X) (h : f_X12_least_B4 V x = some z) (hz : (Sum.elim (fun x : Int32 × Int32 => Wp Γ 0 0 4 [(0, .ref (a 0)), (1, .int x.1), (2, .int x.2)] [] (WM cy a V X)) (fun y : Int32 => FinI Γ cX12_least (WM cy a V X) y)) z) : Wp Γ 0 0 4 [(0, .ref (a 0)), (1, .int x.1), (2, .int x.2)] [] (WM cy a V X) := by
  unfold f_X12_least_B4 at h
  refine r_iload_n C0 dX12_least_4 rfl 2 rfl ?_
  refine r_bipush C0 dX12_least_5 kb_12 ?_
  refine r_icmp_ge C0 124 dX12_least_7 rfl h (fun _ h => ?_) (fun _ h => ?_)
  · obtain ⟨y3, h5, h9⟩ := op_bind h
    clear h
    cases h9
    have hz := (el_inr hz)
    have h := h5
    refine r_iload_n C0 dX12_least_124 rfl 1 rfl ?_
    cases h
    exact hz _ _ dX12_least_125
  · refine r_aload_n C0 dX12_least_10 rfl 0 rfl ?_
    refine r_iload_n C0 dX12_least_11 rfl 2 rfl ?_
    refine callV1 C0 h (hD _) mw_X12_isRigged rv_m tm_X12_66 (fun y hy => c_X12_isRigged hy) (Nat.le_of_ble_eq_true rfl) (Nat.le_of_ble_eq_true rfl) dX12_least_12 (fun r4 h => ?_)
    refine r_if_ne C0 21 dX12_least_15 rfl h (fun _ h => ?_) (fun _ h => ?_)
    · refine r_iconst C0 dX12_least_21 ki_0 ?_
      obtain ⟨a5, h8, h⟩ := op_bind h
      have e8 := Option.some.inj h8
      refine r_istore_n (lv2 := [(3, .int a5), (0, .ref (a 0)), (1, .int x.1), (2, .int x.2)]) C0 dX12_least_22 rfl e8 (Nat.le_of_ble_eq_true rfl) rfl ?_
      refine r_iconst C0 dX12_least_23 ki_0 ?_
      obtain ⟨a6, h8, h⟩ := op_bind h
      have e8 := Option.some.inj h8
      refine r_istore (lv2 := [(4, .int a6), (3, .int a5), (0, .ref (a 0)), (1, .int x.1), (2, .int x.2)]) C0 dX12_least_24 e8 (Nat.le_of_ble_eq_true rfl) rfl ?_
      exact r_sub [2, 3, 4, 1, 0] rfl (w_X12_least_B26_lp C0 hD h hz)
    · refine r_goto C0 118 dX12_least_18 rfl ?_
      exact r_sub [0, 1, 2] rfl (w_X12_least_j118 C0 hD h hz)
theorem w_X12_least_B4_lp {x : Int32 × Int32} {z : (Int32)} {Γ : Gam} {cy : Nat → ClassId} {a : Nat → Nat} {V : VT} {X : va_W}  (C0 : CXg Γ cX12_least 5 5 RX12 cy) (hD : DM Γ cy a X) (h : lp (f_X12_least_B4 V) fuel x = some z) (hz : (fun y : Int32 => FinI Γ cX12_least (WM cy a V X) y) z) : Wp Γ 0 0 4 [(0, .ref (a 0)), (1, .int x.1), (2, .int x.2)] [] (WM cy a V X) :=
  lp_rule (hd := (fun x : Int32 × Int32 => Wp Γ 0 0 4 [(0, .ref (a 0)), (1, .int x.1), (2, .int x.2)] [] (WM cy a V X))) (C := (fun y : Int32 => FinI Γ cX12_least (WM cy a V X) y)) (fun x z h hz => w_X12_least_B4 C0 hD h hz) _ _ _ h hz
theorem w_X12_least {z : Int32} {Γ : Gam} {cy : Nat → ClassId} {a : Nat → Nat} {V : VT} {X : va_W}  (C0 : CXg Γ cX12_least 5 5 RX12 cy) (hD : DM Γ cy a X) (h : f_X12_least V = some z) (hz : (fun y : Int32 => FinI Γ cX12_least (WM cy a V X) y) z) : Wp Γ 0 0 0 [(0, .ref (a 0))] [] (WM cy a V X) := by
  unfold f_X12_least at h
  refine r_iconst C0 dX12_least_0 ki_0 ?_
  obtain ⟨a1, h8, h⟩ := op_bind h
  have e8 := Option.some.inj h8
  refine r_istore_n (lv2 := [(1, .int a1), (0, .ref (a 0))]) C0 dX12_least_1 rfl e8 (Nat.le_of_ble_eq_true rfl) rfl ?_
  refine r_iconst C0 dX12_least_2 ki_0 ?_
  obtain ⟨a2, h8, h⟩ := op_bind h
  have e8 := Option.some.inj h8
  refine r_istore_n (lv2 := [(2, .int a2), (1, .int a1), (0, .ref (a 0))]) C0 dX12_least_3 rfl e8 (Nat.le_of_ble_eq_true rfl) rfl ?_
  exact r_sub [2, 1, 0] rfl (w_X12_least_B4_lp C0 hD h hz)
theorem c_X12_least {l : Launch} {D : va_G} {cy : Nat → ClassId} {a : Nat → Nat} {V : VT} {X : va_W} {y : Int32} (h : f_X12_least V = some y) : CT l D cy yX12_least cX12_least 5 (some .int) 5 [.ref (a 0)] (WM cy a V X) (WM cy a V X) (some (.int y)) :=
  mkI (by decide) (Nat.le_of_ble_eq_true rfl) (fun Γ _ _ C0 hD hF => w_X12_least C0 (dm_of hD) h hF)
theorem dX12_stop_0 : decode cX12_stop 0 = .ok (.aload_n 0, 1) := by decide +kernel
theorem dX12_stop_1 : decode cX12_stop 1 = .ok (.getfield 7, 3) := by decide +kernel
theorem dX12_stop_4 : decode cX12_stop 4 = .ok (.sipush 1643, 3) := by decide +kernel
theorem dX12_stop_7 : decode cX12_stop 7 = .ok (.iaload, 1) := by decide +kernel
theorem dX12_stop_8 : decode cX12_stop 8 = .ok (.bipush 40, 2) := by decide +kernel
theorem dX12_stop_10 : decode cX12_stop 10 = .ok (.if_icmp .ge 14, 3) := by decide +kernel
theorem dX12_stop_13 : decode cX12_stop 13 = .ok (.aload_n 0, 1) := by decide +kernel
theorem dX12_stop_14 : decode cX12_stop 14 = .ok (.getfield 7, 3) := by decide +kernel
theorem dX12_stop_17 : decode cX12_stop 17 = .ok (.sipush 1643, 3) := by decide +kernel
theorem dX12_stop_20 : decode cX12_stop 20 = .ok (.iaload, 1) := by decide +kernel
theorem dX12_stop_21 : decode cX12_stop 21 = .ok (.goto 5, 3) := by decide +kernel
theorem dX12_stop_24 : decode cX12_stop 24 = .ok (.bipush 40, 2) := by decide +kernel
theorem dX12_stop_26 : decode cX12_stop 26 = .ok (.istore_n 3, 1) := by decide +kernel
theorem dX12_stop_27 : decode cX12_stop 27 = .ok (.iload_n 1, 1) := by decide +kernel
theorem dX12_stop_28 : decode cX12_stop 28 = .ok (.ifCond .lt 17, 3) := by decide +kernel
theorem dX12_stop_31 : decode cX12_stop 31 = .ok (.iload_n 1, 1) := by decide +kernel
theorem dX12_stop_32 : decode cX12_stop 32 = .ok (.iload_n 3, 1) := by decide +kernel
theorem dX12_stop_33 : decode cX12_stop 33 = .ok (.if_icmp .ge 12, 3) := by decide +kernel
theorem dX12_stop_36 : decode cX12_stop 36 = .ok (.iload_n 2, 1) := by decide +kernel
theorem dX12_stop_37 : decode cX12_stop 37 = .ok (.iconst 0, 1) := by decide +kernel
theorem dX12_stop_38 : decode cX12_stop 38 = .ok (.iconst 4, 1) := by decide +kernel
theorem dX12_stop_39 : decode cX12_stop 39 = .ok (.invokestatic 47, 3) := by decide +kernel
theorem dX12_stop_42 : decode cX12_stop 42 = .ok (.ifCond .ne 8, 3) := by decide +kernel
theorem dX12_stop_45 : decode cX12_stop 45 = .ok (.ldc 42, 2) := by decide +kernel
theorem dX12_stop_47 : decode cX12_stop 47 = .ok (.goto 21, 3) := by decide +kernel
theorem dX12_stop_50 : decode cX12_stop 50 = .ok (.aload_n 0, 1) := by decide +kernel
theorem dX12_stop_51 : decode cX12_stop 51 = .ok (.getfield 7, 3) := by decide +kernel
theorem dX12_stop_54 : decode cX12_stop 54 = .ok (.sipush 1440, 3) := by decide +kernel
theorem dX12_stop_57 : decode cX12_stop 57 = .ok (.iconst 5, 1) := by decide +kernel
theorem dX12_stop_58 : decode cX12_stop 58 = .ok (.iload_n 3, 1) := by decide +kernel
theorem dX12_stop_59 : decode cX12_stop 59 = .ok (.iconst 1, 1) := by decide +kernel
theorem dX12_stop_60 : decode cX12_stop 60 = .ok (.isub, 1) := by decide +kernel
theorem dX12_stop_61 : decode cX12_stop 61 = .ok (.iload_n 1, 1) := by decide +kernel
theorem dX12_stop_62 : decode cX12_stop 62 = .ok (.isub, 1) := by decide +kernel
theorem dX12_stop_63 : decode cX12_stop 63 = .ok (.imul, 1) := by decide +kernel
theorem dX12_stop_64 : decode cX12_stop 64 = .ok (.iadd, 1) := by decide +kernel
theorem dX12_stop_65 : decode cX12_stop 65 = .ok (.iload_n 2, 1) := by decide +kernel
theorem dX12_stop_66 : decode cX12_stop 66 = .ok (.iadd, 1) := by decide +kernel
theorem dX12_stop_67 : decode cX12_stop 67 = .ok (.iaload, 1) := by decide +kernel
theorem dX12_stop_68 : decode cX12_stop 68 = .ok (.ireturn, 1) := by decide +kernel
theorem w_X12_stop_j45 {z : (Int32)} {Γ : Gam} {cy : Nat → ClassId} {a : Nat → Nat} {V : VT} {X : va_W}  (C0 : CXg Γ cX12_stop 4 1 RX12 cy) (hD : DM Γ cy a X) (h : f_X12_stop_j45 V = some z) (hz : (fun y : Int32 => FinI Γ cX12_stop (WM cy a V X) y) z) : Wp Γ 0 0 45 [] [] (WM cy a V X) := by
  unfold f_X12_stop_j45 at h
  refine r_ldc C0 tk_X12_42 dX12_stop_45 ?_
  refine r_goto C0 68 dX12_stop_47 rfl ?_
  cases h
  exact hz _ _ dX12_stop_68
theorem w_X12_stop_j26 {z : (Int32)} {Γ : Gam} {cy : Nat → ClassId} {a : Nat → Nat} {V : VT} {X : va_W} {v1 : Int32} {v2 : Int32} {s0 : Int32}  (C0 : CXg Γ cX12_stop 4 1 RX12 cy) (hD : DM Γ cy a X) (h : f_X12_stop_j26 v1 v2 s0 V = some z) (hz : (fun y : Int32 => FinI Γ cX12_stop (WM cy a V X) y) z) : Wp Γ 0 0 26 [(0, .ref (a 0)), (1, .int v1), (2, .int v2)] [.int s0] (WM cy a V X) := by
  unfold f_X12_stop_j26 at h
  refine r_istore_n (lv2 := [(3, .int s0), (0, .ref (a 0)), (1, .int v1), (2, .int v2)]) C0 dX12_stop_26 rfl rfl (Nat.le_of_ble_eq_true rfl) rfl ?_
  refine r_iload_n C0 dX12_stop_27 rfl 2 rfl ?_
  refine r_if_lt C0 45 dX12_stop_28 rfl h (fun _ h => ?_) (fun _ h => ?_)
  · exact r_sub [] rfl (w_X12_stop_j45 C0 hD h hz)
  · refine r_iload_n C0 dX12_stop_31 rfl 2 rfl ?_
    refine r_iload_n C0 dX12_stop_32 rfl 0 rfl ?_
    refine r_icmp_ge C0 45 dX12_stop_33 rfl h (fun _ h => ?_) (fun _ h => ?_)
    · exact r_sub [] rfl (w_X12_stop_j45 C0 hD h hz)
    · refine r_iload_n C0 dX12_stop_36 rfl 3 rfl ?_
      refine r_iconst C0 dX12_stop_37 ki_0 ?_
      refine r_iconst C0 dX12_stop_38 ki_4 ?_
      refine callS3 C0 h (hD _) ms_X12_in tm_X12_47 (fun y hy => c_X12_in hy) (Nat.le_of_ble_eq_true rfl) (Nat.le_of_ble_eq_true rfl) dX12_stop_39 (fun r2 h => ?_)
      refine r_if_ne C0 50 dX12_stop_42 rfl h (fun _ h => ?_) (fun _ h => ?_)
      · refine r_aload_n C0 dX12_stop_50 rfl 1 rfl ?_
        refine wmg_0_0 C0 tf_X12_7 dX12_stop_51 ?_
        refine r_sipush C0 dX12_stop_54 ks_1440 ?_
        refine r_iconst C0 dX12_stop_57 ki_5 ?_
        refine r_iload_n C0 dX12_stop_58 rfl 0 rfl ?_
        refine r_iconst C0 dX12_stop_59 ki_1 ?_
        refine r_isub C0 dX12_stop_60 ?_
        refine r_iload_n C0 dX12_stop_61 rfl 2 rfl ?_
        refine r_isub C0 dX12_stop_62 ?_
        refine r_imul C0 dX12_stop_63 ?_
        refine r_iadd C0 dX12_stop_64 ?_
        refine r_iload_n C0 dX12_stop_65 rfl 3 rfl ?_
        refine r_iadd C0 dX12_stop_66 ?_
        refine wmal_1 C0 h dX12_stop_67 (fun k3 h => ?_)
        cases h
        exact hz _ _ dX12_stop_68
      · exact r_sub [] rfl (w_X12_stop_j45 C0 hD h hz)
theorem w_X12_stop {z : Int32} {Γ : Gam} {cy : Nat → ClassId} {a : Nat → Nat} {V : VT} {X : va_W} {v1 : Int32} {v2 : Int32}  (C0 : CXg Γ cX12_stop 4 1 RX12 cy) (hD : DM Γ cy a X) (h : f_X12_stop v1 v2 V = some z) (hz : (fun y : Int32 => FinI Γ cX12_stop (WM cy a V X) y) z) : Wp Γ 0 0 0 [(0, .ref (a 0)), (1, .int v1), (2, .int v2)] [] (WM cy a V X) := by
  unfold f_X12_stop at h
  refine r_aload_n C0 dX12_stop_0 rfl 0 rfl ?_
  refine wmg_0_0 C0 tf_X12_7 dX12_stop_1 ?_
  refine r_sipush C0 dX12_stop_4 ks_1643 ?_
  refine wmal_1 C0 h dX12_stop_7 (fun k1 h => ?_)
  refine r_bipush C0 dX12_stop_8 kb_40 ?_
  refine r_icmp_ge C0 24 dX12_stop_10 rfl h (fun _ h => ?_) (fun _ h => ?_)
  · refine r_bipush C0 dX12_stop_24 kb_40 ?_
    exact r_sub [0, 1, 2] rfl (w_X12_stop_j26 C0 hD h hz)
  · refine r_aload_n C0 dX12_stop_13 rfl 0 rfl ?_
    refine wmg_0_0 C0 tf_X12_7 dX12_stop_14 ?_
    refine r_sipush C0 dX12_stop_17 ks_1643 ?_
    refine wmal_1 C0 h dX12_stop_20 (fun k4 h => ?_)
    refine r_goto C0 26 dX12_stop_21 rfl ?_
    exact r_sub [0, 1, 2] rfl (w_X12_stop_j26 C0 hD h hz)
theorem c_X12_stop {l : Launch} {D : va_G} {cy : Nat → ClassId} {a : Nat → Nat} {V : VT} {X : va_W} {v1 : Int32} {v2 : Int32} {y : Int32} (h : f_X12_stop v1 v2 V = some y) : CT l D cy yX12_stop cX12_stop 4 (some .int) 1 [.ref (a 0), .int v1, .int v2] (WM cy a V X) (WM cy a V X) (some (.int y)) :=
  mkI (by decide) (Nat.le_of_ble_eq_true rfl) (fun Γ _ _ C0 hD hF => w_X12_stop C0 (dm_of hD) h hF)
theorem dX12_cueOf_0 : decode cX12_cueOf 0 = .ok (.iload_n 1, 1) := by decide +kernel
theorem dX12_cueOf_1 : decode cX12_cueOf 1 = .ok (.ifCond .lt 24, 3) := by decide +kernel
theorem dX12_cueOf_4 : decode cX12_cueOf 4 = .ok (.iload_n 1, 1) := by decide +kernel
theorem dX12_cueOf_5 : decode cX12_cueOf 5 = .ok (.aload_n 0, 1) := by decide +kernel
theorem dX12_cueOf_6 : decode cX12_cueOf 6 = .ok (.getfield 7, 3) := by decide +kernel
theorem dX12_cueOf_9 : decode cX12_cueOf 9 = .ok (.sipush 1642, 3) := by decide +kernel
theorem dX12_cueOf_12 : decode cX12_cueOf 12 = .ok (.iaload, 1) := by decide +kernel
theorem dX12_cueOf_13 : decode cX12_cueOf 13 = .ok (.if_icmp .ge 12, 3) := by decide +kernel
theorem dX12_cueOf_16 : decode cX12_cueOf 16 = .ok (.iload_n 2, 1) := by decide +kernel
theorem dX12_cueOf_17 : decode cX12_cueOf 17 = .ok (.iconst 0, 1) := by decide +kernel
theorem dX12_cueOf_18 : decode cX12_cueOf 18 = .ok (.iconst 4, 1) := by decide +kernel
theorem dX12_cueOf_19 : decode cX12_cueOf 19 = .ok (.invokestatic 47, 3) := by decide +kernel
theorem dX12_cueOf_22 : decode cX12_cueOf 22 = .ok (.ifCond .ne 6, 3) := by decide +kernel
theorem dX12_cueOf_25 : decode cX12_cueOf 25 = .ok (.ldc 42, 2) := by decide +kernel
theorem dX12_cueOf_27 : decode cX12_cueOf 27 = .ok (.ireturn, 1) := by decide +kernel
theorem dX12_cueOf_28 : decode cX12_cueOf 28 = .ok (.iload_n 2, 1) := by decide +kernel
theorem dX12_cueOf_29 : decode cX12_cueOf 29 = .ok (.iconst 4, 1) := by decide +kernel
theorem dX12_cueOf_30 : decode cX12_cueOf 30 = .ok (.if_icmp .ge 10, 3) := by decide +kernel
theorem dX12_cueOf_33 : decode cX12_cueOf 33 = .ok (.aload_n 0, 1) := by decide +kernel
theorem dX12_cueOf_34 : decode cX12_cueOf 34 = .ok (.iload_n 1, 1) := by decide +kernel
theorem dX12_cueOf_35 : decode cX12_cueOf 35 = .ok (.iload_n 2, 1) := by decide +kernel
theorem dX12_cueOf_36 : decode cX12_cueOf 36 = .ok (.invokevirtual 140, 3) := by decide +kernel
theorem dX12_cueOf_39 : decode cX12_cueOf 39 = .ok (.ireturn, 1) := by decide +kernel
theorem dX12_cueOf_40 : decode cX12_cueOf 40 = .ok (.aload_n 0, 1) := by decide +kernel
theorem dX12_cueOf_41 : decode cX12_cueOf 41 = .ok (.iload_n 1, 1) := by decide +kernel
theorem dX12_cueOf_42 : decode cX12_cueOf 42 = .ok (.iconst 4, 1) := by decide +kernel
theorem dX12_cueOf_43 : decode cX12_cueOf 43 = .ok (.invokevirtual 140, 3) := by decide +kernel
theorem dX12_cueOf_46 : decode cX12_cueOf 46 = .ok (.iconst 1, 1) := by decide +kernel
theorem dX12_cueOf_47 : decode cX12_cueOf 47 = .ok (.if_icmp .ne 5, 3) := by decide +kernel
theorem dX12_cueOf_50 : decode cX12_cueOf 50 = .ok (.iconst 3, 1) := by decide +kernel
theorem dX12_cueOf_51 : decode cX12_cueOf 51 = .ok (.ireturn, 1) := by decide +kernel
theorem dX12_cueOf_52 : decode cX12_cueOf 52 = .ok (.aload_n 0, 1) := by decide +kernel
theorem dX12_cueOf_53 : decode cX12_cueOf 53 = .ok (.getfield 7, 3) := by decide +kernel
theorem dX12_cueOf_56 : decode cX12_cueOf 56 = .ok (.sipush 1645, 3) := by decide +kernel
theorem dX12_cueOf_59 : decode cX12_cueOf 59 = .ok (.iaload, 1) := by decide +kernel
theorem dX12_cueOf_60 : decode cX12_cueOf 60 = .ok (.aload_n 0, 1) := by decide +kernel
theorem dX12_cueOf_61 : decode cX12_cueOf 61 = .ok (.iload_n 1, 1) := by decide +kernel
theorem dX12_cueOf_62 : decode cX12_cueOf 62 = .ok (.iconst 2, 1) := by decide +kernel
theorem dX12_cueOf_63 : decode cX12_cueOf 63 = .ok (.invokevirtual 140, 3) := by decide +kernel
theorem dX12_cueOf_66 : decode cX12_cueOf 66 = .ok (.if_icmp .ge 7, 3) := by decide +kernel
theorem dX12_cueOf_69 : decode cX12_cueOf 69 = .ok (.iconst 0, 1) := by decide +kernel
theorem dX12_cueOf_70 : decode cX12_cueOf 70 = .ok (.goto 16, 3) := by decide +kernel
theorem dX12_cueOf_73 : decode cX12_cueOf 73 = .ok (.aload_n 0, 1) := by decide +kernel
theorem dX12_cueOf_74 : decode cX12_cueOf 74 = .ok (.iload_n 1, 1) := by decide +kernel
theorem dX12_cueOf_75 : decode cX12_cueOf 75 = .ok (.invokevirtual 143, 3) := by decide +kernel
theorem dX12_cueOf_78 : decode cX12_cueOf 78 = .ok (.ifCond .eq 7, 3) := by decide +kernel
theorem dX12_cueOf_81 : decode cX12_cueOf 81 = .ok (.iconst 1, 1) := by decide +kernel
theorem dX12_cueOf_82 : decode cX12_cueOf 82 = .ok (.goto 4, 3) := by decide +kernel
theorem dX12_cueOf_85 : decode cX12_cueOf 85 = .ok (.iconst 2, 1) := by decide +kernel
theorem dX12_cueOf_86 : decode cX12_cueOf 86 = .ok (.ireturn, 1) := by decide +kernel
theorem w_X12_cueOf {z : Int32} {Γ : Gam} {cy : Nat → ClassId} {a : Nat → Nat} {V : VT} {X : va_W} {v1 : Int32} {v2 : Int32}  (C0 : CXg Γ cX12_cueOf 3 2 RX12 cy) (hD : DM Γ cy a X) (h : f_X12_cueOf v1 v2 V = some z) (hz : (fun y : Int32 => FinI Γ cX12_cueOf (WM cy a V X) y) z) : Wp Γ 0 0 0 [(0, .ref (a 0)), (1, .int v1), (2, .int v2)] [] (WM cy a V X) := by
  unfold f_X12_cueOf at h
  refine r_iload_n C0 dX12_cueOf_0 rfl 1 rfl ?_
  refine r_if_lt C0 25 dX12_cueOf_1 rfl h (fun _ h => ?_) (fun _ h => ?_)
  · refine r_ldc C0 tk_X12_42 dX12_cueOf_25 ?_
    cases h
    exact hz _ _ dX12_cueOf_27
  · refine r_iload_n C0 dX12_cueOf_4 rfl 1 rfl ?_
    refine r_aload_n C0 dX12_cueOf_5 rfl 0 rfl ?_
    refine wmg_0_0 C0 tf_X12_7 dX12_cueOf_6 ?_
    refine r_sipush C0 dX12_cueOf_9 ks_1642 ?_
    refine wmal_1 C0 h dX12_cueOf_12 (fun k1 h => ?_)
    refine r_icmp_ge C0 25 dX12_cueOf_13 rfl h (fun _ h => ?_) (fun _ h => ?_)
    · refine r_ldc C0 tk_X12_42 dX12_cueOf_25 ?_
      cases h
      exact hz _ _ dX12_cueOf_27
    · refine r_iload_n C0 dX12_cueOf_16 rfl 2 rfl ?_
      refine r_iconst C0 dX12_cueOf_17 ki_0 ?_
      refine r_iconst C0 dX12_cueOf_18 ki_4 ?_
      refine callS3 C0 h (hD _) ms_X12_in tm_X12_47 (fun y hy => c_X12_in hy) (Nat.le_of_ble_eq_true rfl) (Nat.le_of_ble_eq_true rfl) dX12_cueOf_19 (fun r2 h => ?_)
      refine r_if_ne C0 28 dX12_cueOf_22 rfl h (fun _ h => ?_) (fun _ h => ?_)
      · refine r_iload_n C0 dX12_cueOf_28 rfl 2 rfl ?_
        refine r_iconst C0 dX12_cueOf_29 ki_4 ?_
        refine r_icmp_ge C0 40 dX12_cueOf_30 rfl h (fun _ h => ?_) (fun _ h => ?_)
        · refine r_aload_n C0 dX12_cueOf_40 rfl 0 rfl ?_
          refine r_iload_n C0 dX12_cueOf_41 rfl 1 rfl ?_
          refine r_iconst C0 dX12_cueOf_42 ki_4 ?_
          refine callV2 C0 h (hD _) mw_X12_cueIs rv_m tm_X12_140 (fun y hy => c_X12_cueIs hy) (Nat.le_of_ble_eq_true rfl) (Nat.le_of_ble_eq_true rfl) dX12_cueOf_43 (fun r3 h => ?_)
          refine r_iconst C0 dX12_cueOf_46 ki_1 ?_
          refine r_icmp_ne C0 52 dX12_cueOf_47 rfl h (fun _ h => ?_) (fun _ h => ?_)
          · refine r_aload_n C0 dX12_cueOf_52 rfl 0 rfl ?_
            refine wmg_0_0 C0 tf_X12_7 dX12_cueOf_53 ?_
            refine r_sipush C0 dX12_cueOf_56 ks_1645 ?_
            refine wmal_1 C0 h dX12_cueOf_59 (fun k4 h => ?_)
            refine r_aload_n C0 dX12_cueOf_60 rfl 0 rfl ?_
            refine r_iload_n C0 dX12_cueOf_61 rfl 1 rfl ?_
            refine r_iconst C0 dX12_cueOf_62 ki_2 ?_
            refine callV2 C0 h (hD _) mw_X12_cueIs rv_m tm_X12_140 (fun y hy => c_X12_cueIs hy) (Nat.le_of_ble_eq_true rfl) (Nat.le_of_ble_eq_true rfl) dX12_cueOf_63 (fun r5 h => ?_)
            refine r_icmp_ge C0 73 dX12_cueOf_66 rfl h (fun _ h => ?_) (fun _ h => ?_)
            · refine r_aload_n C0 dX12_cueOf_73 rfl 0 rfl ?_
              refine r_iload_n C0 dX12_cueOf_74 rfl 1 rfl ?_
              refine callV1 C0 h (hD _) mw_X12_runs rv_m tm_X12_143 (fun y hy => c_X12_runs hy) (Nat.le_of_ble_eq_true rfl) (Nat.le_of_ble_eq_true rfl) dX12_cueOf_75 (fun r6 h => ?_)
              refine r_if_eq C0 85 dX12_cueOf_78 rfl h (fun _ h => ?_) (fun _ h => ?_)
              · refine r_iconst C0 dX12_cueOf_85 ki_2 ?_
                cases h
                exact hz _ _ dX12_cueOf_86
              · refine r_iconst C0 dX12_cueOf_81 ki_1 ?_
                refine r_goto C0 86 dX12_cueOf_82 rfl ?_
                cases h
                exact hz _ _ dX12_cueOf_86
            · refine r_iconst C0 dX12_cueOf_69 ki_0 ?_
              refine r_goto C0 86 dX12_cueOf_70 rfl ?_
              cases h
              exact hz _ _ dX12_cueOf_86
          · refine r_iconst C0 dX12_cueOf_50 ki_3 ?_
            cases h
            exact hz _ _ dX12_cueOf_51
        · refine r_aload_n C0 dX12_cueOf_33 rfl 0 rfl ?_
          refine r_iload_n C0 dX12_cueOf_34 rfl 1 rfl ?_
          refine r_iload_n C0 dX12_cueOf_35 rfl 2 rfl ?_
          refine callV2 C0 h (hD _) mw_X12_cueIs rv_m tm_X12_140 (fun y hy => c_X12_cueIs hy) (Nat.le_of_ble_eq_true rfl) (Nat.le_of_ble_eq_true rfl) dX12_cueOf_36 (fun r7 h => ?_)
          cases h
          exact hz _ _ dX12_cueOf_39
      · refine r_ldc C0 tk_X12_42 dX12_cueOf_25 ?_
        cases h
        exact hz _ _ dX12_cueOf_27
theorem c_X12_cueOf {l : Launch} {D : va_G} {cy : Nat → ClassId} {a : Nat → Nat} {V : VT} {X : va_W} {v1 : Int32} {v2 : Int32} {y : Int32} (h : f_X12_cueOf v1 v2 V = some y) : CT l D cy yX12_cueOf cX12_cueOf 3 (some .int) 2 [.ref (a 0), .int v1, .int v2] (WM cy a V X) (WM cy a V X) (some (.int y)) :=
  mkI (by decide) (Nat.le_of_ble_eq_true rfl) (fun Γ _ _ C0 hD hF => w_X12_cueOf C0 (dm_of hD) h hF)
theorem dX12_told_0 : decode cX12_told 0 = .ok (.iconst 0, 1) := by decide +kernel
theorem dX12_told_1 : decode cX12_told 1 = .ok (.istore_n 2, 1) := by decide +kernel
theorem dX12_told_2 : decode cX12_told 2 = .ok (.iload_n 1, 1) := by decide +kernel
theorem dX12_told_3 : decode cX12_told 3 = .ok (.tableswitch 218 0 9 #[53, 85, 123, 132, 172, 181, 190, 195, 200, 209], 53) := by decide +kernel
theorem dX12_told_56 : decode cX12_told 56 = .ok (.iconst 0, 1) := by decide +kernel
theorem dX12_told_57 : decode cX12_told 57 = .ok (.istore_n 3, 1) := by decide +kernel
theorem dX12_told_58 : decode cX12_told 58 = .ok (.iload_n 3, 1) := by decide +kernel
theorem dX12_told_59 : decode cX12_told 59 = .ok (.bipush 12, 2) := by decide +kernel
theorem dX12_told_61 : decode cX12_told 61 = .ok (.if_icmp .ge 25, 3) := by decide +kernel
theorem dX12_told_64 : decode cX12_told 64 = .ok (.iload_n 2, 1) := by decide +kernel
theorem dX12_told_65 : decode cX12_told 65 = .ok (.aload_n 0, 1) := by decide +kernel
theorem dX12_told_66 : decode cX12_told 66 = .ok (.iload_n 3, 1) := by decide +kernel
theorem dX12_told_67 : decode cX12_told 67 = .ok (.invokevirtual 66, 3) := by decide +kernel
theorem dX12_told_70 : decode cX12_told 70 = .ok (.ifCond .eq 7, 3) := by decide +kernel
theorem dX12_told_73 : decode cX12_told 73 = .ok (.iconst 1, 1) := by decide +kernel
theorem dX12_told_74 : decode cX12_told 74 = .ok (.goto 4, 3) := by decide +kernel
theorem dX12_told_77 : decode cX12_told 77 = .ok (.iconst 0, 1) := by decide +kernel
theorem dX12_told_78 : decode cX12_told 78 = .ok (.iadd, 1) := by decide +kernel
theorem dX12_told_79 : decode cX12_told 79 = .ok (.istore_n 2, 1) := by decide +kernel
theorem dX12_told_80 : decode cX12_told 80 = .ok (.iinc 3 1, 3) := by decide +kernel
theorem dX12_told_83 : decode cX12_told 83 = .ok (.goto (-25), 3) := by decide +kernel
theorem dX12_told_86 : decode cX12_told 86 = .ok (.iload_n 2, 1) := by decide +kernel
theorem dX12_told_87 : decode cX12_told 87 = .ok (.ireturn, 1) := by decide +kernel
theorem dX12_told_88 : decode cX12_told 88 = .ok (.iconst 0, 1) := by decide +kernel
theorem dX12_told_89 : decode cX12_told 89 = .ok (.istore_n 3, 1) := by decide +kernel
theorem dX12_told_90 : decode cX12_told 90 = .ok (.iload_n 3, 1) := by decide +kernel
theorem dX12_told_91 : decode cX12_told 91 = .ok (.aload_n 0, 1) := by decide +kernel
theorem dX12_told_92 : decode cX12_told 92 = .ok (.getfield 7, 3) := by decide +kernel
theorem dX12_told_95 : decode cX12_told 95 = .ok (.sipush 1640, 3) := by decide +kernel
theorem dX12_told_98 : decode cX12_told 98 = .ok (.iaload, 1) := by decide +kernel
theorem dX12_told_99 : decode cX12_told 99 = .ok (.if_icmp .ge 25, 3) := by decide +kernel
theorem dX12_told_102 : decode cX12_told 102 = .ok (.iload_n 2, 1) := by decide +kernel
theorem dX12_told_103 : decode cX12_told 103 = .ok (.aload_n 0, 1) := by decide +kernel
theorem dX12_told_104 : decode cX12_told 104 = .ok (.iload_n 3, 1) := by decide +kernel
theorem dX12_told_105 : decode cX12_told 105 = .ok (.invokevirtual 62, 3) := by decide +kernel
theorem dX12_told_108 : decode cX12_told 108 = .ok (.ifCond .eq 7, 3) := by decide +kernel
theorem dX12_told_111 : decode cX12_told 111 = .ok (.iconst 1, 1) := by decide +kernel
theorem dX12_told_112 : decode cX12_told 112 = .ok (.goto 4, 3) := by decide +kernel
theorem dX12_told_115 : decode cX12_told 115 = .ok (.iconst 0, 1) := by decide +kernel
theorem dX12_told_116 : decode cX12_told 116 = .ok (.iadd, 1) := by decide +kernel
theorem dX12_told_117 : decode cX12_told 117 = .ok (.istore_n 2, 1) := by decide +kernel
theorem dX12_told_118 : decode cX12_told 118 = .ok (.iinc 3 1, 3) := by decide +kernel
theorem dX12_told_121 : decode cX12_told 121 = .ok (.goto (-31), 3) := by decide +kernel
theorem dX12_told_124 : decode cX12_told 124 = .ok (.iload_n 2, 1) := by decide +kernel
theorem dX12_told_125 : decode cX12_told 125 = .ok (.ireturn, 1) := by decide +kernel
theorem dX12_told_126 : decode cX12_told 126 = .ok (.aload_n 0, 1) := by decide +kernel
theorem dX12_told_127 : decode cX12_told 127 = .ok (.getfield 7, 3) := by decide +kernel
theorem dX12_told_130 : decode cX12_told 130 = .ok (.sipush 1641, 3) := by decide +kernel
theorem dX12_told_133 : decode cX12_told 133 = .ok (.iaload, 1) := by decide +kernel
theorem dX12_told_134 : decode cX12_told 134 = .ok (.ireturn, 1) := by decide +kernel
theorem dX12_told_135 : decode cX12_told 135 = .ok (.iconst 0, 1) := by decide +kernel
theorem dX12_told_136 : decode cX12_told 136 = .ok (.istore_n 3, 1) := by decide +kernel
theorem dX12_told_137 : decode cX12_told 137 = .ok (.iload_n 3, 1) := by decide +kernel
theorem dX12_told_138 : decode cX12_told 138 = .ok (.aload_n 0, 1) := by decide +kernel
theorem dX12_told_139 : decode cX12_told 139 = .ok (.getfield 7, 3) := by decide +kernel
theorem dX12_told_142 : decode cX12_told 142 = .ok (.sipush 1641, 3) := by decide +kernel
theorem dX12_told_145 : decode cX12_told 145 = .ok (.iaload, 1) := by decide +kernel
theorem dX12_told_146 : decode cX12_told 146 = .ok (.if_icmp .ge 27, 3) := by decide +kernel
theorem dX12_told_149 : decode cX12_told 149 = .ok (.iload_n 2, 1) := by decide +kernel
theorem dX12_told_150 : decode cX12_told 150 = .ok (.aload_n 0, 1) := by decide +kernel
theorem dX12_told_151 : decode cX12_told 151 = .ok (.iload_n 3, 1) := by decide +kernel
theorem dX12_told_152 : decode cX12_told 152 = .ok (.invokevirtual 196, 3) := by decide +kernel
theorem dX12_told_155 : decode cX12_told 155 = .ok (.ldc 42, 2) := by decide +kernel
theorem dX12_told_157 : decode cX12_told 157 = .ok (.if_icmp .eq 7, 3) := by decide +kernel
theorem dX12_told_160 : decode cX12_told 160 = .ok (.iconst 1, 1) := by decide +kernel
theorem dX12_told_161 : decode cX12_told 161 = .ok (.goto 4, 3) := by decide +kernel
theorem dX12_told_164 : decode cX12_told 164 = .ok (.iconst 0, 1) := by decide +kernel
theorem dX12_told_165 : decode cX12_told 165 = .ok (.iadd, 1) := by decide +kernel
theorem dX12_told_166 : decode cX12_told 166 = .ok (.istore_n 2, 1) := by decide +kernel
theorem dX12_told_167 : decode cX12_told 167 = .ok (.iinc 3 1, 3) := by decide +kernel
theorem dX12_told_170 : decode cX12_told 170 = .ok (.goto (-33), 3) := by decide +kernel
theorem dX12_told_173 : decode cX12_told 173 = .ok (.iload_n 2, 1) := by decide +kernel
theorem dX12_told_174 : decode cX12_told 174 = .ok (.ireturn, 1) := by decide +kernel
theorem dX12_told_175 : decode cX12_told 175 = .ok (.aload_n 0, 1) := by decide +kernel
theorem dX12_told_176 : decode cX12_told 176 = .ok (.getfield 7, 3) := by decide +kernel
theorem dX12_told_179 : decode cX12_told 179 = .ok (.sipush 1642, 3) := by decide +kernel
theorem dX12_told_182 : decode cX12_told 182 = .ok (.iaload, 1) := by decide +kernel
theorem dX12_told_183 : decode cX12_told 183 = .ok (.ireturn, 1) := by decide +kernel
theorem dX12_told_184 : decode cX12_told 184 = .ok (.aload_n 0, 1) := by decide +kernel
theorem dX12_told_185 : decode cX12_told 185 = .ok (.getfield 7, 3) := by decide +kernel
theorem dX12_told_188 : decode cX12_told 188 = .ok (.sipush 1643, 3) := by decide +kernel
theorem dX12_told_191 : decode cX12_told 191 = .ok (.iaload, 1) := by decide +kernel
theorem dX12_told_192 : decode cX12_told 192 = .ok (.ireturn, 1) := by decide +kernel
theorem dX12_told_193 : decode cX12_told 193 = .ok (.aload_n 0, 1) := by decide +kernel
theorem dX12_told_194 : decode cX12_told 194 = .ok (.getfield 43, 3) := by decide +kernel
theorem dX12_told_197 : decode cX12_told 197 = .ok (.ireturn, 1) := by decide +kernel
theorem dX12_told_198 : decode cX12_told 198 = .ok (.aload_n 0, 1) := by decide +kernel
theorem dX12_told_199 : decode cX12_told 199 = .ok (.getfield 212, 3) := by decide +kernel
theorem dX12_told_202 : decode cX12_told 202 = .ok (.ireturn, 1) := by decide +kernel
theorem dX12_told_203 : decode cX12_told 203 = .ok (.aload_n 0, 1) := by decide +kernel
theorem dX12_told_204 : decode cX12_told 204 = .ok (.getfield 7, 3) := by decide +kernel
theorem dX12_told_207 : decode cX12_told 207 = .ok (.sipush 1644, 3) := by decide +kernel
theorem dX12_told_210 : decode cX12_told 210 = .ok (.iaload, 1) := by decide +kernel
theorem dX12_told_211 : decode cX12_told 211 = .ok (.ireturn, 1) := by decide +kernel
theorem dX12_told_212 : decode cX12_told 212 = .ok (.aload_n 0, 1) := by decide +kernel
theorem dX12_told_213 : decode cX12_told 213 = .ok (.getfield 7, 3) := by decide +kernel
theorem dX12_told_216 : decode cX12_told 216 = .ok (.sipush 1645, 3) := by decide +kernel
theorem dX12_told_219 : decode cX12_told 219 = .ok (.iaload, 1) := by decide +kernel
theorem dX12_told_220 : decode cX12_told 220 = .ok (.ireturn, 1) := by decide +kernel
theorem dX12_told_221 : decode cX12_told 221 = .ok (.ldc 42, 2) := by decide +kernel
theorem dX12_told_223 : decode cX12_told 223 = .ok (.ireturn, 1) := by decide +kernel
theorem w_X12_told_j78 {z : ((Int32 × Int32) ⊕ (Int32))} {Γ : Gam} {cy : Nat → ClassId} {a : Nat → Nat} {V : VT} {X : va_W} {v3 : Int32} {s0 : Int32} {s1 : Int32}  (C0 : CXg Γ cX12_told 4 4 RX12 cy) (hD : DM Γ cy a X) (h : f_X12_told_j78 v3 s0 s1 V = some z) (hz : (Sum.elim (fun x : Int32 × Int32 => Wp Γ 0 0 58 [(0, .ref (a 0)), (2, .int x.1), (3, .int x.2)] [] (WM cy a V X)) (fun y : Int32 => FinI Γ cX12_told (WM cy a V X) y)) z) : Wp Γ 0 0 78 [(0, .ref (a 0)), (3, .int v3)] [.int s1, .int s0] (WM cy a V X) := by
  unfold f_X12_told_j78 at h
  refine r_iadd C0 dX12_told_78 ?_
  obtain ⟨a5, h8, h⟩ := op_bind h
  have e8 := Option.some.inj h8
  refine r_istore_n (lv2 := [(2, .int a5), (0, .ref (a 0)), (3, .int v3)]) C0 dX12_told_79 rfl e8 (Nat.le_of_ble_eq_true rfl) rfl ?_
  obtain ⟨a6, h8, h⟩ := op_bind h
  have e8 := Option.some.inj h8
  refine r_iinc (lv2 := [(3, .int a6), (2, .int a5), (0, .ref (a 0))]) C0 dX12_told_80 2 rfl ki_1 e8 (Nat.le_of_ble_eq_true rfl) rfl ?_
  refine r_goto C0 58 dX12_told_83 rfl ?_
  cases h
  have hz := el_inl hz
  exact r_sub [2, 1, 0] rfl hz
theorem w_X12_told_B58 {x : Int32 × Int32} {z : ((Int32 × Int32) ⊕ (Int32))} {Γ : Gam} {cy : Nat → ClassId} {a : Nat → Nat} {V : VT} {X : va_W}  (C0 : CXg Γ cX12_told 4 4 RX12 cy) (hD : DM Γ cy a X) (h : f_X12_told_B58 V x = some z) (hz : (Sum.elim (fun x : Int32 × Int32 => Wp Γ 0 0 58 [(0, .ref (a 0)), (2, .int x.1), (3, .int x.2)] [] (WM cy a V X)) (fun y : Int32 => FinI Γ cX12_told (WM cy a V X) y)) z) : Wp Γ 0 0 58 [(0, .ref (a 0)), (2, .int x.1), (3, .int x.2)] [] (WM cy a V X) := by
  unfold f_X12_told_B58 at h
  refine r_iload_n C0 dX12_told_58 rfl 2 rfl ?_
  refine r_bipush C0 dX12_told_59 kb_12 ?_
  refine r_icmp_ge C0 86 dX12_told_61 rfl h (fun _ h => ?_) (fun _ h => ?_)
  · obtain ⟨y3, h5, h9⟩ := op_bind h
    clear h
    cases h9
    have hz := (el_inr hz)
    have h := h5
    refine r_iload_n C0 dX12_told_86 rfl 1 rfl ?_
    cases h
    exact hz _ _ dX12_told_87
  · refine r_iload_n C0 dX12_told_64 rfl 1 rfl ?_
    refine r_aload_n C0 dX12_told_65 rfl 0 rfl ?_
    refine r_iload_n C0 dX12_told_66 rfl 2 rfl ?_
    refine callV1 C0 h (hD _) mw_X12_isRigged rv_m tm_X12_66 (fun y hy => c_X12_isRigged hy) (Nat.le_of_ble_eq_true rfl) (Nat.le_of_ble_eq_true rfl) dX12_told_67 (fun r4 h => ?_)
    refine r_if_eq C0 77 dX12_told_70 rfl h (fun _ h => ?_) (fun _ h => ?_)
    · refine r_iconst C0 dX12_told_77 ki_0 ?_
      exact r_sub [0, 2] rfl (w_X12_told_j78 C0 hD h hz)
    · refine r_iconst C0 dX12_told_73 ki_1 ?_
      refine r_goto C0 78 dX12_told_74 rfl ?_
      exact r_sub [0, 2] rfl (w_X12_told_j78 C0 hD h hz)
theorem w_X12_told_B58_lp {x : Int32 × Int32} {z : (Int32)} {Γ : Gam} {cy : Nat → ClassId} {a : Nat → Nat} {V : VT} {X : va_W}  (C0 : CXg Γ cX12_told 4 4 RX12 cy) (hD : DM Γ cy a X) (h : lp (f_X12_told_B58 V) fuel x = some z) (hz : (fun y : Int32 => FinI Γ cX12_told (WM cy a V X) y) z) : Wp Γ 0 0 58 [(0, .ref (a 0)), (2, .int x.1), (3, .int x.2)] [] (WM cy a V X) :=
  lp_rule (hd := (fun x : Int32 × Int32 => Wp Γ 0 0 58 [(0, .ref (a 0)), (2, .int x.1), (3, .int x.2)] [] (WM cy a V X))) (C := (fun y : Int32 => FinI Γ cX12_told (WM cy a V X) y)) (fun x z h hz => w_X12_told_B58 C0 hD h hz) _ _ _ h hz
theorem w_X12_told_j116 {z : ((Int32 × Int32) ⊕ (Int32))} {Γ : Gam} {cy : Nat → ClassId} {a : Nat → Nat} {V : VT} {X : va_W} {v3 : Int32} {s0 : Int32} {s1 : Int32}  (C0 : CXg Γ cX12_told 4 4 RX12 cy) (hD : DM Γ cy a X) (h : f_X12_told_j116 v3 s0 s1 V = some z) (hz : (Sum.elim (fun x : Int32 × Int32 => Wp Γ 0 0 90 [(0, .ref (a 0)), (2, .int x.1), (3, .int x.2)] [] (WM cy a V X)) (fun y : Int32 => FinI Γ cX12_told (WM cy a V X) y)) z) : Wp Γ 0 0 116 [(0, .ref (a 0)), (3, .int v3)] [.int s1, .int s0] (WM cy a V X) := by
  unfold f_X12_told_j116 at h
  refine r_iadd C0 dX12_told_116 ?_
  obtain ⟨a11, h8, h⟩ := op_bind h
  have e8 := Option.some.inj h8
  refine r_istore_n (lv2 := [(2, .int a11), (0, .ref (a 0)), (3, .int v3)]) C0 dX12_told_117 rfl e8 (Nat.le_of_ble_eq_true rfl) rfl ?_
  obtain ⟨a12, h8, h⟩ := op_bind h
  have e8 := Option.some.inj h8
  refine r_iinc (lv2 := [(3, .int a12), (2, .int a11), (0, .ref (a 0))]) C0 dX12_told_118 2 rfl ki_1 e8 (Nat.le_of_ble_eq_true rfl) rfl ?_
  refine r_goto C0 90 dX12_told_121 rfl ?_
  cases h
  have hz := el_inl hz
  exact r_sub [2, 1, 0] rfl hz
theorem w_X12_told_B90 {x : Int32 × Int32} {z : ((Int32 × Int32) ⊕ (Int32))} {Γ : Gam} {cy : Nat → ClassId} {a : Nat → Nat} {V : VT} {X : va_W}  (C0 : CXg Γ cX12_told 4 4 RX12 cy) (hD : DM Γ cy a X) (h : f_X12_told_B90 V x = some z) (hz : (Sum.elim (fun x : Int32 × Int32 => Wp Γ 0 0 90 [(0, .ref (a 0)), (2, .int x.1), (3, .int x.2)] [] (WM cy a V X)) (fun y : Int32 => FinI Γ cX12_told (WM cy a V X) y)) z) : Wp Γ 0 0 90 [(0, .ref (a 0)), (2, .int x.1), (3, .int x.2)] [] (WM cy a V X) := by
  unfold f_X12_told_B90 at h
  refine r_iload_n C0 dX12_told_90 rfl 2 rfl ?_
  refine r_aload_n C0 dX12_told_91 rfl 0 rfl ?_
  refine wmg_0_0 C0 tf_X12_7 dX12_told_92 ?_
  refine r_sipush C0 dX12_told_95 ks_1640 ?_
  refine wmal_1 C0 h dX12_told_98 (fun k8 h => ?_)
  refine r_icmp_ge C0 124 dX12_told_99 rfl h (fun _ h => ?_) (fun _ h => ?_)
  · obtain ⟨y9, h5, h9⟩ := op_bind h
    clear h
    cases h9
    have hz := (el_inr hz)
    have h := h5
    refine r_iload_n C0 dX12_told_124 rfl 1 rfl ?_
    cases h
    exact hz _ _ dX12_told_125
  · refine r_iload_n C0 dX12_told_102 rfl 1 rfl ?_
    refine r_aload_n C0 dX12_told_103 rfl 0 rfl ?_
    refine r_iload_n C0 dX12_told_104 rfl 2 rfl ?_
    refine callV1 C0 h (hD _) mw_X12_isLineThere rv_m tm_X12_62 (fun y hy => c_X12_isLineThere hy) (Nat.le_of_ble_eq_true rfl) (Nat.le_of_ble_eq_true rfl) dX12_told_105 (fun r10 h => ?_)
    refine r_if_eq C0 115 dX12_told_108 rfl h (fun _ h => ?_) (fun _ h => ?_)
    · refine r_iconst C0 dX12_told_115 ki_0 ?_
      exact r_sub [0, 2] rfl (w_X12_told_j116 C0 hD h hz)
    · refine r_iconst C0 dX12_told_111 ki_1 ?_
      refine r_goto C0 116 dX12_told_112 rfl ?_
      exact r_sub [0, 2] rfl (w_X12_told_j116 C0 hD h hz)
theorem w_X12_told_B90_lp {x : Int32 × Int32} {z : (Int32)} {Γ : Gam} {cy : Nat → ClassId} {a : Nat → Nat} {V : VT} {X : va_W}  (C0 : CXg Γ cX12_told 4 4 RX12 cy) (hD : DM Γ cy a X) (h : lp (f_X12_told_B90 V) fuel x = some z) (hz : (fun y : Int32 => FinI Γ cX12_told (WM cy a V X) y) z) : Wp Γ 0 0 90 [(0, .ref (a 0)), (2, .int x.1), (3, .int x.2)] [] (WM cy a V X) :=
  lp_rule (hd := (fun x : Int32 × Int32 => Wp Γ 0 0 90 [(0, .ref (a 0)), (2, .int x.1), (3, .int x.2)] [] (WM cy a V X))) (C := (fun y : Int32 => FinI Γ cX12_told (WM cy a V X) y)) (fun x z h hz => w_X12_told_B90 C0 hD h hz) _ _ _ h hz
theorem w_X12_told_j165 {z : ((Int32 × Int32) ⊕ (Int32))} {Γ : Gam} {cy : Nat → ClassId} {a : Nat → Nat} {V : VT} {X : va_W} {v3 : Int32} {s0 : Int32} {s1 : Int32}  (C0 : CXg Γ cX12_told 4 4 RX12 cy) (hD : DM Γ cy a X) (h : f_X12_told_j165 v3 s0 s1 V = some z) (hz : (Sum.elim (fun x : Int32 × Int32 => Wp Γ 0 0 137 [(0, .ref (a 0)), (2, .int x.1), (3, .int x.2)] [] (WM cy a V X)) (fun y : Int32 => FinI Γ cX12_told (WM cy a V X) y)) z) : Wp Γ 0 0 165 [(0, .ref (a 0)), (3, .int v3)] [.int s1, .int s0] (WM cy a V X) := by
  unfold f_X12_told_j165 at h
  refine r_iadd C0 dX12_told_165 ?_
  obtain ⟨a18, h8, h⟩ := op_bind h
  have e8 := Option.some.inj h8
  refine r_istore_n (lv2 := [(2, .int a18), (0, .ref (a 0)), (3, .int v3)]) C0 dX12_told_166 rfl e8 (Nat.le_of_ble_eq_true rfl) rfl ?_
  obtain ⟨a19, h8, h⟩ := op_bind h
  have e8 := Option.some.inj h8
  refine r_iinc (lv2 := [(3, .int a19), (2, .int a18), (0, .ref (a 0))]) C0 dX12_told_167 2 rfl ki_1 e8 (Nat.le_of_ble_eq_true rfl) rfl ?_
  refine r_goto C0 137 dX12_told_170 rfl ?_
  cases h
  have hz := el_inl hz
  exact r_sub [2, 1, 0] rfl hz
theorem w_X12_told_B137 {x : Int32 × Int32} {z : ((Int32 × Int32) ⊕ (Int32))} {Γ : Gam} {cy : Nat → ClassId} {a : Nat → Nat} {V : VT} {X : va_W}  (C0 : CXg Γ cX12_told 4 4 RX12 cy) (hD : DM Γ cy a X) (h : f_X12_told_B137 V x = some z) (hz : (Sum.elim (fun x : Int32 × Int32 => Wp Γ 0 0 137 [(0, .ref (a 0)), (2, .int x.1), (3, .int x.2)] [] (WM cy a V X)) (fun y : Int32 => FinI Γ cX12_told (WM cy a V X) y)) z) : Wp Γ 0 0 137 [(0, .ref (a 0)), (2, .int x.1), (3, .int x.2)] [] (WM cy a V X) := by
  unfold f_X12_told_B137 at h
  refine r_iload_n C0 dX12_told_137 rfl 2 rfl ?_
  refine r_aload_n C0 dX12_told_138 rfl 0 rfl ?_
  refine wmg_0_0 C0 tf_X12_7 dX12_told_139 ?_
  refine r_sipush C0 dX12_told_142 ks_1641 ?_
  refine wmal_1 C0 h dX12_told_145 (fun k15 h => ?_)
  refine r_icmp_ge C0 173 dX12_told_146 rfl h (fun _ h => ?_) (fun _ h => ?_)
  · obtain ⟨y16, h5, h9⟩ := op_bind h
    clear h
    cases h9
    have hz := (el_inr hz)
    have h := h5
    refine r_iload_n C0 dX12_told_173 rfl 1 rfl ?_
    cases h
    exact hz _ _ dX12_told_174
  · refine r_iload_n C0 dX12_told_149 rfl 1 rfl ?_
    refine r_aload_n C0 dX12_told_150 rfl 0 rfl ?_
    refine r_iload_n C0 dX12_told_151 rfl 2 rfl ?_
    refine callV1 C0 h (hD _) mw_X12_barWith rv_m tm_X12_196 (fun y hy => c_X12_barWith hy) (Nat.le_of_ble_eq_true rfl) (Nat.le_of_ble_eq_true rfl) dX12_told_152 (fun r17 h => ?_)
    refine r_ldc C0 tk_X12_42 dX12_told_155 ?_
    refine r_icmp_eq C0 164 dX12_told_157 rfl h (fun _ h => ?_) (fun _ h => ?_)
    · refine r_iconst C0 dX12_told_164 ki_0 ?_
      exact r_sub [0, 2] rfl (w_X12_told_j165 C0 hD h hz)
    · refine r_iconst C0 dX12_told_160 ki_1 ?_
      refine r_goto C0 165 dX12_told_161 rfl ?_
      exact r_sub [0, 2] rfl (w_X12_told_j165 C0 hD h hz)
theorem w_X12_told_B137_lp {x : Int32 × Int32} {z : (Int32)} {Γ : Gam} {cy : Nat → ClassId} {a : Nat → Nat} {V : VT} {X : va_W}  (C0 : CXg Γ cX12_told 4 4 RX12 cy) (hD : DM Γ cy a X) (h : lp (f_X12_told_B137 V) fuel x = some z) (hz : (fun y : Int32 => FinI Γ cX12_told (WM cy a V X) y) z) : Wp Γ 0 0 137 [(0, .ref (a 0)), (2, .int x.1), (3, .int x.2)] [] (WM cy a V X) :=
  lp_rule (hd := (fun x : Int32 × Int32 => Wp Γ 0 0 137 [(0, .ref (a 0)), (2, .int x.1), (3, .int x.2)] [] (WM cy a V X))) (C := (fun y : Int32 => FinI Γ cX12_told (WM cy a V X) y)) (fun x z h hz => w_X12_told_B137 C0 hD h hz) _ _ _ h hz
theorem w_X12_told {z : Int32} {Γ : Gam} {cy : Nat → ClassId} {a : Nat → Nat} {V : VT} {X : va_W} {v1 : Int32}  (C0 : CXg Γ cX12_told 4 4 RX12 cy) (hD : DM Γ cy a X) (h : f_X12_told v1 V = some z) (hz : (fun y : Int32 => FinI Γ cX12_told (WM cy a V X) y) z) : Wp Γ 0 0 0 [(0, .ref (a 0)), (1, .int v1)] [] (WM cy a V X) := by
  unfold f_X12_told at h
  refine r_iconst C0 dX12_told_0 ki_0 ?_
  obtain ⟨a1, h8, h⟩ := op_bind h
  have e8 := Option.some.inj h8
  refine r_istore_n (lv2 := [(2, .int a1), (0, .ref (a 0)), (1, .int v1)]) C0 dX12_told_1 rfl e8 (Nat.le_of_ble_eq_true rfl) rfl ?_
  refine r_iload_n C0 dX12_told_2 rfl 2 rfl ?_
  by_cases c0 : v1 = 0
  · have h := op_pos c0 h
    refine r_swI C0 56 dX12_told_3 c0 (by decide) (by decide) rfl rfl ?_
    refine r_iconst C0 dX12_told_56 ki_0 ?_
    obtain ⟨a2, h8, h⟩ := op_bind h
    have e8 := Option.some.inj h8
    refine r_istore_n (lv2 := [(3, .int a2), (2, .int a1), (0, .ref (a 0)), (1, .int v1)]) C0 dX12_told_57 rfl e8 (Nat.le_of_ble_eq_true rfl) rfl ?_
    exact r_sub [2, 1, 0] rfl (w_X12_told_B58_lp C0 hD h hz)
  have h := op_neg c0 h
  have n0 := ne_toInt (i := 0) c0 (by decide)
  by_cases c1 : v1 = 1
  · have h := op_pos c1 h
    refine r_swI C0 88 dX12_told_3 c1 (by decide) (by decide) rfl rfl ?_
    refine r_iconst C0 dX12_told_88 ki_0 ?_
    obtain ⟨a7, h8, h⟩ := op_bind h
    have e8 := Option.some.inj h8
    refine r_istore_n (lv2 := [(3, .int a7), (2, .int a1), (0, .ref (a 0)), (1, .int v1)]) C0 dX12_told_89 rfl e8 (Nat.le_of_ble_eq_true rfl) rfl ?_
    exact r_sub [2, 1, 0] rfl (w_X12_told_B90_lp C0 hD h hz)
  have h := op_neg c1 h
  have n1 := ne_toInt (i := 1) c1 (by decide)
  by_cases c2 : v1 = 2
  · have h := op_pos c2 h
    refine r_swI C0 126 dX12_told_3 c2 (by decide) (by decide) rfl rfl ?_
    refine r_aload_n C0 dX12_told_126 rfl 1 rfl ?_
    refine wmg_0_0 C0 tf_X12_7 dX12_told_127 ?_
    refine r_sipush C0 dX12_told_130 ks_1641 ?_
    refine wmal_1 C0 h dX12_told_133 (fun k13 h => ?_)
    cases h
    exact hz _ _ dX12_told_134
  have h := op_neg c2 h
  have n2 := ne_toInt (i := 2) c2 (by decide)
  by_cases c3 : v1 = 3
  · have h := op_pos c3 h
    refine r_swI C0 135 dX12_told_3 c3 (by decide) (by decide) rfl rfl ?_
    refine r_iconst C0 dX12_told_135 ki_0 ?_
    obtain ⟨a14, h8, h⟩ := op_bind h
    have e8 := Option.some.inj h8
    refine r_istore_n (lv2 := [(3, .int a14), (2, .int a1), (0, .ref (a 0)), (1, .int v1)]) C0 dX12_told_136 rfl e8 (Nat.le_of_ble_eq_true rfl) rfl ?_
    exact r_sub [2, 1, 0] rfl (w_X12_told_B137_lp C0 hD h hz)
  have h := op_neg c3 h
  have n3 := ne_toInt (i := 3) c3 (by decide)
  by_cases c4 : v1 = 4
  · have h := op_pos c4 h
    refine r_swI C0 175 dX12_told_3 c4 (by decide) (by decide) rfl rfl ?_
    refine r_aload_n C0 dX12_told_175 rfl 1 rfl ?_
    refine wmg_0_0 C0 tf_X12_7 dX12_told_176 ?_
    refine r_sipush C0 dX12_told_179 ks_1642 ?_
    refine wmal_1 C0 h dX12_told_182 (fun k20 h => ?_)
    cases h
    exact hz _ _ dX12_told_183
  have h := op_neg c4 h
  have n4 := ne_toInt (i := 4) c4 (by decide)
  by_cases c5 : v1 = 5
  · have h := op_pos c5 h
    refine r_swI C0 184 dX12_told_3 c5 (by decide) (by decide) rfl rfl ?_
    refine r_aload_n C0 dX12_told_184 rfl 1 rfl ?_
    refine wmg_0_0 C0 tf_X12_7 dX12_told_185 ?_
    refine r_sipush C0 dX12_told_188 ks_1643 ?_
    refine wmal_1 C0 h dX12_told_191 (fun k21 h => ?_)
    cases h
    exact hz _ _ dX12_told_192
  have h := op_neg c5 h
  have n5 := ne_toInt (i := 5) c5 (by decide)
  by_cases c6 : v1 = 6
  · have h := op_pos c6 h
    refine r_swI C0 193 dX12_told_3 c6 (by decide) (by decide) rfl rfl ?_
    refine r_aload_n C0 dX12_told_193 rfl 1 rfl ?_
    refine wmg_0_2 C0 tf_X12_43 dX12_told_194 ?_
    cases h
    exact hz _ _ dX12_told_197
  have h := op_neg c6 h
  have n6 := ne_toInt (i := 6) c6 (by decide)
  by_cases c7 : v1 = 7
  · have h := op_pos c7 h
    refine r_swI C0 198 dX12_told_3 c7 (by decide) (by decide) rfl rfl ?_
    refine r_aload_n C0 dX12_told_198 rfl 1 rfl ?_
    refine wmg_0_6 C0 tf_X12_212 dX12_told_199 ?_
    cases h
    exact hz _ _ dX12_told_202
  have h := op_neg c7 h
  have n7 := ne_toInt (i := 7) c7 (by decide)
  by_cases c8 : v1 = 8
  · have h := op_pos c8 h
    refine r_swI C0 203 dX12_told_3 c8 (by decide) (by decide) rfl rfl ?_
    refine r_aload_n C0 dX12_told_203 rfl 1 rfl ?_
    refine wmg_0_0 C0 tf_X12_7 dX12_told_204 ?_
    refine r_sipush C0 dX12_told_207 ks_1644 ?_
    refine wmal_1 C0 h dX12_told_210 (fun k22 h => ?_)
    cases h
    exact hz _ _ dX12_told_211
  have h := op_neg c8 h
  have n8 := ne_toInt (i := 8) c8 (by decide)
  by_cases c9 : v1 = 9
  · have h := op_pos c9 h
    refine r_swI C0 212 dX12_told_3 c9 (by decide) (by decide) rfl rfl ?_
    refine r_aload_n C0 dX12_told_212 rfl 1 rfl ?_
    refine wmg_0_0 C0 tf_X12_7 dX12_told_213 ?_
    refine r_sipush C0 dX12_told_216 ks_1645 ?_
    refine wmal_1 C0 h dX12_told_219 (fun k23 h => ?_)
    cases h
    exact hz _ _ dX12_told_220
  have h := op_neg c9 h
  have n9 := ne_toInt (i := 9) c9 (by decide)
  refine r_swD C0 221 dX12_told_3 (by omega) rfl ?_
  refine r_ldc C0 tk_X12_42 dX12_told_221 ?_
  cases h
  exact hz _ _ dX12_told_223
theorem c_X12_told {l : Launch} {D : va_G} {cy : Nat → ClassId} {a : Nat → Nat} {V : VT} {X : va_W} {v1 : Int32} {y : Int32} (h : f_X12_told v1 V = some y) : CT l D cy yX12_told cX12_told 4 (some .int) 4 [.ref (a 0), .int v1] (WM cy a V X) (WM cy a V X) (some (.int y)) :=
  mkI (by decide) (Nat.le_of_ble_eq_true rfl) (fun Γ _ _ C0 hD hF => w_X12_told C0 (dm_of hD) h hF)
theorem dX12_status_0 : decode cX12_status 0 = .ok (.iload_n 1, 1) := by decide +kernel
theorem dX12_status_1 : decode cX12_status 1 = .ok (.ifCond .ne 10, 3) := by decide +kernel
theorem dX12_status_4 : decode cX12_status 4 = .ok (.aload_n 0, 1) := by decide +kernel
theorem dX12_status_5 : decode cX12_status 5 = .ok (.getfield 32, 3) := by decide +kernel
theorem dX12_status_8 : decode cX12_status 8 = .ok (.goto 29, 3) := by decide +kernel
theorem dX12_status_11 : decode cX12_status 11 = .ok (.iload_n 1, 1) := by decide +kernel
theorem dX12_status_12 : decode cX12_status 12 = .ok (.iconst 1, 1) := by decide +kernel
theorem dX12_status_13 : decode cX12_status 13 = .ok (.if_icmp .ne 10, 3) := by decide +kernel
theorem dX12_status_16 : decode cX12_status 16 = .ok (.aload_n 0, 1) := by decide +kernel
theorem dX12_status_17 : decode cX12_status 17 = .ok (.getfield 36, 3) := by decide +kernel
theorem dX12_status_20 : decode cX12_status 20 = .ok (.goto 17, 3) := by decide +kernel
theorem dX12_status_23 : decode cX12_status 23 = .ok (.iload_n 1, 1) := by decide +kernel
theorem dX12_status_24 : decode cX12_status 24 = .ok (.iconst 2, 1) := by decide +kernel
theorem dX12_status_25 : decode cX12_status 25 = .ok (.if_icmp .ne 10, 3) := by decide +kernel
theorem dX12_status_28 : decode cX12_status 28 = .ok (.aload_n 0, 1) := by decide +kernel
theorem dX12_status_29 : decode cX12_status 29 = .ok (.getfield 39, 3) := by decide +kernel
theorem dX12_status_32 : decode cX12_status 32 = .ok (.goto 5, 3) := by decide +kernel
theorem dX12_status_35 : decode cX12_status 35 = .ok (.ldc 42, 2) := by decide +kernel
theorem dX12_status_37 : decode cX12_status 37 = .ok (.ireturn, 1) := by decide +kernel
theorem w_X12_status {z : Int32} {Γ : Gam} {cy : Nat → ClassId} {a : Nat → Nat} {V : VT} {X : va_W} {v1 : Int32}  (C0 : CXg Γ cX12_status 2 0 RX12 cy) (hD : DM Γ cy a X) (h : f_X12_status v1 V = some z) (hz : (fun y : Int32 => FinI Γ cX12_status (WM cy a V X) y) z) : Wp Γ 0 0 0 [(0, .ref (a 0)), (1, .int v1)] [] (WM cy a V X) := by
  unfold f_X12_status at h
  refine r_iload_n C0 dX12_status_0 rfl 1 rfl ?_
  refine r_if_ne C0 11 dX12_status_1 rfl h (fun _ h => ?_) (fun _ h => ?_)
  · refine r_iload_n C0 dX12_status_11 rfl 1 rfl ?_
    refine r_iconst C0 dX12_status_12 ki_1 ?_
    refine r_icmp_ne C0 23 dX12_status_13 rfl h (fun _ h => ?_) (fun _ h => ?_)
    · refine r_iload_n C0 dX12_status_23 rfl 1 rfl ?_
      refine r_iconst C0 dX12_status_24 ki_2 ?_
      refine r_icmp_ne C0 35 dX12_status_25 rfl h (fun _ h => ?_) (fun _ h => ?_)
      · refine r_ldc C0 tk_X12_42 dX12_status_35 ?_
        cases h
        exact hz _ _ dX12_status_37
      · refine r_aload_n C0 dX12_status_28 rfl 0 rfl ?_
        refine wmg_0_9 C0 tf_X12_39 dX12_status_29 ?_
        refine r_goto C0 37 dX12_status_32 rfl ?_
        cases h
        exact hz _ _ dX12_status_37
    · refine r_aload_n C0 dX12_status_16 rfl 0 rfl ?_
      refine wmg_0_8 C0 tf_X12_36 dX12_status_17 ?_
      refine r_goto C0 37 dX12_status_20 rfl ?_
      cases h
      exact hz _ _ dX12_status_37
  · refine r_aload_n C0 dX12_status_4 rfl 0 rfl ?_
    refine wmg_0_7 C0 tf_X12_32 dX12_status_5 ?_
    refine r_goto C0 37 dX12_status_8 rfl ?_
    cases h
    exact hz _ _ dX12_status_37
theorem c_X12_status {l : Launch} {D : va_G} {cy : Nat → ClassId} {a : Nat → Nat} {V : VT} {X : va_W} {v1 : Int32} {y : Int32} (h : f_X12_status v1 V = some y) : CT l D cy yX12_status cX12_status 2 (some .int) 0 [.ref (a 0), .int v1] (WM cy a V X) (WM cy a V X) (some (.int y)) :=
  mkI (by decide) (Nat.le_of_ble_eq_true rfl) (fun Γ _ _ C0 hD hF => w_X12_status C0 (dm_of hD) h hF)
