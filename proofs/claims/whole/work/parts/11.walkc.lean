theorem dX11_at_0 : decode cX11_at 0 = .ok (.aload_n 0, 1) := by decide +kernel
theorem dX11_at_1 : decode cX11_at 1 = .ok (.getfield 28, 3) := by decide +kernel
theorem dX11_at_4 : decode cX11_at 4 = .ok (.iload_n 1, 1) := by decide +kernel
theorem dX11_at_5 : decode cX11_at 5 = .ok (.iload_n 2, 1) := by decide +kernel
theorem dX11_at_6 : decode cX11_at 6 = .ok (.invokevirtual 202, 3) := by decide +kernel
theorem dX11_at_9 : decode cX11_at 9 = .ok (.ifCond .eq 18, 3) := by decide +kernel
theorem dX11_at_12 : decode cX11_at 12 = .ok (.aload_n 0, 1) := by decide +kernel
theorem dX11_at_13 : decode cX11_at 13 = .ok (.getfield 28, 3) := by decide +kernel
theorem dX11_at_16 : decode cX11_at 16 = .ok (.getfield 206, 3) := by decide +kernel
theorem dX11_at_19 : decode cX11_at 19 = .ok (.iload_n 1, 1) := by decide +kernel
theorem dX11_at_20 : decode cX11_at 20 = .ok (.iload_n 2, 1) := by decide +kernel
theorem dX11_at_21 : decode cX11_at 21 = .ok (.invokevirtual 210, 3) := by decide +kernel
theorem dX11_at_24 : decode cX11_at 24 = .ok (.goto 5, 3) := by decide +kernel
theorem dX11_at_27 : decode cX11_at 27 = .ok (.ldc 198, 2) := by decide +kernel
theorem dX11_at_29 : decode cX11_at 29 = .ok (.ireturn, 1) := by decide +kernel
theorem w_X11_at {z : Int32} {Γ : Gam} {cy : Nat → ClassId} {a : Nat → Nat} {V : VT} {J : JT} {K : Nat → Option Nat} {X : va_W} {v1 : Int32} {v2 : Int32}  (C0 : CXg Γ cX11_at 3 2 RX11 cy) (hD : DC Γ cy a X) (h : f_X11_at v1 v2 V = some z) (hz : (fun y : Int32 => FinI Γ cX11_at (WC cy a V J K X) y) z) : Wp Γ 0 0 0 [(0, .ref (a 0)), (1, .int v1), (2, .int v2)] [] (WC cy a V J K X) := by
  unfold f_X11_at at h
  refine r_aload_n C0 dX11_at_0 rfl 0 rfl ?_
  refine wcg_0_2 C0 tf_X11_28 dX11_at_1 ?_
  refine r_iload_n C0 dX11_at_4 rfl 1 rfl ?_
  refine r_iload_n C0 dX11_at_5 rfl 2 rfl ?_
  refine callV2 C0 h (hD _ _ _) mw_X3_hasPlace rv_3 tm_X11_202 (fun y hy => c_X3_hasPlace hy) (Nat.le_of_ble_eq_true rfl) (Nat.le_of_ble_eq_true rfl) dX11_at_6 (fun r1 h => ?_)
  refine r_if_eq C0 27 dX11_at_9 rfl h (fun _ h => ?_) (fun _ h => ?_)
  · refine r_ldc C0 tk_X11_198 dX11_at_27 ?_
    cases h
    exact hz _ _ dX11_at_29
  · refine r_aload_n C0 dX11_at_12 rfl 0 rfl ?_
    refine wcg_0_2 C0 tf_X11_28 dX11_at_13 ?_
    refine wcg_3_1 C0 tf_X11_206 dX11_at_16 ?_
    refine r_iload_n C0 dX11_at_19 rfl 1 rfl ?_
    refine r_iload_n C0 dX11_at_20 rfl 2 rfl ?_
    refine callV2 C0 h (hD _ _ _) mw_X7_get (rv_t tb_11) tm_X11_210 (fun y hy => c_X7_get tb_11 hy) (Nat.le_of_ble_eq_true rfl) (Nat.le_of_ble_eq_true rfl) dX11_at_21 (fun r2 h => ?_)
    refine r_goto C0 29 dX11_at_24 rfl ?_
    cases h
    exact hz _ _ dX11_at_29
theorem c_X11_at {l : Launch} {D : va_G} {cy : Nat → ClassId} {a : Nat → Nat} {V : VT} {J : JT} {K : Nat → Option Nat} {X : va_W} {v1 : Int32} {v2 : Int32} {y : Int32} (h : f_X11_at v1 v2 V = some y) : CT l D cy yX11_at cX11_at 3 (some .int) 2 [.ref (a 0), .int v1, .int v2] (WC cy a V J K X) (WC cy a V J K X) (some (.int y)) :=
  mkI (by decide) (Nat.le_of_ble_eq_true rfl) (fun Γ _ _ C0 hD hF => w_X11_at C0 (dc_of hD) h hF)
theorem dX11_of_0 : decode cX11_of 0 = .ok (.aload_n 0, 1) := by decide +kernel
theorem dX11_of_1 : decode cX11_of 1 = .ok (.getfield 28, 3) := by decide +kernel
theorem dX11_of_4 : decode cX11_of 4 = .ok (.iload_n 1, 1) := by decide +kernel
theorem dX11_of_5 : decode cX11_of 5 = .ok (.invokevirtual 215, 3) := by decide +kernel
theorem dX11_of_8 : decode cX11_of 8 = .ok (.ifCond .ne 6, 3) := by decide +kernel
theorem dX11_of_11 : decode cX11_of 11 = .ok (.ldc 198, 2) := by decide +kernel
theorem dX11_of_13 : decode cX11_of 13 = .ok (.ireturn, 1) := by decide +kernel
theorem dX11_of_14 : decode cX11_of 14 = .ok (.iload_n 2, 1) := by decide +kernel
theorem dX11_of_15 : decode cX11_of 15 = .ok (.tableswitch 142 0 6 #[41, 54, 67, 80, 94, 108, 121], 41) := by decide +kernel
theorem dX11_of_56 : decode cX11_of 56 = .ok (.aload_n 0, 1) := by decide +kernel
theorem dX11_of_57 : decode cX11_of 57 = .ok (.getfield 28, 3) := by decide +kernel
theorem dX11_of_60 : decode cX11_of 60 = .ok (.getfield 219, 3) := by decide +kernel
theorem dX11_of_63 : decode cX11_of 63 = .ok (.iload_n 1, 1) := by decide +kernel
theorem dX11_of_64 : decode cX11_of 64 = .ok (.iconst 0, 1) := by decide +kernel
theorem dX11_of_65 : decode cX11_of 65 = .ok (.invokevirtual 210, 3) := by decide +kernel
theorem dX11_of_68 : decode cX11_of 68 = .ok (.ireturn, 1) := by decide +kernel
theorem dX11_of_69 : decode cX11_of 69 = .ok (.aload_n 0, 1) := by decide +kernel
theorem dX11_of_70 : decode cX11_of 70 = .ok (.getfield 28, 3) := by decide +kernel
theorem dX11_of_73 : decode cX11_of 73 = .ok (.getfield 219, 3) := by decide +kernel
theorem dX11_of_76 : decode cX11_of 76 = .ok (.iload_n 1, 1) := by decide +kernel
theorem dX11_of_77 : decode cX11_of 77 = .ok (.iconst 1, 1) := by decide +kernel
theorem dX11_of_78 : decode cX11_of 78 = .ok (.invokevirtual 210, 3) := by decide +kernel
theorem dX11_of_81 : decode cX11_of 81 = .ok (.ireturn, 1) := by decide +kernel
theorem dX11_of_82 : decode cX11_of 82 = .ok (.aload_n 0, 1) := by decide +kernel
theorem dX11_of_83 : decode cX11_of 83 = .ok (.getfield 28, 3) := by decide +kernel
theorem dX11_of_86 : decode cX11_of 86 = .ok (.getfield 219, 3) := by decide +kernel
theorem dX11_of_89 : decode cX11_of 89 = .ok (.iload_n 1, 1) := by decide +kernel
theorem dX11_of_90 : decode cX11_of 90 = .ok (.iconst 2, 1) := by decide +kernel
theorem dX11_of_91 : decode cX11_of 91 = .ok (.invokevirtual 210, 3) := by decide +kernel
theorem dX11_of_94 : decode cX11_of 94 = .ok (.ireturn, 1) := by decide +kernel
theorem dX11_of_95 : decode cX11_of 95 = .ok (.aload_n 0, 1) := by decide +kernel
theorem dX11_of_96 : decode cX11_of 96 = .ok (.getfield 28, 3) := by decide +kernel
theorem dX11_of_99 : decode cX11_of 99 = .ok (.getfield 219, 3) := by decide +kernel
theorem dX11_of_102 : decode cX11_of 102 = .ok (.iload_n 1, 1) := by decide +kernel
theorem dX11_of_103 : decode cX11_of 103 = .ok (.bipush 6, 2) := by decide +kernel
theorem dX11_of_105 : decode cX11_of 105 = .ok (.invokevirtual 210, 3) := by decide +kernel
theorem dX11_of_108 : decode cX11_of 108 = .ok (.ireturn, 1) := by decide +kernel
theorem dX11_of_109 : decode cX11_of 109 = .ok (.aload_n 0, 1) := by decide +kernel
theorem dX11_of_110 : decode cX11_of 110 = .ok (.getfield 28, 3) := by decide +kernel
theorem dX11_of_113 : decode cX11_of 113 = .ok (.getfield 219, 3) := by decide +kernel
theorem dX11_of_116 : decode cX11_of 116 = .ok (.iload_n 1, 1) := by decide +kernel
theorem dX11_of_117 : decode cX11_of 117 = .ok (.bipush 7, 2) := by decide +kernel
theorem dX11_of_119 : decode cX11_of 119 = .ok (.invokevirtual 210, 3) := by decide +kernel
theorem dX11_of_122 : decode cX11_of 122 = .ok (.ireturn, 1) := by decide +kernel
theorem dX11_of_123 : decode cX11_of 123 = .ok (.aload_n 0, 1) := by decide +kernel
theorem dX11_of_124 : decode cX11_of 124 = .ok (.getfield 28, 3) := by decide +kernel
theorem dX11_of_127 : decode cX11_of 127 = .ok (.getfield 219, 3) := by decide +kernel
theorem dX11_of_130 : decode cX11_of 130 = .ok (.iload_n 1, 1) := by decide +kernel
theorem dX11_of_131 : decode cX11_of 131 = .ok (.iconst 4, 1) := by decide +kernel
theorem dX11_of_132 : decode cX11_of 132 = .ok (.invokevirtual 210, 3) := by decide +kernel
theorem dX11_of_135 : decode cX11_of 135 = .ok (.ireturn, 1) := by decide +kernel
theorem dX11_of_136 : decode cX11_of 136 = .ok (.aload_n 0, 1) := by decide +kernel
theorem dX11_of_137 : decode cX11_of 137 = .ok (.getfield 28, 3) := by decide +kernel
theorem dX11_of_140 : decode cX11_of 140 = .ok (.getfield 219, 3) := by decide +kernel
theorem dX11_of_143 : decode cX11_of 143 = .ok (.iload_n 1, 1) := by decide +kernel
theorem dX11_of_144 : decode cX11_of 144 = .ok (.iconst 5, 1) := by decide +kernel
theorem dX11_of_145 : decode cX11_of 145 = .ok (.invokevirtual 210, 3) := by decide +kernel
theorem dX11_of_148 : decode cX11_of 148 = .ok (.ifCond .le 7, 3) := by decide +kernel
theorem dX11_of_151 : decode cX11_of 151 = .ok (.iconst 1, 1) := by decide +kernel
theorem dX11_of_152 : decode cX11_of 152 = .ok (.goto 4, 3) := by decide +kernel
theorem dX11_of_155 : decode cX11_of 155 = .ok (.iconst 0, 1) := by decide +kernel
theorem dX11_of_156 : decode cX11_of 156 = .ok (.ireturn, 1) := by decide +kernel
theorem dX11_of_157 : decode cX11_of 157 = .ok (.ldc 198, 2) := by decide +kernel
theorem dX11_of_159 : decode cX11_of 159 = .ok (.ireturn, 1) := by decide +kernel
theorem w_X11_of {z : Int32} {Γ : Gam} {cy : Nat → ClassId} {a : Nat → Nat} {V : VT} {J : JT} {K : Nat → Option Nat} {X : va_W} {v1 : Int32} {v2 : Int32}  (C0 : CXg Γ cX11_of 3 2 RX11 cy) (hD : DC Γ cy a X) (h : f_X11_of v1 v2 V = some z) (hz : (fun y : Int32 => FinI Γ cX11_of (WC cy a V J K X) y) z) : Wp Γ 0 0 0 [(0, .ref (a 0)), (1, .int v1), (2, .int v2)] [] (WC cy a V J K X) := by
  unfold f_X11_of at h
  refine r_aload_n C0 dX11_of_0 rfl 0 rfl ?_
  refine wcg_0_2 C0 tf_X11_28 dX11_of_1 ?_
  refine r_iload_n C0 dX11_of_4 rfl 1 rfl ?_
  refine callV1 C0 h (hD _ _ _) mw_X3_isThing rv_3 tm_X11_215 (fun y hy => c_X3_isThing hy) (Nat.le_of_ble_eq_true rfl) (Nat.le_of_ble_eq_true rfl) dX11_of_5 (fun r1 h => ?_)
  refine r_if_ne C0 14 dX11_of_8 rfl h (fun _ h => ?_) (fun _ h => ?_)
  · refine r_iload_n C0 dX11_of_14 rfl 2 rfl ?_
    by_cases c0 : v2 = 0
    · have h := op_pos c0 h
      refine r_swI C0 56 dX11_of_15 c0 (by decide) (by decide) rfl rfl ?_
      refine r_aload_n C0 dX11_of_56 rfl 0 rfl ?_
      refine wcg_0_2 C0 tf_X11_28 dX11_of_57 ?_
      refine wcg_3_3 C0 tf_X11_219 dX11_of_60 ?_
      refine r_iload_n C0 dX11_of_63 rfl 1 rfl ?_
      refine r_iconst C0 dX11_of_64 ki_0 ?_
      refine callV2 C0 h (hD _ _ _) mw_X7_get (rv_t tb_13) tm_X11_210 (fun y hy => c_X7_get tb_13 hy) (Nat.le_of_ble_eq_true rfl) (Nat.le_of_ble_eq_true rfl) dX11_of_65 (fun r2 h => ?_)
      cases h
      exact hz _ _ dX11_of_68
    have h := op_neg c0 h
    have n0 := ne_toInt (i := 0) c0 (by decide)
    by_cases c1 : v2 = 1
    · have h := op_pos c1 h
      refine r_swI C0 69 dX11_of_15 c1 (by decide) (by decide) rfl rfl ?_
      refine r_aload_n C0 dX11_of_69 rfl 0 rfl ?_
      refine wcg_0_2 C0 tf_X11_28 dX11_of_70 ?_
      refine wcg_3_3 C0 tf_X11_219 dX11_of_73 ?_
      refine r_iload_n C0 dX11_of_76 rfl 1 rfl ?_
      refine r_iconst C0 dX11_of_77 ki_1 ?_
      refine callV2 C0 h (hD _ _ _) mw_X7_get (rv_t tb_13) tm_X11_210 (fun y hy => c_X7_get tb_13 hy) (Nat.le_of_ble_eq_true rfl) (Nat.le_of_ble_eq_true rfl) dX11_of_78 (fun r3 h => ?_)
      cases h
      exact hz _ _ dX11_of_81
    have h := op_neg c1 h
    have n1 := ne_toInt (i := 1) c1 (by decide)
    by_cases c2 : v2 = 2
    · have h := op_pos c2 h
      refine r_swI C0 82 dX11_of_15 c2 (by decide) (by decide) rfl rfl ?_
      refine r_aload_n C0 dX11_of_82 rfl 0 rfl ?_
      refine wcg_0_2 C0 tf_X11_28 dX11_of_83 ?_
      refine wcg_3_3 C0 tf_X11_219 dX11_of_86 ?_
      refine r_iload_n C0 dX11_of_89 rfl 1 rfl ?_
      refine r_iconst C0 dX11_of_90 ki_2 ?_
      refine callV2 C0 h (hD _ _ _) mw_X7_get (rv_t tb_13) tm_X11_210 (fun y hy => c_X7_get tb_13 hy) (Nat.le_of_ble_eq_true rfl) (Nat.le_of_ble_eq_true rfl) dX11_of_91 (fun r4 h => ?_)
      cases h
      exact hz _ _ dX11_of_94
    have h := op_neg c2 h
    have n2 := ne_toInt (i := 2) c2 (by decide)
    by_cases c3 : v2 = 3
    · have h := op_pos c3 h
      refine r_swI C0 95 dX11_of_15 c3 (by decide) (by decide) rfl rfl ?_
      refine r_aload_n C0 dX11_of_95 rfl 0 rfl ?_
      refine wcg_0_2 C0 tf_X11_28 dX11_of_96 ?_
      refine wcg_3_3 C0 tf_X11_219 dX11_of_99 ?_
      refine r_iload_n C0 dX11_of_102 rfl 1 rfl ?_
      refine r_bipush C0 dX11_of_103 kb_6 ?_
      refine callV2 C0 h (hD _ _ _) mw_X7_get (rv_t tb_13) tm_X11_210 (fun y hy => c_X7_get tb_13 hy) (Nat.le_of_ble_eq_true rfl) (Nat.le_of_ble_eq_true rfl) dX11_of_105 (fun r5 h => ?_)
      cases h
      exact hz _ _ dX11_of_108
    have h := op_neg c3 h
    have n3 := ne_toInt (i := 3) c3 (by decide)
    by_cases c4 : v2 = 4
    · have h := op_pos c4 h
      refine r_swI C0 109 dX11_of_15 c4 (by decide) (by decide) rfl rfl ?_
      refine r_aload_n C0 dX11_of_109 rfl 0 rfl ?_
      refine wcg_0_2 C0 tf_X11_28 dX11_of_110 ?_
      refine wcg_3_3 C0 tf_X11_219 dX11_of_113 ?_
      refine r_iload_n C0 dX11_of_116 rfl 1 rfl ?_
      refine r_bipush C0 dX11_of_117 kb_7 ?_
      refine callV2 C0 h (hD _ _ _) mw_X7_get (rv_t tb_13) tm_X11_210 (fun y hy => c_X7_get tb_13 hy) (Nat.le_of_ble_eq_true rfl) (Nat.le_of_ble_eq_true rfl) dX11_of_119 (fun r6 h => ?_)
      cases h
      exact hz _ _ dX11_of_122
    have h := op_neg c4 h
    have n4 := ne_toInt (i := 4) c4 (by decide)
    by_cases c5 : v2 = 5
    · have h := op_pos c5 h
      refine r_swI C0 123 dX11_of_15 c5 (by decide) (by decide) rfl rfl ?_
      refine r_aload_n C0 dX11_of_123 rfl 0 rfl ?_
      refine wcg_0_2 C0 tf_X11_28 dX11_of_124 ?_
      refine wcg_3_3 C0 tf_X11_219 dX11_of_127 ?_
      refine r_iload_n C0 dX11_of_130 rfl 1 rfl ?_
      refine r_iconst C0 dX11_of_131 ki_4 ?_
      refine callV2 C0 h (hD _ _ _) mw_X7_get (rv_t tb_13) tm_X11_210 (fun y hy => c_X7_get tb_13 hy) (Nat.le_of_ble_eq_true rfl) (Nat.le_of_ble_eq_true rfl) dX11_of_132 (fun r7 h => ?_)
      cases h
      exact hz _ _ dX11_of_135
    have h := op_neg c5 h
    have n5 := ne_toInt (i := 5) c5 (by decide)
    by_cases c6 : v2 = 6
    · have h := op_pos c6 h
      refine r_swI C0 136 dX11_of_15 c6 (by decide) (by decide) rfl rfl ?_
      refine r_aload_n C0 dX11_of_136 rfl 0 rfl ?_
      refine wcg_0_2 C0 tf_X11_28 dX11_of_137 ?_
      refine wcg_3_3 C0 tf_X11_219 dX11_of_140 ?_
      refine r_iload_n C0 dX11_of_143 rfl 1 rfl ?_
      refine r_iconst C0 dX11_of_144 ki_5 ?_
      refine callV2 C0 h (hD _ _ _) mw_X7_get (rv_t tb_13) tm_X11_210 (fun y hy => c_X7_get tb_13 hy) (Nat.le_of_ble_eq_true rfl) (Nat.le_of_ble_eq_true rfl) dX11_of_145 (fun r8 h => ?_)
      refine r_if_le C0 155 dX11_of_148 rfl h (fun _ h => ?_) (fun _ h => ?_)
      · refine r_iconst C0 dX11_of_155 ki_0 ?_
        cases h
        exact hz _ _ dX11_of_156
      · refine r_iconst C0 dX11_of_151 ki_1 ?_
        refine r_goto C0 156 dX11_of_152 rfl ?_
        cases h
        exact hz _ _ dX11_of_156
    have h := op_neg c6 h
    have n6 := ne_toInt (i := 6) c6 (by decide)
    refine r_swD C0 157 dX11_of_15 (by omega) rfl ?_
    refine r_ldc C0 tk_X11_198 dX11_of_157 ?_
    cases h
    exact hz _ _ dX11_of_159
  · refine r_ldc C0 tk_X11_198 dX11_of_11 ?_
    cases h
    exact hz _ _ dX11_of_13
theorem c_X11_of {l : Launch} {D : va_G} {cy : Nat → ClassId} {a : Nat → Nat} {V : VT} {J : JT} {K : Nat → Option Nat} {X : va_W} {v1 : Int32} {v2 : Int32} {y : Int32} (h : f_X11_of v1 v2 V = some y) : CT l D cy yX11_of cX11_of 3 (some .int) 2 [.ref (a 0), .int v1, .int v2] (WC cy a V J K X) (WC cy a V J K X) (some (.int y)) :=
  mkI (by decide) (Nat.le_of_ble_eq_true rfl) (fun Γ _ _ C0 hD hF => w_X11_of C0 (dc_of hD) h hF)
theorem dX11_barOf_0 : decode cX11_barOf 0 = .ok (.aload_n 0, 1) := by decide +kernel
theorem dX11_barOf_1 : decode cX11_barOf 1 = .ok (.getfield 28, 3) := by decide +kernel
theorem dX11_barOf_4 : decode cX11_barOf 4 = .ok (.iload_n 1, 1) := by decide +kernel
theorem dX11_barOf_5 : decode cX11_barOf 5 = .ok (.invokevirtual 222, 3) := by decide +kernel
theorem dX11_barOf_8 : decode cX11_barOf 8 = .ok (.ifCond .ne 6, 3) := by decide +kernel
theorem dX11_barOf_11 : decode cX11_barOf 11 = .ok (.ldc 198, 2) := by decide +kernel
theorem dX11_barOf_13 : decode cX11_barOf 13 = .ok (.ireturn, 1) := by decide +kernel
theorem dX11_barOf_14 : decode cX11_barOf 14 = .ok (.iload_n 2, 1) := by decide +kernel
theorem dX11_barOf_15 : decode cX11_barOf 15 = .ok (.tableswitch 162 0 8 #[49, 62, 75, 88, 101, 110, 119, 128, 145], 49) := by decide +kernel
theorem dX11_barOf_64 : decode cX11_barOf 64 = .ok (.aload_n 0, 1) := by decide +kernel
theorem dX11_barOf_65 : decode cX11_barOf 65 = .ok (.getfield 28, 3) := by decide +kernel
theorem dX11_barOf_68 : decode cX11_barOf 68 = .ok (.getfield 225, 3) := by decide +kernel
theorem dX11_barOf_71 : decode cX11_barOf 71 = .ok (.iload_n 1, 1) := by decide +kernel
theorem dX11_barOf_72 : decode cX11_barOf 72 = .ok (.iconst 0, 1) := by decide +kernel
theorem dX11_barOf_73 : decode cX11_barOf 73 = .ok (.invokevirtual 210, 3) := by decide +kernel
theorem dX11_barOf_76 : decode cX11_barOf 76 = .ok (.ireturn, 1) := by decide +kernel
theorem dX11_barOf_77 : decode cX11_barOf 77 = .ok (.aload_n 0, 1) := by decide +kernel
theorem dX11_barOf_78 : decode cX11_barOf 78 = .ok (.getfield 28, 3) := by decide +kernel
theorem dX11_barOf_81 : decode cX11_barOf 81 = .ok (.getfield 225, 3) := by decide +kernel
theorem dX11_barOf_84 : decode cX11_barOf 84 = .ok (.iload_n 1, 1) := by decide +kernel
theorem dX11_barOf_85 : decode cX11_barOf 85 = .ok (.iconst 1, 1) := by decide +kernel
theorem dX11_barOf_86 : decode cX11_barOf 86 = .ok (.invokevirtual 210, 3) := by decide +kernel
theorem dX11_barOf_89 : decode cX11_barOf 89 = .ok (.ireturn, 1) := by decide +kernel
theorem dX11_barOf_90 : decode cX11_barOf 90 = .ok (.aload_n 0, 1) := by decide +kernel
theorem dX11_barOf_91 : decode cX11_barOf 91 = .ok (.getfield 28, 3) := by decide +kernel
theorem dX11_barOf_94 : decode cX11_barOf 94 = .ok (.getfield 225, 3) := by decide +kernel
theorem dX11_barOf_97 : decode cX11_barOf 97 = .ok (.iload_n 1, 1) := by decide +kernel
theorem dX11_barOf_98 : decode cX11_barOf 98 = .ok (.iconst 2, 1) := by decide +kernel
theorem dX11_barOf_99 : decode cX11_barOf 99 = .ok (.invokevirtual 210, 3) := by decide +kernel
theorem dX11_barOf_102 : decode cX11_barOf 102 = .ok (.ireturn, 1) := by decide +kernel
theorem dX11_barOf_103 : decode cX11_barOf 103 = .ok (.aload_n 0, 1) := by decide +kernel
theorem dX11_barOf_104 : decode cX11_barOf 104 = .ok (.getfield 28, 3) := by decide +kernel
theorem dX11_barOf_107 : decode cX11_barOf 107 = .ok (.getfield 225, 3) := by decide +kernel
theorem dX11_barOf_110 : decode cX11_barOf 110 = .ok (.iload_n 1, 1) := by decide +kernel
theorem dX11_barOf_111 : decode cX11_barOf 111 = .ok (.iconst 3, 1) := by decide +kernel
theorem dX11_barOf_112 : decode cX11_barOf 112 = .ok (.invokevirtual 210, 3) := by decide +kernel
theorem dX11_barOf_115 : decode cX11_barOf 115 = .ok (.ireturn, 1) := by decide +kernel
theorem dX11_barOf_116 : decode cX11_barOf 116 = .ok (.aload_n 0, 1) := by decide +kernel
theorem dX11_barOf_117 : decode cX11_barOf 117 = .ok (.getfield 28, 3) := by decide +kernel
theorem dX11_barOf_120 : decode cX11_barOf 120 = .ok (.iload_n 1, 1) := by decide +kernel
theorem dX11_barOf_121 : decode cX11_barOf 121 = .ok (.invokevirtual 228, 3) := by decide +kernel
theorem dX11_barOf_124 : decode cX11_barOf 124 = .ok (.ireturn, 1) := by decide +kernel
theorem dX11_barOf_125 : decode cX11_barOf 125 = .ok (.aload_n 0, 1) := by decide +kernel
theorem dX11_barOf_126 : decode cX11_barOf 126 = .ok (.getfield 28, 3) := by decide +kernel
theorem dX11_barOf_129 : decode cX11_barOf 129 = .ok (.iload_n 1, 1) := by decide +kernel
theorem dX11_barOf_130 : decode cX11_barOf 130 = .ok (.invokevirtual 231, 3) := by decide +kernel
theorem dX11_barOf_133 : decode cX11_barOf 133 = .ok (.ireturn, 1) := by decide +kernel
theorem dX11_barOf_134 : decode cX11_barOf 134 = .ok (.aload_n 0, 1) := by decide +kernel
theorem dX11_barOf_135 : decode cX11_barOf 135 = .ok (.getfield 44, 3) := by decide +kernel
theorem dX11_barOf_138 : decode cX11_barOf 138 = .ok (.iload_n 1, 1) := by decide +kernel
theorem dX11_barOf_139 : decode cX11_barOf 139 = .ok (.invokevirtual 234, 3) := by decide +kernel
theorem dX11_barOf_142 : decode cX11_barOf 142 = .ok (.ireturn, 1) := by decide +kernel
theorem dX11_barOf_143 : decode cX11_barOf 143 = .ok (.aload_n 0, 1) := by decide +kernel
theorem dX11_barOf_144 : decode cX11_barOf 144 = .ok (.getfield 37, 3) := by decide +kernel
theorem dX11_barOf_147 : decode cX11_barOf 147 = .ok (.iload_n 1, 1) := by decide +kernel
theorem dX11_barOf_148 : decode cX11_barOf 148 = .ok (.invokevirtual 237, 3) := by decide +kernel
theorem dX11_barOf_151 : decode cX11_barOf 151 = .ok (.ifCond .eq 7, 3) := by decide +kernel
theorem dX11_barOf_154 : decode cX11_barOf 154 = .ok (.iconst 1, 1) := by decide +kernel
theorem dX11_barOf_155 : decode cX11_barOf 155 = .ok (.goto 4, 3) := by decide +kernel
theorem dX11_barOf_158 : decode cX11_barOf 158 = .ok (.iconst 0, 1) := by decide +kernel
theorem dX11_barOf_159 : decode cX11_barOf 159 = .ok (.ireturn, 1) := by decide +kernel
theorem dX11_barOf_160 : decode cX11_barOf 160 = .ok (.aload_n 0, 1) := by decide +kernel
theorem dX11_barOf_161 : decode cX11_barOf 161 = .ok (.getfield 37, 3) := by decide +kernel
theorem dX11_barOf_164 : decode cX11_barOf 164 = .ok (.iload_n 1, 1) := by decide +kernel
theorem dX11_barOf_165 : decode cX11_barOf 165 = .ok (.invokevirtual 240, 3) := by decide +kernel
theorem dX11_barOf_168 : decode cX11_barOf 168 = .ok (.ifCond .eq 7, 3) := by decide +kernel
theorem dX11_barOf_171 : decode cX11_barOf 171 = .ok (.iconst 1, 1) := by decide +kernel
theorem dX11_barOf_172 : decode cX11_barOf 172 = .ok (.goto 4, 3) := by decide +kernel
theorem dX11_barOf_175 : decode cX11_barOf 175 = .ok (.iconst 0, 1) := by decide +kernel
theorem dX11_barOf_176 : decode cX11_barOf 176 = .ok (.ireturn, 1) := by decide +kernel
theorem dX11_barOf_177 : decode cX11_barOf 177 = .ok (.ldc 198, 2) := by decide +kernel
theorem dX11_barOf_179 : decode cX11_barOf 179 = .ok (.ireturn, 1) := by decide +kernel
theorem w_X11_barOf {z : Int32 × VT × JT} {Γ : Gam} {cy : Nat → ClassId} {a : Nat → Nat} {V : VT} {J : JT} {K : Nat → Option Nat} {X : va_W} {v1 : Int32} {v2 : Int32}  (C0 : CXg Γ cX11_barOf 3 4 RX11 cy) (hD : DC Γ cy a X) (h : f_X11_barOf v1 v2 V J = some z) (hz : (fun y : Int32 × VT × JT => FinI Γ cX11_barOf (WC cy a y.2.1 y.2.2 K X) y.1) z) : Wp Γ 0 0 0 [(0, .ref (a 0)), (1, .int v1), (2, .int v2)] [] (WC cy a V J K X) := by
  unfold f_X11_barOf at h
  refine r_aload_n C0 dX11_barOf_0 rfl 0 rfl ?_
  refine wcg_0_2 C0 tf_X11_28 dX11_barOf_1 ?_
  refine r_iload_n C0 dX11_barOf_4 rfl 1 rfl ?_
  refine callV1 C0 h (hD _ _ _) mw_X3_isRigged rv_3 tm_X11_222 (fun y hy => c_X3_isRigged hy) (Nat.le_of_ble_eq_true rfl) (Nat.le_of_ble_eq_true rfl) dX11_barOf_5 (fun r1 h => ?_)
  refine r_if_ne C0 14 dX11_barOf_8 rfl h (fun _ h => ?_) (fun _ h => ?_)
  · refine r_iload_n C0 dX11_barOf_14 rfl 2 rfl ?_
    by_cases c0 : v2 = 0
    · have h := op_pos c0 h
      refine r_swI C0 64 dX11_barOf_15 c0 (by decide) (by decide) rfl rfl ?_
      refine r_aload_n C0 dX11_barOf_64 rfl 0 rfl ?_
      refine wcg_0_2 C0 tf_X11_28 dX11_barOf_65 ?_
      refine wcg_3_0 C0 tf_X11_225 dX11_barOf_68 ?_
      refine r_iload_n C0 dX11_barOf_71 rfl 1 rfl ?_
      refine r_iconst C0 dX11_barOf_72 ki_0 ?_
      refine callV2 C0 h (hD _ _ _) mw_X7_get (rv_t tb_10) tm_X11_210 (fun y hy => c_X7_get tb_10 hy) (Nat.le_of_ble_eq_true rfl) (Nat.le_of_ble_eq_true rfl) dX11_barOf_73 (fun r2 h => ?_)
      cases h
      exact hz _ _ dX11_barOf_76
    have h := op_neg c0 h
    have n0 := ne_toInt (i := 0) c0 (by decide)
    by_cases c1 : v2 = 1
    · have h := op_pos c1 h
      refine r_swI C0 77 dX11_barOf_15 c1 (by decide) (by decide) rfl rfl ?_
      refine r_aload_n C0 dX11_barOf_77 rfl 0 rfl ?_
      refine wcg_0_2 C0 tf_X11_28 dX11_barOf_78 ?_
      refine wcg_3_0 C0 tf_X11_225 dX11_barOf_81 ?_
      refine r_iload_n C0 dX11_barOf_84 rfl 1 rfl ?_
      refine r_iconst C0 dX11_barOf_85 ki_1 ?_
      refine callV2 C0 h (hD _ _ _) mw_X7_get (rv_t tb_10) tm_X11_210 (fun y hy => c_X7_get tb_10 hy) (Nat.le_of_ble_eq_true rfl) (Nat.le_of_ble_eq_true rfl) dX11_barOf_86 (fun r3 h => ?_)
      cases h
      exact hz _ _ dX11_barOf_89
    have h := op_neg c1 h
    have n1 := ne_toInt (i := 1) c1 (by decide)
    by_cases c2 : v2 = 2
    · have h := op_pos c2 h
      refine r_swI C0 90 dX11_barOf_15 c2 (by decide) (by decide) rfl rfl ?_
      refine r_aload_n C0 dX11_barOf_90 rfl 0 rfl ?_
      refine wcg_0_2 C0 tf_X11_28 dX11_barOf_91 ?_
      refine wcg_3_0 C0 tf_X11_225 dX11_barOf_94 ?_
      refine r_iload_n C0 dX11_barOf_97 rfl 1 rfl ?_
      refine r_iconst C0 dX11_barOf_98 ki_2 ?_
      refine callV2 C0 h (hD _ _ _) mw_X7_get (rv_t tb_10) tm_X11_210 (fun y hy => c_X7_get tb_10 hy) (Nat.le_of_ble_eq_true rfl) (Nat.le_of_ble_eq_true rfl) dX11_barOf_99 (fun r4 h => ?_)
      cases h
      exact hz _ _ dX11_barOf_102
    have h := op_neg c2 h
    have n2 := ne_toInt (i := 2) c2 (by decide)
    by_cases c3 : v2 = 3
    · have h := op_pos c3 h
      refine r_swI C0 103 dX11_barOf_15 c3 (by decide) (by decide) rfl rfl ?_
      refine r_aload_n C0 dX11_barOf_103 rfl 0 rfl ?_
      refine wcg_0_2 C0 tf_X11_28 dX11_barOf_104 ?_
      refine wcg_3_0 C0 tf_X11_225 dX11_barOf_107 ?_
      refine r_iload_n C0 dX11_barOf_110 rfl 1 rfl ?_
      refine r_iconst C0 dX11_barOf_111 ki_3 ?_
      refine callV2 C0 h (hD _ _ _) mw_X7_get (rv_t tb_10) tm_X11_210 (fun y hy => c_X7_get tb_10 hy) (Nat.le_of_ble_eq_true rfl) (Nat.le_of_ble_eq_true rfl) dX11_barOf_112 (fun r5 h => ?_)
      cases h
      exact hz _ _ dX11_barOf_115
    have h := op_neg c3 h
    have n3 := ne_toInt (i := 3) c3 (by decide)
    by_cases c4 : v2 = 4
    · have h := op_pos c4 h
      refine r_swI C0 116 dX11_barOf_15 c4 (by decide) (by decide) rfl rfl ?_
      refine r_aload_n C0 dX11_barOf_116 rfl 0 rfl ?_
      refine wcg_0_2 C0 tf_X11_28 dX11_barOf_117 ?_
      refine r_iload_n C0 dX11_barOf_120 rfl 1 rfl ?_
      refine callV1 C0 h (hD _ _ _) mw_X3_thingsOn rv_3 tm_X11_228 (fun y hy => c_X3_thingsOn hy) (Nat.le_of_ble_eq_true rfl) (Nat.le_of_ble_eq_true rfl) dX11_barOf_121 (fun r6 h => ?_)
      cases h
      exact hz _ _ dX11_barOf_124
    have h := op_neg c4 h
    have n4 := ne_toInt (i := 4) c4 (by decide)
    by_cases c5 : v2 = 5
    · have h := op_pos c5 h
      refine r_swI C0 125 dX11_barOf_15 c5 (by decide) (by decide) rfl rfl ?_
      refine r_aload_n C0 dX11_barOf_125 rfl 0 rfl ?_
      refine wcg_0_2 C0 tf_X11_28 dX11_barOf_126 ?_
      refine r_iload_n C0 dX11_barOf_129 rfl 1 rfl ?_
      refine callV1 C0 h (hD _ _ _) mw_X3_linesOf rv_3 tm_X11_231 (fun y hy => c_X3_linesOf hy) (Nat.le_of_ble_eq_true rfl) (Nat.le_of_ble_eq_true rfl) dX11_barOf_130 (fun r7 h => ?_)
      cases h
      exact hz _ _ dX11_barOf_133
    have h := op_neg c5 h
    have n5 := ne_toInt (i := 5) c5 (by decide)
    by_cases c6 : v2 = 6
    · have h := op_pos c6 h
      refine r_swI C0 134 dX11_barOf_15 c6 (by decide) (by decide) rfl rfl ?_
      refine r_aload_n C0 dX11_barOf_134 rfl 0 rfl ?_
      refine wcg_0_4 C0 tf_X11_44 dX11_barOf_135 ?_
      refine r_iload_n C0 dX11_barOf_138 rfl 1 rfl ?_
      refine callV1 C0 h (hD _ _ _) mw_X5_leastOfGroup rv_5 tm_X11_234 (fun y hy => c_X5_leastOfGroup hy) (Nat.le_of_ble_eq_true rfl) (Nat.le_of_ble_eq_true rfl) dX11_barOf_139 (fun r8 h => ?_)
      cases h
      exact hz _ _ dX11_barOf_142
    have h := op_neg c6 h
    have n6 := ne_toInt (i := 6) c6 (by decide)
    by_cases c7 : v2 = 7
    · have h := op_pos c7 h
      refine r_swI C0 143 dX11_barOf_15 c7 (by decide) (by decide) rfl rfl ?_
      refine r_aload_n C0 dX11_barOf_143 rfl 0 rfl ?_
      refine wcg_0_3 C0 tf_X11_37 dX11_barOf_144 ?_
      refine r_iload_n C0 dX11_barOf_147 rfl 1 rfl ?_
      refine callV1 C0 h (hD _ _ _) mw_X10_isHeld rv_4 tm_X11_237 (fun y hy => c_X10_isHeld hy) (Nat.le_of_ble_eq_true rfl) (Nat.le_of_ble_eq_true rfl) dX11_barOf_148 (fun r9 h => ?_)
      refine r_if_eq C0 158 dX11_barOf_151 rfl h (fun _ h => ?_) (fun _ h => ?_)
      · refine r_iconst C0 dX11_barOf_158 ki_0 ?_
        cases h
        exact hz _ _ dX11_barOf_159
      · refine r_iconst C0 dX11_barOf_154 ki_1 ?_
        refine r_goto C0 159 dX11_barOf_155 rfl ?_
        cases h
        exact hz _ _ dX11_barOf_159
    have h := op_neg c7 h
    have n7 := ne_toInt (i := 7) c7 (by decide)
    by_cases c8 : v2 = 8
    · have h := op_pos c8 h
      refine r_swI C0 160 dX11_barOf_15 c8 (by decide) (by decide) rfl rfl ?_
      refine r_aload_n C0 dX11_barOf_160 rfl 0 rfl ?_
      refine wcg_0_3 C0 tf_X11_37 dX11_barOf_161 ?_
      refine r_iload_n C0 dX11_barOf_164 rfl 1 rfl ?_
      refine callV1 C0 h (hD _ _ _) mw_X10_isBalanced rv_4 tm_X11_240 (fun y hy => c_X10_isBalanced hy) (Nat.le_of_ble_eq_true rfl) (Nat.le_of_ble_eq_true rfl) dX11_barOf_165 (fun r10 h => ?_)
      refine r_if_eq C0 175 dX11_barOf_168 rfl h (fun _ h => ?_) (fun _ h => ?_)
      · refine r_iconst C0 dX11_barOf_175 ki_0 ?_
        cases h
        exact hz _ _ dX11_barOf_176
      · refine r_iconst C0 dX11_barOf_171 ki_1 ?_
        refine r_goto C0 176 dX11_barOf_172 rfl ?_
        cases h
        exact hz _ _ dX11_barOf_176
    have h := op_neg c8 h
    have n8 := ne_toInt (i := 8) c8 (by decide)
    refine r_swD C0 177 dX11_barOf_15 (by omega) rfl ?_
    refine r_ldc C0 tk_X11_198 dX11_barOf_177 ?_
    cases h
    exact hz _ _ dX11_barOf_179
  · refine r_ldc C0 tk_X11_198 dX11_barOf_11 ?_
    cases h
    exact hz _ _ dX11_barOf_13
theorem c_X11_barOf {l : Launch} {D : va_G} {cy : Nat → ClassId} {a : Nat → Nat} {V : VT} {J : JT} {K : Nat → Option Nat} {X : va_W} {v1 : Int32} {v2 : Int32} {y : Int32 × VT × JT} (h : f_X11_barOf v1 v2 V J = some y) : CT l D cy yX11_barOf cX11_barOf 3 (some .int) 4 [.ref (a 0), .int v1, .int v2] (WC cy a V J K X) (WC cy a y.2.1 y.2.2 K X) (some (.int y.1)) :=
  mkI (by decide) (Nat.le_of_ble_eq_true rfl) (fun Γ _ _ C0 hD hF => w_X11_barOf C0 (dc_of hD) h hF)
theorem dX11_load_0 : decode cX11_load 0 = .ok (.aload_n 0, 1) := by decide +kernel
theorem dX11_load_1 : decode cX11_load 1 = .ok (.getfield 28, 3) := by decide +kernel
theorem dX11_load_4 : decode cX11_load 4 = .ok (.iload_n 1, 1) := by decide +kernel
theorem dX11_load_5 : decode cX11_load 5 = .ok (.invokevirtual 222, 3) := by decide +kernel
theorem dX11_load_8 : decode cX11_load 8 = .ok (.ifCond .eq 15, 3) := by decide +kernel
theorem dX11_load_11 : decode cX11_load 11 = .ok (.aload_n 0, 1) := by decide +kernel
theorem dX11_load_12 : decode cX11_load 12 = .ok (.getfield 37, 3) := by decide +kernel
theorem dX11_load_15 : decode cX11_load 15 = .ok (.iload_n 1, 1) := by decide +kernel
theorem dX11_load_16 : decode cX11_load 16 = .ok (.invokevirtual 243, 3) := by decide +kernel
theorem dX11_load_19 : decode cX11_load 19 = .ok (.f2d, 1) := by decide +kernel
theorem dX11_load_20 : decode cX11_load 20 = .ok (.goto 4, 3) := by decide +kernel
theorem dX11_load_23 : decode cX11_load 23 = .ok (.dconst 0, 1) := by decide +kernel
theorem dX11_load_24 : decode cX11_load 24 = .ok (.dreturn, 1) := by decide +kernel
theorem w_X11_load {z : UInt64} {Γ : Gam} {cy : Nat → ClassId} {a : Nat → Nat} {V : VT} {J : JT} {K : Nat → Option Nat} {X : va_W} {v1 : Int32}  (C0 : CXg Γ cX11_load 2 3 RX11 cy) (hD : DC Γ cy a X) (h : f_X11_load v1 V = some z) (hz : (fun y : UInt64 => FinD Γ cX11_load (WC cy a V J K X) y) z) : Wp Γ 0 0 0 [(0, .ref (a 0)), (1, .int v1)] [] (WC cy a V J K X) := by
  unfold f_X11_load at h
  refine r_aload_n C0 dX11_load_0 rfl 0 rfl ?_
  refine wcg_0_2 C0 tf_X11_28 dX11_load_1 ?_
  refine r_iload_n C0 dX11_load_4 rfl 1 rfl ?_
  refine callV1 C0 h (hD _ _ _) mw_X3_isRigged rv_3 tm_X11_222 (fun y hy => c_X3_isRigged hy) (Nat.le_of_ble_eq_true rfl) (Nat.le_of_ble_eq_true rfl) dX11_load_5 (fun r1 h => ?_)
  refine r_if_eq C0 23 dX11_load_8 rfl h (fun _ h => ?_) (fun _ h => ?_)
  · refine r_dconst C0 dX11_load_23 ?_
    cases h
    exact hz _ _ dX11_load_24
  · refine r_aload_n C0 dX11_load_11 rfl 0 rfl ?_
    refine wcg_0_3 C0 tf_X11_37 dX11_load_12 ?_
    refine r_iload_n C0 dX11_load_15 rfl 1 rfl ?_
    refine callV1 C0 h (hD _ _ _) mw_X10_burdens rv_4 tm_X11_243 (fun y hy => c_X10_burdens hy) (Nat.le_of_ble_eq_true rfl) (Nat.le_of_ble_eq_true rfl) dX11_load_16 (fun r2 h => ?_)
    refine r_f2d C0 dX11_load_19 h (fun w3 h => ?_)
    refine r_goto C0 24 dX11_load_20 rfl ?_
    cases h
    exact hz _ _ dX11_load_24
theorem c_X11_load {l : Launch} {D : va_G} {cy : Nat → ClassId} {a : Nat → Nat} {V : VT} {J : JT} {K : Nat → Option Nat} {X : va_W} {v1 : Int32} {y : UInt64} (h : f_X11_load v1 V = some y) : CT l D cy yX11_load cX11_load 2 (some .double) 3 [.ref (a 0), .int v1] (WC cy a V J K X) (WC cy a V J K X) (some (.double y)) :=
  mkD (by decide) (Nat.le_of_ble_eq_true rfl) (fun Γ _ _ C0 hD hF => w_X11_load C0 (dc_of hD) h hF)
theorem dX11_share_0 : decode cX11_share 0 = .ok (.aload_n 0, 1) := by decide +kernel
theorem dX11_share_1 : decode cX11_share 1 = .ok (.getfield 28, 3) := by decide +kernel
theorem dX11_share_4 : decode cX11_share 4 = .ok (.iload_n 1, 1) := by decide +kernel
theorem dX11_share_5 : decode cX11_share 5 = .ok (.invokevirtual 247, 3) := by decide +kernel
theorem dX11_share_8 : decode cX11_share 8 = .ok (.ifCond .eq 14, 3) := by decide +kernel
theorem dX11_share_11 : decode cX11_share 11 = .ok (.aload_n 0, 1) := by decide +kernel
theorem dX11_share_12 : decode cX11_share 12 = .ok (.getfield 37, 3) := by decide +kernel
theorem dX11_share_15 : decode cX11_share 15 = .ok (.iload_n 1, 1) := by decide +kernel
theorem dX11_share_16 : decode cX11_share 16 = .ok (.invokevirtual 250, 3) := by decide +kernel
theorem dX11_share_19 : decode cX11_share 19 = .ok (.goto 6, 3) := by decide +kernel
theorem dX11_share_22 : decode cX11_share 22 = .ok (.ldc2_w 254, 3) := by decide +kernel
theorem dX11_share_25 : decode cX11_share 25 = .ok (.lreturn, 1) := by decide +kernel
theorem w_X11_share {z : Int64 × VT × JT} {Γ : Gam} {cy : Nat → ClassId} {a : Nat → Nat} {V : VT} {J : JT} {K : Nat → Option Nat} {X : va_W} {v1 : Int32}  (C0 : CXg Γ cX11_share 2 4 RX11 cy) (hD : DC Γ cy a X) (h : f_X11_share v1 V J = some z) (hz : (fun y : Int64 × VT × JT => FinL Γ cX11_share (WC cy a y.2.1 y.2.2 K X) y.1) z) : Wp Γ 0 0 0 [(0, .ref (a 0)), (1, .int v1)] [] (WC cy a V J K X) := by
  unfold f_X11_share at h
  refine r_aload_n C0 dX11_share_0 rfl 0 rfl ?_
  refine wcg_0_2 C0 tf_X11_28 dX11_share_1 ?_
  refine r_iload_n C0 dX11_share_4 rfl 1 rfl ?_
  refine callV1 C0 h (hD _ _ _) mw_X3_isLineThere rv_3 tm_X11_247 (fun y hy => c_X3_isLineThere hy) (Nat.le_of_ble_eq_true rfl) (Nat.le_of_ble_eq_true rfl) dX11_share_5 (fun r1 h => ?_)
  refine r_if_eq C0 22 dX11_share_8 rfl h (fun _ h => ?_) (fun _ h => ?_)
  · refine r_ldc2 C0 tk_X11_254 dX11_share_22 ?_
    cases h
    exact hz _ _ dX11_share_25
  · refine r_aload_n C0 dX11_share_11 rfl 0 rfl ?_
    refine wcg_0_3 C0 tf_X11_37 dX11_share_12 ?_
    refine r_iload_n C0 dX11_share_15 rfl 1 rfl ?_
    refine callV1 C0 h (hD _ _ _) mw_X10_shareOf rv_4 tm_X11_250 (fun y hy => c_X10_shareOf hy) (Nat.le_of_ble_eq_true rfl) (Nat.le_of_ble_eq_true rfl) dX11_share_16 (fun r2 h => ?_)
    refine r_goto C0 25 dX11_share_19 rfl ?_
    cases h
    exact hz _ _ dX11_share_25
theorem c_X11_share {l : Launch} {D : va_G} {cy : Nat → ClassId} {a : Nat → Nat} {V : VT} {J : JT} {K : Nat → Option Nat} {X : va_W} {v1 : Int32} {y : Int64 × VT × JT} (h : f_X11_share v1 V J = some y) : CT l D cy yX11_share cX11_share 2 (some .long) 4 [.ref (a 0), .int v1] (WC cy a V J K X) (WC cy a y.2.1 y.2.2 K X) (some (.long y.1)) :=
  mkL (by decide) (Nat.le_of_ble_eq_true rfl) (fun Γ _ _ C0 hD hF => w_X11_share C0 (dc_of hD) h hF)
theorem dX11_strength_0 : decode cX11_strength 0 = .ok (.aload_n 0, 1) := by decide +kernel
theorem dX11_strength_1 : decode cX11_strength 1 = .ok (.getfield 28, 3) := by decide +kernel
theorem dX11_strength_4 : decode cX11_strength 4 = .ok (.iload_n 1, 1) := by decide +kernel
theorem dX11_strength_5 : decode cX11_strength 5 = .ok (.invokevirtual 247, 3) := by decide +kernel
theorem dX11_strength_8 : decode cX11_strength 8 = .ok (.ifCond .eq 14, 3) := by decide +kernel
theorem dX11_strength_11 : decode cX11_strength 11 = .ok (.aload_n 0, 1) := by decide +kernel
theorem dX11_strength_12 : decode cX11_strength 12 = .ok (.getfield 28, 3) := by decide +kernel
theorem dX11_strength_15 : decode cX11_strength 15 = .ok (.iload_n 1, 1) := by decide +kernel
theorem dX11_strength_16 : decode cX11_strength 16 = .ok (.invokevirtual 256, 3) := by decide +kernel
theorem dX11_strength_19 : decode cX11_strength 19 = .ok (.goto 5, 3) := by decide +kernel
theorem dX11_strength_22 : decode cX11_strength 22 = .ok (.ldc 198, 2) := by decide +kernel
theorem dX11_strength_24 : decode cX11_strength 24 = .ok (.ireturn, 1) := by decide +kernel
theorem w_X11_strength {z : Int32} {Γ : Gam} {cy : Nat → ClassId} {a : Nat → Nat} {V : VT} {J : JT} {K : Nat → Option Nat} {X : va_W} {v1 : Int32}  (C0 : CXg Γ cX11_strength 2 3 RX11 cy) (hD : DC Γ cy a X) (h : f_X11_strength v1 V = some z) (hz : (fun y : Int32 => FinI Γ cX11_strength (WC cy a V J K X) y) z) : Wp Γ 0 0 0 [(0, .ref (a 0)), (1, .int v1)] [] (WC cy a V J K X) := by
  unfold f_X11_strength at h
  refine r_aload_n C0 dX11_strength_0 rfl 0 rfl ?_
  refine wcg_0_2 C0 tf_X11_28 dX11_strength_1 ?_
  refine r_iload_n C0 dX11_strength_4 rfl 1 rfl ?_
  refine callV1 C0 h (hD _ _ _) mw_X3_isLineThere rv_3 tm_X11_247 (fun y hy => c_X3_isLineThere hy) (Nat.le_of_ble_eq_true rfl) (Nat.le_of_ble_eq_true rfl) dX11_strength_5 (fun r1 h => ?_)
  refine r_if_eq C0 22 dX11_strength_8 rfl h (fun _ h => ?_) (fun _ h => ?_)
  · refine r_ldc C0 tk_X11_198 dX11_strength_22 ?_
    cases h
    exact hz _ _ dX11_strength_24
  · refine r_aload_n C0 dX11_strength_11 rfl 0 rfl ?_
    refine wcg_0_2 C0 tf_X11_28 dX11_strength_12 ?_
    refine r_iload_n C0 dX11_strength_15 rfl 1 rfl ?_
    refine callV1 C0 h (hD _ _ _) mw_X3_weakestPart rv_3 tm_X11_256 (fun y hy => c_X3_weakestPart hy) (Nat.le_of_ble_eq_true rfl) (Nat.le_of_ble_eq_true rfl) dX11_strength_16 (fun r2 h => ?_)
    refine r_goto C0 24 dX11_strength_19 rfl ?_
    cases h
    exact hz _ _ dX11_strength_24
theorem c_X11_strength {l : Launch} {D : va_G} {cy : Nat → ClassId} {a : Nat → Nat} {V : VT} {J : JT} {K : Nat → Option Nat} {X : va_W} {v1 : Int32} {y : Int32} (h : f_X11_strength v1 V = some y) : CT l D cy yX11_strength cX11_strength 2 (some .int) 3 [.ref (a 0), .int v1] (WC cy a V J K X) (WC cy a V J K X) (some (.int y)) :=
  mkI (by decide) (Nat.le_of_ble_eq_true rfl) (fun Γ _ _ C0 hD hF => w_X11_strength C0 (dc_of hD) h hF)
theorem dX11_even_0 : decode cX11_even 0 = .ok (.aload_n 0, 1) := by decide +kernel
theorem dX11_even_1 : decode cX11_even 1 = .ok (.getfield 28, 3) := by decide +kernel
theorem dX11_even_4 : decode cX11_even 4 = .ok (.iload_n 1, 1) := by decide +kernel
theorem dX11_even_5 : decode cX11_even 5 = .ok (.invokevirtual 222, 3) := by decide +kernel
theorem dX11_even_8 : decode cX11_even 8 = .ok (.ifCond .eq 14, 3) := by decide +kernel
theorem dX11_even_11 : decode cX11_even 11 = .ok (.aload_n 0, 1) := by decide +kernel
theorem dX11_even_12 : decode cX11_even 12 = .ok (.getfield 37, 3) := by decide +kernel
theorem dX11_even_15 : decode cX11_even 15 = .ok (.iload_n 1, 1) := by decide +kernel
theorem dX11_even_16 : decode cX11_even 16 = .ok (.invokevirtual 259, 3) := by decide +kernel
theorem dX11_even_19 : decode cX11_even 19 = .ok (.goto 5, 3) := by decide +kernel
theorem dX11_even_22 : decode cX11_even 22 = .ok (.ldc 198, 2) := by decide +kernel
theorem dX11_even_24 : decode cX11_even 24 = .ok (.ireturn, 1) := by decide +kernel
theorem w_X11_even {z : Int32} {Γ : Gam} {cy : Nat → ClassId} {a : Nat → Nat} {V : VT} {J : JT} {K : Nat → Option Nat} {X : va_W} {v1 : Int32}  (C0 : CXg Γ cX11_even 2 5 RX11 cy) (hD : DC Γ cy a X) (h : f_X11_even v1 V = some z) (hz : (fun y : Int32 => FinI Γ cX11_even (WC cy a V J K X) y) z) : Wp Γ 0 0 0 [(0, .ref (a 0)), (1, .int v1)] [] (WC cy a V J K X) := by
  unfold f_X11_even at h
  refine r_aload_n C0 dX11_even_0 rfl 0 rfl ?_
  refine wcg_0_2 C0 tf_X11_28 dX11_even_1 ?_
  refine r_iload_n C0 dX11_even_4 rfl 1 rfl ?_
  refine callV1 C0 h (hD _ _ _) mw_X3_isRigged rv_3 tm_X11_222 (fun y hy => c_X3_isRigged hy) (Nat.le_of_ble_eq_true rfl) (Nat.le_of_ble_eq_true rfl) dX11_even_5 (fun r1 h => ?_)
  refine r_if_eq C0 22 dX11_even_8 rfl h (fun _ h => ?_) (fun _ h => ?_)
  · refine r_ldc C0 tk_X11_198 dX11_even_22 ?_
    cases h
    exact hz _ _ dX11_even_24
  · refine r_aload_n C0 dX11_even_11 rfl 0 rfl ?_
    refine wcg_0_3 C0 tf_X11_37 dX11_even_12 ?_
    refine r_iload_n C0 dX11_even_15 rfl 1 rfl ?_
    refine callV1 C0 h (hD _ _ _) mw_X10_bricksWanted rv_4 tm_X11_259 (fun y hy => c_X10_bricksWanted hy) (Nat.le_of_ble_eq_true rfl) (Nat.le_of_ble_eq_true rfl) dX11_even_16 (fun r2 h => ?_)
    refine r_goto C0 24 dX11_even_19 rfl ?_
    cases h
    exact hz _ _ dX11_even_24
theorem c_X11_even {l : Launch} {D : va_G} {cy : Nat → ClassId} {a : Nat → Nat} {V : VT} {J : JT} {K : Nat → Option Nat} {X : va_W} {v1 : Int32} {y : Int32} (h : f_X11_even v1 V = some y) : CT l D cy yX11_even cX11_even 2 (some .int) 5 [.ref (a 0), .int v1] (WC cy a V J K X) (WC cy a V J K X) (some (.int y)) :=
  mkI (by decide) (Nat.le_of_ble_eq_true rfl) (fun Γ _ _ C0 hD hF => w_X11_even C0 (dc_of hD) h hF)
theorem dX11_least_0 : decode cX11_least 0 = .ok (.iconst 0, 1) := by decide +kernel
theorem dX11_least_1 : decode cX11_least 1 = .ok (.istore_n 1, 1) := by decide +kernel
theorem dX11_least_2 : decode cX11_least 2 = .ok (.iconst 0, 1) := by decide +kernel
theorem dX11_least_3 : decode cX11_least 3 = .ok (.istore_n 2, 1) := by decide +kernel
theorem dX11_least_4 : decode cX11_least 4 = .ok (.iload_n 2, 1) := by decide +kernel
theorem dX11_least_5 : decode cX11_least 5 = .ok (.bipush 12, 2) := by decide +kernel
theorem dX11_least_7 : decode cX11_least 7 = .ok (.if_icmp .ge 34, 3) := by decide +kernel
theorem dX11_least_10 : decode cX11_least 10 = .ok (.aload_n 0, 1) := by decide +kernel
theorem dX11_least_11 : decode cX11_least 11 = .ok (.getfield 69, 3) := by decide +kernel
theorem dX11_least_14 : decode cX11_least 14 = .ok (.iload_n 2, 1) := by decide +kernel
theorem dX11_least_15 : decode cX11_least 15 = .ok (.invokevirtual 262, 3) := by decide +kernel
theorem dX11_least_18 : decode cX11_least 18 = .ok (.ifCond .eq 17, 3) := by decide +kernel
theorem dX11_least_21 : decode cX11_least 21 = .ok (.iload_n 1, 1) := by decide +kernel
theorem dX11_least_22 : decode cX11_least 22 = .ok (.aload_n 0, 1) := by decide +kernel
theorem dX11_least_23 : decode cX11_least 23 = .ok (.getfield 37, 3) := by decide +kernel
theorem dX11_least_26 : decode cX11_least 26 = .ok (.iload_n 2, 1) := by decide +kernel
theorem dX11_least_27 : decode cX11_least 27 = .ok (.invokevirtual 259, 3) := by decide +kernel
theorem dX11_least_30 : decode cX11_least 30 = .ok (.invokestatic 265, 3) := by decide +kernel
theorem dX11_least_33 : decode cX11_least 33 = .ok (.iadd, 1) := by decide +kernel
theorem dX11_least_34 : decode cX11_least 34 = .ok (.istore_n 1, 1) := by decide +kernel
theorem dX11_least_35 : decode cX11_least 35 = .ok (.iinc 2 1, 3) := by decide +kernel
theorem dX11_least_38 : decode cX11_least 38 = .ok (.goto (-34), 3) := by decide +kernel
theorem dX11_least_41 : decode cX11_least 41 = .ok (.iload_n 1, 1) := by decide +kernel
theorem dX11_least_42 : decode cX11_least 42 = .ok (.ireturn, 1) := by decide +kernel
theorem w_X11_least_j35 {z : ((Int32 × Int32) ⊕ (Int32))} {Γ : Gam} {cy : Nat → ClassId} {a : Nat → Nat} {V : VT} {J : JT} {K : Nat → Option Nat} {X : va_W} {v1 : Int32} {v2 : Int32}  (C0 : CXg Γ cX11_least 3 5 RX11 cy) (hD : DC Γ cy a X) (h : f_X11_least_j35 v1 v2 V = some z) (hz : (Sum.elim (fun x : Int32 × Int32 => Wp Γ 0 0 4 [(0, .ref (a 0)), (1, .int x.1), (2, .int x.2)] [] (WC cy a V J K X)) (fun y : Int32 => FinI Γ cX11_least (WC cy a V J K X) y)) z) : Wp Γ 0 0 35 [(0, .ref (a 0)), (1, .int v1), (2, .int v2)] [] (WC cy a V J K X) := by
  unfold f_X11_least_j35 at h
  obtain ⟨a5, h8, h⟩ := op_bind h
  have e8 := Option.some.inj h8
  refine r_iinc (lv2 := [(2, .int a5), (0, .ref (a 0)), (1, .int v1)]) C0 dX11_least_35 2 rfl ki_1 e8 (Nat.le_of_ble_eq_true rfl) rfl ?_
  refine r_goto C0 4 dX11_least_38 rfl ?_
  cases h
  have hz := el_inl hz
  exact r_sub [1, 2, 0] rfl hz
theorem w_X11_least_B4 {x : Int32 × Int32} {z : ((Int32 × Int32) ⊕ (Int32))} {Γ : Gam} {cy : Nat → ClassId} {a : Nat → Nat} {V : VT} {J : JT} {K : Nat → Option Nat} {X : va_W}  (C0 : CXg Γ cX11_least 3 5 RX11 cy) (hD : DC Γ cy a X) (h : f_X11_least_B4 V x = some z) (hz : (Sum.elim (fun x : Int32 × Int32 => Wp Γ 0 0 4 [(0, .ref (a 0)), (1, .int x.1), (2, .int x.2)] [] (WC cy a V J K X)) (fun y : Int32 => FinI Γ cX11_least (WC cy a V J K X) y)) z) : Wp Γ 0 0 4 [(0, .ref (a 0)), (1, .int x.1), (2, .int x.2)] [] (WC cy a V J K X) := by
  unfold f_X11_least_B4 at h
  refine r_iload_n C0 dX11_least_4 rfl 2 rfl ?_
  refine r_bipush C0 dX11_least_5 kb_12 ?_
  refine r_icmp_ge C0 41 dX11_least_7 rfl h (fun _ h => ?_) (fun _ h => ?_)
  · obtain ⟨y3, h5, h9⟩ := op_bind h
    clear h
    cases h9
    have hz := (el_inr hz)
    have h := h5
    refine r_iload_n C0 dX11_least_41 rfl 1 rfl ?_
    cases h
    exact hz _ _ dX11_least_42
  · refine r_aload_n C0 dX11_least_10 rfl 0 rfl ?_
    refine wcg_0_7 C0 tf_X11_69 dX11_least_11 ?_
    refine r_iload_n C0 dX11_least_14 rfl 2 rfl ?_
    refine callV1 C0 h (hD _ _ _) mw_X0_isGroupCued rv_8 tm_X11_262 (fun y hy => c_X0_isGroupCued hy) (Nat.le_of_ble_eq_true rfl) (Nat.le_of_ble_eq_true rfl) dX11_least_15 (fun r4 h => ?_)
    refine r_if_eq C0 35 dX11_least_18 rfl h (fun _ h => ?_) (fun _ h => ?_)
    · exact r_sub [0, 1, 2] rfl (w_X11_least_j35 C0 hD h hz)
    · refine r_iload_n C0 dX11_least_21 rfl 1 rfl ?_
      refine r_aload_n C0 dX11_least_22 rfl 0 rfl ?_
      refine wcg_0_3 C0 tf_X11_37 dX11_least_23 ?_
      refine r_iload_n C0 dX11_least_26 rfl 2 rfl ?_
      refine callV1 C0 h (hD _ _ _) mw_X10_bricksWanted rv_4 tm_X11_259 (fun y hy => c_X10_bricksWanted hy) (Nat.le_of_ble_eq_true rfl) (Nat.le_of_ble_eq_true rfl) dX11_least_27 (fun r6 h => ?_)
      refine r_mabs (y := 0) C0 dX11_least_30 tm_X11_265 (Nat.le_of_ble_eq_true rfl) (Nat.le_of_ble_eq_true rfl) ?_
      refine r_iadd C0 dX11_least_33 ?_
      obtain ⟨a7, h8, h⟩ := op_bind h
      have e8 := Option.some.inj h8
      refine r_istore_n (lv2 := [(1, .int a7), (0, .ref (a 0)), (2, .int x.2)]) C0 dX11_least_34 rfl e8 (Nat.le_of_ble_eq_true rfl) rfl ?_
      exact r_sub [1, 0, 2] rfl (w_X11_least_j35 C0 hD h hz)
theorem w_X11_least_B4_lp {x : Int32 × Int32} {z : (Int32)} {Γ : Gam} {cy : Nat → ClassId} {a : Nat → Nat} {V : VT} {J : JT} {K : Nat → Option Nat} {X : va_W}  (C0 : CXg Γ cX11_least 3 5 RX11 cy) (hD : DC Γ cy a X) (h : lp (f_X11_least_B4 V) fuel x = some z) (hz : (fun y : Int32 => FinI Γ cX11_least (WC cy a V J K X) y) z) : Wp Γ 0 0 4 [(0, .ref (a 0)), (1, .int x.1), (2, .int x.2)] [] (WC cy a V J K X) :=
  lp_rule (hd := (fun x : Int32 × Int32 => Wp Γ 0 0 4 [(0, .ref (a 0)), (1, .int x.1), (2, .int x.2)] [] (WC cy a V J K X))) (C := (fun y : Int32 => FinI Γ cX11_least (WC cy a V J K X) y)) (fun x z h hz => w_X11_least_B4 C0 hD h hz) _ _ _ h hz
theorem w_X11_least {z : Int32} {Γ : Gam} {cy : Nat → ClassId} {a : Nat → Nat} {V : VT} {J : JT} {K : Nat → Option Nat} {X : va_W}  (C0 : CXg Γ cX11_least 3 5 RX11 cy) (hD : DC Γ cy a X) (h : f_X11_least V = some z) (hz : (fun y : Int32 => FinI Γ cX11_least (WC cy a V J K X) y) z) : Wp Γ 0 0 0 [(0, .ref (a 0))] [] (WC cy a V J K X) := by
  unfold f_X11_least at h
  refine r_iconst C0 dX11_least_0 ki_0 ?_
  obtain ⟨a1, h8, h⟩ := op_bind h
  have e8 := Option.some.inj h8
  refine r_istore_n (lv2 := [(1, .int a1), (0, .ref (a 0))]) C0 dX11_least_1 rfl e8 (Nat.le_of_ble_eq_true rfl) rfl ?_
  refine r_iconst C0 dX11_least_2 ki_0 ?_
  obtain ⟨a2, h8, h⟩ := op_bind h
  have e8 := Option.some.inj h8
  refine r_istore_n (lv2 := [(2, .int a2), (1, .int a1), (0, .ref (a 0))]) C0 dX11_least_3 rfl e8 (Nat.le_of_ble_eq_true rfl) rfl ?_
  exact r_sub [2, 1, 0] rfl (w_X11_least_B4_lp C0 hD h hz)
theorem c_X11_least {l : Launch} {D : va_G} {cy : Nat → ClassId} {a : Nat → Nat} {V : VT} {J : JT} {K : Nat → Option Nat} {X : va_W} {y : Int32} (h : f_X11_least V = some y) : CT l D cy yX11_least cX11_least 3 (some .int) 5 [.ref (a 0)] (WC cy a V J K X) (WC cy a V J K X) (some (.int y)) :=
  mkI (by decide) (Nat.le_of_ble_eq_true rfl) (fun Γ _ _ C0 hD hF => w_X11_least C0 (dc_of hD) h hF)
theorem dX11_stop_0 : decode cX11_stop 0 = .ok (.aload_n 0, 1) := by decide +kernel
theorem dX11_stop_1 : decode cX11_stop 1 = .ok (.getfield 28, 3) := by decide +kernel
theorem dX11_stop_4 : decode cX11_stop 4 = .ok (.getfield 270, 3) := by decide +kernel
theorem dX11_stop_7 : decode cX11_stop 7 = .ok (.iconst 0, 1) := by decide +kernel
theorem dX11_stop_8 : decode cX11_stop 8 = .ok (.iconst 3, 1) := by decide +kernel
theorem dX11_stop_9 : decode cX11_stop 9 = .ok (.invokevirtual 210, 3) := by decide +kernel
theorem dX11_stop_12 : decode cX11_stop 12 = .ok (.istore_n 3, 1) := by decide +kernel
theorem dX11_stop_13 : decode cX11_stop 13 = .ok (.iload_n 1, 1) := by decide +kernel
theorem dX11_stop_14 : decode cX11_stop 14 = .ok (.ifCond .lt 23, 3) := by decide +kernel
theorem dX11_stop_17 : decode cX11_stop 17 = .ok (.iload_n 1, 1) := by decide +kernel
theorem dX11_stop_18 : decode cX11_stop 18 = .ok (.bipush 40, 2) := by decide +kernel
theorem dX11_stop_20 : decode cX11_stop 20 = .ok (.if_icmp .ge 17, 3) := by decide +kernel
theorem dX11_stop_23 : decode cX11_stop 23 = .ok (.iload_n 1, 1) := by decide +kernel
theorem dX11_stop_24 : decode cX11_stop 24 = .ok (.iload_n 3, 1) := by decide +kernel
theorem dX11_stop_25 : decode cX11_stop 25 = .ok (.if_icmp .ge 12, 3) := by decide +kernel
theorem dX11_stop_28 : decode cX11_stop 28 = .ok (.iload_n 2, 1) := by decide +kernel
theorem dX11_stop_29 : decode cX11_stop 29 = .ok (.ifCond .lt 8, 3) := by decide +kernel
theorem dX11_stop_32 : decode cX11_stop 32 = .ok (.iload_n 2, 1) := by decide +kernel
theorem dX11_stop_33 : decode cX11_stop 33 = .ok (.iconst 5, 1) := by decide +kernel
theorem dX11_stop_34 : decode cX11_stop 34 = .ok (.if_icmp .lt 6, 3) := by decide +kernel
theorem dX11_stop_37 : decode cX11_stop 37 = .ok (.ldc 198, 2) := by decide +kernel
theorem dX11_stop_39 : decode cX11_stop 39 = .ok (.ireturn, 1) := by decide +kernel
theorem dX11_stop_40 : decode cX11_stop 40 = .ok (.aload_n 0, 1) := by decide +kernel
theorem dX11_stop_41 : decode cX11_stop 41 = .ok (.getfield 28, 3) := by decide +kernel
theorem dX11_stop_44 : decode cX11_stop 44 = .ok (.getfield 273, 3) := by decide +kernel
theorem dX11_stop_47 : decode cX11_stop 47 = .ok (.iload_n 3, 1) := by decide +kernel
theorem dX11_stop_48 : decode cX11_stop 48 = .ok (.iconst 1, 1) := by decide +kernel
theorem dX11_stop_49 : decode cX11_stop 49 = .ok (.isub, 1) := by decide +kernel
theorem dX11_stop_50 : decode cX11_stop 50 = .ok (.iload_n 1, 1) := by decide +kernel
theorem dX11_stop_51 : decode cX11_stop 51 = .ok (.isub, 1) := by decide +kernel
theorem dX11_stop_52 : decode cX11_stop 52 = .ok (.bipush 40, 2) := by decide +kernel
theorem dX11_stop_54 : decode cX11_stop 54 = .ok (.irem, 1) := by decide +kernel
theorem dX11_stop_55 : decode cX11_stop 55 = .ok (.iload_n 2, 1) := by decide +kernel
theorem dX11_stop_56 : decode cX11_stop 56 = .ok (.invokevirtual 210, 3) := by decide +kernel
theorem dX11_stop_59 : decode cX11_stop 59 = .ok (.ireturn, 1) := by decide +kernel
theorem w_X11_stop {z : Int32} {Γ : Gam} {cy : Nat → ClassId} {a : Nat → Nat} {V : VT} {J : JT} {K : Nat → Option Nat} {X : va_W} {v1 : Int32} {v2 : Int32}  (C0 : CXg Γ cX11_stop 4 1 RX11 cy) (hD : DC Γ cy a X) (h : f_X11_stop v1 v2 V = some z) (hz : (fun y : Int32 => FinI Γ cX11_stop (WC cy a V J K X) y) z) : Wp Γ 0 0 0 [(0, .ref (a 0)), (1, .int v1), (2, .int v2)] [] (WC cy a V J K X) := by
  unfold f_X11_stop at h
  refine r_aload_n C0 dX11_stop_0 rfl 0 rfl ?_
  refine wcg_0_2 C0 tf_X11_28 dX11_stop_1 ?_
  refine wcg_3_7 C0 tf_X11_270 dX11_stop_4 ?_
  refine r_iconst C0 dX11_stop_7 ki_0 ?_
  refine r_iconst C0 dX11_stop_8 ki_3 ?_
  refine callV2 C0 h (hD _ _ _) mw_X7_get (rv_t tb_17) tm_X11_210 (fun y hy => c_X7_get tb_17 hy) (Nat.le_of_ble_eq_true rfl) (Nat.le_of_ble_eq_true rfl) dX11_stop_9 (fun r1 h => ?_)
  refine r_istore_n (lv2 := [(3, .int r1), (0, .ref (a 0)), (1, .int v1), (2, .int v2)]) C0 dX11_stop_12 rfl rfl (Nat.le_of_ble_eq_true rfl) rfl ?_
  refine r_iload_n C0 dX11_stop_13 rfl 2 rfl ?_
  refine r_if_lt C0 37 dX11_stop_14 rfl h (fun _ h => ?_) (fun _ h => ?_)
  · refine r_ldc C0 tk_X11_198 dX11_stop_37 ?_
    cases h
    exact hz _ _ dX11_stop_39
  · refine r_iload_n C0 dX11_stop_17 rfl 2 rfl ?_
    refine r_bipush C0 dX11_stop_18 kb_40 ?_
    refine r_icmp_ge C0 37 dX11_stop_20 rfl h (fun _ h => ?_) (fun _ h => ?_)
    · refine r_ldc C0 tk_X11_198 dX11_stop_37 ?_
      cases h
      exact hz _ _ dX11_stop_39
    · refine r_iload_n C0 dX11_stop_23 rfl 2 rfl ?_
      refine r_iload_n C0 dX11_stop_24 rfl 0 rfl ?_
      refine r_icmp_ge C0 37 dX11_stop_25 rfl h (fun _ h => ?_) (fun _ h => ?_)
      · refine r_ldc C0 tk_X11_198 dX11_stop_37 ?_
        cases h
        exact hz _ _ dX11_stop_39
      · refine r_iload_n C0 dX11_stop_28 rfl 3 rfl ?_
        refine r_if_lt C0 37 dX11_stop_29 rfl h (fun _ h => ?_) (fun _ h => ?_)
        · refine r_ldc C0 tk_X11_198 dX11_stop_37 ?_
          cases h
          exact hz _ _ dX11_stop_39
        · refine r_iload_n C0 dX11_stop_32 rfl 3 rfl ?_
          refine r_iconst C0 dX11_stop_33 ki_5 ?_
          refine r_icmp_lt C0 40 dX11_stop_34 rfl h (fun _ h => ?_) (fun _ h => ?_)
          · refine r_aload_n C0 dX11_stop_40 rfl 1 rfl ?_
            refine wcg_0_2 C0 tf_X11_28 dX11_stop_41 ?_
            refine wcg_3_6 C0 tf_X11_273 dX11_stop_44 ?_
            refine r_iload_n C0 dX11_stop_47 rfl 0 rfl ?_
            refine r_iconst C0 dX11_stop_48 ki_1 ?_
            refine r_isub C0 dX11_stop_49 ?_
            refine r_iload_n C0 dX11_stop_50 rfl 2 rfl ?_
            refine r_isub C0 dX11_stop_51 ?_
            refine r_bipush C0 dX11_stop_52 kb_40 ?_
            refine r_irem C0 dX11_stop_54 h (fun u2 h => ?_)
            refine r_iload_n C0 dX11_stop_55 rfl 3 rfl ?_
            refine callV2 C0 h (hD _ _ _) mw_X7_get (rv_t tb_16) tm_X11_210 (fun y hy => c_X7_get tb_16 hy) (Nat.le_of_ble_eq_true rfl) (Nat.le_of_ble_eq_true rfl) dX11_stop_56 (fun r3 h => ?_)
            cases h
            exact hz _ _ dX11_stop_59
          · refine r_ldc C0 tk_X11_198 dX11_stop_37 ?_
            cases h
            exact hz _ _ dX11_stop_39
theorem c_X11_stop {l : Launch} {D : va_G} {cy : Nat → ClassId} {a : Nat → Nat} {V : VT} {J : JT} {K : Nat → Option Nat} {X : va_W} {v1 : Int32} {v2 : Int32} {y : Int32} (h : f_X11_stop v1 v2 V = some y) : CT l D cy yX11_stop cX11_stop 4 (some .int) 1 [.ref (a 0), .int v1, .int v2] (WC cy a V J K X) (WC cy a V J K X) (some (.int y)) :=
  mkI (by decide) (Nat.le_of_ble_eq_true rfl) (fun Γ _ _ C0 hD hF => w_X11_stop C0 (dc_of hD) h hF)
theorem dX11_cueOf_0 : decode cX11_cueOf 0 = .ok (.aload_n 0, 1) := by decide +kernel
theorem dX11_cueOf_1 : decode cX11_cueOf 1 = .ok (.getfield 28, 3) := by decide +kernel
theorem dX11_cueOf_4 : decode cX11_cueOf 4 = .ok (.iload_n 1, 1) := by decide +kernel
theorem dX11_cueOf_5 : decode cX11_cueOf 5 = .ok (.invokevirtual 276, 3) := by decide +kernel
theorem dX11_cueOf_8 : decode cX11_cueOf 8 = .ok (.ifCond .ne 6, 3) := by decide +kernel
theorem dX11_cueOf_11 : decode cX11_cueOf 11 = .ok (.ldc 198, 2) := by decide +kernel
theorem dX11_cueOf_13 : decode cX11_cueOf 13 = .ok (.ireturn, 1) := by decide +kernel
theorem dX11_cueOf_14 : decode cX11_cueOf 14 = .ok (.iload_n 2, 1) := by decide +kernel
theorem dX11_cueOf_15 : decode cX11_cueOf 15 = .ok (.tableswitch 94 0 4 #[33, 46, 59, 72, 85], 33) := by decide +kernel
theorem dX11_cueOf_48 : decode cX11_cueOf 48 = .ok (.aload_n 0, 1) := by decide +kernel
theorem dX11_cueOf_49 : decode cX11_cueOf 49 = .ok (.getfield 28, 3) := by decide +kernel
theorem dX11_cueOf_52 : decode cX11_cueOf 52 = .ok (.getfield 279, 3) := by decide +kernel
theorem dX11_cueOf_55 : decode cX11_cueOf 55 = .ok (.iload_n 1, 1) := by decide +kernel
theorem dX11_cueOf_56 : decode cX11_cueOf 56 = .ok (.iconst 0, 1) := by decide +kernel
theorem dX11_cueOf_57 : decode cX11_cueOf 57 = .ok (.invokevirtual 210, 3) := by decide +kernel
theorem dX11_cueOf_60 : decode cX11_cueOf 60 = .ok (.ireturn, 1) := by decide +kernel
theorem dX11_cueOf_61 : decode cX11_cueOf 61 = .ok (.aload_n 0, 1) := by decide +kernel
theorem dX11_cueOf_62 : decode cX11_cueOf 62 = .ok (.getfield 28, 3) := by decide +kernel
theorem dX11_cueOf_65 : decode cX11_cueOf 65 = .ok (.getfield 279, 3) := by decide +kernel
theorem dX11_cueOf_68 : decode cX11_cueOf 68 = .ok (.iload_n 1, 1) := by decide +kernel
theorem dX11_cueOf_69 : decode cX11_cueOf 69 = .ok (.iconst 1, 1) := by decide +kernel
theorem dX11_cueOf_70 : decode cX11_cueOf 70 = .ok (.invokevirtual 210, 3) := by decide +kernel
theorem dX11_cueOf_73 : decode cX11_cueOf 73 = .ok (.ireturn, 1) := by decide +kernel
theorem dX11_cueOf_74 : decode cX11_cueOf 74 = .ok (.aload_n 0, 1) := by decide +kernel
theorem dX11_cueOf_75 : decode cX11_cueOf 75 = .ok (.getfield 28, 3) := by decide +kernel
theorem dX11_cueOf_78 : decode cX11_cueOf 78 = .ok (.getfield 279, 3) := by decide +kernel
theorem dX11_cueOf_81 : decode cX11_cueOf 81 = .ok (.iload_n 1, 1) := by decide +kernel
theorem dX11_cueOf_82 : decode cX11_cueOf 82 = .ok (.iconst 2, 1) := by decide +kernel
theorem dX11_cueOf_83 : decode cX11_cueOf 83 = .ok (.invokevirtual 210, 3) := by decide +kernel
theorem dX11_cueOf_86 : decode cX11_cueOf 86 = .ok (.ireturn, 1) := by decide +kernel
theorem dX11_cueOf_87 : decode cX11_cueOf 87 = .ok (.aload_n 0, 1) := by decide +kernel
theorem dX11_cueOf_88 : decode cX11_cueOf 88 = .ok (.getfield 28, 3) := by decide +kernel
theorem dX11_cueOf_91 : decode cX11_cueOf 91 = .ok (.getfield 279, 3) := by decide +kernel
theorem dX11_cueOf_94 : decode cX11_cueOf 94 = .ok (.iload_n 1, 1) := by decide +kernel
theorem dX11_cueOf_95 : decode cX11_cueOf 95 = .ok (.iconst 3, 1) := by decide +kernel
theorem dX11_cueOf_96 : decode cX11_cueOf 96 = .ok (.invokevirtual 210, 3) := by decide +kernel
theorem dX11_cueOf_99 : decode cX11_cueOf 99 = .ok (.ireturn, 1) := by decide +kernel
theorem dX11_cueOf_100 : decode cX11_cueOf 100 = .ok (.aload_n 0, 1) := by decide +kernel
theorem dX11_cueOf_101 : decode cX11_cueOf 101 = .ok (.getfield 28, 3) := by decide +kernel
theorem dX11_cueOf_104 : decode cX11_cueOf 104 = .ok (.iload_n 1, 1) := by decide +kernel
theorem dX11_cueOf_105 : decode cX11_cueOf 105 = .ok (.invokevirtual 282, 3) := by decide +kernel
theorem dX11_cueOf_108 : decode cX11_cueOf 108 = .ok (.ireturn, 1) := by decide +kernel
theorem dX11_cueOf_109 : decode cX11_cueOf 109 = .ok (.ldc 198, 2) := by decide +kernel
theorem dX11_cueOf_111 : decode cX11_cueOf 111 = .ok (.ireturn, 1) := by decide +kernel
theorem w_X11_cueOf {z : Int32} {Γ : Gam} {cy : Nat → ClassId} {a : Nat → Nat} {V : VT} {J : JT} {K : Nat → Option Nat} {X : va_W} {v1 : Int32} {v2 : Int32}  (C0 : CXg Γ cX11_cueOf 3 2 RX11 cy) (hD : DC Γ cy a X) (h : f_X11_cueOf v1 v2 V = some z) (hz : (fun y : Int32 => FinI Γ cX11_cueOf (WC cy a V J K X) y) z) : Wp Γ 0 0 0 [(0, .ref (a 0)), (1, .int v1), (2, .int v2)] [] (WC cy a V J K X) := by
  unfold f_X11_cueOf at h
  refine r_aload_n C0 dX11_cueOf_0 rfl 0 rfl ?_
  refine wcg_0_2 C0 tf_X11_28 dX11_cueOf_1 ?_
  refine r_iload_n C0 dX11_cueOf_4 rfl 1 rfl ?_
  refine callV1 C0 h (hD _ _ _) mw_X3_isCue rv_3 tm_X11_276 (fun y hy => c_X3_isCue hy) (Nat.le_of_ble_eq_true rfl) (Nat.le_of_ble_eq_true rfl) dX11_cueOf_5 (fun r1 h => ?_)
  refine r_if_ne C0 14 dX11_cueOf_8 rfl h (fun _ h => ?_) (fun _ h => ?_)
  · refine r_iload_n C0 dX11_cueOf_14 rfl 2 rfl ?_
    by_cases c0 : v2 = 0
    · have h := op_pos c0 h
      refine r_swI C0 48 dX11_cueOf_15 c0 (by decide) (by decide) rfl rfl ?_
      refine r_aload_n C0 dX11_cueOf_48 rfl 0 rfl ?_
      refine wcg_0_2 C0 tf_X11_28 dX11_cueOf_49 ?_
      refine wcg_3_5 C0 tf_X11_279 dX11_cueOf_52 ?_
      refine r_iload_n C0 dX11_cueOf_55 rfl 1 rfl ?_
      refine r_iconst C0 dX11_cueOf_56 ki_0 ?_
      refine callV2 C0 h (hD _ _ _) mw_X7_get (rv_t tb_15) tm_X11_210 (fun y hy => c_X7_get tb_15 hy) (Nat.le_of_ble_eq_true rfl) (Nat.le_of_ble_eq_true rfl) dX11_cueOf_57 (fun r2 h => ?_)
      cases h
      exact hz _ _ dX11_cueOf_60
    have h := op_neg c0 h
    have n0 := ne_toInt (i := 0) c0 (by decide)
    by_cases c1 : v2 = 1
    · have h := op_pos c1 h
      refine r_swI C0 61 dX11_cueOf_15 c1 (by decide) (by decide) rfl rfl ?_
      refine r_aload_n C0 dX11_cueOf_61 rfl 0 rfl ?_
      refine wcg_0_2 C0 tf_X11_28 dX11_cueOf_62 ?_
      refine wcg_3_5 C0 tf_X11_279 dX11_cueOf_65 ?_
      refine r_iload_n C0 dX11_cueOf_68 rfl 1 rfl ?_
      refine r_iconst C0 dX11_cueOf_69 ki_1 ?_
      refine callV2 C0 h (hD _ _ _) mw_X7_get (rv_t tb_15) tm_X11_210 (fun y hy => c_X7_get tb_15 hy) (Nat.le_of_ble_eq_true rfl) (Nat.le_of_ble_eq_true rfl) dX11_cueOf_70 (fun r3 h => ?_)
      cases h
      exact hz _ _ dX11_cueOf_73
    have h := op_neg c1 h
    have n1 := ne_toInt (i := 1) c1 (by decide)
    by_cases c2 : v2 = 2
    · have h := op_pos c2 h
      refine r_swI C0 74 dX11_cueOf_15 c2 (by decide) (by decide) rfl rfl ?_
      refine r_aload_n C0 dX11_cueOf_74 rfl 0 rfl ?_
      refine wcg_0_2 C0 tf_X11_28 dX11_cueOf_75 ?_
      refine wcg_3_5 C0 tf_X11_279 dX11_cueOf_78 ?_
      refine r_iload_n C0 dX11_cueOf_81 rfl 1 rfl ?_
      refine r_iconst C0 dX11_cueOf_82 ki_2 ?_
      refine callV2 C0 h (hD _ _ _) mw_X7_get (rv_t tb_15) tm_X11_210 (fun y hy => c_X7_get tb_15 hy) (Nat.le_of_ble_eq_true rfl) (Nat.le_of_ble_eq_true rfl) dX11_cueOf_83 (fun r4 h => ?_)
      cases h
      exact hz _ _ dX11_cueOf_86
    have h := op_neg c2 h
    have n2 := ne_toInt (i := 2) c2 (by decide)
    by_cases c3 : v2 = 3
    · have h := op_pos c3 h
      refine r_swI C0 87 dX11_cueOf_15 c3 (by decide) (by decide) rfl rfl ?_
      refine r_aload_n C0 dX11_cueOf_87 rfl 0 rfl ?_
      refine wcg_0_2 C0 tf_X11_28 dX11_cueOf_88 ?_
      refine wcg_3_5 C0 tf_X11_279 dX11_cueOf_91 ?_
      refine r_iload_n C0 dX11_cueOf_94 rfl 1 rfl ?_
      refine r_iconst C0 dX11_cueOf_95 ki_3 ?_
      refine callV2 C0 h (hD _ _ _) mw_X7_get (rv_t tb_15) tm_X11_210 (fun y hy => c_X7_get tb_15 hy) (Nat.le_of_ble_eq_true rfl) (Nat.le_of_ble_eq_true rfl) dX11_cueOf_96 (fun r5 h => ?_)
      cases h
      exact hz _ _ dX11_cueOf_99
    have h := op_neg c3 h
    have n3 := ne_toInt (i := 3) c3 (by decide)
    by_cases c4 : v2 = 4
    · have h := op_pos c4 h
      refine r_swI C0 100 dX11_cueOf_15 c4 (by decide) (by decide) rfl rfl ?_
      refine r_aload_n C0 dX11_cueOf_100 rfl 0 rfl ?_
      refine wcg_0_2 C0 tf_X11_28 dX11_cueOf_101 ?_
      refine r_iload_n C0 dX11_cueOf_104 rfl 1 rfl ?_
      refine callV1 C0 h (hD _ _ _) mw_X3_cueState rv_3 tm_X11_282 (fun y hy => c_X3_cueState hy) (Nat.le_of_ble_eq_true rfl) (Nat.le_of_ble_eq_true rfl) dX11_cueOf_105 (fun r6 h => ?_)
      cases h
      exact hz _ _ dX11_cueOf_108
    have h := op_neg c4 h
    have n4 := ne_toInt (i := 4) c4 (by decide)
    refine r_swD C0 109 dX11_cueOf_15 (by omega) rfl ?_
    refine r_ldc C0 tk_X11_198 dX11_cueOf_109 ?_
    cases h
    exact hz _ _ dX11_cueOf_111
  · refine r_ldc C0 tk_X11_198 dX11_cueOf_11 ?_
    cases h
    exact hz _ _ dX11_cueOf_13
theorem c_X11_cueOf {l : Launch} {D : va_G} {cy : Nat → ClassId} {a : Nat → Nat} {V : VT} {J : JT} {K : Nat → Option Nat} {X : va_W} {v1 : Int32} {v2 : Int32} {y : Int32} (h : f_X11_cueOf v1 v2 V = some y) : CT l D cy yX11_cueOf cX11_cueOf 3 (some .int) 2 [.ref (a 0), .int v1, .int v2] (WC cy a V J K X) (WC cy a V J K X) (some (.int y)) :=
  mkI (by decide) (Nat.le_of_ble_eq_true rfl) (fun Γ _ _ C0 hD hF => w_X11_cueOf C0 (dc_of hD) h hF)
theorem dX11_told_0 : decode cX11_told 0 = .ok (.iload_n 1, 1) := by decide +kernel
theorem dX11_told_1 : decode cX11_told 1 = .ok (.tableswitch 155 0 9 #[55, 63, 71, 84, 92, 105, 118, 126, 134, 147], 55) := by decide +kernel
theorem dX11_told_56 : decode cX11_told 56 = .ok (.aload_n 0, 1) := by decide +kernel
theorem dX11_told_57 : decode cX11_told 57 = .ok (.getfield 28, 3) := by decide +kernel
theorem dX11_told_60 : decode cX11_told 60 = .ok (.invokevirtual 285, 3) := by decide +kernel
theorem dX11_told_63 : decode cX11_told 63 = .ok (.ireturn, 1) := by decide +kernel
theorem dX11_told_64 : decode cX11_told 64 = .ok (.aload_n 0, 1) := by decide +kernel
theorem dX11_told_65 : decode cX11_told 65 = .ok (.getfield 28, 3) := by decide +kernel
theorem dX11_told_68 : decode cX11_told 68 = .ok (.invokevirtual 288, 3) := by decide +kernel
theorem dX11_told_71 : decode cX11_told 71 = .ok (.ireturn, 1) := by decide +kernel
theorem dX11_told_72 : decode cX11_told 72 = .ok (.aload_n 0, 1) := by decide +kernel
theorem dX11_told_73 : decode cX11_told 73 = .ok (.getfield 28, 3) := by decide +kernel
theorem dX11_told_76 : decode cX11_told 76 = .ok (.getfield 270, 3) := by decide +kernel
theorem dX11_told_79 : decode cX11_told 79 = .ok (.iconst 0, 1) := by decide +kernel
theorem dX11_told_80 : decode cX11_told 80 = .ok (.iconst 1, 1) := by decide +kernel
theorem dX11_told_81 : decode cX11_told 81 = .ok (.invokevirtual 210, 3) := by decide +kernel
theorem dX11_told_84 : decode cX11_told 84 = .ok (.ireturn, 1) := by decide +kernel
theorem dX11_told_85 : decode cX11_told 85 = .ok (.aload_n 0, 1) := by decide +kernel
theorem dX11_told_86 : decode cX11_told 86 = .ok (.getfield 28, 3) := by decide +kernel
theorem dX11_told_89 : decode cX11_told 89 = .ok (.invokevirtual 291, 3) := by decide +kernel
theorem dX11_told_92 : decode cX11_told 92 = .ok (.ireturn, 1) := by decide +kernel
theorem dX11_told_93 : decode cX11_told 93 = .ok (.aload_n 0, 1) := by decide +kernel
theorem dX11_told_94 : decode cX11_told 94 = .ok (.getfield 28, 3) := by decide +kernel
theorem dX11_told_97 : decode cX11_told 97 = .ok (.getfield 270, 3) := by decide +kernel
theorem dX11_told_100 : decode cX11_told 100 = .ok (.iconst 0, 1) := by decide +kernel
theorem dX11_told_101 : decode cX11_told 101 = .ok (.iconst 2, 1) := by decide +kernel
theorem dX11_told_102 : decode cX11_told 102 = .ok (.invokevirtual 210, 3) := by decide +kernel
theorem dX11_told_105 : decode cX11_told 105 = .ok (.ireturn, 1) := by decide +kernel
theorem dX11_told_106 : decode cX11_told 106 = .ok (.aload_n 0, 1) := by decide +kernel
theorem dX11_told_107 : decode cX11_told 107 = .ok (.getfield 28, 3) := by decide +kernel
theorem dX11_told_110 : decode cX11_told 110 = .ok (.getfield 270, 3) := by decide +kernel
theorem dX11_told_113 : decode cX11_told 113 = .ok (.iconst 0, 1) := by decide +kernel
theorem dX11_told_114 : decode cX11_told 114 = .ok (.iconst 3, 1) := by decide +kernel
theorem dX11_told_115 : decode cX11_told 115 = .ok (.invokevirtual 210, 3) := by decide +kernel
theorem dX11_told_118 : decode cX11_told 118 = .ok (.ireturn, 1) := by decide +kernel
theorem dX11_told_119 : decode cX11_told 119 = .ok (.aload_n 0, 1) := by decide +kernel
theorem dX11_told_120 : decode cX11_told 120 = .ok (.getfield 12, 3) := by decide +kernel
theorem dX11_told_123 : decode cX11_told 123 = .ok (.invokevirtual 151, 3) := by decide +kernel
theorem dX11_told_126 : decode cX11_told 126 = .ok (.ireturn, 1) := by decide +kernel
theorem dX11_told_127 : decode cX11_told 127 = .ok (.aload_n 0, 1) := by decide +kernel
theorem dX11_told_128 : decode cX11_told 128 = .ok (.getfield 78, 3) := by decide +kernel
theorem dX11_told_131 : decode cX11_told 131 = .ok (.invokevirtual 168, 3) := by decide +kernel
theorem dX11_told_134 : decode cX11_told 134 = .ok (.ireturn, 1) := by decide +kernel
theorem dX11_told_135 : decode cX11_told 135 = .ok (.aload_n 0, 1) := by decide +kernel
theorem dX11_told_136 : decode cX11_told 136 = .ok (.getfield 28, 3) := by decide +kernel
theorem dX11_told_139 : decode cX11_told 139 = .ok (.getfield 270, 3) := by decide +kernel
theorem dX11_told_142 : decode cX11_told 142 = .ok (.iconst 0, 1) := by decide +kernel
theorem dX11_told_143 : decode cX11_told 143 = .ok (.iconst 4, 1) := by decide +kernel
theorem dX11_told_144 : decode cX11_told 144 = .ok (.invokevirtual 210, 3) := by decide +kernel
theorem dX11_told_147 : decode cX11_told 147 = .ok (.ireturn, 1) := by decide +kernel
theorem dX11_told_148 : decode cX11_told 148 = .ok (.aload_n 0, 1) := by decide +kernel
theorem dX11_told_149 : decode cX11_told 149 = .ok (.getfield 28, 3) := by decide +kernel
theorem dX11_told_152 : decode cX11_told 152 = .ok (.invokevirtual 199, 3) := by decide +kernel
theorem dX11_told_155 : decode cX11_told 155 = .ok (.ireturn, 1) := by decide +kernel
theorem dX11_told_156 : decode cX11_told 156 = .ok (.ldc 198, 2) := by decide +kernel
theorem dX11_told_158 : decode cX11_told 158 = .ok (.ireturn, 1) := by decide +kernel
theorem w_X11_told {z : Int32} {Γ : Gam} {cy : Nat → ClassId} {a : Nat → Nat} {V : VT} {J : JT} {K : Nat → Option Nat} {X : va_W} {v1 : Int32}  (C0 : CXg Γ cX11_told 2 4 RX11 cy) (hD : DC Γ cy a X) (h : f_X11_told v1 V = some z) (hz : (fun y : Int32 => FinI Γ cX11_told (WC cy a V J K X) y) z) : Wp Γ 0 0 0 [(0, .ref (a 0)), (1, .int v1)] [] (WC cy a V J K X) := by
  unfold f_X11_told at h
  refine r_iload_n C0 dX11_told_0 rfl 1 rfl ?_
  by_cases c0 : v1 = 0
  · have h := op_pos c0 h
    refine r_swI C0 56 dX11_told_1 c0 (by decide) (by decide) rfl rfl ?_
    refine r_aload_n C0 dX11_told_56 rfl 0 rfl ?_
    refine wcg_0_2 C0 tf_X11_28 dX11_told_57 ?_
    refine callV0 C0 h (hD _ _ _) mw_X3_riggedBars rv_3 tm_X11_285 (fun y hy => c_X3_riggedBars hy) (Nat.le_of_ble_eq_true rfl) (Nat.le_of_ble_eq_true rfl) dX11_told_60 (fun r1 h => ?_)
    cases h
    exact hz _ _ dX11_told_63
  have h := op_neg c0 h
  have n0 := ne_toInt (i := 0) c0 (by decide)
  by_cases c1 : v1 = 1
  · have h := op_pos c1 h
    refine r_swI C0 64 dX11_told_1 c1 (by decide) (by decide) rfl rfl ?_
    refine r_aload_n C0 dX11_told_64 rfl 0 rfl ?_
    refine wcg_0_2 C0 tf_X11_28 dX11_told_65 ?_
    refine callV0 C0 h (hD _ _ _) mw_X3_linesThere rv_3 tm_X11_288 (fun y hy => c_X3_linesThere hy) (Nat.le_of_ble_eq_true rfl) (Nat.le_of_ble_eq_true rfl) dX11_told_68 (fun r2 h => ?_)
    cases h
    exact hz _ _ dX11_told_71
  have h := op_neg c1 h
  have n1 := ne_toInt (i := 1) c1 (by decide)
  by_cases c2 : v1 = 2
  · have h := op_pos c2 h
    refine r_swI C0 72 dX11_told_1 c2 (by decide) (by decide) rfl rfl ?_
    refine r_aload_n C0 dX11_told_72 rfl 0 rfl ?_
    refine wcg_0_2 C0 tf_X11_28 dX11_told_73 ?_
    refine wcg_3_7 C0 tf_X11_270 dX11_told_76 ?_
    refine r_iconst C0 dX11_told_79 ki_0 ?_
    refine r_iconst C0 dX11_told_80 ki_1 ?_
    refine callV2 C0 h (hD _ _ _) mw_X7_get (rv_t tb_17) tm_X11_210 (fun y hy => c_X7_get tb_17 hy) (Nat.le_of_ble_eq_true rfl) (Nat.le_of_ble_eq_true rfl) dX11_told_81 (fun r3 h => ?_)
    cases h
    exact hz _ _ dX11_told_84
  have h := op_neg c2 h
  have n2 := ne_toInt (i := 2) c2 (by decide)
  by_cases c3 : v1 = 3
  · have h := op_pos c3 h
    refine r_swI C0 85 dX11_told_1 c3 (by decide) (by decide) rfl rfl ?_
    refine r_aload_n C0 dX11_told_85 rfl 0 rfl ?_
    refine wcg_0_2 C0 tf_X11_28 dX11_told_86 ?_
    refine callV0 C0 h (hD _ _ _) mw_X3_hangingThings rv_3 tm_X11_291 (fun y hy => c_X3_hangingThings hy) (Nat.le_of_ble_eq_true rfl) (Nat.le_of_ble_eq_true rfl) dX11_told_89 (fun r4 h => ?_)
    cases h
    exact hz _ _ dX11_told_92
  have h := op_neg c3 h
  have n3 := ne_toInt (i := 3) c3 (by decide)
  by_cases c4 : v1 = 4
  · have h := op_pos c4 h
    refine r_swI C0 93 dX11_told_1 c4 (by decide) (by decide) rfl rfl ?_
    refine r_aload_n C0 dX11_told_93 rfl 0 rfl ?_
    refine wcg_0_2 C0 tf_X11_28 dX11_told_94 ?_
    refine wcg_3_7 C0 tf_X11_270 dX11_told_97 ?_
    refine r_iconst C0 dX11_told_100 ki_0 ?_
    refine r_iconst C0 dX11_told_101 ki_2 ?_
    refine callV2 C0 h (hD _ _ _) mw_X7_get (rv_t tb_17) tm_X11_210 (fun y hy => c_X7_get tb_17 hy) (Nat.le_of_ble_eq_true rfl) (Nat.le_of_ble_eq_true rfl) dX11_told_102 (fun r5 h => ?_)
    cases h
    exact hz _ _ dX11_told_105
  have h := op_neg c4 h
  have n4 := ne_toInt (i := 4) c4 (by decide)
  by_cases c5 : v1 = 5
  · have h := op_pos c5 h
    refine r_swI C0 106 dX11_told_1 c5 (by decide) (by decide) rfl rfl ?_
    refine r_aload_n C0 dX11_told_106 rfl 0 rfl ?_
    refine wcg_0_2 C0 tf_X11_28 dX11_told_107 ?_
    refine wcg_3_7 C0 tf_X11_270 dX11_told_110 ?_
    refine r_iconst C0 dX11_told_113 ki_0 ?_
    refine r_iconst C0 dX11_told_114 ki_3 ?_
    refine callV2 C0 h (hD _ _ _) mw_X7_get (rv_t tb_17) tm_X11_210 (fun y hy => c_X7_get tb_17 hy) (Nat.le_of_ble_eq_true rfl) (Nat.le_of_ble_eq_true rfl) dX11_told_115 (fun r6 h => ?_)
    cases h
    exact hz _ _ dX11_told_118
  have h := op_neg c5 h
  have n5 := ne_toInt (i := 5) c5 (by decide)
  by_cases c6 : v1 = 6
  · have h := op_pos c6 h
    refine r_swI C0 119 dX11_told_1 c6 (by decide) (by decide) rfl rfl ?_
    refine r_aload_n C0 dX11_told_119 rfl 0 rfl ?_
    refine wcg_0_0 C0 tf_X11_12 dX11_told_120 ?_
    refine callV0 C0 h (hD _ _ _) mw_X4_keptActs rv_1 tm_X11_151 (fun y hy => c_X4_keptActs hy) (Nat.le_of_ble_eq_true rfl) (Nat.le_of_ble_eq_true rfl) dX11_told_123 (fun r7 h => ?_)
    cases h
    exact hz _ _ dX11_told_126
  have h := op_neg c6 h
  have n6 := ne_toInt (i := 6) c6 (by decide)
  by_cases c7 : v1 = 7
  · have h := op_pos c7 h
    refine r_swI C0 127 dX11_told_1 c7 (by decide) (by decide) rfl rfl ?_
    refine r_aload_n C0 dX11_told_127 rfl 0 rfl ?_
    refine wcg_0_8 C0 tf_X11_78 dX11_told_128 ?_
    refine callV0 C0 h (hD _ _ _) mw_X8_size rv_9 tm_X11_168 (fun y hy => c_X8_size hy) (Nat.le_of_ble_eq_true rfl) (Nat.le_of_ble_eq_true rfl) dX11_told_131 (fun r8 h => ?_)
    cases h
    exact hz _ _ dX11_told_134
  have h := op_neg c7 h
  have n7 := ne_toInt (i := 7) c7 (by decide)
  by_cases c8 : v1 = 8
  · have h := op_pos c8 h
    refine r_swI C0 135 dX11_told_1 c8 (by decide) (by decide) rfl rfl ?_
    refine r_aload_n C0 dX11_told_135 rfl 0 rfl ?_
    refine wcg_0_2 C0 tf_X11_28 dX11_told_136 ?_
    refine wcg_3_7 C0 tf_X11_270 dX11_told_139 ?_
    refine r_iconst C0 dX11_told_142 ki_0 ?_
    refine r_iconst C0 dX11_told_143 ki_4 ?_
    refine callV2 C0 h (hD _ _ _) mw_X7_get (rv_t tb_17) tm_X11_210 (fun y hy => c_X7_get tb_17 hy) (Nat.le_of_ble_eq_true rfl) (Nat.le_of_ble_eq_true rfl) dX11_told_144 (fun r9 h => ?_)
    cases h
    exact hz _ _ dX11_told_147
  have h := op_neg c8 h
  have n8 := ne_toInt (i := 8) c8 (by decide)
  by_cases c9 : v1 = 9
  · have h := op_pos c9 h
    refine r_swI C0 148 dX11_told_1 c9 (by decide) (by decide) rfl rfl ?_
    refine r_aload_n C0 dX11_told_148 rfl 0 rfl ?_
    refine wcg_0_2 C0 tf_X11_28 dX11_told_149 ?_
    refine callV0 C0 h (hD _ _ _) mw_X3_time rv_3 tm_X11_199 (fun y hy => c_X3_time hy) (Nat.le_of_ble_eq_true rfl) (Nat.le_of_ble_eq_true rfl) dX11_told_152 (fun r10 h => ?_)
    cases h
    exact hz _ _ dX11_told_155
  have h := op_neg c9 h
  have n9 := ne_toInt (i := 9) c9 (by decide)
  refine r_swD C0 156 dX11_told_1 (by omega) rfl ?_
  refine r_ldc C0 tk_X11_198 dX11_told_156 ?_
  cases h
  exact hz _ _ dX11_told_158
theorem c_X11_told {l : Launch} {D : va_G} {cy : Nat → ClassId} {a : Nat → Nat} {V : VT} {J : JT} {K : Nat → Option Nat} {X : va_W} {v1 : Int32} {y : Int32} (h : f_X11_told v1 V = some y) : CT l D cy yX11_told cX11_told 2 (some .int) 4 [.ref (a 0), .int v1] (WC cy a V J K X) (WC cy a V J K X) (some (.int y)) :=
  mkI (by decide) (Nat.le_of_ble_eq_true rfl) (fun Γ _ _ C0 hD hF => w_X11_told C0 (dc_of hD) h hF)
theorem dX11_status_0 : decode cX11_status 0 = .ok (.iload_n 1, 1) := by decide +kernel
theorem dX11_status_1 : decode cX11_status 1 = .ok (.tableswitch 51 0 2 #[27, 35, 43], 27) := by decide +kernel
theorem dX11_status_28 : decode cX11_status 28 = .ok (.aload_n 0, 1) := by decide +kernel
theorem dX11_status_29 : decode cX11_status 29 = .ok (.getfield 19, 3) := by decide +kernel
theorem dX11_status_32 : decode cX11_status 32 = .ok (.invokevirtual 294, 3) := by decide +kernel
theorem dX11_status_35 : decode cX11_status 35 = .ok (.ireturn, 1) := by decide +kernel
theorem dX11_status_36 : decode cX11_status 36 = .ok (.aload_n 0, 1) := by decide +kernel
theorem dX11_status_37 : decode cX11_status 37 = .ok (.getfield 19, 3) := by decide +kernel
theorem dX11_status_40 : decode cX11_status 40 = .ok (.invokevirtual 297, 3) := by decide +kernel
theorem dX11_status_43 : decode cX11_status 43 = .ok (.ireturn, 1) := by decide +kernel
theorem dX11_status_44 : decode cX11_status 44 = .ok (.aload_n 0, 1) := by decide +kernel
theorem dX11_status_45 : decode cX11_status 45 = .ok (.getfield 19, 3) := by decide +kernel
theorem dX11_status_48 : decode cX11_status 48 = .ok (.invokevirtual 300, 3) := by decide +kernel
theorem dX11_status_51 : decode cX11_status 51 = .ok (.ireturn, 1) := by decide +kernel
theorem dX11_status_52 : decode cX11_status 52 = .ok (.ldc 198, 2) := by decide +kernel
theorem dX11_status_54 : decode cX11_status 54 = .ok (.ireturn, 1) := by decide +kernel
theorem w_X11_status {z : Int32} {Γ : Gam} {cy : Nat → ClassId} {a : Nat → Nat} {V : VT} {J : JT} {K : Nat → Option Nat} {X : va_W} {v1 : Int32}  (C0 : CXg Γ cX11_status 2 1 RX11 cy) (hD : DC Γ cy a X) (h : f_X11_status v1 V = some z) (hz : (fun y : Int32 => FinI Γ cX11_status (WC cy a V J K X) y) z) : Wp Γ 0 0 0 [(0, .ref (a 0)), (1, .int v1)] [] (WC cy a V J K X) := by
  unfold f_X11_status at h
  refine r_iload_n C0 dX11_status_0 rfl 1 rfl ?_
  by_cases c0 : v1 = 0
  · have h := op_pos c0 h
    refine r_swI C0 28 dX11_status_1 c0 (by decide) (by decide) rfl rfl ?_
    refine r_aload_n C0 dX11_status_28 rfl 0 rfl ?_
    refine wcg_0_1 C0 tf_X11_19 dX11_status_29 ?_
    refine callV0 C0 h (hD _ _ _) mw_X9_finding rv_2 tm_X11_294 (fun y hy => c_X9_finding hy) (Nat.le_of_ble_eq_true rfl) (Nat.le_of_ble_eq_true rfl) dX11_status_32 (fun r1 h => ?_)
    cases h
    exact hz _ _ dX11_status_35
  have h := op_neg c0 h
  have n0 := ne_toInt (i := 0) c0 (by decide)
  by_cases c1 : v1 = 1
  · have h := op_pos c1 h
    refine r_swI C0 36 dX11_status_1 c1 (by decide) (by decide) rfl rfl ?_
    refine r_aload_n C0 dX11_status_36 rfl 0 rfl ?_
    refine wcg_0_1 C0 tf_X11_19 dX11_status_37 ?_
    refine callV0 C0 h (hD _ _ _) mw_X9_subject rv_2 tm_X11_297 (fun y hy => c_X9_subject hy) (Nat.le_of_ble_eq_true rfl) (Nat.le_of_ble_eq_true rfl) dX11_status_40 (fun r2 h => ?_)
    cases h
    exact hz _ _ dX11_status_43
  have h := op_neg c1 h
  have n1 := ne_toInt (i := 1) c1 (by decide)
  by_cases c2 : v1 = 2
  · have h := op_pos c2 h
    refine r_swI C0 44 dX11_status_1 c2 (by decide) (by decide) rfl rfl ?_
    refine r_aload_n C0 dX11_status_44 rfl 0 rfl ?_
    refine wcg_0_1 C0 tf_X11_19 dX11_status_45 ?_
    refine callV0 C0 h (hD _ _ _) mw_X9_refusals rv_2 tm_X11_300 (fun y hy => c_X9_refusals hy) (Nat.le_of_ble_eq_true rfl) (Nat.le_of_ble_eq_true rfl) dX11_status_48 (fun r3 h => ?_)
    cases h
    exact hz _ _ dX11_status_51
  have h := op_neg c2 h
  have n2 := ne_toInt (i := 2) c2 (by decide)
  refine r_swD C0 52 dX11_status_1 (by omega) rfl ?_
  refine r_ldc C0 tk_X11_198 dX11_status_52 ?_
  cases h
  exact hz _ _ dX11_status_54
theorem c_X11_status {l : Launch} {D : va_G} {cy : Nat → ClassId} {a : Nat → Nat} {V : VT} {J : JT} {K : Nat → Option Nat} {X : va_W} {v1 : Int32} {y : Int32} (h : f_X11_status v1 V = some y) : CT l D cy yX11_status cX11_status 2 (some .int) 1 [.ref (a 0), .int v1] (WC cy a V J K X) (WC cy a V J K X) (some (.int y)) :=
  mkI (by decide) (Nat.le_of_ble_eq_true rfl) (fun Γ _ _ C0 hD hF => w_X11_status C0 (dc_of hD) h hF)
