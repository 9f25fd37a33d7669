theorem dX2_carry_0 : decode cX2_carry 0 = .ok (.aload_n 0, 1) := by decide +kernel
theorem dX2_carry_1 : decode cX2_carry 1 = .ok (.getfield 27, 3) := by decide +kernel
theorem dX2_carry_4 : decode cX2_carry 4 = .ok (.aload_n 0, 1) := by decide +kernel
theorem dX2_carry_5 : decode cX2_carry 5 = .ok (.getfield 15, 3) := by decide +kernel
theorem dX2_carry_8 : decode cX2_carry 8 = .ok (.iload_n 1, 1) := by decide +kernel
theorem dX2_carry_9 : decode cX2_carry 9 = .ok (.invokevirtual 101, 3) := by decide +kernel
theorem dX2_carry_12 : decode cX2_carry 12 = .ok (.ifCond .eq 6, 3) := by decide +kernel
theorem dX2_carry_15 : decode cX2_carry 15 = .ok (.ldc 63, 2) := by decide +kernel
theorem dX2_carry_17 : decode cX2_carry 17 = .ok (.ireturn, 1) := by decide +kernel
theorem dX2_carry_18 : decode cX2_carry 18 = .ok (.aload_n 0, 1) := by decide +kernel
theorem dX2_carry_19 : decode cX2_carry 19 = .ok (.getfield 15, 3) := by decide +kernel
theorem dX2_carry_22 : decode cX2_carry 22 = .ok (.iload_n 1, 1) := by decide +kernel
theorem dX2_carry_23 : decode cX2_carry 23 = .ok (.invokevirtual 98, 3) := by decide +kernel
theorem dX2_carry_26 : decode cX2_carry 26 = .ok (.ifCond .eq 13, 3) := by decide +kernel
theorem dX2_carry_29 : decode cX2_carry 29 = .ok (.aload_n 0, 1) := by decide +kernel
theorem dX2_carry_30 : decode cX2_carry 30 = .ok (.getfield 27, 3) := by decide +kernel
theorem dX2_carry_33 : decode cX2_carry 33 = .ok (.bipush 10, 2) := by decide +kernel
theorem dX2_carry_35 : decode cX2_carry 35 = .ok (.invokevirtual 32, 3) := by decide +kernel
theorem dX2_carry_38 : decode cX2_carry 38 = .ok (.ireturn, 1) := by decide +kernel
theorem dX2_carry_39 : decode cX2_carry 39 = .ok (.aload_n 0, 1) := by decide +kernel
theorem dX2_carry_40 : decode cX2_carry 40 = .ok (.getfield 15, 3) := by decide +kernel
theorem dX2_carry_43 : decode cX2_carry 43 = .ok (.getfield 105, 3) := by decide +kernel
theorem dX2_carry_46 : decode cX2_carry 46 = .ok (.iload_n 1, 1) := by decide +kernel
theorem dX2_carry_47 : decode cX2_carry 47 = .ok (.iconst 0, 1) := by decide +kernel
theorem dX2_carry_48 : decode cX2_carry 48 = .ok (.invokevirtual 44, 3) := by decide +kernel
theorem dX2_carry_51 : decode cX2_carry 51 = .ok (.istore 5, 2) := by decide +kernel
theorem dX2_carry_53 : decode cX2_carry 53 = .ok (.iload_n 2, 1) := by decide +kernel
theorem dX2_carry_54 : decode cX2_carry 54 = .ok (.iload 4, 2) := by decide +kernel
theorem dX2_carry_56 : decode cX2_carry 56 = .ok (.iload 5, 2) := by decide +kernel
theorem dX2_carry_58 : decode cX2_carry 58 = .ok (.invokestatic 108, 3) := by decide +kernel
theorem dX2_carry_61 : decode cX2_carry 61 = .ok (.ifCond .eq 14, 3) := by decide +kernel
theorem dX2_carry_64 : decode cX2_carry 64 = .ok (.iload_n 3, 1) := by decide +kernel
theorem dX2_carry_65 : decode cX2_carry 65 = .ok (.iload 4, 2) := by decide +kernel
theorem dX2_carry_67 : decode cX2_carry 67 = .ok (.iload 5, 2) := by decide +kernel
theorem dX2_carry_69 : decode cX2_carry 69 = .ok (.invokestatic 108, 3) := by decide +kernel
theorem dX2_carry_72 : decode cX2_carry 72 = .ok (.ifCond .ne 12, 3) := by decide +kernel
theorem dX2_carry_75 : decode cX2_carry 75 = .ok (.aload_n 0, 1) := by decide +kernel
theorem dX2_carry_76 : decode cX2_carry 76 = .ok (.getfield 27, 3) := by decide +kernel
theorem dX2_carry_79 : decode cX2_carry 79 = .ok (.iconst 5, 1) := by decide +kernel
theorem dX2_carry_80 : decode cX2_carry 80 = .ok (.invokevirtual 32, 3) := by decide +kernel
theorem dX2_carry_83 : decode cX2_carry 83 = .ok (.ireturn, 1) := by decide +kernel
theorem dX2_carry_84 : decode cX2_carry 84 = .ok (.aload_n 0, 1) := by decide +kernel
theorem dX2_carry_85 : decode cX2_carry 85 = .ok (.iload_n 1, 1) := by decide +kernel
theorem dX2_carry_86 : decode cX2_carry 86 = .ok (.iload_n 2, 1) := by decide +kernel
theorem dX2_carry_87 : decode cX2_carry 87 = .ok (.iload 4, 2) := by decide +kernel
theorem dX2_carry_89 : decode cX2_carry 89 = .ok (.invokevirtual 112, 3) := by decide +kernel
theorem dX2_carry_92 : decode cX2_carry 92 = .ok (.ifCond .ne 15, 3) := by decide +kernel
theorem dX2_carry_95 : decode cX2_carry 95 = .ok (.aload_n 0, 1) := by decide +kernel
theorem dX2_carry_96 : decode cX2_carry 96 = .ok (.iload_n 1, 1) := by decide +kernel
theorem dX2_carry_97 : decode cX2_carry 97 = .ok (.iload_n 2, 1) := by decide +kernel
theorem dX2_carry_98 : decode cX2_carry 98 = .ok (.iload_n 3, 1) := by decide +kernel
theorem dX2_carry_99 : decode cX2_carry 99 = .ok (.iload 4, 2) := by decide +kernel
theorem dX2_carry_101 : decode cX2_carry 101 = .ok (.invokevirtual 115, 3) := by decide +kernel
theorem dX2_carry_104 : decode cX2_carry 104 = .ok (.ifCond .eq 13, 3) := by decide +kernel
theorem dX2_carry_107 : decode cX2_carry 107 = .ok (.aload_n 0, 1) := by decide +kernel
theorem dX2_carry_108 : decode cX2_carry 108 = .ok (.getfield 27, 3) := by decide +kernel
theorem dX2_carry_111 : decode cX2_carry 111 = .ok (.bipush 12, 2) := by decide +kernel
theorem dX2_carry_113 : decode cX2_carry 113 = .ok (.invokevirtual 32, 3) := by decide +kernel
theorem dX2_carry_116 : decode cX2_carry 116 = .ok (.ireturn, 1) := by decide +kernel
theorem dX2_carry_117 : decode cX2_carry 117 = .ok (.aload_n 0, 1) := by decide +kernel
theorem dX2_carry_118 : decode cX2_carry 118 = .ok (.iload_n 1, 1) := by decide +kernel
theorem dX2_carry_119 : decode cX2_carry 119 = .ok (.iload_n 2, 1) := by decide +kernel
theorem dX2_carry_120 : decode cX2_carry 120 = .ok (.iload_n 3, 1) := by decide +kernel
theorem dX2_carry_121 : decode cX2_carry 121 = .ok (.iload 4, 2) := by decide +kernel
theorem dX2_carry_123 : decode cX2_carry 123 = .ok (.invokevirtual 119, 3) := by decide +kernel
theorem dX2_carry_126 : decode cX2_carry 126 = .ok (.istore 6, 2) := by decide +kernel
theorem dX2_carry_128 : decode cX2_carry 128 = .ok (.aload_n 0, 1) := by decide +kernel
theorem dX2_carry_129 : decode cX2_carry 129 = .ok (.iload_n 1, 1) := by decide +kernel
theorem dX2_carry_130 : decode cX2_carry 130 = .ok (.iload_n 1, 1) := by decide +kernel
theorem dX2_carry_131 : decode cX2_carry 131 = .ok (.iload_n 3, 1) := by decide +kernel
theorem dX2_carry_132 : decode cX2_carry 132 = .ok (.iload 4, 2) := by decide +kernel
theorem dX2_carry_134 : decode cX2_carry 134 = .ok (.invokevirtual 91, 3) := by decide +kernel
theorem dX2_carry_137 : decode cX2_carry 137 = .ok (.iload 6, 2) := by decide +kernel
theorem dX2_carry_139 : decode cX2_carry 139 = .ok (.ireturn, 1) := by decide +kernel
theorem w_X2_carry_j75 {z : (Int32 × VT × JT)} {Γ : Gam} {cy : Nat → ClassId} {a : Nat → Nat} {V : VT} {J : JT} {K : Nat → Option Nat} {X : va_W}  (C0 : CXg Γ cX2_carry 7 5 RX2 cy) (hD : DC Γ cy a X) (h : f_X2_carry_j75 V J = some z) (hz : (fun y : Int32 × VT × JT => FinI Γ cX2_carry (WC cy a y.2.1 y.2.2 K X) y.1) z) : Wp Γ 0 0 75 [(0, .ref (a 7))] [] (WC cy a V J K X) := by
  unfold f_X2_carry_j75 at h
  refine r_aload_n C0 dX2_carry_75 rfl 0 rfl ?_
  refine wcg_7_3 C0 tf_X2_27 dX2_carry_76 ?_
  refine r_iconst C0 dX2_carry_79 ki_5 ?_
  refine callV1 C0 h (hD _ _ _) mw_X9_refuse rv_2 tm_X2_32 (fun y hy => c_X9_refuse hy) (Nat.le_of_ble_eq_true rfl) (Nat.le_of_ble_eq_true rfl) dX2_carry_80 (fun r5 h => ?_)
  cases h
  exact hz _ _ dX2_carry_83
theorem w_X2_carry_j107 {z : (Int32 × VT × JT)} {Γ : Gam} {cy : Nat → ClassId} {a : Nat → Nat} {V : VT} {J : JT} {K : Nat → Option Nat} {X : va_W}  (C0 : CXg Γ cX2_carry 7 5 RX2 cy) (hD : DC Γ cy a X) (h : f_X2_carry_j107 V J = some z) (hz : (fun y : Int32 × VT × JT => FinI Γ cX2_carry (WC cy a y.2.1 y.2.2 K X) y.1) z) : Wp Γ 0 0 107 [(0, .ref (a 7))] [] (WC cy a V J K X) := by
  unfold f_X2_carry_j107 at h
  refine r_aload_n C0 dX2_carry_107 rfl 0 rfl ?_
  refine wcg_7_3 C0 tf_X2_27 dX2_carry_108 ?_
  refine r_bipush C0 dX2_carry_111 kb_12 ?_
  refine callV1 C0 h (hD _ _ _) mw_X9_refuse rv_2 tm_X2_32 (fun y hy => c_X9_refuse hy) (Nat.le_of_ble_eq_true rfl) (Nat.le_of_ble_eq_true rfl) dX2_carry_113 (fun r8 h => ?_)
  cases h
  exact hz _ _ dX2_carry_116
theorem w_X2_carry {z : Int32 × VT × JT} {Γ : Gam} {cy : Nat → ClassId} {a : Nat → Nat} {V : VT} {J : JT} {K : Nat → Option Nat} {X : va_W} {v1 : Int32} {v2 : Int32} {v3 : Int32} {v4 : Int32}  (C0 : CXg Γ cX2_carry 7 5 RX2 cy) (hD : DC Γ cy a X) (h : f_X2_carry v1 v2 v3 v4 V J = some z) (hz : (fun y : Int32 × VT × JT => FinI Γ cX2_carry (WC cy a y.2.1 y.2.2 K X) y.1) z) : Wp Γ 0 0 0 [(0, .ref (a 7)), (1, .int v1), (2, .int v2), (3, .int v3), (4, .int v4)] [] (WC cy a V J K X) := by
  unfold f_X2_carry at h
  refine r_aload_n C0 dX2_carry_0 rfl 0 rfl ?_
  refine wcg_7_3 C0 tf_X2_27 dX2_carry_1 ?_
  refine r_aload_n C0 dX2_carry_4 rfl 0 rfl ?_
  refine wcg_7_0 C0 tf_X2_15 dX2_carry_5 ?_
  refine r_iload_n C0 dX2_carry_8 rfl 1 rfl ?_
  refine callV2 C0 h (hD _ _ _) mw_X9_refusesBar rv_2 tm_X2_101 (fun y hy => c_X9_refusesBar hy) (Nat.le_of_ble_eq_true rfl) (Nat.le_of_ble_eq_true rfl) dX2_carry_9 (fun r1 h => ?_)
  refine r_if_eq C0 18 dX2_carry_12 rfl h (fun _ h => ?_) (fun _ h => ?_)
  · refine r_aload_n C0 dX2_carry_18 rfl 0 rfl ?_
    refine wcg_7_0 C0 tf_X2_15 dX2_carry_19 ?_
    refine r_iload_n C0 dX2_carry_22 rfl 1 rfl ?_
    refine callV1 C0 h (hD _ _ _) mw_X3_isHigh rv_3 tm_X2_98 (fun y hy => c_X3_isHigh hy) (Nat.le_of_ble_eq_true rfl) (Nat.le_of_ble_eq_true rfl) dX2_carry_23 (fun r2 h => ?_)
    refine r_if_eq C0 39 dX2_carry_26 rfl h (fun _ h => ?_) (fun _ h => ?_)
    · refine r_aload_n C0 dX2_carry_39 rfl 0 rfl ?_
      refine wcg_7_0 C0 tf_X2_15 dX2_carry_40 ?_
      refine wcg_3_0 C0 tf_X2_105 dX2_carry_43 ?_
      refine r_iload_n C0 dX2_carry_46 rfl 1 rfl ?_
      refine r_iconst C0 dX2_carry_47 ki_0 ?_
      refine callV2 C0 h (hD _ _ _) mw_X7_get (rv_t tb_10) tm_X2_44 (fun y hy => c_X7_get tb_10 hy) (Nat.le_of_ble_eq_true rfl) (Nat.le_of_ble_eq_true rfl) dX2_carry_48 (fun r3 h => ?_)
      refine r_istore (lv2 := [(5, .int r3), (0, .ref (a 7)), (1, .int v1), (2, .int v2), (3, .int v3), (4, .int v4)]) C0 dX2_carry_51 rfl (Nat.le_of_ble_eq_true rfl) rfl ?_
      refine r_iload_n C0 dX2_carry_53 rfl 3 rfl ?_
      refine r_iload C0 dX2_carry_54 5 rfl ?_
      refine r_iload C0 dX2_carry_56 0 rfl ?_
      refine callS3 C0 h (hD _ _ _) ms_X2_isRange tm_X2_108 (fun y hy => c_X2_isRange hy) (Nat.le_of_ble_eq_true rfl) (Nat.le_of_ble_eq_true rfl) dX2_carry_58 (fun r4 h => ?_)
      refine r_if_eq C0 75 dX2_carry_61 rfl h (fun _ h => ?_) (fun _ h => ?_)
      · exact r_sub [1] rfl (w_X2_carry_j75 C0 hD h hz)
      · refine r_iload_n C0 dX2_carry_64 rfl 4 rfl ?_
        refine r_iload C0 dX2_carry_65 5 rfl ?_
        refine r_iload C0 dX2_carry_67 0 rfl ?_
        refine callS3 C0 h (hD _ _ _) ms_X2_isRange tm_X2_108 (fun y hy => c_X2_isRange hy) (Nat.le_of_ble_eq_true rfl) (Nat.le_of_ble_eq_true rfl) dX2_carry_69 (fun r6 h => ?_)
        refine r_if_ne C0 84 dX2_carry_72 rfl h (fun _ h => ?_) (fun _ h => ?_)
        · refine r_aload_n C0 dX2_carry_84 rfl 1 rfl ?_
          refine r_iload_n C0 dX2_carry_85 rfl 2 rfl ?_
          refine r_iload_n C0 dX2_carry_86 rfl 3 rfl ?_
          refine r_iload C0 dX2_carry_87 5 rfl ?_
          refine callV3 C0 h (hD _ _ _) mw_X2_isStuck rv_7 tm_X2_112 (fun y hy => c_X2_isStuck hy) (Nat.le_of_ble_eq_true rfl) (Nat.le_of_ble_eq_true rfl) dX2_carry_89 (fun r7 h => ?_)
          refine r_if_ne C0 107 dX2_carry_92 rfl h (fun _ h => ?_) (fun _ h => ?_)
          · exact r_sub [1] rfl (w_X2_carry_j107 C0 hD h hz)
          · refine r_aload_n C0 dX2_carry_95 rfl 1 rfl ?_
            refine r_iload_n C0 dX2_carry_96 rfl 2 rfl ?_
            refine r_iload_n C0 dX2_carry_97 rfl 3 rfl ?_
            refine r_iload_n C0 dX2_carry_98 rfl 4 rfl ?_
            refine r_iload C0 dX2_carry_99 5 rfl ?_
            refine callV4 C0 h (hD _ _ _) mw_X2_isInTheWay rv_7 tm_X2_115 (fun y hy => c_X2_isInTheWay hy) (Nat.le_of_ble_eq_true rfl) (Nat.le_of_ble_eq_true rfl) dX2_carry_101 (fun r9 h => ?_)
            refine r_if_eq C0 117 dX2_carry_104 rfl h (fun _ h => ?_) (fun _ h => ?_)
            · refine r_aload_n C0 dX2_carry_117 rfl 1 rfl ?_
              refine r_iload_n C0 dX2_carry_118 rfl 2 rfl ?_
              refine r_iload_n C0 dX2_carry_119 rfl 3 rfl ?_
              refine r_iload_n C0 dX2_carry_120 rfl 4 rfl ?_
              refine r_iload C0 dX2_carry_121 5 rfl ?_
              refine callV4 C0 h (hD _ _ _) mw_X2_moveAll rv_7 tm_X2_119 (fun y hy => c_X2_moveAll hy) (Nat.le_of_ble_eq_true rfl) (Nat.le_of_ble_eq_true rfl) dX2_carry_123 (fun r10 h => ?_)
              refine r_istore (lv2 := [(6, .int r10.1), (5, .int r3), (0, .ref (a 7)), (1, .int v1), (2, .int v2), (3, .int v3), (4, .int v4)]) C0 dX2_carry_126 rfl (Nat.le_of_ble_eq_true rfl) rfl ?_
              refine r_aload_n C0 dX2_carry_128 rfl 2 rfl ?_
              refine r_iload_n C0 dX2_carry_129 rfl 3 rfl ?_
              refine r_iload_n C0 dX2_carry_130 rfl 3 rfl ?_
              refine r_iload_n C0 dX2_carry_131 rfl 5 rfl ?_
              refine r_iload C0 dX2_carry_132 6 rfl ?_
              refine callVv4 C0 h (hD _ _ _) mw_X2_judge rv_7 tm_X2_91 (fun y hy => c_X2_judge hy) (Nat.le_of_ble_eq_true rfl) (Nat.le_of_ble_eq_true rfl) dX2_carry_134 (fun r11 h => ?_)
              refine r_iload C0 dX2_carry_137 0 rfl ?_
              cases h
              exact hz _ _ dX2_carry_139
            · exact r_sub [1] rfl (w_X2_carry_j107 C0 hD h hz)
        · exact r_sub [1] rfl (w_X2_carry_j75 C0 hD h hz)
    · refine r_aload_n C0 dX2_carry_29 rfl 0 rfl ?_
      refine wcg_7_3 C0 tf_X2_27 dX2_carry_30 ?_
      refine r_bipush C0 dX2_carry_33 kb_10 ?_
      refine callV1 C0 h (hD _ _ _) mw_X9_refuse rv_2 tm_X2_32 (fun y hy => c_X9_refuse hy) (Nat.le_of_ble_eq_true rfl) (Nat.le_of_ble_eq_true rfl) dX2_carry_35 (fun r12 h => ?_)
      cases h
      exact hz _ _ dX2_carry_38
  · refine r_ldc C0 tk_X2_63 dX2_carry_15 ?_
    cases h
    exact hz _ _ dX2_carry_17
theorem c_X2_carry {l : Launch} {D : va_G} {cy : Nat → ClassId} {a : Nat → Nat} {V : VT} {J : JT} {K : Nat → Option Nat} {X : va_W} {v1 : Int32} {v2 : Int32} {v3 : Int32} {v4 : Int32} {y : Int32 × VT × JT} (h : f_X2_carry v1 v2 v3 v4 V J = some y) : CT l D cy yX2_carry cX2_carry 7 (some .int) 5 [.ref (a 7), .int v1, .int v2, .int v3, .int v4] (WC cy a V J K X) (WC cy a y.2.1 y.2.2 K X) (some (.int y.1)) :=
  mkI (by decide) (Nat.le_of_ble_eq_true rfl) (fun Γ _ _ C0 hD hF => w_X2_carry C0 (dc_of hD) h hF)
theorem dX3_isLine_0 : decode cX3_isLine 0 = .ok (.iload_n 1, 1) := by decide +kernel
theorem dX3_isLine_1 : decode cX3_isLine 1 = .ok (.ifCond .lt 20, 3) := by decide +kernel
theorem dX3_isLine_4 : decode cX3_isLine 4 = .ok (.iload_n 1, 1) := by decide +kernel
theorem dX3_isLine_5 : decode cX3_isLine 5 = .ok (.aload_n 0, 1) := by decide +kernel
theorem dX3_isLine_6 : decode cX3_isLine 6 = .ok (.getfield 39, 3) := by decide +kernel
theorem dX3_isLine_9 : decode cX3_isLine 9 = .ok (.iconst 0, 1) := by decide +kernel
theorem dX3_isLine_10 : decode cX3_isLine 10 = .ok (.iconst 0, 1) := by decide +kernel
theorem dX3_isLine_11 : decode cX3_isLine 11 = .ok (.invokevirtual 42, 3) := by decide +kernel
theorem dX3_isLine_14 : decode cX3_isLine 14 = .ok (.if_icmp .ge 7, 3) := by decide +kernel
theorem dX3_isLine_17 : decode cX3_isLine 17 = .ok (.iconst 1, 1) := by decide +kernel
theorem dX3_isLine_18 : decode cX3_isLine 18 = .ok (.goto 4, 3) := by decide +kernel
theorem dX3_isLine_21 : decode cX3_isLine 21 = .ok (.iconst 0, 1) := by decide +kernel
theorem dX3_isLine_22 : decode cX3_isLine 22 = .ok (.ireturn, 1) := by decide +kernel
theorem w_X3_isLine_j21 {z : (Int32)} {Γ : Gam} {cy : Nat → ClassId} {a : Nat → Nat} {V : VT} {J : JT} {K : Nat → Option Nat} {X : va_W}  (C0 : CXg Γ cX3_isLine 2 1 RX3 cy) (hD : DC Γ cy a X) (h : f_X3_isLine_j21 V = some z) (hz : (fun y : Int32 => FinZ Γ cX3_isLine (WC cy a V J K X) y) z) : Wp Γ 0 0 21 [] [] (WC cy a V J K X) := by
  unfold f_X3_isLine_j21 at h
  refine r_iconst C0 dX3_isLine_21 ki_0 ?_
  cases h
  exact hz _ _ nz_0 dX3_isLine_22
theorem w_X3_isLine {z : Int32} {Γ : Gam} {cy : Nat → ClassId} {a : Nat → Nat} {V : VT} {J : JT} {K : Nat → Option Nat} {X : va_W} {v1 : Int32}  (C0 : CXg Γ cX3_isLine 2 1 RX3 cy) (hD : DC Γ cy a X) (h : f_X3_isLine v1 V = some z) (hz : (fun y : Int32 => FinZ Γ cX3_isLine (WC cy a V J K X) y) z) : Wp Γ 0 0 0 [(0, .ref (a 3)), (1, .int v1)] [] (WC cy a V J K X) := by
  unfold f_X3_isLine at h
  refine r_iload_n C0 dX3_isLine_0 rfl 1 rfl ?_
  refine r_if_lt C0 21 dX3_isLine_1 rfl h (fun _ h => ?_) (fun _ h => ?_)
  · exact r_sub [] rfl (w_X3_isLine_j21 C0 hD h hz)
  · refine r_iload_n C0 dX3_isLine_4 rfl 1 rfl ?_
    refine r_aload_n C0 dX3_isLine_5 rfl 0 rfl ?_
    refine wcg_3_7 C0 tf_X3_39 dX3_isLine_6 ?_
    refine r_iconst C0 dX3_isLine_9 ki_0 ?_
    refine r_iconst C0 dX3_isLine_10 ki_0 ?_
    refine callV2 C0 h (hD _ _ _) mw_X7_get (rv_t tb_17) tm_X3_42 (fun y hy => c_X7_get tb_17 hy) (Nat.le_of_ble_eq_true rfl) (Nat.le_of_ble_eq_true rfl) dX3_isLine_11 (fun r1 h => ?_)
    refine r_icmp_ge C0 21 dX3_isLine_14 rfl h (fun _ h => ?_) (fun _ h => ?_)
    · exact r_sub [] rfl (w_X3_isLine_j21 C0 hD h hz)
    · refine r_iconst C0 dX3_isLine_17 ki_1 ?_
      refine r_goto C0 22 dX3_isLine_18 rfl ?_
      cases h
      exact hz _ _ nz_1 dX3_isLine_22
theorem c_X3_isLine {l : Launch} {D : va_G} {cy : Nat → ClassId} {a : Nat → Nat} {V : VT} {J : JT} {K : Nat → Option Nat} {X : va_W} {v1 : Int32} {y : Int32} (h : f_X3_isLine v1 V = some y) : CT l D cy yX3_isLine cX3_isLine 2 (some .boolean) 1 [.ref (a 3), .int v1] (WC cy a V J K X) (WC cy a V J K X) (some (.int y)) :=
  mkZ (by decide) (Nat.le_of_ble_eq_true rfl) (fun Γ _ _ C0 hD hF => w_X3_isLine C0 (dc_of hD) h hF)
theorem dX3_isLineThere_0 : decode cX3_isLineThere 0 = .ok (.aload_n 0, 1) := by decide +kernel
theorem dX3_isLineThere_1 : decode cX3_isLineThere 1 = .ok (.iload_n 1, 1) := by decide +kernel
theorem dX3_isLineThere_2 : decode cX3_isLineThere 2 = .ok (.invokevirtual 49, 3) := by decide +kernel
theorem dX3_isLineThere_5 : decode cX3_isLineThere 5 = .ok (.ifCond .eq 20, 3) := by decide +kernel
theorem dX3_isLineThere_8 : decode cX3_isLineThere 8 = .ok (.aload_n 0, 1) := by decide +kernel
theorem dX3_isLineThere_9 : decode cX3_isLineThere 9 = .ok (.getfield 24, 3) := by decide +kernel
theorem dX3_isLineThere_12 : decode cX3_isLineThere 12 = .ok (.iload_n 1, 1) := by decide +kernel
theorem dX3_isLineThere_13 : decode cX3_isLineThere 13 = .ok (.iconst 3, 1) := by decide +kernel
theorem dX3_isLineThere_14 : decode cX3_isLineThere 14 = .ok (.invokevirtual 42, 3) := by decide +kernel
theorem dX3_isLineThere_17 : decode cX3_isLineThere 17 = .ok (.iconst 1, 1) := by decide +kernel
theorem dX3_isLineThere_18 : decode cX3_isLineThere 18 = .ok (.if_icmp .ne 7, 3) := by decide +kernel
theorem dX3_isLineThere_21 : decode cX3_isLineThere 21 = .ok (.iconst 1, 1) := by decide +kernel
theorem dX3_isLineThere_22 : decode cX3_isLineThere 22 = .ok (.goto 4, 3) := by decide +kernel
theorem dX3_isLineThere_25 : decode cX3_isLineThere 25 = .ok (.iconst 0, 1) := by decide +kernel
theorem dX3_isLineThere_26 : decode cX3_isLineThere 26 = .ok (.ireturn, 1) := by decide +kernel
theorem w_X3_isLineThere_j25 {z : (Int32)} {Γ : Gam} {cy : Nat → ClassId} {a : Nat → Nat} {V : VT} {J : JT} {K : Nat → Option Nat} {X : va_W}  (C0 : CXg Γ cX3_isLineThere 2 2 RX3 cy) (hD : DC Γ cy a X) (h : f_X3_isLineThere_j25 V = some z) (hz : (fun y : Int32 => FinZ Γ cX3_isLineThere (WC cy a V J K X) y) z) : Wp Γ 0 0 25 [] [] (WC cy a V J K X) := by
  unfold f_X3_isLineThere_j25 at h
  refine r_iconst C0 dX3_isLineThere_25 ki_0 ?_
  cases h
  exact hz _ _ nz_0 dX3_isLineThere_26
theorem w_X3_isLineThere {z : Int32} {Γ : Gam} {cy : Nat → ClassId} {a : Nat → Nat} {V : VT} {J : JT} {K : Nat → Option Nat} {X : va_W} {v1 : Int32}  (C0 : CXg Γ cX3_isLineThere 2 2 RX3 cy) (hD : DC Γ cy a X) (h : f_X3_isLineThere v1 V = some z) (hz : (fun y : Int32 => FinZ Γ cX3_isLineThere (WC cy a V J K X) y) z) : Wp Γ 0 0 0 [(0, .ref (a 3)), (1, .int v1)] [] (WC cy a V J K X) := by
  unfold f_X3_isLineThere at h
  refine r_aload_n C0 dX3_isLineThere_0 rfl 0 rfl ?_
  refine r_iload_n C0 dX3_isLineThere_1 rfl 1 rfl ?_
  refine callV1 C0 h (hD _ _ _) mw_X3_isLine rv_3 tm_X3_49 (fun y hy => c_X3_isLine hy) (Nat.le_of_ble_eq_true rfl) (Nat.le_of_ble_eq_true rfl) dX3_isLineThere_2 (fun r1 h => ?_)
  refine r_if_eq C0 25 dX3_isLineThere_5 rfl h (fun _ h => ?_) (fun _ h => ?_)
  · exact r_sub [] rfl (w_X3_isLineThere_j25 C0 hD h hz)
  · refine r_aload_n C0 dX3_isLineThere_8 rfl 0 rfl ?_
    refine wcg_3_2 C0 tf_X3_24 dX3_isLineThere_9 ?_
    refine r_iload_n C0 dX3_isLineThere_12 rfl 1 rfl ?_
    refine r_iconst C0 dX3_isLineThere_13 ki_3 ?_
    refine callV2 C0 h (hD _ _ _) mw_X7_get (rv_t tb_12) tm_X3_42 (fun y hy => c_X7_get tb_12 hy) (Nat.le_of_ble_eq_true rfl) (Nat.le_of_ble_eq_true rfl) dX3_isLineThere_14 (fun r2 h => ?_)
    refine r_iconst C0 dX3_isLineThere_17 ki_1 ?_
    refine r_icmp_ne C0 25 dX3_isLineThere_18 rfl h (fun _ h => ?_) (fun _ h => ?_)
    · exact r_sub [] rfl (w_X3_isLineThere_j25 C0 hD h hz)
    · refine r_iconst C0 dX3_isLineThere_21 ki_1 ?_
      refine r_goto C0 26 dX3_isLineThere_22 rfl ?_
      cases h
      exact hz _ _ nz_1 dX3_isLineThere_26
theorem c_X3_isLineThere {l : Launch} {D : va_G} {cy : Nat → ClassId} {a : Nat → Nat} {V : VT} {J : JT} {K : Nat → Option Nat} {X : va_W} {v1 : Int32} {y : Int32} (h : f_X3_isLineThere v1 V = some y) : CT l D cy yX3_isLineThere cX3_isLineThere 2 (some .boolean) 2 [.ref (a 3), .int v1] (WC cy a V J K X) (WC cy a V J K X) (some (.int y)) :=
  mkZ (by decide) (Nat.le_of_ble_eq_true rfl) (fun Γ _ _ C0 hD hF => w_X3_isLineThere C0 (dc_of hD) h hF)
theorem dX3_linesOf_0 : decode cX3_linesOf 0 = .ok (.iconst 0, 1) := by decide +kernel
theorem dX3_linesOf_1 : decode cX3_linesOf 1 = .ok (.istore_n 2, 1) := by decide +kernel
theorem dX3_linesOf_2 : decode cX3_linesOf 2 = .ok (.iconst 0, 1) := by decide +kernel
theorem dX3_linesOf_3 : decode cX3_linesOf 3 = .ok (.istore_n 3, 1) := by decide +kernel
theorem dX3_linesOf_4 : decode cX3_linesOf 4 = .ok (.iload_n 3, 1) := by decide +kernel
theorem dX3_linesOf_5 : decode cX3_linesOf 5 = .ok (.bipush 40, 2) := by decide +kernel
theorem dX3_linesOf_7 : decode cX3_linesOf 7 = .ok (.if_icmp .ge 21, 3) := by decide +kernel
theorem dX3_linesOf_10 : decode cX3_linesOf 10 = .ok (.aload_n 0, 1) := by decide +kernel
theorem dX3_linesOf_11 : decode cX3_linesOf 11 = .ok (.iload_n 3, 1) := by decide +kernel
theorem dX3_linesOf_12 : decode cX3_linesOf 12 = .ok (.iload_n 1, 1) := by decide +kernel
theorem dX3_linesOf_13 : decode cX3_linesOf 13 = .ok (.invokevirtual 53, 3) := by decide +kernel
theorem dX3_linesOf_16 : decode cX3_linesOf 16 = .ok (.ifCond .eq 6, 3) := by decide +kernel
theorem dX3_linesOf_19 : decode cX3_linesOf 19 = .ok (.iinc 2 1, 3) := by decide +kernel
theorem dX3_linesOf_22 : decode cX3_linesOf 22 = .ok (.iinc 3 1, 3) := by decide +kernel
theorem dX3_linesOf_25 : decode cX3_linesOf 25 = .ok (.goto (-21), 3) := by decide +kernel
theorem dX3_linesOf_28 : decode cX3_linesOf 28 = .ok (.iload_n 2, 1) := by decide +kernel
theorem dX3_linesOf_29 : decode cX3_linesOf 29 = .ok (.ireturn, 1) := by decide +kernel
theorem w_X3_linesOf_j22 {z : ((Int32 × Int32) ⊕ (Int32))} {Γ : Gam} {cy : Nat → ClassId} {a : Nat → Nat} {V : VT} {J : JT} {K : Nat → Option Nat} {X : va_W} {v1 : Int32} {v2 : Int32} {v3 : Int32}  (C0 : CXg Γ cX3_linesOf 4 2 RX3 cy) (hD : DC Γ cy a X) (h : f_X3_linesOf_j22 v1 v2 v3 V = some z) (hz : (Sum.elim (fun x : Int32 × Int32 => Wp Γ 0 0 4 [(0, .ref (a 3)), (1, .int v1), (2, .int x.1), (3, .int x.2)] [] (WC cy a V J K X)) (fun y : Int32 => FinI Γ cX3_linesOf (WC cy a V J K X) y)) z) : Wp Γ 0 0 22 [(0, .ref (a 3)), (1, .int v1), (2, .int v2), (3, .int v3)] [] (WC cy a V J K X) := by
  unfold f_X3_linesOf_j22 at h
  obtain ⟨a5, h8, h⟩ := op_bind h
  have e8 := Option.some.inj h8
  refine r_iinc (lv2 := [(3, .int a5), (0, .ref (a 3)), (1, .int v1), (2, .int v2)]) C0 dX3_linesOf_22 3 rfl ki_1 e8 (Nat.le_of_ble_eq_true rfl) rfl ?_
  refine r_goto C0 4 dX3_linesOf_25 rfl ?_
  cases h
  have hz := el_inl hz
  exact r_sub [1, 2, 3, 0] rfl hz
theorem w_X3_linesOf_B4 {x : Int32 × Int32} {z : ((Int32 × Int32) ⊕ (Int32))} {Γ : Gam} {cy : Nat → ClassId} {a : Nat → Nat} {V : VT} {J : JT} {K : Nat → Option Nat} {X : va_W} {v1 : Int32}  (C0 : CXg Γ cX3_linesOf 4 2 RX3 cy) (hD : DC Γ cy a X) (h : f_X3_linesOf_B4 v1 V x = some z) (hz : (Sum.elim (fun x : Int32 × Int32 => Wp Γ 0 0 4 [(0, .ref (a 3)), (1, .int v1), (2, .int x.1), (3, .int x.2)] [] (WC cy a V J K X)) (fun y : Int32 => FinI Γ cX3_linesOf (WC cy a V J K X) y)) z) : Wp Γ 0 0 4 [(0, .ref (a 3)), (1, .int v1), (2, .int x.1), (3, .int x.2)] [] (WC cy a V J K X) := by
  unfold f_X3_linesOf_B4 at h
  refine r_iload_n C0 dX3_linesOf_4 rfl 3 rfl ?_
  refine r_bipush C0 dX3_linesOf_5 kb_40 ?_
  refine r_icmp_ge C0 28 dX3_linesOf_7 rfl h (fun _ h => ?_) (fun _ h => ?_)
  · obtain ⟨y3, h5, h9⟩ := op_bind h
    clear h
    cases h9
    have hz := (el_inr hz)
    have h := h5
    refine r_iload_n C0 dX3_linesOf_28 rfl 2 rfl ?_
    cases h
    exact hz _ _ dX3_linesOf_29
  · refine r_aload_n C0 dX3_linesOf_10 rfl 0 rfl ?_
    refine r_iload_n C0 dX3_linesOf_11 rfl 3 rfl ?_
    refine r_iload_n C0 dX3_linesOf_12 rfl 1 rfl ?_
    refine callV2 C0 h (hD _ _ _) mw_X3_holdsBar rv_3 tm_X3_53 (fun y hy => c_X3_holdsBar hy) (Nat.le_of_ble_eq_true rfl) (Nat.le_of_ble_eq_true rfl) dX3_linesOf_13 (fun r4 h => ?_)
    refine r_if_eq C0 22 dX3_linesOf_16 rfl h (fun _ h => ?_) (fun _ h => ?_)
    · exact r_sub [0, 1, 2, 3] rfl (w_X3_linesOf_j22 C0 hD h hz)
    · obtain ⟨a6, h8, h⟩ := op_bind h
      have e8 := Option.some.inj h8
      refine r_iinc (lv2 := [(2, .int a6), (0, .ref (a 3)), (1, .int v1), (3, .int x.2)]) C0 dX3_linesOf_19 2 rfl ki_1 e8 (Nat.le_of_ble_eq_true rfl) rfl ?_
      exact r_sub [1, 2, 0, 3] rfl (w_X3_linesOf_j22 C0 hD h hz)
theorem w_X3_linesOf_B4_lp {x : Int32 × Int32} {z : (Int32)} {Γ : Gam} {cy : Nat → ClassId} {a : Nat → Nat} {V : VT} {J : JT} {K : Nat → Option Nat} {X : va_W} {v1 : Int32}  (C0 : CXg Γ cX3_linesOf 4 2 RX3 cy) (hD : DC Γ cy a X) (h : lp (f_X3_linesOf_B4 v1 V) fuel x = some z) (hz : (fun y : Int32 => FinI Γ cX3_linesOf (WC cy a V J K X) y) z) : Wp Γ 0 0 4 [(0, .ref (a 3)), (1, .int v1), (2, .int x.1), (3, .int x.2)] [] (WC cy a V J K X) :=
  lp_rule (hd := (fun x : Int32 × Int32 => Wp Γ 0 0 4 [(0, .ref (a 3)), (1, .int v1), (2, .int x.1), (3, .int x.2)] [] (WC cy a V J K X))) (C := (fun y : Int32 => FinI Γ cX3_linesOf (WC cy a V J K X) y)) (fun x z h hz => w_X3_linesOf_B4 C0 hD h hz) _ _ _ h hz
theorem w_X3_linesOf {z : Int32} {Γ : Gam} {cy : Nat → ClassId} {a : Nat → Nat} {V : VT} {J : JT} {K : Nat → Option Nat} {X : va_W} {v1 : Int32}  (C0 : CXg Γ cX3_linesOf 4 2 RX3 cy) (hD : DC Γ cy a X) (h : f_X3_linesOf v1 V = some z) (hz : (fun y : Int32 => FinI Γ cX3_linesOf (WC cy a V J K X) y) z) : Wp Γ 0 0 0 [(0, .ref (a 3)), (1, .int v1)] [] (WC cy a V J K X) := by
  unfold f_X3_linesOf at h
  refine r_iconst C0 dX3_linesOf_0 ki_0 ?_
  obtain ⟨a1, h8, h⟩ := op_bind h
  have e8 := Option.some.inj h8
  refine r_istore_n (lv2 := [(2, .int a1), (0, .ref (a 3)), (1, .int v1)]) C0 dX3_linesOf_1 rfl e8 (Nat.le_of_ble_eq_true rfl) rfl ?_
  refine r_iconst C0 dX3_linesOf_2 ki_0 ?_
  obtain ⟨a2, h8, h⟩ := op_bind h
  have e8 := Option.some.inj h8
  refine r_istore_n (lv2 := [(3, .int a2), (2, .int a1), (0, .ref (a 3)), (1, .int v1)]) C0 dX3_linesOf_3 rfl e8 (Nat.le_of_ble_eq_true rfl) rfl ?_
  exact r_sub [2, 3, 1, 0] rfl (w_X3_linesOf_B4_lp C0 hD h hz)
theorem c_X3_linesOf {l : Launch} {D : va_G} {cy : Nat → ClassId} {a : Nat → Nat} {V : VT} {J : JT} {K : Nat → Option Nat} {X : va_W} {v1 : Int32} {y : Int32} (h : f_X3_linesOf v1 V = some y) : CT l D cy yX3_linesOf cX3_linesOf 4 (some .int) 2 [.ref (a 3), .int v1] (WC cy a V J K X) (WC cy a V J K X) (some (.int y)) :=
  mkI (by decide) (Nat.le_of_ble_eq_true rfl) (fun Γ _ _ C0 hD hF => w_X3_linesOf C0 (dc_of hD) h hF)
theorem dX3_isCue_0 : decode cX3_isCue 0 = .ok (.iload_n 1, 1) := by decide +kernel
theorem dX3_isCue_1 : decode cX3_isCue 1 = .ok (.ifCond .lt 20, 3) := by decide +kernel
theorem dX3_isCue_4 : decode cX3_isCue 4 = .ok (.iload_n 1, 1) := by decide +kernel
theorem dX3_isCue_5 : decode cX3_isCue 5 = .ok (.aload_n 0, 1) := by decide +kernel
theorem dX3_isCue_6 : decode cX3_isCue 6 = .ok (.getfield 39, 3) := by decide +kernel
theorem dX3_isCue_9 : decode cX3_isCue 9 = .ok (.iconst 0, 1) := by decide +kernel
theorem dX3_isCue_10 : decode cX3_isCue 10 = .ok (.iconst 2, 1) := by decide +kernel
theorem dX3_isCue_11 : decode cX3_isCue 11 = .ok (.invokevirtual 42, 3) := by decide +kernel
theorem dX3_isCue_14 : decode cX3_isCue 14 = .ok (.if_icmp .ge 7, 3) := by decide +kernel
theorem dX3_isCue_17 : decode cX3_isCue 17 = .ok (.iconst 1, 1) := by decide +kernel
theorem dX3_isCue_18 : decode cX3_isCue 18 = .ok (.goto 4, 3) := by decide +kernel
theorem dX3_isCue_21 : decode cX3_isCue 21 = .ok (.iconst 0, 1) := by decide +kernel
theorem dX3_isCue_22 : decode cX3_isCue 22 = .ok (.ireturn, 1) := by decide +kernel
theorem w_X3_isCue_j21 {z : (Int32)} {Γ : Gam} {cy : Nat → ClassId} {a : Nat → Nat} {V : VT} {J : JT} {K : Nat → Option Nat} {X : va_W}  (C0 : CXg Γ cX3_isCue 2 1 RX3 cy) (hD : DC Γ cy a X) (h : f_X3_isCue_j21 V = some z) (hz : (fun y : Int32 => FinZ Γ cX3_isCue (WC cy a V J K X) y) z) : Wp Γ 0 0 21 [] [] (WC cy a V J K X) := by
  unfold f_X3_isCue_j21 at h
  refine r_iconst C0 dX3_isCue_21 ki_0 ?_
  cases h
  exact hz _ _ nz_0 dX3_isCue_22
theorem w_X3_isCue {z : Int32} {Γ : Gam} {cy : Nat → ClassId} {a : Nat → Nat} {V : VT} {J : JT} {K : Nat → Option Nat} {X : va_W} {v1 : Int32}  (C0 : CXg Γ cX3_isCue 2 1 RX3 cy) (hD : DC Γ cy a X) (h : f_X3_isCue v1 V = some z) (hz : (fun y : Int32 => FinZ Γ cX3_isCue (WC cy a V J K X) y) z) : Wp Γ 0 0 0 [(0, .ref (a 3)), (1, .int v1)] [] (WC cy a V J K X) := by
  unfold f_X3_isCue at h
  refine r_iload_n C0 dX3_isCue_0 rfl 1 rfl ?_
  refine r_if_lt C0 21 dX3_isCue_1 rfl h (fun _ h => ?_) (fun _ h => ?_)
  · exact r_sub [] rfl (w_X3_isCue_j21 C0 hD h hz)
  · refine r_iload_n C0 dX3_isCue_4 rfl 1 rfl ?_
    refine r_aload_n C0 dX3_isCue_5 rfl 0 rfl ?_
    refine wcg_3_7 C0 tf_X3_39 dX3_isCue_6 ?_
    refine r_iconst C0 dX3_isCue_9 ki_0 ?_
    refine r_iconst C0 dX3_isCue_10 ki_2 ?_
    refine callV2 C0 h (hD _ _ _) mw_X7_get (rv_t tb_17) tm_X3_42 (fun y hy => c_X7_get tb_17 hy) (Nat.le_of_ble_eq_true rfl) (Nat.le_of_ble_eq_true rfl) dX3_isCue_11 (fun r1 h => ?_)
    refine r_icmp_ge C0 21 dX3_isCue_14 rfl h (fun _ h => ?_) (fun _ h => ?_)
    · exact r_sub [] rfl (w_X3_isCue_j21 C0 hD h hz)
    · refine r_iconst C0 dX3_isCue_17 ki_1 ?_
      refine r_goto C0 22 dX3_isCue_18 rfl ?_
      cases h
      exact hz _ _ nz_1 dX3_isCue_22
theorem c_X3_isCue {l : Launch} {D : va_G} {cy : Nat → ClassId} {a : Nat → Nat} {V : VT} {J : JT} {K : Nat → Option Nat} {X : va_W} {v1 : Int32} {y : Int32} (h : f_X3_isCue v1 V = some y) : CT l D cy yX3_isCue cX3_isCue 2 (some .boolean) 1 [.ref (a 3), .int v1] (WC cy a V J K X) (WC cy a V J K X) (some (.int y)) :=
  mkZ (by decide) (Nat.le_of_ble_eq_true rfl) (fun Γ _ _ C0 hD hF => w_X3_isCue C0 (dc_of hD) h hF)
theorem dX3_riggedBars_0 : decode cX3_riggedBars 0 = .ok (.iconst 0, 1) := by decide +kernel
theorem dX3_riggedBars_1 : decode cX3_riggedBars 1 = .ok (.istore_n 1, 1) := by decide +kernel
theorem dX3_riggedBars_2 : decode cX3_riggedBars 2 = .ok (.iconst 0, 1) := by decide +kernel
theorem dX3_riggedBars_3 : decode cX3_riggedBars 3 = .ok (.istore_n 2, 1) := by decide +kernel
theorem dX3_riggedBars_4 : decode cX3_riggedBars 4 = .ok (.iload_n 2, 1) := by decide +kernel
theorem dX3_riggedBars_5 : decode cX3_riggedBars 5 = .ok (.bipush 12, 2) := by decide +kernel
theorem dX3_riggedBars_7 : decode cX3_riggedBars 7 = .ok (.if_icmp .ge 20, 3) := by decide +kernel
theorem dX3_riggedBars_10 : decode cX3_riggedBars 10 = .ok (.aload_n 0, 1) := by decide +kernel
theorem dX3_riggedBars_11 : decode cX3_riggedBars 11 = .ok (.iload_n 2, 1) := by decide +kernel
theorem dX3_riggedBars_12 : decode cX3_riggedBars 12 = .ok (.invokevirtual 69, 3) := by decide +kernel
theorem dX3_riggedBars_15 : decode cX3_riggedBars 15 = .ok (.ifCond .eq 6, 3) := by decide +kernel
theorem dX3_riggedBars_18 : decode cX3_riggedBars 18 = .ok (.iinc 1 1, 3) := by decide +kernel
theorem dX3_riggedBars_21 : decode cX3_riggedBars 21 = .ok (.iinc 2 1, 3) := by decide +kernel
theorem dX3_riggedBars_24 : decode cX3_riggedBars 24 = .ok (.goto (-20), 3) := by decide +kernel
theorem dX3_riggedBars_27 : decode cX3_riggedBars 27 = .ok (.iload_n 1, 1) := by decide +kernel
theorem dX3_riggedBars_28 : decode cX3_riggedBars 28 = .ok (.ireturn, 1) := by decide +kernel
theorem w_X3_riggedBars_j21 {z : ((Int32 × Int32) ⊕ (Int32))} {Γ : Gam} {cy : Nat → ClassId} {a : Nat → Nat} {V : VT} {J : JT} {K : Nat → Option Nat} {X : va_W} {v1 : Int32} {v2 : Int32}  (C0 : CXg Γ cX3_riggedBars 3 2 RX3 cy) (hD : DC Γ cy a X) (h : f_X3_riggedBars_j21 v1 v2 V = some z) (hz : (Sum.elim (fun x : Int32 × Int32 => Wp Γ 0 0 4 [(0, .ref (a 3)), (1, .int x.1), (2, .int x.2)] [] (WC cy a V J K X)) (fun y : Int32 => FinI Γ cX3_riggedBars (WC cy a V J K X) y)) z) : Wp Γ 0 0 21 [(0, .ref (a 3)), (1, .int v1), (2, .int v2)] [] (WC cy a V J K X) := by
  unfold f_X3_riggedBars_j21 at h
  obtain ⟨a5, h8, h⟩ := op_bind h
  have e8 := Option.some.inj h8
  refine r_iinc (lv2 := [(2, .int a5), (0, .ref (a 3)), (1, .int v1)]) C0 dX3_riggedBars_21 2 rfl ki_1 e8 (Nat.le_of_ble_eq_true rfl) rfl ?_
  refine r_goto C0 4 dX3_riggedBars_24 rfl ?_
  cases h
  have hz := el_inl hz
  exact r_sub [1, 2, 0] rfl hz
theorem w_X3_riggedBars_B4 {x : Int32 × Int32} {z : ((Int32 × Int32) ⊕ (Int32))} {Γ : Gam} {cy : Nat → ClassId} {a : Nat → Nat} {V : VT} {J : JT} {K : Nat → Option Nat} {X : va_W}  (C0 : CXg Γ cX3_riggedBars 3 2 RX3 cy) (hD : DC Γ cy a X) (h : f_X3_riggedBars_B4 V x = some z) (hz : (Sum.elim (fun x : Int32 × Int32 => Wp Γ 0 0 4 [(0, .ref (a 3)), (1, .int x.1), (2, .int x.2)] [] (WC cy a V J K X)) (fun y : Int32 => FinI Γ cX3_riggedBars (WC cy a V J K X) y)) z) : Wp Γ 0 0 4 [(0, .ref (a 3)), (1, .int x.1), (2, .int x.2)] [] (WC cy a V J K X) := by
  unfold f_X3_riggedBars_B4 at h
  refine r_iload_n C0 dX3_riggedBars_4 rfl 2 rfl ?_
  refine r_bipush C0 dX3_riggedBars_5 kb_12 ?_
  refine r_icmp_ge C0 27 dX3_riggedBars_7 rfl h (fun _ h => ?_) (fun _ h => ?_)
  · obtain ⟨y3, h5, h9⟩ := op_bind h
    clear h
    cases h9
    have hz := (el_inr hz)
    have h := h5
    refine r_iload_n C0 dX3_riggedBars_27 rfl 1 rfl ?_
    cases h
    exact hz _ _ dX3_riggedBars_28
  · refine r_aload_n C0 dX3_riggedBars_10 rfl 0 rfl ?_
    refine r_iload_n C0 dX3_riggedBars_11 rfl 2 rfl ?_
    refine callV1 C0 h (hD _ _ _) mw_X3_isRigged rv_3 tm_X3_69 (fun y hy => c_X3_isRigged hy) (Nat.le_of_ble_eq_true rfl) (Nat.le_of_ble_eq_true rfl) dX3_riggedBars_12 (fun r4 h => ?_)
    refine r_if_eq C0 21 dX3_riggedBars_15 rfl h (fun _ h => ?_) (fun _ h => ?_)
    · exact r_sub [0, 1, 2] rfl (w_X3_riggedBars_j21 C0 hD h hz)
    · obtain ⟨a6, h8, h⟩ := op_bind h
      have e8 := Option.some.inj h8
      refine r_iinc (lv2 := [(1, .int a6), (0, .ref (a 3)), (2, .int x.2)]) C0 dX3_riggedBars_18 1 rfl ki_1 e8 (Nat.le_of_ble_eq_true rfl) rfl ?_
      exact r_sub [1, 0, 2] rfl (w_X3_riggedBars_j21 C0 hD h hz)
theorem w_X3_riggedBars_B4_lp {x : Int32 × Int32} {z : (Int32)} {Γ : Gam} {cy : Nat → ClassId} {a : Nat → Nat} {V : VT} {J : JT} {K : Nat → Option Nat} {X : va_W}  (C0 : CXg Γ cX3_riggedBars 3 2 RX3 cy) (hD : DC Γ cy a X) (h : lp (f_X3_riggedBars_B4 V) fuel x = some z) (hz : (fun y : Int32 => FinI Γ cX3_riggedBars (WC cy a V J K X) y) z) : Wp Γ 0 0 4 [(0, .ref (a 3)), (1, .int x.1), (2, .int x.2)] [] (WC cy a V J K X) :=
  lp_rule (hd := (fun x : Int32 × Int32 => Wp Γ 0 0 4 [(0, .ref (a 3)), (1, .int x.1), (2, .int x.2)] [] (WC cy a V J K X))) (C := (fun y : Int32 => FinI Γ cX3_riggedBars (WC cy a V J K X) y)) (fun x z h hz => w_X3_riggedBars_B4 C0 hD h hz) _ _ _ h hz
theorem w_X3_riggedBars {z : Int32} {Γ : Gam} {cy : Nat → ClassId} {a : Nat → Nat} {V : VT} {J : JT} {K : Nat → Option Nat} {X : va_W}  (C0 : CXg Γ cX3_riggedBars 3 2 RX3 cy) (hD : DC Γ cy a X) (h : f_X3_riggedBars V = some z) (hz : (fun y : Int32 => FinI Γ cX3_riggedBars (WC cy a V J K X) y) z) : Wp Γ 0 0 0 [(0, .ref (a 3))] [] (WC cy a V J K X) := by
  unfold f_X3_riggedBars at h
  refine r_iconst C0 dX3_riggedBars_0 ki_0 ?_
  obtain ⟨a1, h8, h⟩ := op_bind h
  have e8 := Option.some.inj h8
  refine r_istore_n (lv2 := [(1, .int a1), (0, .ref (a 3))]) C0 dX3_riggedBars_1 rfl e8 (Nat.le_of_ble_eq_true rfl) rfl ?_
  refine r_iconst C0 dX3_riggedBars_2 ki_0 ?_
  obtain ⟨a2, h8, h⟩ := op_bind h
  have e8 := Option.some.inj h8
  refine r_istore_n (lv2 := [(2, .int a2), (1, .int a1), (0, .ref (a 3))]) C0 dX3_riggedBars_3 rfl e8 (Nat.le_of_ble_eq_true rfl) rfl ?_
  exact r_sub [2, 1, 0] rfl (w_X3_riggedBars_B4_lp C0 hD h hz)
theorem c_X3_riggedBars {l : Launch} {D : va_G} {cy : Nat → ClassId} {a : Nat → Nat} {V : VT} {J : JT} {K : Nat → Option Nat} {X : va_W} {y : Int32} (h : f_X3_riggedBars V = some y) : CT l D cy yX3_riggedBars cX3_riggedBars 3 (some .int) 2 [.ref (a 3)] (WC cy a V J K X) (WC cy a V J K X) (some (.int y)) :=
  mkI (by decide) (Nat.le_of_ble_eq_true rfl) (fun Γ _ _ C0 hD hF => w_X3_riggedBars C0 (dc_of hD) h hF)
theorem dX3_linesThere_0 : decode cX3_linesThere 0 = .ok (.iconst 0, 1) := by decide +kernel
theorem dX3_linesThere_1 : decode cX3_linesThere 1 = .ok (.istore_n 1, 1) := by decide +kernel
theorem dX3_linesThere_2 : decode cX3_linesThere 2 = .ok (.iconst 0, 1) := by decide +kernel
theorem dX3_linesThere_3 : decode cX3_linesThere 3 = .ok (.istore_n 2, 1) := by decide +kernel
theorem dX3_linesThere_4 : decode cX3_linesThere 4 = .ok (.iload_n 2, 1) := by decide +kernel
theorem dX3_linesThere_5 : decode cX3_linesThere 5 = .ok (.bipush 40, 2) := by decide +kernel
theorem dX3_linesThere_7 : decode cX3_linesThere 7 = .ok (.if_icmp .ge 20, 3) := by decide +kernel
theorem dX3_linesThere_10 : decode cX3_linesThere 10 = .ok (.aload_n 0, 1) := by decide +kernel
theorem dX3_linesThere_11 : decode cX3_linesThere 11 = .ok (.iload_n 2, 1) := by decide +kernel
theorem dX3_linesThere_12 : decode cX3_linesThere 12 = .ok (.invokevirtual 72, 3) := by decide +kernel
theorem dX3_linesThere_15 : decode cX3_linesThere 15 = .ok (.ifCond .eq 6, 3) := by decide +kernel
theorem dX3_linesThere_18 : decode cX3_linesThere 18 = .ok (.iinc 1 1, 3) := by decide +kernel
theorem dX3_linesThere_21 : decode cX3_linesThere 21 = .ok (.iinc 2 1, 3) := by decide +kernel
theorem dX3_linesThere_24 : decode cX3_linesThere 24 = .ok (.goto (-20), 3) := by decide +kernel
theorem dX3_linesThere_27 : decode cX3_linesThere 27 = .ok (.iload_n 1, 1) := by decide +kernel
theorem dX3_linesThere_28 : decode cX3_linesThere 28 = .ok (.ireturn, 1) := by decide +kernel
theorem w_X3_linesThere_j21 {z : ((Int32 × Int32) ⊕ (Int32))} {Γ : Gam} {cy : Nat → ClassId} {a : Nat → Nat} {V : VT} {J : JT} {K : Nat → Option Nat} {X : va_W} {v1 : Int32} {v2 : Int32}  (C0 : CXg Γ cX3_linesThere 3 3 RX3 cy) (hD : DC Γ cy a X) (h : f_X3_linesThere_j21 v1 v2 V = some z) (hz : (Sum.elim (fun x : Int32 × Int32 => Wp Γ 0 0 4 [(0, .ref (a 3)), (1, .int x.1), (2, .int x.2)] [] (WC cy a V J K X)) (fun y : Int32 => FinI Γ cX3_linesThere (WC cy a V J K X) y)) z) : Wp Γ 0 0 21 [(0, .ref (a 3)), (1, .int v1), (2, .int v2)] [] (WC cy a V J K X) := by
  unfold f_X3_linesThere_j21 at h
  obtain ⟨a5, h8, h⟩ := op_bind h
  have e8 := Option.some.inj h8
  refine r_iinc (lv2 := [(2, .int a5), (0, .ref (a 3)), (1, .int v1)]) C0 dX3_linesThere_21 2 rfl ki_1 e8 (Nat.le_of_ble_eq_true rfl) rfl ?_
  refine r_goto C0 4 dX3_linesThere_24 rfl ?_
  cases h
  have hz := el_inl hz
  exact r_sub [1, 2, 0] rfl hz
theorem w_X3_linesThere_B4 {x : Int32 × Int32} {z : ((Int32 × Int32) ⊕ (Int32))} {Γ : Gam} {cy : Nat → ClassId} {a : Nat → Nat} {V : VT} {J : JT} {K : Nat → Option Nat} {X : va_W}  (C0 : CXg Γ cX3_linesThere 3 3 RX3 cy) (hD : DC Γ cy a X) (h : f_X3_linesThere_B4 V x = some z) (hz : (Sum.elim (fun x : Int32 × Int32 => Wp Γ 0 0 4 [(0, .ref (a 3)), (1, .int x.1), (2, .int x.2)] [] (WC cy a V J K X)) (fun y : Int32 => FinI Γ cX3_linesThere (WC cy a V J K X) y)) z) : Wp Γ 0 0 4 [(0, .ref (a 3)), (1, .int x.1), (2, .int x.2)] [] (WC cy a V J K X) := by
  unfold f_X3_linesThere_B4 at h
  refine r_iload_n C0 dX3_linesThere_4 rfl 2 rfl ?_
  refine r_bipush C0 dX3_linesThere_5 kb_40 ?_
  refine r_icmp_ge C0 27 dX3_linesThere_7 rfl h (fun _ h => ?_) (fun _ h => ?_)
  · obtain ⟨y3, h5, h9⟩ := op_bind h
    clear h
    cases h9
    have hz := (el_inr hz)
    have h := h5
    refine r_iload_n C0 dX3_linesThere_27 rfl 1 rfl ?_
    cases h
    exact hz _ _ dX3_linesThere_28
  · refine r_aload_n C0 dX3_linesThere_10 rfl 0 rfl ?_
    refine r_iload_n C0 dX3_linesThere_11 rfl 2 rfl ?_
    refine callV1 C0 h (hD _ _ _) mw_X3_isLineThere rv_3 tm_X3_72 (fun y hy => c_X3_isLineThere hy) (Nat.le_of_ble_eq_true rfl) (Nat.le_of_ble_eq_true rfl) dX3_linesThere_12 (fun r4 h => ?_)
    refine r_if_eq C0 21 dX3_linesThere_15 rfl h (fun _ h => ?_) (fun _ h => ?_)
    · exact r_sub [0, 1, 2] rfl (w_X3_linesThere_j21 C0 hD h hz)
    · obtain ⟨a6, h8, h⟩ := op_bind h
      have e8 := Option.some.inj h8
      refine r_iinc (lv2 := [(1, .int a6), (0, .ref (a 3)), (2, .int x.2)]) C0 dX3_linesThere_18 1 rfl ki_1 e8 (Nat.le_of_ble_eq_true rfl) rfl ?_
      exact r_sub [1, 0, 2] rfl (w_X3_linesThere_j21 C0 hD h hz)
theorem w_X3_linesThere_B4_lp {x : Int32 × Int32} {z : (Int32)} {Γ : Gam} {cy : Nat → ClassId} {a : Nat → Nat} {V : VT} {J : JT} {K : Nat → Option Nat} {X : va_W}  (C0 : CXg Γ cX3_linesThere 3 3 RX3 cy) (hD : DC Γ cy a X) (h : lp (f_X3_linesThere_B4 V) fuel x = some z) (hz : (fun y : Int32 => FinI Γ cX3_linesThere (WC cy a V J K X) y) z) : Wp Γ 0 0 4 [(0, .ref (a 3)), (1, .int x.1), (2, .int x.2)] [] (WC cy a V J K X) :=
  lp_rule (hd := (fun x : Int32 × Int32 => Wp Γ 0 0 4 [(0, .ref (a 3)), (1, .int x.1), (2, .int x.2)] [] (WC cy a V J K X))) (C := (fun y : Int32 => FinI Γ cX3_linesThere (WC cy a V J K X) y)) (fun x z h hz => w_X3_linesThere_B4 C0 hD h hz) _ _ _ h hz
theorem w_X3_linesThere {z : Int32} {Γ : Gam} {cy : Nat → ClassId} {a : Nat → Nat} {V : VT} {J : JT} {K : Nat → Option Nat} {X : va_W}  (C0 : CXg Γ cX3_linesThere 3 3 RX3 cy) (hD : DC Γ cy a X) (h : f_X3_linesThere V = some z) (hz : (fun y : Int32 => FinI Γ cX3_linesThere (WC cy a V J K X) y) z) : Wp Γ 0 0 0 [(0, .ref (a 3))] [] (WC cy a V J K X) := by
  unfold f_X3_linesThere at h
  refine r_iconst C0 dX3_linesThere_0 ki_0 ?_
  obtain ⟨a1, h8, h⟩ := op_bind h
  have e8 := Option.some.inj h8
  refine r_istore_n (lv2 := [(1, .int a1), (0, .ref (a 3))]) C0 dX3_linesThere_1 rfl e8 (Nat.le_of_ble_eq_true rfl) rfl ?_
  refine r_iconst C0 dX3_linesThere_2 ki_0 ?_
  obtain ⟨a2, h8, h⟩ := op_bind h
  have e8 := Option.some.inj h8
  refine r_istore_n (lv2 := [(2, .int a2), (1, .int a1), (0, .ref (a 3))]) C0 dX3_linesThere_3 rfl e8 (Nat.le_of_ble_eq_true rfl) rfl ?_
  exact r_sub [2, 1, 0] rfl (w_X3_linesThere_B4_lp C0 hD h hz)
theorem c_X3_linesThere {l : Launch} {D : va_G} {cy : Nat → ClassId} {a : Nat → Nat} {V : VT} {J : JT} {K : Nat → Option Nat} {X : va_W} {y : Int32} (h : f_X3_linesThere V = some y) : CT l D cy yX3_linesThere cX3_linesThere 3 (some .int) 3 [.ref (a 3)] (WC cy a V J K X) (WC cy a V J K X) (some (.int y)) :=
  mkI (by decide) (Nat.le_of_ble_eq_true rfl) (fun Γ _ _ C0 hD hF => w_X3_linesThere C0 (dc_of hD) h hF)
theorem dX3_hangingThings_0 : decode cX3_hangingThings 0 = .ok (.iconst 0, 1) := by decide +kernel
theorem dX3_hangingThings_1 : decode cX3_hangingThings 1 = .ok (.istore_n 1, 1) := by decide +kernel
theorem dX3_hangingThings_2 : decode cX3_hangingThings 2 = .ok (.iconst 0, 1) := by decide +kernel
theorem dX3_hangingThings_3 : decode cX3_hangingThings 3 = .ok (.istore_n 2, 1) := by decide +kernel
theorem dX3_hangingThings_4 : decode cX3_hangingThings 4 = .ok (.iload_n 2, 1) := by decide +kernel
theorem dX3_hangingThings_5 : decode cX3_hangingThings 5 = .ok (.aload_n 0, 1) := by decide +kernel
theorem dX3_hangingThings_6 : decode cX3_hangingThings 6 = .ok (.getfield 39, 3) := by decide +kernel
theorem dX3_hangingThings_9 : decode cX3_hangingThings 9 = .ok (.iconst 0, 1) := by decide +kernel
theorem dX3_hangingThings_10 : decode cX3_hangingThings 10 = .ok (.iconst 1, 1) := by decide +kernel
theorem dX3_hangingThings_11 : decode cX3_hangingThings 11 = .ok (.invokevirtual 42, 3) := by decide +kernel
theorem dX3_hangingThings_14 : decode cX3_hangingThings 14 = .ok (.if_icmp .ge 20, 3) := by decide +kernel
theorem dX3_hangingThings_17 : decode cX3_hangingThings 17 = .ok (.aload_n 0, 1) := by decide +kernel
theorem dX3_hangingThings_18 : decode cX3_hangingThings 18 = .ok (.iload_n 2, 1) := by decide +kernel
theorem dX3_hangingThings_19 : decode cX3_hangingThings 19 = .ok (.invokevirtual 75, 3) := by decide +kernel
theorem dX3_hangingThings_22 : decode cX3_hangingThings 22 = .ok (.ifCond .eq 6, 3) := by decide +kernel
theorem dX3_hangingThings_25 : decode cX3_hangingThings 25 = .ok (.iinc 1 1, 3) := by decide +kernel
theorem dX3_hangingThings_28 : decode cX3_hangingThings 28 = .ok (.iinc 2 1, 3) := by decide +kernel
theorem dX3_hangingThings_31 : decode cX3_hangingThings 31 = .ok (.goto (-27), 3) := by decide +kernel
theorem dX3_hangingThings_34 : decode cX3_hangingThings 34 = .ok (.iload_n 1, 1) := by decide +kernel
theorem dX3_hangingThings_35 : decode cX3_hangingThings 35 = .ok (.ireturn, 1) := by decide +kernel
theorem w_X3_hangingThings_j28 {z : ((Int32 × Int32) ⊕ (Int32))} {Γ : Gam} {cy : Nat → ClassId} {a : Nat → Nat} {V : VT} {J : JT} {K : Nat → Option Nat} {X : va_W} {v1 : Int32} {v2 : Int32}  (C0 : CXg Γ cX3_hangingThings 3 2 RX3 cy) (hD : DC Γ cy a X) (h : f_X3_hangingThings_j28 v1 v2 V = some z) (hz : (Sum.elim (fun x : Int32 × Int32 => Wp Γ 0 0 4 [(0, .ref (a 3)), (1, .int x.1), (2, .int x.2)] [] (WC cy a V J K X)) (fun y : Int32 => FinI Γ cX3_hangingThings (WC cy a V J K X) y)) z) : Wp Γ 0 0 28 [(0, .ref (a 3)), (1, .int v1), (2, .int v2)] [] (WC cy a V J K X) := by
  unfold f_X3_hangingThings_j28 at h
  obtain ⟨a6, h8, h⟩ := op_bind h
  have e8 := Option.some.inj h8
  refine r_iinc (lv2 := [(2, .int a6), (0, .ref (a 3)), (1, .int v1)]) C0 dX3_hangingThings_28 2 rfl ki_1 e8 (Nat.le_of_ble_eq_true rfl) rfl ?_
  refine r_goto C0 4 dX3_hangingThings_31 rfl ?_
  cases h
  have hz := el_inl hz
  exact r_sub [1, 2, 0] rfl hz
theorem w_X3_hangingThings_B4 {x : Int32 × Int32} {z : ((Int32 × Int32) ⊕ (Int32))} {Γ : Gam} {cy : Nat → ClassId} {a : Nat → Nat} {V : VT} {J : JT} {K : Nat → Option Nat} {X : va_W}  (C0 : CXg Γ cX3_hangingThings 3 2 RX3 cy) (hD : DC Γ cy a X) (h : f_X3_hangingThings_B4 V x = some z) (hz : (Sum.elim (fun x : Int32 × Int32 => Wp Γ 0 0 4 [(0, .ref (a 3)), (1, .int x.1), (2, .int x.2)] [] (WC cy a V J K X)) (fun y : Int32 => FinI Γ cX3_hangingThings (WC cy a V J K X) y)) z) : Wp Γ 0 0 4 [(0, .ref (a 3)), (1, .int x.1), (2, .int x.2)] [] (WC cy a V J K X) := by
  unfold f_X3_hangingThings_B4 at h
  refine r_iload_n C0 dX3_hangingThings_4 rfl 2 rfl ?_
  refine r_aload_n C0 dX3_hangingThings_5 rfl 0 rfl ?_
  refine wcg_3_7 C0 tf_X3_39 dX3_hangingThings_6 ?_
  refine r_iconst C0 dX3_hangingThings_9 ki_0 ?_
  refine r_iconst C0 dX3_hangingThings_10 ki_1 ?_
  refine callV2 C0 h (hD _ _ _) mw_X7_get (rv_t tb_17) tm_X3_42 (fun y hy => c_X7_get tb_17 hy) (Nat.le_of_ble_eq_true rfl) (Nat.le_of_ble_eq_true rfl) dX3_hangingThings_11 (fun r3 h => ?_)
  refine r_icmp_ge C0 34 dX3_hangingThings_14 rfl h (fun _ h => ?_) (fun _ h => ?_)
  · obtain ⟨y4, h5, h9⟩ := op_bind h
    clear h
    cases h9
    have hz := (el_inr hz)
    have h := h5
    refine r_iload_n C0 dX3_hangingThings_34 rfl 1 rfl ?_
    cases h
    exact hz _ _ dX3_hangingThings_35
  · refine r_aload_n C0 dX3_hangingThings_17 rfl 0 rfl ?_
    refine r_iload_n C0 dX3_hangingThings_18 rfl 2 rfl ?_
    refine callV1 C0 h (hD _ _ _) mw_X3_hangs rv_3 tm_X3_75 (fun y hy => c_X3_hangs hy) (Nat.le_of_ble_eq_true rfl) (Nat.le_of_ble_eq_true rfl) dX3_hangingThings_19 (fun r5 h => ?_)
    refine r_if_eq C0 28 dX3_hangingThings_22 rfl h (fun _ h => ?_) (fun _ h => ?_)
    · exact r_sub [0, 1, 2] rfl (w_X3_hangingThings_j28 C0 hD h hz)
    · obtain ⟨a7, h8, h⟩ := op_bind h
      have e8 := Option.some.inj h8
      refine r_iinc (lv2 := [(1, .int a7), (0, .ref (a 3)), (2, .int x.2)]) C0 dX3_hangingThings_25 1 rfl ki_1 e8 (Nat.le_of_ble_eq_true rfl) rfl ?_
      exact r_sub [1, 0, 2] rfl (w_X3_hangingThings_j28 C0 hD h hz)
theorem w_X3_hangingThings_B4_lp {x : Int32 × Int32} {z : (Int32)} {Γ : Gam} {cy : Nat → ClassId} {a : Nat → Nat} {V : VT} {J : JT} {K : Nat → Option Nat} {X : va_W}  (C0 : CXg Γ cX3_hangingThings 3 2 RX3 cy) (hD : DC Γ cy a X) (h : lp (f_X3_hangingThings_B4 V) fuel x = some z) (hz : (fun y : Int32 => FinI Γ cX3_hangingThings (WC cy a V J K X) y) z) : Wp Γ 0 0 4 [(0, .ref (a 3)), (1, .int x.1), (2, .int x.2)] [] (WC cy a V J K X) :=
  lp_rule (hd := (fun x : Int32 × Int32 => Wp Γ 0 0 4 [(0, .ref (a 3)), (1, .int x.1), (2, .int x.2)] [] (WC cy a V J K X))) (C := (fun y : Int32 => FinI Γ cX3_hangingThings (WC cy a V J K X) y)) (fun x z h hz => w_X3_hangingThings_B4 C0 hD h hz) _ _ _ h hz
theorem w_X3_hangingThings {z : Int32} {Γ : Gam} {cy : Nat → ClassId} {a : Nat → Nat} {V : VT} {J : JT} {K : Nat → Option Nat} {X : va_W}  (C0 : CXg Γ cX3_hangingThings 3 2 RX3 cy) (hD : DC Γ cy a X) (h : f_X3_hangingThings V = some z) (hz : (fun y : Int32 => FinI Γ cX3_hangingThings (WC cy a V J K X) y) z) : Wp Γ 0 0 0 [(0, .ref (a 3))] [] (WC cy a V J K X) := by
  unfold f_X3_hangingThings at h
  refine r_iconst C0 dX3_hangingThings_0 ki_0 ?_
  obtain ⟨a1, h8, h⟩ := op_bind h
  have e8 := Option.some.inj h8
  refine r_istore_n (lv2 := [(1, .int a1), (0, .ref (a 3))]) C0 dX3_hangingThings_1 rfl e8 (Nat.le_of_ble_eq_true rfl) rfl ?_
  refine r_iconst C0 dX3_hangingThings_2 ki_0 ?_
  obtain ⟨a2, h8, h⟩ := op_bind h
  have e8 := Option.some.inj h8
  refine r_istore_n (lv2 := [(2, .int a2), (1, .int a1), (0, .ref (a 3))]) C0 dX3_hangingThings_3 rfl e8 (Nat.le_of_ble_eq_true rfl) rfl ?_
  exact r_sub [2, 1, 0] rfl (w_X3_hangingThings_B4_lp C0 hD h hz)
theorem c_X3_hangingThings {l : Launch} {D : va_G} {cy : Nat → ClassId} {a : Nat → Nat} {V : VT} {J : JT} {K : Nat → Option Nat} {X : va_W} {y : Int32} (h : f_X3_hangingThings V = some y) : CT l D cy yX3_hangingThings cX3_hangingThings 3 (some .int) 2 [.ref (a 3)] (WC cy a V J K X) (WC cy a V J K X) (some (.int y)) :=
  mkI (by decide) (Nat.le_of_ble_eq_true rfl) (fun Γ _ _ C0 hD hF => w_X3_hangingThings C0 (dc_of hD) h hF)
theorem dX4_open_0 : decode cX4_open 0 = .ok (.aload_n 0, 1) := by decide +kernel
theorem dX4_open_1 : decode cX4_open 1 = .ok (.dup, 1) := by decide +kernel
theorem dX4_open_2 : decode cX4_open 2 = .ok (.getfield 34, 3) := by decide +kernel
theorem dX4_open_5 : decode cX4_open 5 = .ok (.iconst 1, 1) := by decide +kernel
theorem dX4_open_6 : decode cX4_open 6 = .ok (.iadd, 1) := by decide +kernel
theorem dX4_open_7 : decode cX4_open 7 = .ok (.putfield 34, 3) := by decide +kernel
theorem dX4_open_10 : decode cX4_open 10 = .ok (.aload_n 0, 1) := by decide +kernel
theorem dX4_open_11 : decode cX4_open 11 = .ok (.iconst 0, 1) := by decide +kernel
theorem dX4_open_12 : decode cX4_open 12 = .ok (.putfield 37, 3) := by decide +kernel
theorem dX4_open_15 : decode cX4_open 15 = .ok (.return_, 1) := by decide +kernel
theorem w_X4_open {z : VT} {Γ : Gam} {cy : Nat → ClassId} {a : Nat → Nat} {V : VT} {J : JT} {K : Nat → Option Nat} {X : va_W}  (C0 : CXg Γ cX4_open 1 0 RX4 cy) (hD : DC Γ cy a X) (h : f_X4_open V = some z) (hz : (fun y : VT => FinV Γ cX4_open (WC cy a y J K X)) z) : Wp Γ 0 0 0 [(0, .ref (a 1))] [] (WC cy a V J K X) := by
  unfold f_X4_open at h
  refine r_aload_n C0 dX4_open_0 rfl 0 rfl ?_
  refine r_dup C0 dX4_open_1 rfl ?_
  refine wcg_1_6 C0 tf_X4_34 dX4_open_2 ?_
  refine r_iconst C0 dX4_open_5 ki_1 ?_
  refine r_iadd C0 dX4_open_6 ?_
  refine wcp_1_6 C0 hD tf_X4_34 dX4_open_7 ?_
  refine r_aload_n C0 dX4_open_10 rfl 0 rfl ?_
  refine r_iconst C0 dX4_open_11 ki_0 ?_
  refine wcp_1_7 C0 hD tf_X4_37 dX4_open_12 ?_
  cases h
  exact hz _ _ dX4_open_15
theorem c_X4_open {l : Launch} {D : va_G} {cy : Nat → ClassId} {a : Nat → Nat} {V : VT} {J : JT} {K : Nat → Option Nat} {X : va_W} {y : VT} (h : f_X4_open V = some y) : CT l D cy yX4_open cX4_open 1 none 0 [.ref (a 1)] (WC cy a V J K X) (WC cy a y J K X) none :=
  mkV (by decide) (Nat.le_of_ble_eq_true rfl) (fun Γ _ _ C0 hD hF => w_X4_open C0 (dc_of hD) h hF)
theorem dX4_restore_0 : decode cX4_restore 0 = .ok (.iconst 0, 1) := by decide +kernel
theorem dX4_restore_1 : decode cX4_restore 1 = .ok (.istore 4, 2) := by decide +kernel
theorem dX4_restore_3 : decode cX4_restore 3 = .ok (.iload 4, 2) := by decide +kernel
theorem dX4_restore_5 : decode cX4_restore 5 = .ok (.iload_n 3, 1) := by decide +kernel
theorem dX4_restore_6 : decode cX4_restore 6 = .ok (.if_icmp .ge 55, 3) := by decide +kernel
theorem dX4_restore_9 : decode cX4_restore 9 = .ok (.iload 4, 2) := by decide +kernel
theorem dX4_restore_11 : decode cX4_restore 11 = .ok (.aload_n 1, 1) := by decide +kernel
theorem dX4_restore_12 : decode cX4_restore 12 = .ok (.arraylength, 1) := by decide +kernel
theorem dX4_restore_13 : decode cX4_restore 13 = .ok (.if_icmp .ge 48, 3) := by decide +kernel
theorem dX4_restore_16 : decode cX4_restore 16 = .ok (.iload 4, 2) := by decide +kernel
theorem dX4_restore_18 : decode cX4_restore 18 = .ok (.aload_n 2, 1) := by decide +kernel
theorem dX4_restore_19 : decode cX4_restore 19 = .ok (.arraylength, 1) := by decide +kernel
theorem dX4_restore_20 : decode cX4_restore 20 = .ok (.if_icmp .ge 41, 3) := by decide +kernel
theorem dX4_restore_23 : decode cX4_restore 23 = .ok (.aload_n 1, 1) := by decide +kernel
theorem dX4_restore_24 : decode cX4_restore 24 = .ok (.iload 4, 2) := by decide +kernel
theorem dX4_restore_26 : decode cX4_restore 26 = .ok (.iaload, 1) := by decide +kernel
theorem dX4_restore_27 : decode cX4_restore 27 = .ok (.istore 5, 2) := by decide +kernel
theorem dX4_restore_29 : decode cX4_restore 29 = .ok (.iload 5, 2) := by decide +kernel
theorem dX4_restore_31 : decode cX4_restore 31 = .ok (.ifCond .lt 24, 3) := by decide +kernel
theorem dX4_restore_34 : decode cX4_restore 34 = .ok (.iload 5, 2) := by decide +kernel
theorem dX4_restore_36 : decode cX4_restore 36 = .ok (.aload_n 0, 1) := by decide +kernel
theorem dX4_restore_37 : decode cX4_restore 37 = .ok (.getfield 9, 3) := by decide +kernel
theorem dX4_restore_40 : decode cX4_restore 40 = .ok (.arraylength, 1) := by decide +kernel
theorem dX4_restore_41 : decode cX4_restore 41 = .ok (.if_icmp .ge 14, 3) := by decide +kernel
theorem dX4_restore_44 : decode cX4_restore 44 = .ok (.aload_n 0, 1) := by decide +kernel
theorem dX4_restore_45 : decode cX4_restore 45 = .ok (.getfield 9, 3) := by decide +kernel
theorem dX4_restore_48 : decode cX4_restore 48 = .ok (.iload 5, 2) := by decide +kernel
theorem dX4_restore_50 : decode cX4_restore 50 = .ok (.aload_n 2, 1) := by decide +kernel
theorem dX4_restore_51 : decode cX4_restore 51 = .ok (.iload 4, 2) := by decide +kernel
theorem dX4_restore_53 : decode cX4_restore 53 = .ok (.iaload, 1) := by decide +kernel
theorem dX4_restore_54 : decode cX4_restore 54 = .ok (.iastore, 1) := by decide +kernel
theorem dX4_restore_55 : decode cX4_restore 55 = .ok (.iinc 4 1, 3) := by decide +kernel
theorem dX4_restore_58 : decode cX4_restore 58 = .ok (.goto (-55), 3) := by decide +kernel
theorem dX4_restore_61 : decode cX4_restore 61 = .ok (.return_, 1) := by decide +kernel
theorem w_X4_restore_n_j55 {z : ((Int32 × VT) ⊕ (VT))} {Γ : Gam} {cy : Nat → ClassId} {a : Nat → Nat} {V : VT} {J : JT} {K : Nat → Option Nat} {X : va_W} {v3 : Int32} {v4 : Int32}  (C0 : CXg Γ cX4_restore 6 0 RX4 cy) (hD : DC Γ cy a X) (h : f_X4_restore_n_j55 v3 v4 V = some z) (hz : (Sum.elim (fun x : Int32 × VT => Wp Γ 0 0 3 [(0, .ref (a 1)), (1, .ref (a 20)), (2, .ref (a 21)), (3, .int v3), (4, .int x.1)] [] (WC cy a x.2 J K X)) (fun y : VT => FinV Γ cX4_restore (WC cy a y J K X))) z) : Wp Γ 0 0 55 [(0, .ref (a 1)), (1, .ref (a 20)), (2, .ref (a 21)), (3, .int v3), (4, .int v4)] [] (WC cy a V J K X) := by
  unfold f_X4_restore_n_j55 at h
  obtain ⟨a7, h8, h⟩ := op_bind h
  have e8 := Option.some.inj h8
  refine r_iinc (lv2 := [(4, .int a7), (0, .ref (a 1)), (1, .ref (a 20)), (2, .ref (a 21)), (3, .int v3)]) C0 dX4_restore_55 4 rfl ki_1 e8 (Nat.le_of_ble_eq_true rfl) rfl ?_
  refine r_goto C0 3 dX4_restore_58 rfl ?_
  cases h
  have hz := el_inl hz
  exact r_sub [1, 2, 3, 4, 0] rfl hz
theorem w_X4_restore_n_B3 {x : Int32 × VT} {z : ((Int32 × VT) ⊕ (VT))} {Γ : Gam} {cy : Nat → ClassId} {a : Nat → Nat} {J : JT} {K : Nat → Option Nat} {X : va_W} {v3 : Int32}  (C0 : CXg Γ cX4_restore 6 0 RX4 cy) (hD : DC Γ cy a X) (h : f_X4_restore_n_B3 v3 x = some z) (hz : (Sum.elim (fun x : Int32 × VT => Wp Γ 0 0 3 [(0, .ref (a 1)), (1, .ref (a 20)), (2, .ref (a 21)), (3, .int v3), (4, .int x.1)] [] (WC cy a x.2 J K X)) (fun y : VT => FinV Γ cX4_restore (WC cy a y J K X))) z) : Wp Γ 0 0 3 [(0, .ref (a 1)), (1, .ref (a 20)), (2, .ref (a 21)), (3, .int v3), (4, .int x.1)] [] (WC cy a x.2 J K X) := by
  unfold f_X4_restore_n_B3 at h
  refine r_iload C0 dX4_restore_3 4 rfl ?_
  refine r_iload_n C0 dX4_restore_5 rfl 3 rfl ?_
  refine r_icmp_ge C0 61 dX4_restore_6 rfl h (fun _ h => ?_) (fun _ h => ?_)
  · obtain ⟨y2, h5, h9⟩ := op_bind h
    clear h
    cases h9
    have hz := (el_inr hz)
    have h := h5
    cases h
    exact hz _ _ dX4_restore_61
  · refine r_iload C0 dX4_restore_9 4 rfl ?_
    refine r_aload_n C0 dX4_restore_11 rfl 1 rfl ?_
    refine wcln_20 C0 dX4_restore_12 ?_
    refine r_icmp_ge C0 61 dX4_restore_13 rfl h (fun _ h => ?_) (fun _ h => ?_)
    · obtain ⟨y3, h5, h9⟩ := op_bind h
      clear h
      cases h9
      have hz := (el_inr hz)
      have h := h5
      cases h
      exact hz _ _ dX4_restore_61
    · refine r_iload C0 dX4_restore_16 4 rfl ?_
      refine r_aload_n C0 dX4_restore_18 rfl 2 rfl ?_
      refine wcln_21 C0 dX4_restore_19 ?_
      refine r_icmp_ge C0 61 dX4_restore_20 rfl h (fun _ h => ?_) (fun _ h => ?_)
      · obtain ⟨y4, h5, h9⟩ := op_bind h
        clear h
        cases h9
        have hz := (el_inr hz)
        have h := h5
        cases h
        exact hz _ _ dX4_restore_61
      · refine r_aload_n C0 dX4_restore_23 rfl 1 rfl ?_
        refine r_iload C0 dX4_restore_24 4 rfl ?_
        refine wcal_20 C0 h dX4_restore_26 (fun k5 h => ?_)
        obtain ⟨a6, h8, h⟩ := op_bind h
        have e8 := Option.some.inj h8
        refine r_istore (lv2 := [(5, .int a6), (0, .ref (a 1)), (1, .ref (a 20)), (2, .ref (a 21)), (3, .int v3), (4, .int x.1)]) C0 dX4_restore_27 e8 (Nat.le_of_ble_eq_true rfl) rfl ?_
        refine r_iload C0 dX4_restore_29 0 rfl ?_
        refine r_if_lt C0 55 dX4_restore_31 rfl h (fun _ h => ?_) (fun _ h => ?_)
        · exact r_sub [1, 2, 3, 4, 5] rfl (w_X4_restore_n_j55 C0 hD h hz)
        · refine r_iload C0 dX4_restore_34 0 rfl ?_
          refine r_aload_n C0 dX4_restore_36 rfl 1 rfl ?_
          refine wcg_1_0 C0 tf_X4_9 dX4_restore_37 ?_
          refine wcln_18 C0 dX4_restore_40 ?_
          refine r_icmp_ge C0 55 dX4_restore_41 rfl h (fun _ h => ?_) (fun _ h => ?_)
          · exact r_sub [1, 2, 3, 4, 5] rfl (w_X4_restore_n_j55 C0 hD h hz)
          · refine r_aload_n C0 dX4_restore_44 rfl 1 rfl ?_
            refine wcg_1_0 C0 tf_X4_9 dX4_restore_45 ?_
            refine r_iload C0 dX4_restore_48 0 rfl ?_
            refine r_aload_n C0 dX4_restore_50 rfl 3 rfl ?_
            refine r_iload C0 dX4_restore_51 5 rfl ?_
            refine wcal_21 C0 h dX4_restore_53 (fun k8 h => ?_)
            refine wcas_18 C0 hD h dX4_restore_54 (fun k9 h => ?_)
            exact r_sub [1, 2, 3, 4, 5] rfl (w_X4_restore_n_j55 C0 hD h hz)
theorem w_X4_restore_n_B3_lp {x : Int32 × VT} {z : (VT)} {Γ : Gam} {cy : Nat → ClassId} {a : Nat → Nat} {J : JT} {K : Nat → Option Nat} {X : va_W} {v3 : Int32}  (C0 : CXg Γ cX4_restore 6 0 RX4 cy) (hD : DC Γ cy a X) (h : lp (f_X4_restore_n_B3 v3) fuel x = some z) (hz : (fun y : VT => FinV Γ cX4_restore (WC cy a y J K X)) z) : Wp Γ 0 0 3 [(0, .ref (a 1)), (1, .ref (a 20)), (2, .ref (a 21)), (3, .int v3), (4, .int x.1)] [] (WC cy a x.2 J K X) :=
  lp_rule (hd := (fun x : Int32 × VT => Wp Γ 0 0 3 [(0, .ref (a 1)), (1, .ref (a 20)), (2, .ref (a 21)), (3, .int v3), (4, .int x.1)] [] (WC cy a x.2 J K X))) (C := (fun y : VT => FinV Γ cX4_restore (WC cy a y J K X))) (fun x z h hz => w_X4_restore_n_B3 C0 hD h hz) _ _ _ h hz
theorem w_X4_restore_n {z : VT} {Γ : Gam} {cy : Nat → ClassId} {a : Nat → Nat} {V : VT} {J : JT} {K : Nat → Option Nat} {X : va_W} {v3 : Int32}  (C0 : CXg Γ cX4_restore 6 0 RX4 cy) (hD : DC Γ cy a X) (h : f_X4_restore_n v3 V = some z) (hz : (fun y : VT => FinV Γ cX4_restore (WC cy a y J K X)) z) : Wp Γ 0 0 0 [(0, .ref (a 1)), (1, .ref (a 20)), (2, .ref (a 21)), (3, .int v3)] [] (WC cy a V J K X) := by
  unfold f_X4_restore_n at h
  refine r_iconst C0 dX4_restore_0 ki_0 ?_
  obtain ⟨a1, h8, h⟩ := op_bind h
  have e8 := Option.some.inj h8
  refine r_istore (lv2 := [(4, .int a1), (0, .ref (a 1)), (1, .ref (a 20)), (2, .ref (a 21)), (3, .int v3)]) C0 dX4_restore_1 e8 (Nat.le_of_ble_eq_true rfl) rfl ?_
  exact r_sub [1, 2, 3, 4, 0] rfl (w_X4_restore_n_B3_lp C0 hD h hz)
theorem c_X4_restore_n {l : Launch} {D : va_G} {cy : Nat → ClassId} {a : Nat → Nat} {V : VT} {J : JT} {K : Nat → Option Nat} {X : va_W} {v3 : Int32} {y : VT} (h : f_X4_restore_n v3 V = some y) : CT l D cy yX4_restore cX4_restore 6 none 0 [.ref (a 1), .ref (a 20), .ref (a 21), .int v3] (WC cy a V J K X) (WC cy a y J K X) none :=
  mkV (by decide) (Nat.le_of_ble_eq_true rfl) (fun Γ _ _ C0 hD hF => w_X4_restore_n C0 (dc_of hD) h hF)
theorem dX4_rollBack_0 : decode cX4_rollBack 0 = .ok (.aload_n 0, 1) := by decide +kernel
theorem dX4_rollBack_1 : decode cX4_rollBack 1 = .ok (.aload_n 0, 1) := by decide +kernel
theorem dX4_rollBack_2 : decode cX4_rollBack 2 = .ok (.getfield 18, 3) := by decide +kernel
theorem dX4_rollBack_5 : decode cX4_rollBack 5 = .ok (.aload_n 0, 1) := by decide +kernel
theorem dX4_rollBack_6 : decode cX4_rollBack 6 = .ok (.getfield 21, 3) := by decide +kernel
theorem dX4_rollBack_9 : decode cX4_rollBack 9 = .ok (.aload_n 0, 1) := by decide +kernel
theorem dX4_rollBack_10 : decode cX4_rollBack 10 = .ok (.getfield 37, 3) := by decide +kernel
theorem dX4_rollBack_13 : decode cX4_rollBack 13 = .ok (.invokevirtual 51, 3) := by decide +kernel
theorem dX4_rollBack_16 : decode cX4_rollBack 16 = .ok (.aload_n 0, 1) := by decide +kernel
theorem dX4_rollBack_17 : decode cX4_rollBack 17 = .ok (.invokevirtual 55, 3) := by decide +kernel
theorem dX4_rollBack_20 : decode cX4_rollBack 20 = .ok (.return_, 1) := by decide +kernel
theorem w_X4_rollBack {z : VT} {Γ : Gam} {cy : Nat → ClassId} {a : Nat → Nat} {V : VT} {J : JT} {K : Nat → Option Nat} {X : va_W}  (C0 : CXg Γ cX4_rollBack 1 1 RX4 cy) (hD : DC Γ cy a X) (h : f_X4_rollBack V = some z) (hz : (fun y : VT => FinV Γ cX4_rollBack (WC cy a y J K X)) z) : Wp Γ 0 0 0 [(0, .ref (a 1))] [] (WC cy a V J K X) := by
  unfold f_X4_rollBack at h
  refine r_aload_n C0 dX4_rollBack_0 rfl 0 rfl ?_
  refine r_aload_n C0 dX4_rollBack_1 rfl 0 rfl ?_
  refine wcg_1_2 C0 tf_X4_18 dX4_rollBack_2 ?_
  refine r_aload_n C0 dX4_rollBack_5 rfl 0 rfl ?_
  refine wcg_1_3 C0 tf_X4_21 dX4_rollBack_6 ?_
  refine r_aload_n C0 dX4_rollBack_9 rfl 0 rfl ?_
  refine wcg_1_7 C0 tf_X4_37 dX4_rollBack_10 ?_
  refine callVv3 C0 h (hD _ _ _) mw_X4_restore rv_1 tm_X4_51 (fun y hy => c_X4_restore_n hy) (Nat.le_of_ble_eq_true rfl) (Nat.le_of_ble_eq_true rfl) dX4_rollBack_13 (fun r1 h => ?_)
  refine r_aload_n C0 dX4_rollBack_16 rfl 0 rfl ?_
  refine callVv0 C0 h (hD _ _ _) mw_X4_open rv_1 tm_X4_55 (fun y hy => c_X4_open hy) (Nat.le_of_ble_eq_true rfl) (Nat.le_of_ble_eq_true rfl) dX4_rollBack_17 (fun r2 h => ?_)
  cases h
  exact hz _ _ dX4_rollBack_20
theorem c_X4_rollBack {l : Launch} {D : va_G} {cy : Nat → ClassId} {a : Nat → Nat} {V : VT} {J : JT} {K : Nat → Option Nat} {X : va_W} {y : VT} (h : f_X4_rollBack V = some y) : CT l D cy yX4_rollBack cX4_rollBack 1 none 1 [.ref (a 1)] (WC cy a V J K X) (WC cy a y J K X) none :=
  mkV (by decide) (Nat.le_of_ble_eq_true rfl) (fun Γ _ _ C0 hD hF => w_X4_rollBack C0 (dc_of hD) h hF)
theorem dX4_keptActs_0 : decode cX4_keptActs 0 = .ok (.aload_n 0, 1) := by decide +kernel
theorem dX4_keptActs_1 : decode cX4_keptActs 1 = .ok (.getfield 43, 3) := by decide +kernel
theorem dX4_keptActs_4 : decode cX4_keptActs 4 = .ok (.ireturn, 1) := by decide +kernel
theorem w_X4_keptActs {z : Int32} {Γ : Gam} {cy : Nat → ClassId} {a : Nat → Nat} {V : VT} {J : JT} {K : Nat → Option Nat} {X : va_W}  (C0 : CXg Γ cX4_keptActs 1 0 RX4 cy) (hD : DC Γ cy a X) (h : f_X4_keptActs V = some z) (hz : (fun y : Int32 => FinI Γ cX4_keptActs (WC cy a V J K X) y) z) : Wp Γ 0 0 0 [(0, .ref (a 1))] [] (WC cy a V J K X) := by
  unfold f_X4_keptActs at h
  refine r_aload_n C0 dX4_keptActs_0 rfl 0 rfl ?_
  refine wcg_1_9 C0 tf_X4_43 dX4_keptActs_1 ?_
  cases h
  exact hz _ _ dX4_keptActs_4
theorem c_X4_keptActs {l : Launch} {D : va_G} {cy : Nat → ClassId} {a : Nat → Nat} {V : VT} {J : JT} {K : Nat → Option Nat} {X : va_W} {y : Int32} (h : f_X4_keptActs V = some y) : CT l D cy yX4_keptActs cX4_keptActs 1 (some .int) 0 [.ref (a 1)] (WC cy a V J K X) (WC cy a V J K X) (some (.int y)) :=
  mkI (by decide) (Nat.le_of_ble_eq_true rfl) (fun Γ _ _ C0 hD hF => w_X4_keptActs C0 (dc_of hD) h hF)
theorem dX6_rigBar_0 : decode cX6_rigBar 0 = .ok (.aload_n 0, 1) := by decide +kernel
theorem dX6_rigBar_1 : decode cX6_rigBar 1 = .ok (.getfield 9, 3) := by decide +kernel
theorem dX6_rigBar_4 : decode cX6_rigBar 4 = .ok (.iload_n 1, 1) := by decide +kernel
theorem dX6_rigBar_5 : decode cX6_rigBar 5 = .ok (.invokevirtual 19, 3) := by decide +kernel
theorem dX6_rigBar_8 : decode cX6_rigBar 8 = .ok (.ifCond .ne 12, 3) := by decide +kernel
theorem dX6_rigBar_11 : decode cX6_rigBar 11 = .ok (.aload_n 0, 1) := by decide +kernel
theorem dX6_rigBar_12 : decode cX6_rigBar 12 = .ok (.getfield 15, 3) := by decide +kernel
theorem dX6_rigBar_15 : decode cX6_rigBar 15 = .ok (.iconst 2, 1) := by decide +kernel
theorem dX6_rigBar_16 : decode cX6_rigBar 16 = .ok (.invokevirtual 25, 3) := by decide +kernel
theorem dX6_rigBar_19 : decode cX6_rigBar 19 = .ok (.ireturn, 1) := by decide +kernel
theorem dX6_rigBar_20 : decode cX6_rigBar 20 = .ok (.aload_n 0, 1) := by decide +kernel
theorem dX6_rigBar_21 : decode cX6_rigBar 21 = .ok (.getfield 9, 3) := by decide +kernel
theorem dX6_rigBar_24 : decode cX6_rigBar 24 = .ok (.iload_n 1, 1) := by decide +kernel
theorem dX6_rigBar_25 : decode cX6_rigBar 25 = .ok (.invokevirtual 31, 3) := by decide +kernel
theorem dX6_rigBar_28 : decode cX6_rigBar 28 = .ok (.ifCond .eq 13, 3) := by decide +kernel
theorem dX6_rigBar_31 : decode cX6_rigBar 31 = .ok (.aload_n 0, 1) := by decide +kernel
theorem dX6_rigBar_32 : decode cX6_rigBar 32 = .ok (.getfield 15, 3) := by decide +kernel
theorem dX6_rigBar_35 : decode cX6_rigBar 35 = .ok (.bipush 8, 2) := by decide +kernel
theorem dX6_rigBar_37 : decode cX6_rigBar 37 = .ok (.invokevirtual 25, 3) := by decide +kernel
theorem dX6_rigBar_40 : decode cX6_rigBar 40 = .ok (.ireturn, 1) := by decide +kernel
theorem dX6_rigBar_41 : decode cX6_rigBar 41 = .ok (.iload_n 2, 1) := by decide +kernel
theorem dX6_rigBar_42 : decode cX6_rigBar 42 = .ok (.ifCond .ge 12, 3) := by decide +kernel
theorem dX6_rigBar_45 : decode cX6_rigBar 45 = .ok (.aload_n 0, 1) := by decide +kernel
theorem dX6_rigBar_46 : decode cX6_rigBar 46 = .ok (.getfield 15, 3) := by decide +kernel
theorem dX6_rigBar_49 : decode cX6_rigBar 49 = .ok (.iconst 3, 1) := by decide +kernel
theorem dX6_rigBar_50 : decode cX6_rigBar 50 = .ok (.invokevirtual 25, 3) := by decide +kernel
theorem dX6_rigBar_53 : decode cX6_rigBar 53 = .ok (.ireturn, 1) := by decide +kernel
theorem dX6_rigBar_54 : decode cX6_rigBar 54 = .ok (.iload_n 2, 1) := by decide +kernel
theorem dX6_rigBar_55 : decode cX6_rigBar 55 = .ok (.iconst 2, 1) := by decide +kernel
theorem dX6_rigBar_56 : decode cX6_rigBar 56 = .ok (.if_icmp .lt 20, 3) := by decide +kernel
theorem dX6_rigBar_59 : decode cX6_rigBar 59 = .ok (.iload_n 2, 1) := by decide +kernel
theorem dX6_rigBar_60 : decode cX6_rigBar 60 = .ok (.bipush 16, 2) := by decide +kernel
theorem dX6_rigBar_62 : decode cX6_rigBar 62 = .ok (.if_icmp .gt 14, 3) := by decide +kernel
theorem dX6_rigBar_65 : decode cX6_rigBar 65 = .ok (.iload_n 3, 1) := by decide +kernel
theorem dX6_rigBar_66 : decode cX6_rigBar 66 = .ok (.iconst 1, 1) := by decide +kernel
theorem dX6_rigBar_67 : decode cX6_rigBar 67 = .ok (.if_icmp .lt 9, 3) := by decide +kernel
theorem dX6_rigBar_70 : decode cX6_rigBar 70 = .ok (.iload_n 3, 1) := by decide +kernel
theorem dX6_rigBar_71 : decode cX6_rigBar 71 = .ok (.bipush 30, 2) := by decide +kernel
theorem dX6_rigBar_73 : decode cX6_rigBar 73 = .ok (.if_icmp .le 13, 3) := by decide +kernel
theorem dX6_rigBar_76 : decode cX6_rigBar 76 = .ok (.aload_n 0, 1) := by decide +kernel
theorem dX6_rigBar_77 : decode cX6_rigBar 77 = .ok (.getfield 15, 3) := by decide +kernel
theorem dX6_rigBar_80 : decode cX6_rigBar 80 = .ok (.bipush 7, 2) := by decide +kernel
theorem dX6_rigBar_82 : decode cX6_rigBar 82 = .ok (.invokevirtual 25, 3) := by decide +kernel
theorem dX6_rigBar_85 : decode cX6_rigBar 85 = .ok (.ireturn, 1) := by decide +kernel
theorem dX6_rigBar_86 : decode cX6_rigBar 86 = .ok (.aload_n 0, 1) := by decide +kernel
theorem dX6_rigBar_87 : decode cX6_rigBar 87 = .ok (.getfield 9, 3) := by decide +kernel
theorem dX6_rigBar_90 : decode cX6_rigBar 90 = .ok (.getfield 34, 3) := by decide +kernel
theorem dX6_rigBar_93 : decode cX6_rigBar 93 = .ok (.iload_n 1, 1) := by decide +kernel
theorem dX6_rigBar_94 : decode cX6_rigBar 94 = .ok (.iconst 0, 1) := by decide +kernel
theorem dX6_rigBar_95 : decode cX6_rigBar 95 = .ok (.iload_n 2, 1) := by decide +kernel
theorem dX6_rigBar_96 : decode cX6_rigBar 96 = .ok (.invokevirtual 38, 3) := by decide +kernel
theorem dX6_rigBar_99 : decode cX6_rigBar 99 = .ok (.aload_n 0, 1) := by decide +kernel
theorem dX6_rigBar_100 : decode cX6_rigBar 100 = .ok (.getfield 9, 3) := by decide +kernel
theorem dX6_rigBar_103 : decode cX6_rigBar 103 = .ok (.getfield 34, 3) := by decide +kernel
theorem dX6_rigBar_106 : decode cX6_rigBar 106 = .ok (.iload_n 1, 1) := by decide +kernel
theorem dX6_rigBar_107 : decode cX6_rigBar 107 = .ok (.iconst 1, 1) := by decide +kernel
theorem dX6_rigBar_108 : decode cX6_rigBar 108 = .ok (.iload_n 3, 1) := by decide +kernel
theorem dX6_rigBar_109 : decode cX6_rigBar 109 = .ok (.invokevirtual 38, 3) := by decide +kernel
theorem dX6_rigBar_112 : decode cX6_rigBar 112 = .ok (.iload_n 2, 1) := by decide +kernel
theorem dX6_rigBar_113 : decode cX6_rigBar 113 = .ok (.ireturn, 1) := by decide +kernel
theorem w_X6_rigBar_j76 {z : (Int32 × VT)} {Γ : Gam} {cy : Nat → ClassId} {a : Nat → Nat} {V : VT} {J : JT} {K : Nat → Option Nat} {X : va_W}  (C0 : CXg Γ cX6_rigBar 4 2 RX6 cy) (hD : DC Γ cy a X) (h : f_X6_rigBar_j76 V = some z) (hz : (fun y : Int32 × VT => FinI Γ cX6_rigBar (WC cy a y.2 J K X) y.1) z) : Wp Γ 0 0 76 [(0, .ref (a 6))] [] (WC cy a V J K X) := by
  unfold f_X6_rigBar_j76 at h
  refine r_aload_n C0 dX6_rigBar_76 rfl 0 rfl ?_
  refine wcg_6_1 C0 tf_X6_15 dX6_rigBar_77 ?_
  refine r_bipush C0 dX6_rigBar_80 kb_7 ?_
  refine callV1 C0 h (hD _ _ _) mw_X9_refuse rv_2 tm_X6_25 (fun y hy => c_X9_refuse hy) (Nat.le_of_ble_eq_true rfl) (Nat.le_of_ble_eq_true rfl) dX6_rigBar_82 (fun r3 h => ?_)
  cases h
  exact hz _ _ dX6_rigBar_85
theorem w_X6_rigBar {z : Int32 × VT} {Γ : Gam} {cy : Nat → ClassId} {a : Nat → Nat} {V : VT} {J : JT} {K : Nat → Option Nat} {X : va_W} {v1 : Int32} {v2 : Int32} {v3 : Int32}  (C0 : CXg Γ cX6_rigBar 4 2 RX6 cy) (hD : DC Γ cy a X) (h : f_X6_rigBar v1 v2 v3 V = some z) (hz : (fun y : Int32 × VT => FinI Γ cX6_rigBar (WC cy a y.2 J K X) y.1) z) : Wp Γ 0 0 0 [(0, .ref (a 6)), (1, .int v1), (2, .int v2), (3, .int v3)] [] (WC cy a V J K X) := by
  unfold f_X6_rigBar at h
  refine r_aload_n C0 dX6_rigBar_0 rfl 0 rfl ?_
  refine wcg_6_0 C0 tf_X6_9 dX6_rigBar_1 ?_
  refine r_iload_n C0 dX6_rigBar_4 rfl 1 rfl ?_
  refine callV1 C0 h (hD _ _ _) mw_X3_isBar rv_3 tm_X6_19 (fun y hy => c_X3_isBar hy) (Nat.le_of_ble_eq_true rfl) (Nat.le_of_ble_eq_true rfl) dX6_rigBar_5 (fun r1 h => ?_)
  refine r_if_ne C0 20 dX6_rigBar_8 rfl h (fun _ h => ?_) (fun _ h => ?_)
  · refine r_aload_n C0 dX6_rigBar_20 rfl 0 rfl ?_
    refine wcg_6_0 C0 tf_X6_9 dX6_rigBar_21 ?_
    refine r_iload_n C0 dX6_rigBar_24 rfl 1 rfl ?_
    refine callV1 C0 h (hD _ _ _) mw_X3_isRigged rv_3 tm_X6_31 (fun y hy => c_X3_isRigged hy) (Nat.le_of_ble_eq_true rfl) (Nat.le_of_ble_eq_true rfl) dX6_rigBar_25 (fun r2 h => ?_)
    refine r_if_eq C0 41 dX6_rigBar_28 rfl h (fun _ h => ?_) (fun _ h => ?_)
    · refine r_iload_n C0 dX6_rigBar_41 rfl 2 rfl ?_
      refine r_if_ge C0 54 dX6_rigBar_42 rfl h (fun _ h => ?_) (fun _ h => ?_)
      · refine r_iload_n C0 dX6_rigBar_54 rfl 2 rfl ?_
        refine r_iconst C0 dX6_rigBar_55 ki_2 ?_
        refine r_icmp_lt C0 76 dX6_rigBar_56 rfl h (fun _ h => ?_) (fun _ h => ?_)
        · exact r_sub [0] rfl (w_X6_rigBar_j76 C0 hD h hz)
        · refine r_iload_n C0 dX6_rigBar_59 rfl 2 rfl ?_
          refine r_bipush C0 dX6_rigBar_60 kb_16 ?_
          refine r_icmp_gt C0 76 dX6_rigBar_62 rfl h (fun _ h => ?_) (fun _ h => ?_)
          · exact r_sub [0] rfl (w_X6_rigBar_j76 C0 hD h hz)
          · refine r_iload_n C0 dX6_rigBar_65 rfl 3 rfl ?_
            refine r_iconst C0 dX6_rigBar_66 ki_1 ?_
            refine r_icmp_lt C0 76 dX6_rigBar_67 rfl h (fun _ h => ?_) (fun _ h => ?_)
            · exact r_sub [0] rfl (w_X6_rigBar_j76 C0 hD h hz)
            · refine r_iload_n C0 dX6_rigBar_70 rfl 3 rfl ?_
              refine r_bipush C0 dX6_rigBar_71 kb_30 ?_
              refine r_icmp_le C0 86 dX6_rigBar_73 rfl h (fun _ h => ?_) (fun _ h => ?_)
              · refine r_aload_n C0 dX6_rigBar_86 rfl 0 rfl ?_
                refine wcg_6_0 C0 tf_X6_9 dX6_rigBar_87 ?_
                refine wcg_3_0 C0 tf_X6_34 dX6_rigBar_90 ?_
                refine r_iload_n C0 dX6_rigBar_93 rfl 1 rfl ?_
                refine r_iconst C0 dX6_rigBar_94 ki_0 ?_
                refine r_iload_n C0 dX6_rigBar_95 rfl 2 rfl ?_
                refine callVv3 C0 h (hD _ _ _) mw_X7_set (rv_t tb_10) tm_X6_38 (fun y hy => c_X7_set tb_10 hy) (Nat.le_of_ble_eq_true rfl) (Nat.le_of_ble_eq_true rfl) dX6_rigBar_96 (fun r4 h => ?_)
                refine r_aload_n C0 dX6_rigBar_99 rfl 0 rfl ?_
                refine wcg_6_0 C0 tf_X6_9 dX6_rigBar_100 ?_
                refine wcg_3_0 C0 tf_X6_34 dX6_rigBar_103 ?_
                refine r_iload_n C0 dX6_rigBar_106 rfl 1 rfl ?_
                refine r_iconst C0 dX6_rigBar_107 ki_1 ?_
                refine r_iload_n C0 dX6_rigBar_108 rfl 3 rfl ?_
                refine callVv3 C0 h (hD _ _ _) mw_X7_set (rv_t tb_10) tm_X6_38 (fun y hy => c_X7_set tb_10 hy) (Nat.le_of_ble_eq_true rfl) (Nat.le_of_ble_eq_true rfl) dX6_rigBar_109 (fun r5 h => ?_)
                refine r_iload_n C0 dX6_rigBar_112 rfl 2 rfl ?_
                cases h
                exact hz _ _ dX6_rigBar_113
              · exact r_sub [0] rfl (w_X6_rigBar_j76 C0 hD h hz)
      · refine r_aload_n C0 dX6_rigBar_45 rfl 0 rfl ?_
        refine wcg_6_1 C0 tf_X6_15 dX6_rigBar_46 ?_
        refine r_iconst C0 dX6_rigBar_49 ki_3 ?_
        refine callV1 C0 h (hD _ _ _) mw_X9_refuse rv_2 tm_X6_25 (fun y hy => c_X9_refuse hy) (Nat.le_of_ble_eq_true rfl) (Nat.le_of_ble_eq_true rfl) dX6_rigBar_50 (fun r6 h => ?_)
        cases h
        exact hz _ _ dX6_rigBar_53
    · refine r_aload_n C0 dX6_rigBar_31 rfl 0 rfl ?_
      refine wcg_6_1 C0 tf_X6_15 dX6_rigBar_32 ?_
      refine r_bipush C0 dX6_rigBar_35 kb_8 ?_
      refine callV1 C0 h (hD _ _ _) mw_X9_refuse rv_2 tm_X6_25 (fun y hy => c_X9_refuse hy) (Nat.le_of_ble_eq_true rfl) (Nat.le_of_ble_eq_true rfl) dX6_rigBar_37 (fun r7 h => ?_)
      cases h
      exact hz _ _ dX6_rigBar_40
  · refine r_aload_n C0 dX6_rigBar_11 rfl 0 rfl ?_
    refine wcg_6_1 C0 tf_X6_15 dX6_rigBar_12 ?_
    refine r_iconst C0 dX6_rigBar_15 ki_2 ?_
    refine callV1 C0 h (hD _ _ _) mw_X9_refuse rv_2 tm_X6_25 (fun y hy => c_X9_refuse hy) (Nat.le_of_ble_eq_true rfl) (Nat.le_of_ble_eq_true rfl) dX6_rigBar_16 (fun r8 h => ?_)
    cases h
    exact hz _ _ dX6_rigBar_19
theorem c_X6_rigBar {l : Launch} {D : va_G} {cy : Nat → ClassId} {a : Nat → Nat} {V : VT} {J : JT} {K : Nat → Option Nat} {X : va_W} {v1 : Int32} {v2 : Int32} {v3 : Int32} {y : Int32 × VT} (h : f_X6_rigBar v1 v2 v3 V = some y) : CT l D cy yX6_rigBar cX6_rigBar 4 (some .int) 2 [.ref (a 6), .int v1, .int v2, .int v3] (WC cy a V J K X) (WC cy a y.2 J K X) (some (.int y.1)) :=
  mkI (by decide) (Nat.le_of_ble_eq_true rfl) (fun Γ _ _ C0 hD hF => w_X6_rigBar C0 (dc_of hD) h hF)
theorem dX6_stripBar_0 : decode cX6_stripBar 0 = .ok (.aload_n 0, 1) := by decide +kernel
theorem dX6_stripBar_1 : decode cX6_stripBar 1 = .ok (.getfield 15, 3) := by decide +kernel
theorem dX6_stripBar_4 : decode cX6_stripBar 4 = .ok (.aload_n 0, 1) := by decide +kernel
theorem dX6_stripBar_5 : decode cX6_stripBar 5 = .ok (.getfield 9, 3) := by decide +kernel
theorem dX6_stripBar_8 : decode cX6_stripBar 8 = .ok (.iload_n 1, 1) := by decide +kernel
theorem dX6_stripBar_9 : decode cX6_stripBar 9 = .ok (.invokevirtual 44, 3) := by decide +kernel
theorem dX6_stripBar_12 : decode cX6_stripBar 12 = .ok (.ifCond .eq 6, 3) := by decide +kernel
theorem dX6_stripBar_15 : decode cX6_stripBar 15 = .ok (.ldc 48, 2) := by decide +kernel
theorem dX6_stripBar_17 : decode cX6_stripBar 17 = .ok (.ireturn, 1) := by decide +kernel
theorem dX6_stripBar_18 : decode cX6_stripBar 18 = .ok (.aload_n 0, 1) := by decide +kernel
theorem dX6_stripBar_19 : decode cX6_stripBar 19 = .ok (.getfield 9, 3) := by decide +kernel
theorem dX6_stripBar_22 : decode cX6_stripBar 22 = .ok (.iload_n 1, 1) := by decide +kernel
theorem dX6_stripBar_23 : decode cX6_stripBar 23 = .ok (.invokevirtual 49, 3) := by decide +kernel
theorem dX6_stripBar_26 : decode cX6_stripBar 26 = .ok (.ifCond .eq 13, 3) := by decide +kernel
theorem dX6_stripBar_29 : decode cX6_stripBar 29 = .ok (.aload_n 0, 1) := by decide +kernel
theorem dX6_stripBar_30 : decode cX6_stripBar 30 = .ok (.getfield 15, 3) := by decide +kernel
theorem dX6_stripBar_33 : decode cX6_stripBar 33 = .ok (.bipush 10, 2) := by decide +kernel
theorem dX6_stripBar_35 : decode cX6_stripBar 35 = .ok (.invokevirtual 25, 3) := by decide +kernel
theorem dX6_stripBar_38 : decode cX6_stripBar 38 = .ok (.ireturn, 1) := by decide +kernel
theorem dX6_stripBar_39 : decode cX6_stripBar 39 = .ok (.aload_n 0, 1) := by decide +kernel
theorem dX6_stripBar_40 : decode cX6_stripBar 40 = .ok (.getfield 9, 3) := by decide +kernel
theorem dX6_stripBar_43 : decode cX6_stripBar 43 = .ok (.iload_n 1, 1) := by decide +kernel
theorem dX6_stripBar_44 : decode cX6_stripBar 44 = .ok (.invokevirtual 52, 3) := by decide +kernel
theorem dX6_stripBar_47 : decode cX6_stripBar 47 = .ok (.ifCond .eq 13, 3) := by decide +kernel
theorem dX6_stripBar_50 : decode cX6_stripBar 50 = .ok (.aload_n 0, 1) := by decide +kernel
theorem dX6_stripBar_51 : decode cX6_stripBar 51 = .ok (.getfield 15, 3) := by decide +kernel
theorem dX6_stripBar_54 : decode cX6_stripBar 54 = .ok (.bipush 18, 2) := by decide +kernel
theorem dX6_stripBar_56 : decode cX6_stripBar 56 = .ok (.invokevirtual 25, 3) := by decide +kernel
theorem dX6_stripBar_59 : decode cX6_stripBar 59 = .ok (.ireturn, 1) := by decide +kernel
theorem dX6_stripBar_60 : decode cX6_stripBar 60 = .ok (.iconst 0, 1) := by decide +kernel
theorem dX6_stripBar_61 : decode cX6_stripBar 61 = .ok (.istore_n 2, 1) := by decide +kernel
theorem dX6_stripBar_62 : decode cX6_stripBar 62 = .ok (.iload_n 2, 1) := by decide +kernel
theorem dX6_stripBar_63 : decode cX6_stripBar 63 = .ok (.bipush 16, 2) := by decide +kernel
theorem dX6_stripBar_65 : decode cX6_stripBar 65 = .ok (.if_icmp .ge 32, 3) := by decide +kernel
theorem dX6_stripBar_68 : decode cX6_stripBar 68 = .ok (.aload_n 0, 1) := by decide +kernel
theorem dX6_stripBar_69 : decode cX6_stripBar 69 = .ok (.getfield 9, 3) := by decide +kernel
theorem dX6_stripBar_72 : decode cX6_stripBar 72 = .ok (.iload_n 1, 1) := by decide +kernel
theorem dX6_stripBar_73 : decode cX6_stripBar 73 = .ok (.iload_n 2, 1) := by decide +kernel
theorem dX6_stripBar_74 : decode cX6_stripBar 74 = .ok (.invokevirtual 55, 3) := by decide +kernel
theorem dX6_stripBar_77 : decode cX6_stripBar 77 = .ok (.ifCond .ne 14, 3) := by decide +kernel
theorem dX6_stripBar_80 : decode cX6_stripBar 80 = .ok (.aload_n 0, 1) := by decide +kernel
theorem dX6_stripBar_81 : decode cX6_stripBar 81 = .ok (.getfield 15, 3) := by decide +kernel
theorem dX6_stripBar_84 : decode cX6_stripBar 84 = .ok (.bipush 16, 2) := by decide +kernel
theorem dX6_stripBar_86 : decode cX6_stripBar 86 = .ok (.iload_n 2, 1) := by decide +kernel
theorem dX6_stripBar_87 : decode cX6_stripBar 87 = .ok (.invokevirtual 59, 3) := by decide +kernel
theorem dX6_stripBar_90 : decode cX6_stripBar 90 = .ok (.ireturn, 1) := by decide +kernel
theorem dX6_stripBar_91 : decode cX6_stripBar 91 = .ok (.iinc 2 1, 3) := by decide +kernel
theorem dX6_stripBar_94 : decode cX6_stripBar 94 = .ok (.goto (-32), 3) := by decide +kernel
theorem dX6_stripBar_97 : decode cX6_stripBar 97 = .ok (.aload_n 0, 1) := by decide +kernel
theorem dX6_stripBar_98 : decode cX6_stripBar 98 = .ok (.getfield 9, 3) := by decide +kernel
theorem dX6_stripBar_101 : decode cX6_stripBar 101 = .ok (.iload_n 1, 1) := by decide +kernel
theorem dX6_stripBar_102 : decode cX6_stripBar 102 = .ok (.invokevirtual 63, 3) := by decide +kernel
theorem dX6_stripBar_105 : decode cX6_stripBar 105 = .ok (.istore_n 2, 1) := by decide +kernel
theorem dX6_stripBar_106 : decode cX6_stripBar 106 = .ok (.iconst 0, 1) := by decide +kernel
theorem dX6_stripBar_107 : decode cX6_stripBar 107 = .ok (.istore_n 3, 1) := by decide +kernel
theorem dX6_stripBar_108 : decode cX6_stripBar 108 = .ok (.iload_n 3, 1) := by decide +kernel
theorem dX6_stripBar_109 : decode cX6_stripBar 109 = .ok (.bipush 40, 2) := by decide +kernel
theorem dX6_stripBar_111 : decode cX6_stripBar 111 = .ok (.if_icmp .ge 34, 3) := by decide +kernel
theorem dX6_stripBar_114 : decode cX6_stripBar 114 = .ok (.aload_n 0, 1) := by decide +kernel
theorem dX6_stripBar_115 : decode cX6_stripBar 115 = .ok (.getfield 9, 3) := by decide +kernel
theorem dX6_stripBar_118 : decode cX6_stripBar 118 = .ok (.iload_n 3, 1) := by decide +kernel
theorem dX6_stripBar_119 : decode cX6_stripBar 119 = .ok (.iload_n 1, 1) := by decide +kernel
theorem dX6_stripBar_120 : decode cX6_stripBar 120 = .ok (.invokevirtual 66, 3) := by decide +kernel
theorem dX6_stripBar_123 : decode cX6_stripBar 123 = .ok (.ifCond .eq 16, 3) := by decide +kernel
theorem dX6_stripBar_126 : decode cX6_stripBar 126 = .ok (.aload_n 0, 1) := by decide +kernel
theorem dX6_stripBar_127 : decode cX6_stripBar 127 = .ok (.getfield 9, 3) := by decide +kernel
theorem dX6_stripBar_130 : decode cX6_stripBar 130 = .ok (.getfield 69, 3) := by decide +kernel
theorem dX6_stripBar_133 : decode cX6_stripBar 133 = .ok (.iload_n 3, 1) := by decide +kernel
theorem dX6_stripBar_134 : decode cX6_stripBar 134 = .ok (.iconst 3, 1) := by decide +kernel
theorem dX6_stripBar_135 : decode cX6_stripBar 135 = .ok (.iconst 0, 1) := by decide +kernel
theorem dX6_stripBar_136 : decode cX6_stripBar 136 = .ok (.invokevirtual 38, 3) := by decide +kernel
theorem dX6_stripBar_139 : decode cX6_stripBar 139 = .ok (.iinc 3 1, 3) := by decide +kernel
theorem dX6_stripBar_142 : decode cX6_stripBar 142 = .ok (.goto (-34), 3) := by decide +kernel
theorem dX6_stripBar_145 : decode cX6_stripBar 145 = .ok (.iconst 0, 1) := by decide +kernel
theorem dX6_stripBar_146 : decode cX6_stripBar 146 = .ok (.istore_n 3, 1) := by decide +kernel
theorem dX6_stripBar_147 : decode cX6_stripBar 147 = .ok (.iload_n 3, 1) := by decide +kernel
theorem dX6_stripBar_148 : decode cX6_stripBar 148 = .ok (.iconst 4, 1) := by decide +kernel
theorem dX6_stripBar_149 : decode cX6_stripBar 149 = .ok (.if_icmp .ge 22, 3) := by decide +kernel
theorem dX6_stripBar_152 : decode cX6_stripBar 152 = .ok (.aload_n 0, 1) := by decide +kernel
theorem dX6_stripBar_153 : decode cX6_stripBar 153 = .ok (.getfield 9, 3) := by decide +kernel
theorem dX6_stripBar_156 : decode cX6_stripBar 156 = .ok (.getfield 34, 3) := by decide +kernel
theorem dX6_stripBar_159 : decode cX6_stripBar 159 = .ok (.iload_n 1, 1) := by decide +kernel
theorem dX6_stripBar_160 : decode cX6_stripBar 160 = .ok (.iload_n 3, 1) := by decide +kernel
theorem dX6_stripBar_161 : decode cX6_stripBar 161 = .ok (.iconst 0, 1) := by decide +kernel
theorem dX6_stripBar_162 : decode cX6_stripBar 162 = .ok (.invokevirtual 38, 3) := by decide +kernel
theorem dX6_stripBar_165 : decode cX6_stripBar 165 = .ok (.iinc 3 1, 3) := by decide +kernel
theorem dX6_stripBar_168 : decode cX6_stripBar 168 = .ok (.goto (-21), 3) := by decide +kernel
theorem dX6_stripBar_171 : decode cX6_stripBar 171 = .ok (.iload_n 2, 1) := by decide +kernel
theorem dX6_stripBar_172 : decode cX6_stripBar 172 = .ok (.ireturn, 1) := by decide +kernel
theorem w_X6_stripBar_B147 {x : Int32 × VT} {z : ((Int32 × VT) ⊕ (Int32 × VT))} {Γ : Gam} {cy : Nat → ClassId} {a : Nat → Nat} {J : JT} {K : Nat → Option Nat} {X : va_W} {v1 : Int32} {v2 : Int32}  (C0 : CXg Γ cX6_stripBar 4 4 RX6 cy) (hD : DC Γ cy a X) (h : f_X6_stripBar_B147 v1 v2 x = some z) (hz : (Sum.elim (fun x : Int32 × VT => Wp Γ 0 0 147 [(0, .ref (a 6)), (1, .int v1), (2, .int v2), (3, .int x.1)] [] (WC cy a x.2 J K X)) (fun y : Int32 × VT => FinI Γ cX6_stripBar (WC cy a y.2 J K X) y.1)) z) : Wp Γ 0 0 147 [(0, .ref (a 6)), (1, .int v1), (2, .int v2), (3, .int x.1)] [] (WC cy a x.2 J K X) := by
  unfold f_X6_stripBar_B147 at h
  refine r_iload_n C0 dX6_stripBar_147 rfl 3 rfl ?_
  refine r_iconst C0 dX6_stripBar_148 ki_4 ?_
  refine r_icmp_ge C0 171 dX6_stripBar_149 rfl h (fun _ h => ?_) (fun _ h => ?_)
  · obtain ⟨y10, h5, h9⟩ := op_bind h
    clear h
    cases h9
    have hz := (el_inr hz)
    have h := h5
    refine r_iload_n C0 dX6_stripBar_171 rfl 2 rfl ?_
    cases h
    exact hz _ _ dX6_stripBar_172
  · refine r_aload_n C0 dX6_stripBar_152 rfl 0 rfl ?_
    refine wcg_6_0 C0 tf_X6_9 dX6_stripBar_153 ?_
    refine wcg_3_0 C0 tf_X6_34 dX6_stripBar_156 ?_
    refine r_iload_n C0 dX6_stripBar_159 rfl 1 rfl ?_
    refine r_iload_n C0 dX6_stripBar_160 rfl 3 rfl ?_
    refine r_iconst C0 dX6_stripBar_161 ki_0 ?_
    refine callVv3 C0 h (hD _ _ _) mw_X7_set (rv_t tb_10) tm_X6_38 (fun y hy => c_X7_set tb_10 hy) (Nat.le_of_ble_eq_true rfl) (Nat.le_of_ble_eq_true rfl) dX6_stripBar_162 (fun r11 h => ?_)
    obtain ⟨a12, h8, h⟩ := op_bind h
    have e8 := Option.some.inj h8
    refine r_iinc (lv2 := [(3, .int a12), (0, .ref (a 6)), (1, .int v1), (2, .int v2)]) C0 dX6_stripBar_165 3 rfl ki_1 e8 (Nat.le_of_ble_eq_true rfl) rfl ?_
    refine r_goto C0 147 dX6_stripBar_168 rfl ?_
    cases h
    have hz := el_inl hz
    exact r_sub [1, 2, 3, 0] rfl hz
theorem w_X6_stripBar_B147_lp {x : Int32 × VT} {z : (Int32 × VT)} {Γ : Gam} {cy : Nat → ClassId} {a : Nat → Nat} {J : JT} {K : Nat → Option Nat} {X : va_W} {v1 : Int32} {v2 : Int32}  (C0 : CXg Γ cX6_stripBar 4 4 RX6 cy) (hD : DC Γ cy a X) (h : lp (f_X6_stripBar_B147 v1 v2) fuel x = some z) (hz : (fun y : Int32 × VT => FinI Γ cX6_stripBar (WC cy a y.2 J K X) y.1) z) : Wp Γ 0 0 147 [(0, .ref (a 6)), (1, .int v1), (2, .int v2), (3, .int x.1)] [] (WC cy a x.2 J K X) :=
  lp_rule (hd := (fun x : Int32 × VT => Wp Γ 0 0 147 [(0, .ref (a 6)), (1, .int v1), (2, .int v2), (3, .int x.1)] [] (WC cy a x.2 J K X))) (C := (fun y : Int32 × VT => FinI Γ cX6_stripBar (WC cy a y.2 J K X) y.1)) (fun x z h hz => w_X6_stripBar_B147 C0 hD h hz) _ _ _ h hz
theorem w_X6_stripBar_j139 {z : ((Int32 × VT) ⊕ (Int32 × VT))} {Γ : Gam} {cy : Nat → ClassId} {a : Nat → Nat} {V : VT} {J : JT} {K : Nat → Option Nat} {X : va_W} {v1 : Int32} {v2 : Int32} {v3 : Int32}  (C0 : CXg Γ cX6_stripBar 4 4 RX6 cy) (hD : DC Γ cy a X) (h : f_X6_stripBar_j139 v1 v2 v3 V = some z) (hz : (Sum.elim (fun x : Int32 × VT => Wp Γ 0 0 108 [(0, .ref (a 6)), (1, .int v1), (2, .int v2), (3, .int x.1)] [] (WC cy a x.2 J K X)) (fun y : Int32 × VT => FinI Γ cX6_stripBar (WC cy a y.2 J K X) y.1)) z) : Wp Γ 0 0 139 [(0, .ref (a 6)), (1, .int v1), (2, .int v2), (3, .int v3)] [] (WC cy a V J K X) := by
  unfold f_X6_stripBar_j139 at h
  obtain ⟨a14, h8, h⟩ := op_bind h
  have e8 := Option.some.inj h8
  refine r_iinc (lv2 := [(3, .int a14), (0, .ref (a 6)), (1, .int v1), (2, .int v2)]) C0 dX6_stripBar_139 3 rfl ki_1 e8 (Nat.le_of_ble_eq_true rfl) rfl ?_
  refine r_goto C0 108 dX6_stripBar_142 rfl ?_
  cases h
  have hz := el_inl hz
  exact r_sub [1, 2, 3, 0] rfl hz
theorem w_X6_stripBar_B108 {x : Int32 × VT} {z : ((Int32 × VT) ⊕ (Int32 × VT))} {Γ : Gam} {cy : Nat → ClassId} {a : Nat → Nat} {J : JT} {K : Nat → Option Nat} {X : va_W} {v1 : Int32} {v2 : Int32}  (C0 : CXg Γ cX6_stripBar 4 4 RX6 cy) (hD : DC Γ cy a X) (h : f_X6_stripBar_B108 v1 v2 x = some z) (hz : (Sum.elim (fun x : Int32 × VT => Wp Γ 0 0 108 [(0, .ref (a 6)), (1, .int v1), (2, .int v2), (3, .int x.1)] [] (WC cy a x.2 J K X)) (fun y : Int32 × VT => FinI Γ cX6_stripBar (WC cy a y.2 J K X) y.1)) z) : Wp Γ 0 0 108 [(0, .ref (a 6)), (1, .int v1), (2, .int v2), (3, .int x.1)] [] (WC cy a x.2 J K X) := by
  unfold f_X6_stripBar_B108 at h
  refine r_iload_n C0 dX6_stripBar_108 rfl 3 rfl ?_
  refine r_bipush C0 dX6_stripBar_109 kb_40 ?_
  refine r_icmp_ge C0 145 dX6_stripBar_111 rfl h (fun _ h => ?_) (fun _ h => ?_)
  · obtain ⟨y8, h5, h9⟩ := op_bind h
    clear h
    cases h9
    have hz := (el_inr hz)
    have h := h5
    refine r_iconst C0 dX6_stripBar_145 ki_0 ?_
    obtain ⟨a9, h8, h⟩ := op_bind h
    have e8 := Option.some.inj h8
    refine r_istore_n (lv2 := [(3, .int a9), (0, .ref (a 6)), (1, .int v1), (2, .int v2)]) C0 dX6_stripBar_146 rfl e8 (Nat.le_of_ble_eq_true rfl) rfl ?_
    exact r_sub [1, 2, 3, 0] rfl (w_X6_stripBar_B147_lp C0 hD h hz)
  · refine r_aload_n C0 dX6_stripBar_114 rfl 0 rfl ?_
    refine wcg_6_0 C0 tf_X6_9 dX6_stripBar_115 ?_
    refine r_iload_n C0 dX6_stripBar_118 rfl 3 rfl ?_
    refine r_iload_n C0 dX6_stripBar_119 rfl 1 rfl ?_
    refine callV2 C0 h (hD _ _ _) mw_X3_holdsBar rv_3 tm_X6_66 (fun y hy => c_X3_holdsBar hy) (Nat.le_of_ble_eq_true rfl) (Nat.le_of_ble_eq_true rfl) dX6_stripBar_120 (fun r13 h => ?_)
    refine r_if_eq C0 139 dX6_stripBar_123 rfl h (fun _ h => ?_) (fun _ h => ?_)
    · exact r_sub [0, 1, 2, 3] rfl (w_X6_stripBar_j139 C0 hD h hz)
    · refine r_aload_n C0 dX6_stripBar_126 rfl 0 rfl ?_
      refine wcg_6_0 C0 tf_X6_9 dX6_stripBar_127 ?_
      refine wcg_3_2 C0 tf_X6_69 dX6_stripBar_130 ?_
      refine r_iload_n C0 dX6_stripBar_133 rfl 3 rfl ?_
      refine r_iconst C0 dX6_stripBar_134 ki_3 ?_
      refine r_iconst C0 dX6_stripBar_135 ki_0 ?_
      refine callVv3 C0 h (hD _ _ _) mw_X7_set (rv_t tb_12) tm_X6_38 (fun y hy => c_X7_set tb_12 hy) (Nat.le_of_ble_eq_true rfl) (Nat.le_of_ble_eq_true rfl) dX6_stripBar_136 (fun r15 h => ?_)
      exact r_sub [0, 1, 2, 3] rfl (w_X6_stripBar_j139 C0 hD h hz)
theorem w_X6_stripBar_B108_lp {x : Int32 × VT} {z : (Int32 × VT)} {Γ : Gam} {cy : Nat → ClassId} {a : Nat → Nat} {J : JT} {K : Nat → Option Nat} {X : va_W} {v1 : Int32} {v2 : Int32}  (C0 : CXg Γ cX6_stripBar 4 4 RX6 cy) (hD : DC Γ cy a X) (h : lp (f_X6_stripBar_B108 v1 v2) fuel x = some z) (hz : (fun y : Int32 × VT => FinI Γ cX6_stripBar (WC cy a y.2 J K X) y.1) z) : Wp Γ 0 0 108 [(0, .ref (a 6)), (1, .int v1), (2, .int v2), (3, .int x.1)] [] (WC cy a x.2 J K X) :=
  lp_rule (hd := (fun x : Int32 × VT => Wp Γ 0 0 108 [(0, .ref (a 6)), (1, .int v1), (2, .int v2), (3, .int x.1)] [] (WC cy a x.2 J K X))) (C := (fun y : Int32 × VT => FinI Γ cX6_stripBar (WC cy a y.2 J K X) y.1)) (fun x z h hz => w_X6_stripBar_B108 C0 hD h hz) _ _ _ h hz
theorem w_X6_stripBar_B62 {x : Int32} {z : ((Int32) ⊕ (Int32 × VT))} {Γ : Gam} {cy : Nat → ClassId} {a : Nat → Nat} {V : VT} {J : JT} {K : Nat → Option Nat} {X : va_W} {v1 : Int32}  (C0 : CXg Γ cX6_stripBar 4 4 RX6 cy) (hD : DC Γ cy a X) (h : f_X6_stripBar_B62 v1 V x = some z) (hz : (Sum.elim (fun x : Int32 => Wp Γ 0 0 62 [(0, .ref (a 6)), (1, .int v1), (2, .int x)] [] (WC cy a V J K X)) (fun y : Int32 × VT => FinI Γ cX6_stripBar (WC cy a y.2 J K X) y.1)) z) : Wp Γ 0 0 62 [(0, .ref (a 6)), (1, .int v1), (2, .int x)] [] (WC cy a V J K X) := by
  unfold f_X6_stripBar_B62 at h
  refine r_iload_n C0 dX6_stripBar_62 rfl 2 rfl ?_
  refine r_bipush C0 dX6_stripBar_63 kb_16 ?_
  refine r_icmp_ge C0 97 dX6_stripBar_65 rfl h (fun _ h => ?_) (fun _ h => ?_)
  · obtain ⟨y5, h5, h9⟩ := op_bind h
    clear h
    cases h9
    have hz := (el_inr hz)
    have h := h5
    refine r_aload_n C0 dX6_stripBar_97 rfl 0 rfl ?_
    refine wcg_6_0 C0 tf_X6_9 dX6_stripBar_98 ?_
    refine r_iload_n C0 dX6_stripBar_101 rfl 1 rfl ?_
    refine callV1 C0 h (hD _ _ _) mw_X3_linesOf rv_3 tm_X6_63 (fun y hy => c_X3_linesOf hy) (Nat.le_of_ble_eq_true rfl) (Nat.le_of_ble_eq_true rfl) dX6_stripBar_102 (fun r6 h => ?_)
    refine r_istore_n (lv2 := [(2, .int r6), (0, .ref (a 6)), (1, .int v1)]) C0 dX6_stripBar_105 rfl rfl (Nat.le_of_ble_eq_true rfl) rfl ?_
    refine r_iconst C0 dX6_stripBar_106 ki_0 ?_
    obtain ⟨a7, h8, h⟩ := op_bind h
    have e8 := Option.some.inj h8
    refine r_istore_n (lv2 := [(3, .int a7), (2, .int r6), (0, .ref (a 6)), (1, .int v1)]) C0 dX6_stripBar_107 rfl e8 (Nat.le_of_ble_eq_true rfl) rfl ?_
    exact r_sub [2, 3, 1, 0] rfl (w_X6_stripBar_B108_lp C0 hD h hz)
  · refine r_aload_n C0 dX6_stripBar_68 rfl 0 rfl ?_
    refine wcg_6_0 C0 tf_X6_9 dX6_stripBar_69 ?_
    refine r_iload_n C0 dX6_stripBar_72 rfl 1 rfl ?_
    refine r_iload_n C0 dX6_stripBar_73 rfl 2 rfl ?_
    refine callV2 C0 h (hD _ _ _) mw_X3_isFree rv_3 tm_X6_55 (fun y hy => c_X3_isFree hy) (Nat.le_of_ble_eq_true rfl) (Nat.le_of_ble_eq_true rfl) dX6_stripBar_74 (fun r16 h => ?_)
    refine r_if_ne C0 91 dX6_stripBar_77 rfl h (fun _ h => ?_) (fun _ h => ?_)
    · obtain ⟨a17, h8, h⟩ := op_bind h
      have e8 := Option.some.inj h8
      refine r_iinc (lv2 := [(2, .int a17), (0, .ref (a 6)), (1, .int v1)]) C0 dX6_stripBar_91 2 rfl ki_1 e8 (Nat.le_of_ble_eq_true rfl) rfl ?_
      refine r_goto C0 62 dX6_stripBar_94 rfl ?_
      cases h
      have hz := el_inl hz
      exact r_sub [1, 2, 0] rfl hz
    · obtain ⟨y18, h5, h9⟩ := op_bind h
      clear h
      cases h9
      have hz := (el_inr hz)
      have h := h5
      refine r_aload_n C0 dX6_stripBar_80 rfl 0 rfl ?_
      refine wcg_6_1 C0 tf_X6_15 dX6_stripBar_81 ?_
      refine r_bipush C0 dX6_stripBar_84 kb_16 ?_
      refine r_iload_n C0 dX6_stripBar_86 rfl 2 rfl ?_
      refine callV2 C0 h (hD _ _ _) mw_X9_refuseOver rv_2 tm_X6_59 (fun y hy => c_X9_refuseOver hy) (Nat.le_of_ble_eq_true rfl) (Nat.le_of_ble_eq_true rfl) dX6_stripBar_87 (fun r19 h => ?_)
      cases h
      exact hz _ _ dX6_stripBar_90
theorem w_X6_stripBar_B62_lp {x : Int32} {z : (Int32 × VT)} {Γ : Gam} {cy : Nat → ClassId} {a : Nat → Nat} {V : VT} {J : JT} {K : Nat → Option Nat} {X : va_W} {v1 : Int32}  (C0 : CXg Γ cX6_stripBar 4 4 RX6 cy) (hD : DC Γ cy a X) (h : lp (f_X6_stripBar_B62 v1 V) fuel x = some z) (hz : (fun y : Int32 × VT => FinI Γ cX6_stripBar (WC cy a y.2 J K X) y.1) z) : Wp Γ 0 0 62 [(0, .ref (a 6)), (1, .int v1), (2, .int x)] [] (WC cy a V J K X) :=
  lp_rule (hd := (fun x : Int32 => Wp Γ 0 0 62 [(0, .ref (a 6)), (1, .int v1), (2, .int x)] [] (WC cy a V J K X))) (C := (fun y : Int32 × VT => FinI Γ cX6_stripBar (WC cy a y.2 J K X) y.1)) (fun x z h hz => w_X6_stripBar_B62 C0 hD h hz) _ _ _ h hz
theorem w_X6_stripBar {z : Int32 × VT} {Γ : Gam} {cy : Nat → ClassId} {a : Nat → Nat} {V : VT} {J : JT} {K : Nat → Option Nat} {X : va_W} {v1 : Int32}  (C0 : CXg Γ cX6_stripBar 4 4 RX6 cy) (hD : DC Γ cy a X) (h : f_X6_stripBar v1 V = some z) (hz : (fun y : Int32 × VT => FinI Γ cX6_stripBar (WC cy a y.2 J K X) y.1) z) : Wp Γ 0 0 0 [(0, .ref (a 6)), (1, .int v1)] [] (WC cy a V J K X) := by
  unfold f_X6_stripBar at h
  refine r_aload_n C0 dX6_stripBar_0 rfl 0 rfl ?_
  refine wcg_6_1 C0 tf_X6_15 dX6_stripBar_1 ?_
  refine r_aload_n C0 dX6_stripBar_4 rfl 0 rfl ?_
  refine wcg_6_0 C0 tf_X6_9 dX6_stripBar_5 ?_
  refine r_iload_n C0 dX6_stripBar_8 rfl 1 rfl ?_
  refine callV2 C0 h (hD _ _ _) mw_X9_refusesBar rv_2 tm_X6_44 (fun y hy => c_X9_refusesBar hy) (Nat.le_of_ble_eq_true rfl) (Nat.le_of_ble_eq_true rfl) dX6_stripBar_9 (fun r1 h => ?_)
  refine r_if_eq C0 18 dX6_stripBar_12 rfl h (fun _ h => ?_) (fun _ h => ?_)
  · refine r_aload_n C0 dX6_stripBar_18 rfl 0 rfl ?_
    refine wcg_6_0 C0 tf_X6_9 dX6_stripBar_19 ?_
    refine r_iload_n C0 dX6_stripBar_22 rfl 1 rfl ?_
    refine callV1 C0 h (hD _ _ _) mw_X3_isHigh rv_3 tm_X6_49 (fun y hy => c_X3_isHigh hy) (Nat.le_of_ble_eq_true rfl) (Nat.le_of_ble_eq_true rfl) dX6_stripBar_23 (fun r2 h => ?_)
    refine r_if_eq C0 39 dX6_stripBar_26 rfl h (fun _ h => ?_) (fun _ h => ?_)
    · refine r_aload_n C0 dX6_stripBar_39 rfl 0 rfl ?_
      refine wcg_6_0 C0 tf_X6_9 dX6_stripBar_40 ?_
      refine r_iload_n C0 dX6_stripBar_43 rfl 1 rfl ?_
      refine callV1 C0 h (hD _ _ _) mw_X3_isBarCued rv_3 tm_X6_52 (fun y hy => c_X3_isBarCued hy) (Nat.le_of_ble_eq_true rfl) (Nat.le_of_ble_eq_true rfl) dX6_stripBar_44 (fun r3 h => ?_)
      refine r_if_eq C0 60 dX6_stripBar_47 rfl h (fun _ h => ?_) (fun _ h => ?_)
      · refine r_iconst C0 dX6_stripBar_60 ki_0 ?_
        obtain ⟨a4, h8, h⟩ := op_bind h
        have e8 := Option.some.inj h8
        refine r_istore_n (lv2 := [(2, .int a4), (0, .ref (a 6)), (1, .int v1)]) C0 dX6_stripBar_61 rfl e8 (Nat.le_of_ble_eq_true rfl) rfl ?_
        exact r_sub [1, 2, 0] rfl (w_X6_stripBar_B62_lp C0 hD h hz)
      · refine r_aload_n C0 dX6_stripBar_50 rfl 0 rfl ?_
        refine wcg_6_1 C0 tf_X6_15 dX6_stripBar_51 ?_
        refine r_bipush C0 dX6_stripBar_54 kb_18 ?_
        refine callV1 C0 h (hD _ _ _) mw_X9_refuse rv_2 tm_X6_25 (fun y hy => c_X9_refuse hy) (Nat.le_of_ble_eq_true rfl) (Nat.le_of_ble_eq_true rfl) dX6_stripBar_56 (fun r20 h => ?_)
        cases h
        exact hz _ _ dX6_stripBar_59
    · refine r_aload_n C0 dX6_stripBar_29 rfl 0 rfl ?_
      refine wcg_6_1 C0 tf_X6_15 dX6_stripBar_30 ?_
      refine r_bipush C0 dX6_stripBar_33 kb_10 ?_
      refine callV1 C0 h (hD _ _ _) mw_X9_refuse rv_2 tm_X6_25 (fun y hy => c_X9_refuse hy) (Nat.le_of_ble_eq_true rfl) (Nat.le_of_ble_eq_true rfl) dX6_stripBar_35 (fun r21 h => ?_)
      cases h
      exact hz _ _ dX6_stripBar_38
  · refine r_ldc C0 tk_X6_48 dX6_stripBar_15 ?_
    cases h
    exact hz _ _ dX6_stripBar_17
theorem c_X6_stripBar {l : Launch} {D : va_G} {cy : Nat → ClassId} {a : Nat → Nat} {V : VT} {J : JT} {K : Nat → Option Nat} {X : va_W} {v1 : Int32} {y : Int32 × VT} (h : f_X6_stripBar v1 V = some y) : CT l D cy yX6_stripBar cX6_stripBar 4 (some .int) 4 [.ref (a 6), .int v1] (WC cy a V J K X) (WC cy a y.2 J K X) (some (.int y.1)) :=
  mkI (by decide) (Nat.le_of_ble_eq_true rfl) (fun Γ _ _ C0 hD hF => w_X6_stripBar C0 (dc_of hD) h hF)
theorem dX6_isPlaceHeld_0 : decode cX6_isPlaceHeld 0 = .ok (.iconst 0, 1) := by decide +kernel
theorem dX6_isPlaceHeld_1 : decode cX6_isPlaceHeld 1 = .ok (.istore_n 3, 1) := by decide +kernel
theorem dX6_isPlaceHeld_2 : decode cX6_isPlaceHeld 2 = .ok (.iload_n 3, 1) := by decide +kernel
theorem dX6_isPlaceHeld_3 : decode cX6_isPlaceHeld 3 = .ok (.bipush 40, 2) := by decide +kernel
theorem dX6_isPlaceHeld_5 : decode cX6_isPlaceHeld 5 = .ok (.if_icmp .ge 39, 3) := by decide +kernel
theorem dX6_isPlaceHeld_8 : decode cX6_isPlaceHeld 8 = .ok (.aload_n 0, 1) := by decide +kernel
theorem dX6_isPlaceHeld_9 : decode cX6_isPlaceHeld 9 = .ok (.getfield 9, 3) := by decide +kernel
theorem dX6_isPlaceHeld_12 : decode cX6_isPlaceHeld 12 = .ok (.iload_n 3, 1) := by decide +kernel
theorem dX6_isPlaceHeld_13 : decode cX6_isPlaceHeld 13 = .ok (.iload_n 1, 1) := by decide +kernel
theorem dX6_isPlaceHeld_14 : decode cX6_isPlaceHeld 14 = .ok (.invokevirtual 66, 3) := by decide +kernel
theorem dX6_isPlaceHeld_17 : decode cX6_isPlaceHeld 17 = .ok (.ifCond .eq 21, 3) := by decide +kernel
theorem dX6_isPlaceHeld_20 : decode cX6_isPlaceHeld 20 = .ok (.aload_n 0, 1) := by decide +kernel
theorem dX6_isPlaceHeld_21 : decode cX6_isPlaceHeld 21 = .ok (.getfield 9, 3) := by decide +kernel
theorem dX6_isPlaceHeld_24 : decode cX6_isPlaceHeld 24 = .ok (.getfield 69, 3) := by decide +kernel
theorem dX6_isPlaceHeld_27 : decode cX6_isPlaceHeld 27 = .ok (.iload_n 3, 1) := by decide +kernel
theorem dX6_isPlaceHeld_28 : decode cX6_isPlaceHeld 28 = .ok (.iconst 1, 1) := by decide +kernel
theorem dX6_isPlaceHeld_29 : decode cX6_isPlaceHeld 29 = .ok (.invokevirtual 81, 3) := by decide +kernel
theorem dX6_isPlaceHeld_32 : decode cX6_isPlaceHeld 32 = .ok (.iload_n 2, 1) := by decide +kernel
theorem dX6_isPlaceHeld_33 : decode cX6_isPlaceHeld 33 = .ok (.if_icmp .ne 5, 3) := by decide +kernel
theorem dX6_isPlaceHeld_36 : decode cX6_isPlaceHeld 36 = .ok (.iconst 1, 1) := by decide +kernel
theorem dX6_isPlaceHeld_37 : decode cX6_isPlaceHeld 37 = .ok (.ireturn, 1) := by decide +kernel
theorem dX6_isPlaceHeld_38 : decode cX6_isPlaceHeld 38 = .ok (.iinc 3 1, 3) := by decide +kernel
theorem dX6_isPlaceHeld_41 : decode cX6_isPlaceHeld 41 = .ok (.goto (-39), 3) := by decide +kernel
theorem dX6_isPlaceHeld_44 : decode cX6_isPlaceHeld 44 = .ok (.iconst 0, 1) := by decide +kernel
theorem dX6_isPlaceHeld_45 : decode cX6_isPlaceHeld 45 = .ok (.ireturn, 1) := by decide +kernel
theorem w_X6_isPlaceHeld_j38 {z : ((Int32) ⊕ (Int32))} {Γ : Gam} {cy : Nat → ClassId} {a : Nat → Nat} {V : VT} {J : JT} {K : Nat → Option Nat} {X : va_W} {v1 : Int32} {v2 : Int32} {v3 : Int32}  (C0 : CXg Γ cX6_isPlaceHeld 4 2 RX6 cy) (hD : DC Γ cy a X) (h : f_X6_isPlaceHeld_j38 v1 v2 v3 V = some z) (hz : (Sum.elim (fun x : Int32 => Wp Γ 0 0 2 [(0, .ref (a 6)), (1, .int v1), (2, .int v2), (3, .int x)] [] (WC cy a V J K X)) (fun y : Int32 => FinZ Γ cX6_isPlaceHeld (WC cy a V J K X) y)) z) : Wp Γ 0 0 38 [(0, .ref (a 6)), (1, .int v1), (2, .int v2), (3, .int v3)] [] (WC cy a V J K X) := by
  unfold f_X6_isPlaceHeld_j38 at h
  obtain ⟨a4, h8, h⟩ := op_bind h
  have e8 := Option.some.inj h8
  refine r_iinc (lv2 := [(3, .int a4), (0, .ref (a 6)), (1, .int v1), (2, .int v2)]) C0 dX6_isPlaceHeld_38 3 rfl ki_1 e8 (Nat.le_of_ble_eq_true rfl) rfl ?_
  refine r_goto C0 2 dX6_isPlaceHeld_41 rfl ?_
  cases h
  have hz := el_inl hz
  exact r_sub [1, 2, 3, 0] rfl hz
theorem w_X6_isPlaceHeld_B2 {x : Int32} {z : ((Int32) ⊕ (Int32))} {Γ : Gam} {cy : Nat → ClassId} {a : Nat → Nat} {V : VT} {J : JT} {K : Nat → Option Nat} {X : va_W} {v1 : Int32} {v2 : Int32}  (C0 : CXg Γ cX6_isPlaceHeld 4 2 RX6 cy) (hD : DC Γ cy a X) (h : f_X6_isPlaceHeld_B2 v1 v2 V x = some z) (hz : (Sum.elim (fun x : Int32 => Wp Γ 0 0 2 [(0, .ref (a 6)), (1, .int v1), (2, .int v2), (3, .int x)] [] (WC cy a V J K X)) (fun y : Int32 => FinZ Γ cX6_isPlaceHeld (WC cy a V J K X) y)) z) : Wp Γ 0 0 2 [(0, .ref (a 6)), (1, .int v1), (2, .int v2), (3, .int x)] [] (WC cy a V J K X) := by
  unfold f_X6_isPlaceHeld_B2 at h
  refine r_iload_n C0 dX6_isPlaceHeld_2 rfl 3 rfl ?_
  refine r_bipush C0 dX6_isPlaceHeld_3 kb_40 ?_
  refine r_icmp_ge C0 44 dX6_isPlaceHeld_5 rfl h (fun _ h => ?_) (fun _ h => ?_)
  · obtain ⟨y2, h5, h9⟩ := op_bind h
    clear h
    cases h9
    have hz := (el_inr hz)
    have h := h5
    refine r_iconst C0 dX6_isPlaceHeld_44 ki_0 ?_
    cases h
    exact hz _ _ nz_0 dX6_isPlaceHeld_45
  · refine r_aload_n C0 dX6_isPlaceHeld_8 rfl 0 rfl ?_
    refine wcg_6_0 C0 tf_X6_9 dX6_isPlaceHeld_9 ?_
    refine r_iload_n C0 dX6_isPlaceHeld_12 rfl 3 rfl ?_
    refine r_iload_n C0 dX6_isPlaceHeld_13 rfl 1 rfl ?_
    refine callV2 C0 h (hD _ _ _) mw_X3_holdsBar rv_3 tm_X6_66 (fun y hy => c_X3_holdsBar hy) (Nat.le_of_ble_eq_true rfl) (Nat.le_of_ble_eq_true rfl) dX6_isPlaceHeld_14 (fun r3 h => ?_)
    refine r_if_eq C0 38 dX6_isPlaceHeld_17 rfl h (fun _ h => ?_) (fun _ h => ?_)
    · exact r_sub [0, 1, 2, 3] rfl (w_X6_isPlaceHeld_j38 C0 hD h hz)
    · refine r_aload_n C0 dX6_isPlaceHeld_20 rfl 0 rfl ?_
      refine wcg_6_0 C0 tf_X6_9 dX6_isPlaceHeld_21 ?_
      refine wcg_3_2 C0 tf_X6_69 dX6_isPlaceHeld_24 ?_
      refine r_iload_n C0 dX6_isPlaceHeld_27 rfl 3 rfl ?_
      refine r_iconst C0 dX6_isPlaceHeld_28 ki_1 ?_
      refine callV2 C0 h (hD _ _ _) mw_X7_get (rv_t tb_12) tm_X6_81 (fun y hy => c_X7_get tb_12 hy) (Nat.le_of_ble_eq_true rfl) (Nat.le_of_ble_eq_true rfl) dX6_isPlaceHeld_29 (fun r5 h => ?_)
      refine r_iload_n C0 dX6_isPlaceHeld_32 rfl 2 rfl ?_
      refine r_icmp_ne C0 38 dX6_isPlaceHeld_33 rfl h (fun _ h => ?_) (fun _ h => ?_)
      · exact r_sub [0, 1, 2, 3] rfl (w_X6_isPlaceHeld_j38 C0 hD h hz)
      · obtain ⟨y6, h5, h9⟩ := op_bind h
        clear h
        cases h9
        have hz := (el_inr hz)
        have h := h5
        refine r_iconst C0 dX6_isPlaceHeld_36 ki_1 ?_
        cases h
        exact hz _ _ nz_1 dX6_isPlaceHeld_37
theorem w_X6_isPlaceHeld_B2_lp {x : Int32} {z : (Int32)} {Γ : Gam} {cy : Nat → ClassId} {a : Nat → Nat} {V : VT} {J : JT} {K : Nat → Option Nat} {X : va_W} {v1 : Int32} {v2 : Int32}  (C0 : CXg Γ cX6_isPlaceHeld 4 2 RX6 cy) (hD : DC Γ cy a X) (h : lp (f_X6_isPlaceHeld_B2 v1 v2 V) fuel x = some z) (hz : (fun y : Int32 => FinZ Γ cX6_isPlaceHeld (WC cy a V J K X) y) z) : Wp Γ 0 0 2 [(0, .ref (a 6)), (1, .int v1), (2, .int v2), (3, .int x)] [] (WC cy a V J K X) :=
  lp_rule (hd := (fun x : Int32 => Wp Γ 0 0 2 [(0, .ref (a 6)), (1, .int v1), (2, .int v2), (3, .int x)] [] (WC cy a V J K X))) (C := (fun y : Int32 => FinZ Γ cX6_isPlaceHeld (WC cy a V J K X) y)) (fun x z h hz => w_X6_isPlaceHeld_B2 C0 hD h hz) _ _ _ h hz
theorem w_X6_isPlaceHeld {z : Int32} {Γ : Gam} {cy : Nat → ClassId} {a : Nat → Nat} {V : VT} {J : JT} {K : Nat → Option Nat} {X : va_W} {v1 : Int32} {v2 : Int32}  (C0 : CXg Γ cX6_isPlaceHeld 4 2 RX6 cy) (hD : DC Γ cy a X) (h : f_X6_isPlaceHeld v1 v2 V = some z) (hz : (fun y : Int32 => FinZ Γ cX6_isPlaceHeld (WC cy a V J K X) y) z) : Wp Γ 0 0 0 [(0, .ref (a 6)), (1, .int v1), (2, .int v2)] [] (WC cy a V J K X) := by
  unfold f_X6_isPlaceHeld at h
  refine r_iconst C0 dX6_isPlaceHeld_0 ki_0 ?_
  obtain ⟨a1, h8, h⟩ := op_bind h
  have e8 := Option.some.inj h8
  refine r_istore_n (lv2 := [(3, .int a1), (0, .ref (a 6)), (1, .int v1), (2, .int v2)]) C0 dX6_isPlaceHeld_1 rfl e8 (Nat.le_of_ble_eq_true rfl) rfl ?_
  exact r_sub [1, 2, 3, 0] rfl (w_X6_isPlaceHeld_B2_lp C0 hD h hz)
theorem c_X6_isPlaceHeld {l : Launch} {D : va_G} {cy : Nat → ClassId} {a : Nat → Nat} {V : VT} {J : JT} {K : Nat → Option Nat} {X : va_W} {v1 : Int32} {v2 : Int32} {y : Int32} (h : f_X6_isPlaceHeld v1 v2 V = some y) : CT l D cy yX6_isPlaceHeld cX6_isPlaceHeld 4 (some .boolean) 2 [.ref (a 6), .int v1, .int v2] (WC cy a V J K X) (WC cy a V J K X) (some (.int y)) :=
  mkZ (by decide) (Nat.le_of_ble_eq_true rfl) (fun Γ _ _ C0 hD hF => w_X6_isPlaceHeld C0 (dc_of hD) h hF)
theorem dX6_addLine_0 : decode cX6_addLine 0 = .ok (.aload_n 0, 1) := by decide +kernel
theorem dX6_addLine_1 : decode cX6_addLine 1 = .ok (.getfield 15, 3) := by decide +kernel
theorem dX6_addLine_4 : decode cX6_addLine 4 = .ok (.aload_n 0, 1) := by decide +kernel
theorem dX6_addLine_5 : decode cX6_addLine 5 = .ok (.getfield 9, 3) := by decide +kernel
theorem dX6_addLine_8 : decode cX6_addLine 8 = .ok (.iload_n 1, 1) := by decide +kernel
theorem dX6_addLine_9 : decode cX6_addLine 9 = .ok (.invokevirtual 44, 3) := by decide +kernel
theorem dX6_addLine_12 : decode cX6_addLine 12 = .ok (.ifCond .eq 6, 3) := by decide +kernel
theorem dX6_addLine_15 : decode cX6_addLine 15 = .ok (.ldc 48, 2) := by decide +kernel
theorem dX6_addLine_17 : decode cX6_addLine 17 = .ok (.ireturn, 1) := by decide +kernel
theorem dX6_addLine_18 : decode cX6_addLine 18 = .ok (.aload_n 0, 1) := by decide +kernel
theorem dX6_addLine_19 : decode cX6_addLine 19 = .ok (.getfield 9, 3) := by decide +kernel
theorem dX6_addLine_22 : decode cX6_addLine 22 = .ok (.iload_n 1, 1) := by decide +kernel
theorem dX6_addLine_23 : decode cX6_addLine 23 = .ok (.iload_n 2, 1) := by decide +kernel
theorem dX6_addLine_24 : decode cX6_addLine 24 = .ok (.invokevirtual 72, 3) := by decide +kernel
theorem dX6_addLine_27 : decode cX6_addLine 27 = .ok (.ifCond .ne 12, 3) := by decide +kernel
theorem dX6_addLine_30 : decode cX6_addLine 30 = .ok (.aload_n 0, 1) := by decide +kernel
theorem dX6_addLine_31 : decode cX6_addLine 31 = .ok (.getfield 15, 3) := by decide +kernel
theorem dX6_addLine_34 : decode cX6_addLine 34 = .ok (.iconst 2, 1) := by decide +kernel
theorem dX6_addLine_35 : decode cX6_addLine 35 = .ok (.invokevirtual 25, 3) := by decide +kernel
theorem dX6_addLine_38 : decode cX6_addLine 38 = .ok (.ireturn, 1) := by decide +kernel
theorem dX6_addLine_39 : decode cX6_addLine 39 = .ok (.aload_n 0, 1) := by decide +kernel
theorem dX6_addLine_40 : decode cX6_addLine 40 = .ok (.iload_n 1, 1) := by decide +kernel
theorem dX6_addLine_41 : decode cX6_addLine 41 = .ok (.iload_n 2, 1) := by decide +kernel
theorem dX6_addLine_42 : decode cX6_addLine 42 = .ok (.invokevirtual 75, 3) := by decide +kernel
theorem dX6_addLine_45 : decode cX6_addLine 45 = .ok (.ifCond .eq 13, 3) := by decide +kernel
theorem dX6_addLine_48 : decode cX6_addLine 48 = .ok (.aload_n 0, 1) := by decide +kernel
theorem dX6_addLine_49 : decode cX6_addLine 49 = .ok (.getfield 15, 3) := by decide +kernel
theorem dX6_addLine_52 : decode cX6_addLine 52 = .ok (.bipush 8, 2) := by decide +kernel
theorem dX6_addLine_54 : decode cX6_addLine 54 = .ok (.invokevirtual 25, 3) := by decide +kernel
theorem dX6_addLine_57 : decode cX6_addLine 57 = .ok (.ireturn, 1) := by decide +kernel
theorem dX6_addLine_58 : decode cX6_addLine 58 = .ok (.aload_n 0, 1) := by decide +kernel
theorem dX6_addLine_59 : decode cX6_addLine 59 = .ok (.getfield 9, 3) := by decide +kernel
theorem dX6_addLine_62 : decode cX6_addLine 62 = .ok (.getfield 78, 3) := by decide +kernel
theorem dX6_addLine_65 : decode cX6_addLine 65 = .ok (.iconst 0, 1) := by decide +kernel
theorem dX6_addLine_66 : decode cX6_addLine 66 = .ok (.iconst 0, 1) := by decide +kernel
theorem dX6_addLine_67 : decode cX6_addLine 67 = .ok (.invokevirtual 81, 3) := by decide +kernel
theorem dX6_addLine_70 : decode cX6_addLine 70 = .ok (.istore 5, 2) := by decide +kernel
theorem dX6_addLine_72 : decode cX6_addLine 72 = .ok (.iload 5, 2) := by decide +kernel
theorem dX6_addLine_74 : decode cX6_addLine 74 = .ok (.bipush 40, 2) := by decide +kernel
theorem dX6_addLine_76 : decode cX6_addLine 76 = .ok (.if_icmp .lt 13, 3) := by decide +kernel
theorem dX6_addLine_79 : decode cX6_addLine 79 = .ok (.aload_n 0, 1) := by decide +kernel
theorem dX6_addLine_80 : decode cX6_addLine 80 = .ok (.getfield 15, 3) := by decide +kernel
theorem dX6_addLine_83 : decode cX6_addLine 83 = .ok (.bipush 11, 2) := by decide +kernel
theorem dX6_addLine_85 : decode cX6_addLine 85 = .ok (.invokevirtual 25, 3) := by decide +kernel
theorem dX6_addLine_88 : decode cX6_addLine 88 = .ok (.ireturn, 1) := by decide +kernel
theorem dX6_addLine_89 : decode cX6_addLine 89 = .ok (.iload_n 3, 1) := by decide +kernel
theorem dX6_addLine_90 : decode cX6_addLine 90 = .ok (.ifCond .ge 12, 3) := by decide +kernel
theorem dX6_addLine_93 : decode cX6_addLine 93 = .ok (.aload_n 0, 1) := by decide +kernel
theorem dX6_addLine_94 : decode cX6_addLine 94 = .ok (.getfield 15, 3) := by decide +kernel
theorem dX6_addLine_97 : decode cX6_addLine 97 = .ok (.iconst 3, 1) := by decide +kernel
theorem dX6_addLine_98 : decode cX6_addLine 98 = .ok (.invokevirtual 25, 3) := by decide +kernel
theorem dX6_addLine_101 : decode cX6_addLine 101 = .ok (.ireturn, 1) := by decide +kernel
theorem dX6_addLine_102 : decode cX6_addLine 102 = .ok (.iload_n 3, 1) := by decide +kernel
theorem dX6_addLine_103 : decode cX6_addLine 103 = .ok (.iconst 1, 1) := by decide +kernel
theorem dX6_addLine_104 : decode cX6_addLine 104 = .ok (.if_icmp .lt 22, 3) := by decide +kernel
theorem dX6_addLine_107 : decode cX6_addLine 107 = .ok (.iload_n 3, 1) := by decide +kernel
theorem dX6_addLine_108 : decode cX6_addLine 108 = .ok (.bipush 8, 2) := by decide +kernel
theorem dX6_addLine_110 : decode cX6_addLine 110 = .ok (.if_icmp .gt 16, 3) := by decide +kernel
theorem dX6_addLine_113 : decode cX6_addLine 113 = .ok (.iload 4, 2) := by decide +kernel
theorem dX6_addLine_115 : decode cX6_addLine 115 = .ok (.ifCond .lt 11, 3) := by decide +kernel
theorem dX6_addLine_118 : decode cX6_addLine 118 = .ok (.iload 4, 2) := by decide +kernel
theorem dX6_addLine_120 : decode cX6_addLine 120 = .ok (.sipush 30000, 3) := by decide +kernel
theorem dX6_addLine_123 : decode cX6_addLine 123 = .ok (.if_icmp .le 13, 3) := by decide +kernel
theorem dX6_addLine_126 : decode cX6_addLine 126 = .ok (.aload_n 0, 1) := by decide +kernel
theorem dX6_addLine_127 : decode cX6_addLine 127 = .ok (.getfield 15, 3) := by decide +kernel
theorem dX6_addLine_130 : decode cX6_addLine 130 = .ok (.bipush 7, 2) := by decide +kernel
theorem dX6_addLine_132 : decode cX6_addLine 132 = .ok (.invokevirtual 25, 3) := by decide +kernel
theorem dX6_addLine_135 : decode cX6_addLine 135 = .ok (.ireturn, 1) := by decide +kernel
theorem dX6_addLine_136 : decode cX6_addLine 136 = .ok (.aload_n 0, 1) := by decide +kernel
theorem dX6_addLine_137 : decode cX6_addLine 137 = .ok (.getfield 9, 3) := by decide +kernel
theorem dX6_addLine_140 : decode cX6_addLine 140 = .ok (.getfield 78, 3) := by decide +kernel
theorem dX6_addLine_143 : decode cX6_addLine 143 = .ok (.iconst 0, 1) := by decide +kernel
theorem dX6_addLine_144 : decode cX6_addLine 144 = .ok (.iconst 0, 1) := by decide +kernel
theorem dX6_addLine_145 : decode cX6_addLine 145 = .ok (.iload 5, 2) := by decide +kernel
theorem dX6_addLine_147 : decode cX6_addLine 147 = .ok (.iconst 1, 1) := by decide +kernel
theorem dX6_addLine_148 : decode cX6_addLine 148 = .ok (.iadd, 1) := by decide +kernel
theorem dX6_addLine_149 : decode cX6_addLine 149 = .ok (.invokevirtual 38, 3) := by decide +kernel
theorem dX6_addLine_152 : decode cX6_addLine 152 = .ok (.aload_n 0, 1) := by decide +kernel
theorem dX6_addLine_153 : decode cX6_addLine 153 = .ok (.getfield 9, 3) := by decide +kernel
theorem dX6_addLine_156 : decode cX6_addLine 156 = .ok (.getfield 69, 3) := by decide +kernel
theorem dX6_addLine_159 : decode cX6_addLine 159 = .ok (.iload 5, 2) := by decide +kernel
theorem dX6_addLine_161 : decode cX6_addLine 161 = .ok (.iconst 0, 1) := by decide +kernel
theorem dX6_addLine_162 : decode cX6_addLine 162 = .ok (.iload_n 1, 1) := by decide +kernel
theorem dX6_addLine_163 : decode cX6_addLine 163 = .ok (.invokevirtual 38, 3) := by decide +kernel
theorem dX6_addLine_166 : decode cX6_addLine 166 = .ok (.aload_n 0, 1) := by decide +kernel
theorem dX6_addLine_167 : decode cX6_addLine 167 = .ok (.getfield 9, 3) := by decide +kernel
theorem dX6_addLine_170 : decode cX6_addLine 170 = .ok (.getfield 69, 3) := by decide +kernel
theorem dX6_addLine_173 : decode cX6_addLine 173 = .ok (.iload 5, 2) := by decide +kernel
theorem dX6_addLine_175 : decode cX6_addLine 175 = .ok (.iconst 1, 1) := by decide +kernel
theorem dX6_addLine_176 : decode cX6_addLine 176 = .ok (.iload_n 2, 1) := by decide +kernel
theorem dX6_addLine_177 : decode cX6_addLine 177 = .ok (.invokevirtual 38, 3) := by decide +kernel
theorem dX6_addLine_180 : decode cX6_addLine 180 = .ok (.aload_n 0, 1) := by decide +kernel
theorem dX6_addLine_181 : decode cX6_addLine 181 = .ok (.getfield 9, 3) := by decide +kernel
theorem dX6_addLine_184 : decode cX6_addLine 184 = .ok (.getfield 69, 3) := by decide +kernel
theorem dX6_addLine_187 : decode cX6_addLine 187 = .ok (.iload 5, 2) := by decide +kernel
theorem dX6_addLine_189 : decode cX6_addLine 189 = .ok (.iconst 2, 1) := by decide +kernel
theorem dX6_addLine_190 : decode cX6_addLine 190 = .ok (.iload_n 3, 1) := by decide +kernel
theorem dX6_addLine_191 : decode cX6_addLine 191 = .ok (.invokevirtual 38, 3) := by decide +kernel
theorem dX6_addLine_194 : decode cX6_addLine 194 = .ok (.aload_n 0, 1) := by decide +kernel
theorem dX6_addLine_195 : decode cX6_addLine 195 = .ok (.getfield 9, 3) := by decide +kernel
theorem dX6_addLine_198 : decode cX6_addLine 198 = .ok (.getfield 69, 3) := by decide +kernel
theorem dX6_addLine_201 : decode cX6_addLine 201 = .ok (.iload 5, 2) := by decide +kernel
theorem dX6_addLine_203 : decode cX6_addLine 203 = .ok (.iconst 3, 1) := by decide +kernel
theorem dX6_addLine_204 : decode cX6_addLine 204 = .ok (.iconst 1, 1) := by decide +kernel
theorem dX6_addLine_205 : decode cX6_addLine 205 = .ok (.invokevirtual 38, 3) := by decide +kernel
theorem dX6_addLine_208 : decode cX6_addLine 208 = .ok (.iconst 0, 1) := by decide +kernel
theorem dX6_addLine_209 : decode cX6_addLine 209 = .ok (.istore 6, 2) := by decide +kernel
theorem dX6_addLine_211 : decode cX6_addLine 211 = .ok (.iload 6, 2) := by decide +kernel
theorem dX6_addLine_213 : decode cX6_addLine 213 = .ok (.iload_n 3, 1) := by decide +kernel
theorem dX6_addLine_214 : decode cX6_addLine 214 = .ok (.if_icmp .ge 27, 3) := by decide +kernel
theorem dX6_addLine_217 : decode cX6_addLine 217 = .ok (.aload_n 0, 1) := by decide +kernel
theorem dX6_addLine_218 : decode cX6_addLine 218 = .ok (.getfield 9, 3) := by decide +kernel
theorem dX6_addLine_221 : decode cX6_addLine 221 = .ok (.getfield 69, 3) := by decide +kernel
theorem dX6_addLine_224 : decode cX6_addLine 224 = .ok (.iload 5, 2) := by decide +kernel
theorem dX6_addLine_226 : decode cX6_addLine 226 = .ok (.iconst 4, 1) := by decide +kernel
theorem dX6_addLine_227 : decode cX6_addLine 227 = .ok (.iload 6, 2) := by decide +kernel
theorem dX6_addLine_229 : decode cX6_addLine 229 = .ok (.iadd, 1) := by decide +kernel
theorem dX6_addLine_230 : decode cX6_addLine 230 = .ok (.iload 4, 2) := by decide +kernel
theorem dX6_addLine_232 : decode cX6_addLine 232 = .ok (.invokevirtual 38, 3) := by decide +kernel
theorem dX6_addLine_235 : decode cX6_addLine 235 = .ok (.iinc 6 1, 3) := by decide +kernel
theorem dX6_addLine_238 : decode cX6_addLine 238 = .ok (.goto (-27), 3) := by decide +kernel
theorem dX6_addLine_241 : decode cX6_addLine 241 = .ok (.iload 5, 2) := by decide +kernel
theorem dX6_addLine_243 : decode cX6_addLine 243 = .ok (.ireturn, 1) := by decide +kernel
theorem w_X6_addLine_j126 {z : (Int32 × VT)} {Γ : Gam} {cy : Nat → ClassId} {a : Nat → Nat} {V : VT} {J : JT} {K : Nat → Option Nat} {X : va_W}  (C0 : CXg Γ cX6_addLine 7 3 RX6 cy) (hD : DC Γ cy a X) (h : f_X6_addLine_j126 V = some z) (hz : (fun y : Int32 × VT => FinI Γ cX6_addLine (WC cy a y.2 J K X) y.1) z) : Wp Γ 0 0 126 [(0, .ref (a 6))] [] (WC cy a V J K X) := by
  unfold f_X6_addLine_j126 at h
  refine r_aload_n C0 dX6_addLine_126 rfl 0 rfl ?_
  refine wcg_6_1 C0 tf_X6_15 dX6_addLine_127 ?_
  refine r_bipush C0 dX6_addLine_130 kb_7 ?_
  refine callV1 C0 h (hD _ _ _) mw_X9_refuse rv_2 tm_X6_25 (fun y hy => c_X9_refuse hy) (Nat.le_of_ble_eq_true rfl) (Nat.le_of_ble_eq_true rfl) dX6_addLine_132 (fun r5 h => ?_)
  cases h
  exact hz _ _ dX6_addLine_135
theorem w_X6_addLine_B211 {x : Int32 × VT} {z : ((Int32 × VT) ⊕ (Int32 × VT))} {Γ : Gam} {cy : Nat → ClassId} {a : Nat → Nat} {J : JT} {K : Nat → Option Nat} {X : va_W} {v3 : Int32} {v4 : Int32} {v5 : Int32}  (C0 : CXg Γ cX6_addLine 7 3 RX6 cy) (hD : DC Γ cy a X) (h : f_X6_addLine_B211 v3 v4 v5 x = some z) (hz : (Sum.elim (fun x : Int32 × VT => Wp Γ 0 0 211 [(0, .ref (a 6)), (3, .int v3), (4, .int v4), (5, .int v5), (6, .int x.1)] [] (WC cy a x.2 J K X)) (fun y : Int32 × VT => FinI Γ cX6_addLine (WC cy a y.2 J K X) y.1)) z) : Wp Γ 0 0 211 [(0, .ref (a 6)), (3, .int v3), (4, .int v4), (5, .int v5), (6, .int x.1)] [] (WC cy a x.2 J K X) := by
  unfold f_X6_addLine_B211 at h
  refine r_iload C0 dX6_addLine_211 4 rfl ?_
  refine r_iload_n C0 dX6_addLine_213 rfl 1 rfl ?_
  refine r_icmp_ge C0 241 dX6_addLine_214 rfl h (fun _ h => ?_) (fun _ h => ?_)
  · obtain ⟨y12, h5, h9⟩ := op_bind h
    clear h
    cases h9
    have hz := (el_inr hz)
    have h := h5
    refine r_iload C0 dX6_addLine_241 3 rfl ?_
    cases h
    exact hz _ _ dX6_addLine_243
  · refine r_aload_n C0 dX6_addLine_217 rfl 0 rfl ?_
    refine wcg_6_0 C0 tf_X6_9 dX6_addLine_218 ?_
    refine wcg_3_2 C0 tf_X6_69 dX6_addLine_221 ?_
    refine r_iload C0 dX6_addLine_224 3 rfl ?_
    refine r_iconst C0 dX6_addLine_226 ki_4 ?_
    refine r_iload C0 dX6_addLine_227 4 rfl ?_
    refine r_iadd C0 dX6_addLine_229 ?_
    refine r_iload C0 dX6_addLine_230 2 rfl ?_
    refine callVv3 C0 h (hD _ _ _) mw_X7_set (rv_t tb_12) tm_X6_38 (fun y hy => c_X7_set tb_12 hy) (Nat.le_of_ble_eq_true rfl) (Nat.le_of_ble_eq_true rfl) dX6_addLine_232 (fun r13 h => ?_)
    obtain ⟨a14, h8, h⟩ := op_bind h
    have e8 := Option.some.inj h8
    refine r_iinc (lv2 := [(6, .int a14), (0, .ref (a 6)), (3, .int v3), (4, .int v4), (5, .int v5)]) C0 dX6_addLine_235 4 rfl ki_1 e8 (Nat.le_of_ble_eq_true rfl) rfl ?_
    refine r_goto C0 211 dX6_addLine_238 rfl ?_
    cases h
    have hz := el_inl hz
    exact r_sub [1, 2, 3, 4, 0] rfl hz
theorem w_X6_addLine_B211_lp {x : Int32 × VT} {z : (Int32 × VT)} {Γ : Gam} {cy : Nat → ClassId} {a : Nat → Nat} {J : JT} {K : Nat → Option Nat} {X : va_W} {v3 : Int32} {v4 : Int32} {v5 : Int32}  (C0 : CXg Γ cX6_addLine 7 3 RX6 cy) (hD : DC Γ cy a X) (h : lp (f_X6_addLine_B211 v3 v4 v5) fuel x = some z) (hz : (fun y : Int32 × VT => FinI Γ cX6_addLine (WC cy a y.2 J K X) y.1) z) : Wp Γ 0 0 211 [(0, .ref (a 6)), (3, .int v3), (4, .int v4), (5, .int v5), (6, .int x.1)] [] (WC cy a x.2 J K X) :=
  lp_rule (hd := (fun x : Int32 × VT => Wp Γ 0 0 211 [(0, .ref (a 6)), (3, .int v3), (4, .int v4), (5, .int v5), (6, .int x.1)] [] (WC cy a x.2 J K X))) (C := (fun y : Int32 × VT => FinI Γ cX6_addLine (WC cy a y.2 J K X) y.1)) (fun x z h hz => w_X6_addLine_B211 C0 hD h hz) _ _ _ h hz
theorem w_X6_addLine {z : Int32 × VT} {Γ : Gam} {cy : Nat → ClassId} {a : Nat → Nat} {V : VT} {J : JT} {K : Nat → Option Nat} {X : va_W} {v1 : Int32} {v2 : Int32} {v3 : Int32} {v4 : Int32}  (C0 : CXg Γ cX6_addLine 7 3 RX6 cy) (hD : DC Γ cy a X) (h : f_X6_addLine v1 v2 v3 v4 V = some z) (hz : (fun y : Int32 × VT => FinI Γ cX6_addLine (WC cy a y.2 J K X) y.1) z) : Wp Γ 0 0 0 [(0, .ref (a 6)), (1, .int v1), (2, .int v2), (3, .int v3), (4, .int v4)] [] (WC cy a V J K X) := by
  unfold f_X6_addLine at h
  refine r_aload_n C0 dX6_addLine_0 rfl 0 rfl ?_
  refine wcg_6_1 C0 tf_X6_15 dX6_addLine_1 ?_
  refine r_aload_n C0 dX6_addLine_4 rfl 0 rfl ?_
  refine wcg_6_0 C0 tf_X6_9 dX6_addLine_5 ?_
  refine r_iload_n C0 dX6_addLine_8 rfl 1 rfl ?_
  refine callV2 C0 h (hD _ _ _) mw_X9_refusesBar rv_2 tm_X6_44 (fun y hy => c_X9_refusesBar hy) (Nat.le_of_ble_eq_true rfl) (Nat.le_of_ble_eq_true rfl) dX6_addLine_9 (fun r1 h => ?_)
  refine r_if_eq C0 18 dX6_addLine_12 rfl h (fun _ h => ?_) (fun _ h => ?_)
  · refine r_aload_n C0 dX6_addLine_18 rfl 0 rfl ?_
    refine wcg_6_0 C0 tf_X6_9 dX6_addLine_19 ?_
    refine r_iload_n C0 dX6_addLine_22 rfl 1 rfl ?_
    refine r_iload_n C0 dX6_addLine_23 rfl 2 rfl ?_
    refine callV2 C0 h (hD _ _ _) mw_X3_hasPlace rv_3 tm_X6_72 (fun y hy => c_X3_hasPlace hy) (Nat.le_of_ble_eq_true rfl) (Nat.le_of_ble_eq_true rfl) dX6_addLine_24 (fun r2 h => ?_)
    refine r_if_ne C0 39 dX6_addLine_27 rfl h (fun _ h => ?_) (fun _ h => ?_)
    · refine r_aload_n C0 dX6_addLine_39 rfl 0 rfl ?_
      refine r_iload_n C0 dX6_addLine_40 rfl 1 rfl ?_
      refine r_iload_n C0 dX6_addLine_41 rfl 2 rfl ?_
      refine callV2 C0 h (hD _ _ _) mw_X6_isPlaceHeld rv_6 tm_X6_75 (fun y hy => c_X6_isPlaceHeld hy) (Nat.le_of_ble_eq_true rfl) (Nat.le_of_ble_eq_true rfl) dX6_addLine_42 (fun r3 h => ?_)
      refine r_if_eq C0 58 dX6_addLine_45 rfl h (fun _ h => ?_) (fun _ h => ?_)
      · refine r_aload_n C0 dX6_addLine_58 rfl 0 rfl ?_
        refine wcg_6_0 C0 tf_X6_9 dX6_addLine_59 ?_
        refine wcg_3_7 C0 tf_X6_78 dX6_addLine_62 ?_
        refine r_iconst C0 dX6_addLine_65 ki_0 ?_
        refine r_iconst C0 dX6_addLine_66 ki_0 ?_
        refine callV2 C0 h (hD _ _ _) mw_X7_get (rv_t tb_17) tm_X6_81 (fun y hy => c_X7_get tb_17 hy) (Nat.le_of_ble_eq_true rfl) (Nat.le_of_ble_eq_true rfl) dX6_addLine_67 (fun r4 h => ?_)
        refine r_istore (lv2 := [(5, .int r4), (0, .ref (a 6)), (1, .int v1), (2, .int v2), (3, .int v3), (4, .int v4)]) C0 dX6_addLine_70 rfl (Nat.le_of_ble_eq_true rfl) rfl ?_
        refine r_iload C0 dX6_addLine_72 0 rfl ?_
        refine r_bipush C0 dX6_addLine_74 kb_40 ?_
        refine r_icmp_lt C0 89 dX6_addLine_76 rfl h (fun _ h => ?_) (fun _ h => ?_)
        · refine r_iload_n C0 dX6_addLine_89 rfl 4 rfl ?_
          refine r_if_ge C0 102 dX6_addLine_90 rfl h (fun _ h => ?_) (fun _ h => ?_)
          · refine r_iload_n C0 dX6_addLine_102 rfl 4 rfl ?_
            refine r_iconst C0 dX6_addLine_103 ki_1 ?_
            refine r_icmp_lt C0 126 dX6_addLine_104 rfl h (fun _ h => ?_) (fun _ h => ?_)
            · exact r_sub [1] rfl (w_X6_addLine_j126 C0 hD h hz)
            · refine r_iload_n C0 dX6_addLine_107 rfl 4 rfl ?_
              refine r_bipush C0 dX6_addLine_108 kb_8 ?_
              refine r_icmp_gt C0 126 dX6_addLine_110 rfl h (fun _ h => ?_) (fun _ h => ?_)
              · exact r_sub [1] rfl (w_X6_addLine_j126 C0 hD h hz)
              · refine r_iload C0 dX6_addLine_113 5 rfl ?_
                refine r_if_lt C0 126 dX6_addLine_115 rfl h (fun _ h => ?_) (fun _ h => ?_)
                · exact r_sub [1] rfl (w_X6_addLine_j126 C0 hD h hz)
                · refine r_iload C0 dX6_addLine_118 5 rfl ?_
                  refine r_sipush C0 dX6_addLine_120 ks_30000 ?_
                  refine r_icmp_le C0 136 dX6_addLine_123 rfl h (fun _ h => ?_) (fun _ h => ?_)
                  · refine r_aload_n C0 dX6_addLine_136 rfl 1 rfl ?_
                    refine wcg_6_0 C0 tf_X6_9 dX6_addLine_137 ?_
                    refine wcg_3_7 C0 tf_X6_78 dX6_addLine_140 ?_
                    refine r_iconst C0 dX6_addLine_143 ki_0 ?_
                    refine r_iconst C0 dX6_addLine_144 ki_0 ?_
                    refine r_iload C0 dX6_addLine_145 0 rfl ?_
                    refine r_iconst C0 dX6_addLine_147 ki_1 ?_
                    refine r_iadd C0 dX6_addLine_148 ?_
                    refine callVv3 C0 h (hD _ _ _) mw_X7_set (rv_t tb_17) tm_X6_38 (fun y hy => c_X7_set tb_17 hy) (Nat.le_of_ble_eq_true rfl) (Nat.le_of_ble_eq_true rfl) dX6_addLine_149 (fun r6 h => ?_)
                    refine r_aload_n C0 dX6_addLine_152 rfl 1 rfl ?_
                    refine wcg_6_0 C0 tf_X6_9 dX6_addLine_153 ?_
                    refine wcg_3_2 C0 tf_X6_69 dX6_addLine_156 ?_
                    refine r_iload C0 dX6_addLine_159 0 rfl ?_
                    refine r_iconst C0 dX6_addLine_161 ki_0 ?_
                    refine r_iload_n C0 dX6_addLine_162 rfl 2 rfl ?_
                    refine callVv3 C0 h (hD _ _ _) mw_X7_set (rv_t tb_12) tm_X6_38 (fun y hy => c_X7_set tb_12 hy) (Nat.le_of_ble_eq_true rfl) (Nat.le_of_ble_eq_true rfl) dX6_addLine_163 (fun r7 h => ?_)
                    refine r_aload_n C0 dX6_addLine_166 rfl 1 rfl ?_
                    refine wcg_6_0 C0 tf_X6_9 dX6_addLine_167 ?_
                    refine wcg_3_2 C0 tf_X6_69 dX6_addLine_170 ?_
                    refine r_iload C0 dX6_addLine_173 0 rfl ?_
                    refine r_iconst C0 dX6_addLine_175 ki_1 ?_
                    refine r_iload_n C0 dX6_addLine_176 rfl 3 rfl ?_
                    refine callVv3 C0 h (hD _ _ _) mw_X7_set (rv_t tb_12) tm_X6_38 (fun y hy => c_X7_set tb_12 hy) (Nat.le_of_ble_eq_true rfl) (Nat.le_of_ble_eq_true rfl) dX6_addLine_177 (fun r8 h => ?_)
                    refine r_aload_n C0 dX6_addLine_180 rfl 1 rfl ?_
                    refine wcg_6_0 C0 tf_X6_9 dX6_addLine_181 ?_
                    refine wcg_3_2 C0 tf_X6_69 dX6_addLine_184 ?_
                    refine r_iload C0 dX6_addLine_187 0 rfl ?_
                    refine r_iconst C0 dX6_addLine_189 ki_2 ?_
                    refine r_iload_n C0 dX6_addLine_190 rfl 4 rfl ?_
                    refine callVv3 C0 h (hD _ _ _) mw_X7_set (rv_t tb_12) tm_X6_38 (fun y hy => c_X7_set tb_12 hy) (Nat.le_of_ble_eq_true rfl) (Nat.le_of_ble_eq_true rfl) dX6_addLine_191 (fun r9 h => ?_)
                    refine r_aload_n C0 dX6_addLine_194 rfl 1 rfl ?_
                    refine wcg_6_0 C0 tf_X6_9 dX6_addLine_195 ?_
                    refine wcg_3_2 C0 tf_X6_69 dX6_addLine_198 ?_
                    refine r_iload C0 dX6_addLine_201 0 rfl ?_
                    refine r_iconst C0 dX6_addLine_203 ki_3 ?_
                    refine r_iconst C0 dX6_addLine_204 ki_1 ?_
                    refine callVv3 C0 h (hD _ _ _) mw_X7_set (rv_t tb_12) tm_X6_38 (fun y hy => c_X7_set tb_12 hy) (Nat.le_of_ble_eq_true rfl) (Nat.le_of_ble_eq_true rfl) dX6_addLine_205 (fun r10 h => ?_)
                    refine r_iconst C0 dX6_addLine_208 ki_0 ?_
                    obtain ⟨a11, h8, h⟩ := op_bind h
                    have e8 := Option.some.inj h8
                    refine r_istore (lv2 := [(6, .int a11), (5, .int r4), (0, .ref (a 6)), (1, .int v1), (2, .int v2), (3, .int v3), (4, .int v4)]) C0 dX6_addLine_209 e8 (Nat.le_of_ble_eq_true rfl) rfl ?_
                    exact r_sub [2, 5, 6, 1, 0] rfl (w_X6_addLine_B211_lp C0 hD h hz)
                  · exact r_sub [1] rfl (w_X6_addLine_j126 C0 hD h hz)
          · refine r_aload_n C0 dX6_addLine_93 rfl 1 rfl ?_
            refine wcg_6_1 C0 tf_X6_15 dX6_addLine_94 ?_
            refine r_iconst C0 dX6_addLine_97 ki_3 ?_
            refine callV1 C0 h (hD _ _ _) mw_X9_refuse rv_2 tm_X6_25 (fun y hy => c_X9_refuse hy) (Nat.le_of_ble_eq_true rfl) (Nat.le_of_ble_eq_true rfl) dX6_addLine_98 (fun r15 h => ?_)
            cases h
            exact hz _ _ dX6_addLine_101
        · refine r_aload_n C0 dX6_addLine_79 rfl 1 rfl ?_
          refine wcg_6_1 C0 tf_X6_15 dX6_addLine_80 ?_
          refine r_bipush C0 dX6_addLine_83 kb_11 ?_
          refine callV1 C0 h (hD _ _ _) mw_X9_refuse rv_2 tm_X6_25 (fun y hy => c_X9_refuse hy) (Nat.le_of_ble_eq_true rfl) (Nat.le_of_ble_eq_true rfl) dX6_addLine_85 (fun r16 h => ?_)
          cases h
          exact hz _ _ dX6_addLine_88
      · refine r_aload_n C0 dX6_addLine_48 rfl 0 rfl ?_
        refine wcg_6_1 C0 tf_X6_15 dX6_addLine_49 ?_
        refine r_bipush C0 dX6_addLine_52 kb_8 ?_
        refine callV1 C0 h (hD _ _ _) mw_X9_refuse rv_2 tm_X6_25 (fun y hy => c_X9_refuse hy) (Nat.le_of_ble_eq_true rfl) (Nat.le_of_ble_eq_true rfl) dX6_addLine_54 (fun r17 h => ?_)
        cases h
        exact hz _ _ dX6_addLine_57
    · refine r_aload_n C0 dX6_addLine_30 rfl 0 rfl ?_
      refine wcg_6_1 C0 tf_X6_15 dX6_addLine_31 ?_
      refine r_iconst C0 dX6_addLine_34 ki_2 ?_
      refine callV1 C0 h (hD _ _ _) mw_X9_refuse rv_2 tm_X6_25 (fun y hy => c_X9_refuse hy) (Nat.le_of_ble_eq_true rfl) (Nat.le_of_ble_eq_true rfl) dX6_addLine_35 (fun r18 h => ?_)
      cases h
      exact hz _ _ dX6_addLine_38
  · refine r_ldc C0 tk_X6_48 dX6_addLine_15 ?_
    cases h
    exact hz _ _ dX6_addLine_17
theorem c_X6_addLine {l : Launch} {D : va_G} {cy : Nat → ClassId} {a : Nat → Nat} {V : VT} {J : JT} {K : Nat → Option Nat} {X : va_W} {v1 : Int32} {v2 : Int32} {v3 : Int32} {v4 : Int32} {y : Int32 × VT} (h : f_X6_addLine v1 v2 v3 v4 V = some y) : CT l D cy yX6_addLine cX6_addLine 7 (some .int) 3 [.ref (a 6), .int v1, .int v2, .int v3, .int v4] (WC cy a V J K X) (WC cy a y.2 J K X) (some (.int y.1)) :=
  mkI (by decide) (Nat.le_of_ble_eq_true rfl) (fun Γ _ _ C0 hD hF => w_X6_addLine C0 (dc_of hD) h hF)
theorem dX9_refusesLine_0 : decode cX9_refusesLine 0 = .ok (.aload_n 1, 1) := by decide +kernel
theorem dX9_refusesLine_1 : decode cX9_refusesLine 1 = .ok (.iload_n 2, 1) := by decide +kernel
theorem dX9_refusesLine_2 : decode cX9_refusesLine 2 = .ok (.invokevirtual 43, 3) := by decide +kernel
theorem dX9_refusesLine_5 : decode cX9_refusesLine 5 = .ok (.ifCond .ne 12, 3) := by decide +kernel
theorem dX9_refusesLine_8 : decode cX9_refusesLine 8 = .ok (.aload_n 0, 1) := by decide +kernel
theorem dX9_refusesLine_9 : decode cX9_refusesLine 9 = .ok (.iconst 2, 1) := by decide +kernel
theorem dX9_refusesLine_10 : decode cX9_refusesLine 10 = .ok (.invokevirtual 32, 3) := by decide +kernel
theorem dX9_refusesLine_13 : decode cX9_refusesLine 13 = .ok (.pop, 1) := by decide +kernel
theorem dX9_refusesLine_14 : decode cX9_refusesLine 14 = .ok (.goto 17, 3) := by decide +kernel
theorem dX9_refusesLine_17 : decode cX9_refusesLine 17 = .ok (.aload_n 1, 1) := by decide +kernel
theorem dX9_refusesLine_18 : decode cX9_refusesLine 18 = .ok (.iload_n 2, 1) := by decide +kernel
theorem dX9_refusesLine_19 : decode cX9_refusesLine 19 = .ok (.invokevirtual 46, 3) := by decide +kernel
theorem dX9_refusesLine_22 : decode cX9_refusesLine 22 = .ok (.ifCond .ne 9, 3) := by decide +kernel
theorem dX9_refusesLine_25 : decode cX9_refusesLine 25 = .ok (.aload_n 0, 1) := by decide +kernel
theorem dX9_refusesLine_26 : decode cX9_refusesLine 26 = .ok (.iconst 1, 1) := by decide +kernel
theorem dX9_refusesLine_27 : decode cX9_refusesLine 27 = .ok (.invokevirtual 32, 3) := by decide +kernel
theorem dX9_refusesLine_30 : decode cX9_refusesLine 30 = .ok (.pop, 1) := by decide +kernel
theorem dX9_refusesLine_31 : decode cX9_refusesLine 31 = .ok (.aload_n 0, 1) := by decide +kernel
theorem dX9_refusesLine_32 : decode cX9_refusesLine 32 = .ok (.invokevirtual 39, 3) := by decide +kernel
theorem dX9_refusesLine_35 : decode cX9_refusesLine 35 = .ok (.ireturn, 1) := by decide +kernel
theorem w_X9_refusesLine_j31 {z : (Int32 × VT)} {Γ : Gam} {cy : Nat → ClassId} {a : Nat → Nat} {V : VT} {J : JT} {K : Nat → Option Nat} {X : va_W}  (C0 : CXg Γ cX9_refusesLine 3 3 RX9 cy) (hD : DC Γ cy a X) (h : f_X9_refusesLine_j31 V = some z) (hz : (fun y : Int32 × VT => FinZ Γ cX9_refusesLine (WC cy a y.2 J K X) y.1) z) : Wp Γ 0 0 31 [(0, .ref (a 2))] [] (WC cy a V J K X) := by
  unfold f_X9_refusesLine_j31 at h
  refine r_aload_n C0 dX9_refusesLine_31 rfl 0 rfl ?_
  refine callV0 C0 h (hD _ _ _) mw_X9_isRefusal rv_2 tm_X9_39 (fun y hy => c_X9_isRefusal hy) (Nat.le_of_ble_eq_true rfl) (Nat.le_of_ble_eq_true rfl) dX9_refusesLine_32 (fun r3 h => ?_)
  obtain ⟨q4, h7, h6⟩ := op_bind h
  obtain ⟨rfl, hn⟩ := ckZ_spec h7
  cases h6
  exact hz _ _ hn dX9_refusesLine_35
theorem w_X9_refusesLine {z : Int32 × VT} {Γ : Gam} {cy : Nat → ClassId} {a : Nat → Nat} {V : VT} {J : JT} {K : Nat → Option Nat} {X : va_W} {v2 : Int32}  (C0 : CXg Γ cX9_refusesLine 3 3 RX9 cy) (hD : DC Γ cy a X) (h : f_X9_refusesLine v2 V = some z) (hz : (fun y : Int32 × VT => FinZ Γ cX9_refusesLine (WC cy a y.2 J K X) y.1) z) : Wp Γ 0 0 0 [(0, .ref (a 2)), (1, .ref (a 3)), (2, .int v2)] [] (WC cy a V J K X) := by
  unfold f_X9_refusesLine at h
  refine r_aload_n C0 dX9_refusesLine_0 rfl 1 rfl ?_
  refine r_iload_n C0 dX9_refusesLine_1 rfl 2 rfl ?_
  refine callV1 C0 h (hD _ _ _) mw_X3_isLine rv_3 tm_X9_43 (fun y hy => c_X3_isLine hy) (Nat.le_of_ble_eq_true rfl) (Nat.le_of_ble_eq_true rfl) dX9_refusesLine_2 (fun r1 h => ?_)
  refine r_if_ne C0 17 dX9_refusesLine_5 rfl h (fun _ h => ?_) (fun _ h => ?_)
  · refine r_aload_n C0 dX9_refusesLine_17 rfl 1 rfl ?_
    refine r_iload_n C0 dX9_refusesLine_18 rfl 2 rfl ?_
    refine callV1 C0 h (hD _ _ _) mw_X3_isLineThere rv_3 tm_X9_46 (fun y hy => c_X3_isLineThere hy) (Nat.le_of_ble_eq_true rfl) (Nat.le_of_ble_eq_true rfl) dX9_refusesLine_19 (fun r2 h => ?_)
    refine r_if_ne C0 31 dX9_refusesLine_22 rfl h (fun _ h => ?_) (fun _ h => ?_)
    · exact r_sub [0] rfl (w_X9_refusesLine_j31 C0 hD h hz)
    · refine r_aload_n C0 dX9_refusesLine_25 rfl 0 rfl ?_
      refine r_iconst C0 dX9_refusesLine_26 ki_1 ?_
      refine callV1 C0 h (hD _ _ _) mw_X9_refuse rv_2 tm_X9_32 (fun y hy => c_X9_refuse hy) (Nat.le_of_ble_eq_true rfl) (Nat.le_of_ble_eq_true rfl) dX9_refusesLine_27 (fun r5 h => ?_)
      refine r_pop C0 dX9_refusesLine_30 rfl ?_
      exact r_sub [0] rfl (w_X9_refusesLine_j31 C0 hD h hz)
  · refine r_aload_n C0 dX9_refusesLine_8 rfl 0 rfl ?_
    refine r_iconst C0 dX9_refusesLine_9 ki_2 ?_
    refine callV1 C0 h (hD _ _ _) mw_X9_refuse rv_2 tm_X9_32 (fun y hy => c_X9_refuse hy) (Nat.le_of_ble_eq_true rfl) (Nat.le_of_ble_eq_true rfl) dX9_refusesLine_10 (fun r6 h => ?_)
    refine r_pop C0 dX9_refusesLine_13 rfl ?_
    refine r_goto C0 31 dX9_refusesLine_14 rfl ?_
    exact r_sub [0] rfl (w_X9_refusesLine_j31 C0 hD h hz)
theorem c_X9_refusesLine {l : Launch} {D : va_G} {cy : Nat → ClassId} {a : Nat → Nat} {V : VT} {J : JT} {K : Nat → Option Nat} {X : va_W} {v2 : Int32} {y : Int32 × VT} (h : f_X9_refusesLine v2 V = some y) : CT l D cy yX9_refusesLine cX9_refusesLine 3 (some .boolean) 3 [.ref (a 2), .ref (a 3), .int v2] (WC cy a V J K X) (WC cy a y.2 J K X) (some (.int y.1)) :=
  mkZ (by decide) (Nat.le_of_ble_eq_true rfl) (fun Γ _ _ C0 hD hF => w_X9_refusesLine C0 (dc_of hD) h hF)
theorem dX6_wearPart_0 : decode cX6_wearPart 0 = .ok (.aload_n 0, 1) := by decide +kernel
theorem dX6_wearPart_1 : decode cX6_wearPart 1 = .ok (.getfield 15, 3) := by decide +kernel
theorem dX6_wearPart_4 : decode cX6_wearPart 4 = .ok (.aload_n 0, 1) := by decide +kernel
theorem dX6_wearPart_5 : decode cX6_wearPart 5 = .ok (.getfield 9, 3) := by decide +kernel
theorem dX6_wearPart_8 : decode cX6_wearPart 8 = .ok (.iload_n 1, 1) := by decide +kernel
theorem dX6_wearPart_9 : decode cX6_wearPart 9 = .ok (.invokevirtual 84, 3) := by decide +kernel
theorem dX6_wearPart_12 : decode cX6_wearPart 12 = .ok (.ifCond .eq 6, 3) := by decide +kernel
theorem dX6_wearPart_15 : decode cX6_wearPart 15 = .ok (.ldc 48, 2) := by decide +kernel
theorem dX6_wearPart_17 : decode cX6_wearPart 17 = .ok (.ireturn, 1) := by decide +kernel
theorem dX6_wearPart_18 : decode cX6_wearPart 18 = .ok (.iload_n 2, 1) := by decide +kernel
theorem dX6_wearPart_19 : decode cX6_wearPart 19 = .ok (.ifCond .lt 19, 3) := by decide +kernel
theorem dX6_wearPart_22 : decode cX6_wearPart 22 = .ok (.iload_n 2, 1) := by decide +kernel
theorem dX6_wearPart_23 : decode cX6_wearPart 23 = .ok (.aload_n 0, 1) := by decide +kernel
theorem dX6_wearPart_24 : decode cX6_wearPart 24 = .ok (.getfield 9, 3) := by decide +kernel
theorem dX6_wearPart_27 : decode cX6_wearPart 27 = .ok (.getfield 69, 3) := by decide +kernel
theorem dX6_wearPart_30 : decode cX6_wearPart 30 = .ok (.iload_n 1, 1) := by decide +kernel
theorem dX6_wearPart_31 : decode cX6_wearPart 31 = .ok (.iconst 2, 1) := by decide +kernel
theorem dX6_wearPart_32 : decode cX6_wearPart 32 = .ok (.invokevirtual 81, 3) := by decide +kernel
theorem dX6_wearPart_35 : decode cX6_wearPart 35 = .ok (.if_icmp .lt 12, 3) := by decide +kernel
theorem dX6_wearPart_38 : decode cX6_wearPart 38 = .ok (.aload_n 0, 1) := by decide +kernel
theorem dX6_wearPart_39 : decode cX6_wearPart 39 = .ok (.getfield 15, 3) := by decide +kernel
theorem dX6_wearPart_42 : decode cX6_wearPart 42 = .ok (.iconst 2, 1) := by decide +kernel
theorem dX6_wearPart_43 : decode cX6_wearPart 43 = .ok (.invokevirtual 25, 3) := by decide +kernel
theorem dX6_wearPart_46 : decode cX6_wearPart 46 = .ok (.ireturn, 1) := by decide +kernel
theorem dX6_wearPart_47 : decode cX6_wearPart 47 = .ok (.iload_n 3, 1) := by decide +kernel
theorem dX6_wearPart_48 : decode cX6_wearPart 48 = .ok (.ifCond .lt 10, 3) := by decide +kernel
theorem dX6_wearPart_51 : decode cX6_wearPart 51 = .ok (.iload_n 3, 1) := by decide +kernel
theorem dX6_wearPart_52 : decode cX6_wearPart 52 = .ok (.sipush 30000, 3) := by decide +kernel
theorem dX6_wearPart_55 : decode cX6_wearPart 55 = .ok (.if_icmp .le 13, 3) := by decide +kernel
theorem dX6_wearPart_58 : decode cX6_wearPart 58 = .ok (.aload_n 0, 1) := by decide +kernel
theorem dX6_wearPart_59 : decode cX6_wearPart 59 = .ok (.getfield 15, 3) := by decide +kernel
theorem dX6_wearPart_62 : decode cX6_wearPart 62 = .ok (.bipush 7, 2) := by decide +kernel
theorem dX6_wearPart_64 : decode cX6_wearPart 64 = .ok (.invokevirtual 25, 3) := by decide +kernel
theorem dX6_wearPart_67 : decode cX6_wearPart 67 = .ok (.ireturn, 1) := by decide +kernel
theorem dX6_wearPart_68 : decode cX6_wearPart 68 = .ok (.iconst 0, 1) := by decide +kernel
theorem dX6_wearPart_69 : decode cX6_wearPart 69 = .ok (.aload_n 0, 1) := by decide +kernel
theorem dX6_wearPart_70 : decode cX6_wearPart 70 = .ok (.getfield 9, 3) := by decide +kernel
theorem dX6_wearPart_73 : decode cX6_wearPart 73 = .ok (.getfield 69, 3) := by decide +kernel
theorem dX6_wearPart_76 : decode cX6_wearPart 76 = .ok (.iload_n 1, 1) := by decide +kernel
theorem dX6_wearPart_77 : decode cX6_wearPart 77 = .ok (.iconst 4, 1) := by decide +kernel
theorem dX6_wearPart_78 : decode cX6_wearPart 78 = .ok (.iload_n 2, 1) := by decide +kernel
theorem dX6_wearPart_79 : decode cX6_wearPart 79 = .ok (.iadd, 1) := by decide +kernel
theorem dX6_wearPart_80 : decode cX6_wearPart 80 = .ok (.invokevirtual 81, 3) := by decide +kernel
theorem dX6_wearPart_83 : decode cX6_wearPart 83 = .ok (.iload_n 3, 1) := by decide +kernel
theorem dX6_wearPart_84 : decode cX6_wearPart 84 = .ok (.isub, 1) := by decide +kernel
theorem dX6_wearPart_85 : decode cX6_wearPart 85 = .ok (.invokestatic 87, 3) := by decide +kernel
theorem dX6_wearPart_88 : decode cX6_wearPart 88 = .ok (.istore 4, 2) := by decide +kernel
theorem dX6_wearPart_90 : decode cX6_wearPart 90 = .ok (.aload_n 0, 1) := by decide +kernel
theorem dX6_wearPart_91 : decode cX6_wearPart 91 = .ok (.getfield 9, 3) := by decide +kernel
theorem dX6_wearPart_94 : decode cX6_wearPart 94 = .ok (.getfield 69, 3) := by decide +kernel
theorem dX6_wearPart_97 : decode cX6_wearPart 97 = .ok (.iload_n 1, 1) := by decide +kernel
theorem dX6_wearPart_98 : decode cX6_wearPart 98 = .ok (.iconst 4, 1) := by decide +kernel
theorem dX6_wearPart_99 : decode cX6_wearPart 99 = .ok (.iload_n 2, 1) := by decide +kernel
theorem dX6_wearPart_100 : decode cX6_wearPart 100 = .ok (.iadd, 1) := by decide +kernel
theorem dX6_wearPart_101 : decode cX6_wearPart 101 = .ok (.iload 4, 2) := by decide +kernel
theorem dX6_wearPart_103 : decode cX6_wearPart 103 = .ok (.invokevirtual 38, 3) := by decide +kernel
theorem dX6_wearPart_106 : decode cX6_wearPart 106 = .ok (.iload 4, 2) := by decide +kernel
theorem dX6_wearPart_108 : decode cX6_wearPart 108 = .ok (.ireturn, 1) := by decide +kernel
theorem w_X6_wearPart_j38 {z : (Int32 × VT)} {Γ : Gam} {cy : Nat → ClassId} {a : Nat → Nat} {V : VT} {J : JT} {K : Nat → Option Nat} {X : va_W}  (C0 : CXg Γ cX6_wearPart 5 4 RX6 cy) (hD : DC Γ cy a X) (h : f_X6_wearPart_j38 V = some z) (hz : (fun y : Int32 × VT => FinI Γ cX6_wearPart (WC cy a y.2 J K X) y.1) z) : Wp Γ 0 0 38 [(0, .ref (a 6))] [] (WC cy a V J K X) := by
  unfold f_X6_wearPart_j38 at h
  refine r_aload_n C0 dX6_wearPart_38 rfl 0 rfl ?_
  refine wcg_6_1 C0 tf_X6_15 dX6_wearPart_39 ?_
  refine r_iconst C0 dX6_wearPart_42 ki_2 ?_
  refine callV1 C0 h (hD _ _ _) mw_X9_refuse rv_2 tm_X6_25 (fun y hy => c_X9_refuse hy) (Nat.le_of_ble_eq_true rfl) (Nat.le_of_ble_eq_true rfl) dX6_wearPart_43 (fun r2 h => ?_)
  cases h
  exact hz _ _ dX6_wearPart_46
theorem w_X6_wearPart_j58 {z : (Int32 × VT)} {Γ : Gam} {cy : Nat → ClassId} {a : Nat → Nat} {V : VT} {J : JT} {K : Nat → Option Nat} {X : va_W}  (C0 : CXg Γ cX6_wearPart 5 4 RX6 cy) (hD : DC Γ cy a X) (h : f_X6_wearPart_j58 V = some z) (hz : (fun y : Int32 × VT => FinI Γ cX6_wearPart (WC cy a y.2 J K X) y.1) z) : Wp Γ 0 0 58 [(0, .ref (a 6))] [] (WC cy a V J K X) := by
  unfold f_X6_wearPart_j58 at h
  refine r_aload_n C0 dX6_wearPart_58 rfl 0 rfl ?_
  refine wcg_6_1 C0 tf_X6_15 dX6_wearPart_59 ?_
  refine r_bipush C0 dX6_wearPart_62 kb_7 ?_
  refine callV1 C0 h (hD _ _ _) mw_X9_refuse rv_2 tm_X6_25 (fun y hy => c_X9_refuse hy) (Nat.le_of_ble_eq_true rfl) (Nat.le_of_ble_eq_true rfl) dX6_wearPart_64 (fun r4 h => ?_)
  cases h
  exact hz _ _ dX6_wearPart_67
theorem w_X6_wearPart {z : Int32 × VT} {Γ : Gam} {cy : Nat → ClassId} {a : Nat → Nat} {V : VT} {J : JT} {K : Nat → Option Nat} {X : va_W} {v1 : Int32} {v2 : Int32} {v3 : Int32}  (C0 : CXg Γ cX6_wearPart 5 4 RX6 cy) (hD : DC Γ cy a X) (h : f_X6_wearPart v1 v2 v3 V = some z) (hz : (fun y : Int32 × VT => FinI Γ cX6_wearPart (WC cy a y.2 J K X) y.1) z) : Wp Γ 0 0 0 [(0, .ref (a 6)), (1, .int v1), (2, .int v2), (3, .int v3)] [] (WC cy a V J K X) := by
  unfold f_X6_wearPart at h
  refine r_aload_n C0 dX6_wearPart_0 rfl 0 rfl ?_
  refine wcg_6_1 C0 tf_X6_15 dX6_wearPart_1 ?_
  refine r_aload_n C0 dX6_wearPart_4 rfl 0 rfl ?_
  refine wcg_6_0 C0 tf_X6_9 dX6_wearPart_5 ?_
  refine r_iload_n C0 dX6_wearPart_8 rfl 1 rfl ?_
  refine callV2 C0 h (hD _ _ _) mw_X9_refusesLine rv_2 tm_X6_84 (fun y hy => c_X9_refusesLine hy) (Nat.le_of_ble_eq_true rfl) (Nat.le_of_ble_eq_true rfl) dX6_wearPart_9 (fun r1 h => ?_)
  refine r_if_eq C0 18 dX6_wearPart_12 rfl h (fun _ h => ?_) (fun _ h => ?_)
  · refine r_iload_n C0 dX6_wearPart_18 rfl 2 rfl ?_
    refine r_if_lt C0 38 dX6_wearPart_19 rfl h (fun _ h => ?_) (fun _ h => ?_)
    · exact r_sub [0] rfl (w_X6_wearPart_j38 C0 hD h hz)
    · refine r_iload_n C0 dX6_wearPart_22 rfl 2 rfl ?_
      refine r_aload_n C0 dX6_wearPart_23 rfl 0 rfl ?_
      refine wcg_6_0 C0 tf_X6_9 dX6_wearPart_24 ?_
      refine wcg_3_2 C0 tf_X6_69 dX6_wearPart_27 ?_
      refine r_iload_n C0 dX6_wearPart_30 rfl 1 rfl ?_
      refine r_iconst C0 dX6_wearPart_31 ki_2 ?_
      refine callV2 C0 h (hD _ _ _) mw_X7_get (rv_t tb_12) tm_X6_81 (fun y hy => c_X7_get tb_12 hy) (Nat.le_of_ble_eq_true rfl) (Nat.le_of_ble_eq_true rfl) dX6_wearPart_32 (fun r3 h => ?_)
      refine r_icmp_lt C0 47 dX6_wearPart_35 rfl h (fun _ h => ?_) (fun _ h => ?_)
      · refine r_iload_n C0 dX6_wearPart_47 rfl 3 rfl ?_
        refine r_if_lt C0 58 dX6_wearPart_48 rfl h (fun _ h => ?_) (fun _ h => ?_)
        · exact r_sub [0] rfl (w_X6_wearPart_j58 C0 hD h hz)
        · refine r_iload_n C0 dX6_wearPart_51 rfl 3 rfl ?_
          refine r_sipush C0 dX6_wearPart_52 ks_30000 ?_
          refine r_icmp_le C0 68 dX6_wearPart_55 rfl h (fun _ h => ?_) (fun _ h => ?_)
          · refine r_iconst C0 dX6_wearPart_68 ki_0 ?_
            refine r_aload_n C0 dX6_wearPart_69 rfl 0 rfl ?_
            refine wcg_6_0 C0 tf_X6_9 dX6_wearPart_70 ?_
            refine wcg_3_2 C0 tf_X6_69 dX6_wearPart_73 ?_
            refine r_iload_n C0 dX6_wearPart_76 rfl 1 rfl ?_
            refine r_iconst C0 dX6_wearPart_77 ki_4 ?_
            refine r_iload_n C0 dX6_wearPart_78 rfl 2 rfl ?_
            refine r_iadd C0 dX6_wearPart_79 ?_
            refine callV2 C0 h (hD _ _ _) mw_X7_get (rv_t tb_12) tm_X6_81 (fun y hy => c_X7_get tb_12 hy) (Nat.le_of_ble_eq_true rfl) (Nat.le_of_ble_eq_true rfl) dX6_wearPart_80 (fun r5 h => ?_)
            refine r_iload_n C0 dX6_wearPart_83 rfl 3 rfl ?_
            refine r_isub C0 dX6_wearPart_84 ?_
            refine r_mmax C0 dX6_wearPart_85 tm_X6_87 (Nat.le_of_ble_eq_true rfl) (Nat.le_of_ble_eq_true rfl) ?_
            obtain ⟨a6, h8, h⟩ := op_bind h
            have e8 := Option.some.inj h8
            refine r_istore (lv2 := [(4, .int a6), (0, .ref (a 6)), (1, .int v1), (2, .int v2), (3, .int v3)]) C0 dX6_wearPart_88 e8 (Nat.le_of_ble_eq_true rfl) rfl ?_
            refine r_aload_n C0 dX6_wearPart_90 rfl 1 rfl ?_
            refine wcg_6_0 C0 tf_X6_9 dX6_wearPart_91 ?_
            refine wcg_3_2 C0 tf_X6_69 dX6_wearPart_94 ?_
            refine r_iload_n C0 dX6_wearPart_97 rfl 2 rfl ?_
            refine r_iconst C0 dX6_wearPart_98 ki_4 ?_
            refine r_iload_n C0 dX6_wearPart_99 rfl 3 rfl ?_
            refine r_iadd C0 dX6_wearPart_100 ?_
            refine r_iload C0 dX6_wearPart_101 0 rfl ?_
            refine callVv3 C0 h (hD _ _ _) mw_X7_set (rv_t tb_12) tm_X6_38 (fun y hy => c_X7_set tb_12 hy) (Nat.le_of_ble_eq_true rfl) (Nat.le_of_ble_eq_true rfl) dX6_wearPart_103 (fun r7 h => ?_)
            refine r_iload C0 dX6_wearPart_106 0 rfl ?_
            cases h
            exact hz _ _ dX6_wearPart_108
          · exact r_sub [0] rfl (w_X6_wearPart_j58 C0 hD h hz)
      · exact r_sub [0] rfl (w_X6_wearPart_j38 C0 hD h hz)
  · refine r_ldc C0 tk_X6_48 dX6_wearPart_15 ?_
    cases h
    exact hz _ _ dX6_wearPart_17
theorem c_X6_wearPart {l : Launch} {D : va_G} {cy : Nat → ClassId} {a : Nat → Nat} {V : VT} {J : JT} {K : Nat → Option Nat} {X : va_W} {v1 : Int32} {v2 : Int32} {v3 : Int32} {y : Int32 × VT} (h : f_X6_wearPart v1 v2 v3 V = some y) : CT l D cy yX6_wearPart cX6_wearPart 5 (some .int) 4 [.ref (a 6), .int v1, .int v2, .int v3] (WC cy a V J K X) (WC cy a y.2 J K X) (some (.int y.1)) :=
  mkI (by decide) (Nat.le_of_ble_eq_true rfl) (fun Γ _ _ C0 hD hF => w_X6_wearPart C0 (dc_of hD) h hF)
theorem dX6_cutLine_0 : decode cX6_cutLine 0 = .ok (.aload_n 0, 1) := by decide +kernel
theorem dX6_cutLine_1 : decode cX6_cutLine 1 = .ok (.getfield 15, 3) := by decide +kernel
theorem dX6_cutLine_4 : decode cX6_cutLine 4 = .ok (.aload_n 0, 1) := by decide +kernel
theorem dX6_cutLine_5 : decode cX6_cutLine 5 = .ok (.getfield 9, 3) := by decide +kernel
theorem dX6_cutLine_8 : decode cX6_cutLine 8 = .ok (.iload_n 1, 1) := by decide +kernel
theorem dX6_cutLine_9 : decode cX6_cutLine 9 = .ok (.invokevirtual 84, 3) := by decide +kernel
theorem dX6_cutLine_12 : decode cX6_cutLine 12 = .ok (.ifCond .eq 6, 3) := by decide +kernel
theorem dX6_cutLine_15 : decode cX6_cutLine 15 = .ok (.ldc 48, 2) := by decide +kernel
theorem dX6_cutLine_17 : decode cX6_cutLine 17 = .ok (.ireturn, 1) := by decide +kernel
theorem dX6_cutLine_18 : decode cX6_cutLine 18 = .ok (.aload_n 0, 1) := by decide +kernel
theorem dX6_cutLine_19 : decode cX6_cutLine 19 = .ok (.getfield 9, 3) := by decide +kernel
theorem dX6_cutLine_22 : decode cX6_cutLine 22 = .ok (.getfield 69, 3) := by decide +kernel
theorem dX6_cutLine_25 : decode cX6_cutLine 25 = .ok (.iload_n 1, 1) := by decide +kernel
theorem dX6_cutLine_26 : decode cX6_cutLine 26 = .ok (.iconst 3, 1) := by decide +kernel
theorem dX6_cutLine_27 : decode cX6_cutLine 27 = .ok (.iconst 0, 1) := by decide +kernel
theorem dX6_cutLine_28 : decode cX6_cutLine 28 = .ok (.invokevirtual 38, 3) := by decide +kernel
theorem dX6_cutLine_31 : decode cX6_cutLine 31 = .ok (.aload_n 0, 1) := by decide +kernel
theorem dX6_cutLine_32 : decode cX6_cutLine 32 = .ok (.getfield 9, 3) := by decide +kernel
theorem dX6_cutLine_35 : decode cX6_cutLine 35 = .ok (.iload_n 1, 1) := by decide +kernel
theorem dX6_cutLine_36 : decode cX6_cutLine 36 = .ok (.invokevirtual 92, 3) := by decide +kernel
theorem dX6_cutLine_39 : decode cX6_cutLine 39 = .ok (.ireturn, 1) := by decide +kernel
theorem w_X6_cutLine {z : Int32 × VT} {Γ : Gam} {cy : Nat → ClassId} {a : Nat → Nat} {V : VT} {J : JT} {K : Nat → Option Nat} {X : va_W} {v1 : Int32}  (C0 : CXg Γ cX6_cutLine 2 4 RX6 cy) (hD : DC Γ cy a X) (h : f_X6_cutLine v1 V = some z) (hz : (fun y : Int32 × VT => FinI Γ cX6_cutLine (WC cy a y.2 J K X) y.1) z) : Wp Γ 0 0 0 [(0, .ref (a 6)), (1, .int v1)] [] (WC cy a V J K X) := by
  unfold f_X6_cutLine at h
  refine r_aload_n C0 dX6_cutLine_0 rfl 0 rfl ?_
  refine wcg_6_1 C0 tf_X6_15 dX6_cutLine_1 ?_
  refine r_aload_n C0 dX6_cutLine_4 rfl 0 rfl ?_
  refine wcg_6_0 C0 tf_X6_9 dX6_cutLine_5 ?_
  refine r_iload_n C0 dX6_cutLine_8 rfl 1 rfl ?_
  refine callV2 C0 h (hD _ _ _) mw_X9_refusesLine rv_2 tm_X6_84 (fun y hy => c_X9_refusesLine hy) (Nat.le_of_ble_eq_true rfl) (Nat.le_of_ble_eq_true rfl) dX6_cutLine_9 (fun r1 h => ?_)
  refine r_if_eq C0 18 dX6_cutLine_12 rfl h (fun _ h => ?_) (fun _ h => ?_)
  · refine r_aload_n C0 dX6_cutLine_18 rfl 0 rfl ?_
    refine wcg_6_0 C0 tf_X6_9 dX6_cutLine_19 ?_
    refine wcg_3_2 C0 tf_X6_69 dX6_cutLine_22 ?_
    refine r_iload_n C0 dX6_cutLine_25 rfl 1 rfl ?_
    refine r_iconst C0 dX6_cutLine_26 ki_3 ?_
    refine r_iconst C0 dX6_cutLine_27 ki_0 ?_
    refine callVv3 C0 h (hD _ _ _) mw_X7_set (rv_t tb_12) tm_X6_38 (fun y hy => c_X7_set tb_12 hy) (Nat.le_of_ble_eq_true rfl) (Nat.le_of_ble_eq_true rfl) dX6_cutLine_28 (fun r2 h => ?_)
    refine r_aload_n C0 dX6_cutLine_31 rfl 0 rfl ?_
    refine wcg_6_0 C0 tf_X6_9 dX6_cutLine_32 ?_
    refine r_iload_n C0 dX6_cutLine_35 rfl 1 rfl ?_
    refine callV1 C0 h (hD _ _ _) mw_X3_weakestPart rv_3 tm_X6_92 (fun y hy => c_X3_weakestPart hy) (Nat.le_of_ble_eq_true rfl) (Nat.le_of_ble_eq_true rfl) dX6_cutLine_36 (fun r3 h => ?_)
    cases h
    exact hz _ _ dX6_cutLine_39
  · refine r_ldc C0 tk_X6_48 dX6_cutLine_15 ?_
    cases h
    exact hz _ _ dX6_cutLine_17
theorem c_X6_cutLine {l : Launch} {D : va_G} {cy : Nat → ClassId} {a : Nat → Nat} {V : VT} {J : JT} {K : Nat → Option Nat} {X : va_W} {v1 : Int32} {y : Int32 × VT} (h : f_X6_cutLine v1 V = some y) : CT l D cy yX6_cutLine cX6_cutLine 2 (some .int) 4 [.ref (a 6), .int v1] (WC cy a V J K X) (WC cy a y.2 J K X) (some (.int y.1)) :=
  mkI (by decide) (Nat.le_of_ble_eq_true rfl) (fun Γ _ _ C0 hD hF => w_X6_cutLine C0 (dc_of hD) h hF)
theorem dX6_setHook_0 : decode cX6_setHook 0 = .ok (.aload_n 0, 1) := by decide +kernel
theorem dX6_setHook_1 : decode cX6_setHook 1 = .ok (.getfield 15, 3) := by decide +kernel
theorem dX6_setHook_4 : decode cX6_setHook 4 = .ok (.aload_n 0, 1) := by decide +kernel
theorem dX6_setHook_5 : decode cX6_setHook 5 = .ok (.getfield 9, 3) := by decide +kernel
theorem dX6_setHook_8 : decode cX6_setHook 8 = .ok (.iload_n 1, 1) := by decide +kernel
theorem dX6_setHook_9 : decode cX6_setHook 9 = .ok (.invokevirtual 44, 3) := by decide +kernel
theorem dX6_setHook_12 : decode cX6_setHook 12 = .ok (.ifCond .eq 6, 3) := by decide +kernel
theorem dX6_setHook_15 : decode cX6_setHook 15 = .ok (.ldc 48, 2) := by decide +kernel
theorem dX6_setHook_17 : decode cX6_setHook 17 = .ok (.ireturn, 1) := by decide +kernel
theorem dX6_setHook_18 : decode cX6_setHook 18 = .ok (.aload_n 0, 1) := by decide +kernel
theorem dX6_setHook_19 : decode cX6_setHook 19 = .ok (.getfield 9, 3) := by decide +kernel
theorem dX6_setHook_22 : decode cX6_setHook 22 = .ok (.iload_n 1, 1) := by decide +kernel
theorem dX6_setHook_23 : decode cX6_setHook 23 = .ok (.iload_n 2, 1) := by decide +kernel
theorem dX6_setHook_24 : decode cX6_setHook 24 = .ok (.invokevirtual 72, 3) := by decide +kernel
theorem dX6_setHook_27 : decode cX6_setHook 27 = .ok (.ifCond .ne 12, 3) := by decide +kernel
theorem dX6_setHook_30 : decode cX6_setHook 30 = .ok (.aload_n 0, 1) := by decide +kernel
theorem dX6_setHook_31 : decode cX6_setHook 31 = .ok (.getfield 15, 3) := by decide +kernel
theorem dX6_setHook_34 : decode cX6_setHook 34 = .ok (.iconst 2, 1) := by decide +kernel
theorem dX6_setHook_35 : decode cX6_setHook 35 = .ok (.invokevirtual 25, 3) := by decide +kernel
theorem dX6_setHook_38 : decode cX6_setHook 38 = .ok (.ireturn, 1) := by decide +kernel
theorem dX6_setHook_39 : decode cX6_setHook 39 = .ok (.aload_n 0, 1) := by decide +kernel
theorem dX6_setHook_40 : decode cX6_setHook 40 = .ok (.getfield 9, 3) := by decide +kernel
theorem dX6_setHook_43 : decode cX6_setHook 43 = .ok (.getfield 95, 3) := by decide +kernel
theorem dX6_setHook_46 : decode cX6_setHook 46 = .ok (.iload_n 1, 1) := by decide +kernel
theorem dX6_setHook_47 : decode cX6_setHook 47 = .ok (.iload_n 2, 1) := by decide +kernel
theorem dX6_setHook_48 : decode cX6_setHook 48 = .ok (.invokevirtual 81, 3) := by decide +kernel
theorem dX6_setHook_51 : decode cX6_setHook 51 = .ok (.istore 4, 2) := by decide +kernel
theorem dX6_setHook_53 : decode cX6_setHook 53 = .ok (.iload 4, 2) := by decide +kernel
theorem dX6_setHook_55 : decode cX6_setHook 55 = .ok (.iconst 2, 1) := by decide +kernel
theorem dX6_setHook_56 : decode cX6_setHook 56 = .ok (.if_icmp .lt 13, 3) := by decide +kernel
theorem dX6_setHook_59 : decode cX6_setHook 59 = .ok (.aload_n 0, 1) := by decide +kernel
theorem dX6_setHook_60 : decode cX6_setHook 60 = .ok (.getfield 15, 3) := by decide +kernel
theorem dX6_setHook_63 : decode cX6_setHook 63 = .ok (.bipush 12, 2) := by decide +kernel
theorem dX6_setHook_65 : decode cX6_setHook 65 = .ok (.invokevirtual 25, 3) := by decide +kernel
theorem dX6_setHook_68 : decode cX6_setHook 68 = .ok (.ireturn, 1) := by decide +kernel
theorem dX6_setHook_69 : decode cX6_setHook 69 = .ok (.aload_n 0, 1) := by decide +kernel
theorem dX6_setHook_70 : decode cX6_setHook 70 = .ok (.getfield 9, 3) := by decide +kernel
theorem dX6_setHook_73 : decode cX6_setHook 73 = .ok (.getfield 95, 3) := by decide +kernel
theorem dX6_setHook_76 : decode cX6_setHook 76 = .ok (.iload_n 1, 1) := by decide +kernel
theorem dX6_setHook_77 : decode cX6_setHook 77 = .ok (.iload_n 2, 1) := by decide +kernel
theorem dX6_setHook_78 : decode cX6_setHook 78 = .ok (.iload_n 3, 1) := by decide +kernel
theorem dX6_setHook_79 : decode cX6_setHook 79 = .ok (.ifCond .eq 7, 3) := by decide +kernel
theorem dX6_setHook_82 : decode cX6_setHook 82 = .ok (.iconst 1, 1) := by decide +kernel
theorem dX6_setHook_83 : decode cX6_setHook 83 = .ok (.goto 4, 3) := by decide +kernel
theorem dX6_setHook_86 : decode cX6_setHook 86 = .ok (.iconst 0, 1) := by decide +kernel
theorem dX6_setHook_87 : decode cX6_setHook 87 = .ok (.invokevirtual 38, 3) := by decide +kernel
theorem dX6_setHook_90 : decode cX6_setHook 90 = .ok (.iload 4, 2) := by decide +kernel
theorem dX6_setHook_92 : decode cX6_setHook 92 = .ok (.iconst 1, 1) := by decide +kernel
theorem dX6_setHook_93 : decode cX6_setHook 93 = .ok (.if_icmp .ne 7, 3) := by decide +kernel
theorem dX6_setHook_96 : decode cX6_setHook 96 = .ok (.iconst 1, 1) := by decide +kernel
theorem dX6_setHook_97 : decode cX6_setHook 97 = .ok (.goto 4, 3) := by decide +kernel
theorem dX6_setHook_100 : decode cX6_setHook 100 = .ok (.iconst 0, 1) := by decide +kernel
theorem dX6_setHook_101 : decode cX6_setHook 101 = .ok (.ireturn, 1) := by decide +kernel
theorem w_X6_setHook_j87 {z : (Int32 × VT)} {Γ : Gam} {cy : Nat → ClassId} {a : Nat → Nat} {V : VT} {J : JT} {K : Nat → Option Nat} {X : va_W} {v4 : Int32} {s1 : Int32} {s2 : Int32} {s3 : Int32}  (C0 : CXg Γ cX6_setHook 5 3 RX6 cy) (hD : DC Γ cy a X) (h : f_X6_setHook_j87 v4 s1 s2 s3 V = some z) (hz : (fun y : Int32 × VT => FinI Γ cX6_setHook (WC cy a y.2 J K X) y.1) z) : Wp Γ 0 0 87 [(4, .int v4)] [.int s3, .int s2, .int s1, .ref (a 11)] (WC cy a V J K X) := by
  unfold f_X6_setHook_j87 at h
  refine callVv3 C0 h (hD _ _ _) mw_X7_set (rv_t tb_11) tm_X6_38 (fun y hy => c_X7_set tb_11 hy) (Nat.le_of_ble_eq_true rfl) (Nat.le_of_ble_eq_true rfl) dX6_setHook_87 (fun r4 h => ?_)
  refine r_iload C0 dX6_setHook_90 0 rfl ?_
  refine r_iconst C0 dX6_setHook_92 ki_1 ?_
  refine r_icmp_ne C0 100 dX6_setHook_93 rfl h (fun _ h => ?_) (fun _ h => ?_)
  · refine r_iconst C0 dX6_setHook_100 ki_0 ?_
    cases h
    exact hz _ _ dX6_setHook_101
  · refine r_iconst C0 dX6_setHook_96 ki_1 ?_
    refine r_goto C0 101 dX6_setHook_97 rfl ?_
    cases h
    exact hz _ _ dX6_setHook_101
theorem w_X6_setHook {z : Int32 × VT} {Γ : Gam} {cy : Nat → ClassId} {a : Nat → Nat} {V : VT} {J : JT} {K : Nat → Option Nat} {X : va_W} {v1 : Int32} {v2 : Int32} {v3 : Int32}  (C0 : CXg Γ cX6_setHook 5 3 RX6 cy) (hD : DC Γ cy a X) (h : f_X6_setHook v1 v2 v3 V = some z) (hz : (fun y : Int32 × VT => FinI Γ cX6_setHook (WC cy a y.2 J K X) y.1) z) : Wp Γ 0 0 0 [(0, .ref (a 6)), (1, .int v1), (2, .int v2), (3, .int v3)] [] (WC cy a V J K X) := by
  unfold f_X6_setHook at h
  refine r_aload_n C0 dX6_setHook_0 rfl 0 rfl ?_
  refine wcg_6_1 C0 tf_X6_15 dX6_setHook_1 ?_
  refine r_aload_n C0 dX6_setHook_4 rfl 0 rfl ?_
  refine wcg_6_0 C0 tf_X6_9 dX6_setHook_5 ?_
  refine r_iload_n C0 dX6_setHook_8 rfl 1 rfl ?_
  refine callV2 C0 h (hD _ _ _) mw_X9_refusesBar rv_2 tm_X6_44 (fun y hy => c_X9_refusesBar hy) (Nat.le_of_ble_eq_true rfl) (Nat.le_of_ble_eq_true rfl) dX6_setHook_9 (fun r1 h => ?_)
  refine r_if_eq C0 18 dX6_setHook_12 rfl h (fun _ h => ?_) (fun _ h => ?_)
  · refine r_aload_n C0 dX6_setHook_18 rfl 0 rfl ?_
    refine wcg_6_0 C0 tf_X6_9 dX6_setHook_19 ?_
    refine r_iload_n C0 dX6_setHook_22 rfl 1 rfl ?_
    refine r_iload_n C0 dX6_setHook_23 rfl 2 rfl ?_
    refine callV2 C0 h (hD _ _ _) mw_X3_hasPlace rv_3 tm_X6_72 (fun y hy => c_X3_hasPlace hy) (Nat.le_of_ble_eq_true rfl) (Nat.le_of_ble_eq_true rfl) dX6_setHook_24 (fun r2 h => ?_)
    refine r_if_ne C0 39 dX6_setHook_27 rfl h (fun _ h => ?_) (fun _ h => ?_)
    · refine r_aload_n C0 dX6_setHook_39 rfl 0 rfl ?_
      refine wcg_6_0 C0 tf_X6_9 dX6_setHook_40 ?_
      refine wcg_3_1 C0 tf_X6_95 dX6_setHook_43 ?_
      refine r_iload_n C0 dX6_setHook_46 rfl 1 rfl ?_
      refine r_iload_n C0 dX6_setHook_47 rfl 2 rfl ?_
      refine callV2 C0 h (hD _ _ _) mw_X7_get (rv_t tb_11) tm_X6_81 (fun y hy => c_X7_get tb_11 hy) (Nat.le_of_ble_eq_true rfl) (Nat.le_of_ble_eq_true rfl) dX6_setHook_48 (fun r3 h => ?_)
      refine r_istore (lv2 := [(4, .int r3), (0, .ref (a 6)), (1, .int v1), (2, .int v2), (3, .int v3)]) C0 dX6_setHook_51 rfl (Nat.le_of_ble_eq_true rfl) rfl ?_
      refine r_iload C0 dX6_setHook_53 0 rfl ?_
      refine r_iconst C0 dX6_setHook_55 ki_2 ?_
      refine r_icmp_lt C0 69 dX6_setHook_56 rfl h (fun _ h => ?_) (fun _ h => ?_)
      · refine r_aload_n C0 dX6_setHook_69 rfl 1 rfl ?_
        refine wcg_6_0 C0 tf_X6_9 dX6_setHook_70 ?_
        refine wcg_3_1 C0 tf_X6_95 dX6_setHook_73 ?_
        refine r_iload_n C0 dX6_setHook_76 rfl 2 rfl ?_
        refine r_iload_n C0 dX6_setHook_77 rfl 3 rfl ?_
        refine r_iload_n C0 dX6_setHook_78 rfl 4 rfl ?_
        refine r_if_eq C0 86 dX6_setHook_79 rfl h (fun _ h => ?_) (fun _ h => ?_)
        · refine r_iconst C0 dX6_setHook_86 ki_0 ?_
          exact r_sub [0] rfl (w_X6_setHook_j87 C0 hD h hz)
        · refine r_iconst C0 dX6_setHook_82 ki_1 ?_
          refine r_goto C0 87 dX6_setHook_83 rfl ?_
          exact r_sub [0] rfl (w_X6_setHook_j87 C0 hD h hz)
      · refine r_aload_n C0 dX6_setHook_59 rfl 1 rfl ?_
        refine wcg_6_1 C0 tf_X6_15 dX6_setHook_60 ?_
        refine r_bipush C0 dX6_setHook_63 kb_12 ?_
        refine callV1 C0 h (hD _ _ _) mw_X9_refuse rv_2 tm_X6_25 (fun y hy => c_X9_refuse hy) (Nat.le_of_ble_eq_true rfl) (Nat.le_of_ble_eq_true rfl) dX6_setHook_65 (fun r5 h => ?_)
        cases h
        exact hz _ _ dX6_setHook_68
    · refine r_aload_n C0 dX6_setHook_30 rfl 0 rfl ?_
      refine wcg_6_1 C0 tf_X6_15 dX6_setHook_31 ?_
      refine r_iconst C0 dX6_setHook_34 ki_2 ?_
      refine callV1 C0 h (hD _ _ _) mw_X9_refuse rv_2 tm_X6_25 (fun y hy => c_X9_refuse hy) (Nat.le_of_ble_eq_true rfl) (Nat.le_of_ble_eq_true rfl) dX6_setHook_35 (fun r6 h => ?_)
      cases h
      exact hz _ _ dX6_setHook_38
  · refine r_ldc C0 tk_X6_48 dX6_setHook_15 ?_
    cases h
    exact hz _ _ dX6_setHook_17
theorem c_X6_setHook {l : Launch} {D : va_G} {cy : Nat → ClassId} {a : Nat → Nat} {V : VT} {J : JT} {K : Nat → Option Nat} {X : va_W} {v1 : Int32} {v2 : Int32} {v3 : Int32} {y : Int32 × VT} (h : f_X6_setHook v1 v2 v3 V = some y) : CT l D cy yX6_setHook cX6_setHook 5 (some .int) 3 [.ref (a 6), .int v1, .int v2, .int v3] (WC cy a V J K X) (WC cy a y.2 J K X) (some (.int y.1)) :=
  mkI (by decide) (Nat.le_of_ble_eq_true rfl) (fun Γ _ _ C0 hD hF => w_X6_setHook C0 (dc_of hD) h hF)
theorem dX6_putBricks_0 : decode cX6_putBricks 0 = .ok (.aload_n 0, 1) := by decide +kernel
theorem dX6_putBricks_1 : decode cX6_putBricks 1 = .ok (.getfield 15, 3) := by decide +kernel
theorem dX6_putBricks_4 : decode cX6_putBricks 4 = .ok (.aload_n 0, 1) := by decide +kernel
theorem dX6_putBricks_5 : decode cX6_putBricks 5 = .ok (.getfield 9, 3) := by decide +kernel
theorem dX6_putBricks_8 : decode cX6_putBricks 8 = .ok (.iload_n 1, 1) := by decide +kernel
theorem dX6_putBricks_9 : decode cX6_putBricks 9 = .ok (.invokevirtual 44, 3) := by decide +kernel
theorem dX6_putBricks_12 : decode cX6_putBricks 12 = .ok (.ifCond .eq 6, 3) := by decide +kernel
theorem dX6_putBricks_15 : decode cX6_putBricks 15 = .ok (.ldc 48, 2) := by decide +kernel
theorem dX6_putBricks_17 : decode cX6_putBricks 17 = .ok (.ireturn, 1) := by decide +kernel
theorem dX6_putBricks_18 : decode cX6_putBricks 18 = .ok (.aload_n 0, 1) := by decide +kernel
theorem dX6_putBricks_19 : decode cX6_putBricks 19 = .ok (.getfield 9, 3) := by decide +kernel
theorem dX6_putBricks_22 : decode cX6_putBricks 22 = .ok (.getfield 34, 3) := by decide +kernel
theorem dX6_putBricks_25 : decode cX6_putBricks 25 = .ok (.iload_n 1, 1) := by decide +kernel
theorem dX6_putBricks_26 : decode cX6_putBricks 26 = .ok (.iconst 3, 1) := by decide +kernel
theorem dX6_putBricks_27 : decode cX6_putBricks 27 = .ok (.invokevirtual 81, 3) := by decide +kernel
theorem dX6_putBricks_30 : decode cX6_putBricks 30 = .ok (.i2l, 1) := by decide +kernel
theorem dX6_putBricks_31 : decode cX6_putBricks 31 = .ok (.iload_n 2, 1) := by decide +kernel
theorem dX6_putBricks_32 : decode cX6_putBricks 32 = .ok (.i2l, 1) := by decide +kernel
theorem dX6_putBricks_33 : decode cX6_putBricks 33 = .ok (.ladd, 1) := by decide +kernel
theorem dX6_putBricks_34 : decode cX6_putBricks 34 = .ok (.lstore_n 3, 1) := by decide +kernel
theorem dX6_putBricks_35 : decode cX6_putBricks 35 = .ok (.lload_n 3, 1) := by decide +kernel
theorem dX6_putBricks_36 : decode cX6_putBricks 36 = .ok (.lconst 0, 1) := by decide +kernel
theorem dX6_putBricks_37 : decode cX6_putBricks 37 = .ok (.lcmp, 1) := by decide +kernel
theorem dX6_putBricks_38 : decode cX6_putBricks 38 = .ok (.ifCond .lt 11, 3) := by decide +kernel
theorem dX6_putBricks_41 : decode cX6_putBricks 41 = .ok (.lload_n 3, 1) := by decide +kernel
theorem dX6_putBricks_42 : decode cX6_putBricks 42 = .ok (.ldc2_w 98, 3) := by decide +kernel
theorem dX6_putBricks_45 : decode cX6_putBricks 45 = .ok (.lcmp, 1) := by decide +kernel
theorem dX6_putBricks_46 : decode cX6_putBricks 46 = .ok (.ifCond .le 13, 3) := by decide +kernel
theorem dX6_putBricks_49 : decode cX6_putBricks 49 = .ok (.aload_n 0, 1) := by decide +kernel
theorem dX6_putBricks_50 : decode cX6_putBricks 50 = .ok (.getfield 15, 3) := by decide +kernel
theorem dX6_putBricks_53 : decode cX6_putBricks 53 = .ok (.bipush 7, 2) := by decide +kernel
theorem dX6_putBricks_55 : decode cX6_putBricks 55 = .ok (.invokevirtual 25, 3) := by decide +kernel
theorem dX6_putBricks_58 : decode cX6_putBricks 58 = .ok (.ireturn, 1) := by decide +kernel
theorem dX6_putBricks_59 : decode cX6_putBricks 59 = .ok (.aload_n 0, 1) := by decide +kernel
theorem dX6_putBricks_60 : decode cX6_putBricks 60 = .ok (.getfield 9, 3) := by decide +kernel
theorem dX6_putBricks_63 : decode cX6_putBricks 63 = .ok (.getfield 34, 3) := by decide +kernel
theorem dX6_putBricks_66 : decode cX6_putBricks 66 = .ok (.iload_n 1, 1) := by decide +kernel
theorem dX6_putBricks_67 : decode cX6_putBricks 67 = .ok (.iconst 3, 1) := by decide +kernel
theorem dX6_putBricks_68 : decode cX6_putBricks 68 = .ok (.lload_n 3, 1) := by decide +kernel
theorem dX6_putBricks_69 : decode cX6_putBricks 69 = .ok (.l2i, 1) := by decide +kernel
theorem dX6_putBricks_70 : decode cX6_putBricks 70 = .ok (.invokevirtual 38, 3) := by decide +kernel
theorem dX6_putBricks_73 : decode cX6_putBricks 73 = .ok (.lload_n 3, 1) := by decide +kernel
theorem dX6_putBricks_74 : decode cX6_putBricks 74 = .ok (.l2i, 1) := by decide +kernel
theorem dX6_putBricks_75 : decode cX6_putBricks 75 = .ok (.ireturn, 1) := by decide +kernel
theorem w_X6_putBricks_j49 {z : (Int32 × VT)} {Γ : Gam} {cy : Nat → ClassId} {a : Nat → Nat} {V : VT} {J : JT} {K : Nat → Option Nat} {X : va_W}  (C0 : CXg Γ cX6_putBricks 5 3 RX6 cy) (hD : DC Γ cy a X) (h : f_X6_putBricks_j49 V = some z) (hz : (fun y : Int32 × VT => FinI Γ cX6_putBricks (WC cy a y.2 J K X) y.1) z) : Wp Γ 0 0 49 [(0, .ref (a 6))] [] (WC cy a V J K X) := by
  unfold f_X6_putBricks_j49 at h
  refine r_aload_n C0 dX6_putBricks_49 rfl 0 rfl ?_
  refine wcg_6_1 C0 tf_X6_15 dX6_putBricks_50 ?_
  refine r_bipush C0 dX6_putBricks_53 kb_7 ?_
  refine callV1 C0 h (hD _ _ _) mw_X9_refuse rv_2 tm_X6_25 (fun y hy => c_X9_refuse hy) (Nat.le_of_ble_eq_true rfl) (Nat.le_of_ble_eq_true rfl) dX6_putBricks_55 (fun r4 h => ?_)
  cases h
  exact hz _ _ dX6_putBricks_58
theorem w_X6_putBricks {z : Int32 × VT} {Γ : Gam} {cy : Nat → ClassId} {a : Nat → Nat} {V : VT} {J : JT} {K : Nat → Option Nat} {X : va_W} {v1 : Int32} {v2 : Int32}  (C0 : CXg Γ cX6_putBricks 5 3 RX6 cy) (hD : DC Γ cy a X) (h : f_X6_putBricks v1 v2 V = some z) (hz : (fun y : Int32 × VT => FinI Γ cX6_putBricks (WC cy a y.2 J K X) y.1) z) : Wp Γ 0 0 0 [(0, .ref (a 6)), (1, .int v1), (2, .int v2)] [] (WC cy a V J K X) := by
  unfold f_X6_putBricks at h
  refine r_aload_n C0 dX6_putBricks_0 rfl 0 rfl ?_
  refine wcg_6_1 C0 tf_X6_15 dX6_putBricks_1 ?_
  refine r_aload_n C0 dX6_putBricks_4 rfl 0 rfl ?_
  refine wcg_6_0 C0 tf_X6_9 dX6_putBricks_5 ?_
  refine r_iload_n C0 dX6_putBricks_8 rfl 1 rfl ?_
  refine callV2 C0 h (hD _ _ _) mw_X9_refusesBar rv_2 tm_X6_44 (fun y hy => c_X9_refusesBar hy) (Nat.le_of_ble_eq_true rfl) (Nat.le_of_ble_eq_true rfl) dX6_putBricks_9 (fun r1 h => ?_)
  refine r_if_eq C0 18 dX6_putBricks_12 rfl h (fun _ h => ?_) (fun _ h => ?_)
  · refine r_aload_n C0 dX6_putBricks_18 rfl 0 rfl ?_
    refine wcg_6_0 C0 tf_X6_9 dX6_putBricks_19 ?_
    refine wcg_3_0 C0 tf_X6_34 dX6_putBricks_22 ?_
    refine r_iload_n C0 dX6_putBricks_25 rfl 1 rfl ?_
    refine r_iconst C0 dX6_putBricks_26 ki_3 ?_
    refine callV2 C0 h (hD _ _ _) mw_X7_get (rv_t tb_10) tm_X6_81 (fun y hy => c_X7_get tb_10 hy) (Nat.le_of_ble_eq_true rfl) (Nat.le_of_ble_eq_true rfl) dX6_putBricks_27 (fun r2 h => ?_)
    refine r_i2l C0 dX6_putBricks_30 ?_
    refine r_iload_n C0 dX6_putBricks_31 rfl 2 rfl ?_
    refine r_i2l C0 dX6_putBricks_32 ?_
    refine r_ladd C0 dX6_putBricks_33 ?_
    obtain ⟨a3, h8, h⟩ := op_bind h
    have e8 := Option.some.inj h8
    refine r_lstore_n (lv2 := [(3, .long a3), (0, .ref (a 6)), (1, .int v1), (2, .int v2)]) C0 dX6_putBricks_34 rfl e8 (Nat.le_of_ble_eq_true rfl) rfl ?_
    refine r_lload_n C0 dX6_putBricks_35 rfl 0 rfl ?_
    refine r_lconst (v := 0) C0 dX6_putBricks_36 (by decide) ?_
    refine r_lcmp C0 dX6_putBricks_37 ?_
    refine r_if_lt C0 49 dX6_putBricks_38 rfl h (fun _ h => ?_) (fun _ h => ?_)
    · exact r_sub [1] rfl (w_X6_putBricks_j49 C0 hD h hz)
    · refine r_lload_n C0 dX6_putBricks_41 rfl 0 rfl ?_
      refine r_ldc2 C0 tk_X6_98 dX6_putBricks_42 ?_
      refine r_lcmp C0 dX6_putBricks_45 ?_
      refine r_if_le C0 59 dX6_putBricks_46 rfl h (fun _ h => ?_) (fun _ h => ?_)
      · refine r_aload_n C0 dX6_putBricks_59 rfl 1 rfl ?_
        refine wcg_6_0 C0 tf_X6_9 dX6_putBricks_60 ?_
        refine wcg_3_0 C0 tf_X6_34 dX6_putBricks_63 ?_
        refine r_iload_n C0 dX6_putBricks_66 rfl 2 rfl ?_
        refine r_iconst C0 dX6_putBricks_67 ki_3 ?_
        refine r_lload_n C0 dX6_putBricks_68 rfl 0 rfl ?_
        refine r_l2i C0 dX6_putBricks_69 ?_
        refine callVv3 C0 h (hD _ _ _) mw_X7_set (rv_t tb_10) tm_X6_38 (fun y hy => c_X7_set tb_10 hy) (Nat.le_of_ble_eq_true rfl) (Nat.le_of_ble_eq_true rfl) dX6_putBricks_70 (fun r5 h => ?_)
        refine r_lload_n C0 dX6_putBricks_73 rfl 0 rfl ?_
        refine r_l2i C0 dX6_putBricks_74 ?_
        cases h
        exact hz _ _ dX6_putBricks_75
      · exact r_sub [1] rfl (w_X6_putBricks_j49 C0 hD h hz)
  · refine r_ldc C0 tk_X6_48 dX6_putBricks_15 ?_
    cases h
    exact hz _ _ dX6_putBricks_17
theorem c_X6_putBricks {l : Launch} {D : va_G} {cy : Nat → ClassId} {a : Nat → Nat} {V : VT} {J : JT} {K : Nat → Option Nat} {X : va_W} {v1 : Int32} {v2 : Int32} {y : Int32 × VT} (h : f_X6_putBricks v1 v2 V = some y) : CT l D cy yX6_putBricks cX6_putBricks 5 (some .int) 3 [.ref (a 6), .int v1, .int v2] (WC cy a V J K X) (WC cy a y.2 J K X) (some (.int y.1)) :=
  mkI (by decide) (Nat.le_of_ble_eq_true rfl) (fun Γ _ _ C0 hD hF => w_X6_putBricks C0 (dc_of hD) h hF)
theorem dX6_setFlag_0 : decode cX6_setFlag 0 = .ok (.iload_n 1, 1) := by decide +kernel
theorem dX6_setFlag_1 : decode cX6_setFlag 1 = .ok (.ifCond .lt 9, 3) := by decide +kernel
theorem dX6_setFlag_4 : decode cX6_setFlag 4 = .ok (.iload_n 1, 1) := by decide +kernel
theorem dX6_setFlag_5 : decode cX6_setFlag 5 = .ok (.bipush 8, 2) := by decide +kernel
theorem dX6_setFlag_7 : decode cX6_setFlag 7 = .ok (.if_icmp .lt 12, 3) := by decide +kernel
theorem dX6_setFlag_10 : decode cX6_setFlag 10 = .ok (.aload_n 0, 1) := by decide +kernel
theorem dX6_setFlag_11 : decode cX6_setFlag 11 = .ok (.getfield 15, 3) := by decide +kernel
theorem dX6_setFlag_14 : decode cX6_setFlag 14 = .ok (.iconst 2, 1) := by decide +kernel
theorem dX6_setFlag_15 : decode cX6_setFlag 15 = .ok (.invokevirtual 25, 3) := by decide +kernel
theorem dX6_setFlag_18 : decode cX6_setFlag 18 = .ok (.ireturn, 1) := by decide +kernel
theorem dX6_setFlag_19 : decode cX6_setFlag 19 = .ok (.iload_n 2, 1) := by decide +kernel
theorem dX6_setFlag_20 : decode cX6_setFlag 20 = .ok (.ifCond .lt 9, 3) := by decide +kernel
theorem dX6_setFlag_23 : decode cX6_setFlag 23 = .ok (.iload_n 2, 1) := by decide +kernel
theorem dX6_setFlag_24 : decode cX6_setFlag 24 = .ok (.bipush 99, 2) := by decide +kernel
theorem dX6_setFlag_26 : decode cX6_setFlag 26 = .ok (.if_icmp .le 13, 3) := by decide +kernel
theorem dX6_setFlag_29 : decode cX6_setFlag 29 = .ok (.aload_n 0, 1) := by decide +kernel
theorem dX6_setFlag_30 : decode cX6_setFlag 30 = .ok (.getfield 15, 3) := by decide +kernel
theorem dX6_setFlag_33 : decode cX6_setFlag 33 = .ok (.bipush 7, 2) := by decide +kernel
theorem dX6_setFlag_35 : decode cX6_setFlag 35 = .ok (.invokevirtual 25, 3) := by decide +kernel
theorem dX6_setFlag_38 : decode cX6_setFlag 38 = .ok (.ireturn, 1) := by decide +kernel
theorem dX6_setFlag_39 : decode cX6_setFlag 39 = .ok (.aload_n 0, 1) := by decide +kernel
theorem dX6_setFlag_40 : decode cX6_setFlag 40 = .ok (.getfield 9, 3) := by decide +kernel
theorem dX6_setFlag_43 : decode cX6_setFlag 43 = .ok (.getfield 100, 3) := by decide +kernel
theorem dX6_setFlag_46 : decode cX6_setFlag 46 = .ok (.iload_n 1, 1) := by decide +kernel
theorem dX6_setFlag_47 : decode cX6_setFlag 47 = .ok (.iconst 0, 1) := by decide +kernel
theorem dX6_setFlag_48 : decode cX6_setFlag 48 = .ok (.invokevirtual 81, 3) := by decide +kernel
theorem dX6_setFlag_51 : decode cX6_setFlag 51 = .ok (.istore_n 3, 1) := by decide +kernel
theorem dX6_setFlag_52 : decode cX6_setFlag 52 = .ok (.aload_n 0, 1) := by decide +kernel
theorem dX6_setFlag_53 : decode cX6_setFlag 53 = .ok (.getfield 9, 3) := by decide +kernel
theorem dX6_setFlag_56 : decode cX6_setFlag 56 = .ok (.getfield 100, 3) := by decide +kernel
theorem dX6_setFlag_59 : decode cX6_setFlag 59 = .ok (.iload_n 1, 1) := by decide +kernel
theorem dX6_setFlag_60 : decode cX6_setFlag 60 = .ok (.iconst 0, 1) := by decide +kernel
theorem dX6_setFlag_61 : decode cX6_setFlag 61 = .ok (.iload_n 2, 1) := by decide +kernel
theorem dX6_setFlag_62 : decode cX6_setFlag 62 = .ok (.invokevirtual 38, 3) := by decide +kernel
theorem dX6_setFlag_65 : decode cX6_setFlag 65 = .ok (.iload_n 3, 1) := by decide +kernel
theorem dX6_setFlag_66 : decode cX6_setFlag 66 = .ok (.ireturn, 1) := by decide +kernel
theorem w_X6_setFlag_j10 {z : (Int32 × VT)} {Γ : Gam} {cy : Nat → ClassId} {a : Nat → Nat} {V : VT} {J : JT} {K : Nat → Option Nat} {X : va_W}  (C0 : CXg Γ cX6_setFlag 4 2 RX6 cy) (hD : DC Γ cy a X) (h : f_X6_setFlag_j10 V = some z) (hz : (fun y : Int32 × VT => FinI Γ cX6_setFlag (WC cy a y.2 J K X) y.1) z) : Wp Γ 0 0 10 [(0, .ref (a 6))] [] (WC cy a V J K X) := by
  unfold f_X6_setFlag_j10 at h
  refine r_aload_n C0 dX6_setFlag_10 rfl 0 rfl ?_
  refine wcg_6_1 C0 tf_X6_15 dX6_setFlag_11 ?_
  refine r_iconst C0 dX6_setFlag_14 ki_2 ?_
  refine callV1 C0 h (hD _ _ _) mw_X9_refuse rv_2 tm_X6_25 (fun y hy => c_X9_refuse hy) (Nat.le_of_ble_eq_true rfl) (Nat.le_of_ble_eq_true rfl) dX6_setFlag_15 (fun r1 h => ?_)
  cases h
  exact hz _ _ dX6_setFlag_18
theorem w_X6_setFlag_j29 {z : (Int32 × VT)} {Γ : Gam} {cy : Nat → ClassId} {a : Nat → Nat} {V : VT} {J : JT} {K : Nat → Option Nat} {X : va_W}  (C0 : CXg Γ cX6_setFlag 4 2 RX6 cy) (hD : DC Γ cy a X) (h : f_X6_setFlag_j29 V = some z) (hz : (fun y : Int32 × VT => FinI Γ cX6_setFlag (WC cy a y.2 J K X) y.1) z) : Wp Γ 0 0 29 [(0, .ref (a 6))] [] (WC cy a V J K X) := by
  unfold f_X6_setFlag_j29 at h
  refine r_aload_n C0 dX6_setFlag_29 rfl 0 rfl ?_
  refine wcg_6_1 C0 tf_X6_15 dX6_setFlag_30 ?_
  refine r_bipush C0 dX6_setFlag_33 kb_7 ?_
  refine callV1 C0 h (hD _ _ _) mw_X9_refuse rv_2 tm_X6_25 (fun y hy => c_X9_refuse hy) (Nat.le_of_ble_eq_true rfl) (Nat.le_of_ble_eq_true rfl) dX6_setFlag_35 (fun r2 h => ?_)
  cases h
  exact hz _ _ dX6_setFlag_38
theorem w_X6_setFlag {z : Int32 × VT} {Γ : Gam} {cy : Nat → ClassId} {a : Nat → Nat} {V : VT} {J : JT} {K : Nat → Option Nat} {X : va_W} {v1 : Int32} {v2 : Int32}  (C0 : CXg Γ cX6_setFlag 4 2 RX6 cy) (hD : DC Γ cy a X) (h : f_X6_setFlag v1 v2 V = some z) (hz : (fun y : Int32 × VT => FinI Γ cX6_setFlag (WC cy a y.2 J K X) y.1) z) : Wp Γ 0 0 0 [(0, .ref (a 6)), (1, .int v1), (2, .int v2)] [] (WC cy a V J K X) := by
  unfold f_X6_setFlag at h
  refine r_iload_n C0 dX6_setFlag_0 rfl 1 rfl ?_
  refine r_if_lt C0 10 dX6_setFlag_1 rfl h (fun _ h => ?_) (fun _ h => ?_)
  · exact r_sub [0] rfl (w_X6_setFlag_j10 C0 hD h hz)
  · refine r_iload_n C0 dX6_setFlag_4 rfl 1 rfl ?_
    refine r_bipush C0 dX6_setFlag_5 kb_8 ?_
    refine r_icmp_lt C0 19 dX6_setFlag_7 rfl h (fun _ h => ?_) (fun _ h => ?_)
    · refine r_iload_n C0 dX6_setFlag_19 rfl 2 rfl ?_
      refine r_if_lt C0 29 dX6_setFlag_20 rfl h (fun _ h => ?_) (fun _ h => ?_)
      · exact r_sub [0] rfl (w_X6_setFlag_j29 C0 hD h hz)
      · refine r_iload_n C0 dX6_setFlag_23 rfl 2 rfl ?_
        refine r_bipush C0 dX6_setFlag_24 kb_99 ?_
        refine r_icmp_le C0 39 dX6_setFlag_26 rfl h (fun _ h => ?_) (fun _ h => ?_)
        · refine r_aload_n C0 dX6_setFlag_39 rfl 0 rfl ?_
          refine wcg_6_0 C0 tf_X6_9 dX6_setFlag_40 ?_
          refine wcg_3_4 C0 tf_X6_100 dX6_setFlag_43 ?_
          refine r_iload_n C0 dX6_setFlag_46 rfl 1 rfl ?_
          refine r_iconst C0 dX6_setFlag_47 ki_0 ?_
          refine callV2 C0 h (hD _ _ _) mw_X7_get (rv_t tb_14) tm_X6_81 (fun y hy => c_X7_get tb_14 hy) (Nat.le_of_ble_eq_true rfl) (Nat.le_of_ble_eq_true rfl) dX6_setFlag_48 (fun r3 h => ?_)
          refine r_istore_n (lv2 := [(3, .int r3), (0, .ref (a 6)), (1, .int v1), (2, .int v2)]) C0 dX6_setFlag_51 rfl rfl (Nat.le_of_ble_eq_true rfl) rfl ?_
          refine r_aload_n C0 dX6_setFlag_52 rfl 1 rfl ?_
          refine wcg_6_0 C0 tf_X6_9 dX6_setFlag_53 ?_
          refine wcg_3_4 C0 tf_X6_100 dX6_setFlag_56 ?_
          refine r_iload_n C0 dX6_setFlag_59 rfl 2 rfl ?_
          refine r_iconst C0 dX6_setFlag_60 ki_0 ?_
          refine r_iload_n C0 dX6_setFlag_61 rfl 3 rfl ?_
          refine callVv3 C0 h (hD _ _ _) mw_X7_set (rv_t tb_14) tm_X6_38 (fun y hy => c_X7_set tb_14 hy) (Nat.le_of_ble_eq_true rfl) (Nat.le_of_ble_eq_true rfl) dX6_setFlag_62 (fun r4 h => ?_)
          refine r_iload_n C0 dX6_setFlag_65 rfl 0 rfl ?_
          cases h
          exact hz _ _ dX6_setFlag_66
        · exact r_sub [0] rfl (w_X6_setFlag_j29 C0 hD h hz)
    · exact r_sub [0] rfl (w_X6_setFlag_j10 C0 hD h hz)
theorem c_X6_setFlag {l : Launch} {D : va_G} {cy : Nat → ClassId} {a : Nat → Nat} {V : VT} {J : JT} {K : Nat → Option Nat} {X : va_W} {v1 : Int32} {v2 : Int32} {y : Int32 × VT} (h : f_X6_setFlag v1 v2 V = some y) : CT l D cy yX6_setFlag cX6_setFlag 4 (some .int) 2 [.ref (a 6), .int v1, .int v2] (WC cy a V J K X) (WC cy a y.2 J K X) (some (.int y.1)) :=
  mkI (by decide) (Nat.le_of_ble_eq_true rfl) (fun Γ _ _ C0 hD hF => w_X6_setFlag C0 (dc_of hD) h hF)
theorem dX6_waveFlag_0 : decode cX6_waveFlag 0 = .ok (.iload_n 1, 1) := by decide +kernel
theorem dX6_waveFlag_1 : decode cX6_waveFlag 1 = .ok (.ifCond .lt 9, 3) := by decide +kernel
theorem dX6_waveFlag_4 : decode cX6_waveFlag 4 = .ok (.iload_n 1, 1) := by decide +kernel
theorem dX6_waveFlag_5 : decode cX6_waveFlag 5 = .ok (.bipush 8, 2) := by decide +kernel
theorem dX6_waveFlag_7 : decode cX6_waveFlag 7 = .ok (.if_icmp .lt 12, 3) := by decide +kernel
theorem dX6_waveFlag_10 : decode cX6_waveFlag 10 = .ok (.aload_n 0, 1) := by decide +kernel
theorem dX6_waveFlag_11 : decode cX6_waveFlag 11 = .ok (.getfield 15, 3) := by decide +kernel
theorem dX6_waveFlag_14 : decode cX6_waveFlag 14 = .ok (.iconst 2, 1) := by decide +kernel
theorem dX6_waveFlag_15 : decode cX6_waveFlag 15 = .ok (.invokevirtual 25, 3) := by decide +kernel
theorem dX6_waveFlag_18 : decode cX6_waveFlag 18 = .ok (.ireturn, 1) := by decide +kernel
theorem dX6_waveFlag_19 : decode cX6_waveFlag 19 = .ok (.aload_n 0, 1) := by decide +kernel
theorem dX6_waveFlag_20 : decode cX6_waveFlag 20 = .ok (.getfield 9, 3) := by decide +kernel
theorem dX6_waveFlag_23 : decode cX6_waveFlag 23 = .ok (.getfield 100, 3) := by decide +kernel
theorem dX6_waveFlag_26 : decode cX6_waveFlag 26 = .ok (.iload_n 1, 1) := by decide +kernel
theorem dX6_waveFlag_27 : decode cX6_waveFlag 27 = .ok (.iconst 0, 1) := by decide +kernel
theorem dX6_waveFlag_28 : decode cX6_waveFlag 28 = .ok (.invokevirtual 81, 3) := by decide +kernel
theorem dX6_waveFlag_31 : decode cX6_waveFlag 31 = .ok (.istore_n 2, 1) := by decide +kernel
theorem dX6_waveFlag_32 : decode cX6_waveFlag 32 = .ok (.iload_n 2, 1) := by decide +kernel
theorem dX6_waveFlag_33 : decode cX6_waveFlag 33 = .ok (.ifCond .ne 15, 3) := by decide +kernel
theorem dX6_waveFlag_36 : decode cX6_waveFlag 36 = .ok (.aload_n 0, 1) := by decide +kernel
theorem dX6_waveFlag_37 : decode cX6_waveFlag 37 = .ok (.getfield 15, 3) := by decide +kernel
theorem dX6_waveFlag_40 : decode cX6_waveFlag 40 = .ok (.bipush 6, 2) := by decide +kernel
theorem dX6_waveFlag_42 : decode cX6_waveFlag 42 = .ok (.invokevirtual 25, 3) := by decide +kernel
theorem dX6_waveFlag_45 : decode cX6_waveFlag 45 = .ok (.goto 4, 3) := by decide +kernel
theorem dX6_waveFlag_48 : decode cX6_waveFlag 48 = .ok (.iload_n 2, 1) := by decide +kernel
theorem dX6_waveFlag_49 : decode cX6_waveFlag 49 = .ok (.ireturn, 1) := by decide +kernel
theorem w_X6_waveFlag_j10 {z : (Int32 × VT)} {Γ : Gam} {cy : Nat → ClassId} {a : Nat → Nat} {V : VT} {J : JT} {K : Nat → Option Nat} {X : va_W}  (C0 : CXg Γ cX6_waveFlag 3 2 RX6 cy) (hD : DC Γ cy a X) (h : f_X6_waveFlag_j10 V = some z) (hz : (fun y : Int32 × VT => FinI Γ cX6_waveFlag (WC cy a y.2 J K X) y.1) z) : Wp Γ 0 0 10 [(0, .ref (a 6))] [] (WC cy a V J K X) := by
  unfold f_X6_waveFlag_j10 at h
  refine r_aload_n C0 dX6_waveFlag_10 rfl 0 rfl ?_
  refine wcg_6_1 C0 tf_X6_15 dX6_waveFlag_11 ?_
  refine r_iconst C0 dX6_waveFlag_14 ki_2 ?_
  refine callV1 C0 h (hD _ _ _) mw_X9_refuse rv_2 tm_X6_25 (fun y hy => c_X9_refuse hy) (Nat.le_of_ble_eq_true rfl) (Nat.le_of_ble_eq_true rfl) dX6_waveFlag_15 (fun r1 h => ?_)
  cases h
  exact hz _ _ dX6_waveFlag_18
theorem w_X6_waveFlag {z : Int32 × VT} {Γ : Gam} {cy : Nat → ClassId} {a : Nat → Nat} {V : VT} {J : JT} {K : Nat → Option Nat} {X : va_W} {v1 : Int32}  (C0 : CXg Γ cX6_waveFlag 3 2 RX6 cy) (hD : DC Γ cy a X) (h : f_X6_waveFlag v1 V = some z) (hz : (fun y : Int32 × VT => FinI Γ cX6_waveFlag (WC cy a y.2 J K X) y.1) z) : Wp Γ 0 0 0 [(0, .ref (a 6)), (1, .int v1)] [] (WC cy a V J K X) := by
  unfold f_X6_waveFlag at h
  refine r_iload_n C0 dX6_waveFlag_0 rfl 1 rfl ?_
  refine r_if_lt C0 10 dX6_waveFlag_1 rfl h (fun _ h => ?_) (fun _ h => ?_)
  · exact r_sub [0] rfl (w_X6_waveFlag_j10 C0 hD h hz)
  · refine r_iload_n C0 dX6_waveFlag_4 rfl 1 rfl ?_
    refine r_bipush C0 dX6_waveFlag_5 kb_8 ?_
    refine r_icmp_lt C0 19 dX6_waveFlag_7 rfl h (fun _ h => ?_) (fun _ h => ?_)
    · refine r_aload_n C0 dX6_waveFlag_19 rfl 0 rfl ?_
      refine wcg_6_0 C0 tf_X6_9 dX6_waveFlag_20 ?_
      refine wcg_3_4 C0 tf_X6_100 dX6_waveFlag_23 ?_
      refine r_iload_n C0 dX6_waveFlag_26 rfl 1 rfl ?_
      refine r_iconst C0 dX6_waveFlag_27 ki_0 ?_
      refine callV2 C0 h (hD _ _ _) mw_X7_get (rv_t tb_14) tm_X6_81 (fun y hy => c_X7_get tb_14 hy) (Nat.le_of_ble_eq_true rfl) (Nat.le_of_ble_eq_true rfl) dX6_waveFlag_28 (fun r2 h => ?_)
      refine r_istore_n (lv2 := [(2, .int r2), (0, .ref (a 6)), (1, .int v1)]) C0 dX6_waveFlag_31 rfl rfl (Nat.le_of_ble_eq_true rfl) rfl ?_
      refine r_iload_n C0 dX6_waveFlag_32 rfl 0 rfl ?_
      refine r_if_ne C0 48 dX6_waveFlag_33 rfl h (fun _ h => ?_) (fun _ h => ?_)
      · refine r_iload_n C0 dX6_waveFlag_48 rfl 0 rfl ?_
        cases h
        exact hz _ _ dX6_waveFlag_49
      · refine r_aload_n C0 dX6_waveFlag_36 rfl 1 rfl ?_
        refine wcg_6_1 C0 tf_X6_15 dX6_waveFlag_37 ?_
        refine r_bipush C0 dX6_waveFlag_40 kb_6 ?_
        refine callV1 C0 h (hD _ _ _) mw_X9_refuse rv_2 tm_X6_25 (fun y hy => c_X9_refuse hy) (Nat.le_of_ble_eq_true rfl) (Nat.le_of_ble_eq_true rfl) dX6_waveFlag_42 (fun r3 h => ?_)
        refine r_goto C0 49 dX6_waveFlag_45 rfl ?_
        cases h
        exact hz _ _ dX6_waveFlag_49
    · exact r_sub [0] rfl (w_X6_waveFlag_j10 C0 hD h hz)
theorem c_X6_waveFlag {l : Launch} {D : va_G} {cy : Nat → ClassId} {a : Nat → Nat} {V : VT} {J : JT} {K : Nat → Option Nat} {X : va_W} {v1 : Int32} {y : Int32 × VT} (h : f_X6_waveFlag v1 V = some y) : CT l D cy yX6_waveFlag cX6_waveFlag 3 (some .int) 2 [.ref (a 6), .int v1] (WC cy a V J K X) (WC cy a y.2 J K X) (some (.int y.1)) :=
  mkI (by decide) (Nat.le_of_ble_eq_true rfl) (fun Γ _ _ C0 hD hF => w_X6_waveFlag C0 (dc_of hD) h hF)
theorem dX8_size_0 : decode cX8_size 0 = .ok (.aload_n 0, 1) := by decide +kernel
theorem dX8_size_1 : decode cX8_size 1 = .ok (.getfield 15, 3) := by decide +kernel
theorem dX8_size_4 : decode cX8_size 4 = .ok (.ireturn, 1) := by decide +kernel
theorem w_X8_size {z : Int32} {Γ : Gam} {cy : Nat → ClassId} {a : Nat → Nat} {V : VT} {J : JT} {K : Nat → Option Nat} {X : va_W}  (C0 : CXg Γ cX8_size 1 0 RX8 cy) (hD : DC Γ cy a X) (h : f_X8_size V = some z) (hz : (fun y : Int32 => FinI Γ cX8_size (WC cy a V J K X) y) z) : Wp Γ 0 0 0 [(0, .ref (a 9))] [] (WC cy a V J K X) := by
  unfold f_X8_size at h
  refine r_aload_n C0 dX8_size_0 rfl 0 rfl ?_
  refine wcg_9_2 C0 tf_X8_15 dX8_size_1 ?_
  cases h
  exact hz _ _ dX8_size_4
theorem c_X8_size {l : Launch} {D : va_G} {cy : Nat → ClassId} {a : Nat → Nat} {V : VT} {J : JT} {K : Nat → Option Nat} {X : va_W} {y : Int32} (h : f_X8_size V = some y) : CT l D cy yX8_size cX8_size 1 (some .int) 0 [.ref (a 9)] (WC cy a V J K X) (WC cy a V J K X) (some (.int y)) :=
  mkI (by decide) (Nat.le_of_ble_eq_true rfl) (fun Γ _ _ C0 hD hF => w_X8_size C0 (dc_of hD) h hF)
theorem dX8_cellOf_0 : decode cX8_cellOf 0 = .ok (.iload_n 1, 1) := by decide +kernel
theorem dX8_cellOf_1 : decode cX8_cellOf 1 = .ok (.ifCond .lt 24, 3) := by decide +kernel
theorem dX8_cellOf_4 : decode cX8_cellOf 4 = .ok (.iload_n 1, 1) := by decide +kernel
theorem dX8_cellOf_5 : decode cX8_cellOf 5 = .ok (.aload_n 0, 1) := by decide +kernel
theorem dX8_cellOf_6 : decode cX8_cellOf 6 = .ok (.getfield 15, 3) := by decide +kernel
theorem dX8_cellOf_9 : decode cX8_cellOf 9 = .ok (.if_icmp .ge 16, 3) := by decide +kernel
theorem dX8_cellOf_12 : decode cX8_cellOf 12 = .ok (.iload_n 2, 1) := by decide +kernel
theorem dX8_cellOf_13 : decode cX8_cellOf 13 = .ok (.ifCond .lt 12, 3) := by decide +kernel
theorem dX8_cellOf_16 : decode cX8_cellOf 16 = .ok (.iload_n 2, 1) := by decide +kernel
theorem dX8_cellOf_17 : decode cX8_cellOf 17 = .ok (.iconst 5, 1) := by decide +kernel
theorem dX8_cellOf_18 : decode cX8_cellOf 18 = .ok (.if_icmp .ge 7, 3) := by decide +kernel
theorem dX8_cellOf_21 : decode cX8_cellOf 21 = .ok (.iconst 1, 1) := by decide +kernel
theorem dX8_cellOf_22 : decode cX8_cellOf 22 = .ok (.goto 4, 3) := by decide +kernel
theorem dX8_cellOf_25 : decode cX8_cellOf 25 = .ok (.iconst 0, 1) := by decide +kernel
theorem dX8_cellOf_26 : decode cX8_cellOf 26 = .ok (.istore_n 3, 1) := by decide +kernel
theorem dX8_cellOf_27 : decode cX8_cellOf 27 = .ok (.iload_n 3, 1) := by decide +kernel
theorem dX8_cellOf_28 : decode cX8_cellOf 28 = .ok (.ifCond .eq 11, 3) := by decide +kernel
theorem dX8_cellOf_31 : decode cX8_cellOf 31 = .ok (.iload_n 1, 1) := by decide +kernel
theorem dX8_cellOf_32 : decode cX8_cellOf 32 = .ok (.iconst 5, 1) := by decide +kernel
theorem dX8_cellOf_33 : decode cX8_cellOf 33 = .ok (.imul, 1) := by decide +kernel
theorem dX8_cellOf_34 : decode cX8_cellOf 34 = .ok (.iload_n 2, 1) := by decide +kernel
theorem dX8_cellOf_35 : decode cX8_cellOf 35 = .ok (.iadd, 1) := by decide +kernel
theorem dX8_cellOf_36 : decode cX8_cellOf 36 = .ok (.goto 5, 3) := by decide +kernel
theorem dX8_cellOf_39 : decode cX8_cellOf 39 = .ok (.ldc 41, 2) := by decide +kernel
theorem dX8_cellOf_41 : decode cX8_cellOf 41 = .ok (.ireturn, 1) := by decide +kernel
theorem w_X8_cellOf_j26 {z : (Int32)} {Γ : Gam} {cy : Nat → ClassId} {a : Nat → Nat} {V : VT} {J : JT} {K : Nat → Option Nat} {X : va_W} {v1 : Int32} {v2 : Int32} {s0 : Int32}  (C0 : CXg Γ cX8_cellOf 4 0 RX8 cy) (hD : DC Γ cy a X) (h : f_X8_cellOf_j26 v1 v2 s0 V = some z) (hz : (fun y : Int32 => FinI Γ cX8_cellOf (WC cy a V J K X) y) z) : Wp Γ 0 0 26 [(1, .int v1), (2, .int v2)] [.int s0] (WC cy a V J K X) := by
  unfold f_X8_cellOf_j26 at h
  refine r_istore_n (lv2 := [(3, .int s0), (1, .int v1), (2, .int v2)]) C0 dX8_cellOf_26 rfl rfl (Nat.le_of_ble_eq_true rfl) rfl ?_
  refine r_iload_n C0 dX8_cellOf_27 rfl 0 rfl ?_
  refine r_if_eq C0 39 dX8_cellOf_28 rfl h (fun _ h => ?_) (fun _ h => ?_)
  · refine r_ldc C0 tk_X8_41 dX8_cellOf_39 ?_
    cases h
    exact hz _ _ dX8_cellOf_41
  · refine r_iload_n C0 dX8_cellOf_31 rfl 1 rfl ?_
    refine r_iconst C0 dX8_cellOf_32 ki_5 ?_
    refine r_imul C0 dX8_cellOf_33 ?_
    refine r_iload_n C0 dX8_cellOf_34 rfl 2 rfl ?_
    refine r_iadd C0 dX8_cellOf_35 ?_
    refine r_goto C0 41 dX8_cellOf_36 rfl ?_
    cases h
    exact hz _ _ dX8_cellOf_41
theorem w_X8_cellOf_j25 {z : (Int32)} {Γ : Gam} {cy : Nat → ClassId} {a : Nat → Nat} {V : VT} {J : JT} {K : Nat → Option Nat} {X : va_W} {v1 : Int32} {v2 : Int32}  (C0 : CXg Γ cX8_cellOf 4 0 RX8 cy) (hD : DC Γ cy a X) (h : f_X8_cellOf_j25 v1 v2 V = some z) (hz : (fun y : Int32 => FinI Γ cX8_cellOf (WC cy a V J K X) y) z) : Wp Γ 0 0 25 [(1, .int v1), (2, .int v2)] [] (WC cy a V J K X) := by
  unfold f_X8_cellOf_j25 at h
  refine r_iconst C0 dX8_cellOf_25 ki_0 ?_
  exact r_sub [0, 1] rfl (w_X8_cellOf_j26 C0 hD h hz)
theorem w_X8_cellOf {z : Int32} {Γ : Gam} {cy : Nat → ClassId} {a : Nat → Nat} {V : VT} {J : JT} {K : Nat → Option Nat} {X : va_W} {v1 : Int32} {v2 : Int32}  (C0 : CXg Γ cX8_cellOf 4 0 RX8 cy) (hD : DC Γ cy a X) (h : f_X8_cellOf v1 v2 V = some z) (hz : (fun y : Int32 => FinI Γ cX8_cellOf (WC cy a V J K X) y) z) : Wp Γ 0 0 0 [(0, .ref (a 9)), (1, .int v1), (2, .int v2)] [] (WC cy a V J K X) := by
  unfold f_X8_cellOf at h
  refine r_iload_n C0 dX8_cellOf_0 rfl 1 rfl ?_
  refine r_if_lt C0 25 dX8_cellOf_1 rfl h (fun _ h => ?_) (fun _ h => ?_)
  · exact r_sub [1, 2] rfl (w_X8_cellOf_j25 C0 hD h hz)
  · refine r_iload_n C0 dX8_cellOf_4 rfl 1 rfl ?_
    refine r_aload_n C0 dX8_cellOf_5 rfl 0 rfl ?_
    refine wcg_9_2 C0 tf_X8_15 dX8_cellOf_6 ?_
    refine r_icmp_ge C0 25 dX8_cellOf_9 rfl h (fun _ h => ?_) (fun _ h => ?_)
    · exact r_sub [1, 2] rfl (w_X8_cellOf_j25 C0 hD h hz)
    · refine r_iload_n C0 dX8_cellOf_12 rfl 2 rfl ?_
      refine r_if_lt C0 25 dX8_cellOf_13 rfl h (fun _ h => ?_) (fun _ h => ?_)
      · exact r_sub [1, 2] rfl (w_X8_cellOf_j25 C0 hD h hz)
      · refine r_iload_n C0 dX8_cellOf_16 rfl 2 rfl ?_
        refine r_iconst C0 dX8_cellOf_17 ki_5 ?_
        refine r_icmp_ge C0 25 dX8_cellOf_18 rfl h (fun _ h => ?_) (fun _ h => ?_)
        · exact r_sub [1, 2] rfl (w_X8_cellOf_j25 C0 hD h hz)
        · refine r_iconst C0 dX8_cellOf_21 ki_1 ?_
          refine r_goto C0 26 dX8_cellOf_22 rfl ?_
          exact r_sub [1, 2] rfl (w_X8_cellOf_j26 C0 hD h hz)
theorem c_X8_cellOf {l : Launch} {D : va_G} {cy : Nat → ClassId} {a : Nat → Nat} {V : VT} {J : JT} {K : Nat → Option Nat} {X : va_W} {v1 : Int32} {v2 : Int32} {y : Int32} (h : f_X8_cellOf v1 v2 V = some y) : CT l D cy yX8_cellOf cX8_cellOf 4 (some .int) 0 [.ref (a 9), .int v1, .int v2] (WC cy a V J K X) (WC cy a V J K X) (some (.int y)) :=
  mkI (by decide) (Nat.le_of_ble_eq_true rfl) (fun Γ _ _ C0 hD hF => w_X8_cellOf C0 (dc_of hD) h hF)
theorem dX8_number_0 : decode cX8_number 0 = .ok (.aload_n 0, 1) := by decide +kernel
theorem dX8_number_1 : decode cX8_number 1 = .ok (.iload_n 1, 1) := by decide +kernel
theorem dX8_number_2 : decode cX8_number 2 = .ok (.iload_n 2, 1) := by decide +kernel
theorem dX8_number_3 : decode cX8_number 3 = .ok (.invokevirtual 23, 3) := by decide +kernel
theorem dX8_number_6 : decode cX8_number 6 = .ok (.istore_n 3, 1) := by decide +kernel
theorem dX8_number_7 : decode cX8_number 7 = .ok (.iload_n 3, 1) := by decide +kernel
theorem dX8_number_8 : decode cX8_number 8 = .ok (.ifCond .lt 21, 3) := by decide +kernel
theorem dX8_number_11 : decode cX8_number 11 = .ok (.iload_n 3, 1) := by decide +kernel
theorem dX8_number_12 : decode cX8_number 12 = .ok (.aload_n 0, 1) := by decide +kernel
theorem dX8_number_13 : decode cX8_number 13 = .ok (.getfield 9, 3) := by decide +kernel
theorem dX8_number_16 : decode cX8_number 16 = .ok (.arraylength, 1) := by decide +kernel
theorem dX8_number_17 : decode cX8_number 17 = .ok (.if_icmp .ge 12, 3) := by decide +kernel
theorem dX8_number_20 : decode cX8_number 20 = .ok (.aload_n 0, 1) := by decide +kernel
theorem dX8_number_21 : decode cX8_number 21 = .ok (.getfield 9, 3) := by decide +kernel
theorem dX8_number_24 : decode cX8_number 24 = .ok (.iload_n 3, 1) := by decide +kernel
theorem dX8_number_25 : decode cX8_number 25 = .ok (.iaload, 1) := by decide +kernel
theorem dX8_number_26 : decode cX8_number 26 = .ok (.goto 4, 3) := by decide +kernel
theorem dX8_number_29 : decode cX8_number 29 = .ok (.iconst 0, 1) := by decide +kernel
theorem dX8_number_30 : decode cX8_number 30 = .ok (.ireturn, 1) := by decide +kernel
theorem w_X8_number_j29 {z : (Int32)} {Γ : Gam} {cy : Nat → ClassId} {a : Nat → Nat} {V : VT} {J : JT} {K : Nat → Option Nat} {X : va_W}  (C0 : CXg Γ cX8_number 4 1 RX8 cy) (hD : DC Γ cy a X) (h : f_X8_number_j29 V = some z) (hz : (fun y : Int32 => FinI Γ cX8_number (WC cy a V J K X) y) z) : Wp Γ 0 0 29 [] [] (WC cy a V J K X) := by
  unfold f_X8_number_j29 at h
  refine r_iconst C0 dX8_number_29 ki_0 ?_
  cases h
  exact hz _ _ dX8_number_30
theorem w_X8_number {z : Int32} {Γ : Gam} {cy : Nat → ClassId} {a : Nat → Nat} {V : VT} {J : JT} {K : Nat → Option Nat} {X : va_W} {v1 : Int32} {v2 : Int32}  (C0 : CXg Γ cX8_number 4 1 RX8 cy) (hD : DC Γ cy a X) (h : f_X8_number v1 v2 V = some z) (hz : (fun y : Int32 => FinI Γ cX8_number (WC cy a V J K X) y) z) : Wp Γ 0 0 0 [(0, .ref (a 9)), (1, .int v1), (2, .int v2)] [] (WC cy a V J K X) := by
  unfold f_X8_number at h
  refine r_aload_n C0 dX8_number_0 rfl 0 rfl ?_
  refine r_iload_n C0 dX8_number_1 rfl 1 rfl ?_
  refine r_iload_n C0 dX8_number_2 rfl 2 rfl ?_
  refine callV2 C0 h (hD _ _ _) mw_X8_cellOf rv_9 tm_X8_23 (fun y hy => c_X8_cellOf hy) (Nat.le_of_ble_eq_true rfl) (Nat.le_of_ble_eq_true rfl) dX8_number_3 (fun r1 h => ?_)
  refine r_istore_n (lv2 := [(3, .int r1), (0, .ref (a 9)), (1, .int v1), (2, .int v2)]) C0 dX8_number_6 rfl rfl (Nat.le_of_ble_eq_true rfl) rfl ?_
  refine r_iload_n C0 dX8_number_7 rfl 0 rfl ?_
  refine r_if_lt C0 29 dX8_number_8 rfl h (fun _ h => ?_) (fun _ h => ?_)
  · exact r_sub [] rfl (w_X8_number_j29 C0 hD h hz)
  · refine r_iload_n C0 dX8_number_11 rfl 0 rfl ?_
    refine r_aload_n C0 dX8_number_12 rfl 1 rfl ?_
    refine wcg_9_1 C0 tf_X8_9 dX8_number_13 ?_
    refine wcln_30 C0 dX8_number_16 ?_
    refine r_icmp_ge C0 29 dX8_number_17 rfl h (fun _ h => ?_) (fun _ h => ?_)
    · exact r_sub [] rfl (w_X8_number_j29 C0 hD h hz)
    · refine r_aload_n C0 dX8_number_20 rfl 1 rfl ?_
      refine wcg_9_1 C0 tf_X8_9 dX8_number_21 ?_
      refine r_iload_n C0 dX8_number_24 rfl 0 rfl ?_
      refine wcal_30 C0 h dX8_number_25 (fun k2 h => ?_)
      refine r_goto C0 30 dX8_number_26 rfl ?_
      cases h
      exact hz _ _ dX8_number_30
theorem c_X8_number {l : Launch} {D : va_G} {cy : Nat → ClassId} {a : Nat → Nat} {V : VT} {J : JT} {K : Nat → Option Nat} {X : va_W} {v1 : Int32} {v2 : Int32} {y : Int32} (h : f_X8_number v1 v2 V = some y) : CT l D cy yX8_number cX8_number 4 (some .int) 1 [.ref (a 9), .int v1, .int v2] (WC cy a V J K X) (WC cy a V J K X) (some (.int y)) :=
  mkI (by decide) (Nat.le_of_ble_eq_true rfl) (fun Γ _ _ C0 hD hF => w_X8_number C0 (dc_of hD) h hF)
theorem dX8_isAct_0 : decode cX8_isAct 0 = .ok (.iload_n 0, 1) := by decide +kernel
theorem dX8_isAct_1 : decode cX8_isAct 1 = .ok (.iconst 1, 1) := by decide +kernel
theorem dX8_isAct_2 : decode cX8_isAct 2 = .ok (.if_icmp .lt 12, 3) := by decide +kernel
theorem dX8_isAct_5 : decode cX8_isAct 5 = .ok (.iload_n 0, 1) := by decide +kernel
theorem dX8_isAct_6 : decode cX8_isAct 6 = .ok (.iconst 5, 1) := by decide +kernel
theorem dX8_isAct_7 : decode cX8_isAct 7 = .ok (.if_icmp .gt 7, 3) := by decide +kernel
theorem dX8_isAct_10 : decode cX8_isAct 10 = .ok (.iconst 1, 1) := by decide +kernel
theorem dX8_isAct_11 : decode cX8_isAct 11 = .ok (.goto 4, 3) := by decide +kernel
theorem dX8_isAct_14 : decode cX8_isAct 14 = .ok (.iconst 0, 1) := by decide +kernel
theorem dX8_isAct_15 : decode cX8_isAct 15 = .ok (.ireturn, 1) := by decide +kernel
theorem w_X8_isAct_j14 {z : (Int32)} {Γ : Gam} {cy : Nat → ClassId} {a : Nat → Nat} {V : VT} {J : JT} {K : Nat → Option Nat} {X : va_W}  (C0 : CXg Γ cX8_isAct 1 0 RX8 cy) (hD : DC Γ cy a X) (h : f_X8_isAct_j14 V = some z) (hz : (fun y : Int32 => FinZ Γ cX8_isAct (WC cy a V J K X) y) z) : Wp Γ 0 0 14 [] [] (WC cy a V J K X) := by
  unfold f_X8_isAct_j14 at h
  refine r_iconst C0 dX8_isAct_14 ki_0 ?_
  cases h
  exact hz _ _ nz_0 dX8_isAct_15
theorem w_X8_isAct {z : Int32} {Γ : Gam} {cy : Nat → ClassId} {a : Nat → Nat} {V : VT} {J : JT} {K : Nat → Option Nat} {X : va_W} {v0 : Int32}  (C0 : CXg Γ cX8_isAct 1 0 RX8 cy) (hD : DC Γ cy a X) (h : f_X8_isAct v0 V = some z) (hz : (fun y : Int32 => FinZ Γ cX8_isAct (WC cy a V J K X) y) z) : Wp Γ 0 0 0 [(0, .int v0)] [] (WC cy a V J K X) := by
  unfold f_X8_isAct at h
  refine r_iload_n C0 dX8_isAct_0 rfl 0 rfl ?_
  refine r_iconst C0 dX8_isAct_1 ki_1 ?_
  refine r_icmp_lt C0 14 dX8_isAct_2 rfl h (fun _ h => ?_) (fun _ h => ?_)
  · exact r_sub [] rfl (w_X8_isAct_j14 C0 hD h hz)
  · refine r_iload_n C0 dX8_isAct_5 rfl 0 rfl ?_
    refine r_iconst C0 dX8_isAct_6 ki_5 ?_
    refine r_icmp_gt C0 14 dX8_isAct_7 rfl h (fun _ h => ?_) (fun _ h => ?_)
    · exact r_sub [] rfl (w_X8_isAct_j14 C0 hD h hz)
    · refine r_iconst C0 dX8_isAct_10 ki_1 ?_
      refine r_goto C0 15 dX8_isAct_11 rfl ?_
      cases h
      exact hz _ _ nz_1 dX8_isAct_15
theorem c_X8_isAct {l : Launch} {D : va_G} {cy : Nat → ClassId} {a : Nat → Nat} {V : VT} {J : JT} {K : Nat → Option Nat} {X : va_W} {v0 : Int32} {y : Int32} (h : f_X8_isAct v0 V = some y) : CT l D cy yX8_isAct cX8_isAct 1 (some .boolean) 0 [.int v0] (WC cy a V J K X) (WC cy a V J K X) (some (.int y)) :=
  mkZ (by decide) (Nat.le_of_ble_eq_true rfl) (fun Γ _ _ C0 hD hF => w_X8_isAct C0 (dc_of hD) h hF)
theorem dX8_put_0 : decode cX8_put 0 = .ok (.aload_n 0, 1) := by decide +kernel
theorem dX8_put_1 : decode cX8_put 1 = .ok (.aload_n 0, 1) := by decide +kernel
theorem dX8_put_2 : decode cX8_put 2 = .ok (.getfield 15, 3) := by decide +kernel
theorem dX8_put_5 : decode cX8_put 5 = .ok (.iconst 1, 1) := by decide +kernel
theorem dX8_put_6 : decode cX8_put 6 = .ok (.isub, 1) := by decide +kernel
theorem dX8_put_7 : decode cX8_put 7 = .ok (.iload_n 1, 1) := by decide +kernel
theorem dX8_put_8 : decode cX8_put 8 = .ok (.invokevirtual 23, 3) := by decide +kernel
theorem dX8_put_11 : decode cX8_put 11 = .ok (.istore_n 3, 1) := by decide +kernel
theorem dX8_put_12 : decode cX8_put 12 = .ok (.iload_n 3, 1) := by decide +kernel
theorem dX8_put_13 : decode cX8_put 13 = .ok (.ifCond .lt 19, 3) := by decide +kernel
theorem dX8_put_16 : decode cX8_put 16 = .ok (.iload_n 3, 1) := by decide +kernel
theorem dX8_put_17 : decode cX8_put 17 = .ok (.aload_n 0, 1) := by decide +kernel
theorem dX8_put_18 : decode cX8_put 18 = .ok (.getfield 9, 3) := by decide +kernel
theorem dX8_put_21 : decode cX8_put 21 = .ok (.arraylength, 1) := by decide +kernel
theorem dX8_put_22 : decode cX8_put 22 = .ok (.if_icmp .ge 10, 3) := by decide +kernel
theorem dX8_put_25 : decode cX8_put 25 = .ok (.aload_n 0, 1) := by decide +kernel
theorem dX8_put_26 : decode cX8_put 26 = .ok (.getfield 9, 3) := by decide +kernel
theorem dX8_put_29 : decode cX8_put 29 = .ok (.iload_n 3, 1) := by decide +kernel
theorem dX8_put_30 : decode cX8_put 30 = .ok (.iload_n 2, 1) := by decide +kernel
theorem dX8_put_31 : decode cX8_put 31 = .ok (.iastore, 1) := by decide +kernel
theorem dX8_put_32 : decode cX8_put 32 = .ok (.return_, 1) := by decide +kernel
theorem w_X8_put {z : VT} {Γ : Gam} {cy : Nat → ClassId} {a : Nat → Nat} {V : VT} {J : JT} {K : Nat → Option Nat} {X : va_W} {v1 : Int32} {v2 : Int32}  (C0 : CXg Γ cX8_put 4 1 RX8 cy) (hD : DC Γ cy a X) (h : f_X8_put v1 v2 V = some z) (hz : (fun y : VT => FinV Γ cX8_put (WC cy a y J K X)) z) : Wp Γ 0 0 0 [(0, .ref (a 9)), (1, .int v1), (2, .int v2)] [] (WC cy a V J K X) := by
  unfold f_X8_put at h
  refine r_aload_n C0 dX8_put_0 rfl 0 rfl ?_
  refine r_aload_n C0 dX8_put_1 rfl 0 rfl ?_
  refine wcg_9_2 C0 tf_X8_15 dX8_put_2 ?_
  refine r_iconst C0 dX8_put_5 ki_1 ?_
  refine r_isub C0 dX8_put_6 ?_
  refine r_iload_n C0 dX8_put_7 rfl 1 rfl ?_
  refine callV2 C0 h (hD _ _ _) mw_X8_cellOf rv_9 tm_X8_23 (fun y hy => c_X8_cellOf hy) (Nat.le_of_ble_eq_true rfl) (Nat.le_of_ble_eq_true rfl) dX8_put_8 (fun r1 h => ?_)
  refine r_istore_n (lv2 := [(3, .int r1), (0, .ref (a 9)), (1, .int v1), (2, .int v2)]) C0 dX8_put_11 rfl rfl (Nat.le_of_ble_eq_true rfl) rfl ?_
  refine r_iload_n C0 dX8_put_12 rfl 0 rfl ?_
  refine r_if_lt C0 32 dX8_put_13 rfl h (fun _ h => ?_) (fun _ h => ?_)
  · cases h
    exact hz _ _ dX8_put_32
  · refine r_iload_n C0 dX8_put_16 rfl 0 rfl ?_
    refine r_aload_n C0 dX8_put_17 rfl 1 rfl ?_
    refine wcg_9_1 C0 tf_X8_9 dX8_put_18 ?_
    refine wcln_30 C0 dX8_put_21 ?_
    refine r_icmp_ge C0 32 dX8_put_22 rfl h (fun _ h => ?_) (fun _ h => ?_)
    · cases h
      exact hz _ _ dX8_put_32
    · refine r_aload_n C0 dX8_put_25 rfl 1 rfl ?_
      refine wcg_9_1 C0 tf_X8_9 dX8_put_26 ?_
      refine r_iload_n C0 dX8_put_29 rfl 0 rfl ?_
      refine r_iload_n C0 dX8_put_30 rfl 3 rfl ?_
      refine wcas_30 C0 hD h dX8_put_31 (fun k2 h => ?_)
      cases h
      exact hz _ _ dX8_put_32
theorem c_X8_put {l : Launch} {D : va_G} {cy : Nat → ClassId} {a : Nat → Nat} {V : VT} {J : JT} {K : Nat → Option Nat} {X : va_W} {v1 : Int32} {v2 : Int32} {y : VT} (h : f_X8_put v1 v2 V = some y) : CT l D cy yX8_put cX8_put 4 none 1 [.ref (a 9), .int v1, .int v2] (WC cy a V J K X) (WC cy a y J K X) none :=
  mkV (by decide) (Nat.le_of_ble_eq_true rfl) (fun Γ _ _ C0 hD hF => w_X8_put C0 (dc_of hD) h hF)
theorem dX8_addStep_0 : decode cX8_addStep 0 = .ok (.iload_n 1, 1) := by decide +kernel
theorem dX8_addStep_1 : decode cX8_addStep 1 = .ok (.invokestatic 27, 3) := by decide +kernel
theorem dX8_addStep_4 : decode cX8_addStep 4 = .ok (.ifCond .ne 13, 3) := by decide +kernel
theorem dX8_addStep_7 : decode cX8_addStep 7 = .ok (.aload_n 0, 1) := by decide +kernel
theorem dX8_addStep_8 : decode cX8_addStep 8 = .ok (.getfield 19, 3) := by decide +kernel
theorem dX8_addStep_11 : decode cX8_addStep 11 = .ok (.bipush 7, 2) := by decide +kernel
theorem dX8_addStep_13 : decode cX8_addStep 13 = .ok (.invokevirtual 31, 3) := by decide +kernel
theorem dX8_addStep_16 : decode cX8_addStep 16 = .ok (.ireturn, 1) := by decide +kernel
theorem dX8_addStep_17 : decode cX8_addStep 17 = .ok (.aload_n 0, 1) := by decide +kernel
theorem dX8_addStep_18 : decode cX8_addStep 18 = .ok (.getfield 15, 3) := by decide +kernel
theorem dX8_addStep_21 : decode cX8_addStep 21 = .ok (.bipush 40, 2) := by decide +kernel
theorem dX8_addStep_23 : decode cX8_addStep 23 = .ok (.if_icmp .lt 13, 3) := by decide +kernel
theorem dX8_addStep_26 : decode cX8_addStep 26 = .ok (.aload_n 0, 1) := by decide +kernel
theorem dX8_addStep_27 : decode cX8_addStep 27 = .ok (.getfield 19, 3) := by decide +kernel
theorem dX8_addStep_30 : decode cX8_addStep 30 = .ok (.bipush 11, 2) := by decide +kernel
theorem dX8_addStep_32 : decode cX8_addStep 32 = .ok (.invokevirtual 31, 3) := by decide +kernel
theorem dX8_addStep_35 : decode cX8_addStep 35 = .ok (.ireturn, 1) := by decide +kernel
theorem dX8_addStep_36 : decode cX8_addStep 36 = .ok (.aload_n 0, 1) := by decide +kernel
theorem dX8_addStep_37 : decode cX8_addStep 37 = .ok (.dup, 1) := by decide +kernel
theorem dX8_addStep_38 : decode cX8_addStep 38 = .ok (.getfield 15, 3) := by decide +kernel
theorem dX8_addStep_41 : decode cX8_addStep 41 = .ok (.iconst 1, 1) := by decide +kernel
theorem dX8_addStep_42 : decode cX8_addStep 42 = .ok (.iadd, 1) := by decide +kernel
theorem dX8_addStep_43 : decode cX8_addStep 43 = .ok (.putfield 15, 3) := by decide +kernel
theorem dX8_addStep_46 : decode cX8_addStep 46 = .ok (.aload_n 0, 1) := by decide +kernel
theorem dX8_addStep_47 : decode cX8_addStep 47 = .ok (.iconst 0, 1) := by decide +kernel
theorem dX8_addStep_48 : decode cX8_addStep 48 = .ok (.iload_n 1, 1) := by decide +kernel
theorem dX8_addStep_49 : decode cX8_addStep 49 = .ok (.invokevirtual 37, 3) := by decide +kernel
theorem dX8_addStep_52 : decode cX8_addStep 52 = .ok (.aload_n 0, 1) := by decide +kernel
theorem dX8_addStep_53 : decode cX8_addStep 53 = .ok (.iconst 1, 1) := by decide +kernel
theorem dX8_addStep_54 : decode cX8_addStep 54 = .ok (.iload_n 2, 1) := by decide +kernel
theorem dX8_addStep_55 : decode cX8_addStep 55 = .ok (.invokevirtual 37, 3) := by decide +kernel
theorem dX8_addStep_58 : decode cX8_addStep 58 = .ok (.aload_n 0, 1) := by decide +kernel
theorem dX8_addStep_59 : decode cX8_addStep 59 = .ok (.iconst 2, 1) := by decide +kernel
theorem dX8_addStep_60 : decode cX8_addStep 60 = .ok (.iload_n 3, 1) := by decide +kernel
theorem dX8_addStep_61 : decode cX8_addStep 61 = .ok (.invokevirtual 37, 3) := by decide +kernel
theorem dX8_addStep_64 : decode cX8_addStep 64 = .ok (.aload_n 0, 1) := by decide +kernel
theorem dX8_addStep_65 : decode cX8_addStep 65 = .ok (.iconst 3, 1) := by decide +kernel
theorem dX8_addStep_66 : decode cX8_addStep 66 = .ok (.iload 4, 2) := by decide +kernel
theorem dX8_addStep_68 : decode cX8_addStep 68 = .ok (.invokevirtual 37, 3) := by decide +kernel
theorem dX8_addStep_71 : decode cX8_addStep 71 = .ok (.aload_n 0, 1) := by decide +kernel
theorem dX8_addStep_72 : decode cX8_addStep 72 = .ok (.iconst 4, 1) := by decide +kernel
theorem dX8_addStep_73 : decode cX8_addStep 73 = .ok (.iload 5, 2) := by decide +kernel
theorem dX8_addStep_75 : decode cX8_addStep 75 = .ok (.invokevirtual 37, 3) := by decide +kernel
theorem dX8_addStep_78 : decode cX8_addStep 78 = .ok (.aload_n 0, 1) := by decide +kernel
theorem dX8_addStep_79 : decode cX8_addStep 79 = .ok (.getfield 15, 3) := by decide +kernel
theorem dX8_addStep_82 : decode cX8_addStep 82 = .ok (.ireturn, 1) := by decide +kernel
theorem w_X8_addStep {z : Int32 × VT} {Γ : Gam} {cy : Nat → ClassId} {a : Nat → Nat} {V : VT} {J : JT} {K : Nat → Option Nat} {X : va_W} {v1 : Int32} {v2 : Int32} {v3 : Int32} {v4 : Int32} {v5 : Int32}  (C0 : CXg Γ cX8_addStep 6 2 RX8 cy) (hD : DC Γ cy a X) (h : f_X8_addStep v1 v2 v3 v4 v5 V = some z) (hz : (fun y : Int32 × VT => FinI Γ cX8_addStep (WC cy a y.2 J K X) y.1) z) : Wp Γ 0 0 0 [(0, .ref (a 9)), (1, .int v1), (2, .int v2), (3, .int v3), (4, .int v4), (5, .int v5)] [] (WC cy a V J K X) := by
  unfold f_X8_addStep at h
  refine r_iload_n C0 dX8_addStep_0 rfl 1 rfl ?_
  refine callS1 C0 h (hD _ _ _) ms_X8_isAct tm_X8_27 (fun y hy => c_X8_isAct hy) (Nat.le_of_ble_eq_true rfl) (Nat.le_of_ble_eq_true rfl) dX8_addStep_1 (fun r1 h => ?_)
  refine r_if_ne C0 17 dX8_addStep_4 rfl h (fun _ h => ?_) (fun _ h => ?_)
  · refine r_aload_n C0 dX8_addStep_17 rfl 0 rfl ?_
    refine wcg_9_2 C0 tf_X8_15 dX8_addStep_18 ?_
    refine r_bipush C0 dX8_addStep_21 kb_40 ?_
    refine r_icmp_lt C0 36 dX8_addStep_23 rfl h (fun _ h => ?_) (fun _ h => ?_)
    · refine r_aload_n C0 dX8_addStep_36 rfl 0 rfl ?_
      refine r_dup C0 dX8_addStep_37 rfl ?_
      refine wcg_9_2 C0 tf_X8_15 dX8_addStep_38 ?_
      refine r_iconst C0 dX8_addStep_41 ki_1 ?_
      refine r_iadd C0 dX8_addStep_42 ?_
      refine wcp_9_2 C0 hD tf_X8_15 dX8_addStep_43 ?_
      refine r_aload_n C0 dX8_addStep_46 rfl 0 rfl ?_
      refine r_iconst C0 dX8_addStep_47 ki_0 ?_
      refine r_iload_n C0 dX8_addStep_48 rfl 1 rfl ?_
      refine callVv2 C0 h (hD _ _ _) mw_X8_put rv_9 tm_X8_37 (fun y hy => c_X8_put hy) (Nat.le_of_ble_eq_true rfl) (Nat.le_of_ble_eq_true rfl) dX8_addStep_49 (fun r2 h => ?_)
      refine r_aload_n C0 dX8_addStep_52 rfl 0 rfl ?_
      refine r_iconst C0 dX8_addStep_53 ki_1 ?_
      refine r_iload_n C0 dX8_addStep_54 rfl 2 rfl ?_
      refine callVv2 C0 h (hD _ _ _) mw_X8_put rv_9 tm_X8_37 (fun y hy => c_X8_put hy) (Nat.le_of_ble_eq_true rfl) (Nat.le_of_ble_eq_true rfl) dX8_addStep_55 (fun r3 h => ?_)
      refine r_aload_n C0 dX8_addStep_58 rfl 0 rfl ?_
      refine r_iconst C0 dX8_addStep_59 ki_2 ?_
      refine r_iload_n C0 dX8_addStep_60 rfl 3 rfl ?_
      refine callVv2 C0 h (hD _ _ _) mw_X8_put rv_9 tm_X8_37 (fun y hy => c_X8_put hy) (Nat.le_of_ble_eq_true rfl) (Nat.le_of_ble_eq_true rfl) dX8_addStep_61 (fun r4 h => ?_)
      refine r_aload_n C0 dX8_addStep_64 rfl 0 rfl ?_
      refine r_iconst C0 dX8_addStep_65 ki_3 ?_
      refine r_iload C0 dX8_addStep_66 4 rfl ?_
      refine callVv2 C0 h (hD _ _ _) mw_X8_put rv_9 tm_X8_37 (fun y hy => c_X8_put hy) (Nat.le_of_ble_eq_true rfl) (Nat.le_of_ble_eq_true rfl) dX8_addStep_68 (fun r5 h => ?_)
      refine r_aload_n C0 dX8_addStep_71 rfl 0 rfl ?_
      refine r_iconst C0 dX8_addStep_72 ki_4 ?_
      refine r_iload C0 dX8_addStep_73 5 rfl ?_
      refine callVv2 C0 h (hD _ _ _) mw_X8_put rv_9 tm_X8_37 (fun y hy => c_X8_put hy) (Nat.le_of_ble_eq_true rfl) (Nat.le_of_ble_eq_true rfl) dX8_addStep_75 (fun r6 h => ?_)
      refine r_aload_n C0 dX8_addStep_78 rfl 0 rfl ?_
      refine wcg_9_2 C0 tf_X8_15 dX8_addStep_79 ?_
      cases h
      exact hz _ _ dX8_addStep_82
    · refine r_aload_n C0 dX8_addStep_26 rfl 0 rfl ?_
      refine wcg_9_0 C0 tf_X8_19 dX8_addStep_27 ?_
      refine r_bipush C0 dX8_addStep_30 kb_11 ?_
      refine callV1 C0 h (hD _ _ _) mw_X9_refuse rv_2 tm_X8_31 (fun y hy => c_X9_refuse hy) (Nat.le_of_ble_eq_true rfl) (Nat.le_of_ble_eq_true rfl) dX8_addStep_32 (fun r7 h => ?_)
      cases h
      exact hz _ _ dX8_addStep_35
  · refine r_aload_n C0 dX8_addStep_7 rfl 0 rfl ?_
    refine wcg_9_0 C0 tf_X8_19 dX8_addStep_8 ?_
    refine r_bipush C0 dX8_addStep_11 kb_7 ?_
    refine callV1 C0 h (hD _ _ _) mw_X9_refuse rv_2 tm_X8_31 (fun y hy => c_X9_refuse hy) (Nat.le_of_ble_eq_true rfl) (Nat.le_of_ble_eq_true rfl) dX8_addStep_13 (fun r8 h => ?_)
    cases h
    exact hz _ _ dX8_addStep_16
theorem c_X8_addStep {l : Launch} {D : va_G} {cy : Nat → ClassId} {a : Nat → Nat} {V : VT} {J : JT} {K : Nat → Option Nat} {X : va_W} {v1 : Int32} {v2 : Int32} {v3 : Int32} {v4 : Int32} {v5 : Int32} {y : Int32 × VT} (h : f_X8_addStep v1 v2 v3 v4 v5 V = some y) : CT l D cy yX8_addStep cX8_addStep 6 (some .int) 2 [.ref (a 9), .int v1, .int v2, .int v3, .int v4, .int v5] (WC cy a V J K X) (WC cy a y.2 J K X) (some (.int y.1)) :=
  mkI (by decide) (Nat.le_of_ble_eq_true rfl) (fun Γ _ _ C0 hD hF => w_X8_addStep C0 (dc_of hD) h hF)
theorem dX8_change_0 : decode cX8_change 0 = .ok (.aload_n 0, 1) := by decide +kernel
theorem dX8_change_1 : decode cX8_change 1 = .ok (.iload_n 1, 1) := by decide +kernel
theorem dX8_change_2 : decode cX8_change 2 = .ok (.iload_n 2, 1) := by decide +kernel
theorem dX8_change_3 : decode cX8_change 3 = .ok (.invokevirtual 23, 3) := by decide +kernel
theorem dX8_change_6 : decode cX8_change 6 = .ok (.istore 4, 2) := by decide +kernel
theorem dX8_change_8 : decode cX8_change 8 = .ok (.iload 4, 2) := by decide +kernel
theorem dX8_change_10 : decode cX8_change 10 = .ok (.ifCond .lt 13, 3) := by decide +kernel
theorem dX8_change_13 : decode cX8_change 13 = .ok (.iload 4, 2) := by decide +kernel
theorem dX8_change_15 : decode cX8_change 15 = .ok (.aload_n 0, 1) := by decide +kernel
theorem dX8_change_16 : decode cX8_change 16 = .ok (.getfield 9, 3) := by decide +kernel
theorem dX8_change_19 : decode cX8_change 19 = .ok (.arraylength, 1) := by decide +kernel
theorem dX8_change_20 : decode cX8_change 20 = .ok (.if_icmp .lt 12, 3) := by decide +kernel
theorem dX8_change_23 : decode cX8_change 23 = .ok (.aload_n 0, 1) := by decide +kernel
theorem dX8_change_24 : decode cX8_change 24 = .ok (.getfield 19, 3) := by decide +kernel
theorem dX8_change_27 : decode cX8_change 27 = .ok (.iconst 2, 1) := by decide +kernel
theorem dX8_change_28 : decode cX8_change 28 = .ok (.invokevirtual 31, 3) := by decide +kernel
theorem dX8_change_31 : decode cX8_change 31 = .ok (.ireturn, 1) := by decide +kernel
theorem dX8_change_32 : decode cX8_change 32 = .ok (.iload_n 2, 1) := by decide +kernel
theorem dX8_change_33 : decode cX8_change 33 = .ok (.ifCond .ne 20, 3) := by decide +kernel
theorem dX8_change_36 : decode cX8_change 36 = .ok (.iload_n 3, 1) := by decide +kernel
theorem dX8_change_37 : decode cX8_change 37 = .ok (.invokestatic 27, 3) := by decide +kernel
theorem dX8_change_40 : decode cX8_change 40 = .ok (.ifCond .ne 13, 3) := by decide +kernel
theorem dX8_change_43 : decode cX8_change 43 = .ok (.aload_n 0, 1) := by decide +kernel
theorem dX8_change_44 : decode cX8_change 44 = .ok (.getfield 19, 3) := by decide +kernel
theorem dX8_change_47 : decode cX8_change 47 = .ok (.bipush 7, 2) := by decide +kernel
theorem dX8_change_49 : decode cX8_change 49 = .ok (.invokevirtual 31, 3) := by decide +kernel
theorem dX8_change_52 : decode cX8_change 52 = .ok (.ireturn, 1) := by decide +kernel
theorem dX8_change_53 : decode cX8_change 53 = .ok (.aload_n 0, 1) := by decide +kernel
theorem dX8_change_54 : decode cX8_change 54 = .ok (.getfield 9, 3) := by decide +kernel
theorem dX8_change_57 : decode cX8_change 57 = .ok (.iload 4, 2) := by decide +kernel
theorem dX8_change_59 : decode cX8_change 59 = .ok (.iaload, 1) := by decide +kernel
theorem dX8_change_60 : decode cX8_change 60 = .ok (.istore 5, 2) := by decide +kernel
theorem dX8_change_62 : decode cX8_change 62 = .ok (.aload_n 0, 1) := by decide +kernel
theorem dX8_change_63 : decode cX8_change 63 = .ok (.getfield 9, 3) := by decide +kernel
theorem dX8_change_66 : decode cX8_change 66 = .ok (.iload 4, 2) := by decide +kernel
theorem dX8_change_68 : decode cX8_change 68 = .ok (.iload_n 3, 1) := by decide +kernel
theorem dX8_change_69 : decode cX8_change 69 = .ok (.iastore, 1) := by decide +kernel
theorem dX8_change_70 : decode cX8_change 70 = .ok (.iload 5, 2) := by decide +kernel
theorem dX8_change_72 : decode cX8_change 72 = .ok (.ireturn, 1) := by decide +kernel
theorem w_X8_change_j23 {z : (Int32 × VT)} {Γ : Gam} {cy : Nat → ClassId} {a : Nat → Nat} {V : VT} {J : JT} {K : Nat → Option Nat} {X : va_W}  (C0 : CXg Γ cX8_change 6 2 RX8 cy) (hD : DC Γ cy a X) (h : f_X8_change_j23 V = some z) (hz : (fun y : Int32 × VT => FinI Γ cX8_change (WC cy a y.2 J K X) y.1) z) : Wp Γ 0 0 23 [(0, .ref (a 9))] [] (WC cy a V J K X) := by
  unfold f_X8_change_j23 at h
  refine r_aload_n C0 dX8_change_23 rfl 0 rfl ?_
  refine wcg_9_0 C0 tf_X8_19 dX8_change_24 ?_
  refine r_iconst C0 dX8_change_27 ki_2 ?_
  refine callV1 C0 h (hD _ _ _) mw_X9_refuse rv_2 tm_X8_31 (fun y hy => c_X9_refuse hy) (Nat.le_of_ble_eq_true rfl) (Nat.le_of_ble_eq_true rfl) dX8_change_28 (fun r2 h => ?_)
  cases h
  exact hz _ _ dX8_change_31
theorem w_X8_change_j53 {z : (Int32 × VT)} {Γ : Gam} {cy : Nat → ClassId} {a : Nat → Nat} {V : VT} {J : JT} {K : Nat → Option Nat} {X : va_W} {v3 : Int32} {v4 : Int32}  (C0 : CXg Γ cX8_change 6 2 RX8 cy) (hD : DC Γ cy a X) (h : f_X8_change_j53 v3 v4 V = some z) (hz : (fun y : Int32 × VT => FinI Γ cX8_change (WC cy a y.2 J K X) y.1) z) : Wp Γ 0 0 53 [(0, .ref (a 9)), (3, .int v3), (4, .int v4)] [] (WC cy a V J K X) := by
  unfold f_X8_change_j53 at h
  refine r_aload_n C0 dX8_change_53 rfl 0 rfl ?_
  refine wcg_9_1 C0 tf_X8_9 dX8_change_54 ?_
  refine r_iload C0 dX8_change_57 2 rfl ?_
  refine wcal_30 C0 h dX8_change_59 (fun k3 h => ?_)
  obtain ⟨a4, h8, h⟩ := op_bind h
  have e8 := Option.some.inj h8
  refine r_istore (lv2 := [(5, .int a4), (0, .ref (a 9)), (3, .int v3), (4, .int v4)]) C0 dX8_change_60 e8 (Nat.le_of_ble_eq_true rfl) rfl ?_
  refine r_aload_n C0 dX8_change_62 rfl 1 rfl ?_
  refine wcg_9_1 C0 tf_X8_9 dX8_change_63 ?_
  refine r_iload C0 dX8_change_66 3 rfl ?_
  refine r_iload_n C0 dX8_change_68 rfl 2 rfl ?_
  refine wcas_30 C0 hD h dX8_change_69 (fun k5 h => ?_)
  refine r_iload C0 dX8_change_70 0 rfl ?_
  cases h
  exact hz _ _ dX8_change_72
theorem w_X8_change {z : Int32 × VT} {Γ : Gam} {cy : Nat → ClassId} {a : Nat → Nat} {V : VT} {J : JT} {K : Nat → Option Nat} {X : va_W} {v1 : Int32} {v2 : Int32} {v3 : Int32}  (C0 : CXg Γ cX8_change 6 2 RX8 cy) (hD : DC Γ cy a X) (h : f_X8_change v1 v2 v3 V = some z) (hz : (fun y : Int32 × VT => FinI Γ cX8_change (WC cy a y.2 J K X) y.1) z) : Wp Γ 0 0 0 [(0, .ref (a 9)), (1, .int v1), (2, .int v2), (3, .int v3)] [] (WC cy a V J K X) := by
  unfold f_X8_change at h
  refine r_aload_n C0 dX8_change_0 rfl 0 rfl ?_
  refine r_iload_n C0 dX8_change_1 rfl 1 rfl ?_
  refine r_iload_n C0 dX8_change_2 rfl 2 rfl ?_
  refine callV2 C0 h (hD _ _ _) mw_X8_cellOf rv_9 tm_X8_23 (fun y hy => c_X8_cellOf hy) (Nat.le_of_ble_eq_true rfl) (Nat.le_of_ble_eq_true rfl) dX8_change_3 (fun r1 h => ?_)
  refine r_istore (lv2 := [(4, .int r1), (0, .ref (a 9)), (1, .int v1), (2, .int v2), (3, .int v3)]) C0 dX8_change_6 rfl (Nat.le_of_ble_eq_true rfl) rfl ?_
  refine r_iload C0 dX8_change_8 0 rfl ?_
  refine r_if_lt C0 23 dX8_change_10 rfl h (fun _ h => ?_) (fun _ h => ?_)
  · exact r_sub [1] rfl (w_X8_change_j23 C0 hD h hz)
  · refine r_iload C0 dX8_change_13 0 rfl ?_
    refine r_aload_n C0 dX8_change_15 rfl 1 rfl ?_
    refine wcg_9_1 C0 tf_X8_9 dX8_change_16 ?_
    refine wcln_30 C0 dX8_change_19 ?_
    refine r_icmp_lt C0 32 dX8_change_20 rfl h (fun _ h => ?_) (fun _ h => ?_)
    · refine r_iload_n C0 dX8_change_32 rfl 3 rfl ?_
      refine r_if_ne C0 53 dX8_change_33 rfl h (fun _ h => ?_) (fun _ h => ?_)
      · exact r_sub [1, 4, 0] rfl (w_X8_change_j53 C0 hD h hz)
      · refine r_iload_n C0 dX8_change_36 rfl 4 rfl ?_
        refine callS1 C0 h (hD _ _ _) ms_X8_isAct tm_X8_27 (fun y hy => c_X8_isAct hy) (Nat.le_of_ble_eq_true rfl) (Nat.le_of_ble_eq_true rfl) dX8_change_37 (fun r6 h => ?_)
        refine r_if_ne C0 53 dX8_change_40 rfl h (fun _ h => ?_) (fun _ h => ?_)
        · exact r_sub [1, 4, 0] rfl (w_X8_change_j53 C0 hD h hz)
        · refine r_aload_n C0 dX8_change_43 rfl 1 rfl ?_
          refine wcg_9_0 C0 tf_X8_19 dX8_change_44 ?_
          refine r_bipush C0 dX8_change_47 kb_7 ?_
          refine callV1 C0 h (hD _ _ _) mw_X9_refuse rv_2 tm_X8_31 (fun y hy => c_X9_refuse hy) (Nat.le_of_ble_eq_true rfl) (Nat.le_of_ble_eq_true rfl) dX8_change_49 (fun r7 h => ?_)
          cases h
          exact hz _ _ dX8_change_52
    · exact r_sub [1] rfl (w_X8_change_j23 C0 hD h hz)
theorem c_X8_change {l : Launch} {D : va_G} {cy : Nat → ClassId} {a : Nat → Nat} {V : VT} {J : JT} {K : Nat → Option Nat} {X : va_W} {v1 : Int32} {v2 : Int32} {v3 : Int32} {y : Int32 × VT} (h : f_X8_change v1 v2 v3 V = some y) : CT l D cy yX8_change cX8_change 6 (some .int) 2 [.ref (a 9), .int v1, .int v2, .int v3] (WC cy a V J K X) (WC cy a y.2 J K X) (some (.int y.1)) :=
  mkI (by decide) (Nat.le_of_ble_eq_true rfl) (fun Γ _ _ C0 hD hF => w_X8_change C0 (dc_of hD) h hF)
theorem dX8_empty_0 : decode cX8_empty 0 = .ok (.aload_n 0, 1) := by decide +kernel
theorem dX8_empty_1 : decode cX8_empty 1 = .ok (.getfield 15, 3) := by decide +kernel
theorem dX8_empty_4 : decode cX8_empty 4 = .ok (.istore_n 1, 1) := by decide +kernel
theorem dX8_empty_5 : decode cX8_empty 5 = .ok (.aload_n 0, 1) := by decide +kernel
theorem dX8_empty_6 : decode cX8_empty 6 = .ok (.iconst 0, 1) := by decide +kernel
theorem dX8_empty_7 : decode cX8_empty 7 = .ok (.putfield 15, 3) := by decide +kernel
theorem dX8_empty_10 : decode cX8_empty 10 = .ok (.iload_n 1, 1) := by decide +kernel
theorem dX8_empty_11 : decode cX8_empty 11 = .ok (.ireturn, 1) := by decide +kernel
theorem w_X8_empty {z : Int32 × VT} {Γ : Gam} {cy : Nat → ClassId} {a : Nat → Nat} {V : VT} {J : JT} {K : Nat → Option Nat} {X : va_W}  (C0 : CXg Γ cX8_empty 2 0 RX8 cy) (hD : DC Γ cy a X) (h : f_X8_empty V = some z) (hz : (fun y : Int32 × VT => FinI Γ cX8_empty (WC cy a y.2 J K X) y.1) z) : Wp Γ 0 0 0 [(0, .ref (a 9))] [] (WC cy a V J K X) := by
  unfold f_X8_empty at h
  refine r_aload_n C0 dX8_empty_0 rfl 0 rfl ?_
  refine wcg_9_2 C0 tf_X8_15 dX8_empty_1 ?_
  obtain ⟨a1, h8, h⟩ := op_bind h
  have e8 := Option.some.inj h8
  refine r_istore_n (lv2 := [(1, .int a1), (0, .ref (a 9))]) C0 dX8_empty_4 rfl e8 (Nat.le_of_ble_eq_true rfl) rfl ?_
  refine r_aload_n C0 dX8_empty_5 rfl 1 rfl ?_
  refine r_iconst C0 dX8_empty_6 ki_0 ?_
  refine wcp_9_2 C0 hD tf_X8_15 dX8_empty_7 ?_
  refine r_iload_n C0 dX8_empty_10 rfl 0 rfl ?_
  cases h
  exact hz _ _ dX8_empty_11
theorem c_X8_empty {l : Launch} {D : va_G} {cy : Nat → ClassId} {a : Nat → Nat} {V : VT} {J : JT} {K : Nat → Option Nat} {X : va_W} {y : Int32 × VT} (h : f_X8_empty V = some y) : CT l D cy yX8_empty cX8_empty 2 (some .int) 0 [.ref (a 9)] (WC cy a V J K X) (WC cy a y.2 J K X) (some (.int y.1)) :=
  mkI (by decide) (Nat.le_of_ble_eq_true rfl) (fun Γ _ _ C0 hD hF => w_X8_empty C0 (dc_of hD) h hF)
theorem dX9_forget_0 : decode cX9_forget 0 = .ok (.aload_n 0, 1) := by decide +kernel
theorem dX9_forget_1 : decode cX9_forget 1 = .ok (.iconst 0, 1) := by decide +kernel
theorem dX9_forget_2 : decode cX9_forget 2 = .ok (.putfield 9, 3) := by decide +kernel
theorem dX9_forget_5 : decode cX9_forget 5 = .ok (.aload_n 0, 1) := by decide +kernel
theorem dX9_forget_6 : decode cX9_forget 6 = .ok (.iconst 0, 1) := by decide +kernel
theorem dX9_forget_7 : decode cX9_forget 7 = .ok (.putfield 15, 3) := by decide +kernel
theorem dX9_forget_10 : decode cX9_forget 10 = .ok (.return_, 1) := by decide +kernel
theorem w_X9_forget {z : VT} {Γ : Gam} {cy : Nat → ClassId} {a : Nat → Nat} {V : VT} {J : JT} {K : Nat → Option Nat} {X : va_W}  (C0 : CXg Γ cX9_forget 1 0 RX9 cy) (hD : DC Γ cy a X) (h : f_X9_forget V = some z) (hz : (fun y : VT => FinV Γ cX9_forget (WC cy a y J K X)) z) : Wp Γ 0 0 0 [(0, .ref (a 2))] [] (WC cy a V J K X) := by
  unfold f_X9_forget at h
  refine r_aload_n C0 dX9_forget_0 rfl 0 rfl ?_
  refine r_iconst C0 dX9_forget_1 ki_0 ?_
  refine wcp_2_0 C0 hD tf_X9_9 dX9_forget_2 ?_
  refine r_aload_n C0 dX9_forget_5 rfl 0 rfl ?_
  refine r_iconst C0 dX9_forget_6 ki_0 ?_
  refine wcp_2_1 C0 hD tf_X9_15 dX9_forget_7 ?_
  cases h
  exact hz _ _ dX9_forget_10
theorem c_X9_forget {l : Launch} {D : va_G} {cy : Nat → ClassId} {a : Nat → Nat} {V : VT} {J : JT} {K : Nat → Option Nat} {X : va_W} {y : VT} (h : f_X9_forget V = some y) : CT l D cy yX9_forget cX9_forget 1 none 0 [.ref (a 2)] (WC cy a V J K X) (WC cy a y J K X) none :=
  mkV (by decide) (Nat.le_of_ble_eq_true rfl) (fun Γ _ _ C0 hD hF => w_X9_forget C0 (dc_of hD) h hF)
theorem dX9_countRefusal_0 : decode cX9_countRefusal 0 = .ok (.aload_n 0, 1) := by decide +kernel
theorem dX9_countRefusal_1 : decode cX9_countRefusal 1 = .ok (.dup, 1) := by decide +kernel
theorem dX9_countRefusal_2 : decode cX9_countRefusal 2 = .ok (.getfield 18, 3) := by decide +kernel
theorem dX9_countRefusal_5 : decode cX9_countRefusal 5 = .ok (.iconst 1, 1) := by decide +kernel
theorem dX9_countRefusal_6 : decode cX9_countRefusal 6 = .ok (.iadd, 1) := by decide +kernel
theorem dX9_countRefusal_7 : decode cX9_countRefusal 7 = .ok (.putfield 18, 3) := by decide +kernel
theorem dX9_countRefusal_10 : decode cX9_countRefusal 10 = .ok (.return_, 1) := by decide +kernel
theorem w_X9_countRefusal {z : VT} {Γ : Gam} {cy : Nat → ClassId} {a : Nat → Nat} {V : VT} {J : JT} {K : Nat → Option Nat} {X : va_W}  (C0 : CXg Γ cX9_countRefusal 1 0 RX9 cy) (hD : DC Γ cy a X) (h : f_X9_countRefusal V = some z) (hz : (fun y : VT => FinV Γ cX9_countRefusal (WC cy a y J K X)) z) : Wp Γ 0 0 0 [(0, .ref (a 2))] [] (WC cy a V J K X) := by
  unfold f_X9_countRefusal at h
  refine r_aload_n C0 dX9_countRefusal_0 rfl 0 rfl ?_
  refine r_dup C0 dX9_countRefusal_1 rfl ?_
  refine wcg_2_2 C0 tf_X9_18 dX9_countRefusal_2 ?_
  refine r_iconst C0 dX9_countRefusal_5 ki_1 ?_
  refine r_iadd C0 dX9_countRefusal_6 ?_
  refine wcp_2_2 C0 hD tf_X9_18 dX9_countRefusal_7 ?_
  cases h
  exact hz _ _ dX9_countRefusal_10
theorem c_X9_countRefusal {l : Launch} {D : va_G} {cy : Nat → ClassId} {a : Nat → Nat} {V : VT} {J : JT} {K : Nat → Option Nat} {X : va_W} {y : VT} (h : f_X9_countRefusal V = some y) : CT l D cy yX9_countRefusal cX9_countRefusal 1 none 0 [.ref (a 2)] (WC cy a V J K X) (WC cy a y J K X) none :=
  mkV (by decide) (Nat.le_of_ble_eq_true rfl) (fun Γ _ _ C0 hD hF => w_X9_countRefusal C0 (dc_of hD) h hF)
theorem dX9_finding_0 : decode cX9_finding 0 = .ok (.aload_n 0, 1) := by decide +kernel
theorem dX9_finding_1 : decode cX9_finding 1 = .ok (.getfield 9, 3) := by decide +kernel
theorem dX9_finding_4 : decode cX9_finding 4 = .ok (.ireturn, 1) := by decide +kernel
theorem w_X9_finding {z : Int32} {Γ : Gam} {cy : Nat → ClassId} {a : Nat → Nat} {V : VT} {J : JT} {K : Nat → Option Nat} {X : va_W}  (C0 : CXg Γ cX9_finding 1 0 RX9 cy) (hD : DC Γ cy a X) (h : f_X9_finding V = some z) (hz : (fun y : Int32 => FinI Γ cX9_finding (WC cy a V J K X) y) z) : Wp Γ 0 0 0 [(0, .ref (a 2))] [] (WC cy a V J K X) := by
  unfold f_X9_finding at h
  refine r_aload_n C0 dX9_finding_0 rfl 0 rfl ?_
  refine wcg_2_0 C0 tf_X9_9 dX9_finding_1 ?_
  cases h
  exact hz _ _ dX9_finding_4
theorem c_X9_finding {l : Launch} {D : va_G} {cy : Nat → ClassId} {a : Nat → Nat} {V : VT} {J : JT} {K : Nat → Option Nat} {X : va_W} {y : Int32} (h : f_X9_finding V = some y) : CT l D cy yX9_finding cX9_finding 1 (some .int) 0 [.ref (a 2)] (WC cy a V J K X) (WC cy a V J K X) (some (.int y)) :=
  mkI (by decide) (Nat.le_of_ble_eq_true rfl) (fun Γ _ _ C0 hD hF => w_X9_finding C0 (dc_of hD) h hF)
theorem dX9_subject_0 : decode cX9_subject 0 = .ok (.aload_n 0, 1) := by decide +kernel
theorem dX9_subject_1 : decode cX9_subject 1 = .ok (.getfield 15, 3) := by decide +kernel
theorem dX9_subject_4 : decode cX9_subject 4 = .ok (.ireturn, 1) := by decide +kernel
theorem w_X9_subject {z : Int32} {Γ : Gam} {cy : Nat → ClassId} {a : Nat → Nat} {V : VT} {J : JT} {K : Nat → Option Nat} {X : va_W}  (C0 : CXg Γ cX9_subject 1 0 RX9 cy) (hD : DC Γ cy a X) (h : f_X9_subject V = some z) (hz : (fun y : Int32 => FinI Γ cX9_subject (WC cy a V J K X) y) z) : Wp Γ 0 0 0 [(0, .ref (a 2))] [] (WC cy a V J K X) := by
  unfold f_X9_subject at h
  refine r_aload_n C0 dX9_subject_0 rfl 0 rfl ?_
  refine wcg_2_1 C0 tf_X9_15 dX9_subject_1 ?_
  cases h
  exact hz _ _ dX9_subject_4
theorem c_X9_subject {l : Launch} {D : va_G} {cy : Nat → ClassId} {a : Nat → Nat} {V : VT} {J : JT} {K : Nat → Option Nat} {X : va_W} {y : Int32} (h : f_X9_subject V = some y) : CT l D cy yX9_subject cX9_subject 1 (some .int) 0 [.ref (a 2)] (WC cy a V J K X) (WC cy a V J K X) (some (.int y)) :=
  mkI (by decide) (Nat.le_of_ble_eq_true rfl) (fun Γ _ _ C0 hD hF => w_X9_subject C0 (dc_of hD) h hF)
theorem dX9_refusals_0 : decode cX9_refusals 0 = .ok (.aload_n 0, 1) := by decide +kernel
theorem dX9_refusals_1 : decode cX9_refusals 1 = .ok (.getfield 18, 3) := by decide +kernel
theorem dX9_refusals_4 : decode cX9_refusals 4 = .ok (.ireturn, 1) := by decide +kernel
theorem w_X9_refusals {z : Int32} {Γ : Gam} {cy : Nat → ClassId} {a : Nat → Nat} {V : VT} {J : JT} {K : Nat → Option Nat} {X : va_W}  (C0 : CXg Γ cX9_refusals 1 0 RX9 cy) (hD : DC Γ cy a X) (h : f_X9_refusals V = some z) (hz : (fun y : Int32 => FinI Γ cX9_refusals (WC cy a V J K X) y) z) : Wp Γ 0 0 0 [(0, .ref (a 2))] [] (WC cy a V J K X) := by
  unfold f_X9_refusals at h
  refine r_aload_n C0 dX9_refusals_0 rfl 0 rfl ?_
  refine wcg_2_2 C0 tf_X9_18 dX9_refusals_1 ?_
  cases h
  exact hz _ _ dX9_refusals_4
theorem c_X9_refusals {l : Launch} {D : va_G} {cy : Nat → ClassId} {a : Nat → Nat} {V : VT} {J : JT} {K : Nat → Option Nat} {X : va_W} {y : Int32} (h : f_X9_refusals V = some y) : CT l D cy yX9_refusals cX9_refusals 1 (some .int) 0 [.ref (a 2)] (WC cy a V J K X) (WC cy a V J K X) (some (.int y)) :=
  mkI (by decide) (Nat.le_of_ble_eq_true rfl) (fun Γ _ _ C0 hD hF => w_X9_refusals C0 (dc_of hD) h hF)
theorem dX10_bricksWanted_0 : decode cX10_bricksWanted 0 = .ok (.aload_n 0, 1) := by decide +kernel
theorem dX10_bricksWanted_1 : decode cX10_bricksWanted 1 = .ok (.iload_n 1, 1) := by decide +kernel
theorem dX10_bricksWanted_2 : decode cX10_bricksWanted 2 = .ok (.invokevirtual 52, 3) := by decide +kernel
theorem dX10_bricksWanted_5 : decode cX10_bricksWanted 5 = .ok (.ifCond .eq 5, 3) := by decide +kernel
theorem dX10_bricksWanted_8 : decode cX10_bricksWanted 8 = .ok (.iconst 0, 1) := by decide +kernel
theorem dX10_bricksWanted_9 : decode cX10_bricksWanted 9 = .ok (.ireturn, 1) := by decide +kernel
theorem dX10_bricksWanted_10 : decode cX10_bricksWanted 10 = .ok (.aload_n 0, 1) := by decide +kernel
theorem dX10_bricksWanted_11 : decode cX10_bricksWanted 11 = .ok (.iload_n 1, 1) := by decide +kernel
theorem dX10_bricksWanted_12 : decode cX10_bricksWanted 12 = .ok (.invokevirtual 44, 3) := by decide +kernel
theorem dX10_bricksWanted_15 : decode cX10_bricksWanted 15 = .ok (.fstore_n 2, 1) := by decide +kernel
theorem dX10_bricksWanted_16 : decode cX10_bricksWanted 16 = .ok (.aload_n 0, 1) := by decide +kernel
theorem dX10_bricksWanted_17 : decode cX10_bricksWanted 17 = .ok (.getfield 19, 3) := by decide +kernel
theorem dX10_bricksWanted_20 : decode cX10_bricksWanted 20 = .ok (.getfield 48, 3) := by decide +kernel
theorem dX10_bricksWanted_23 : decode cX10_bricksWanted 23 = .ok (.iload_n 1, 1) := by decide +kernel
theorem dX10_bricksWanted_24 : decode cX10_bricksWanted 24 = .ok (.iconst 3, 1) := by decide +kernel
theorem dX10_bricksWanted_25 : decode cX10_bricksWanted 25 = .ok (.invokevirtual 29, 3) := by decide +kernel
theorem dX10_bricksWanted_28 : decode cX10_bricksWanted 28 = .ok (.istore_n 3, 1) := by decide +kernel
theorem dX10_bricksWanted_29 : decode cX10_bricksWanted 29 = .ok (.fload_n 2, 1) := by decide +kernel
theorem dX10_bricksWanted_30 : decode cX10_bricksWanted 30 = .ok (.f2i, 1) := by decide +kernel
theorem dX10_bricksWanted_31 : decode cX10_bricksWanted 31 = .ok (.sipush 1000, 3) := by decide +kernel
theorem dX10_bricksWanted_34 : decode cX10_bricksWanted 34 = .ok (.idiv, 1) := by decide +kernel
theorem dX10_bricksWanted_35 : decode cX10_bricksWanted 35 = .ok (.istore 4, 2) := by decide +kernel
theorem dX10_bricksWanted_37 : decode cX10_bricksWanted 37 = .ok (.iload_n 3, 1) := by decide +kernel
theorem dX10_bricksWanted_38 : decode cX10_bricksWanted 38 = .ok (.iload 4, 2) := by decide +kernel
theorem dX10_bricksWanted_40 : decode cX10_bricksWanted 40 = .ok (.if_icmp .le 17, 3) := by decide +kernel
theorem dX10_bricksWanted_43 : decode cX10_bricksWanted 43 = .ok (.fload_n 2, 1) := by decide +kernel
theorem dX10_bricksWanted_44 : decode cX10_bricksWanted 44 = .ok (.ldc 47, 2) := by decide +kernel
theorem dX10_bricksWanted_46 : decode cX10_bricksWanted 46 = .ok (.iload 4, 2) := by decide +kernel
theorem dX10_bricksWanted_48 : decode cX10_bricksWanted 48 = .ok (.i2f, 1) := by decide +kernel
theorem dX10_bricksWanted_49 : decode cX10_bricksWanted 49 = .ok (.fmul, 1) := by decide +kernel
theorem dX10_bricksWanted_50 : decode cX10_bricksWanted 50 = .ok (.fcmp .l, 1) := by decide +kernel
theorem dX10_bricksWanted_51 : decode cX10_bricksWanted 51 = .ok (.ifCond .le 6, 3) := by decide +kernel
theorem dX10_bricksWanted_54 : decode cX10_bricksWanted 54 = .ok (.iinc 4 1, 3) := by decide +kernel
theorem dX10_bricksWanted_57 : decode cX10_bricksWanted 57 = .ok (.iload 4, 2) := by decide +kernel
theorem dX10_bricksWanted_59 : decode cX10_bricksWanted 59 = .ok (.iload_n 3, 1) := by decide +kernel
theorem dX10_bricksWanted_60 : decode cX10_bricksWanted 60 = .ok (.isub, 1) := by decide +kernel
theorem dX10_bricksWanted_61 : decode cX10_bricksWanted 61 = .ok (.ireturn, 1) := by decide +kernel
theorem w_X10_bricksWanted_j57 {z : (Int32)} {Γ : Gam} {cy : Nat → ClassId} {a : Nat → Nat} {V : VT} {J : JT} {K : Nat → Option Nat} {X : va_W} {v3 : Int32} {v4 : Int32}  (C0 : CXg Γ cX10_bricksWanted 5 4 RX10 cy) (hD : DC Γ cy a X) (h : f_X10_bricksWanted_j57 v3 v4 V = some z) (hz : (fun y : Int32 => FinI Γ cX10_bricksWanted (WC cy a V J K X) y) z) : Wp Γ 0 0 57 [(3, .int v3), (4, .int v4)] [] (WC cy a V J K X) := by
  unfold f_X10_bricksWanted_j57 at h
  refine r_iload C0 dX10_bricksWanted_57 1 rfl ?_
  refine r_iload_n C0 dX10_bricksWanted_59 rfl 0 rfl ?_
  refine r_isub C0 dX10_bricksWanted_60 ?_
  cases h
  exact hz _ _ dX10_bricksWanted_61
theorem w_X10_bricksWanted {z : Int32} {Γ : Gam} {cy : Nat → ClassId} {a : Nat → Nat} {V : VT} {J : JT} {K : Nat → Option Nat} {X : va_W} {v1 : Int32}  (C0 : CXg Γ cX10_bricksWanted 5 4 RX10 cy) (hD : DC Γ cy a X) (h : f_X10_bricksWanted v1 V = some z) (hz : (fun y : Int32 => FinI Γ cX10_bricksWanted (WC cy a V J K X) y) z) : Wp Γ 0 0 0 [(0, .ref (a 4)), (1, .int v1)] [] (WC cy a V J K X) := by
  unfold f_X10_bricksWanted at h
  refine r_aload_n C0 dX10_bricksWanted_0 rfl 0 rfl ?_
  refine r_iload_n C0 dX10_bricksWanted_1 rfl 1 rfl ?_
  refine callV1 C0 h (hD _ _ _) mw_X10_isBalanced rv_4 tm_X10_52 (fun y hy => c_X10_isBalanced hy) (Nat.le_of_ble_eq_true rfl) (Nat.le_of_ble_eq_true rfl) dX10_bricksWanted_2 (fun r1 h => ?_)
  refine r_if_eq C0 10 dX10_bricksWanted_5 rfl h (fun _ h => ?_) (fun _ h => ?_)
  · refine r_aload_n C0 dX10_bricksWanted_10 rfl 0 rfl ?_
    refine r_iload_n C0 dX10_bricksWanted_11 rfl 1 rfl ?_
    refine callV1 C0 h (hD _ _ _) mw_X10_burdens rv_4 tm_X10_44 (fun y hy => c_X10_burdens hy) (Nat.le_of_ble_eq_true rfl) (Nat.le_of_ble_eq_true rfl) dX10_bricksWanted_12 (fun r2 h => ?_)
    refine r_fstore_n (lv2 := [(2, .float r2), (0, .ref (a 4)), (1, .int v1)]) C0 dX10_bricksWanted_15 rfl rfl (Nat.le_of_ble_eq_true rfl) rfl ?_
    refine r_aload_n C0 dX10_bricksWanted_16 rfl 1 rfl ?_
    refine wcg_4_0 C0 tf_X10_19 dX10_bricksWanted_17 ?_
    refine wcg_3_0 C0 tf_X10_48 dX10_bricksWanted_20 ?_
    refine r_iload_n C0 dX10_bricksWanted_23 rfl 2 rfl ?_
    refine r_iconst C0 dX10_bricksWanted_24 ki_3 ?_
    refine callV2 C0 h (hD _ _ _) mw_X7_get (rv_t tb_10) tm_X10_29 (fun y hy => c_X7_get tb_10 hy) (Nat.le_of_ble_eq_true rfl) (Nat.le_of_ble_eq_true rfl) dX10_bricksWanted_25 (fun r3 h => ?_)
    refine r_istore_n (lv2 := [(3, .int r3), (2, .float r2), (0, .ref (a 4)), (1, .int v1)]) C0 dX10_bricksWanted_28 rfl rfl (Nat.le_of_ble_eq_true rfl) rfl ?_
    refine r_fload_n C0 dX10_bricksWanted_29 rfl 1 rfl ?_
    refine r_f2i C0 dX10_bricksWanted_30 ?_
    refine r_sipush C0 dX10_bricksWanted_31 ks_1000 ?_
    refine r_idiv C0 dX10_bricksWanted_34 h (fun u4 h => ?_)
    obtain ⟨a5, h8, h⟩ := op_bind h
    have e8 := Option.some.inj h8
    refine r_istore (lv2 := [(4, .int a5), (3, .int r3), (2, .float r2), (0, .ref (a 4)), (1, .int v1)]) C0 dX10_bricksWanted_35 e8 (Nat.le_of_ble_eq_true rfl) rfl ?_
    refine r_iload_n C0 dX10_bricksWanted_37 rfl 1 rfl ?_
    refine r_iload C0 dX10_bricksWanted_38 0 rfl ?_
    refine r_icmp_le C0 57 dX10_bricksWanted_40 rfl h (fun _ h => ?_) (fun _ h => ?_)
    · exact r_sub [1, 0] rfl (w_X10_bricksWanted_j57 C0 hD h hz)
    · refine r_fload_n C0 dX10_bricksWanted_43 rfl 2 rfl ?_
      refine r_ldcf C0 tk_X10_47 dX10_bricksWanted_44 ?_
      refine r_iload C0 dX10_bricksWanted_46 0 rfl ?_
      refine r_i2f C0 dX10_bricksWanted_48 ?_
      refine r_fmul C0 dX10_bricksWanted_49 h (fun w6 h => ?_)
      refine r_fcmp C0 dX10_bricksWanted_50 ?_
      refine r_if_le C0 57 dX10_bricksWanted_51 rfl h (fun _ h => ?_) (fun _ h => ?_)
      · exact r_sub [1, 0] rfl (w_X10_bricksWanted_j57 C0 hD h hz)
      · obtain ⟨a7, h8, h⟩ := op_bind h
        have e8 := Option.some.inj h8
        refine r_iinc (lv2 := [(4, .int a7), (3, .int r3), (2, .float r2), (0, .ref (a 4)), (1, .int v1)]) C0 dX10_bricksWanted_54 0 rfl ki_1 e8 (Nat.le_of_ble_eq_true rfl) rfl ?_
        exact r_sub [1, 0] rfl (w_X10_bricksWanted_j57 C0 hD h hz)
  · refine r_iconst C0 dX10_bricksWanted_8 ki_0 ?_
    cases h
    exact hz _ _ dX10_bricksWanted_9
theorem c_X10_bricksWanted {l : Launch} {D : va_G} {cy : Nat → ClassId} {a : Nat → Nat} {V : VT} {J : JT} {K : Nat → Option Nat} {X : va_W} {v1 : Int32} {y : Int32} (h : f_X10_bricksWanted v1 V = some y) : CT l D cy yX10_bricksWanted cX10_bricksWanted 5 (some .int) 4 [.ref (a 4), .int v1] (WC cy a V J K X) (WC cy a V J K X) (some (.int y)) :=
  mkI (by decide) (Nat.le_of_ble_eq_true rfl) (fun Γ _ _ C0 hD hF => w_X10_bricksWanted C0 (dc_of hD) h hF)
theorem dX10_shareOf_0 : decode cX10_shareOf 0 = .ok (.aload_n 0, 1) := by decide +kernel
theorem dX10_shareOf_1 : decode cX10_shareOf 1 = .ok (.getfield 19, 3) := by decide +kernel
theorem dX10_shareOf_4 : decode cX10_shareOf 4 = .ok (.getfield 74, 3) := by decide +kernel
theorem dX10_shareOf_7 : decode cX10_shareOf 7 = .ok (.iload_n 1, 1) := by decide +kernel
theorem dX10_shareOf_8 : decode cX10_shareOf 8 = .ok (.iconst 0, 1) := by decide +kernel
theorem dX10_shareOf_9 : decode cX10_shareOf 9 = .ok (.invokevirtual 29, 3) := by decide +kernel
theorem dX10_shareOf_12 : decode cX10_shareOf 12 = .ok (.istore_n 2, 1) := by decide +kernel
theorem dX10_shareOf_13 : decode cX10_shareOf 13 = .ok (.aload_n 0, 1) := by decide +kernel
theorem dX10_shareOf_14 : decode cX10_shareOf 14 = .ok (.iload_n 2, 1) := by decide +kernel
theorem dX10_shareOf_15 : decode cX10_shareOf 15 = .ok (.invokevirtual 60, 3) := by decide +kernel
theorem dX10_shareOf_18 : decode cX10_shareOf 18 = .ok (.pop, 1) := by decide +kernel
theorem dX10_shareOf_19 : decode cX10_shareOf 19 = .ok (.aload_n 0, 1) := by decide +kernel
theorem dX10_shareOf_20 : decode cX10_shareOf 20 = .ok (.iload_n 2, 1) := by decide +kernel
theorem dX10_shareOf_21 : decode cX10_shareOf 21 = .ok (.invokevirtual 63, 3) := by decide +kernel
theorem dX10_shareOf_24 : decode cX10_shareOf 24 = .ok (.aload_n 0, 1) := by decide +kernel
theorem dX10_shareOf_25 : decode cX10_shareOf 25 = .ok (.getfield 19, 3) := by decide +kernel
theorem dX10_shareOf_28 : decode cX10_shareOf 28 = .ok (.getfield 74, 3) := by decide +kernel
theorem dX10_shareOf_31 : decode cX10_shareOf 31 = .ok (.iload_n 1, 1) := by decide +kernel
theorem dX10_shareOf_32 : decode cX10_shareOf 32 = .ok (.iconst 1, 1) := by decide +kernel
theorem dX10_shareOf_33 : decode cX10_shareOf 33 = .ok (.invokevirtual 29, 3) := by decide +kernel
theorem dX10_shareOf_36 : decode cX10_shareOf 36 = .ok (.istore_n 3, 1) := by decide +kernel
theorem dX10_shareOf_37 : decode cX10_shareOf 37 = .ok (.iload_n 3, 1) := by decide +kernel
theorem dX10_shareOf_38 : decode cX10_shareOf 38 = .ok (.ifCond .lt 21, 3) := by decide +kernel
theorem dX10_shareOf_41 : decode cX10_shareOf 41 = .ok (.iload_n 3, 1) := by decide +kernel
theorem dX10_shareOf_42 : decode cX10_shareOf 42 = .ok (.aload_n 0, 1) := by decide +kernel
theorem dX10_shareOf_43 : decode cX10_shareOf 43 = .ok (.getfield 15, 3) := by decide +kernel
theorem dX10_shareOf_46 : decode cX10_shareOf 46 = .ok (.arraylength, 1) := by decide +kernel
theorem dX10_shareOf_47 : decode cX10_shareOf 47 = .ok (.if_icmp .ge 12, 3) := by decide +kernel
theorem dX10_shareOf_50 : decode cX10_shareOf 50 = .ok (.aload_n 0, 1) := by decide +kernel
theorem dX10_shareOf_51 : decode cX10_shareOf 51 = .ok (.getfield 15, 3) := by decide +kernel
theorem dX10_shareOf_54 : decode cX10_shareOf 54 = .ok (.iload_n 3, 1) := by decide +kernel
theorem dX10_shareOf_55 : decode cX10_shareOf 55 = .ok (.laload, 1) := by decide +kernel
theorem dX10_shareOf_56 : decode cX10_shareOf 56 = .ok (.goto 4, 3) := by decide +kernel
theorem dX10_shareOf_59 : decode cX10_shareOf 59 = .ok (.lconst 0, 1) := by decide +kernel
theorem dX10_shareOf_60 : decode cX10_shareOf 60 = .ok (.lreturn, 1) := by decide +kernel
theorem w_X10_shareOf_j59 {z : (Int64 × VT × JT)} {Γ : Gam} {cy : Nat → ClassId} {a : Nat → Nat} {V : VT} {J : JT} {K : Nat → Option Nat} {X : va_W}  (C0 : CXg Γ cX10_shareOf 4 3 RX10 cy) (hD : DC Γ cy a X) (h : f_X10_shareOf_j59 V J = some z) (hz : (fun y : Int64 × VT × JT => FinL Γ cX10_shareOf (WC cy a y.2.1 y.2.2 K X) y.1) z) : Wp Γ 0 0 59 [] [] (WC cy a V J K X) := by
  unfold f_X10_shareOf_j59 at h
  refine r_lconst (v := 0) C0 dX10_shareOf_59 (by decide) ?_
  cases h
  exact hz _ _ dX10_shareOf_60
theorem w_X10_shareOf {z : Int64 × VT × JT} {Γ : Gam} {cy : Nat → ClassId} {a : Nat → Nat} {V : VT} {J : JT} {K : Nat → Option Nat} {X : va_W} {v1 : Int32}  (C0 : CXg Γ cX10_shareOf 4 3 RX10 cy) (hD : DC Γ cy a X) (h : f_X10_shareOf v1 V J = some z) (hz : (fun y : Int64 × VT × JT => FinL Γ cX10_shareOf (WC cy a y.2.1 y.2.2 K X) y.1) z) : Wp Γ 0 0 0 [(0, .ref (a 4)), (1, .int v1)] [] (WC cy a V J K X) := by
  unfold f_X10_shareOf at h
  refine r_aload_n C0 dX10_shareOf_0 rfl 0 rfl ?_
  refine wcg_4_0 C0 tf_X10_19 dX10_shareOf_1 ?_
  refine wcg_3_2 C0 tf_X10_74 dX10_shareOf_4 ?_
  refine r_iload_n C0 dX10_shareOf_7 rfl 1 rfl ?_
  refine r_iconst C0 dX10_shareOf_8 ki_0 ?_
  refine callV2 C0 h (hD _ _ _) mw_X7_get (rv_t tb_12) tm_X10_29 (fun y hy => c_X7_get tb_12 hy) (Nat.le_of_ble_eq_true rfl) (Nat.le_of_ble_eq_true rfl) dX10_shareOf_9 (fun r1 h => ?_)
  refine r_istore_n (lv2 := [(2, .int r1), (0, .ref (a 4)), (1, .int v1)]) C0 dX10_shareOf_12 rfl rfl (Nat.le_of_ble_eq_true rfl) rfl ?_
  refine r_aload_n C0 dX10_shareOf_13 rfl 1 rfl ?_
  refine r_iload_n C0 dX10_shareOf_14 rfl 0 rfl ?_
  refine callV1 C0 h (hD _ _ _) mw_X10_findLines rv_4 tm_X10_60 (fun y hy => c_X10_findLines hy) (Nat.le_of_ble_eq_true rfl) (Nat.le_of_ble_eq_true rfl) dX10_shareOf_15 (fun r2 h => ?_)
  refine r_pop C0 dX10_shareOf_18 rfl ?_
  refine r_aload_n C0 dX10_shareOf_19 rfl 1 rfl ?_
  refine r_iload_n C0 dX10_shareOf_20 rfl 0 rfl ?_
  refine callVv1 C0 h (hD _ _ _) mw_X10_spread rv_4 tm_X10_63 (fun y hy => c_X10_spread hy) (Nat.le_of_ble_eq_true rfl) (Nat.le_of_ble_eq_true rfl) dX10_shareOf_21 (fun r3 h => ?_)
  refine r_aload_n C0 dX10_shareOf_24 rfl 1 rfl ?_
  refine wcg_4_0 C0 tf_X10_19 dX10_shareOf_25 ?_
  refine wcg_3_2 C0 tf_X10_74 dX10_shareOf_28 ?_
  refine r_iload_n C0 dX10_shareOf_31 rfl 2 rfl ?_
  refine r_iconst C0 dX10_shareOf_32 ki_1 ?_
  refine callV2 C0 h (hD _ _ _) mw_X7_get (rv_t tb_12) tm_X10_29 (fun y hy => c_X7_get tb_12 hy) (Nat.le_of_ble_eq_true rfl) (Nat.le_of_ble_eq_true rfl) dX10_shareOf_33 (fun r4 h => ?_)
  refine r_istore_n (lv2 := [(3, .int r4), (2, .int r1), (0, .ref (a 4)), (1, .int v1)]) C0 dX10_shareOf_36 rfl rfl (Nat.le_of_ble_eq_true rfl) rfl ?_
  refine r_iload_n C0 dX10_shareOf_37 rfl 0 rfl ?_
  refine r_if_lt C0 59 dX10_shareOf_38 rfl h (fun _ h => ?_) (fun _ h => ?_)
  · exact r_sub [] rfl (w_X10_shareOf_j59 C0 hD h hz)
  · refine r_iload_n C0 dX10_shareOf_41 rfl 0 rfl ?_
    refine r_aload_n C0 dX10_shareOf_42 rfl 2 rfl ?_
    refine wcg_4_2 C0 tf_X10_15 dX10_shareOf_43 ?_
    refine wcln_24 C0 dX10_shareOf_46 ?_
    refine r_icmp_ge C0 59 dX10_shareOf_47 rfl h (fun _ h => ?_) (fun _ h => ?_)
    · exact r_sub [] rfl (w_X10_shareOf_j59 C0 hD h hz)
    · refine r_aload_n C0 dX10_shareOf_50 rfl 2 rfl ?_
      refine wcg_4_2 C0 tf_X10_15 dX10_shareOf_51 ?_
      refine r_iload_n C0 dX10_shareOf_54 rfl 0 rfl ?_
      refine wcal_24 C0 h dX10_shareOf_55 (fun k5 h => ?_)
      refine r_goto C0 60 dX10_shareOf_56 rfl ?_
      cases h
      exact hz _ _ dX10_shareOf_60
theorem c_X10_shareOf {l : Launch} {D : va_G} {cy : Nat → ClassId} {a : Nat → Nat} {V : VT} {J : JT} {K : Nat → Option Nat} {X : va_W} {v1 : Int32} {y : Int64 × VT × JT} (h : f_X10_shareOf v1 V J = some y) : CT l D cy yX10_shareOf cX10_shareOf 4 (some .long) 3 [.ref (a 4), .int v1] (WC cy a V J K X) (WC cy a y.2.1 y.2.2 K X) (some (.long y.1)) :=
  mkL (by decide) (Nat.le_of_ble_eq_true rfl) (fun Γ _ _ C0 hD hF => w_X10_shareOf C0 (dc_of hD) h hF)
theorem dX11_begin_0 : decode cX11_begin 0 = .ok (.aload_n 0, 1) := by decide +kernel
theorem dX11_begin_1 : decode cX11_begin 1 = .ok (.getfield 19, 3) := by decide +kernel
theorem dX11_begin_4 : decode cX11_begin 4 = .ok (.invokevirtual 186, 3) := by decide +kernel
theorem dX11_begin_7 : decode cX11_begin 7 = .ok (.aload_n 0, 1) := by decide +kernel
theorem dX11_begin_8 : decode cX11_begin 8 = .ok (.getfield 12, 3) := by decide +kernel
theorem dX11_begin_11 : decode cX11_begin 11 = .ok (.invokevirtual 189, 3) := by decide +kernel
theorem dX11_begin_14 : decode cX11_begin 14 = .ok (.return_, 1) := by decide +kernel
theorem w_X11_begin {z : VT} {Γ : Gam} {cy : Nat → ClassId} {a : Nat → Nat} {V : VT} {J : JT} {K : Nat → Option Nat} {X : va_W}  (C0 : CXg Γ cX11_begin 1 1 RX11 cy) (hD : DC Γ cy a X) (h : f_X11_begin V = some z) (hz : (fun y : VT => FinV Γ cX11_begin (WC cy a y J K X)) z) : Wp Γ 0 0 0 [(0, .ref (a 0))] [] (WC cy a V J K X) := by
  unfold f_X11_begin at h
  refine r_aload_n C0 dX11_begin_0 rfl 0 rfl ?_
  refine wcg_0_1 C0 tf_X11_19 dX11_begin_1 ?_
  refine callVv0 C0 h (hD _ _ _) mw_X9_forget rv_2 tm_X11_186 (fun y hy => c_X9_forget hy) (Nat.le_of_ble_eq_true rfl) (Nat.le_of_ble_eq_true rfl) dX11_begin_4 (fun r1 h => ?_)
  refine r_aload_n C0 dX11_begin_7 rfl 0 rfl ?_
  refine wcg_0_0 C0 tf_X11_12 dX11_begin_8 ?_
  refine callVv0 C0 h (hD _ _ _) mw_X4_open rv_1 tm_X11_189 (fun y hy => c_X4_open hy) (Nat.le_of_ble_eq_true rfl) (Nat.le_of_ble_eq_true rfl) dX11_begin_11 (fun r2 h => ?_)
  cases h
  exact hz _ _ dX11_begin_14
theorem c_X11_begin {l : Launch} {D : va_G} {cy : Nat → ClassId} {a : Nat → Nat} {V : VT} {J : JT} {K : Nat → Option Nat} {X : va_W} {y : VT} (h : f_X11_begin V = some y) : CT l D cy yX11_begin cX11_begin 1 none 1 [.ref (a 0)] (WC cy a V J K X) (WC cy a y J K X) none :=
  mkV (by decide) (Nat.le_of_ble_eq_true rfl) (fun Γ _ _ C0 hD hF => w_X11_begin C0 (dc_of hD) h hF)
theorem dX11_settle_0 : decode cX11_settle 0 = .ok (.aload_n 0, 1) := by decide +kernel
theorem dX11_settle_1 : decode cX11_settle 1 = .ok (.getfield 19, 3) := by decide +kernel
theorem dX11_settle_4 : decode cX11_settle 4 = .ok (.invokevirtual 174, 3) := by decide +kernel
theorem dX11_settle_7 : decode cX11_settle 7 = .ok (.ifCond .ne 5, 3) := by decide +kernel
theorem dX11_settle_10 : decode cX11_settle 10 = .ok (.iload_n 1, 1) := by decide +kernel
theorem dX11_settle_11 : decode cX11_settle 11 = .ok (.ireturn, 1) := by decide +kernel
theorem dX11_settle_12 : decode cX11_settle 12 = .ok (.aload_n 0, 1) := by decide +kernel
theorem dX11_settle_13 : decode cX11_settle 13 = .ok (.getfield 19, 3) := by decide +kernel
theorem dX11_settle_16 : decode cX11_settle 16 = .ok (.invokevirtual 195, 3) := by decide +kernel
theorem dX11_settle_19 : decode cX11_settle 19 = .ok (.aload_n 0, 1) := by decide +kernel
theorem dX11_settle_20 : decode cX11_settle 20 = .ok (.getfield 12, 3) := by decide +kernel
theorem dX11_settle_23 : decode cX11_settle 23 = .ok (.invokevirtual 183, 3) := by decide +kernel
theorem dX11_settle_26 : decode cX11_settle 26 = .ok (.ldc 198, 2) := by decide +kernel
theorem dX11_settle_28 : decode cX11_settle 28 = .ok (.ireturn, 1) := by decide +kernel
theorem w_X11_settle {z : Int32 × VT} {Γ : Gam} {cy : Nat → ClassId} {a : Nat → Nat} {V : VT} {J : JT} {K : Nat → Option Nat} {X : va_W} {v1 : Int32}  (C0 : CXg Γ cX11_settle 2 2 RX11 cy) (hD : DC Γ cy a X) (h : f_X11_settle v1 V = some z) (hz : (fun y : Int32 × VT => FinI Γ cX11_settle (WC cy a y.2 J K X) y.1) z) : Wp Γ 0 0 0 [(0, .ref (a 0)), (1, .int v1)] [] (WC cy a V J K X) := by
  unfold f_X11_settle at h
  refine r_aload_n C0 dX11_settle_0 rfl 0 rfl ?_
  refine wcg_0_1 C0 tf_X11_19 dX11_settle_1 ?_
  refine callV0 C0 h (hD _ _ _) mw_X9_isRefusal rv_2 tm_X11_174 (fun y hy => c_X9_isRefusal hy) (Nat.le_of_ble_eq_true rfl) (Nat.le_of_ble_eq_true rfl) dX11_settle_4 (fun r1 h => ?_)
  refine r_if_ne C0 12 dX11_settle_7 rfl h (fun _ h => ?_) (fun _ h => ?_)
  · refine r_aload_n C0 dX11_settle_12 rfl 0 rfl ?_
    refine wcg_0_1 C0 tf_X11_19 dX11_settle_13 ?_
    refine callVv0 C0 h (hD _ _ _) mw_X9_countRefusal rv_2 tm_X11_195 (fun y hy => c_X9_countRefusal hy) (Nat.le_of_ble_eq_true rfl) (Nat.le_of_ble_eq_true rfl) dX11_settle_16 (fun r2 h => ?_)
    refine r_aload_n C0 dX11_settle_19 rfl 0 rfl ?_
    refine wcg_0_0 C0 tf_X11_12 dX11_settle_20 ?_
    refine callVv0 C0 h (hD _ _ _) mw_X4_rollBack rv_1 tm_X11_183 (fun y hy => c_X4_rollBack hy) (Nat.le_of_ble_eq_true rfl) (Nat.le_of_ble_eq_true rfl) dX11_settle_23 (fun r3 h => ?_)
    refine r_ldc C0 tk_X11_198 dX11_settle_26 ?_
    cases h
    exact hz _ _ dX11_settle_28
  · refine r_iload_n C0 dX11_settle_10 rfl 1 rfl ?_
    cases h
    exact hz _ _ dX11_settle_11
theorem c_X11_settle {l : Launch} {D : va_G} {cy : Nat → ClassId} {a : Nat → Nat} {V : VT} {J : JT} {K : Nat → Option Nat} {X : va_W} {v1 : Int32} {y : Int32 × VT} (h : f_X11_settle v1 V = some y) : CT l D cy yX11_settle cX11_settle 2 (some .int) 2 [.ref (a 0), .int v1] (WC cy a V J K X) (WC cy a y.2 J K X) (some (.int y.1)) :=
  mkI (by decide) (Nat.le_of_ble_eq_true rfl) (fun Γ _ _ C0 hD hF => w_X11_settle C0 (dc_of hD) h hF)
theorem dX11_wave_0 : decode cX11_wave 0 = .ok (.aload_n 0, 1) := by decide +kernel
theorem dX11_wave_1 : decode cX11_wave 1 = .ok (.invokevirtual 82, 3) := by decide +kernel
theorem dX11_wave_4 : decode cX11_wave 4 = .ok (.aload_n 0, 1) := by decide +kernel
theorem dX11_wave_5 : decode cX11_wave 5 = .ok (.aload_n 0, 1) := by decide +kernel
theorem dX11_wave_6 : decode cX11_wave 6 = .ok (.getfield 53, 3) := by decide +kernel
theorem dX11_wave_9 : decode cX11_wave 9 = .ok (.iload_n 1, 1) := by decide +kernel
theorem dX11_wave_10 : decode cX11_wave 10 = .ok (.invokevirtual 132, 3) := by decide +kernel
theorem dX11_wave_13 : decode cX11_wave 13 = .ok (.invokevirtual 135, 3) := by decide +kernel
theorem dX11_wave_16 : decode cX11_wave 16 = .ok (.ireturn, 1) := by decide +kernel
theorem w_X11_wave {z : Int32 × VT} {Γ : Gam} {cy : Nat → ClassId} {a : Nat → Nat} {V : VT} {J : JT} {K : Nat → Option Nat} {X : va_W} {v1 : Int32}  (C0 : CXg Γ cX11_wave 2 3 RX11 cy) (hD : DC Γ cy a X) (h : f_X11_wave v1 V = some z) (hz : (fun y : Int32 × VT => FinI Γ cX11_wave (WC cy a y.2 J K X) y.1) z) : Wp Γ 0 0 0 [(0, .ref (a 0)), (1, .int v1)] [] (WC cy a V J K X) := by
  unfold f_X11_wave at h
  refine r_aload_n C0 dX11_wave_0 rfl 0 rfl ?_
  refine callVv0 C0 h (hD _ _ _) mw_X11_begin rv_0 tm_X11_82 (fun y hy => c_X11_begin hy) (Nat.le_of_ble_eq_true rfl) (Nat.le_of_ble_eq_true rfl) dX11_wave_1 (fun r1 h => ?_)
  refine r_aload_n C0 dX11_wave_4 rfl 0 rfl ?_
  refine r_aload_n C0 dX11_wave_5 rfl 0 rfl ?_
  refine wcg_0_5 C0 tf_X11_53 dX11_wave_6 ?_
  refine r_iload_n C0 dX11_wave_9 rfl 1 rfl ?_
  refine callV1 C0 h (hD _ _ _) mw_X6_waveFlag rv_6 tm_X11_132 (fun y hy => c_X6_waveFlag hy) (Nat.le_of_ble_eq_true rfl) (Nat.le_of_ble_eq_true rfl) dX11_wave_10 (fun r2 h => ?_)
  refine callV1 C0 h (hD _ _ _) mw_X11_settle rv_0 tm_X11_135 (fun y hy => c_X11_settle hy) (Nat.le_of_ble_eq_true rfl) (Nat.le_of_ble_eq_true rfl) dX11_wave_13 (fun r3 h => ?_)
  cases h
  exact hz _ _ dX11_wave_16
theorem c_X11_wave {l : Launch} {D : va_G} {cy : Nat → ClassId} {a : Nat → Nat} {V : VT} {J : JT} {K : Nat → Option Nat} {X : va_W} {v1 : Int32} {y : Int32 × VT} (h : f_X11_wave v1 V = some y) : CT l D cy yX11_wave cX11_wave 2 (some .int) 3 [.ref (a 0), .int v1] (WC cy a V J K X) (WC cy a y.2 J K X) (some (.int y.1)) :=
  mkI (by decide) (Nat.le_of_ble_eq_true rfl) (fun Γ _ _ C0 hD hF => w_X11_wave C0 (dc_of hD) h hF)
theorem dX11_tell_0 : decode cX11_tell 0 = .ok (.aload_n 0, 1) := by decide +kernel
theorem dX11_tell_1 : decode cX11_tell 1 = .ok (.invokevirtual 82, 3) := by decide +kernel
theorem dX11_tell_4 : decode cX11_tell 4 = .ok (.aload_n 0, 1) := by decide +kernel
theorem dX11_tell_5 : decode cX11_tell 5 = .ok (.aload_n 0, 1) := by decide +kernel
theorem dX11_tell_6 : decode cX11_tell 6 = .ok (.getfield 78, 3) := by decide +kernel
theorem dX11_tell_9 : decode cX11_tell 9 = .ok (.iload_n 1, 1) := by decide +kernel
theorem dX11_tell_10 : decode cX11_tell 10 = .ok (.iload_n 2, 1) := by decide +kernel
theorem dX11_tell_11 : decode cX11_tell 11 = .ok (.iload_n 3, 1) := by decide +kernel
theorem dX11_tell_12 : decode cX11_tell 12 = .ok (.iload 4, 2) := by decide +kernel
theorem dX11_tell_14 : decode cX11_tell 14 = .ok (.iload 5, 2) := by decide +kernel
theorem dX11_tell_16 : decode cX11_tell 16 = .ok (.invokevirtual 158, 3) := by decide +kernel
theorem dX11_tell_19 : decode cX11_tell 19 = .ok (.invokevirtual 135, 3) := by decide +kernel
theorem dX11_tell_22 : decode cX11_tell 22 = .ok (.ireturn, 1) := by decide +kernel
theorem w_X11_tell {z : Int32 × VT} {Γ : Gam} {cy : Nat → ClassId} {a : Nat → Nat} {V : VT} {J : JT} {K : Nat → Option Nat} {X : va_W} {v1 : Int32} {v2 : Int32} {v3 : Int32} {v4 : Int32} {v5 : Int32}  (C0 : CXg Γ cX11_tell 6 3 RX11 cy) (hD : DC Γ cy a X) (h : f_X11_tell v1 v2 v3 v4 v5 V = some z) (hz : (fun y : Int32 × VT => FinI Γ cX11_tell (WC cy a y.2 J K X) y.1) z) : Wp Γ 0 0 0 [(0, .ref (a 0)), (1, .int v1), (2, .int v2), (3, .int v3), (4, .int v4), (5, .int v5)] [] (WC cy a V J K X) := by
  unfold f_X11_tell at h
  refine r_aload_n C0 dX11_tell_0 rfl 0 rfl ?_
  refine callVv0 C0 h (hD _ _ _) mw_X11_begin rv_0 tm_X11_82 (fun y hy => c_X11_begin hy) (Nat.le_of_ble_eq_true rfl) (Nat.le_of_ble_eq_true rfl) dX11_tell_1 (fun r1 h => ?_)
  refine r_aload_n C0 dX11_tell_4 rfl 0 rfl ?_
  refine r_aload_n C0 dX11_tell_5 rfl 0 rfl ?_
  refine wcg_0_8 C0 tf_X11_78 dX11_tell_6 ?_
  refine r_iload_n C0 dX11_tell_9 rfl 1 rfl ?_
  refine r_iload_n C0 dX11_tell_10 rfl 2 rfl ?_
  refine r_iload_n C0 dX11_tell_11 rfl 3 rfl ?_
  refine r_iload C0 dX11_tell_12 4 rfl ?_
  refine r_iload C0 dX11_tell_14 5 rfl ?_
  refine callV5 C0 h (hD _ _ _) mw_X8_addStep rv_9 tm_X11_158 (fun y hy => c_X8_addStep hy) (Nat.le_of_ble_eq_true rfl) (Nat.le_of_ble_eq_true rfl) dX11_tell_16 (fun r2 h => ?_)
  refine callV1 C0 h (hD _ _ _) mw_X11_settle rv_0 tm_X11_135 (fun y hy => c_X11_settle hy) (Nat.le_of_ble_eq_true rfl) (Nat.le_of_ble_eq_true rfl) dX11_tell_19 (fun r3 h => ?_)
  cases h
  exact hz _ _ dX11_tell_22
theorem c_X11_tell {l : Launch} {D : va_G} {cy : Nat → ClassId} {a : Nat → Nat} {V : VT} {J : JT} {K : Nat → Option Nat} {X : va_W} {v1 : Int32} {v2 : Int32} {v3 : Int32} {v4 : Int32} {v5 : Int32} {y : Int32 × VT} (h : f_X11_tell v1 v2 v3 v4 v5 V = some y) : CT l D cy yX11_tell cX11_tell 6 (some .int) 3 [.ref (a 0), .int v1, .int v2, .int v3, .int v4, .int v5] (WC cy a V J K X) (WC cy a y.2 J K X) (some (.int y.1)) :=
  mkI (by decide) (Nat.le_of_ble_eq_true rfl) (fun Γ _ _ C0 hD hF => w_X11_tell C0 (dc_of hD) h hF)
theorem dX11_forge_0 : decode cX11_forge 0 = .ok (.aload_n 0, 1) := by decide +kernel
theorem dX11_forge_1 : decode cX11_forge 1 = .ok (.invokevirtual 82, 3) := by decide +kernel
theorem dX11_forge_4 : decode cX11_forge 4 = .ok (.aload_n 0, 1) := by decide +kernel
theorem dX11_forge_5 : decode cX11_forge 5 = .ok (.aload_n 0, 1) := by decide +kernel
theorem dX11_forge_6 : decode cX11_forge 6 = .ok (.getfield 78, 3) := by decide +kernel
theorem dX11_forge_9 : decode cX11_forge 9 = .ok (.iload_n 1, 1) := by decide +kernel
theorem dX11_forge_10 : decode cX11_forge 10 = .ok (.iload_n 2, 1) := by decide +kernel
theorem dX11_forge_11 : decode cX11_forge 11 = .ok (.iload_n 3, 1) := by decide +kernel
theorem dX11_forge_12 : decode cX11_forge 12 = .ok (.invokevirtual 162, 3) := by decide +kernel
theorem dX11_forge_15 : decode cX11_forge 15 = .ok (.invokevirtual 135, 3) := by decide +kernel
theorem dX11_forge_18 : decode cX11_forge 18 = .ok (.ireturn, 1) := by decide +kernel
theorem w_X11_forge {z : Int32 × VT} {Γ : Gam} {cy : Nat → ClassId} {a : Nat → Nat} {V : VT} {J : JT} {K : Nat → Option Nat} {X : va_W} {v1 : Int32} {v2 : Int32} {v3 : Int32}  (C0 : CXg Γ cX11_forge 4 3 RX11 cy) (hD : DC Γ cy a X) (h : f_X11_forge v1 v2 v3 V = some z) (hz : (fun y : Int32 × VT => FinI Γ cX11_forge (WC cy a y.2 J K X) y.1) z) : Wp Γ 0 0 0 [(0, .ref (a 0)), (1, .int v1), (2, .int v2), (3, .int v3)] [] (WC cy a V J K X) := by
  unfold f_X11_forge at h
  refine r_aload_n C0 dX11_forge_0 rfl 0 rfl ?_
  refine callVv0 C0 h (hD _ _ _) mw_X11_begin rv_0 tm_X11_82 (fun y hy => c_X11_begin hy) (Nat.le_of_ble_eq_true rfl) (Nat.le_of_ble_eq_true rfl) dX11_forge_1 (fun r1 h => ?_)
  refine r_aload_n C0 dX11_forge_4 rfl 0 rfl ?_
  refine r_aload_n C0 dX11_forge_5 rfl 0 rfl ?_
  refine wcg_0_8 C0 tf_X11_78 dX11_forge_6 ?_
  refine r_iload_n C0 dX11_forge_9 rfl 1 rfl ?_
  refine r_iload_n C0 dX11_forge_10 rfl 2 rfl ?_
  refine r_iload_n C0 dX11_forge_11 rfl 3 rfl ?_
  refine callV3 C0 h (hD _ _ _) mw_X8_change rv_9 tm_X11_162 (fun y hy => c_X8_change hy) (Nat.le_of_ble_eq_true rfl) (Nat.le_of_ble_eq_true rfl) dX11_forge_12 (fun r2 h => ?_)
  refine callV1 C0 h (hD _ _ _) mw_X11_settle rv_0 tm_X11_135 (fun y hy => c_X11_settle hy) (Nat.le_of_ble_eq_true rfl) (Nat.le_of_ble_eq_true rfl) dX11_forge_15 (fun r3 h => ?_)
  cases h
  exact hz _ _ dX11_forge_18
theorem c_X11_forge {l : Launch} {D : va_G} {cy : Nat → ClassId} {a : Nat → Nat} {V : VT} {J : JT} {K : Nat → Option Nat} {X : va_W} {v1 : Int32} {v2 : Int32} {v3 : Int32} {y : Int32 × VT} (h : f_X11_forge v1 v2 v3 V = some y) : CT l D cy yX11_forge cX11_forge 4 (some .int) 3 [.ref (a 0), .int v1, .int v2, .int v3] (WC cy a V J K X) (WC cy a y.2 J K X) (some (.int y.1)) :=
  mkI (by decide) (Nat.le_of_ble_eq_true rfl) (fun Γ _ _ C0 hD hF => w_X11_forge C0 (dc_of hD) h hF)
theorem dX11_clear_0 : decode cX11_clear 0 = .ok (.aload_n 0, 1) := by decide +kernel
theorem dX11_clear_1 : decode cX11_clear 1 = .ok (.invokevirtual 82, 3) := by decide +kernel
theorem dX11_clear_4 : decode cX11_clear 4 = .ok (.aload_n 0, 1) := by decide +kernel
theorem dX11_clear_5 : decode cX11_clear 5 = .ok (.getfield 78, 3) := by decide +kernel
theorem dX11_clear_8 : decode cX11_clear 8 = .ok (.invokevirtual 165, 3) := by decide +kernel
theorem dX11_clear_11 : decode cX11_clear 11 = .ok (.ireturn, 1) := by decide +kernel
theorem w_X11_clear {z : Int32 × VT} {Γ : Gam} {cy : Nat → ClassId} {a : Nat → Nat} {V : VT} {J : JT} {K : Nat → Option Nat} {X : va_W}  (C0 : CXg Γ cX11_clear 1 2 RX11 cy) (hD : DC Γ cy a X) (h : f_X11_clear V = some z) (hz : (fun y : Int32 × VT => FinI Γ cX11_clear (WC cy a y.2 J K X) y.1) z) : Wp Γ 0 0 0 [(0, .ref (a 0))] [] (WC cy a V J K X) := by
  unfold f_X11_clear at h
  refine r_aload_n C0 dX11_clear_0 rfl 0 rfl ?_
  refine callVv0 C0 h (hD _ _ _) mw_X11_begin rv_0 tm_X11_82 (fun y hy => c_X11_begin hy) (Nat.le_of_ble_eq_true rfl) (Nat.le_of_ble_eq_true rfl) dX11_clear_1 (fun r1 h => ?_)
  refine r_aload_n C0 dX11_clear_4 rfl 0 rfl ?_
  refine wcg_0_8 C0 tf_X11_78 dX11_clear_5 ?_
  refine callV0 C0 h (hD _ _ _) mw_X8_empty rv_9 tm_X11_165 (fun y hy => c_X8_empty hy) (Nat.le_of_ble_eq_true rfl) (Nat.le_of_ble_eq_true rfl) dX11_clear_8 (fun r2 h => ?_)
  cases h
  exact hz _ _ dX11_clear_11
theorem c_X11_clear {l : Launch} {D : va_G} {cy : Nat → ClassId} {a : Nat → Nat} {V : VT} {J : JT} {K : Nat → Option Nat} {X : va_W} {y : Int32 × VT} (h : f_X11_clear V = some y) : CT l D cy yX11_clear cX11_clear 1 (some .int) 2 [.ref (a 0)] (WC cy a V J K X) (WC cy a y.2 J K X) (some (.int y.1)) :=
  mkI (by decide) (Nat.le_of_ble_eq_true rfl) (fun Γ _ _ C0 hD hF => w_X11_clear C0 (dc_of hD) h hF)
theorem dX11_play_0 : decode cX11_play 0 = .ok (.aload_n 0, 1) := by decide +kernel
theorem dX11_play_1 : decode cX11_play 1 = .ok (.getfield 78, 3) := by decide +kernel
theorem dX11_play_4 : decode cX11_play 4 = .ok (.iload_n 1, 1) := by decide +kernel
theorem dX11_play_5 : decode cX11_play 5 = .ok (.iconst 1, 1) := by decide +kernel
theorem dX11_play_6 : decode cX11_play 6 = .ok (.invokevirtual 177, 3) := by decide +kernel
theorem dX11_play_9 : decode cX11_play 9 = .ok (.istore_n 2, 1) := by decide +kernel
theorem dX11_play_10 : decode cX11_play 10 = .ok (.aload_n 0, 1) := by decide +kernel
theorem dX11_play_11 : decode cX11_play 11 = .ok (.getfield 78, 3) := by decide +kernel
theorem dX11_play_14 : decode cX11_play 14 = .ok (.iload_n 1, 1) := by decide +kernel
theorem dX11_play_15 : decode cX11_play 15 = .ok (.iconst 2, 1) := by decide +kernel
theorem dX11_play_16 : decode cX11_play 16 = .ok (.invokevirtual 177, 3) := by decide +kernel
theorem dX11_play_19 : decode cX11_play 19 = .ok (.istore_n 3, 1) := by decide +kernel
theorem dX11_play_20 : decode cX11_play 20 = .ok (.aload_n 0, 1) := by decide +kernel
theorem dX11_play_21 : decode cX11_play 21 = .ok (.getfield 78, 3) := by decide +kernel
theorem dX11_play_24 : decode cX11_play 24 = .ok (.iload_n 1, 1) := by decide +kernel
theorem dX11_play_25 : decode cX11_play 25 = .ok (.iconst 3, 1) := by decide +kernel
theorem dX11_play_26 : decode cX11_play 26 = .ok (.invokevirtual 177, 3) := by decide +kernel
theorem dX11_play_29 : decode cX11_play 29 = .ok (.istore 4, 2) := by decide +kernel
theorem dX11_play_31 : decode cX11_play 31 = .ok (.aload_n 0, 1) := by decide +kernel
theorem dX11_play_32 : decode cX11_play 32 = .ok (.getfield 78, 3) := by decide +kernel
theorem dX11_play_35 : decode cX11_play 35 = .ok (.iload_n 1, 1) := by decide +kernel
theorem dX11_play_36 : decode cX11_play 36 = .ok (.iconst 0, 1) := by decide +kernel
theorem dX11_play_37 : decode cX11_play 37 = .ok (.invokevirtual 177, 3) := by decide +kernel
theorem dX11_play_40 : decode cX11_play 40 = .ok (.tableswitch 81 1 4 #[32, 44, 53, 63], 32) := by decide +kernel
theorem dX11_play_72 : decode cX11_play 72 = .ok (.aload_n 0, 1) := by decide +kernel
theorem dX11_play_73 : decode cX11_play 73 = .ok (.getfield 62, 3) := by decide +kernel
theorem dX11_play_76 : decode cX11_play 76 = .ok (.iload_n 2, 1) := by decide +kernel
theorem dX11_play_77 : decode cX11_play 77 = .ok (.iload_n 3, 1) := by decide +kernel
theorem dX11_play_78 : decode cX11_play 78 = .ok (.iload 4, 2) := by decide +kernel
theorem dX11_play_80 : decode cX11_play 80 = .ok (.invokevirtual 113, 3) := by decide +kernel
theorem dX11_play_83 : decode cX11_play 83 = .ok (.ireturn, 1) := by decide +kernel
theorem dX11_play_84 : decode cX11_play 84 = .ok (.aload_n 0, 1) := by decide +kernel
theorem dX11_play_85 : decode cX11_play 85 = .ok (.getfield 62, 3) := by decide +kernel
theorem dX11_play_88 : decode cX11_play 88 = .ok (.iload_n 2, 1) := by decide +kernel
theorem dX11_play_89 : decode cX11_play 89 = .ok (.invokevirtual 116, 3) := by decide +kernel
theorem dX11_play_92 : decode cX11_play 92 = .ok (.ireturn, 1) := by decide +kernel
theorem dX11_play_93 : decode cX11_play 93 = .ok (.aload_n 0, 1) := by decide +kernel
theorem dX11_play_94 : decode cX11_play 94 = .ok (.getfield 53, 3) := by decide +kernel
theorem dX11_play_97 : decode cX11_play 97 = .ok (.iload_n 2, 1) := by decide +kernel
theorem dX11_play_98 : decode cX11_play 98 = .ok (.iload_n 3, 1) := by decide +kernel
theorem dX11_play_99 : decode cX11_play 99 = .ok (.invokevirtual 123, 3) := by decide +kernel
theorem dX11_play_102 : decode cX11_play 102 = .ok (.ireturn, 1) := by decide +kernel
theorem dX11_play_103 : decode cX11_play 103 = .ok (.aload_n 0, 1) := by decide +kernel
theorem dX11_play_104 : decode cX11_play 104 = .ok (.getfield 69, 3) := by decide +kernel
theorem dX11_play_107 : decode cX11_play 107 = .ok (.iload_n 2, 1) := by decide +kernel
theorem dX11_play_108 : decode cX11_play 108 = .ok (.iload_n 3, 1) := by decide +kernel
theorem dX11_play_109 : decode cX11_play 109 = .ok (.aload_n 0, 1) := by decide +kernel
theorem dX11_play_110 : decode cX11_play 110 = .ok (.getfield 28, 3) := by decide +kernel
theorem dX11_play_113 : decode cX11_play 113 = .ok (.invokevirtual 199, 3) := by decide +kernel
theorem dX11_play_116 : decode cX11_play 116 = .ok (.iconst 4, 1) := by decide +kernel
theorem dX11_play_117 : decode cX11_play 117 = .ok (.invokevirtual 138, 3) := by decide +kernel
theorem dX11_play_120 : decode cX11_play 120 = .ok (.ireturn, 1) := by decide +kernel
theorem dX11_play_121 : decode cX11_play 121 = .ok (.aload_n 0, 1) := by decide +kernel
theorem dX11_play_122 : decode cX11_play 122 = .ok (.getfield 69, 3) := by decide +kernel
theorem dX11_play_125 : decode cX11_play 125 = .ok (.iload_n 2, 1) := by decide +kernel
theorem dX11_play_126 : decode cX11_play 126 = .ok (.invokevirtual 144, 3) := by decide +kernel
theorem dX11_play_129 : decode cX11_play 129 = .ok (.ireturn, 1) := by decide +kernel
theorem w_X11_play {z : Int32 × VT × JT} {Γ : Gam} {cy : Nat → ClassId} {a : Nat → Nat} {V : VT} {J : JT} {K : Nat → Option Nat} {X : va_W} {v1 : Int32}  (C0 : CXg Γ cX11_play 5 6 RX11 cy) (hD : DC Γ cy a X) (h : f_X11_play v1 V J = some z) (hz : (fun y : Int32 × VT × JT => FinI Γ cX11_play (WC cy a y.2.1 y.2.2 K X) y.1) z) : Wp Γ 0 0 0 [(0, .ref (a 0)), (1, .int v1)] [] (WC cy a V J K X) := by
  unfold f_X11_play at h
  refine r_aload_n C0 dX11_play_0 rfl 0 rfl ?_
  refine wcg_0_8 C0 tf_X11_78 dX11_play_1 ?_
  refine r_iload_n C0 dX11_play_4 rfl 1 rfl ?_
  refine r_iconst C0 dX11_play_5 ki_1 ?_
  refine callV2 C0 h (hD _ _ _) mw_X8_number rv_9 tm_X11_177 (fun y hy => c_X8_number hy) (Nat.le_of_ble_eq_true rfl) (Nat.le_of_ble_eq_true rfl) dX11_play_6 (fun r1 h => ?_)
  refine r_istore_n (lv2 := [(2, .int r1), (0, .ref (a 0)), (1, .int v1)]) C0 dX11_play_9 rfl rfl (Nat.le_of_ble_eq_true rfl) rfl ?_
  refine r_aload_n C0 dX11_play_10 rfl 1 rfl ?_
  refine wcg_0_8 C0 tf_X11_78 dX11_play_11 ?_
  refine r_iload_n C0 dX11_play_14 rfl 2 rfl ?_
  refine r_iconst C0 dX11_play_15 ki_2 ?_
  refine callV2 C0 h (hD _ _ _) mw_X8_number rv_9 tm_X11_177 (fun y hy => c_X8_number hy) (Nat.le_of_ble_eq_true rfl) (Nat.le_of_ble_eq_true rfl) dX11_play_16 (fun r2 h => ?_)
  refine r_istore_n (lv2 := [(3, .int r2), (2, .int r1), (0, .ref (a 0)), (1, .int v1)]) C0 dX11_play_19 rfl rfl (Nat.le_of_ble_eq_true rfl) rfl ?_
  refine r_aload_n C0 dX11_play_20 rfl 2 rfl ?_
  refine wcg_0_8 C0 tf_X11_78 dX11_play_21 ?_
  refine r_iload_n C0 dX11_play_24 rfl 3 rfl ?_
  refine r_iconst C0 dX11_play_25 ki_3 ?_
  refine callV2 C0 h (hD _ _ _) mw_X8_number rv_9 tm_X11_177 (fun y hy => c_X8_number hy) (Nat.le_of_ble_eq_true rfl) (Nat.le_of_ble_eq_true rfl) dX11_play_26 (fun r3 h => ?_)
  refine r_istore (lv2 := [(4, .int r3), (3, .int r2), (2, .int r1), (0, .ref (a 0)), (1, .int v1)]) C0 dX11_play_29 rfl (Nat.le_of_ble_eq_true rfl) rfl ?_
  refine r_aload_n C0 dX11_play_31 rfl 3 rfl ?_
  refine wcg_0_8 C0 tf_X11_78 dX11_play_32 ?_
  refine r_iload_n C0 dX11_play_35 rfl 4 rfl ?_
  refine r_iconst C0 dX11_play_36 ki_0 ?_
  refine callV2 C0 h (hD _ _ _) mw_X8_number rv_9 tm_X11_177 (fun y hy => c_X8_number hy) (Nat.le_of_ble_eq_true rfl) (Nat.le_of_ble_eq_true rfl) dX11_play_37 (fun r4 h => ?_)
  by_cases c0 : r4 = 1
  · have h := op_pos c0 h
    refine r_swI C0 72 dX11_play_40 c0 (by decide) (by decide) rfl rfl ?_
    refine r_aload_n C0 dX11_play_72 rfl 3 rfl ?_
    refine wcg_0_6 C0 tf_X11_62 dX11_play_73 ?_
    refine r_iload_n C0 dX11_play_76 rfl 2 rfl ?_
    refine r_iload_n C0 dX11_play_77 rfl 1 rfl ?_
    refine r_iload C0 dX11_play_78 0 rfl ?_
    refine callV3 C0 h (hD _ _ _) mw_X2_hangThing rv_7 tm_X11_113 (fun y hy => c_X2_hangThing hy) (Nat.le_of_ble_eq_true rfl) (Nat.le_of_ble_eq_true rfl) dX11_play_80 (fun r5 h => ?_)
    cases h
    exact hz _ _ dX11_play_83
  have h := op_neg c0 h
  have n0 := ne_toInt (i := 1) c0 (by decide)
  by_cases c1 : r4 = 2
  · have h := op_pos c1 h
    refine r_swI C0 84 dX11_play_40 c1 (by decide) (by decide) rfl rfl ?_
    refine r_aload_n C0 dX11_play_84 rfl 3 rfl ?_
    refine wcg_0_6 C0 tf_X11_62 dX11_play_85 ?_
    refine r_iload_n C0 dX11_play_88 rfl 2 rfl ?_
    refine callV1 C0 h (hD _ _ _) mw_X2_takeDown rv_7 tm_X11_116 (fun y hy => c_X2_takeDown hy) (Nat.le_of_ble_eq_true rfl) (Nat.le_of_ble_eq_true rfl) dX11_play_89 (fun r6 h => ?_)
    cases h
    exact hz _ _ dX11_play_92
  have h := op_neg c1 h
  have n1 := ne_toInt (i := 2) c1 (by decide)
  by_cases c2 : r4 = 3
  · have h := op_pos c2 h
    refine r_swI C0 93 dX11_play_40 c2 (by decide) (by decide) rfl rfl ?_
    refine r_aload_n C0 dX11_play_93 rfl 3 rfl ?_
    refine wcg_0_5 C0 tf_X11_53 dX11_play_94 ?_
    refine r_iload_n C0 dX11_play_97 rfl 2 rfl ?_
    refine r_iload_n C0 dX11_play_98 rfl 1 rfl ?_
    refine callV2 C0 h (hD _ _ _) mw_X6_putBricks rv_6 tm_X11_123 (fun y hy => c_X6_putBricks hy) (Nat.le_of_ble_eq_true rfl) (Nat.le_of_ble_eq_true rfl) dX11_play_99 (fun r7 h => ?_)
    cases h
    exact hz _ _ dX11_play_102
  have h := op_neg c2 h
  have n2 := ne_toInt (i := 3) c2 (by decide)
  by_cases c3 : r4 = 4
  · have h := op_pos c3 h
    refine r_swI C0 103 dX11_play_40 c3 (by decide) (by decide) rfl rfl ?_
    refine r_aload_n C0 dX11_play_103 rfl 3 rfl ?_
    refine wcg_0_7 C0 tf_X11_69 dX11_play_104 ?_
    refine r_iload_n C0 dX11_play_107 rfl 2 rfl ?_
    refine r_iload_n C0 dX11_play_108 rfl 1 rfl ?_
    refine r_aload_n C0 dX11_play_109 rfl 3 rfl ?_
    refine wcg_0_2 C0 tf_X11_28 dX11_play_110 ?_
    refine callV0 C0 h (hD _ _ _) mw_X3_time rv_3 tm_X11_199 (fun y hy => c_X3_time hy) (Nat.le_of_ble_eq_true rfl) (Nat.le_of_ble_eq_true rfl) dX11_play_113 (fun r8 h => ?_)
    refine r_iconst C0 dX11_play_116 ki_4 ?_
    refine callV4 C0 h (hD _ _ _) mw_X0_addCue rv_8 tm_X11_138 (fun y hy => c_X0_addCue hy) (Nat.le_of_ble_eq_true rfl) (Nat.le_of_ble_eq_true rfl) dX11_play_117 (fun r9 h => ?_)
    cases h
    exact hz _ _ dX11_play_120
  have h := op_neg c3 h
  have n3 := ne_toInt (i := 4) c3 (by decide)
  refine r_swD C0 121 dX11_play_40 (by omega) rfl ?_
  refine r_aload_n C0 dX11_play_121 rfl 3 rfl ?_
  refine wcg_0_7 C0 tf_X11_69 dX11_play_122 ?_
  refine r_iload_n C0 dX11_play_125 rfl 2 rfl ?_
  refine callV1 C0 h (hD _ _ _) mw_X0_runTicks rv_8 tm_X11_144 (fun y hy => c_X0_runTicks hy) (Nat.le_of_ble_eq_true rfl) (Nat.le_of_ble_eq_true rfl) dX11_play_126 (fun r10 h => ?_)
  cases h
  exact hz _ _ dX11_play_129
theorem c_X11_play {l : Launch} {D : va_G} {cy : Nat → ClassId} {a : Nat → Nat} {V : VT} {J : JT} {K : Nat → Option Nat} {X : va_W} {v1 : Int32} {y : Int32 × VT × JT} (h : f_X11_play v1 V J = some y) : CT l D cy yX11_play cX11_play 5 (some .int) 6 [.ref (a 0), .int v1] (WC cy a V J K X) (WC cy a y.2.1 y.2.2 K X) (some (.int y.1)) :=
  mkI (by decide) (Nat.le_of_ble_eq_true rfl) (fun Γ _ _ C0 hD hF => w_X11_play C0 (dc_of hD) h hF)
theorem dX11_check_0 : decode cX11_check 0 = .ok (.aload_n 0, 1) := by decide +kernel
theorem dX11_check_1 : decode cX11_check 1 = .ok (.invokevirtual 82, 3) := by decide +kernel
theorem dX11_check_4 : decode cX11_check 4 = .ok (.iconst 0, 1) := by decide +kernel
theorem dX11_check_5 : decode cX11_check 5 = .ok (.istore_n 1, 1) := by decide +kernel
theorem dX11_check_6 : decode cX11_check 6 = .ok (.iconst 0, 1) := by decide +kernel
theorem dX11_check_7 : decode cX11_check 7 = .ok (.istore_n 2, 1) := by decide +kernel
theorem dX11_check_8 : decode cX11_check 8 = .ok (.iload_n 2, 1) := by decide +kernel
theorem dX11_check_9 : decode cX11_check 9 = .ok (.aload_n 0, 1) := by decide +kernel
theorem dX11_check_10 : decode cX11_check 10 = .ok (.getfield 78, 3) := by decide +kernel
theorem dX11_check_13 : decode cX11_check 13 = .ok (.invokevirtual 168, 3) := by decide +kernel
theorem dX11_check_16 : decode cX11_check 16 = .ok (.if_icmp .ge 65, 3) := by decide +kernel
theorem dX11_check_19 : decode cX11_check 19 = .ok (.aload_n 0, 1) := by decide +kernel
theorem dX11_check_20 : decode cX11_check 20 = .ok (.iload_n 2, 1) := by decide +kernel
theorem dX11_check_21 : decode cX11_check 21 = .ok (.invokevirtual 171, 3) := by decide +kernel
theorem dX11_check_24 : decode cX11_check 24 = .ok (.istore_n 3, 1) := by decide +kernel
theorem dX11_check_25 : decode cX11_check 25 = .ok (.aload_n 0, 1) := by decide +kernel
theorem dX11_check_26 : decode cX11_check 26 = .ok (.getfield 19, 3) := by decide +kernel
theorem dX11_check_29 : decode cX11_check 29 = .ok (.invokevirtual 174, 3) := by decide +kernel
theorem dX11_check_32 : decode cX11_check 32 = .ok (.ifCond .ne 27, 3) := by decide +kernel
theorem dX11_check_35 : decode cX11_check 35 = .ok (.iload_n 3, 1) := by decide +kernel
theorem dX11_check_36 : decode cX11_check 36 = .ok (.aload_n 0, 1) := by decide +kernel
theorem dX11_check_37 : decode cX11_check 37 = .ok (.getfield 78, 3) := by decide +kernel
theorem dX11_check_40 : decode cX11_check 40 = .ok (.iload_n 2, 1) := by decide +kernel
theorem dX11_check_41 : decode cX11_check 41 = .ok (.iconst 4, 1) := by decide +kernel
theorem dX11_check_42 : decode cX11_check 42 = .ok (.invokevirtual 177, 3) := by decide +kernel
theorem dX11_check_45 : decode cX11_check 45 = .ok (.if_icmp .eq 14, 3) := by decide +kernel
theorem dX11_check_48 : decode cX11_check 48 = .ok (.aload_n 0, 1) := by decide +kernel
theorem dX11_check_49 : decode cX11_check 49 = .ok (.getfield 19, 3) := by decide +kernel
theorem dX11_check_52 : decode cX11_check 52 = .ok (.bipush 19, 2) := by decide +kernel
theorem dX11_check_54 : decode cX11_check 54 = .ok (.iload_n 3, 1) := by decide +kernel
theorem dX11_check_55 : decode cX11_check 55 = .ok (.invokevirtual 180, 3) := by decide +kernel
theorem dX11_check_58 : decode cX11_check 58 = .ok (.pop, 1) := by decide +kernel
theorem dX11_check_59 : decode cX11_check 59 = .ok (.aload_n 0, 1) := by decide +kernel
theorem dX11_check_60 : decode cX11_check 60 = .ok (.getfield 19, 3) := by decide +kernel
theorem dX11_check_63 : decode cX11_check 63 = .ok (.invokevirtual 174, 3) := by decide +kernel
theorem dX11_check_66 : decode cX11_check 66 = .ok (.ifCond .eq 6, 3) := by decide +kernel
theorem dX11_check_69 : decode cX11_check 69 = .ok (.goto 12, 3) := by decide +kernel
theorem dX11_check_72 : decode cX11_check 72 = .ok (.iinc 1 1, 3) := by decide +kernel
theorem dX11_check_75 : decode cX11_check 75 = .ok (.iinc 2 1, 3) := by decide +kernel
theorem dX11_check_78 : decode cX11_check 78 = .ok (.goto (-70), 3) := by decide +kernel
theorem dX11_check_81 : decode cX11_check 81 = .ok (.aload_n 0, 1) := by decide +kernel
theorem dX11_check_82 : decode cX11_check 82 = .ok (.getfield 12, 3) := by decide +kernel
theorem dX11_check_85 : decode cX11_check 85 = .ok (.invokevirtual 183, 3) := by decide +kernel
theorem dX11_check_88 : decode cX11_check 88 = .ok (.iload_n 1, 1) := by decide +kernel
theorem dX11_check_89 : decode cX11_check 89 = .ok (.ireturn, 1) := by decide +kernel
theorem w_X11_check_j81 {z : (Int32 × VT × JT)} {Γ : Gam} {cy : Nat → ClassId} {a : Nat → Nat} {V : VT} {J : JT} {K : Nat → Option Nat} {X : va_W} {v1 : Int32}  (C0 : CXg Γ cX11_check 4 7 RX11 cy) (hD : DC Γ cy a X) (h : f_X11_check_j81 v1 V J = some z) (hz : (fun y : Int32 × VT × JT => FinI Γ cX11_check (WC cy a y.2.1 y.2.2 K X) y.1) z) : Wp Γ 0 0 81 [(0, .ref (a 0)), (1, .int v1)] [] (WC cy a V J K X) := by
  unfold f_X11_check_j81 at h
  refine r_aload_n C0 dX11_check_81 rfl 0 rfl ?_
  refine wcg_0_0 C0 tf_X11_12 dX11_check_82 ?_
  refine callVv0 C0 h (hD _ _ _) mw_X4_rollBack rv_1 tm_X11_183 (fun y hy => c_X4_rollBack hy) (Nat.le_of_ble_eq_true rfl) (Nat.le_of_ble_eq_true rfl) dX11_check_85 (fun r6 h => ?_)
  refine r_iload_n C0 dX11_check_88 rfl 1 rfl ?_
  cases h
  exact hz _ _ dX11_check_89
theorem w_X11_check_j59 {z : ((Int32 × Int32 × VT × JT) ⊕ (Int32 × VT × JT))} {Γ : Gam} {cy : Nat → ClassId} {a : Nat → Nat} {V : VT} {J : JT} {K : Nat → Option Nat} {X : va_W} {v1 : Int32} {v2 : Int32}  (C0 : CXg Γ cX11_check 4 7 RX11 cy) (hD : DC Γ cy a X) (h : f_X11_check_j59 v1 v2 V J = some z) (hz : (Sum.elim (fun x : Int32 × Int32 × VT × JT => Wp Γ 0 0 8 [(0, .ref (a 0)), (1, .int x.1), (2, .int x.2.1)] [] (WC cy a x.2.2.1 x.2.2.2 K X)) (fun y : Int32 × VT × JT => FinI Γ cX11_check (WC cy a y.2.1 y.2.2 K X) y.1)) z) : Wp Γ 0 0 59 [(0, .ref (a 0)), (1, .int v1), (2, .int v2)] [] (WC cy a V J K X) := by
  unfold f_X11_check_j59 at h
  refine r_aload_n C0 dX11_check_59 rfl 0 rfl ?_
  refine wcg_0_1 C0 tf_X11_19 dX11_check_60 ?_
  refine callV0 C0 h (hD _ _ _) mw_X9_isRefusal rv_2 tm_X11_174 (fun y hy => c_X9_isRefusal hy) (Nat.le_of_ble_eq_true rfl) (Nat.le_of_ble_eq_true rfl) dX11_check_63 (fun r9 h => ?_)
  refine r_if_eq C0 72 dX11_check_66 rfl h (fun _ h => ?_) (fun _ h => ?_)
  · obtain ⟨a10, h8, h⟩ := op_bind h
    have e8 := Option.some.inj h8
    refine r_iinc (lv2 := [(1, .int a10), (0, .ref (a 0)), (2, .int v2)]) C0 dX11_check_72 1 rfl ki_1 e8 (Nat.le_of_ble_eq_true rfl) rfl ?_
    obtain ⟨a11, h8, h⟩ := op_bind h
    have e8 := Option.some.inj h8
    refine r_iinc (lv2 := [(2, .int a11), (1, .int a10), (0, .ref (a 0))]) C0 dX11_check_75 2 rfl ki_1 e8 (Nat.le_of_ble_eq_true rfl) rfl ?_
    refine r_goto C0 8 dX11_check_78 rfl ?_
    cases h
    have hz := el_inl hz
    exact r_sub [2, 1, 0] rfl hz
  · obtain ⟨y12, h5, h9⟩ := op_bind h
    clear h
    cases h9
    have hz := (el_inr hz)
    have h := h5
    refine r_goto C0 81 dX11_check_69 rfl ?_
    exact r_sub [0, 1] rfl (w_X11_check_j81 C0 hD h hz)
theorem w_X11_check_B8 {x : Int32 × Int32 × VT × JT} {z : ((Int32 × Int32 × VT × JT) ⊕ (Int32 × VT × JT))} {Γ : Gam} {cy : Nat → ClassId} {a : Nat → Nat} {K : Nat → Option Nat} {X : va_W}  (C0 : CXg Γ cX11_check 4 7 RX11 cy) (hD : DC Γ cy a X) (h : f_X11_check_B8 x = some z) (hz : (Sum.elim (fun x : Int32 × Int32 × VT × JT => Wp Γ 0 0 8 [(0, .ref (a 0)), (1, .int x.1), (2, .int x.2.1)] [] (WC cy a x.2.2.1 x.2.2.2 K X)) (fun y : Int32 × VT × JT => FinI Γ cX11_check (WC cy a y.2.1 y.2.2 K X) y.1)) z) : Wp Γ 0 0 8 [(0, .ref (a 0)), (1, .int x.1), (2, .int x.2.1)] [] (WC cy a x.2.2.1 x.2.2.2 K X) := by
  unfold f_X11_check_B8 at h
  refine r_iload_n C0 dX11_check_8 rfl 2 rfl ?_
  refine r_aload_n C0 dX11_check_9 rfl 0 rfl ?_
  refine wcg_0_8 C0 tf_X11_78 dX11_check_10 ?_
  refine callV0 C0 h (hD _ _ _) mw_X8_size rv_9 tm_X11_168 (fun y hy => c_X8_size hy) (Nat.le_of_ble_eq_true rfl) (Nat.le_of_ble_eq_true rfl) dX11_check_13 (fun r4 h => ?_)
  refine r_icmp_ge C0 81 dX11_check_16 rfl h (fun _ h => ?_) (fun _ h => ?_)
  · obtain ⟨y5, h5, h9⟩ := op_bind h
    clear h
    cases h9
    have hz := (el_inr hz)
    have h := h5
    exact r_sub [0, 1] rfl (w_X11_check_j81 C0 hD h hz)
  · refine r_aload_n C0 dX11_check_19 rfl 0 rfl ?_
    refine r_iload_n C0 dX11_check_20 rfl 2 rfl ?_
    refine callV1 C0 h (hD _ _ _) mw_X11_play rv_0 tm_X11_171 (fun y hy => c_X11_play hy) (Nat.le_of_ble_eq_true rfl) (Nat.le_of_ble_eq_true rfl) dX11_check_21 (fun r7 h => ?_)
    refine r_istore_n (lv2 := [(3, .int r7.1), (0, .ref (a 0)), (1, .int x.1), (2, .int x.2.1)]) C0 dX11_check_24 rfl rfl (Nat.le_of_ble_eq_true rfl) rfl ?_
    refine r_aload_n C0 dX11_check_25 rfl 1 rfl ?_
    refine wcg_0_1 C0 tf_X11_19 dX11_check_26 ?_
    refine callV0 C0 h (hD _ _ _) mw_X9_isRefusal rv_2 tm_X11_174 (fun y hy => c_X9_isRefusal hy) (Nat.le_of_ble_eq_true rfl) (Nat.le_of_ble_eq_true rfl) dX11_check_29 (fun r8 h => ?_)
    refine r_if_ne C0 59 dX11_check_32 rfl h (fun _ h => ?_) (fun _ h => ?_)
    · exact r_sub [1, 2, 3] rfl (w_X11_check_j59 C0 hD h hz)
    · refine r_iload_n C0 dX11_check_35 rfl 0 rfl ?_
      refine r_aload_n C0 dX11_check_36 rfl 1 rfl ?_
      refine wcg_0_8 C0 tf_X11_78 dX11_check_37 ?_
      refine r_iload_n C0 dX11_check_40 rfl 3 rfl ?_
      refine r_iconst C0 dX11_check_41 ki_4 ?_
      refine callV2 C0 h (hD _ _ _) mw_X8_number rv_9 tm_X11_177 (fun y hy => c_X8_number hy) (Nat.le_of_ble_eq_true rfl) (Nat.le_of_ble_eq_true rfl) dX11_check_42 (fun r13 h => ?_)
      refine r_icmp_eq C0 59 dX11_check_45 rfl h (fun _ h => ?_) (fun _ h => ?_)
      · exact r_sub [1, 2, 3] rfl (w_X11_check_j59 C0 hD h hz)
      · refine r_aload_n C0 dX11_check_48 rfl 1 rfl ?_
        refine wcg_0_1 C0 tf_X11_19 dX11_check_49 ?_
        refine r_bipush C0 dX11_check_52 kb_19 ?_
        refine r_iload_n C0 dX11_check_54 rfl 0 rfl ?_
        refine callV2 C0 h (hD _ _ _) mw_X9_refuseOver rv_2 tm_X11_180 (fun y hy => c_X9_refuseOver hy) (Nat.le_of_ble_eq_true rfl) (Nat.le_of_ble_eq_true rfl) dX11_check_55 (fun r14 h => ?_)
        refine r_pop C0 dX11_check_58 rfl ?_
        exact r_sub [1, 2, 3] rfl (w_X11_check_j59 C0 hD h hz)
theorem w_X11_check_B8_lp {x : Int32 × Int32 × VT × JT} {z : (Int32 × VT × JT)} {Γ : Gam} {cy : Nat → ClassId} {a : Nat → Nat} {K : Nat → Option Nat} {X : va_W}  (C0 : CXg Γ cX11_check 4 7 RX11 cy) (hD : DC Γ cy a X) (h : lp (f_X11_check_B8) fuel x = some z) (hz : (fun y : Int32 × VT × JT => FinI Γ cX11_check (WC cy a y.2.1 y.2.2 K X) y.1) z) : Wp Γ 0 0 8 [(0, .ref (a 0)), (1, .int x.1), (2, .int x.2.1)] [] (WC cy a x.2.2.1 x.2.2.2 K X) :=
  lp_rule (hd := (fun x : Int32 × Int32 × VT × JT => Wp Γ 0 0 8 [(0, .ref (a 0)), (1, .int x.1), (2, .int x.2.1)] [] (WC cy a x.2.2.1 x.2.2.2 K X))) (C := (fun y : Int32 × VT × JT => FinI Γ cX11_check (WC cy a y.2.1 y.2.2 K X) y.1)) (fun x z h hz => w_X11_check_B8 C0 hD h hz) _ _ _ h hz
theorem w_X11_check {z : Int32 × VT × JT} {Γ : Gam} {cy : Nat → ClassId} {a : Nat → Nat} {V : VT} {J : JT} {K : Nat → Option Nat} {X : va_W}  (C0 : CXg Γ cX11_check 4 7 RX11 cy) (hD : DC Γ cy a X) (h : f_X11_check V J = some z) (hz : (fun y : Int32 × VT × JT => FinI Γ cX11_check (WC cy a y.2.1 y.2.2 K X) y.1) z) : Wp Γ 0 0 0 [(0, .ref (a 0))] [] (WC cy a V J K X) := by
  unfold f_X11_check at h
  refine r_aload_n C0 dX11_check_0 rfl 0 rfl ?_
  refine callVv0 C0 h (hD _ _ _) mw_X11_begin rv_0 tm_X11_82 (fun y hy => c_X11_begin hy) (Nat.le_of_ble_eq_true rfl) (Nat.le_of_ble_eq_true rfl) dX11_check_1 (fun r1 h => ?_)
  refine r_iconst C0 dX11_check_4 ki_0 ?_
  obtain ⟨a2, h8, h⟩ := op_bind h
  have e8 := Option.some.inj h8
  refine r_istore_n (lv2 := [(1, .int a2), (0, .ref (a 0))]) C0 dX11_check_5 rfl e8 (Nat.le_of_ble_eq_true rfl) rfl ?_
  refine r_iconst C0 dX11_check_6 ki_0 ?_
  obtain ⟨a3, h8, h⟩ := op_bind h
  have e8 := Option.some.inj h8
  refine r_istore_n (lv2 := [(2, .int a3), (1, .int a2), (0, .ref (a 0))]) C0 dX11_check_7 rfl e8 (Nat.le_of_ble_eq_true rfl) rfl ?_
  exact r_sub [2, 1, 0] rfl (w_X11_check_B8_lp C0 hD h hz)
theorem c_X11_check {l : Launch} {D : va_G} {cy : Nat → ClassId} {a : Nat → Nat} {V : VT} {J : JT} {K : Nat → Option Nat} {X : va_W} {y : Int32 × VT × JT} (h : f_X11_check V J = some y) : CT l D cy yX11_check cX11_check 4 (some .int) 7 [.ref (a 0)] (WC cy a V J K X) (WC cy a y.2.1 y.2.2 K X) (some (.int y.1)) :=
  mkI (by decide) (Nat.le_of_ble_eq_true rfl) (fun Γ _ _ C0 hD hF => w_X11_check C0 (dc_of hD) h hF)
