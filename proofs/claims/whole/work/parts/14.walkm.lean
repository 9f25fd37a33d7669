theorem dX12_strike_0 : decode cX12_strike 0 = .ok (.aload_n 0, 1) := by decide +kernel
theorem dX12_strike_1 : decode cX12_strike 1 = .ok (.invokevirtual 165, 3) := by decide +kernel
theorem dX12_strike_4 : decode cX12_strike 4 = .ok (.aload_n 0, 1) := by decide +kernel
theorem dX12_strike_5 : decode cX12_strike 5 = .ok (.aload_n 0, 1) := by decide +kernel
theorem dX12_strike_6 : decode cX12_strike 6 = .ok (.iload_n 1, 1) := by decide +kernel
theorem dX12_strike_7 : decode cX12_strike 7 = .ok (.invokevirtual 186, 3) := by decide +kernel
theorem dX12_strike_10 : decode cX12_strike 10 = .ok (.ifCond .ne 7, 3) := by decide +kernel
theorem dX12_strike_13 : decode cX12_strike 13 = .ok (.iconst 1, 1) := by decide +kernel
theorem dX12_strike_14 : decode cX12_strike 14 = .ok (.goto 4, 3) := by decide +kernel
theorem dX12_strike_17 : decode cX12_strike 17 = .ok (.iconst 0, 1) := by decide +kernel
theorem dX12_strike_18 : decode cX12_strike 18 = .ok (.iconst 2, 1) := by decide +kernel
theorem dX12_strike_19 : decode cX12_strike 19 = .ok (.invokevirtual 168, 3) := by decide +kernel
theorem dX12_strike_22 : decode cX12_strike 22 = .ok (.ifCond .ne 27, 3) := by decide +kernel
theorem dX12_strike_25 : decode cX12_strike 25 = .ok (.aload_n 0, 1) := by decide +kernel
theorem dX12_strike_26 : decode cX12_strike 26 = .ok (.aload_n 0, 1) := by decide +kernel
theorem dX12_strike_27 : decode cX12_strike 27 = .ok (.iload_n 1, 1) := by decide +kernel
theorem dX12_strike_28 : decode cX12_strike 28 = .ok (.invokevirtual 196, 3) := by decide +kernel
theorem dX12_strike_31 : decode cX12_strike 31 = .ok (.ldc 42, 2) := by decide +kernel
theorem dX12_strike_33 : decode cX12_strike 33 = .ok (.if_icmp .ne 7, 3) := by decide +kernel
theorem dX12_strike_36 : decode cX12_strike 36 = .ok (.iconst 1, 1) := by decide +kernel
theorem dX12_strike_37 : decode cX12_strike 37 = .ok (.goto 4, 3) := by decide +kernel
theorem dX12_strike_40 : decode cX12_strike 40 = .ok (.iconst 0, 1) := by decide +kernel
theorem dX12_strike_41 : decode cX12_strike 41 = .ok (.bipush 9, 2) := by decide +kernel
theorem dX12_strike_43 : decode cX12_strike 43 = .ok (.invokevirtual 168, 3) := by decide +kernel
theorem dX12_strike_46 : decode cX12_strike 46 = .ok (.ifCond .eq 8, 3) := by decide +kernel
theorem dX12_strike_49 : decode cX12_strike 49 = .ok (.aload_n 0, 1) := by decide +kernel
theorem dX12_strike_50 : decode cX12_strike 50 = .ok (.invokevirtual 172, 3) := by decide +kernel
theorem dX12_strike_53 : decode cX12_strike 53 = .ok (.ireturn, 1) := by decide +kernel
theorem dX12_strike_54 : decode cX12_strike 54 = .ok (.aload_n 0, 1) := by decide +kernel
theorem dX12_strike_55 : decode cX12_strike 55 = .ok (.iload_n 1, 1) := by decide +kernel
theorem dX12_strike_56 : decode cX12_strike 56 = .ok (.invokevirtual 196, 3) := by decide +kernel
theorem dX12_strike_59 : decode cX12_strike 59 = .ok (.istore_n 2, 1) := by decide +kernel
theorem dX12_strike_60 : decode cX12_strike 60 = .ok (.aload_n 0, 1) := by decide +kernel
theorem dX12_strike_61 : decode cX12_strike 61 = .ok (.iload_n 2, 1) := by decide +kernel
theorem dX12_strike_62 : decode cX12_strike 62 = .ok (.iload_n 1, 1) := by decide +kernel
theorem dX12_strike_63 : decode cX12_strike 63 = .ok (.invokevirtual 69, 3) := by decide +kernel
theorem dX12_strike_66 : decode cX12_strike 66 = .ok (.istore_n 3, 1) := by decide +kernel
theorem dX12_strike_67 : decode cX12_strike 67 = .ok (.aload_n 0, 1) := by decide +kernel
theorem dX12_strike_68 : decode cX12_strike 68 = .ok (.iload_n 1, 1) := by decide +kernel
theorem dX12_strike_69 : decode cX12_strike 69 = .ok (.iconst 0, 1) := by decide +kernel
theorem dX12_strike_70 : decode cX12_strike 70 = .ok (.invokevirtual 75, 3) := by decide +kernel
theorem dX12_strike_73 : decode cX12_strike 73 = .ok (.iconst 4, 1) := by decide +kernel
theorem dX12_strike_74 : decode cX12_strike 74 = .ok (.if_icmp .ne 7, 3) := by decide +kernel
theorem dX12_strike_77 : decode cX12_strike 77 = .ok (.iconst 1, 1) := by decide +kernel
theorem dX12_strike_78 : decode cX12_strike 78 = .ok (.goto 4, 3) := by decide +kernel
theorem dX12_strike_81 : decode cX12_strike 81 = .ok (.iconst 0, 1) := by decide +kernel
theorem dX12_strike_82 : decode cX12_strike 82 = .ok (.istore 4, 2) := by decide +kernel
theorem dX12_strike_84 : decode cX12_strike 84 = .ok (.aload_n 0, 1) := by decide +kernel
theorem dX12_strike_85 : decode cX12_strike 85 = .ok (.aload_n 0, 1) := by decide +kernel
theorem dX12_strike_86 : decode cX12_strike 86 = .ok (.iload_n 2, 1) := by decide +kernel
theorem dX12_strike_87 : decode cX12_strike 87 = .ok (.invokevirtual 124, 3) := by decide +kernel
theorem dX12_strike_90 : decode cX12_strike 90 = .ok (.ifCond .ne 18, 3) := by decide +kernel
theorem dX12_strike_93 : decode cX12_strike 93 = .ok (.iload 4, 2) := by decide +kernel
theorem dX12_strike_95 : decode cX12_strike 95 = .ok (.ifCond .eq 17, 3) := by decide +kernel
theorem dX12_strike_98 : decode cX12_strike 98 = .ok (.aload_n 0, 1) := by decide +kernel
theorem dX12_strike_99 : decode cX12_strike 99 = .ok (.iload_n 2, 1) := by decide +kernel
theorem dX12_strike_100 : decode cX12_strike 100 = .ok (.iconst 1, 1) := by decide +kernel
theorem dX12_strike_101 : decode cX12_strike 101 = .ok (.iadd, 1) := by decide +kernel
theorem dX12_strike_102 : decode cX12_strike 102 = .ok (.invokevirtual 124, 3) := by decide +kernel
theorem dX12_strike_105 : decode cX12_strike 105 = .ok (.ifCond .eq 7, 3) := by decide +kernel
theorem dX12_strike_108 : decode cX12_strike 108 = .ok (.iconst 1, 1) := by decide +kernel
theorem dX12_strike_109 : decode cX12_strike 109 = .ok (.goto 4, 3) := by decide +kernel
theorem dX12_strike_112 : decode cX12_strike 112 = .ok (.iconst 0, 1) := by decide +kernel
theorem dX12_strike_113 : decode cX12_strike 113 = .ok (.bipush 10, 2) := by decide +kernel
theorem dX12_strike_115 : decode cX12_strike 115 = .ok (.invokevirtual 168, 3) := by decide +kernel
theorem dX12_strike_118 : decode cX12_strike 118 = .ok (.ifCond .eq 8, 3) := by decide +kernel
theorem dX12_strike_121 : decode cX12_strike 121 = .ok (.aload_n 0, 1) := by decide +kernel
theorem dX12_strike_122 : decode cX12_strike 122 = .ok (.invokevirtual 172, 3) := by decide +kernel
theorem dX12_strike_125 : decode cX12_strike 125 = .ok (.ireturn, 1) := by decide +kernel
theorem dX12_strike_126 : decode cX12_strike 126 = .ok (.aload_n 0, 1) := by decide +kernel
theorem dX12_strike_127 : decode cX12_strike 127 = .ok (.iload_n 2, 1) := by decide +kernel
theorem dX12_strike_128 : decode cX12_strike 128 = .ok (.iload_n 3, 1) := by decide +kernel
theorem dX12_strike_129 : decode cX12_strike 129 = .ok (.iconst 0, 1) := by decide +kernel
theorem dX12_strike_130 : decode cX12_strike 130 = .ok (.invokevirtual 199, 3) := by decide +kernel
theorem dX12_strike_133 : decode cX12_strike 133 = .ok (.iload 4, 2) := by decide +kernel
theorem dX12_strike_135 : decode cX12_strike 135 = .ok (.ifCond .eq 12, 3) := by decide +kernel
theorem dX12_strike_138 : decode cX12_strike 138 = .ok (.aload_n 0, 1) := by decide +kernel
theorem dX12_strike_139 : decode cX12_strike 139 = .ok (.iload_n 2, 1) := by decide +kernel
theorem dX12_strike_140 : decode cX12_strike 140 = .ok (.iconst 1, 1) := by decide +kernel
theorem dX12_strike_141 : decode cX12_strike 141 = .ok (.iadd, 1) := by decide +kernel
theorem dX12_strike_142 : decode cX12_strike 142 = .ok (.iload_n 3, 1) := by decide +kernel
theorem dX12_strike_143 : decode cX12_strike 143 = .ok (.iconst 0, 1) := by decide +kernel
theorem dX12_strike_144 : decode cX12_strike 144 = .ok (.invokevirtual 199, 3) := by decide +kernel
theorem dX12_strike_147 : decode cX12_strike 147 = .ok (.aload_n 0, 1) := by decide +kernel
theorem dX12_strike_148 : decode cX12_strike 148 = .ok (.iload_n 3, 1) := by decide +kernel
theorem dX12_strike_149 : decode cX12_strike 149 = .ok (.invokevirtual 176, 3) := by decide +kernel
theorem dX12_strike_152 : decode cX12_strike 152 = .ok (.ireturn, 1) := by decide +kernel
theorem w_X12_strike_j49 {z : (Int32 × VT)} {Γ : Gam} {cy : Nat → ClassId} {a : Nat → Nat} {V : VT} {X : va_W}  (C0 : CXg Γ cX12_strike 5 4 RX12 cy) (hD : DM Γ cy a X) (h : f_X12_strike_j49 V = some z) (hz : (fun y : Int32 × VT => FinI Γ cX12_strike (WM cy a y.2 X) y.1) z) : Wp Γ 0 0 49 [(0, .ref (a 0))] [] (WM cy a V X) := by
  unfold f_X12_strike_j49 at h
  refine r_aload_n C0 dX12_strike_49 rfl 0 rfl ?_
  refine callV0 C0 h (hD _) mw_X12_refused rv_m tm_X12_172 (fun y hy => c_X12_refused hy) (Nat.le_of_ble_eq_true rfl) (Nat.le_of_ble_eq_true rfl) dX12_strike_50 (fun r4 h => ?_)
  cases h
  exact hz _ _ dX12_strike_53
theorem w_X12_strike_j147 {z : (Int32 × VT)} {Γ : Gam} {cy : Nat → ClassId} {a : Nat → Nat} {V : VT} {X : va_W} {v3 : Int32}  (C0 : CXg Γ cX12_strike 5 4 RX12 cy) (hD : DM Γ cy a X) (h : f_X12_strike_j147 v3 V = some z) (hz : (fun y : Int32 × VT => FinI Γ cX12_strike (WM cy a y.2 X) y.1) z) : Wp Γ 0 0 147 [(0, .ref (a 0)), (3, .int v3)] [] (WM cy a V X) := by
  unfold f_X12_strike_j147 at h
  refine r_aload_n C0 dX12_strike_147 rfl 0 rfl ?_
  refine r_iload_n C0 dX12_strike_148 rfl 1 rfl ?_
  refine callV1 C0 h (hD _) mw_X12_keep rv_m tm_X12_176 (fun y hy => c_X12_keep hy) (Nat.le_of_ble_eq_true rfl) (Nat.le_of_ble_eq_true rfl) dX12_strike_149 (fun r13 h => ?_)
  cases h
  exact hz _ _ dX12_strike_152
theorem w_X12_strike_j113 {z : (Int32 × VT)} {Γ : Gam} {cy : Nat → ClassId} {a : Nat → Nat} {V : VT} {X : va_W} {v2 : Int32} {v3 : Int32} {v4 : Int32} {s1 : Int32}  (C0 : CXg Γ cX12_strike 5 4 RX12 cy) (hD : DM Γ cy a X) (h : f_X12_strike_j113 v2 v3 v4 s1 V = some z) (hz : (fun y : Int32 × VT => FinI Γ cX12_strike (WM cy a y.2 X) y.1) z) : Wp Γ 0 0 113 [(0, .ref (a 0)), (2, .int v2), (3, .int v3), (4, .int v4)] [.int s1, .ref (a 0)] (WM cy a V X) := by
  unfold f_X12_strike_j113 at h
  refine r_bipush C0 dX12_strike_113 kb_10 ?_
  refine callV2 C0 h (hD _) mw_X12_is rv_m tm_X12_168 (fun y hy => c_X12_is hy) (Nat.le_of_ble_eq_true rfl) (Nat.le_of_ble_eq_true rfl) dX12_strike_115 (fun r11 h => ?_)
  refine r_if_eq C0 126 dX12_strike_118 rfl h (fun _ h => ?_) (fun _ h => ?_)
  · refine r_aload_n C0 dX12_strike_126 rfl 0 rfl ?_
    refine r_iload_n C0 dX12_strike_127 rfl 1 rfl ?_
    refine r_iload_n C0 dX12_strike_128 rfl 2 rfl ?_
    refine r_iconst C0 dX12_strike_129 ki_0 ?_
    refine callVv3 C0 h (hD _) mw_X12_put rv_m tm_X12_199 (fun y hy => c_X12_put hy) (Nat.le_of_ble_eq_true rfl) (Nat.le_of_ble_eq_true rfl) dX12_strike_130 (fun r12 h => ?_)
    refine r_iload C0 dX12_strike_133 3 rfl ?_
    refine r_if_eq C0 147 dX12_strike_135 rfl h (fun _ h => ?_) (fun _ h => ?_)
    · exact r_sub [0, 2] rfl (w_X12_strike_j147 C0 hD h hz)
    · refine r_aload_n C0 dX12_strike_138 rfl 0 rfl ?_
      refine r_iload_n C0 dX12_strike_139 rfl 1 rfl ?_
      refine r_iconst C0 dX12_strike_140 ki_1 ?_
      refine r_iadd C0 dX12_strike_141 ?_
      refine r_iload_n C0 dX12_strike_142 rfl 2 rfl ?_
      refine r_iconst C0 dX12_strike_143 ki_0 ?_
      refine callVv3 C0 h (hD _) mw_X12_put rv_m tm_X12_199 (fun y hy => c_X12_put hy) (Nat.le_of_ble_eq_true rfl) (Nat.le_of_ble_eq_true rfl) dX12_strike_144 (fun r14 h => ?_)
      exact r_sub [0, 2] rfl (w_X12_strike_j147 C0 hD h hz)
  · refine r_aload_n C0 dX12_strike_121 rfl 0 rfl ?_
    refine callV0 C0 h (hD _) mw_X12_refused rv_m tm_X12_172 (fun y hy => c_X12_refused hy) (Nat.le_of_ble_eq_true rfl) (Nat.le_of_ble_eq_true rfl) dX12_strike_122 (fun r15 h => ?_)
    cases h
    exact hz _ _ dX12_strike_125
theorem w_X12_strike_j108 {z : (Int32 × VT)} {Γ : Gam} {cy : Nat → ClassId} {a : Nat → Nat} {V : VT} {X : va_W} {v2 : Int32} {v3 : Int32} {v4 : Int32}  (C0 : CXg Γ cX12_strike 5 4 RX12 cy) (hD : DM Γ cy a X) (h : f_X12_strike_j108 v2 v3 v4 V = some z) (hz : (fun y : Int32 × VT => FinI Γ cX12_strike (WM cy a y.2 X) y.1) z) : Wp Γ 0 0 108 [(0, .ref (a 0)), (2, .int v2), (3, .int v3), (4, .int v4)] [.ref (a 0)] (WM cy a V X) := by
  unfold f_X12_strike_j108 at h
  refine r_iconst C0 dX12_strike_108 ki_1 ?_
  refine r_goto C0 113 dX12_strike_109 rfl ?_
  exact r_sub [0, 1, 2, 3] rfl (w_X12_strike_j113 C0 hD h hz)
theorem w_X12_strike_j112 {z : (Int32 × VT)} {Γ : Gam} {cy : Nat → ClassId} {a : Nat → Nat} {V : VT} {X : va_W} {v2 : Int32} {v3 : Int32} {v4 : Int32}  (C0 : CXg Γ cX12_strike 5 4 RX12 cy) (hD : DM Γ cy a X) (h : f_X12_strike_j112 v2 v3 v4 V = some z) (hz : (fun y : Int32 × VT => FinI Γ cX12_strike (WM cy a y.2 X) y.1) z) : Wp Γ 0 0 112 [(0, .ref (a 0)), (2, .int v2), (3, .int v3), (4, .int v4)] [.ref (a 0)] (WM cy a V X) := by
  unfold f_X12_strike_j112 at h
  refine r_iconst C0 dX12_strike_112 ki_0 ?_
  exact r_sub [0, 1, 2, 3] rfl (w_X12_strike_j113 C0 hD h hz)
theorem w_X12_strike_j82 {z : (Int32 × VT)} {Γ : Gam} {cy : Nat → ClassId} {a : Nat → Nat} {V : VT} {X : va_W} {v2 : Int32} {v3 : Int32} {s0 : Int32}  (C0 : CXg Γ cX12_strike 5 4 RX12 cy) (hD : DM Γ cy a X) (h : f_X12_strike_j82 v2 v3 s0 V = some z) (hz : (fun y : Int32 × VT => FinI Γ cX12_strike (WM cy a y.2 X) y.1) z) : Wp Γ 0 0 82 [(0, .ref (a 0)), (2, .int v2), (3, .int v3)] [.int s0] (WM cy a V X) := by
  unfold f_X12_strike_j82 at h
  refine r_istore (lv2 := [(4, .int s0), (0, .ref (a 0)), (2, .int v2), (3, .int v3)]) C0 dX12_strike_82 rfl (Nat.le_of_ble_eq_true rfl) rfl ?_
  refine r_aload_n C0 dX12_strike_84 rfl 1 rfl ?_
  refine r_aload_n C0 dX12_strike_85 rfl 1 rfl ?_
  refine r_iload_n C0 dX12_strike_86 rfl 2 rfl ?_
  refine callV1 C0 h (hD _) mw_X12_height rv_m tm_X12_124 (fun y hy => c_X12_height hy) (Nat.le_of_ble_eq_true rfl) (Nat.le_of_ble_eq_true rfl) dX12_strike_87 (fun r10 h => ?_)
  refine r_if_ne C0 108 dX12_strike_90 rfl h (fun _ h => ?_) (fun _ h => ?_)
  · exact r_sub [1, 2, 3, 0] rfl (w_X12_strike_j108 C0 hD h hz)
  · refine r_iload C0 dX12_strike_93 0 rfl ?_
    refine r_if_eq C0 112 dX12_strike_95 rfl h (fun _ h => ?_) (fun _ h => ?_)
    · exact r_sub [1, 2, 3, 0] rfl (w_X12_strike_j112 C0 hD h hz)
    · refine r_aload_n C0 dX12_strike_98 rfl 1 rfl ?_
      refine r_iload_n C0 dX12_strike_99 rfl 2 rfl ?_
      refine r_iconst C0 dX12_strike_100 ki_1 ?_
      refine r_iadd C0 dX12_strike_101 ?_
      refine callV1 C0 h (hD _) mw_X12_height rv_m tm_X12_124 (fun y hy => c_X12_height hy) (Nat.le_of_ble_eq_true rfl) (Nat.le_of_ble_eq_true rfl) dX12_strike_102 (fun r16 h => ?_)
      refine r_if_eq C0 112 dX12_strike_105 rfl h (fun _ h => ?_) (fun _ h => ?_)
      · exact r_sub [1, 2, 3, 0] rfl (w_X12_strike_j112 C0 hD h hz)
      · exact r_sub [1, 2, 3, 0] rfl (w_X12_strike_j108 C0 hD h hz)
theorem w_X12_strike_j41 {z : (Int32 × VT)} {Γ : Gam} {cy : Nat → ClassId} {a : Nat → Nat} {V : VT} {X : va_W} {v1 : Int32} {s1 : Int32}  (C0 : CXg Γ cX12_strike 5 4 RX12 cy) (hD : DM Γ cy a X) (h : f_X12_strike_j41 v1 s1 V = some z) (hz : (fun y : Int32 × VT => FinI Γ cX12_strike (WM cy a y.2 X) y.1) z) : Wp Γ 0 0 41 [(0, .ref (a 0)), (1, .int v1)] [.int s1, .ref (a 0)] (WM cy a V X) := by
  unfold f_X12_strike_j41 at h
  refine r_bipush C0 dX12_strike_41 kb_9 ?_
  refine callV2 C0 h (hD _) mw_X12_is rv_m tm_X12_168 (fun y hy => c_X12_is hy) (Nat.le_of_ble_eq_true rfl) (Nat.le_of_ble_eq_true rfl) dX12_strike_43 (fun r6 h => ?_)
  refine r_if_eq C0 54 dX12_strike_46 rfl h (fun _ h => ?_) (fun _ h => ?_)
  · refine r_aload_n C0 dX12_strike_54 rfl 0 rfl ?_
    refine r_iload_n C0 dX12_strike_55 rfl 1 rfl ?_
    refine callV1 C0 h (hD _) mw_X12_barWith rv_m tm_X12_196 (fun y hy => c_X12_barWith hy) (Nat.le_of_ble_eq_true rfl) (Nat.le_of_ble_eq_true rfl) dX12_strike_56 (fun r7 h => ?_)
    refine r_istore_n (lv2 := [(2, .int r7), (0, .ref (a 0)), (1, .int v1)]) C0 dX12_strike_59 rfl rfl (Nat.le_of_ble_eq_true rfl) rfl ?_
    refine r_aload_n C0 dX12_strike_60 rfl 1 rfl ?_
    refine r_iload_n C0 dX12_strike_61 rfl 0 rfl ?_
    refine r_iload_n C0 dX12_strike_62 rfl 2 rfl ?_
    refine callV2 C0 h (hD _) mw_X12_placeOn rv_m tm_X12_69 (fun y hy => c_X12_placeOn hy) (Nat.le_of_ble_eq_true rfl) (Nat.le_of_ble_eq_true rfl) dX12_strike_63 (fun r8 h => ?_)
    refine r_istore_n (lv2 := [(3, .int r8), (2, .int r7), (0, .ref (a 0)), (1, .int v1)]) C0 dX12_strike_66 rfl rfl (Nat.le_of_ble_eq_true rfl) rfl ?_
    refine r_aload_n C0 dX12_strike_67 rfl 2 rfl ?_
    refine r_iload_n C0 dX12_strike_68 rfl 3 rfl ?_
    refine r_iconst C0 dX12_strike_69 ki_0 ?_
    refine callV2 C0 h (hD _) mw_X12_thingIs rv_m tm_X12_75 (fun y hy => c_X12_thingIs hy) (Nat.le_of_ble_eq_true rfl) (Nat.le_of_ble_eq_true rfl) dX12_strike_70 (fun r9 h => ?_)
    refine r_iconst C0 dX12_strike_73 ki_4 ?_
    refine r_icmp_ne C0 81 dX12_strike_74 rfl h (fun _ h => ?_) (fun _ h => ?_)
    · refine r_iconst C0 dX12_strike_81 ki_0 ?_
      exact r_sub [2, 1, 0] rfl (w_X12_strike_j82 C0 hD h hz)
    · refine r_iconst C0 dX12_strike_77 ki_1 ?_
      refine r_goto C0 82 dX12_strike_78 rfl ?_
      exact r_sub [2, 1, 0] rfl (w_X12_strike_j82 C0 hD h hz)
  · exact r_sub [0] rfl (w_X12_strike_j49 C0 hD h hz)
theorem w_X12_strike_j18 {z : (Int32 × VT)} {Γ : Gam} {cy : Nat → ClassId} {a : Nat → Nat} {V : VT} {X : va_W} {v1 : Int32} {s1 : Int32}  (C0 : CXg Γ cX12_strike 5 4 RX12 cy) (hD : DM Γ cy a X) (h : f_X12_strike_j18 v1 s1 V = some z) (hz : (fun y : Int32 × VT => FinI Γ cX12_strike (WM cy a y.2 X) y.1) z) : Wp Γ 0 0 18 [(0, .ref (a 0)), (1, .int v1)] [.int s1, .ref (a 0)] (WM cy a V X) := by
  unfold f_X12_strike_j18 at h
  refine r_iconst C0 dX12_strike_18 ki_2 ?_
  refine callV2 C0 h (hD _) mw_X12_is rv_m tm_X12_168 (fun y hy => c_X12_is hy) (Nat.le_of_ble_eq_true rfl) (Nat.le_of_ble_eq_true rfl) dX12_strike_19 (fun r3 h => ?_)
  refine r_if_ne C0 49 dX12_strike_22 rfl h (fun _ h => ?_) (fun _ h => ?_)
  · exact r_sub [0] rfl (w_X12_strike_j49 C0 hD h hz)
  · refine r_aload_n C0 dX12_strike_25 rfl 0 rfl ?_
    refine r_aload_n C0 dX12_strike_26 rfl 0 rfl ?_
    refine r_iload_n C0 dX12_strike_27 rfl 1 rfl ?_
    refine callV1 C0 h (hD _) mw_X12_barWith rv_m tm_X12_196 (fun y hy => c_X12_barWith hy) (Nat.le_of_ble_eq_true rfl) (Nat.le_of_ble_eq_true rfl) dX12_strike_28 (fun r5 h => ?_)
    refine r_ldc C0 tk_X12_42 dX12_strike_31 ?_
    refine r_icmp_ne C0 40 dX12_strike_33 rfl h (fun _ h => ?_) (fun _ h => ?_)
    · refine r_iconst C0 dX12_strike_40 ki_0 ?_
      exact r_sub [0, 1] rfl (w_X12_strike_j41 C0 hD h hz)
    · refine r_iconst C0 dX12_strike_36 ki_1 ?_
      refine r_goto C0 41 dX12_strike_37 rfl ?_
      exact r_sub [0, 1] rfl (w_X12_strike_j41 C0 hD h hz)
theorem w_X12_strike {z : Int32 × VT} {Γ : Gam} {cy : Nat → ClassId} {a : Nat → Nat} {V : VT} {X : va_W} {v1 : Int32}  (C0 : CXg Γ cX12_strike 5 4 RX12 cy) (hD : DM Γ cy a X) (h : f_X12_strike v1 V = some z) (hz : (fun y : Int32 × VT => FinI Γ cX12_strike (WM cy a y.2 X) y.1) z) : Wp Γ 0 0 0 [(0, .ref (a 0)), (1, .int v1)] [] (WM cy a V X) := by
  unfold f_X12_strike at h
  refine r_aload_n C0 dX12_strike_0 rfl 0 rfl ?_
  refine callVv0 C0 h (hD _) mw_X12_begin rv_m tm_X12_165 (fun y hy => c_X12_begin hy) (Nat.le_of_ble_eq_true rfl) (Nat.le_of_ble_eq_true rfl) dX12_strike_1 (fun r1 h => ?_)
  refine r_aload_n C0 dX12_strike_4 rfl 0 rfl ?_
  refine r_aload_n C0 dX12_strike_5 rfl 0 rfl ?_
  refine r_iload_n C0 dX12_strike_6 rfl 1 rfl ?_
  refine callV1 C0 h (hD _) mw_X12_isTold rv_m tm_X12_186 (fun y hy => c_X12_isTold hy) (Nat.le_of_ble_eq_true rfl) (Nat.le_of_ble_eq_true rfl) dX12_strike_7 (fun r2 h => ?_)
  refine r_if_ne C0 17 dX12_strike_10 rfl h (fun _ h => ?_) (fun _ h => ?_)
  · refine r_iconst C0 dX12_strike_17 ki_0 ?_
    exact r_sub [0, 1] rfl (w_X12_strike_j18 C0 hD h hz)
  · refine r_iconst C0 dX12_strike_13 ki_1 ?_
    refine r_goto C0 18 dX12_strike_14 rfl ?_
    exact r_sub [0, 1] rfl (w_X12_strike_j18 C0 hD h hz)
theorem c_X12_strike {l : Launch} {D : va_G} {cy : Nat → ClassId} {a : Nat → Nat} {V : VT} {X : va_W} {v1 : Int32} {y : Int32 × VT} (h : f_X12_strike v1 V = some y) : CT l D cy yX12_strike cX12_strike 5 (some .int) 4 [.ref (a 0), .int v1] (WM cy a V X) (WM cy a y.2 X) (some (.int y.1)) :=
  mkI (by decide) (Nat.le_of_ble_eq_true rfl) (fun Γ _ _ C0 hD hF => w_X12_strike C0 (dm_of hD) h hF)
theorem dX12_hook_0 : decode cX12_hook 0 = .ok (.aload_n 0, 1) := by decide +kernel
theorem dX12_hook_1 : decode cX12_hook 1 = .ok (.invokevirtual 165, 3) := by decide +kernel
theorem dX12_hook_4 : decode cX12_hook 4 = .ok (.aload_n 0, 1) := by decide +kernel
theorem dX12_hook_5 : decode cX12_hook 5 = .ok (.iload_n 1, 1) := by decide +kernel
theorem dX12_hook_6 : decode cX12_hook 6 = .ok (.invokestatic 115, 3) := by decide +kernel
theorem dX12_hook_9 : decode cX12_hook 9 = .ok (.ifCond .ne 7, 3) := by decide +kernel
theorem dX12_hook_12 : decode cX12_hook 12 = .ok (.iconst 1, 1) := by decide +kernel
theorem dX12_hook_13 : decode cX12_hook 13 = .ok (.goto 4, 3) := by decide +kernel
theorem dX12_hook_16 : decode cX12_hook 16 = .ok (.iconst 0, 1) := by decide +kernel
theorem dX12_hook_17 : decode cX12_hook 17 = .ok (.iconst 2, 1) := by decide +kernel
theorem dX12_hook_18 : decode cX12_hook 18 = .ok (.invokevirtual 168, 3) := by decide +kernel
theorem dX12_hook_21 : decode cX12_hook 21 = .ok (.ifCond .ne 70, 3) := by decide +kernel
theorem dX12_hook_24 : decode cX12_hook 24 = .ok (.aload_n 0, 1) := by decide +kernel
theorem dX12_hook_25 : decode cX12_hook 25 = .ok (.aload_n 0, 1) := by decide +kernel
theorem dX12_hook_26 : decode cX12_hook 26 = .ok (.iload_n 1, 1) := by decide +kernel
theorem dX12_hook_27 : decode cX12_hook 27 = .ok (.invokevirtual 66, 3) := by decide +kernel
theorem dX12_hook_30 : decode cX12_hook 30 = .ok (.ifCond .ne 7, 3) := by decide +kernel
theorem dX12_hook_33 : decode cX12_hook 33 = .ok (.iconst 1, 1) := by decide +kernel
theorem dX12_hook_34 : decode cX12_hook 34 = .ok (.goto 4, 3) := by decide +kernel
theorem dX12_hook_37 : decode cX12_hook 37 = .ok (.iconst 0, 1) := by decide +kernel
theorem dX12_hook_38 : decode cX12_hook 38 = .ok (.iconst 1, 1) := by decide +kernel
theorem dX12_hook_39 : decode cX12_hook 39 = .ok (.invokevirtual 168, 3) := by decide +kernel
theorem dX12_hook_42 : decode cX12_hook 42 = .ok (.ifCond .ne 49, 3) := by decide +kernel
theorem dX12_hook_45 : decode cX12_hook 45 = .ok (.aload_n 0, 1) := by decide +kernel
theorem dX12_hook_46 : decode cX12_hook 46 = .ok (.aload_n 0, 1) := by decide +kernel
theorem dX12_hook_47 : decode cX12_hook 47 = .ok (.iload_n 1, 1) := by decide +kernel
theorem dX12_hook_48 : decode cX12_hook 48 = .ok (.iload_n 2, 1) := by decide +kernel
theorem dX12_hook_49 : decode cX12_hook 49 = .ok (.invokevirtual 118, 3) := by decide +kernel
theorem dX12_hook_52 : decode cX12_hook 52 = .ok (.ifCond .ne 7, 3) := by decide +kernel
theorem dX12_hook_55 : decode cX12_hook 55 = .ok (.iconst 1, 1) := by decide +kernel
theorem dX12_hook_56 : decode cX12_hook 56 = .ok (.goto 4, 3) := by decide +kernel
theorem dX12_hook_59 : decode cX12_hook 59 = .ok (.iconst 0, 1) := by decide +kernel
theorem dX12_hook_60 : decode cX12_hook 60 = .ok (.iconst 2, 1) := by decide +kernel
theorem dX12_hook_61 : decode cX12_hook 61 = .ok (.invokevirtual 168, 3) := by decide +kernel
theorem dX12_hook_64 : decode cX12_hook 64 = .ok (.ifCond .ne 27, 3) := by decide +kernel
theorem dX12_hook_67 : decode cX12_hook 67 = .ok (.aload_n 0, 1) := by decide +kernel
theorem dX12_hook_68 : decode cX12_hook 68 = .ok (.aload_n 0, 1) := by decide +kernel
theorem dX12_hook_69 : decode cX12_hook 69 = .ok (.iload_n 1, 1) := by decide +kernel
theorem dX12_hook_70 : decode cX12_hook 70 = .ok (.iload_n 2, 1) := by decide +kernel
theorem dX12_hook_71 : decode cX12_hook 71 = .ok (.invokevirtual 72, 3) := by decide +kernel
theorem dX12_hook_74 : decode cX12_hook 74 = .ok (.iconst 2, 1) := by decide +kernel
theorem dX12_hook_75 : decode cX12_hook 75 = .ok (.if_icmp .lt 7, 3) := by decide +kernel
theorem dX12_hook_78 : decode cX12_hook 78 = .ok (.iconst 1, 1) := by decide +kernel
theorem dX12_hook_79 : decode cX12_hook 79 = .ok (.goto 4, 3) := by decide +kernel
theorem dX12_hook_82 : decode cX12_hook 82 = .ok (.iconst 0, 1) := by decide +kernel
theorem dX12_hook_83 : decode cX12_hook 83 = .ok (.bipush 12, 2) := by decide +kernel
theorem dX12_hook_85 : decode cX12_hook 85 = .ok (.invokevirtual 168, 3) := by decide +kernel
theorem dX12_hook_88 : decode cX12_hook 88 = .ok (.ifCond .eq 8, 3) := by decide +kernel
theorem dX12_hook_91 : decode cX12_hook 91 = .ok (.aload_n 0, 1) := by decide +kernel
theorem dX12_hook_92 : decode cX12_hook 92 = .ok (.invokevirtual 172, 3) := by decide +kernel
theorem dX12_hook_95 : decode cX12_hook 95 = .ok (.ireturn, 1) := by decide +kernel
theorem dX12_hook_96 : decode cX12_hook 96 = .ok (.aload_n 0, 1) := by decide +kernel
theorem dX12_hook_97 : decode cX12_hook 97 = .ok (.iload_n 1, 1) := by decide +kernel
theorem dX12_hook_98 : decode cX12_hook 98 = .ok (.iload_n 2, 1) := by decide +kernel
theorem dX12_hook_99 : decode cX12_hook 99 = .ok (.invokevirtual 72, 3) := by decide +kernel
theorem dX12_hook_102 : decode cX12_hook 102 = .ok (.istore 4, 2) := by decide +kernel
theorem dX12_hook_104 : decode cX12_hook 104 = .ok (.aload_n 0, 1) := by decide +kernel
theorem dX12_hook_105 : decode cX12_hook 105 = .ok (.iload_n 1, 1) := by decide +kernel
theorem dX12_hook_106 : decode cX12_hook 106 = .ok (.iload_n 2, 1) := by decide +kernel
theorem dX12_hook_107 : decode cX12_hook 107 = .ok (.iload_n 3, 1) := by decide +kernel
theorem dX12_hook_108 : decode cX12_hook 108 = .ok (.ifCond .eq 7, 3) := by decide +kernel
theorem dX12_hook_111 : decode cX12_hook 111 = .ok (.iconst 1, 1) := by decide +kernel
theorem dX12_hook_112 : decode cX12_hook 112 = .ok (.goto 4, 3) := by decide +kernel
theorem dX12_hook_115 : decode cX12_hook 115 = .ok (.iconst 0, 1) := by decide +kernel
theorem dX12_hook_116 : decode cX12_hook 116 = .ok (.invokevirtual 199, 3) := by decide +kernel
theorem dX12_hook_119 : decode cX12_hook 119 = .ok (.aload_n 0, 1) := by decide +kernel
theorem dX12_hook_120 : decode cX12_hook 120 = .ok (.iload 4, 2) := by decide +kernel
theorem dX12_hook_122 : decode cX12_hook 122 = .ok (.invokevirtual 176, 3) := by decide +kernel
theorem dX12_hook_125 : decode cX12_hook 125 = .ok (.ireturn, 1) := by decide +kernel
theorem w_X12_hook_j91 {z : (Int32 × VT)} {Γ : Gam} {cy : Nat → ClassId} {a : Nat → Nat} {V : VT} {X : va_W}  (C0 : CXg Γ cX12_hook 5 3 RX12 cy) (hD : DM Γ cy a X) (h : f_X12_hook_j91 V = some z) (hz : (fun y : Int32 × VT => FinI Γ cX12_hook (WM cy a y.2 X) y.1) z) : Wp Γ 0 0 91 [(0, .ref (a 0))] [] (WM cy a V X) := by
  unfold f_X12_hook_j91 at h
  refine r_aload_n C0 dX12_hook_91 rfl 0 rfl ?_
  refine callV0 C0 h (hD _) mw_X12_refused rv_m tm_X12_172 (fun y hy => c_X12_refused hy) (Nat.le_of_ble_eq_true rfl) (Nat.le_of_ble_eq_true rfl) dX12_hook_92 (fun r4 h => ?_)
  cases h
  exact hz _ _ dX12_hook_95
theorem w_X12_hook_j116 {z : (Int32 × VT)} {Γ : Gam} {cy : Nat → ClassId} {a : Nat → Nat} {V : VT} {X : va_W} {v4 : Int32} {s1 : Int32} {s2 : Int32} {s3 : Int32}  (C0 : CXg Γ cX12_hook 5 3 RX12 cy) (hD : DM Γ cy a X) (h : f_X12_hook_j116 v4 s1 s2 s3 V = some z) (hz : (fun y : Int32 × VT => FinI Γ cX12_hook (WM cy a y.2 X) y.1) z) : Wp Γ 0 0 116 [(0, .ref (a 0)), (4, .int v4)] [.int s3, .int s2, .int s1, .ref (a 0)] (WM cy a V X) := by
  unfold f_X12_hook_j116 at h
  refine callVv3 C0 h (hD _) mw_X12_put rv_m tm_X12_199 (fun y hy => c_X12_put hy) (Nat.le_of_ble_eq_true rfl) (Nat.le_of_ble_eq_true rfl) dX12_hook_116 (fun r12 h => ?_)
  refine r_aload_n C0 dX12_hook_119 rfl 0 rfl ?_
  refine r_iload C0 dX12_hook_120 1 rfl ?_
  refine callV1 C0 h (hD _) mw_X12_keep rv_m tm_X12_176 (fun y hy => c_X12_keep hy) (Nat.le_of_ble_eq_true rfl) (Nat.le_of_ble_eq_true rfl) dX12_hook_122 (fun r13 h => ?_)
  cases h
  exact hz _ _ dX12_hook_125
theorem w_X12_hook_j83 {z : (Int32 × VT)} {Γ : Gam} {cy : Nat → ClassId} {a : Nat → Nat} {V : VT} {X : va_W} {v1 : Int32} {v2 : Int32} {v3 : Int32} {s1 : Int32}  (C0 : CXg Γ cX12_hook 5 3 RX12 cy) (hD : DM Γ cy a X) (h : f_X12_hook_j83 v1 v2 v3 s1 V = some z) (hz : (fun y : Int32 × VT => FinI Γ cX12_hook (WM cy a y.2 X) y.1) z) : Wp Γ 0 0 83 [(0, .ref (a 0)), (1, .int v1), (2, .int v2), (3, .int v3)] [.int s1, .ref (a 0)] (WM cy a V X) := by
  unfold f_X12_hook_j83 at h
  refine r_bipush C0 dX12_hook_83 kb_12 ?_
  refine callV2 C0 h (hD _) mw_X12_is rv_m tm_X12_168 (fun y hy => c_X12_is hy) (Nat.le_of_ble_eq_true rfl) (Nat.le_of_ble_eq_true rfl) dX12_hook_85 (fun r10 h => ?_)
  refine r_if_eq C0 96 dX12_hook_88 rfl h (fun _ h => ?_) (fun _ h => ?_)
  · refine r_aload_n C0 dX12_hook_96 rfl 0 rfl ?_
    refine r_iload_n C0 dX12_hook_97 rfl 1 rfl ?_
    refine r_iload_n C0 dX12_hook_98 rfl 2 rfl ?_
    refine callV2 C0 h (hD _) mw_X12_held rv_m tm_X12_72 (fun y hy => c_X12_held hy) (Nat.le_of_ble_eq_true rfl) (Nat.le_of_ble_eq_true rfl) dX12_hook_99 (fun r11 h => ?_)
    refine r_istore (lv2 := [(4, .int r11), (0, .ref (a 0)), (1, .int v1), (2, .int v2), (3, .int v3)]) C0 dX12_hook_102 rfl (Nat.le_of_ble_eq_true rfl) rfl ?_
    refine r_aload_n C0 dX12_hook_104 rfl 1 rfl ?_
    refine r_iload_n C0 dX12_hook_105 rfl 2 rfl ?_
    refine r_iload_n C0 dX12_hook_106 rfl 3 rfl ?_
    refine r_iload_n C0 dX12_hook_107 rfl 4 rfl ?_
    refine r_if_eq C0 115 dX12_hook_108 rfl h (fun _ h => ?_) (fun _ h => ?_)
    · refine r_iconst C0 dX12_hook_115 ki_0 ?_
      exact r_sub [1, 0] rfl (w_X12_hook_j116 C0 hD h hz)
    · refine r_iconst C0 dX12_hook_111 ki_1 ?_
      refine r_goto C0 116 dX12_hook_112 rfl ?_
      exact r_sub [1, 0] rfl (w_X12_hook_j116 C0 hD h hz)
  · exact r_sub [0] rfl (w_X12_hook_j91 C0 hD h hz)
theorem w_X12_hook_j60 {z : (Int32 × VT)} {Γ : Gam} {cy : Nat → ClassId} {a : Nat → Nat} {V : VT} {X : va_W} {v1 : Int32} {v2 : Int32} {v3 : Int32} {s1 : Int32}  (C0 : CXg Γ cX12_hook 5 3 RX12 cy) (hD : DM Γ cy a X) (h : f_X12_hook_j60 v1 v2 v3 s1 V = some z) (hz : (fun y : Int32 × VT => FinI Γ cX12_hook (WM cy a y.2 X) y.1) z) : Wp Γ 0 0 60 [(0, .ref (a 0)), (1, .int v1), (2, .int v2), (3, .int v3)] [.int s1, .ref (a 0)] (WM cy a V X) := by
  unfold f_X12_hook_j60 at h
  refine r_iconst C0 dX12_hook_60 ki_2 ?_
  refine callV2 C0 h (hD _) mw_X12_is rv_m tm_X12_168 (fun y hy => c_X12_is hy) (Nat.le_of_ble_eq_true rfl) (Nat.le_of_ble_eq_true rfl) dX12_hook_61 (fun r8 h => ?_)
  refine r_if_ne C0 91 dX12_hook_64 rfl h (fun _ h => ?_) (fun _ h => ?_)
  · exact r_sub [0] rfl (w_X12_hook_j91 C0 hD h hz)
  · refine r_aload_n C0 dX12_hook_67 rfl 0 rfl ?_
    refine r_aload_n C0 dX12_hook_68 rfl 0 rfl ?_
    refine r_iload_n C0 dX12_hook_69 rfl 1 rfl ?_
    refine r_iload_n C0 dX12_hook_70 rfl 2 rfl ?_
    refine callV2 C0 h (hD _) mw_X12_held rv_m tm_X12_72 (fun y hy => c_X12_held hy) (Nat.le_of_ble_eq_true rfl) (Nat.le_of_ble_eq_true rfl) dX12_hook_71 (fun r9 h => ?_)
    refine r_iconst C0 dX12_hook_74 ki_2 ?_
    refine r_icmp_lt C0 82 dX12_hook_75 rfl h (fun _ h => ?_) (fun _ h => ?_)
    · refine r_iconst C0 dX12_hook_82 ki_0 ?_
      exact r_sub [0, 1, 2, 3] rfl (w_X12_hook_j83 C0 hD h hz)
    · refine r_iconst C0 dX12_hook_78 ki_1 ?_
      refine r_goto C0 83 dX12_hook_79 rfl ?_
      exact r_sub [0, 1, 2, 3] rfl (w_X12_hook_j83 C0 hD h hz)
theorem w_X12_hook_j38 {z : (Int32 × VT)} {Γ : Gam} {cy : Nat → ClassId} {a : Nat → Nat} {V : VT} {X : va_W} {v1 : Int32} {v2 : Int32} {v3 : Int32} {s1 : Int32}  (C0 : CXg Γ cX12_hook 5 3 RX12 cy) (hD : DM Γ cy a X) (h : f_X12_hook_j38 v1 v2 v3 s1 V = some z) (hz : (fun y : Int32 × VT => FinI Γ cX12_hook (WM cy a y.2 X) y.1) z) : Wp Γ 0 0 38 [(0, .ref (a 0)), (1, .int v1), (2, .int v2), (3, .int v3)] [.int s1, .ref (a 0)] (WM cy a V X) := by
  unfold f_X12_hook_j38 at h
  refine r_iconst C0 dX12_hook_38 ki_1 ?_
  refine callV2 C0 h (hD _) mw_X12_is rv_m tm_X12_168 (fun y hy => c_X12_is hy) (Nat.le_of_ble_eq_true rfl) (Nat.le_of_ble_eq_true rfl) dX12_hook_39 (fun r6 h => ?_)
  refine r_if_ne C0 91 dX12_hook_42 rfl h (fun _ h => ?_) (fun _ h => ?_)
  · exact r_sub [0] rfl (w_X12_hook_j91 C0 hD h hz)
  · refine r_aload_n C0 dX12_hook_45 rfl 0 rfl ?_
    refine r_aload_n C0 dX12_hook_46 rfl 0 rfl ?_
    refine r_iload_n C0 dX12_hook_47 rfl 1 rfl ?_
    refine r_iload_n C0 dX12_hook_48 rfl 2 rfl ?_
    refine callV2 C0 h (hD _) mw_X12_isPlace rv_m tm_X12_118 (fun y hy => c_X12_isPlace hy) (Nat.le_of_ble_eq_true rfl) (Nat.le_of_ble_eq_true rfl) dX12_hook_49 (fun r7 h => ?_)
    refine r_if_ne C0 59 dX12_hook_52 rfl h (fun _ h => ?_) (fun _ h => ?_)
    · refine r_iconst C0 dX12_hook_59 ki_0 ?_
      exact r_sub [0, 1, 2, 3] rfl (w_X12_hook_j60 C0 hD h hz)
    · refine r_iconst C0 dX12_hook_55 ki_1 ?_
      refine r_goto C0 60 dX12_hook_56 rfl ?_
      exact r_sub [0, 1, 2, 3] rfl (w_X12_hook_j60 C0 hD h hz)
theorem w_X12_hook_j17 {z : (Int32 × VT)} {Γ : Gam} {cy : Nat → ClassId} {a : Nat → Nat} {V : VT} {X : va_W} {v1 : Int32} {v2 : Int32} {v3 : Int32} {s1 : Int32}  (C0 : CXg Γ cX12_hook 5 3 RX12 cy) (hD : DM Γ cy a X) (h : f_X12_hook_j17 v1 v2 v3 s1 V = some z) (hz : (fun y : Int32 × VT => FinI Γ cX12_hook (WM cy a y.2 X) y.1) z) : Wp Γ 0 0 17 [(0, .ref (a 0)), (1, .int v1), (2, .int v2), (3, .int v3)] [.int s1, .ref (a 0)] (WM cy a V X) := by
  unfold f_X12_hook_j17 at h
  refine r_iconst C0 dX12_hook_17 ki_2 ?_
  refine callV2 C0 h (hD _) mw_X12_is rv_m tm_X12_168 (fun y hy => c_X12_is hy) (Nat.le_of_ble_eq_true rfl) (Nat.le_of_ble_eq_true rfl) dX12_hook_18 (fun r3 h => ?_)
  refine r_if_ne C0 91 dX12_hook_21 rfl h (fun _ h => ?_) (fun _ h => ?_)
  · exact r_sub [0] rfl (w_X12_hook_j91 C0 hD h hz)
  · refine r_aload_n C0 dX12_hook_24 rfl 0 rfl ?_
    refine r_aload_n C0 dX12_hook_25 rfl 0 rfl ?_
    refine r_iload_n C0 dX12_hook_26 rfl 1 rfl ?_
    refine callV1 C0 h (hD _) mw_X12_isRigged rv_m tm_X12_66 (fun y hy => c_X12_isRigged hy) (Nat.le_of_ble_eq_true rfl) (Nat.le_of_ble_eq_true rfl) dX12_hook_27 (fun r5 h => ?_)
    refine r_if_ne C0 37 dX12_hook_30 rfl h (fun _ h => ?_) (fun _ h => ?_)
    · refine r_iconst C0 dX12_hook_37 ki_0 ?_
      exact r_sub [0, 1, 2, 3] rfl (w_X12_hook_j38 C0 hD h hz)
    · refine r_iconst C0 dX12_hook_33 ki_1 ?_
      refine r_goto C0 38 dX12_hook_34 rfl ?_
      exact r_sub [0, 1, 2, 3] rfl (w_X12_hook_j38 C0 hD h hz)
theorem w_X12_hook {z : Int32 × VT} {Γ : Gam} {cy : Nat → ClassId} {a : Nat → Nat} {V : VT} {X : va_W} {v1 : Int32} {v2 : Int32} {v3 : Int32}  (C0 : CXg Γ cX12_hook 5 3 RX12 cy) (hD : DM Γ cy a X) (h : f_X12_hook v1 v2 v3 V = some z) (hz : (fun y : Int32 × VT => FinI Γ cX12_hook (WM cy a y.2 X) y.1) z) : Wp Γ 0 0 0 [(0, .ref (a 0)), (1, .int v1), (2, .int v2), (3, .int v3)] [] (WM cy a V X) := by
  unfold f_X12_hook at h
  refine r_aload_n C0 dX12_hook_0 rfl 0 rfl ?_
  refine callVv0 C0 h (hD _) mw_X12_begin rv_m tm_X12_165 (fun y hy => c_X12_begin hy) (Nat.le_of_ble_eq_true rfl) (Nat.le_of_ble_eq_true rfl) dX12_hook_1 (fun r1 h => ?_)
  refine r_aload_n C0 dX12_hook_4 rfl 0 rfl ?_
  refine r_iload_n C0 dX12_hook_5 rfl 1 rfl ?_
  refine callS1 C0 h (hD _) ms_X12_isBar tm_X12_115 (fun y hy => c_X12_isBar hy) (Nat.le_of_ble_eq_true rfl) (Nat.le_of_ble_eq_true rfl) dX12_hook_6 (fun r2 h => ?_)
  refine r_if_ne C0 16 dX12_hook_9 rfl h (fun _ h => ?_) (fun _ h => ?_)
  · refine r_iconst C0 dX12_hook_16 ki_0 ?_
    exact r_sub [0, 1, 2, 3] rfl (w_X12_hook_j17 C0 hD h hz)
  · refine r_iconst C0 dX12_hook_12 ki_1 ?_
    refine r_goto C0 17 dX12_hook_13 rfl ?_
    exact r_sub [0, 1, 2, 3] rfl (w_X12_hook_j17 C0 hD h hz)
theorem c_X12_hook {l : Launch} {D : va_G} {cy : Nat → ClassId} {a : Nat → Nat} {V : VT} {X : va_W} {v1 : Int32} {v2 : Int32} {v3 : Int32} {y : Int32 × VT} (h : f_X12_hook v1 v2 v3 V = some y) : CT l D cy yX12_hook cX12_hook 5 (some .int) 3 [.ref (a 0), .int v1, .int v2, .int v3] (WM cy a V X) (WM cy a y.2 X) (some (.int y.1)) :=
  mkI (by decide) (Nat.le_of_ble_eq_true rfl) (fun Γ _ _ C0 hD hF => w_X12_hook C0 (dm_of hD) h hF)
theorem dX12_brick_0 : decode cX12_brick 0 = .ok (.aload_n 0, 1) := by decide +kernel
theorem dX12_brick_1 : decode cX12_brick 1 = .ok (.invokevirtual 165, 3) := by decide +kernel
theorem dX12_brick_4 : decode cX12_brick 4 = .ok (.aload_n 0, 1) := by decide +kernel
theorem dX12_brick_5 : decode cX12_brick 5 = .ok (.iload_n 1, 1) := by decide +kernel
theorem dX12_brick_6 : decode cX12_brick 6 = .ok (.invokestatic 115, 3) := by decide +kernel
theorem dX12_brick_9 : decode cX12_brick 9 = .ok (.ifCond .ne 7, 3) := by decide +kernel
theorem dX12_brick_12 : decode cX12_brick 12 = .ok (.iconst 1, 1) := by decide +kernel
theorem dX12_brick_13 : decode cX12_brick 13 = .ok (.goto 4, 3) := by decide +kernel
theorem dX12_brick_16 : decode cX12_brick 16 = .ok (.iconst 0, 1) := by decide +kernel
theorem dX12_brick_17 : decode cX12_brick 17 = .ok (.iconst 2, 1) := by decide +kernel
theorem dX12_brick_18 : decode cX12_brick 18 = .ok (.invokevirtual 168, 3) := by decide +kernel
theorem dX12_brick_21 : decode cX12_brick 21 = .ok (.ifCond .ne 24, 3) := by decide +kernel
theorem dX12_brick_24 : decode cX12_brick 24 = .ok (.aload_n 0, 1) := by decide +kernel
theorem dX12_brick_25 : decode cX12_brick 25 = .ok (.aload_n 0, 1) := by decide +kernel
theorem dX12_brick_26 : decode cX12_brick 26 = .ok (.iload_n 1, 1) := by decide +kernel
theorem dX12_brick_27 : decode cX12_brick 27 = .ok (.invokevirtual 66, 3) := by decide +kernel
theorem dX12_brick_30 : decode cX12_brick 30 = .ok (.ifCond .ne 7, 3) := by decide +kernel
theorem dX12_brick_33 : decode cX12_brick 33 = .ok (.iconst 1, 1) := by decide +kernel
theorem dX12_brick_34 : decode cX12_brick 34 = .ok (.goto 4, 3) := by decide +kernel
theorem dX12_brick_37 : decode cX12_brick 37 = .ok (.iconst 0, 1) := by decide +kernel
theorem dX12_brick_38 : decode cX12_brick 38 = .ok (.iconst 1, 1) := by decide +kernel
theorem dX12_brick_39 : decode cX12_brick 39 = .ok (.invokevirtual 168, 3) := by decide +kernel
theorem dX12_brick_42 : decode cX12_brick 42 = .ok (.ifCond .eq 8, 3) := by decide +kernel
theorem dX12_brick_45 : decode cX12_brick 45 = .ok (.aload_n 0, 1) := by decide +kernel
theorem dX12_brick_46 : decode cX12_brick 46 = .ok (.invokevirtual 172, 3) := by decide +kernel
theorem dX12_brick_49 : decode cX12_brick 49 = .ok (.ireturn, 1) := by decide +kernel
theorem dX12_brick_50 : decode cX12_brick 50 = .ok (.aload_n 0, 1) := by decide +kernel
theorem dX12_brick_51 : decode cX12_brick 51 = .ok (.getfield 7, 3) := by decide +kernel
theorem dX12_brick_54 : decode cX12_brick 54 = .ok (.iload_n 1, 1) := by decide +kernel
theorem dX12_brick_55 : decode cX12_brick 55 = .ok (.invokestatic 51, 3) := by decide +kernel
theorem dX12_brick_58 : decode cX12_brick 58 = .ok (.iconst 4, 1) := by decide +kernel
theorem dX12_brick_59 : decode cX12_brick 59 = .ok (.iadd, 1) := by decide +kernel
theorem dX12_brick_60 : decode cX12_brick 60 = .ok (.iaload, 1) := by decide +kernel
theorem dX12_brick_61 : decode cX12_brick 61 = .ok (.i2l, 1) := by decide +kernel
theorem dX12_brick_62 : decode cX12_brick 62 = .ok (.iload_n 2, 1) := by decide +kernel
theorem dX12_brick_63 : decode cX12_brick 63 = .ok (.i2l, 1) := by decide +kernel
theorem dX12_brick_64 : decode cX12_brick 64 = .ok (.ladd, 1) := by decide +kernel
theorem dX12_brick_65 : decode cX12_brick 65 = .ok (.lstore_n 3, 1) := by decide +kernel
theorem dX12_brick_66 : decode cX12_brick 66 = .ok (.aload_n 0, 1) := by decide +kernel
theorem dX12_brick_67 : decode cX12_brick 67 = .ok (.lload_n 3, 1) := by decide +kernel
theorem dX12_brick_68 : decode cX12_brick 68 = .ok (.lconst 0, 1) := by decide +kernel
theorem dX12_brick_69 : decode cX12_brick 69 = .ok (.lcmp, 1) := by decide +kernel
theorem dX12_brick_70 : decode cX12_brick 70 = .ok (.ifCond .lt 11, 3) := by decide +kernel
theorem dX12_brick_73 : decode cX12_brick 73 = .ok (.lload_n 3, 1) := by decide +kernel
theorem dX12_brick_74 : decode cX12_brick 74 = .ok (.ldc2_w 206, 3) := by decide +kernel
theorem dX12_brick_77 : decode cX12_brick 77 = .ok (.lcmp, 1) := by decide +kernel
theorem dX12_brick_78 : decode cX12_brick 78 = .ok (.ifCond .le 7, 3) := by decide +kernel
theorem dX12_brick_81 : decode cX12_brick 81 = .ok (.iconst 1, 1) := by decide +kernel
theorem dX12_brick_82 : decode cX12_brick 82 = .ok (.goto 4, 3) := by decide +kernel
theorem dX12_brick_85 : decode cX12_brick 85 = .ok (.iconst 0, 1) := by decide +kernel
theorem dX12_brick_86 : decode cX12_brick 86 = .ok (.bipush 7, 2) := by decide +kernel
theorem dX12_brick_88 : decode cX12_brick 88 = .ok (.invokevirtual 168, 3) := by decide +kernel
theorem dX12_brick_91 : decode cX12_brick 91 = .ok (.ifCond .eq 8, 3) := by decide +kernel
theorem dX12_brick_94 : decode cX12_brick 94 = .ok (.aload_n 0, 1) := by decide +kernel
theorem dX12_brick_95 : decode cX12_brick 95 = .ok (.invokevirtual 172, 3) := by decide +kernel
theorem dX12_brick_98 : decode cX12_brick 98 = .ok (.ireturn, 1) := by decide +kernel
theorem dX12_brick_99 : decode cX12_brick 99 = .ok (.aload_n 0, 1) := by decide +kernel
theorem dX12_brick_100 : decode cX12_brick 100 = .ok (.getfield 7, 3) := by decide +kernel
theorem dX12_brick_103 : decode cX12_brick 103 = .ok (.iload_n 1, 1) := by decide +kernel
theorem dX12_brick_104 : decode cX12_brick 104 = .ok (.invokestatic 51, 3) := by decide +kernel
theorem dX12_brick_107 : decode cX12_brick 107 = .ok (.iconst 4, 1) := by decide +kernel
theorem dX12_brick_108 : decode cX12_brick 108 = .ok (.iadd, 1) := by decide +kernel
theorem dX12_brick_109 : decode cX12_brick 109 = .ok (.lload_n 3, 1) := by decide +kernel
theorem dX12_brick_110 : decode cX12_brick 110 = .ok (.l2i, 1) := by decide +kernel
theorem dX12_brick_111 : decode cX12_brick 111 = .ok (.iastore, 1) := by decide +kernel
theorem dX12_brick_112 : decode cX12_brick 112 = .ok (.aload_n 0, 1) := by decide +kernel
theorem dX12_brick_113 : decode cX12_brick 113 = .ok (.lload_n 3, 1) := by decide +kernel
theorem dX12_brick_114 : decode cX12_brick 114 = .ok (.l2i, 1) := by decide +kernel
theorem dX12_brick_115 : decode cX12_brick 115 = .ok (.invokevirtual 176, 3) := by decide +kernel
theorem dX12_brick_118 : decode cX12_brick 118 = .ok (.ireturn, 1) := by decide +kernel
theorem w_X12_brick_j45 {z : (Int32 × VT)} {Γ : Gam} {cy : Nat → ClassId} {a : Nat → Nat} {V : VT} {X : va_W}  (C0 : CXg Γ cX12_brick 5 2 RX12 cy) (hD : DM Γ cy a X) (h : f_X12_brick_j45 V = some z) (hz : (fun y : Int32 × VT => FinI Γ cX12_brick (WM cy a y.2 X) y.1) z) : Wp Γ 0 0 45 [(0, .ref (a 0))] [] (WM cy a V X) := by
  unfold f_X12_brick_j45 at h
  refine r_aload_n C0 dX12_brick_45 rfl 0 rfl ?_
  refine callV0 C0 h (hD _) mw_X12_refused rv_m tm_X12_172 (fun y hy => c_X12_refused hy) (Nat.le_of_ble_eq_true rfl) (Nat.le_of_ble_eq_true rfl) dX12_brick_46 (fun r4 h => ?_)
  cases h
  exact hz _ _ dX12_brick_49
theorem w_X12_brick_j86 {z : (Int32 × VT)} {Γ : Gam} {cy : Nat → ClassId} {a : Nat → Nat} {V : VT} {X : va_W} {v1 : Int32} {v3 : Int64} {s1 : Int32}  (C0 : CXg Γ cX12_brick 5 2 RX12 cy) (hD : DM Γ cy a X) (h : f_X12_brick_j86 v1 v3 s1 V = some z) (hz : (fun y : Int32 × VT => FinI Γ cX12_brick (WM cy a y.2 X) y.1) z) : Wp Γ 0 0 86 [(0, .ref (a 0)), (1, .int v1), (3, .long v3)] [.int s1, .ref (a 0)] (WM cy a V X) := by
  unfold f_X12_brick_j86 at h
  refine r_bipush C0 dX12_brick_86 kb_7 ?_
  refine callV2 C0 h (hD _) mw_X12_is rv_m tm_X12_168 (fun y hy => c_X12_is hy) (Nat.le_of_ble_eq_true rfl) (Nat.le_of_ble_eq_true rfl) dX12_brick_88 (fun r10 h => ?_)
  refine r_if_eq C0 99 dX12_brick_91 rfl h (fun _ h => ?_) (fun _ h => ?_)
  · refine r_aload_n C0 dX12_brick_99 rfl 0 rfl ?_
    refine wmg_0_0 C0 tf_X12_7 dX12_brick_100 ?_
    refine r_iload_n C0 dX12_brick_103 rfl 1 rfl ?_
    refine callS1 C0 h (hD _) ms_X12_bar0 tm_X12_51 (fun y hy => c_X12_bar0 hy) (Nat.le_of_ble_eq_true rfl) (Nat.le_of_ble_eq_true rfl) dX12_brick_104 (fun r11 h => ?_)
    refine r_iconst C0 dX12_brick_107 ki_4 ?_
    refine r_iadd C0 dX12_brick_108 ?_
    refine r_lload_n C0 dX12_brick_109 rfl 2 rfl ?_
    refine r_l2i C0 dX12_brick_110 ?_
    refine wmas_1 C0 hD h dX12_brick_111 (fun k12 h => ?_)
    refine r_aload_n C0 dX12_brick_112 rfl 0 rfl ?_
    refine r_lload_n C0 dX12_brick_113 rfl 2 rfl ?_
    refine r_l2i C0 dX12_brick_114 ?_
    refine callV1 C0 h (hD _) mw_X12_keep rv_m tm_X12_176 (fun y hy => c_X12_keep hy) (Nat.le_of_ble_eq_true rfl) (Nat.le_of_ble_eq_true rfl) dX12_brick_115 (fun r13 h => ?_)
    cases h
    exact hz _ _ dX12_brick_118
  · refine r_aload_n C0 dX12_brick_94 rfl 0 rfl ?_
    refine callV0 C0 h (hD _) mw_X12_refused rv_m tm_X12_172 (fun y hy => c_X12_refused hy) (Nat.le_of_ble_eq_true rfl) (Nat.le_of_ble_eq_true rfl) dX12_brick_95 (fun r14 h => ?_)
    cases h
    exact hz _ _ dX12_brick_98
theorem w_X12_brick_j81 {z : (Int32 × VT)} {Γ : Gam} {cy : Nat → ClassId} {a : Nat → Nat} {V : VT} {X : va_W} {v1 : Int32} {v3 : Int64}  (C0 : CXg Γ cX12_brick 5 2 RX12 cy) (hD : DM Γ cy a X) (h : f_X12_brick_j81 v1 v3 V = some z) (hz : (fun y : Int32 × VT => FinI Γ cX12_brick (WM cy a y.2 X) y.1) z) : Wp Γ 0 0 81 [(0, .ref (a 0)), (1, .int v1), (3, .long v3)] [.ref (a 0)] (WM cy a V X) := by
  unfold f_X12_brick_j81 at h
  refine r_iconst C0 dX12_brick_81 ki_1 ?_
  refine r_goto C0 86 dX12_brick_82 rfl ?_
  exact r_sub [0, 1, 2] rfl (w_X12_brick_j86 C0 hD h hz)
theorem w_X12_brick_j38 {z : (Int32 × VT)} {Γ : Gam} {cy : Nat → ClassId} {a : Nat → Nat} {V : VT} {X : va_W} {v1 : Int32} {v2 : Int32} {s1 : Int32}  (C0 : CXg Γ cX12_brick 5 2 RX12 cy) (hD : DM Γ cy a X) (h : f_X12_brick_j38 v1 v2 s1 V = some z) (hz : (fun y : Int32 × VT => FinI Γ cX12_brick (WM cy a y.2 X) y.1) z) : Wp Γ 0 0 38 [(0, .ref (a 0)), (1, .int v1), (2, .int v2)] [.int s1, .ref (a 0)] (WM cy a V X) := by
  unfold f_X12_brick_j38 at h
  refine r_iconst C0 dX12_brick_38 ki_1 ?_
  refine callV2 C0 h (hD _) mw_X12_is rv_m tm_X12_168 (fun y hy => c_X12_is hy) (Nat.le_of_ble_eq_true rfl) (Nat.le_of_ble_eq_true rfl) dX12_brick_39 (fun r6 h => ?_)
  refine r_if_eq C0 50 dX12_brick_42 rfl h (fun _ h => ?_) (fun _ h => ?_)
  · refine r_aload_n C0 dX12_brick_50 rfl 0 rfl ?_
    refine wmg_0_0 C0 tf_X12_7 dX12_brick_51 ?_
    refine r_iload_n C0 dX12_brick_54 rfl 1 rfl ?_
    refine callS1 C0 h (hD _) ms_X12_bar0 tm_X12_51 (fun y hy => c_X12_bar0 hy) (Nat.le_of_ble_eq_true rfl) (Nat.le_of_ble_eq_true rfl) dX12_brick_55 (fun r7 h => ?_)
    refine r_iconst C0 dX12_brick_58 ki_4 ?_
    refine r_iadd C0 dX12_brick_59 ?_
    refine wmal_1 C0 h dX12_brick_60 (fun k8 h => ?_)
    refine r_i2l C0 dX12_brick_61 ?_
    refine r_iload_n C0 dX12_brick_62 rfl 2 rfl ?_
    refine r_i2l C0 dX12_brick_63 ?_
    refine r_ladd C0 dX12_brick_64 ?_
    obtain ⟨a9, h8, h⟩ := op_bind h
    have e8 := Option.some.inj h8
    refine r_lstore_n (lv2 := [(3, .long a9), (0, .ref (a 0)), (1, .int v1), (2, .int v2)]) C0 dX12_brick_65 rfl e8 (Nat.le_of_ble_eq_true rfl) rfl ?_
    refine r_aload_n C0 dX12_brick_66 rfl 1 rfl ?_
    refine r_lload_n C0 dX12_brick_67 rfl 0 rfl ?_
    refine r_lconst (v := 0) C0 dX12_brick_68 (by decide) ?_
    refine r_lcmp C0 dX12_brick_69 ?_
    refine r_if_lt C0 81 dX12_brick_70 rfl h (fun _ h => ?_) (fun _ h => ?_)
    · exact r_sub [1, 2, 0] rfl (w_X12_brick_j81 C0 hD h hz)
    · refine r_lload_n C0 dX12_brick_73 rfl 0 rfl ?_
      refine r_ldc2 C0 tk_X12_206 dX12_brick_74 ?_
      refine r_lcmp C0 dX12_brick_77 ?_
      refine r_if_le C0 85 dX12_brick_78 rfl h (fun _ h => ?_) (fun _ h => ?_)
      · refine r_iconst C0 dX12_brick_85 ki_0 ?_
        exact r_sub [1, 2, 0] rfl (w_X12_brick_j86 C0 hD h hz)
      · exact r_sub [1, 2, 0] rfl (w_X12_brick_j81 C0 hD h hz)
  · exact r_sub [0] rfl (w_X12_brick_j45 C0 hD h hz)
theorem w_X12_brick_j17 {z : (Int32 × VT)} {Γ : Gam} {cy : Nat → ClassId} {a : Nat → Nat} {V : VT} {X : va_W} {v1 : Int32} {v2 : Int32} {s1 : Int32}  (C0 : CXg Γ cX12_brick 5 2 RX12 cy) (hD : DM Γ cy a X) (h : f_X12_brick_j17 v1 v2 s1 V = some z) (hz : (fun y : Int32 × VT => FinI Γ cX12_brick (WM cy a y.2 X) y.1) z) : Wp Γ 0 0 17 [(0, .ref (a 0)), (1, .int v1), (2, .int v2)] [.int s1, .ref (a 0)] (WM cy a V X) := by
  unfold f_X12_brick_j17 at h
  refine r_iconst C0 dX12_brick_17 ki_2 ?_
  refine callV2 C0 h (hD _) mw_X12_is rv_m tm_X12_168 (fun y hy => c_X12_is hy) (Nat.le_of_ble_eq_true rfl) (Nat.le_of_ble_eq_true rfl) dX12_brick_18 (fun r3 h => ?_)
  refine r_if_ne C0 45 dX12_brick_21 rfl h (fun _ h => ?_) (fun _ h => ?_)
  · exact r_sub [0] rfl (w_X12_brick_j45 C0 hD h hz)
  · refine r_aload_n C0 dX12_brick_24 rfl 0 rfl ?_
    refine r_aload_n C0 dX12_brick_25 rfl 0 rfl ?_
    refine r_iload_n C0 dX12_brick_26 rfl 1 rfl ?_
    refine callV1 C0 h (hD _) mw_X12_isRigged rv_m tm_X12_66 (fun y hy => c_X12_isRigged hy) (Nat.le_of_ble_eq_true rfl) (Nat.le_of_ble_eq_true rfl) dX12_brick_27 (fun r5 h => ?_)
    refine r_if_ne C0 37 dX12_brick_30 rfl h (fun _ h => ?_) (fun _ h => ?_)
    · refine r_iconst C0 dX12_brick_37 ki_0 ?_
      exact r_sub [0, 1, 2] rfl (w_X12_brick_j38 C0 hD h hz)
    · refine r_iconst C0 dX12_brick_33 ki_1 ?_
      refine r_goto C0 38 dX12_brick_34 rfl ?_
      exact r_sub [0, 1, 2] rfl (w_X12_brick_j38 C0 hD h hz)
theorem w_X12_brick {z : Int32 × VT} {Γ : Gam} {cy : Nat → ClassId} {a : Nat → Nat} {V : VT} {X : va_W} {v1 : Int32} {v2 : Int32}  (C0 : CXg Γ cX12_brick 5 2 RX12 cy) (hD : DM Γ cy a X) (h : f_X12_brick v1 v2 V = some z) (hz : (fun y : Int32 × VT => FinI Γ cX12_brick (WM cy a y.2 X) y.1) z) : Wp Γ 0 0 0 [(0, .ref (a 0)), (1, .int v1), (2, .int v2)] [] (WM cy a V X) := by
  unfold f_X12_brick at h
  refine r_aload_n C0 dX12_brick_0 rfl 0 rfl ?_
  refine callVv0 C0 h (hD _) mw_X12_begin rv_m tm_X12_165 (fun y hy => c_X12_begin hy) (Nat.le_of_ble_eq_true rfl) (Nat.le_of_ble_eq_true rfl) dX12_brick_1 (fun r1 h => ?_)
  refine r_aload_n C0 dX12_brick_4 rfl 0 rfl ?_
  refine r_iload_n C0 dX12_brick_5 rfl 1 rfl ?_
  refine callS1 C0 h (hD _) ms_X12_isBar tm_X12_115 (fun y hy => c_X12_isBar hy) (Nat.le_of_ble_eq_true rfl) (Nat.le_of_ble_eq_true rfl) dX12_brick_6 (fun r2 h => ?_)
  refine r_if_ne C0 16 dX12_brick_9 rfl h (fun _ h => ?_) (fun _ h => ?_)
  · refine r_iconst C0 dX12_brick_16 ki_0 ?_
    exact r_sub [0, 1, 2] rfl (w_X12_brick_j17 C0 hD h hz)
  · refine r_iconst C0 dX12_brick_12 ki_1 ?_
    refine r_goto C0 17 dX12_brick_13 rfl ?_
    exact r_sub [0, 1, 2] rfl (w_X12_brick_j17 C0 hD h hz)
theorem c_X12_brick {l : Launch} {D : va_G} {cy : Nat → ClassId} {a : Nat → Nat} {V : VT} {X : va_W} {v1 : Int32} {v2 : Int32} {y : Int32 × VT} (h : f_X12_brick v1 v2 V = some y) : CT l D cy yX12_brick cX12_brick 5 (some .int) 2 [.ref (a 0), .int v1, .int v2] (WM cy a V X) (WM cy a y.2 X) (some (.int y.1)) :=
  mkI (by decide) (Nat.le_of_ble_eq_true rfl) (fun Γ _ _ C0 hD hF => w_X12_brick C0 (dm_of hD) h hF)
theorem dX12_shift_0 : decode cX12_shift 0 = .ok (.aload_n 0, 1) := by decide +kernel
theorem dX12_shift_1 : decode cX12_shift 1 = .ok (.invokevirtual 165, 3) := by decide +kernel
theorem dX12_shift_4 : decode cX12_shift 4 = .ok (.aload_n 0, 1) := by decide +kernel
theorem dX12_shift_5 : decode cX12_shift 5 = .ok (.iload_n 1, 1) := by decide +kernel
theorem dX12_shift_6 : decode cX12_shift 6 = .ok (.invokestatic 115, 3) := by decide +kernel
theorem dX12_shift_9 : decode cX12_shift 9 = .ok (.ifCond .ne 7, 3) := by decide +kernel
theorem dX12_shift_12 : decode cX12_shift 12 = .ok (.iconst 1, 1) := by decide +kernel
theorem dX12_shift_13 : decode cX12_shift 13 = .ok (.goto 4, 3) := by decide +kernel
theorem dX12_shift_16 : decode cX12_shift 16 = .ok (.iconst 0, 1) := by decide +kernel
theorem dX12_shift_17 : decode cX12_shift 17 = .ok (.iconst 2, 1) := by decide +kernel
theorem dX12_shift_18 : decode cX12_shift 18 = .ok (.invokevirtual 168, 3) := by decide +kernel
theorem dX12_shift_21 : decode cX12_shift 21 = .ok (.ifCond .ne 46, 3) := by decide +kernel
theorem dX12_shift_24 : decode cX12_shift 24 = .ok (.aload_n 0, 1) := by decide +kernel
theorem dX12_shift_25 : decode cX12_shift 25 = .ok (.aload_n 0, 1) := by decide +kernel
theorem dX12_shift_26 : decode cX12_shift 26 = .ok (.iload_n 1, 1) := by decide +kernel
theorem dX12_shift_27 : decode cX12_shift 27 = .ok (.invokevirtual 66, 3) := by decide +kernel
theorem dX12_shift_30 : decode cX12_shift 30 = .ok (.ifCond .ne 7, 3) := by decide +kernel
theorem dX12_shift_33 : decode cX12_shift 33 = .ok (.iconst 1, 1) := by decide +kernel
theorem dX12_shift_34 : decode cX12_shift 34 = .ok (.goto 4, 3) := by decide +kernel
theorem dX12_shift_37 : decode cX12_shift 37 = .ok (.iconst 0, 1) := by decide +kernel
theorem dX12_shift_38 : decode cX12_shift 38 = .ok (.iconst 1, 1) := by decide +kernel
theorem dX12_shift_39 : decode cX12_shift 39 = .ok (.invokevirtual 168, 3) := by decide +kernel
theorem dX12_shift_42 : decode cX12_shift 42 = .ok (.ifCond .ne 25, 3) := by decide +kernel
theorem dX12_shift_45 : decode cX12_shift 45 = .ok (.aload_n 0, 1) := by decide +kernel
theorem dX12_shift_46 : decode cX12_shift 46 = .ok (.aload_n 0, 1) := by decide +kernel
theorem dX12_shift_47 : decode cX12_shift 47 = .ok (.iload_n 1, 1) := by decide +kernel
theorem dX12_shift_48 : decode cX12_shift 48 = .ok (.invokevirtual 124, 3) := by decide +kernel
theorem dX12_shift_51 : decode cX12_shift 51 = .ok (.ifCond .eq 7, 3) := by decide +kernel
theorem dX12_shift_54 : decode cX12_shift 54 = .ok (.iconst 1, 1) := by decide +kernel
theorem dX12_shift_55 : decode cX12_shift 55 = .ok (.goto 4, 3) := by decide +kernel
theorem dX12_shift_58 : decode cX12_shift 58 = .ok (.iconst 0, 1) := by decide +kernel
theorem dX12_shift_59 : decode cX12_shift 59 = .ok (.bipush 10, 2) := by decide +kernel
theorem dX12_shift_61 : decode cX12_shift 61 = .ok (.invokevirtual 168, 3) := by decide +kernel
theorem dX12_shift_64 : decode cX12_shift 64 = .ok (.ifCond .eq 8, 3) := by decide +kernel
theorem dX12_shift_67 : decode cX12_shift 67 = .ok (.aload_n 0, 1) := by decide +kernel
theorem dX12_shift_68 : decode cX12_shift 68 = .ok (.invokevirtual 172, 3) := by decide +kernel
theorem dX12_shift_71 : decode cX12_shift 71 = .ok (.ireturn, 1) := by decide +kernel
theorem dX12_shift_72 : decode cX12_shift 72 = .ok (.iload 4, 2) := by decide +kernel
theorem dX12_shift_74 : decode cX12_shift 74 = .ok (.ifCond .lt 43, 3) := by decide +kernel
theorem dX12_shift_77 : decode cX12_shift 77 = .ok (.iload_n 2, 1) := by decide +kernel
theorem dX12_shift_78 : decode cX12_shift 78 = .ok (.ifCond .lt 39, 3) := by decide +kernel
theorem dX12_shift_81 : decode cX12_shift 81 = .ok (.iload_n 3, 1) := by decide +kernel
theorem dX12_shift_82 : decode cX12_shift 82 = .ok (.ifCond .lt 35, 3) := by decide +kernel
theorem dX12_shift_85 : decode cX12_shift 85 = .ok (.iload_n 2, 1) := by decide +kernel
theorem dX12_shift_86 : decode cX12_shift 86 = .ok (.i2l, 1) := by decide +kernel
theorem dX12_shift_87 : decode cX12_shift 87 = .ok (.iload 4, 2) := by decide +kernel
theorem dX12_shift_89 : decode cX12_shift 89 = .ok (.i2l, 1) := by decide +kernel
theorem dX12_shift_90 : decode cX12_shift 90 = .ok (.ladd, 1) := by decide +kernel
theorem dX12_shift_91 : decode cX12_shift 91 = .ok (.aload_n 0, 1) := by decide +kernel
theorem dX12_shift_92 : decode cX12_shift 92 = .ok (.iload_n 1, 1) := by decide +kernel
theorem dX12_shift_93 : decode cX12_shift 93 = .ok (.invokevirtual 55, 3) := by decide +kernel
theorem dX12_shift_96 : decode cX12_shift 96 = .ok (.i2l, 1) := by decide +kernel
theorem dX12_shift_97 : decode cX12_shift 97 = .ok (.lcmp, 1) := by decide +kernel
theorem dX12_shift_98 : decode cX12_shift 98 = .ok (.ifCond .gt 19, 3) := by decide +kernel
theorem dX12_shift_101 : decode cX12_shift 101 = .ok (.iload_n 3, 1) := by decide +kernel
theorem dX12_shift_102 : decode cX12_shift 102 = .ok (.i2l, 1) := by decide +kernel
theorem dX12_shift_103 : decode cX12_shift 103 = .ok (.iload 4, 2) := by decide +kernel
theorem dX12_shift_105 : decode cX12_shift 105 = .ok (.i2l, 1) := by decide +kernel
theorem dX12_shift_106 : decode cX12_shift 106 = .ok (.ladd, 1) := by decide +kernel
theorem dX12_shift_107 : decode cX12_shift 107 = .ok (.aload_n 0, 1) := by decide +kernel
theorem dX12_shift_108 : decode cX12_shift 108 = .ok (.iload_n 1, 1) := by decide +kernel
theorem dX12_shift_109 : decode cX12_shift 109 = .ok (.invokevirtual 55, 3) := by decide +kernel
theorem dX12_shift_112 : decode cX12_shift 112 = .ok (.i2l, 1) := by decide +kernel
theorem dX12_shift_113 : decode cX12_shift 113 = .ok (.lcmp, 1) := by decide +kernel
theorem dX12_shift_114 : decode cX12_shift 114 = .ok (.ifCond .le 7, 3) := by decide +kernel
theorem dX12_shift_117 : decode cX12_shift 117 = .ok (.iconst 1, 1) := by decide +kernel
theorem dX12_shift_118 : decode cX12_shift 118 = .ok (.goto 4, 3) := by decide +kernel
theorem dX12_shift_121 : decode cX12_shift 121 = .ok (.iconst 0, 1) := by decide +kernel
theorem dX12_shift_122 : decode cX12_shift 122 = .ok (.istore 5, 2) := by decide +kernel
theorem dX12_shift_124 : decode cX12_shift 124 = .ok (.aload_n 0, 1) := by decide +kernel
theorem dX12_shift_125 : decode cX12_shift 125 = .ok (.iload 5, 2) := by decide +kernel
theorem dX12_shift_127 : decode cX12_shift 127 = .ok (.iconst 5, 1) := by decide +kernel
theorem dX12_shift_128 : decode cX12_shift 128 = .ok (.invokevirtual 168, 3) := by decide +kernel
theorem dX12_shift_131 : decode cX12_shift 131 = .ok (.ifCond .eq 8, 3) := by decide +kernel
theorem dX12_shift_134 : decode cX12_shift 134 = .ok (.aload_n 0, 1) := by decide +kernel
theorem dX12_shift_135 : decode cX12_shift 135 = .ok (.invokevirtual 172, 3) := by decide +kernel
theorem dX12_shift_138 : decode cX12_shift 138 = .ok (.ireturn, 1) := by decide +kernel
theorem dX12_shift_139 : decode cX12_shift 139 = .ok (.iconst 0, 1) := by decide +kernel
theorem dX12_shift_140 : decode cX12_shift 140 = .ok (.istore 6, 2) := by decide +kernel
theorem dX12_shift_142 : decode cX12_shift 142 = .ok (.iconst 0, 1) := by decide +kernel
theorem dX12_shift_143 : decode cX12_shift 143 = .ok (.istore 7, 2) := by decide +kernel
theorem dX12_shift_145 : decode cX12_shift 145 = .ok (.iconst 0, 1) := by decide +kernel
theorem dX12_shift_146 : decode cX12_shift 146 = .ok (.istore 8, 2) := by decide +kernel
theorem dX12_shift_148 : decode cX12_shift 148 = .ok (.iload 8, 2) := by decide +kernel
theorem dX12_shift_150 : decode cX12_shift 150 = .ok (.iload 4, 2) := by decide +kernel
theorem dX12_shift_152 : decode cX12_shift 152 = .ok (.if_icmp .ge 137, 3) := by decide +kernel
theorem dX12_shift_155 : decode cX12_shift 155 = .ok (.aload_n 0, 1) := by decide +kernel
theorem dX12_shift_156 : decode cX12_shift 156 = .ok (.iload_n 1, 1) := by decide +kernel
theorem dX12_shift_157 : decode cX12_shift 157 = .ok (.iload_n 2, 1) := by decide +kernel
theorem dX12_shift_158 : decode cX12_shift 158 = .ok (.iload 8, 2) := by decide +kernel
theorem dX12_shift_160 : decode cX12_shift 160 = .ok (.iadd, 1) := by decide +kernel
theorem dX12_shift_161 : decode cX12_shift 161 = .ok (.invokevirtual 72, 3) := by decide +kernel
theorem dX12_shift_164 : decode cX12_shift 164 = .ok (.istore 9, 2) := by decide +kernel
theorem dX12_shift_166 : decode cX12_shift 166 = .ok (.aload_n 0, 1) := by decide +kernel
theorem dX12_shift_167 : decode cX12_shift 167 = .ok (.getfield 26, 3) := by decide +kernel
theorem dX12_shift_170 : decode cX12_shift 170 = .ok (.iload 8, 2) := by decide +kernel
theorem dX12_shift_172 : decode cX12_shift 172 = .ok (.iload 9, 2) := by decide +kernel
theorem dX12_shift_174 : decode cX12_shift 174 = .ok (.iastore, 1) := by decide +kernel
theorem dX12_shift_175 : decode cX12_shift 175 = .ok (.iload 7, 2) := by decide +kernel
theorem dX12_shift_177 : decode cX12_shift 177 = .ok (.iload 9, 2) := by decide +kernel
theorem dX12_shift_179 : decode cX12_shift 179 = .ok (.iconst 2, 1) := by decide +kernel
theorem dX12_shift_180 : decode cX12_shift 180 = .ok (.if_icmp .lt 7, 3) := by decide +kernel
theorem dX12_shift_183 : decode cX12_shift 183 = .ok (.iconst 1, 1) := by decide +kernel
theorem dX12_shift_184 : decode cX12_shift 184 = .ok (.goto 4, 3) := by decide +kernel
theorem dX12_shift_187 : decode cX12_shift 187 = .ok (.iconst 0, 1) := by decide +kernel
theorem dX12_shift_188 : decode cX12_shift 188 = .ok (.iadd, 1) := by decide +kernel
theorem dX12_shift_189 : decode cX12_shift 189 = .ok (.istore 7, 2) := by decide +kernel
theorem dX12_shift_191 : decode cX12_shift 191 = .ok (.iload 6, 2) := by decide +kernel
theorem dX12_shift_193 : decode cX12_shift 193 = .ok (.ifCond .ne 28, 3) := by decide +kernel
theorem dX12_shift_196 : decode cX12_shift 196 = .ok (.iload 9, 2) := by decide +kernel
theorem dX12_shift_198 : decode cX12_shift 198 = .ok (.iconst 1, 1) := by decide +kernel
theorem dX12_shift_199 : decode cX12_shift 199 = .ok (.if_icmp .eq 22, 3) := by decide +kernel
theorem dX12_shift_202 : decode cX12_shift 202 = .ok (.iload 9, 2) := by decide +kernel
theorem dX12_shift_204 : decode cX12_shift 204 = .ok (.iconst 2, 1) := by decide +kernel
theorem dX12_shift_205 : decode cX12_shift 205 = .ok (.if_icmp .lt 20, 3) := by decide +kernel
theorem dX12_shift_208 : decode cX12_shift 208 = .ok (.aload_n 0, 1) := by decide +kernel
theorem dX12_shift_209 : decode cX12_shift 209 = .ok (.iload 9, 2) := by decide +kernel
theorem dX12_shift_211 : decode cX12_shift 211 = .ok (.iconst 2, 1) := by decide +kernel
theorem dX12_shift_212 : decode cX12_shift 212 = .ok (.isub, 1) := by decide +kernel
theorem dX12_shift_213 : decode cX12_shift 213 = .ok (.iconst 0, 1) := by decide +kernel
theorem dX12_shift_214 : decode cX12_shift 214 = .ok (.invokevirtual 75, 3) := by decide +kernel
theorem dX12_shift_217 : decode cX12_shift 217 = .ok (.iconst 4, 1) := by decide +kernel
theorem dX12_shift_218 : decode cX12_shift 218 = .ok (.if_icmp .ne 7, 3) := by decide +kernel
theorem dX12_shift_221 : decode cX12_shift 221 = .ok (.iconst 1, 1) := by decide +kernel
theorem dX12_shift_222 : decode cX12_shift 222 = .ok (.goto 4, 3) := by decide +kernel
theorem dX12_shift_225 : decode cX12_shift 225 = .ok (.iconst 0, 1) := by decide +kernel
theorem dX12_shift_226 : decode cX12_shift 226 = .ok (.istore 6, 2) := by decide +kernel
theorem dX12_shift_228 : decode cX12_shift 228 = .ok (.iload_n 3, 1) := by decide +kernel
theorem dX12_shift_229 : decode cX12_shift 229 = .ok (.iload 8, 2) := by decide +kernel
theorem dX12_shift_231 : decode cX12_shift 231 = .ok (.iadd, 1) := by decide +kernel
theorem dX12_shift_232 : decode cX12_shift 232 = .ok (.iload_n 2, 1) := by decide +kernel
theorem dX12_shift_233 : decode cX12_shift 233 = .ok (.if_icmp .lt 18, 3) := by decide +kernel
theorem dX12_shift_236 : decode cX12_shift 236 = .ok (.iload_n 3, 1) := by decide +kernel
theorem dX12_shift_237 : decode cX12_shift 237 = .ok (.iload 8, 2) := by decide +kernel
theorem dX12_shift_239 : decode cX12_shift 239 = .ok (.iadd, 1) := by decide +kernel
theorem dX12_shift_240 : decode cX12_shift 240 = .ok (.iload_n 2, 1) := by decide +kernel
theorem dX12_shift_241 : decode cX12_shift 241 = .ok (.iload 4, 2) := by decide +kernel
theorem dX12_shift_243 : decode cX12_shift 243 = .ok (.iadd, 1) := by decide +kernel
theorem dX12_shift_244 : decode cX12_shift 244 = .ok (.if_icmp .ge 7, 3) := by decide +kernel
theorem dX12_shift_247 : decode cX12_shift 247 = .ok (.iconst 1, 1) := by decide +kernel
theorem dX12_shift_248 : decode cX12_shift 248 = .ok (.goto 4, 3) := by decide +kernel
theorem dX12_shift_251 : decode cX12_shift 251 = .ok (.iconst 0, 1) := by decide +kernel
theorem dX12_shift_252 : decode cX12_shift 252 = .ok (.istore 10, 2) := by decide +kernel
theorem dX12_shift_254 : decode cX12_shift 254 = .ok (.iload 6, 2) := by decide +kernel
theorem dX12_shift_256 : decode cX12_shift 256 = .ok (.ifCond .ne 20, 3) := by decide +kernel
theorem dX12_shift_259 : decode cX12_shift 259 = .ok (.iload 10, 2) := by decide +kernel
theorem dX12_shift_261 : decode cX12_shift 261 = .ok (.ifCond .ne 19, 3) := by decide +kernel
theorem dX12_shift_264 : decode cX12_shift 264 = .ok (.aload_n 0, 1) := by decide +kernel
theorem dX12_shift_265 : decode cX12_shift 265 = .ok (.iload_n 1, 1) := by decide +kernel
theorem dX12_shift_266 : decode cX12_shift 266 = .ok (.iload_n 3, 1) := by decide +kernel
theorem dX12_shift_267 : decode cX12_shift 267 = .ok (.iload 8, 2) := by decide +kernel
theorem dX12_shift_269 : decode cX12_shift 269 = .ok (.iadd, 1) := by decide +kernel
theorem dX12_shift_270 : decode cX12_shift 270 = .ok (.invokevirtual 72, 3) := by decide +kernel
theorem dX12_shift_273 : decode cX12_shift 273 = .ok (.ifCond .eq 7, 3) := by decide +kernel
theorem dX12_shift_276 : decode cX12_shift 276 = .ok (.iconst 1, 1) := by decide +kernel
theorem dX12_shift_277 : decode cX12_shift 277 = .ok (.goto 4, 3) := by decide +kernel
theorem dX12_shift_280 : decode cX12_shift 280 = .ok (.iconst 0, 1) := by decide +kernel
theorem dX12_shift_281 : decode cX12_shift 281 = .ok (.istore 6, 2) := by decide +kernel
theorem dX12_shift_283 : decode cX12_shift 283 = .ok (.iinc 8 1, 3) := by decide +kernel
theorem dX12_shift_286 : decode cX12_shift 286 = .ok (.goto (-138), 3) := by decide +kernel
theorem dX12_shift_289 : decode cX12_shift 289 = .ok (.aload_n 0, 1) := by decide +kernel
theorem dX12_shift_290 : decode cX12_shift 290 = .ok (.iload 6, 2) := by decide +kernel
theorem dX12_shift_292 : decode cX12_shift 292 = .ok (.bipush 12, 2) := by decide +kernel
theorem dX12_shift_294 : decode cX12_shift 294 = .ok (.invokevirtual 168, 3) := by decide +kernel
theorem dX12_shift_297 : decode cX12_shift 297 = .ok (.ifCond .eq 8, 3) := by decide +kernel
theorem dX12_shift_300 : decode cX12_shift 300 = .ok (.aload_n 0, 1) := by decide +kernel
theorem dX12_shift_301 : decode cX12_shift 301 = .ok (.invokevirtual 172, 3) := by decide +kernel
theorem dX12_shift_304 : decode cX12_shift 304 = .ok (.ireturn, 1) := by decide +kernel
theorem dX12_shift_305 : decode cX12_shift 305 = .ok (.iconst 0, 1) := by decide +kernel
theorem dX12_shift_306 : decode cX12_shift 306 = .ok (.istore 8, 2) := by decide +kernel
theorem dX12_shift_308 : decode cX12_shift 308 = .ok (.iload 8, 2) := by decide +kernel
theorem dX12_shift_310 : decode cX12_shift 310 = .ok (.iload 4, 2) := by decide +kernel
theorem dX12_shift_312 : decode cX12_shift 312 = .ok (.if_icmp .ge 19, 3) := by decide +kernel
theorem dX12_shift_315 : decode cX12_shift 315 = .ok (.aload_n 0, 1) := by decide +kernel
theorem dX12_shift_316 : decode cX12_shift 316 = .ok (.iload_n 1, 1) := by decide +kernel
theorem dX12_shift_317 : decode cX12_shift 317 = .ok (.iload_n 2, 1) := by decide +kernel
theorem dX12_shift_318 : decode cX12_shift 318 = .ok (.iload 8, 2) := by decide +kernel
theorem dX12_shift_320 : decode cX12_shift 320 = .ok (.iadd, 1) := by decide +kernel
theorem dX12_shift_321 : decode cX12_shift 321 = .ok (.iconst 0, 1) := by decide +kernel
theorem dX12_shift_322 : decode cX12_shift 322 = .ok (.invokevirtual 199, 3) := by decide +kernel
theorem dX12_shift_325 : decode cX12_shift 325 = .ok (.iinc 8 1, 3) := by decide +kernel
theorem dX12_shift_328 : decode cX12_shift 328 = .ok (.goto (-20), 3) := by decide +kernel
theorem dX12_shift_331 : decode cX12_shift 331 = .ok (.iconst 0, 1) := by decide +kernel
theorem dX12_shift_332 : decode cX12_shift 332 = .ok (.istore 8, 2) := by decide +kernel
theorem dX12_shift_334 : decode cX12_shift 334 = .ok (.iload 8, 2) := by decide +kernel
theorem dX12_shift_336 : decode cX12_shift 336 = .ok (.iload 4, 2) := by decide +kernel
theorem dX12_shift_338 : decode cX12_shift 338 = .ok (.if_icmp .ge 25, 3) := by decide +kernel
theorem dX12_shift_341 : decode cX12_shift 341 = .ok (.aload_n 0, 1) := by decide +kernel
theorem dX12_shift_342 : decode cX12_shift 342 = .ok (.iload_n 1, 1) := by decide +kernel
theorem dX12_shift_343 : decode cX12_shift 343 = .ok (.iload_n 3, 1) := by decide +kernel
theorem dX12_shift_344 : decode cX12_shift 344 = .ok (.iload 8, 2) := by decide +kernel
theorem dX12_shift_346 : decode cX12_shift 346 = .ok (.iadd, 1) := by decide +kernel
theorem dX12_shift_347 : decode cX12_shift 347 = .ok (.aload_n 0, 1) := by decide +kernel
theorem dX12_shift_348 : decode cX12_shift 348 = .ok (.getfield 26, 3) := by decide +kernel
theorem dX12_shift_351 : decode cX12_shift 351 = .ok (.iload 8, 2) := by decide +kernel
theorem dX12_shift_353 : decode cX12_shift 353 = .ok (.iaload, 1) := by decide +kernel
theorem dX12_shift_354 : decode cX12_shift 354 = .ok (.invokevirtual 199, 3) := by decide +kernel
theorem dX12_shift_357 : decode cX12_shift 357 = .ok (.iinc 8 1, 3) := by decide +kernel
theorem dX12_shift_360 : decode cX12_shift 360 = .ok (.goto (-26), 3) := by decide +kernel
theorem dX12_shift_363 : decode cX12_shift 363 = .ok (.iconst (-1), 1) := by decide +kernel
theorem dX12_shift_364 : decode cX12_shift 364 = .ok (.istore 8, 2) := by decide +kernel
theorem dX12_shift_366 : decode cX12_shift 366 = .ok (.iconst 0, 1) := by decide +kernel
theorem dX12_shift_367 : decode cX12_shift 367 = .ok (.istore 9, 2) := by decide +kernel
theorem dX12_shift_369 : decode cX12_shift 369 = .ok (.iload 9, 2) := by decide +kernel
theorem dX12_shift_371 : decode cX12_shift 371 = .ok (.iload 4, 2) := by decide +kernel
theorem dX12_shift_373 : decode cX12_shift 373 = .ok (.if_icmp .ge 25, 3) := by decide +kernel
theorem dX12_shift_376 : decode cX12_shift 376 = .ok (.iload 8, 2) := by decide +kernel
theorem dX12_shift_378 : decode cX12_shift 378 = .ok (.aload_n 0, 1) := by decide +kernel
theorem dX12_shift_379 : decode cX12_shift 379 = .ok (.iload_n 1, 1) := by decide +kernel
theorem dX12_shift_380 : decode cX12_shift 380 = .ok (.iload_n 3, 1) := by decide +kernel
theorem dX12_shift_381 : decode cX12_shift 381 = .ok (.iload 9, 2) := by decide +kernel
theorem dX12_shift_383 : decode cX12_shift 383 = .ok (.iadd, 1) := by decide +kernel
theorem dX12_shift_384 : decode cX12_shift 384 = .ok (.invokevirtual 203, 3) := by decide +kernel
theorem dX12_shift_387 : decode cX12_shift 387 = .ok (.invokestatic 134, 3) := by decide +kernel
theorem dX12_shift_390 : decode cX12_shift 390 = .ok (.istore 8, 2) := by decide +kernel
theorem dX12_shift_392 : decode cX12_shift 392 = .ok (.iinc 9 1, 3) := by decide +kernel
theorem dX12_shift_395 : decode cX12_shift 395 = .ok (.goto (-26), 3) := by decide +kernel
theorem dX12_shift_398 : decode cX12_shift 398 = .ok (.aload_n 0, 1) := by decide +kernel
theorem dX12_shift_399 : decode cX12_shift 399 = .ok (.iload 8, 2) := by decide +kernel
theorem dX12_shift_401 : decode cX12_shift 401 = .ok (.ifCond .lt 7, 3) := by decide +kernel
theorem dX12_shift_404 : decode cX12_shift 404 = .ok (.iconst 1, 1) := by decide +kernel
theorem dX12_shift_405 : decode cX12_shift 405 = .ok (.goto 4, 3) := by decide +kernel
theorem dX12_shift_408 : decode cX12_shift 408 = .ok (.iconst 0, 1) := by decide +kernel
theorem dX12_shift_409 : decode cX12_shift 409 = .ok (.bipush 13, 2) := by decide +kernel
theorem dX12_shift_411 : decode cX12_shift 411 = .ok (.invokevirtual 168, 3) := by decide +kernel
theorem dX12_shift_414 : decode cX12_shift 414 = .ok (.ifCond .eq 14, 3) := by decide +kernel
theorem dX12_shift_417 : decode cX12_shift 417 = .ok (.aload_n 0, 1) := by decide +kernel
theorem dX12_shift_418 : decode cX12_shift 418 = .ok (.iload 8, 2) := by decide +kernel
theorem dX12_shift_420 : decode cX12_shift 420 = .ok (.putfield 36, 3) := by decide +kernel
theorem dX12_shift_423 : decode cX12_shift 423 = .ok (.aload_n 0, 1) := by decide +kernel
theorem dX12_shift_424 : decode cX12_shift 424 = .ok (.invokevirtual 193, 3) := by decide +kernel
theorem dX12_shift_427 : decode cX12_shift 427 = .ok (.ireturn, 1) := by decide +kernel
theorem dX12_shift_428 : decode cX12_shift 428 = .ok (.aload_n 0, 1) := by decide +kernel
theorem dX12_shift_429 : decode cX12_shift 429 = .ok (.invokevirtual 190, 3) := by decide +kernel
theorem dX12_shift_432 : decode cX12_shift 432 = .ok (.istore 9, 2) := by decide +kernel
theorem dX12_shift_434 : decode cX12_shift 434 = .ok (.aload_n 0, 1) := by decide +kernel
theorem dX12_shift_435 : decode cX12_shift 435 = .ok (.iload 9, 2) := by decide +kernel
theorem dX12_shift_437 : decode cX12_shift 437 = .ok (.ifCond .lt 7, 3) := by decide +kernel
theorem dX12_shift_440 : decode cX12_shift 440 = .ok (.iconst 1, 1) := by decide +kernel
theorem dX12_shift_441 : decode cX12_shift 441 = .ok (.goto 4, 3) := by decide +kernel
theorem dX12_shift_444 : decode cX12_shift 444 = .ok (.iconst 0, 1) := by decide +kernel
theorem dX12_shift_445 : decode cX12_shift 445 = .ok (.bipush 14, 2) := by decide +kernel
theorem dX12_shift_447 : decode cX12_shift 447 = .ok (.invokevirtual 168, 3) := by decide +kernel
theorem dX12_shift_450 : decode cX12_shift 450 = .ok (.ifCond .eq 14, 3) := by decide +kernel
theorem dX12_shift_453 : decode cX12_shift 453 = .ok (.aload_n 0, 1) := by decide +kernel
theorem dX12_shift_454 : decode cX12_shift 454 = .ok (.iload 9, 2) := by decide +kernel
theorem dX12_shift_456 : decode cX12_shift 456 = .ok (.putfield 36, 3) := by decide +kernel
theorem dX12_shift_459 : decode cX12_shift 459 = .ok (.aload_n 0, 1) := by decide +kernel
theorem dX12_shift_460 : decode cX12_shift 460 = .ok (.invokevirtual 193, 3) := by decide +kernel
theorem dX12_shift_463 : decode cX12_shift 463 = .ok (.ireturn, 1) := by decide +kernel
theorem dX12_shift_464 : decode cX12_shift 464 = .ok (.aload_n 0, 1) := by decide +kernel
theorem dX12_shift_465 : decode cX12_shift 465 = .ok (.aload_n 0, 1) := by decide +kernel
theorem dX12_shift_466 : decode cX12_shift 466 = .ok (.iload_n 1, 1) := by decide +kernel
theorem dX12_shift_467 : decode cX12_shift 467 = .ok (.invokevirtual 153, 3) := by decide +kernel
theorem dX12_shift_470 : decode cX12_shift 470 = .ok (.ifCond .ne 7, 3) := by decide +kernel
theorem dX12_shift_473 : decode cX12_shift 473 = .ok (.iconst 1, 1) := by decide +kernel
theorem dX12_shift_474 : decode cX12_shift 474 = .ok (.goto 4, 3) := by decide +kernel
theorem dX12_shift_477 : decode cX12_shift 477 = .ok (.iconst 0, 1) := by decide +kernel
theorem dX12_shift_478 : decode cX12_shift 478 = .ok (.bipush 15, 2) := by decide +kernel
theorem dX12_shift_480 : decode cX12_shift 480 = .ok (.invokevirtual 168, 3) := by decide +kernel
theorem dX12_shift_483 : decode cX12_shift 483 = .ok (.ifCond .eq 13, 3) := by decide +kernel
theorem dX12_shift_486 : decode cX12_shift 486 = .ok (.aload_n 0, 1) := by decide +kernel
theorem dX12_shift_487 : decode cX12_shift 487 = .ok (.iload_n 1, 1) := by decide +kernel
theorem dX12_shift_488 : decode cX12_shift 488 = .ok (.putfield 36, 3) := by decide +kernel
theorem dX12_shift_491 : decode cX12_shift 491 = .ok (.aload_n 0, 1) := by decide +kernel
theorem dX12_shift_492 : decode cX12_shift 492 = .ok (.invokevirtual 193, 3) := by decide +kernel
theorem dX12_shift_495 : decode cX12_shift 495 = .ok (.ireturn, 1) := by decide +kernel
theorem dX12_shift_496 : decode cX12_shift 496 = .ok (.aload_n 0, 1) := by decide +kernel
theorem dX12_shift_497 : decode cX12_shift 497 = .ok (.iload 7, 2) := by decide +kernel
theorem dX12_shift_499 : decode cX12_shift 499 = .ok (.invokevirtual 176, 3) := by decide +kernel
theorem dX12_shift_502 : decode cX12_shift 502 = .ok (.ireturn, 1) := by decide +kernel
theorem w_X12_shift_j67 {z : (Int32 × VT)} {Γ : Gam} {cy : Nat → ClassId} {a : Nat → Nat} {V : VT} {X : va_W}  (C0 : CXg Γ cX12_shift 11 6 RX12 cy) (hD : DM Γ cy a X) (h : f_X12_shift_j67 V = some z) (hz : (fun y : Int32 × VT => FinI Γ cX12_shift (WM cy a y.2 X) y.1) z) : Wp Γ 0 0 67 [(0, .ref (a 0))] [] (WM cy a V X) := by
  unfold f_X12_shift_j67 at h
  refine r_aload_n C0 dX12_shift_67 rfl 0 rfl ?_
  refine callV0 C0 h (hD _) mw_X12_refused rv_m tm_X12_172 (fun y hy => c_X12_refused hy) (Nat.le_of_ble_eq_true rfl) (Nat.le_of_ble_eq_true rfl) dX12_shift_68 (fun r4 h => ?_)
  cases h
  exact hz _ _ dX12_shift_71
theorem w_X12_shift_j478 {z : (Int32 × VT)} {Γ : Gam} {cy : Nat → ClassId} {a : Nat → Nat} {V : VT} {X : va_W} {v1 : Int32} {v7 : Int32} {s1 : Int32}  (C0 : CXg Γ cX12_shift 11 6 RX12 cy) (hD : DM Γ cy a X) (h : f_X12_shift_j478 v1 v7 s1 V = some z) (hz : (fun y : Int32 × VT => FinI Γ cX12_shift (WM cy a y.2 X) y.1) z) : Wp Γ 0 0 478 [(0, .ref (a 0)), (1, .int v1), (7, .int v7)] [.int s1, .ref (a 0)] (WM cy a V X) := by
  unfold f_X12_shift_j478 at h
  refine r_bipush C0 dX12_shift_478 kb_15 ?_
  refine callV2 C0 h (hD _) mw_X12_is rv_m tm_X12_168 (fun y hy => c_X12_is hy) (Nat.le_of_ble_eq_true rfl) (Nat.le_of_ble_eq_true rfl) dX12_shift_480 (fun r26 h => ?_)
  refine r_if_eq C0 496 dX12_shift_483 rfl h (fun _ h => ?_) (fun _ h => ?_)
  · refine r_aload_n C0 dX12_shift_496 rfl 0 rfl ?_
    refine r_iload C0 dX12_shift_497 2 rfl ?_
    refine callV1 C0 h (hD _) mw_X12_keep rv_m tm_X12_176 (fun y hy => c_X12_keep hy) (Nat.le_of_ble_eq_true rfl) (Nat.le_of_ble_eq_true rfl) dX12_shift_499 (fun r27 h => ?_)
    cases h
    exact hz _ _ dX12_shift_502
  · refine r_aload_n C0 dX12_shift_486 rfl 0 rfl ?_
    refine r_iload_n C0 dX12_shift_487 rfl 1 rfl ?_
    refine wmp_0_8 C0 hD tf_X12_36 dX12_shift_488 ?_
    refine r_aload_n C0 dX12_shift_491 rfl 0 rfl ?_
    refine callV0 C0 h (hD _) mw_X12_takenBack rv_m tm_X12_193 (fun y hy => c_X12_takenBack hy) (Nat.le_of_ble_eq_true rfl) (Nat.le_of_ble_eq_true rfl) dX12_shift_492 (fun r28 h => ?_)
    cases h
    exact hz _ _ dX12_shift_495
theorem w_X12_shift_j445 {z : (Int32 × VT)} {Γ : Gam} {cy : Nat → ClassId} {a : Nat → Nat} {V : VT} {X : va_W} {v1 : Int32} {v7 : Int32} {v9 : Int32} {s1 : Int32}  (C0 : CXg Γ cX12_shift 11 6 RX12 cy) (hD : DM Γ cy a X) (h : f_X12_shift_j445 v1 v7 v9 s1 V = some z) (hz : (fun y : Int32 × VT => FinI Γ cX12_shift (WM cy a y.2 X) y.1) z) : Wp Γ 0 0 445 [(0, .ref (a 0)), (1, .int v1), (7, .int v7), (9, .int v9)] [.int s1, .ref (a 0)] (WM cy a V X) := by
  unfold f_X12_shift_j445 at h
  refine r_bipush C0 dX12_shift_445 kb_14 ?_
  refine callV2 C0 h (hD _) mw_X12_is rv_m tm_X12_168 (fun y hy => c_X12_is hy) (Nat.le_of_ble_eq_true rfl) (Nat.le_of_ble_eq_true rfl) dX12_shift_447 (fun r24 h => ?_)
  refine r_if_eq C0 464 dX12_shift_450 rfl h (fun _ h => ?_) (fun _ h => ?_)
  · refine r_aload_n C0 dX12_shift_464 rfl 0 rfl ?_
    refine r_aload_n C0 dX12_shift_465 rfl 0 rfl ?_
    refine r_iload_n C0 dX12_shift_466 rfl 1 rfl ?_
    refine callV1 C0 h (hD _) mw_X12_isHeld rv_m tm_X12_153 (fun y hy => c_X12_isHeld hy) (Nat.le_of_ble_eq_true rfl) (Nat.le_of_ble_eq_true rfl) dX12_shift_467 (fun r25 h => ?_)
    refine r_if_ne C0 477 dX12_shift_470 rfl h (fun _ h => ?_) (fun _ h => ?_)
    · refine r_iconst C0 dX12_shift_477 ki_0 ?_
      exact r_sub [0, 1, 2] rfl (w_X12_shift_j478 C0 hD h hz)
    · refine r_iconst C0 dX12_shift_473 ki_1 ?_
      refine r_goto C0 478 dX12_shift_474 rfl ?_
      exact r_sub [0, 1, 2] rfl (w_X12_shift_j478 C0 hD h hz)
  · refine r_aload_n C0 dX12_shift_453 rfl 0 rfl ?_
    refine r_iload C0 dX12_shift_454 3 rfl ?_
    refine wmp_0_8 C0 hD tf_X12_36 dX12_shift_456 ?_
    refine r_aload_n C0 dX12_shift_459 rfl 0 rfl ?_
    refine callV0 C0 h (hD _) mw_X12_takenBack rv_m tm_X12_193 (fun y hy => c_X12_takenBack hy) (Nat.le_of_ble_eq_true rfl) (Nat.le_of_ble_eq_true rfl) dX12_shift_460 (fun r29 h => ?_)
    cases h
    exact hz _ _ dX12_shift_463
theorem w_X12_shift_j409 {z : (Int32 × VT)} {Γ : Gam} {cy : Nat → ClassId} {a : Nat → Nat} {V : VT} {X : va_W} {v1 : Int32} {v7 : Int32} {v8 : Int32} {s1 : Int32}  (C0 : CXg Γ cX12_shift 11 6 RX12 cy) (hD : DM Γ cy a X) (h : f_X12_shift_j409 v1 v7 v8 s1 V = some z) (hz : (fun y : Int32 × VT => FinI Γ cX12_shift (WM cy a y.2 X) y.1) z) : Wp Γ 0 0 409 [(0, .ref (a 0)), (1, .int v1), (7, .int v7), (8, .int v8)] [.int s1, .ref (a 0)] (WM cy a V X) := by
  unfold f_X12_shift_j409 at h
  refine r_bipush C0 dX12_shift_409 kb_13 ?_
  refine callV2 C0 h (hD _) mw_X12_is rv_m tm_X12_168 (fun y hy => c_X12_is hy) (Nat.le_of_ble_eq_true rfl) (Nat.le_of_ble_eq_true rfl) dX12_shift_411 (fun r22 h => ?_)
  refine r_if_eq C0 428 dX12_shift_414 rfl h (fun _ h => ?_) (fun _ h => ?_)
  · refine r_aload_n C0 dX12_shift_428 rfl 0 rfl ?_
    refine callV0 C0 h (hD _) mw_X12_scorched rv_m tm_X12_190 (fun y hy => c_X12_scorched hy) (Nat.le_of_ble_eq_true rfl) (Nat.le_of_ble_eq_true rfl) dX12_shift_429 (fun r23 h => ?_)
    refine r_istore (lv2 := [(9, .int r23), (0, .ref (a 0)), (1, .int v1), (7, .int v7), (8, .int v8)]) C0 dX12_shift_432 rfl (Nat.le_of_ble_eq_true rfl) rfl ?_
    refine r_aload_n C0 dX12_shift_434 rfl 1 rfl ?_
    refine r_iload C0 dX12_shift_435 0 rfl ?_
    refine r_if_lt C0 444 dX12_shift_437 rfl h (fun _ h => ?_) (fun _ h => ?_)
    · refine r_iconst C0 dX12_shift_444 ki_0 ?_
      exact r_sub [1, 2, 3, 0] rfl (w_X12_shift_j445 C0 hD h hz)
    · refine r_iconst C0 dX12_shift_440 ki_1 ?_
      refine r_goto C0 445 dX12_shift_441 rfl ?_
      exact r_sub [1, 2, 3, 0] rfl (w_X12_shift_j445 C0 hD h hz)
  · refine r_aload_n C0 dX12_shift_417 rfl 0 rfl ?_
    refine r_iload C0 dX12_shift_418 3 rfl ?_
    refine wmp_0_8 C0 hD tf_X12_36 dX12_shift_420 ?_
    refine r_aload_n C0 dX12_shift_423 rfl 0 rfl ?_
    refine callV0 C0 h (hD _) mw_X12_takenBack rv_m tm_X12_193 (fun y hy => c_X12_takenBack hy) (Nat.le_of_ble_eq_true rfl) (Nat.le_of_ble_eq_true rfl) dX12_shift_424 (fun r30 h => ?_)
    cases h
    exact hz _ _ dX12_shift_427
theorem w_X12_shift_B369 {x : Int32 × Int32} {z : ((Int32 × Int32) ⊕ (Int32 × VT))} {Γ : Gam} {cy : Nat → ClassId} {a : Nat → Nat} {V : VT} {X : va_W} {v1 : Int32} {v3 : Int32} {v4 : Int32} {v7 : Int32}  (C0 : CXg Γ cX12_shift 11 6 RX12 cy) (hD : DM Γ cy a X) (h : f_X12_shift_B369 v1 v3 v4 v7 V x = some z) (hz : (Sum.elim (fun x : Int32 × Int32 => Wp Γ 0 0 369 [(0, .ref (a 0)), (1, .int v1), (3, .int v3), (4, .int v4), (7, .int v7), (8, .int x.1), (9, .int x.2)] [] (WM cy a V X)) (fun y : Int32 × VT => FinI Γ cX12_shift (WM cy a y.2 X) y.1)) z) : Wp Γ 0 0 369 [(0, .ref (a 0)), (1, .int v1), (3, .int v3), (4, .int v4), (7, .int v7), (8, .int x.1), (9, .int x.2)] [] (WM cy a V X) := by
  unfold f_X12_shift_B369 at h
  refine r_iload C0 dX12_shift_369 6 rfl ?_
  refine r_iload C0 dX12_shift_371 3 rfl ?_
  refine r_icmp_ge C0 398 dX12_shift_373 rfl h (fun _ h => ?_) (fun _ h => ?_)
  · obtain ⟨y21, h5, h9⟩ := op_bind h
    clear h
    cases h9
    have hz := (el_inr hz)
    have h := h5
    refine r_aload_n C0 dX12_shift_398 rfl 0 rfl ?_
    refine r_iload C0 dX12_shift_399 5 rfl ?_
    refine r_if_lt C0 408 dX12_shift_401 rfl h (fun _ h => ?_) (fun _ h => ?_)
    · refine r_iconst C0 dX12_shift_408 ki_0 ?_
      exact r_sub [0, 1, 4, 5] rfl (w_X12_shift_j409 C0 hD h hz)
    · refine r_iconst C0 dX12_shift_404 ki_1 ?_
      refine r_goto C0 409 dX12_shift_405 rfl ?_
      exact r_sub [0, 1, 4, 5] rfl (w_X12_shift_j409 C0 hD h hz)
  · refine r_iload C0 dX12_shift_376 5 rfl ?_
    refine r_aload_n C0 dX12_shift_378 rfl 0 rfl ?_
    refine r_iload_n C0 dX12_shift_379 rfl 1 rfl ?_
    refine r_iload_n C0 dX12_shift_380 rfl 2 rfl ?_
    refine r_iload C0 dX12_shift_381 6 rfl ?_
    refine r_iadd C0 dX12_shift_383 ?_
    refine callV2 C0 h (hD _) mw_X12_clashing rv_m tm_X12_203 (fun y hy => c_X12_clashing hy) (Nat.le_of_ble_eq_true rfl) (Nat.le_of_ble_eq_true rfl) dX12_shift_384 (fun r31 h => ?_)
    refine callS2 C0 h (hD _) ms_X12_lesser tm_X12_134 (fun y hy => c_X12_lesser hy) (Nat.le_of_ble_eq_true rfl) (Nat.le_of_ble_eq_true rfl) dX12_shift_387 (fun r32 h => ?_)
    refine r_istore (lv2 := [(8, .int r32), (0, .ref (a 0)), (1, .int v1), (3, .int v3), (4, .int v4), (7, .int v7), (9, .int x.2)]) C0 dX12_shift_390 rfl (Nat.le_of_ble_eq_true rfl) rfl ?_
    obtain ⟨a33, h8, h⟩ := op_bind h
    have e8 := Option.some.inj h8
    refine r_iinc (lv2 := [(9, .int a33), (8, .int r32), (0, .ref (a 0)), (1, .int v1), (3, .int v3), (4, .int v4), (7, .int v7)]) C0 dX12_shift_392 6 rfl ki_1 e8 (Nat.le_of_ble_eq_true rfl) rfl ?_
    refine r_goto C0 369 dX12_shift_395 rfl ?_
    cases h
    have hz := el_inl hz
    exact r_sub [2, 3, 4, 5, 6, 1, 0] rfl hz
theorem w_X12_shift_B369_lp {x : Int32 × Int32} {z : (Int32 × VT)} {Γ : Gam} {cy : Nat → ClassId} {a : Nat → Nat} {V : VT} {X : va_W} {v1 : Int32} {v3 : Int32} {v4 : Int32} {v7 : Int32}  (C0 : CXg Γ cX12_shift 11 6 RX12 cy) (hD : DM Γ cy a X) (h : lp (f_X12_shift_B369 v1 v3 v4 v7 V) fuel x = some z) (hz : (fun y : Int32 × VT => FinI Γ cX12_shift (WM cy a y.2 X) y.1) z) : Wp Γ 0 0 369 [(0, .ref (a 0)), (1, .int v1), (3, .int v3), (4, .int v4), (7, .int v7), (8, .int x.1), (9, .int x.2)] [] (WM cy a V X) :=
  lp_rule (hd := (fun x : Int32 × Int32 => Wp Γ 0 0 369 [(0, .ref (a 0)), (1, .int v1), (3, .int v3), (4, .int v4), (7, .int v7), (8, .int x.1), (9, .int x.2)] [] (WM cy a V X))) (C := (fun y : Int32 × VT => FinI Γ cX12_shift (WM cy a y.2 X) y.1)) (fun x z h hz => w_X12_shift_B369 C0 hD h hz) _ _ _ h hz
theorem w_X12_shift_B334 {x : Int32 × VT} {z : ((Int32 × VT) ⊕ (Int32 × VT))} {Γ : Gam} {cy : Nat → ClassId} {a : Nat → Nat} {X : va_W} {v1 : Int32} {v3 : Int32} {v4 : Int32} {v7 : Int32}  (C0 : CXg Γ cX12_shift 11 6 RX12 cy) (hD : DM Γ cy a X) (h : f_X12_shift_B334 v1 v3 v4 v7 x = some z) (hz : (Sum.elim (fun x : Int32 × VT => Wp Γ 0 0 334 [(0, .ref (a 0)), (1, .int v1), (3, .int v3), (4, .int v4), (7, .int v7), (8, .int x.1)] [] (WM cy a x.2 X)) (fun y : Int32 × VT => FinI Γ cX12_shift (WM cy a y.2 X) y.1)) z) : Wp Γ 0 0 334 [(0, .ref (a 0)), (1, .int v1), (3, .int v3), (4, .int v4), (7, .int v7), (8, .int x.1)] [] (WM cy a x.2 X) := by
  unfold f_X12_shift_B334 at h
  refine r_iload C0 dX12_shift_334 5 rfl ?_
  refine r_iload C0 dX12_shift_336 3 rfl ?_
  refine r_icmp_ge C0 363 dX12_shift_338 rfl h (fun _ h => ?_) (fun _ h => ?_)
  · obtain ⟨y18, h5, h9⟩ := op_bind h
    clear h
    cases h9
    have hz := (el_inr hz)
    have h := h5
    refine r_iconst C0 dX12_shift_363 ki_m1 ?_
    obtain ⟨a19, h8, h⟩ := op_bind h
    have e8 := Option.some.inj h8
    refine r_istore (lv2 := [(8, .int a19), (0, .ref (a 0)), (1, .int v1), (3, .int v3), (4, .int v4), (7, .int v7)]) C0 dX12_shift_364 e8 (Nat.le_of_ble_eq_true rfl) rfl ?_
    refine r_iconst C0 dX12_shift_366 ki_0 ?_
    obtain ⟨a20, h8, h⟩ := op_bind h
    have e8 := Option.some.inj h8
    refine r_istore (lv2 := [(9, .int a20), (8, .int a19), (0, .ref (a 0)), (1, .int v1), (3, .int v3), (4, .int v4), (7, .int v7)]) C0 dX12_shift_367 e8 (Nat.le_of_ble_eq_true rfl) rfl ?_
    exact r_sub [2, 3, 4, 5, 6, 1, 0] rfl (w_X12_shift_B369_lp C0 hD h hz)
  · refine r_aload_n C0 dX12_shift_341 rfl 0 rfl ?_
    refine r_iload_n C0 dX12_shift_342 rfl 1 rfl ?_
    refine r_iload_n C0 dX12_shift_343 rfl 2 rfl ?_
    refine r_iload C0 dX12_shift_344 5 rfl ?_
    refine r_iadd C0 dX12_shift_346 ?_
    refine r_aload_n C0 dX12_shift_347 rfl 0 rfl ?_
    refine wmg_0_10 C0 tf_X12_26 dX12_shift_348 ?_
    refine r_iload C0 dX12_shift_351 5 rfl ?_
    refine wmal_6 C0 h dX12_shift_353 (fun k34 h => ?_)
    refine callVv3 C0 h (hD _) mw_X12_put rv_m tm_X12_199 (fun y hy => c_X12_put hy) (Nat.le_of_ble_eq_true rfl) (Nat.le_of_ble_eq_true rfl) dX12_shift_354 (fun r35 h => ?_)
    obtain ⟨a36, h8, h⟩ := op_bind h
    have e8 := Option.some.inj h8
    refine r_iinc (lv2 := [(8, .int a36), (0, .ref (a 0)), (1, .int v1), (3, .int v3), (4, .int v4), (7, .int v7)]) C0 dX12_shift_357 5 rfl ki_1 e8 (Nat.le_of_ble_eq_true rfl) rfl ?_
    refine r_goto C0 334 dX12_shift_360 rfl ?_
    cases h
    have hz := el_inl hz
    exact r_sub [1, 2, 3, 4, 5, 0] rfl hz
theorem w_X12_shift_B334_lp {x : Int32 × VT} {z : (Int32 × VT)} {Γ : Gam} {cy : Nat → ClassId} {a : Nat → Nat} {X : va_W} {v1 : Int32} {v3 : Int32} {v4 : Int32} {v7 : Int32}  (C0 : CXg Γ cX12_shift 11 6 RX12 cy) (hD : DM Γ cy a X) (h : lp (f_X12_shift_B334 v1 v3 v4 v7) fuel x = some z) (hz : (fun y : Int32 × VT => FinI Γ cX12_shift (WM cy a y.2 X) y.1) z) : Wp Γ 0 0 334 [(0, .ref (a 0)), (1, .int v1), (3, .int v3), (4, .int v4), (7, .int v7), (8, .int x.1)] [] (WM cy a x.2 X) :=
  lp_rule (hd := (fun x : Int32 × VT => Wp Γ 0 0 334 [(0, .ref (a 0)), (1, .int v1), (3, .int v3), (4, .int v4), (7, .int v7), (8, .int x.1)] [] (WM cy a x.2 X))) (C := (fun y : Int32 × VT => FinI Γ cX12_shift (WM cy a y.2 X) y.1)) (fun x z h hz => w_X12_shift_B334 C0 hD h hz) _ _ _ h hz
theorem w_X12_shift_B308 {x : Int32 × VT} {z : ((Int32 × VT) ⊕ (Int32 × VT))} {Γ : Gam} {cy : Nat → ClassId} {a : Nat → Nat} {X : va_W} {v1 : Int32} {v2 : Int32} {v3 : Int32} {v4 : Int32} {v7 : Int32}  (C0 : CXg Γ cX12_shift 11 6 RX12 cy) (hD : DM Γ cy a X) (h : f_X12_shift_B308 v1 v2 v3 v4 v7 x = some z) (hz : (Sum.elim (fun x : Int32 × VT => Wp Γ 0 0 308 [(0, .ref (a 0)), (1, .int v1), (2, .int v2), (3, .int v3), (4, .int v4), (7, .int v7), (8, .int x.1)] [] (WM cy a x.2 X)) (fun y : Int32 × VT => FinI Γ cX12_shift (WM cy a y.2 X) y.1)) z) : Wp Γ 0 0 308 [(0, .ref (a 0)), (1, .int v1), (2, .int v2), (3, .int v3), (4, .int v4), (7, .int v7), (8, .int x.1)] [] (WM cy a x.2 X) := by
  unfold f_X12_shift_B308 at h
  refine r_iload C0 dX12_shift_308 6 rfl ?_
  refine r_iload C0 dX12_shift_310 4 rfl ?_
  refine r_icmp_ge C0 331 dX12_shift_312 rfl h (fun _ h => ?_) (fun _ h => ?_)
  · obtain ⟨y16, h5, h9⟩ := op_bind h
    clear h
    cases h9
    have hz := (el_inr hz)
    have h := h5
    refine r_iconst C0 dX12_shift_331 ki_0 ?_
    obtain ⟨a17, h8, h⟩ := op_bind h
    have e8 := Option.some.inj h8
    refine r_istore (lv2 := [(8, .int a17), (0, .ref (a 0)), (1, .int v1), (2, .int v2), (3, .int v3), (4, .int v4), (7, .int v7)]) C0 dX12_shift_332 e8 (Nat.le_of_ble_eq_true rfl) rfl ?_
    exact r_sub [1, 2, 4, 5, 6, 0] rfl (w_X12_shift_B334_lp C0 hD h hz)
  · refine r_aload_n C0 dX12_shift_315 rfl 0 rfl ?_
    refine r_iload_n C0 dX12_shift_316 rfl 1 rfl ?_
    refine r_iload_n C0 dX12_shift_317 rfl 2 rfl ?_
    refine r_iload C0 dX12_shift_318 6 rfl ?_
    refine r_iadd C0 dX12_shift_320 ?_
    refine r_iconst C0 dX12_shift_321 ki_0 ?_
    refine callVv3 C0 h (hD _) mw_X12_put rv_m tm_X12_199 (fun y hy => c_X12_put hy) (Nat.le_of_ble_eq_true rfl) (Nat.le_of_ble_eq_true rfl) dX12_shift_322 (fun r37 h => ?_)
    obtain ⟨a38, h8, h⟩ := op_bind h
    have e8 := Option.some.inj h8
    refine r_iinc (lv2 := [(8, .int a38), (0, .ref (a 0)), (1, .int v1), (2, .int v2), (3, .int v3), (4, .int v4), (7, .int v7)]) C0 dX12_shift_325 6 rfl ki_1 e8 (Nat.le_of_ble_eq_true rfl) rfl ?_
    refine r_goto C0 308 dX12_shift_328 rfl ?_
    cases h
    have hz := el_inl hz
    exact r_sub [1, 2, 3, 4, 5, 6, 0] rfl hz
theorem w_X12_shift_B308_lp {x : Int32 × VT} {z : (Int32 × VT)} {Γ : Gam} {cy : Nat → ClassId} {a : Nat → Nat} {X : va_W} {v1 : Int32} {v2 : Int32} {v3 : Int32} {v4 : Int32} {v7 : Int32}  (C0 : CXg Γ cX12_shift 11 6 RX12 cy) (hD : DM Γ cy a X) (h : lp (f_X12_shift_B308 v1 v2 v3 v4 v7) fuel x = some z) (hz : (fun y : Int32 × VT => FinI Γ cX12_shift (WM cy a y.2 X) y.1) z) : Wp Γ 0 0 308 [(0, .ref (a 0)), (1, .int v1), (2, .int v2), (3, .int v3), (4, .int v4), (7, .int v7), (8, .int x.1)] [] (WM cy a x.2 X) :=
  lp_rule (hd := (fun x : Int32 × VT => Wp Γ 0 0 308 [(0, .ref (a 0)), (1, .int v1), (2, .int v2), (3, .int v3), (4, .int v4), (7, .int v7), (8, .int x.1)] [] (WM cy a x.2 X))) (C := (fun y : Int32 × VT => FinI Γ cX12_shift (WM cy a y.2 X) y.1)) (fun x z h hz => w_X12_shift_B308 C0 hD h hz) _ _ _ h hz
theorem w_X12_shift_j281 {z : ((Int32 × Int32 × Int32 × VT) ⊕ (Int32 × VT))} {Γ : Gam} {cy : Nat → ClassId} {a : Nat → Nat} {V : VT} {X : va_W} {v1 : Int32} {v2 : Int32} {v3 : Int32} {v4 : Int32} {v7 : Int32} {v8 : Int32} {s0 : Int32}  (C0 : CXg Γ cX12_shift 11 6 RX12 cy) (hD : DM Γ cy a X) (h : f_X12_shift_j281 v1 v2 v3 v4 v7 v8 s0 V = some z) (hz : (Sum.elim (fun x : Int32 × Int32 × Int32 × VT => Wp Γ 0 0 148 [(0, .ref (a 0)), (1, .int v1), (2, .int v2), (3, .int v3), (4, .int v4), (6, .int x.1), (7, .int x.2.1), (8, .int x.2.2.1)] [] (WM cy a x.2.2.2 X)) (fun y : Int32 × VT => FinI Γ cX12_shift (WM cy a y.2 X) y.1)) z) : Wp Γ 0 0 281 [(0, .ref (a 0)), (1, .int v1), (2, .int v2), (3, .int v3), (4, .int v4), (7, .int v7), (8, .int v8)] [.int s0] (WM cy a V X) := by
  unfold f_X12_shift_j281 at h
  refine r_istore (lv2 := [(6, .int s0), (0, .ref (a 0)), (1, .int v1), (2, .int v2), (3, .int v3), (4, .int v4), (7, .int v7), (8, .int v8)]) C0 dX12_shift_281 rfl (Nat.le_of_ble_eq_true rfl) rfl ?_
  obtain ⟨a43, h8, h⟩ := op_bind h
  have e8 := Option.some.inj h8
  refine r_iinc (lv2 := [(8, .int a43), (6, .int s0), (0, .ref (a 0)), (1, .int v1), (2, .int v2), (3, .int v3), (4, .int v4), (7, .int v7)]) C0 dX12_shift_283 7 rfl ki_1 e8 (Nat.le_of_ble_eq_true rfl) rfl ?_
  refine r_goto C0 148 dX12_shift_286 rfl ?_
  cases h
  have hz := el_inl hz
  exact r_sub [2, 3, 4, 5, 6, 1, 7, 0] rfl hz
theorem w_X12_shift_j276 {z : ((Int32 × Int32 × Int32 × VT) ⊕ (Int32 × VT))} {Γ : Gam} {cy : Nat → ClassId} {a : Nat → Nat} {V : VT} {X : va_W} {v1 : Int32} {v2 : Int32} {v3 : Int32} {v4 : Int32} {v7 : Int32} {v8 : Int32}  (C0 : CXg Γ cX12_shift 11 6 RX12 cy) (hD : DM Γ cy a X) (h : f_X12_shift_j276 v1 v2 v3 v4 v7 v8 V = some z) (hz : (Sum.elim (fun x : Int32 × Int32 × Int32 × VT => Wp Γ 0 0 148 [(0, .ref (a 0)), (1, .int v1), (2, .int v2), (3, .int v3), (4, .int v4), (6, .int x.1), (7, .int x.2.1), (8, .int x.2.2.1)] [] (WM cy a x.2.2.2 X)) (fun y : Int32 × VT => FinI Γ cX12_shift (WM cy a y.2 X) y.1)) z) : Wp Γ 0 0 276 [(0, .ref (a 0)), (1, .int v1), (2, .int v2), (3, .int v3), (4, .int v4), (7, .int v7), (8, .int v8)] [] (WM cy a V X) := by
  unfold f_X12_shift_j276 at h
  refine r_iconst C0 dX12_shift_276 ki_1 ?_
  refine r_goto C0 281 dX12_shift_277 rfl ?_
  exact r_sub [0, 1, 2, 3, 4, 5, 6] rfl (w_X12_shift_j281 C0 hD h hz)
theorem w_X12_shift_j280 {z : ((Int32 × Int32 × Int32 × VT) ⊕ (Int32 × VT))} {Γ : Gam} {cy : Nat → ClassId} {a : Nat → Nat} {V : VT} {X : va_W} {v1 : Int32} {v2 : Int32} {v3 : Int32} {v4 : Int32} {v7 : Int32} {v8 : Int32}  (C0 : CXg Γ cX12_shift 11 6 RX12 cy) (hD : DM Γ cy a X) (h : f_X12_shift_j280 v1 v2 v3 v4 v7 v8 V = some z) (hz : (Sum.elim (fun x : Int32 × Int32 × Int32 × VT => Wp Γ 0 0 148 [(0, .ref (a 0)), (1, .int v1), (2, .int v2), (3, .int v3), (4, .int v4), (6, .int x.1), (7, .int x.2.1), (8, .int x.2.2.1)] [] (WM cy a x.2.2.2 X)) (fun y : Int32 × VT => FinI Γ cX12_shift (WM cy a y.2 X) y.1)) z) : Wp Γ 0 0 280 [(0, .ref (a 0)), (1, .int v1), (2, .int v2), (3, .int v3), (4, .int v4), (7, .int v7), (8, .int v8)] [] (WM cy a V X) := by
  unfold f_X12_shift_j280 at h
  refine r_iconst C0 dX12_shift_280 ki_0 ?_
  exact r_sub [0, 1, 2, 3, 4, 5, 6] rfl (w_X12_shift_j281 C0 hD h hz)
theorem w_X12_shift_j252 {z : ((Int32 × Int32 × Int32 × VT) ⊕ (Int32 × VT))} {Γ : Gam} {cy : Nat → ClassId} {a : Nat → Nat} {V : VT} {X : va_W} {v1 : Int32} {v2 : Int32} {v3 : Int32} {v4 : Int32} {v6 : Int32} {v7 : Int32} {v8 : Int32} {s0 : Int32}  (C0 : CXg Γ cX12_shift 11 6 RX12 cy) (hD : DM Γ cy a X) (h : f_X12_shift_j252 v1 v2 v3 v4 v6 v7 v8 s0 V = some z) (hz : (Sum.elim (fun x : Int32 × Int32 × Int32 × VT => Wp Γ 0 0 148 [(0, .ref (a 0)), (1, .int v1), (2, .int v2), (3, .int v3), (4, .int v4), (6, .int x.1), (7, .int x.2.1), (8, .int x.2.2.1)] [] (WM cy a x.2.2.2 X)) (fun y : Int32 × VT => FinI Γ cX12_shift (WM cy a y.2 X) y.1)) z) : Wp Γ 0 0 252 [(0, .ref (a 0)), (1, .int v1), (2, .int v2), (3, .int v3), (4, .int v4), (6, .int v6), (7, .int v7), (8, .int v8)] [.int s0] (WM cy a V X) := by
  unfold f_X12_shift_j252 at h
  refine r_istore (lv2 := [(10, .int s0), (0, .ref (a 0)), (1, .int v1), (2, .int v2), (3, .int v3), (4, .int v4), (6, .int v6), (7, .int v7), (8, .int v8)]) C0 dX12_shift_252 rfl (Nat.le_of_ble_eq_true rfl) rfl ?_
  refine r_iload C0 dX12_shift_254 6 rfl ?_
  refine r_if_ne C0 276 dX12_shift_256 rfl h (fun _ h => ?_) (fun _ h => ?_)
  · exact r_sub [1, 2, 3, 4, 5, 7, 8] rfl (w_X12_shift_j276 C0 hD h hz)
  · refine r_iload C0 dX12_shift_259 0 rfl ?_
    refine r_if_ne C0 280 dX12_shift_261 rfl h (fun _ h => ?_) (fun _ h => ?_)
    · exact r_sub [1, 2, 3, 4, 5, 7, 8] rfl (w_X12_shift_j280 C0 hD h hz)
    · refine r_aload_n C0 dX12_shift_264 rfl 1 rfl ?_
      refine r_iload_n C0 dX12_shift_265 rfl 2 rfl ?_
      refine r_iload_n C0 dX12_shift_266 rfl 4 rfl ?_
      refine r_iload C0 dX12_shift_267 8 rfl ?_
      refine r_iadd C0 dX12_shift_269 ?_
      refine callV2 C0 h (hD _) mw_X12_held rv_m tm_X12_72 (fun y hy => c_X12_held hy) (Nat.le_of_ble_eq_true rfl) (Nat.le_of_ble_eq_true rfl) dX12_shift_270 (fun r44 h => ?_)
      refine r_if_eq C0 280 dX12_shift_273 rfl h (fun _ h => ?_) (fun _ h => ?_)
      · exact r_sub [1, 2, 3, 4, 5, 7, 8] rfl (w_X12_shift_j280 C0 hD h hz)
      · exact r_sub [1, 2, 3, 4, 5, 7, 8] rfl (w_X12_shift_j276 C0 hD h hz)
theorem w_X12_shift_j251 {z : ((Int32 × Int32 × Int32 × VT) ⊕ (Int32 × VT))} {Γ : Gam} {cy : Nat → ClassId} {a : Nat → Nat} {V : VT} {X : va_W} {v1 : Int32} {v2 : Int32} {v3 : Int32} {v4 : Int32} {v6 : Int32} {v7 : Int32} {v8 : Int32}  (C0 : CXg Γ cX12_shift 11 6 RX12 cy) (hD : DM Γ cy a X) (h : f_X12_shift_j251 v1 v2 v3 v4 v6 v7 v8 V = some z) (hz : (Sum.elim (fun x : Int32 × Int32 × Int32 × VT => Wp Γ 0 0 148 [(0, .ref (a 0)), (1, .int v1), (2, .int v2), (3, .int v3), (4, .int v4), (6, .int x.1), (7, .int x.2.1), (8, .int x.2.2.1)] [] (WM cy a x.2.2.2 X)) (fun y : Int32 × VT => FinI Γ cX12_shift (WM cy a y.2 X) y.1)) z) : Wp Γ 0 0 251 [(0, .ref (a 0)), (1, .int v1), (2, .int v2), (3, .int v3), (4, .int v4), (6, .int v6), (7, .int v7), (8, .int v8)] [] (WM cy a V X) := by
  unfold f_X12_shift_j251 at h
  refine r_iconst C0 dX12_shift_251 ki_0 ?_
  exact r_sub [0, 1, 2, 3, 4, 5, 6, 7] rfl (w_X12_shift_j252 C0 hD h hz)
theorem w_X12_shift_j226 {z : ((Int32 × Int32 × Int32 × VT) ⊕ (Int32 × VT))} {Γ : Gam} {cy : Nat → ClassId} {a : Nat → Nat} {V : VT} {X : va_W} {v1 : Int32} {v2 : Int32} {v3 : Int32} {v4 : Int32} {v7 : Int32} {v8 : Int32} {s0 : Int32}  (C0 : CXg Γ cX12_shift 11 6 RX12 cy) (hD : DM Γ cy a X) (h : f_X12_shift_j226 v1 v2 v3 v4 v7 v8 s0 V = some z) (hz : (Sum.elim (fun x : Int32 × Int32 × Int32 × VT => Wp Γ 0 0 148 [(0, .ref (a 0)), (1, .int v1), (2, .int v2), (3, .int v3), (4, .int v4), (6, .int x.1), (7, .int x.2.1), (8, .int x.2.2.1)] [] (WM cy a x.2.2.2 X)) (fun y : Int32 × VT => FinI Γ cX12_shift (WM cy a y.2 X) y.1)) z) : Wp Γ 0 0 226 [(0, .ref (a 0)), (1, .int v1), (2, .int v2), (3, .int v3), (4, .int v4), (7, .int v7), (8, .int v8)] [.int s0] (WM cy a V X) := by
  unfold f_X12_shift_j226 at h
  refine r_istore (lv2 := [(6, .int s0), (0, .ref (a 0)), (1, .int v1), (2, .int v2), (3, .int v3), (4, .int v4), (7, .int v7), (8, .int v8)]) C0 dX12_shift_226 rfl (Nat.le_of_ble_eq_true rfl) rfl ?_
  refine r_iload_n C0 dX12_shift_228 rfl 4 rfl ?_
  refine r_iload C0 dX12_shift_229 7 rfl ?_
  refine r_iadd C0 dX12_shift_231 ?_
  refine r_iload_n C0 dX12_shift_232 rfl 3 rfl ?_
  refine r_icmp_lt C0 251 dX12_shift_233 rfl h (fun _ h => ?_) (fun _ h => ?_)
  · exact r_sub [1, 2, 3, 4, 5, 0, 6, 7] rfl (w_X12_shift_j251 C0 hD h hz)
  · refine r_iload_n C0 dX12_shift_236 rfl 4 rfl ?_
    refine r_iload C0 dX12_shift_237 7 rfl ?_
    refine r_iadd C0 dX12_shift_239 ?_
    refine r_iload_n C0 dX12_shift_240 rfl 3 rfl ?_
    refine r_iload C0 dX12_shift_241 5 rfl ?_
    refine r_iadd C0 dX12_shift_243 ?_
    refine r_icmp_ge C0 251 dX12_shift_244 rfl h (fun _ h => ?_) (fun _ h => ?_)
    · exact r_sub [1, 2, 3, 4, 5, 0, 6, 7] rfl (w_X12_shift_j251 C0 hD h hz)
    · refine r_iconst C0 dX12_shift_247 ki_1 ?_
      refine r_goto C0 252 dX12_shift_248 rfl ?_
      exact r_sub [1, 2, 3, 4, 5, 0, 6, 7] rfl (w_X12_shift_j252 C0 hD h hz)
theorem w_X12_shift_j221 {z : ((Int32 × Int32 × Int32 × VT) ⊕ (Int32 × VT))} {Γ : Gam} {cy : Nat → ClassId} {a : Nat → Nat} {V : VT} {X : va_W} {v1 : Int32} {v2 : Int32} {v3 : Int32} {v4 : Int32} {v7 : Int32} {v8 : Int32}  (C0 : CXg Γ cX12_shift 11 6 RX12 cy) (hD : DM Γ cy a X) (h : f_X12_shift_j221 v1 v2 v3 v4 v7 v8 V = some z) (hz : (Sum.elim (fun x : Int32 × Int32 × Int32 × VT => Wp Γ 0 0 148 [(0, .ref (a 0)), (1, .int v1), (2, .int v2), (3, .int v3), (4, .int v4), (6, .int x.1), (7, .int x.2.1), (8, .int x.2.2.1)] [] (WM cy a x.2.2.2 X)) (fun y : Int32 × VT => FinI Γ cX12_shift (WM cy a y.2 X) y.1)) z) : Wp Γ 0 0 221 [(0, .ref (a 0)), (1, .int v1), (2, .int v2), (3, .int v3), (4, .int v4), (7, .int v7), (8, .int v8)] [] (WM cy a V X) := by
  unfold f_X12_shift_j221 at h
  refine r_iconst C0 dX12_shift_221 ki_1 ?_
  refine r_goto C0 226 dX12_shift_222 rfl ?_
  exact r_sub [0, 1, 2, 3, 4, 5, 6] rfl (w_X12_shift_j226 C0 hD h hz)
theorem w_X12_shift_j225 {z : ((Int32 × Int32 × Int32 × VT) ⊕ (Int32 × VT))} {Γ : Gam} {cy : Nat → ClassId} {a : Nat → Nat} {V : VT} {X : va_W} {v1 : Int32} {v2 : Int32} {v3 : Int32} {v4 : Int32} {v7 : Int32} {v8 : Int32}  (C0 : CXg Γ cX12_shift 11 6 RX12 cy) (hD : DM Γ cy a X) (h : f_X12_shift_j225 v1 v2 v3 v4 v7 v8 V = some z) (hz : (Sum.elim (fun x : Int32 × Int32 × Int32 × VT => Wp Γ 0 0 148 [(0, .ref (a 0)), (1, .int v1), (2, .int v2), (3, .int v3), (4, .int v4), (6, .int x.1), (7, .int x.2.1), (8, .int x.2.2.1)] [] (WM cy a x.2.2.2 X)) (fun y : Int32 × VT => FinI Γ cX12_shift (WM cy a y.2 X) y.1)) z) : Wp Γ 0 0 225 [(0, .ref (a 0)), (1, .int v1), (2, .int v2), (3, .int v3), (4, .int v4), (7, .int v7), (8, .int v8)] [] (WM cy a V X) := by
  unfold f_X12_shift_j225 at h
  refine r_iconst C0 dX12_shift_225 ki_0 ?_
  exact r_sub [0, 1, 2, 3, 4, 5, 6] rfl (w_X12_shift_j226 C0 hD h hz)
theorem w_X12_shift_j188 {z : ((Int32 × Int32 × Int32 × VT) ⊕ (Int32 × VT))} {Γ : Gam} {cy : Nat → ClassId} {a : Nat → Nat} {V : VT} {X : va_W} {v1 : Int32} {v2 : Int32} {v3 : Int32} {v4 : Int32} {v6 : Int32} {v8 : Int32} {v9 : Int32} {s0 : Int32} {s1 : Int32}  (C0 : CXg Γ cX12_shift 11 6 RX12 cy) (hD : DM Γ cy a X) (h : f_X12_shift_j188 v1 v2 v3 v4 v6 v8 v9 s0 s1 V = some z) (hz : (Sum.elim (fun x : Int32 × Int32 × Int32 × VT => Wp Γ 0 0 148 [(0, .ref (a 0)), (1, .int v1), (2, .int v2), (3, .int v3), (4, .int v4), (6, .int x.1), (7, .int x.2.1), (8, .int x.2.2.1)] [] (WM cy a x.2.2.2 X)) (fun y : Int32 × VT => FinI Γ cX12_shift (WM cy a y.2 X) y.1)) z) : Wp Γ 0 0 188 [(0, .ref (a 0)), (1, .int v1), (2, .int v2), (3, .int v3), (4, .int v4), (6, .int v6), (8, .int v8), (9, .int v9)] [.int s1, .int s0] (WM cy a V X) := by
  unfold f_X12_shift_j188 at h
  refine r_iadd C0 dX12_shift_188 ?_
  obtain ⟨a42, h8, h⟩ := op_bind h
  have e8 := Option.some.inj h8
  refine r_istore (lv2 := [(7, .int a42), (0, .ref (a 0)), (1, .int v1), (2, .int v2), (3, .int v3), (4, .int v4), (6, .int v6), (8, .int v8), (9, .int v9)]) C0 dX12_shift_189 e8 (Nat.le_of_ble_eq_true rfl) rfl ?_
  refine r_iload C0 dX12_shift_191 6 rfl ?_
  refine r_if_ne C0 221 dX12_shift_193 rfl h (fun _ h => ?_) (fun _ h => ?_)
  · exact r_sub [1, 2, 3, 4, 5, 0, 7] rfl (w_X12_shift_j221 C0 hD h hz)
  · refine r_iload C0 dX12_shift_196 8 rfl ?_
    refine r_iconst C0 dX12_shift_198 ki_1 ?_
    refine r_icmp_eq C0 221 dX12_shift_199 rfl h (fun _ h => ?_) (fun _ h => ?_)
    · exact r_sub [1, 2, 3, 4, 5, 0, 7] rfl (w_X12_shift_j221 C0 hD h hz)
    · refine r_iload C0 dX12_shift_202 8 rfl ?_
      refine r_iconst C0 dX12_shift_204 ki_2 ?_
      refine r_icmp_lt C0 225 dX12_shift_205 rfl h (fun _ h => ?_) (fun _ h => ?_)
      · exact r_sub [1, 2, 3, 4, 5, 0, 7] rfl (w_X12_shift_j225 C0 hD h hz)
      · refine r_aload_n C0 dX12_shift_208 rfl 1 rfl ?_
        refine r_iload C0 dX12_shift_209 8 rfl ?_
        refine r_iconst C0 dX12_shift_211 ki_2 ?_
        refine r_isub C0 dX12_shift_212 ?_
        refine r_iconst C0 dX12_shift_213 ki_0 ?_
        refine callV2 C0 h (hD _) mw_X12_thingIs rv_m tm_X12_75 (fun y hy => c_X12_thingIs hy) (Nat.le_of_ble_eq_true rfl) (Nat.le_of_ble_eq_true rfl) dX12_shift_214 (fun r45 h => ?_)
        refine r_iconst C0 dX12_shift_217 ki_4 ?_
        refine r_icmp_ne C0 225 dX12_shift_218 rfl h (fun _ h => ?_) (fun _ h => ?_)
        · exact r_sub [1, 2, 3, 4, 5, 0, 7] rfl (w_X12_shift_j225 C0 hD h hz)
        · exact r_sub [1, 2, 3, 4, 5, 0, 7] rfl (w_X12_shift_j221 C0 hD h hz)
theorem w_X12_shift_B148 {x : Int32 × Int32 × Int32 × VT} {z : ((Int32 × Int32 × Int32 × VT) ⊕ (Int32 × VT))} {Γ : Gam} {cy : Nat → ClassId} {a : Nat → Nat} {X : va_W} {v1 : Int32} {v2 : Int32} {v3 : Int32} {v4 : Int32}  (C0 : CXg Γ cX12_shift 11 6 RX12 cy) (hD : DM Γ cy a X) (h : f_X12_shift_B148 v1 v2 v3 v4 x = some z) (hz : (Sum.elim (fun x : Int32 × Int32 × Int32 × VT => Wp Γ 0 0 148 [(0, .ref (a 0)), (1, .int v1), (2, .int v2), (3, .int v3), (4, .int v4), (6, .int x.1), (7, .int x.2.1), (8, .int x.2.2.1)] [] (WM cy a x.2.2.2 X)) (fun y : Int32 × VT => FinI Γ cX12_shift (WM cy a y.2 X) y.1)) z) : Wp Γ 0 0 148 [(0, .ref (a 0)), (1, .int v1), (2, .int v2), (3, .int v3), (4, .int v4), (6, .int x.1), (7, .int x.2.1), (8, .int x.2.2.1)] [] (WM cy a x.2.2.2 X) := by
  unfold f_X12_shift_B148 at h
  refine r_iload C0 dX12_shift_148 7 rfl ?_
  refine r_iload C0 dX12_shift_150 4 rfl ?_
  refine r_icmp_ge C0 289 dX12_shift_152 rfl h (fun _ h => ?_) (fun _ h => ?_)
  · obtain ⟨y13, h5, h9⟩ := op_bind h
    clear h
    cases h9
    have hz := (el_inr hz)
    have h := h5
    refine r_aload_n C0 dX12_shift_289 rfl 0 rfl ?_
    refine r_iload C0 dX12_shift_290 5 rfl ?_
    refine r_bipush C0 dX12_shift_292 kb_12 ?_
    refine callV2 C0 h (hD _) mw_X12_is rv_m tm_X12_168 (fun y hy => c_X12_is hy) (Nat.le_of_ble_eq_true rfl) (Nat.le_of_ble_eq_true rfl) dX12_shift_294 (fun r14 h => ?_)
    refine r_if_eq C0 305 dX12_shift_297 rfl h (fun _ h => ?_) (fun _ h => ?_)
    · refine r_iconst C0 dX12_shift_305 ki_0 ?_
      obtain ⟨a15, h8, h⟩ := op_bind h
      have e8 := Option.some.inj h8
      refine r_istore (lv2 := [(8, .int a15), (0, .ref (a 0)), (1, .int v1), (2, .int v2), (3, .int v3), (4, .int v4), (6, .int x.1), (7, .int x.2.1)]) C0 dX12_shift_306 e8 (Nat.le_of_ble_eq_true rfl) rfl ?_
      exact r_sub [1, 2, 3, 4, 5, 7, 0] rfl (w_X12_shift_B308_lp C0 hD h hz)
    · refine r_aload_n C0 dX12_shift_300 rfl 0 rfl ?_
      refine callV0 C0 h (hD _) mw_X12_refused rv_m tm_X12_172 (fun y hy => c_X12_refused hy) (Nat.le_of_ble_eq_true rfl) (Nat.le_of_ble_eq_true rfl) dX12_shift_301 (fun r39 h => ?_)
      cases h
      exact hz _ _ dX12_shift_304
  · refine r_aload_n C0 dX12_shift_155 rfl 0 rfl ?_
    refine r_iload_n C0 dX12_shift_156 rfl 1 rfl ?_
    refine r_iload_n C0 dX12_shift_157 rfl 2 rfl ?_
    refine r_iload C0 dX12_shift_158 7 rfl ?_
    refine r_iadd C0 dX12_shift_160 ?_
    refine callV2 C0 h (hD _) mw_X12_held rv_m tm_X12_72 (fun y hy => c_X12_held hy) (Nat.le_of_ble_eq_true rfl) (Nat.le_of_ble_eq_true rfl) dX12_shift_161 (fun r40 h => ?_)
    refine r_istore (lv2 := [(9, .int r40), (0, .ref (a 0)), (1, .int v1), (2, .int v2), (3, .int v3), (4, .int v4), (6, .int x.1), (7, .int x.2.1), (8, .int x.2.2.1)]) C0 dX12_shift_164 rfl (Nat.le_of_ble_eq_true rfl) rfl ?_
    refine r_aload_n C0 dX12_shift_166 rfl 1 rfl ?_
    refine wmg_0_10 C0 tf_X12_26 dX12_shift_167 ?_
    refine r_iload C0 dX12_shift_170 8 rfl ?_
    refine r_iload C0 dX12_shift_172 0 rfl ?_
    refine wmas_6 C0 hD h dX12_shift_174 (fun k41 h => ?_)
    refine r_iload C0 dX12_shift_175 7 rfl ?_
    refine r_iload C0 dX12_shift_177 0 rfl ?_
    refine r_iconst C0 dX12_shift_179 ki_2 ?_
    refine r_icmp_lt C0 187 dX12_shift_180 rfl h (fun _ h => ?_) (fun _ h => ?_)
    · refine r_iconst C0 dX12_shift_187 ki_0 ?_
      exact r_sub [1, 2, 3, 4, 5, 6, 8, 0] rfl (w_X12_shift_j188 C0 hD h hz)
    · refine r_iconst C0 dX12_shift_183 ki_1 ?_
      refine r_goto C0 188 dX12_shift_184 rfl ?_
      exact r_sub [1, 2, 3, 4, 5, 6, 8, 0] rfl (w_X12_shift_j188 C0 hD h hz)
theorem w_X12_shift_B148_lp {x : Int32 × Int32 × Int32 × VT} {z : (Int32 × VT)} {Γ : Gam} {cy : Nat → ClassId} {a : Nat → Nat} {X : va_W} {v1 : Int32} {v2 : Int32} {v3 : Int32} {v4 : Int32}  (C0 : CXg Γ cX12_shift 11 6 RX12 cy) (hD : DM Γ cy a X) (h : lp (f_X12_shift_B148 v1 v2 v3 v4) fuel x = some z) (hz : (fun y : Int32 × VT => FinI Γ cX12_shift (WM cy a y.2 X) y.1) z) : Wp Γ 0 0 148 [(0, .ref (a 0)), (1, .int v1), (2, .int v2), (3, .int v3), (4, .int v4), (6, .int x.1), (7, .int x.2.1), (8, .int x.2.2.1)] [] (WM cy a x.2.2.2 X) :=
  lp_rule (hd := (fun x : Int32 × Int32 × Int32 × VT => Wp Γ 0 0 148 [(0, .ref (a 0)), (1, .int v1), (2, .int v2), (3, .int v3), (4, .int v4), (6, .int x.1), (7, .int x.2.1), (8, .int x.2.2.1)] [] (WM cy a x.2.2.2 X))) (C := (fun y : Int32 × VT => FinI Γ cX12_shift (WM cy a y.2 X) y.1)) (fun x z h hz => w_X12_shift_B148 C0 hD h hz) _ _ _ h hz
theorem w_X12_shift_j122 {z : (Int32 × VT)} {Γ : Gam} {cy : Nat → ClassId} {a : Nat → Nat} {V : VT} {X : va_W} {v1 : Int32} {v2 : Int32} {v3 : Int32} {v4 : Int32} {s0 : Int32}  (C0 : CXg Γ cX12_shift 11 6 RX12 cy) (hD : DM Γ cy a X) (h : f_X12_shift_j122 v1 v2 v3 v4 s0 V = some z) (hz : (fun y : Int32 × VT => FinI Γ cX12_shift (WM cy a y.2 X) y.1) z) : Wp Γ 0 0 122 [(0, .ref (a 0)), (1, .int v1), (2, .int v2), (3, .int v3), (4, .int v4)] [.int s0] (WM cy a V X) := by
  unfold f_X12_shift_j122 at h
  refine r_istore (lv2 := [(5, .int s0), (0, .ref (a 0)), (1, .int v1), (2, .int v2), (3, .int v3), (4, .int v4)]) C0 dX12_shift_122 rfl (Nat.le_of_ble_eq_true rfl) rfl ?_
  refine r_aload_n C0 dX12_shift_124 rfl 1 rfl ?_
  refine r_iload C0 dX12_shift_125 0 rfl ?_
  refine r_iconst C0 dX12_shift_127 ki_5 ?_
  refine callV2 C0 h (hD _) mw_X12_is rv_m tm_X12_168 (fun y hy => c_X12_is hy) (Nat.le_of_ble_eq_true rfl) (Nat.le_of_ble_eq_true rfl) dX12_shift_128 (fun r9 h => ?_)
  refine r_if_eq C0 139 dX12_shift_131 rfl h (fun _ h => ?_) (fun _ h => ?_)
  · refine r_iconst C0 dX12_shift_139 ki_0 ?_
    obtain ⟨a10, h8, h⟩ := op_bind h
    have e8 := Option.some.inj h8
    refine r_istore (lv2 := [(6, .int a10), (5, .int s0), (0, .ref (a 0)), (1, .int v1), (2, .int v2), (3, .int v3), (4, .int v4)]) C0 dX12_shift_140 e8 (Nat.le_of_ble_eq_true rfl) rfl ?_
    refine r_iconst C0 dX12_shift_142 ki_0 ?_
    obtain ⟨a11, h8, h⟩ := op_bind h
    have e8 := Option.some.inj h8
    refine r_istore (lv2 := [(7, .int a11), (6, .int a10), (5, .int s0), (0, .ref (a 0)), (1, .int v1), (2, .int v2), (3, .int v3), (4, .int v4)]) C0 dX12_shift_143 e8 (Nat.le_of_ble_eq_true rfl) rfl ?_
    refine r_iconst C0 dX12_shift_145 ki_0 ?_
    obtain ⟨a12, h8, h⟩ := op_bind h
    have e8 := Option.some.inj h8
    refine r_istore (lv2 := [(8, .int a12), (7, .int a11), (6, .int a10), (5, .int s0), (0, .ref (a 0)), (1, .int v1), (2, .int v2), (3, .int v3), (4, .int v4)]) C0 dX12_shift_146 e8 (Nat.le_of_ble_eq_true rfl) rfl ?_
    exact r_sub [4, 5, 6, 7, 8, 2, 1, 0] rfl (w_X12_shift_B148_lp C0 hD h hz)
  · refine r_aload_n C0 dX12_shift_134 rfl 1 rfl ?_
    refine callV0 C0 h (hD _) mw_X12_refused rv_m tm_X12_172 (fun y hy => c_X12_refused hy) (Nat.le_of_ble_eq_true rfl) (Nat.le_of_ble_eq_true rfl) dX12_shift_135 (fun r46 h => ?_)
    cases h
    exact hz _ _ dX12_shift_138
theorem w_X12_shift_j117 {z : (Int32 × VT)} {Γ : Gam} {cy : Nat → ClassId} {a : Nat → Nat} {V : VT} {X : va_W} {v1 : Int32} {v2 : Int32} {v3 : Int32} {v4 : Int32}  (C0 : CXg Γ cX12_shift 11 6 RX12 cy) (hD : DM Γ cy a X) (h : f_X12_shift_j117 v1 v2 v3 v4 V = some z) (hz : (fun y : Int32 × VT => FinI Γ cX12_shift (WM cy a y.2 X) y.1) z) : Wp Γ 0 0 117 [(0, .ref (a 0)), (1, .int v1), (2, .int v2), (3, .int v3), (4, .int v4)] [] (WM cy a V X) := by
  unfold f_X12_shift_j117 at h
  refine r_iconst C0 dX12_shift_117 ki_1 ?_
  refine r_goto C0 122 dX12_shift_118 rfl ?_
  exact r_sub [0, 1, 2, 3, 4] rfl (w_X12_shift_j122 C0 hD h hz)
theorem w_X12_shift_j59 {z : (Int32 × VT)} {Γ : Gam} {cy : Nat → ClassId} {a : Nat → Nat} {V : VT} {X : va_W} {v1 : Int32} {v2 : Int32} {v3 : Int32} {v4 : Int32} {s1 : Int32}  (C0 : CXg Γ cX12_shift 11 6 RX12 cy) (hD : DM Γ cy a X) (h : f_X12_shift_j59 v1 v2 v3 v4 s1 V = some z) (hz : (fun y : Int32 × VT => FinI Γ cX12_shift (WM cy a y.2 X) y.1) z) : Wp Γ 0 0 59 [(0, .ref (a 0)), (1, .int v1), (2, .int v2), (3, .int v3), (4, .int v4)] [.int s1, .ref (a 0)] (WM cy a V X) := by
  unfold f_X12_shift_j59 at h
  refine r_bipush C0 dX12_shift_59 kb_10 ?_
  refine callV2 C0 h (hD _) mw_X12_is rv_m tm_X12_168 (fun y hy => c_X12_is hy) (Nat.le_of_ble_eq_true rfl) (Nat.le_of_ble_eq_true rfl) dX12_shift_61 (fun r8 h => ?_)
  refine r_if_eq C0 72 dX12_shift_64 rfl h (fun _ h => ?_) (fun _ h => ?_)
  · refine r_iload C0 dX12_shift_72 4 rfl ?_
    refine r_if_lt C0 117 dX12_shift_74 rfl h (fun _ h => ?_) (fun _ h => ?_)
    · exact r_sub [0, 1, 2, 3, 4] rfl (w_X12_shift_j117 C0 hD h hz)
    · refine r_iload_n C0 dX12_shift_77 rfl 2 rfl ?_
      refine r_if_lt C0 117 dX12_shift_78 rfl h (fun _ h => ?_) (fun _ h => ?_)
      · exact r_sub [0, 1, 2, 3, 4] rfl (w_X12_shift_j117 C0 hD h hz)
      · refine r_iload_n C0 dX12_shift_81 rfl 3 rfl ?_
        refine r_if_lt C0 117 dX12_shift_82 rfl h (fun _ h => ?_) (fun _ h => ?_)
        · exact r_sub [0, 1, 2, 3, 4] rfl (w_X12_shift_j117 C0 hD h hz)
        · refine r_iload_n C0 dX12_shift_85 rfl 2 rfl ?_
          refine r_i2l C0 dX12_shift_86 ?_
          refine r_iload C0 dX12_shift_87 4 rfl ?_
          refine r_i2l C0 dX12_shift_89 ?_
          refine r_ladd C0 dX12_shift_90 ?_
          refine r_aload_n C0 dX12_shift_91 rfl 0 rfl ?_
          refine r_iload_n C0 dX12_shift_92 rfl 1 rfl ?_
          refine callV1 C0 h (hD _) mw_X12_places rv_m tm_X12_55 (fun y hy => c_X12_places hy) (Nat.le_of_ble_eq_true rfl) (Nat.le_of_ble_eq_true rfl) dX12_shift_93 (fun r47 h => ?_)
          refine r_i2l C0 dX12_shift_96 ?_
          refine r_lcmp C0 dX12_shift_97 ?_
          refine r_if_gt C0 117 dX12_shift_98 rfl h (fun _ h => ?_) (fun _ h => ?_)
          · exact r_sub [0, 1, 2, 3, 4] rfl (w_X12_shift_j117 C0 hD h hz)
          · refine r_iload_n C0 dX12_shift_101 rfl 3 rfl ?_
            refine r_i2l C0 dX12_shift_102 ?_
            refine r_iload C0 dX12_shift_103 4 rfl ?_
            refine r_i2l C0 dX12_shift_105 ?_
            refine r_ladd C0 dX12_shift_106 ?_
            refine r_aload_n C0 dX12_shift_107 rfl 0 rfl ?_
            refine r_iload_n C0 dX12_shift_108 rfl 1 rfl ?_
            refine callV1 C0 h (hD _) mw_X12_places rv_m tm_X12_55 (fun y hy => c_X12_places hy) (Nat.le_of_ble_eq_true rfl) (Nat.le_of_ble_eq_true rfl) dX12_shift_109 (fun r48 h => ?_)
            refine r_i2l C0 dX12_shift_112 ?_
            refine r_lcmp C0 dX12_shift_113 ?_
            refine r_if_le C0 121 dX12_shift_114 rfl h (fun _ h => ?_) (fun _ h => ?_)
            · refine r_iconst C0 dX12_shift_121 ki_0 ?_
              exact r_sub [0, 1, 2, 3, 4] rfl (w_X12_shift_j122 C0 hD h hz)
            · exact r_sub [0, 1, 2, 3, 4] rfl (w_X12_shift_j117 C0 hD h hz)
  · exact r_sub [0] rfl (w_X12_shift_j67 C0 hD h hz)
theorem w_X12_shift_j38 {z : (Int32 × VT)} {Γ : Gam} {cy : Nat → ClassId} {a : Nat → Nat} {V : VT} {X : va_W} {v1 : Int32} {v2 : Int32} {v3 : Int32} {v4 : Int32} {s1 : Int32}  (C0 : CXg Γ cX12_shift 11 6 RX12 cy) (hD : DM Γ cy a X) (h : f_X12_shift_j38 v1 v2 v3 v4 s1 V = some z) (hz : (fun y : Int32 × VT => FinI Γ cX12_shift (WM cy a y.2 X) y.1) z) : Wp Γ 0 0 38 [(0, .ref (a 0)), (1, .int v1), (2, .int v2), (3, .int v3), (4, .int v4)] [.int s1, .ref (a 0)] (WM cy a V X) := by
  unfold f_X12_shift_j38 at h
  refine r_iconst C0 dX12_shift_38 ki_1 ?_
  refine callV2 C0 h (hD _) mw_X12_is rv_m tm_X12_168 (fun y hy => c_X12_is hy) (Nat.le_of_ble_eq_true rfl) (Nat.le_of_ble_eq_true rfl) dX12_shift_39 (fun r6 h => ?_)
  refine r_if_ne C0 67 dX12_shift_42 rfl h (fun _ h => ?_) (fun _ h => ?_)
  · exact r_sub [0] rfl (w_X12_shift_j67 C0 hD h hz)
  · refine r_aload_n C0 dX12_shift_45 rfl 0 rfl ?_
    refine r_aload_n C0 dX12_shift_46 rfl 0 rfl ?_
    refine r_iload_n C0 dX12_shift_47 rfl 1 rfl ?_
    refine callV1 C0 h (hD _) mw_X12_height rv_m tm_X12_124 (fun y hy => c_X12_height hy) (Nat.le_of_ble_eq_true rfl) (Nat.le_of_ble_eq_true rfl) dX12_shift_48 (fun r7 h => ?_)
    refine r_if_eq C0 58 dX12_shift_51 rfl h (fun _ h => ?_) (fun _ h => ?_)
    · refine r_iconst C0 dX12_shift_58 ki_0 ?_
      exact r_sub [0, 1, 2, 3, 4] rfl (w_X12_shift_j59 C0 hD h hz)
    · refine r_iconst C0 dX12_shift_54 ki_1 ?_
      refine r_goto C0 59 dX12_shift_55 rfl ?_
      exact r_sub [0, 1, 2, 3, 4] rfl (w_X12_shift_j59 C0 hD h hz)
theorem w_X12_shift_j17 {z : (Int32 × VT)} {Γ : Gam} {cy : Nat → ClassId} {a : Nat → Nat} {V : VT} {X : va_W} {v1 : Int32} {v2 : Int32} {v3 : Int32} {v4 : Int32} {s1 : Int32}  (C0 : CXg Γ cX12_shift 11 6 RX12 cy) (hD : DM Γ cy a X) (h : f_X12_shift_j17 v1 v2 v3 v4 s1 V = some z) (hz : (fun y : Int32 × VT => FinI Γ cX12_shift (WM cy a y.2 X) y.1) z) : Wp Γ 0 0 17 [(0, .ref (a 0)), (1, .int v1), (2, .int v2), (3, .int v3), (4, .int v4)] [.int s1, .ref (a 0)] (WM cy a V X) := by
  unfold f_X12_shift_j17 at h
  refine r_iconst C0 dX12_shift_17 ki_2 ?_
  refine callV2 C0 h (hD _) mw_X12_is rv_m tm_X12_168 (fun y hy => c_X12_is hy) (Nat.le_of_ble_eq_true rfl) (Nat.le_of_ble_eq_true rfl) dX12_shift_18 (fun r3 h => ?_)
  refine r_if_ne C0 67 dX12_shift_21 rfl h (fun _ h => ?_) (fun _ h => ?_)
  · exact r_sub [0] rfl (w_X12_shift_j67 C0 hD h hz)
  · refine r_aload_n C0 dX12_shift_24 rfl 0 rfl ?_
    refine r_aload_n C0 dX12_shift_25 rfl 0 rfl ?_
    refine r_iload_n C0 dX12_shift_26 rfl 1 rfl ?_
    refine callV1 C0 h (hD _) mw_X12_isRigged rv_m tm_X12_66 (fun y hy => c_X12_isRigged hy) (Nat.le_of_ble_eq_true rfl) (Nat.le_of_ble_eq_true rfl) dX12_shift_27 (fun r5 h => ?_)
    refine r_if_ne C0 37 dX12_shift_30 rfl h (fun _ h => ?_) (fun _ h => ?_)
    · refine r_iconst C0 dX12_shift_37 ki_0 ?_
      exact r_sub [0, 1, 2, 3, 4] rfl (w_X12_shift_j38 C0 hD h hz)
    · refine r_iconst C0 dX12_shift_33 ki_1 ?_
      refine r_goto C0 38 dX12_shift_34 rfl ?_
      exact r_sub [0, 1, 2, 3, 4] rfl (w_X12_shift_j38 C0 hD h hz)
theorem w_X12_shift {z : Int32 × VT} {Γ : Gam} {cy : Nat → ClassId} {a : Nat → Nat} {V : VT} {X : va_W} {v1 : Int32} {v2 : Int32} {v3 : Int32} {v4 : Int32}  (C0 : CXg Γ cX12_shift 11 6 RX12 cy) (hD : DM Γ cy a X) (h : f_X12_shift v1 v2 v3 v4 V = some z) (hz : (fun y : Int32 × VT => FinI Γ cX12_shift (WM cy a y.2 X) y.1) z) : Wp Γ 0 0 0 [(0, .ref (a 0)), (1, .int v1), (2, .int v2), (3, .int v3), (4, .int v4)] [] (WM cy a V X) := by
  unfold f_X12_shift at h
  refine r_aload_n C0 dX12_shift_0 rfl 0 rfl ?_
  refine callVv0 C0 h (hD _) mw_X12_begin rv_m tm_X12_165 (fun y hy => c_X12_begin hy) (Nat.le_of_ble_eq_true rfl) (Nat.le_of_ble_eq_true rfl) dX12_shift_1 (fun r1 h => ?_)
  refine r_aload_n C0 dX12_shift_4 rfl 0 rfl ?_
  refine r_iload_n C0 dX12_shift_5 rfl 1 rfl ?_
  refine callS1 C0 h (hD _) ms_X12_isBar tm_X12_115 (fun y hy => c_X12_isBar hy) (Nat.le_of_ble_eq_true rfl) (Nat.le_of_ble_eq_true rfl) dX12_shift_6 (fun r2 h => ?_)
  refine r_if_ne C0 16 dX12_shift_9 rfl h (fun _ h => ?_) (fun _ h => ?_)
  · refine r_iconst C0 dX12_shift_16 ki_0 ?_
    exact r_sub [0, 1, 2, 3, 4] rfl (w_X12_shift_j17 C0 hD h hz)
  · refine r_iconst C0 dX12_shift_12 ki_1 ?_
    refine r_goto C0 17 dX12_shift_13 rfl ?_
    exact r_sub [0, 1, 2, 3, 4] rfl (w_X12_shift_j17 C0 hD h hz)
theorem c_X12_shift {l : Launch} {D : va_G} {cy : Nat → ClassId} {a : Nat → Nat} {V : VT} {X : va_W} {v1 : Int32} {v2 : Int32} {v3 : Int32} {v4 : Int32} {y : Int32 × VT} (h : f_X12_shift v1 v2 v3 v4 V = some y) : CT l D cy yX12_shift cX12_shift 11 (some .int) 6 [.ref (a 0), .int v1, .int v2, .int v3, .int v4] (WM cy a V X) (WM cy a y.2 X) (some (.int y.1)) :=
  mkI (by decide) (Nat.le_of_ble_eq_true rfl) (fun Γ _ _ C0 hD hF => w_X12_shift C0 (dm_of hD) h hF)
theorem dX12_flag_0 : decode cX12_flag 0 = .ok (.aload_n 0, 1) := by decide +kernel
theorem dX12_flag_1 : decode cX12_flag 1 = .ok (.invokevirtual 165, 3) := by decide +kernel
theorem dX12_flag_4 : decode cX12_flag 4 = .ok (.aload_n 0, 1) := by decide +kernel
theorem dX12_flag_5 : decode cX12_flag 5 = .ok (.iload_n 1, 1) := by decide +kernel
theorem dX12_flag_6 : decode cX12_flag 6 = .ok (.iconst 0, 1) := by decide +kernel
theorem dX12_flag_7 : decode cX12_flag 7 = .ok (.bipush 7, 2) := by decide +kernel
theorem dX12_flag_9 : decode cX12_flag 9 = .ok (.invokestatic 47, 3) := by decide +kernel
theorem dX12_flag_12 : decode cX12_flag 12 = .ok (.ifCond .ne 7, 3) := by decide +kernel
theorem dX12_flag_15 : decode cX12_flag 15 = .ok (.iconst 1, 1) := by decide +kernel
theorem dX12_flag_16 : decode cX12_flag 16 = .ok (.goto 4, 3) := by decide +kernel
theorem dX12_flag_19 : decode cX12_flag 19 = .ok (.iconst 0, 1) := by decide +kernel
theorem dX12_flag_20 : decode cX12_flag 20 = .ok (.iconst 2, 1) := by decide +kernel
theorem dX12_flag_21 : decode cX12_flag 21 = .ok (.invokevirtual 168, 3) := by decide +kernel
theorem dX12_flag_24 : decode cX12_flag 24 = .ok (.ifCond .ne 27, 3) := by decide +kernel
theorem dX12_flag_27 : decode cX12_flag 27 = .ok (.aload_n 0, 1) := by decide +kernel
theorem dX12_flag_28 : decode cX12_flag 28 = .ok (.iload_n 2, 1) := by decide +kernel
theorem dX12_flag_29 : decode cX12_flag 29 = .ok (.iconst 0, 1) := by decide +kernel
theorem dX12_flag_30 : decode cX12_flag 30 = .ok (.bipush 99, 2) := by decide +kernel
theorem dX12_flag_32 : decode cX12_flag 32 = .ok (.invokestatic 47, 3) := by decide +kernel
theorem dX12_flag_35 : decode cX12_flag 35 = .ok (.ifCond .ne 7, 3) := by decide +kernel
theorem dX12_flag_38 : decode cX12_flag 38 = .ok (.iconst 1, 1) := by decide +kernel
theorem dX12_flag_39 : decode cX12_flag 39 = .ok (.goto 4, 3) := by decide +kernel
theorem dX12_flag_42 : decode cX12_flag 42 = .ok (.iconst 0, 1) := by decide +kernel
theorem dX12_flag_43 : decode cX12_flag 43 = .ok (.bipush 7, 2) := by decide +kernel
theorem dX12_flag_45 : decode cX12_flag 45 = .ok (.invokevirtual 168, 3) := by decide +kernel
theorem dX12_flag_48 : decode cX12_flag 48 = .ok (.ifCond .eq 8, 3) := by decide +kernel
theorem dX12_flag_51 : decode cX12_flag 51 = .ok (.aload_n 0, 1) := by decide +kernel
theorem dX12_flag_52 : decode cX12_flag 52 = .ok (.invokevirtual 172, 3) := by decide +kernel
theorem dX12_flag_55 : decode cX12_flag 55 = .ok (.ireturn, 1) := by decide +kernel
theorem dX12_flag_56 : decode cX12_flag 56 = .ok (.aload_n 0, 1) := by decide +kernel
theorem dX12_flag_57 : decode cX12_flag 57 = .ok (.getfield 7, 3) := by decide +kernel
theorem dX12_flag_60 : decode cX12_flag 60 = .ok (.sipush 1432, 3) := by decide +kernel
theorem dX12_flag_63 : decode cX12_flag 63 = .ok (.iload_n 1, 1) := by decide +kernel
theorem dX12_flag_64 : decode cX12_flag 64 = .ok (.iadd, 1) := by decide +kernel
theorem dX12_flag_65 : decode cX12_flag 65 = .ok (.iaload, 1) := by decide +kernel
theorem dX12_flag_66 : decode cX12_flag 66 = .ok (.istore_n 3, 1) := by decide +kernel
theorem dX12_flag_67 : decode cX12_flag 67 = .ok (.aload_n 0, 1) := by decide +kernel
theorem dX12_flag_68 : decode cX12_flag 68 = .ok (.getfield 7, 3) := by decide +kernel
theorem dX12_flag_71 : decode cX12_flag 71 = .ok (.sipush 1432, 3) := by decide +kernel
theorem dX12_flag_74 : decode cX12_flag 74 = .ok (.iload_n 1, 1) := by decide +kernel
theorem dX12_flag_75 : decode cX12_flag 75 = .ok (.iadd, 1) := by decide +kernel
theorem dX12_flag_76 : decode cX12_flag 76 = .ok (.iload_n 2, 1) := by decide +kernel
theorem dX12_flag_77 : decode cX12_flag 77 = .ok (.iastore, 1) := by decide +kernel
theorem dX12_flag_78 : decode cX12_flag 78 = .ok (.aload_n 0, 1) := by decide +kernel
theorem dX12_flag_79 : decode cX12_flag 79 = .ok (.iload_n 3, 1) := by decide +kernel
theorem dX12_flag_80 : decode cX12_flag 80 = .ok (.invokevirtual 176, 3) := by decide +kernel
theorem dX12_flag_83 : decode cX12_flag 83 = .ok (.ireturn, 1) := by decide +kernel
theorem w_X12_flag_j51 {z : (Int32 × VT)} {Γ : Gam} {cy : Nat → ClassId} {a : Nat → Nat} {V : VT} {X : va_W}  (C0 : CXg Γ cX12_flag 4 1 RX12 cy) (hD : DM Γ cy a X) (h : f_X12_flag_j51 V = some z) (hz : (fun y : Int32 × VT => FinI Γ cX12_flag (WM cy a y.2 X) y.1) z) : Wp Γ 0 0 51 [(0, .ref (a 0))] [] (WM cy a V X) := by
  unfold f_X12_flag_j51 at h
  refine r_aload_n C0 dX12_flag_51 rfl 0 rfl ?_
  refine callV0 C0 h (hD _) mw_X12_refused rv_m tm_X12_172 (fun y hy => c_X12_refused hy) (Nat.le_of_ble_eq_true rfl) (Nat.le_of_ble_eq_true rfl) dX12_flag_52 (fun r4 h => ?_)
  cases h
  exact hz _ _ dX12_flag_55
theorem w_X12_flag_j43 {z : (Int32 × VT)} {Γ : Gam} {cy : Nat → ClassId} {a : Nat → Nat} {V : VT} {X : va_W} {v1 : Int32} {v2 : Int32} {s1 : Int32}  (C0 : CXg Γ cX12_flag 4 1 RX12 cy) (hD : DM Γ cy a X) (h : f_X12_flag_j43 v1 v2 s1 V = some z) (hz : (fun y : Int32 × VT => FinI Γ cX12_flag (WM cy a y.2 X) y.1) z) : Wp Γ 0 0 43 [(0, .ref (a 0)), (1, .int v1), (2, .int v2)] [.int s1, .ref (a 0)] (WM cy a V X) := by
  unfold f_X12_flag_j43 at h
  refine r_bipush C0 dX12_flag_43 kb_7 ?_
  refine callV2 C0 h (hD _) mw_X12_is rv_m tm_X12_168 (fun y hy => c_X12_is hy) (Nat.le_of_ble_eq_true rfl) (Nat.le_of_ble_eq_true rfl) dX12_flag_45 (fun r6 h => ?_)
  refine r_if_eq C0 56 dX12_flag_48 rfl h (fun _ h => ?_) (fun _ h => ?_)
  · refine r_aload_n C0 dX12_flag_56 rfl 0 rfl ?_
    refine wmg_0_0 C0 tf_X12_7 dX12_flag_57 ?_
    refine r_sipush C0 dX12_flag_60 ks_1432 ?_
    refine r_iload_n C0 dX12_flag_63 rfl 1 rfl ?_
    refine r_iadd C0 dX12_flag_64 ?_
    refine wmal_1 C0 h dX12_flag_65 (fun k7 h => ?_)
    obtain ⟨a8, h8, h⟩ := op_bind h
    have e8 := Option.some.inj h8
    refine r_istore_n (lv2 := [(3, .int a8), (0, .ref (a 0)), (1, .int v1), (2, .int v2)]) C0 dX12_flag_66 rfl e8 (Nat.le_of_ble_eq_true rfl) rfl ?_
    refine r_aload_n C0 dX12_flag_67 rfl 1 rfl ?_
    refine wmg_0_0 C0 tf_X12_7 dX12_flag_68 ?_
    refine r_sipush C0 dX12_flag_71 ks_1432 ?_
    refine r_iload_n C0 dX12_flag_74 rfl 2 rfl ?_
    refine r_iadd C0 dX12_flag_75 ?_
    refine r_iload_n C0 dX12_flag_76 rfl 3 rfl ?_
    refine wmas_1 C0 hD h dX12_flag_77 (fun k9 h => ?_)
    refine r_aload_n C0 dX12_flag_78 rfl 1 rfl ?_
    refine r_iload_n C0 dX12_flag_79 rfl 0 rfl ?_
    refine callV1 C0 h (hD _) mw_X12_keep rv_m tm_X12_176 (fun y hy => c_X12_keep hy) (Nat.le_of_ble_eq_true rfl) (Nat.le_of_ble_eq_true rfl) dX12_flag_80 (fun r10 h => ?_)
    cases h
    exact hz _ _ dX12_flag_83
  · exact r_sub [0] rfl (w_X12_flag_j51 C0 hD h hz)
theorem w_X12_flag_j20 {z : (Int32 × VT)} {Γ : Gam} {cy : Nat → ClassId} {a : Nat → Nat} {V : VT} {X : va_W} {v1 : Int32} {v2 : Int32} {s1 : Int32}  (C0 : CXg Γ cX12_flag 4 1 RX12 cy) (hD : DM Γ cy a X) (h : f_X12_flag_j20 v1 v2 s1 V = some z) (hz : (fun y : Int32 × VT => FinI Γ cX12_flag (WM cy a y.2 X) y.1) z) : Wp Γ 0 0 20 [(0, .ref (a 0)), (1, .int v1), (2, .int v2)] [.int s1, .ref (a 0)] (WM cy a V X) := by
  unfold f_X12_flag_j20 at h
  refine r_iconst C0 dX12_flag_20 ki_2 ?_
  refine callV2 C0 h (hD _) mw_X12_is rv_m tm_X12_168 (fun y hy => c_X12_is hy) (Nat.le_of_ble_eq_true rfl) (Nat.le_of_ble_eq_true rfl) dX12_flag_21 (fun r3 h => ?_)
  refine r_if_ne C0 51 dX12_flag_24 rfl h (fun _ h => ?_) (fun _ h => ?_)
  · exact r_sub [0] rfl (w_X12_flag_j51 C0 hD h hz)
  · refine r_aload_n C0 dX12_flag_27 rfl 0 rfl ?_
    refine r_iload_n C0 dX12_flag_28 rfl 2 rfl ?_
    refine r_iconst C0 dX12_flag_29 ki_0 ?_
    refine r_bipush C0 dX12_flag_30 kb_99 ?_
    refine callS3 C0 h (hD _) ms_X12_in tm_X12_47 (fun y hy => c_X12_in hy) (Nat.le_of_ble_eq_true rfl) (Nat.le_of_ble_eq_true rfl) dX12_flag_32 (fun r5 h => ?_)
    refine r_if_ne C0 42 dX12_flag_35 rfl h (fun _ h => ?_) (fun _ h => ?_)
    · refine r_iconst C0 dX12_flag_42 ki_0 ?_
      exact r_sub [0, 1, 2] rfl (w_X12_flag_j43 C0 hD h hz)
    · refine r_iconst C0 dX12_flag_38 ki_1 ?_
      refine r_goto C0 43 dX12_flag_39 rfl ?_
      exact r_sub [0, 1, 2] rfl (w_X12_flag_j43 C0 hD h hz)
theorem w_X12_flag {z : Int32 × VT} {Γ : Gam} {cy : Nat → ClassId} {a : Nat → Nat} {V : VT} {X : va_W} {v1 : Int32} {v2 : Int32}  (C0 : CXg Γ cX12_flag 4 1 RX12 cy) (hD : DM Γ cy a X) (h : f_X12_flag v1 v2 V = some z) (hz : (fun y : Int32 × VT => FinI Γ cX12_flag (WM cy a y.2 X) y.1) z) : Wp Γ 0 0 0 [(0, .ref (a 0)), (1, .int v1), (2, .int v2)] [] (WM cy a V X) := by
  unfold f_X12_flag at h
  refine r_aload_n C0 dX12_flag_0 rfl 0 rfl ?_
  refine callVv0 C0 h (hD _) mw_X12_begin rv_m tm_X12_165 (fun y hy => c_X12_begin hy) (Nat.le_of_ble_eq_true rfl) (Nat.le_of_ble_eq_true rfl) dX12_flag_1 (fun r1 h => ?_)
  refine r_aload_n C0 dX12_flag_4 rfl 0 rfl ?_
  refine r_iload_n C0 dX12_flag_5 rfl 1 rfl ?_
  refine r_iconst C0 dX12_flag_6 ki_0 ?_
  refine r_bipush C0 dX12_flag_7 kb_7 ?_
  refine callS3 C0 h (hD _) ms_X12_in tm_X12_47 (fun y hy => c_X12_in hy) (Nat.le_of_ble_eq_true rfl) (Nat.le_of_ble_eq_true rfl) dX12_flag_9 (fun r2 h => ?_)
  refine r_if_ne C0 19 dX12_flag_12 rfl h (fun _ h => ?_) (fun _ h => ?_)
  · refine r_iconst C0 dX12_flag_19 ki_0 ?_
    exact r_sub [0, 1, 2] rfl (w_X12_flag_j20 C0 hD h hz)
  · refine r_iconst C0 dX12_flag_15 ki_1 ?_
    refine r_goto C0 20 dX12_flag_16 rfl ?_
    exact r_sub [0, 1, 2] rfl (w_X12_flag_j20 C0 hD h hz)
theorem c_X12_flag {l : Launch} {D : va_G} {cy : Nat → ClassId} {a : Nat → Nat} {V : VT} {X : va_W} {v1 : Int32} {v2 : Int32} {y : Int32 × VT} (h : f_X12_flag v1 v2 V = some y) : CT l D cy yX12_flag cX12_flag 4 (some .int) 1 [.ref (a 0), .int v1, .int v2] (WM cy a V X) (WM cy a y.2 X) (some (.int y.1)) :=
  mkI (by decide) (Nat.le_of_ble_eq_true rfl) (fun Γ _ _ C0 hD hF => w_X12_flag C0 (dm_of hD) h hF)
theorem dX12_wave_0 : decode cX12_wave 0 = .ok (.aload_n 0, 1) := by decide +kernel
theorem dX12_wave_1 : decode cX12_wave 1 = .ok (.invokevirtual 165, 3) := by decide +kernel
theorem dX12_wave_4 : decode cX12_wave 4 = .ok (.aload_n 0, 1) := by decide +kernel
theorem dX12_wave_5 : decode cX12_wave 5 = .ok (.iload_n 1, 1) := by decide +kernel
theorem dX12_wave_6 : decode cX12_wave 6 = .ok (.iconst 0, 1) := by decide +kernel
theorem dX12_wave_7 : decode cX12_wave 7 = .ok (.bipush 7, 2) := by decide +kernel
theorem dX12_wave_9 : decode cX12_wave 9 = .ok (.invokestatic 47, 3) := by decide +kernel
theorem dX12_wave_12 : decode cX12_wave 12 = .ok (.ifCond .ne 7, 3) := by decide +kernel
theorem dX12_wave_15 : decode cX12_wave 15 = .ok (.iconst 1, 1) := by decide +kernel
theorem dX12_wave_16 : decode cX12_wave 16 = .ok (.goto 4, 3) := by decide +kernel
theorem dX12_wave_19 : decode cX12_wave 19 = .ok (.iconst 0, 1) := by decide +kernel
theorem dX12_wave_20 : decode cX12_wave 20 = .ok (.iconst 2, 1) := by decide +kernel
theorem dX12_wave_21 : decode cX12_wave 21 = .ok (.invokevirtual 168, 3) := by decide +kernel
theorem dX12_wave_24 : decode cX12_wave 24 = .ok (.ifCond .ne 30, 3) := by decide +kernel
theorem dX12_wave_27 : decode cX12_wave 27 = .ok (.aload_n 0, 1) := by decide +kernel
theorem dX12_wave_28 : decode cX12_wave 28 = .ok (.aload_n 0, 1) := by decide +kernel
theorem dX12_wave_29 : decode cX12_wave 29 = .ok (.getfield 7, 3) := by decide +kernel
theorem dX12_wave_32 : decode cX12_wave 32 = .ok (.sipush 1432, 3) := by decide +kernel
theorem dX12_wave_35 : decode cX12_wave 35 = .ok (.iload_n 1, 1) := by decide +kernel
theorem dX12_wave_36 : decode cX12_wave 36 = .ok (.iadd, 1) := by decide +kernel
theorem dX12_wave_37 : decode cX12_wave 37 = .ok (.iaload, 1) := by decide +kernel
theorem dX12_wave_38 : decode cX12_wave 38 = .ok (.ifCond .ne 7, 3) := by decide +kernel
theorem dX12_wave_41 : decode cX12_wave 41 = .ok (.iconst 1, 1) := by decide +kernel
theorem dX12_wave_42 : decode cX12_wave 42 = .ok (.goto 4, 3) := by decide +kernel
theorem dX12_wave_45 : decode cX12_wave 45 = .ok (.iconst 0, 1) := by decide +kernel
theorem dX12_wave_46 : decode cX12_wave 46 = .ok (.bipush 6, 2) := by decide +kernel
theorem dX12_wave_48 : decode cX12_wave 48 = .ok (.invokevirtual 168, 3) := by decide +kernel
theorem dX12_wave_51 : decode cX12_wave 51 = .ok (.ifCond .eq 8, 3) := by decide +kernel
theorem dX12_wave_54 : decode cX12_wave 54 = .ok (.aload_n 0, 1) := by decide +kernel
theorem dX12_wave_55 : decode cX12_wave 55 = .ok (.invokevirtual 172, 3) := by decide +kernel
theorem dX12_wave_58 : decode cX12_wave 58 = .ok (.ireturn, 1) := by decide +kernel
theorem dX12_wave_59 : decode cX12_wave 59 = .ok (.aload_n 0, 1) := by decide +kernel
theorem dX12_wave_60 : decode cX12_wave 60 = .ok (.getfield 7, 3) := by decide +kernel
theorem dX12_wave_63 : decode cX12_wave 63 = .ok (.sipush 1432, 3) := by decide +kernel
theorem dX12_wave_66 : decode cX12_wave 66 = .ok (.iload_n 1, 1) := by decide +kernel
theorem dX12_wave_67 : decode cX12_wave 67 = .ok (.iadd, 1) := by decide +kernel
theorem dX12_wave_68 : decode cX12_wave 68 = .ok (.iaload, 1) := by decide +kernel
theorem dX12_wave_69 : decode cX12_wave 69 = .ok (.ireturn, 1) := by decide +kernel
theorem w_X12_wave_j54 {z : (Int32 × VT)} {Γ : Gam} {cy : Nat → ClassId} {a : Nat → Nat} {V : VT} {X : va_W}  (C0 : CXg Γ cX12_wave 2 1 RX12 cy) (hD : DM Γ cy a X) (h : f_X12_wave_j54 V = some z) (hz : (fun y : Int32 × VT => FinI Γ cX12_wave (WM cy a y.2 X) y.1) z) : Wp Γ 0 0 54 [(0, .ref (a 0))] [] (WM cy a V X) := by
  unfold f_X12_wave_j54 at h
  refine r_aload_n C0 dX12_wave_54 rfl 0 rfl ?_
  refine callV0 C0 h (hD _) mw_X12_refused rv_m tm_X12_172 (fun y hy => c_X12_refused hy) (Nat.le_of_ble_eq_true rfl) (Nat.le_of_ble_eq_true rfl) dX12_wave_55 (fun r4 h => ?_)
  cases h
  exact hz _ _ dX12_wave_58
theorem w_X12_wave_j46 {z : (Int32 × VT)} {Γ : Gam} {cy : Nat → ClassId} {a : Nat → Nat} {V : VT} {X : va_W} {v1 : Int32} {s1 : Int32}  (C0 : CXg Γ cX12_wave 2 1 RX12 cy) (hD : DM Γ cy a X) (h : f_X12_wave_j46 v1 s1 V = some z) (hz : (fun y : Int32 × VT => FinI Γ cX12_wave (WM cy a y.2 X) y.1) z) : Wp Γ 0 0 46 [(0, .ref (a 0)), (1, .int v1)] [.int s1, .ref (a 0)] (WM cy a V X) := by
  unfold f_X12_wave_j46 at h
  refine r_bipush C0 dX12_wave_46 kb_6 ?_
  refine callV2 C0 h (hD _) mw_X12_is rv_m tm_X12_168 (fun y hy => c_X12_is hy) (Nat.le_of_ble_eq_true rfl) (Nat.le_of_ble_eq_true rfl) dX12_wave_48 (fun r6 h => ?_)
  refine r_if_eq C0 59 dX12_wave_51 rfl h (fun _ h => ?_) (fun _ h => ?_)
  · refine r_aload_n C0 dX12_wave_59 rfl 0 rfl ?_
    refine wmg_0_0 C0 tf_X12_7 dX12_wave_60 ?_
    refine r_sipush C0 dX12_wave_63 ks_1432 ?_
    refine r_iload_n C0 dX12_wave_66 rfl 1 rfl ?_
    refine r_iadd C0 dX12_wave_67 ?_
    refine wmal_1 C0 h dX12_wave_68 (fun k7 h => ?_)
    cases h
    exact hz _ _ dX12_wave_69
  · exact r_sub [0] rfl (w_X12_wave_j54 C0 hD h hz)
theorem w_X12_wave_j20 {z : (Int32 × VT)} {Γ : Gam} {cy : Nat → ClassId} {a : Nat → Nat} {V : VT} {X : va_W} {v1 : Int32} {s1 : Int32}  (C0 : CXg Γ cX12_wave 2 1 RX12 cy) (hD : DM Γ cy a X) (h : f_X12_wave_j20 v1 s1 V = some z) (hz : (fun y : Int32 × VT => FinI Γ cX12_wave (WM cy a y.2 X) y.1) z) : Wp Γ 0 0 20 [(0, .ref (a 0)), (1, .int v1)] [.int s1, .ref (a 0)] (WM cy a V X) := by
  unfold f_X12_wave_j20 at h
  refine r_iconst C0 dX12_wave_20 ki_2 ?_
  refine callV2 C0 h (hD _) mw_X12_is rv_m tm_X12_168 (fun y hy => c_X12_is hy) (Nat.le_of_ble_eq_true rfl) (Nat.le_of_ble_eq_true rfl) dX12_wave_21 (fun r3 h => ?_)
  refine r_if_ne C0 54 dX12_wave_24 rfl h (fun _ h => ?_) (fun _ h => ?_)
  · exact r_sub [0] rfl (w_X12_wave_j54 C0 hD h hz)
  · refine r_aload_n C0 dX12_wave_27 rfl 0 rfl ?_
    refine r_aload_n C0 dX12_wave_28 rfl 0 rfl ?_
    refine wmg_0_0 C0 tf_X12_7 dX12_wave_29 ?_
    refine r_sipush C0 dX12_wave_32 ks_1432 ?_
    refine r_iload_n C0 dX12_wave_35 rfl 1 rfl ?_
    refine r_iadd C0 dX12_wave_36 ?_
    refine wmal_1 C0 h dX12_wave_37 (fun k5 h => ?_)
    refine r_if_ne C0 45 dX12_wave_38 rfl h (fun _ h => ?_) (fun _ h => ?_)
    · refine r_iconst C0 dX12_wave_45 ki_0 ?_
      exact r_sub [0, 1] rfl (w_X12_wave_j46 C0 hD h hz)
    · refine r_iconst C0 dX12_wave_41 ki_1 ?_
      refine r_goto C0 46 dX12_wave_42 rfl ?_
      exact r_sub [0, 1] rfl (w_X12_wave_j46 C0 hD h hz)
theorem w_X12_wave {z : Int32 × VT} {Γ : Gam} {cy : Nat → ClassId} {a : Nat → Nat} {V : VT} {X : va_W} {v1 : Int32}  (C0 : CXg Γ cX12_wave 2 1 RX12 cy) (hD : DM Γ cy a X) (h : f_X12_wave v1 V = some z) (hz : (fun y : Int32 × VT => FinI Γ cX12_wave (WM cy a y.2 X) y.1) z) : Wp Γ 0 0 0 [(0, .ref (a 0)), (1, .int v1)] [] (WM cy a V X) := by
  unfold f_X12_wave at h
  refine r_aload_n C0 dX12_wave_0 rfl 0 rfl ?_
  refine callVv0 C0 h (hD _) mw_X12_begin rv_m tm_X12_165 (fun y hy => c_X12_begin hy) (Nat.le_of_ble_eq_true rfl) (Nat.le_of_ble_eq_true rfl) dX12_wave_1 (fun r1 h => ?_)
  refine r_aload_n C0 dX12_wave_4 rfl 0 rfl ?_
  refine r_iload_n C0 dX12_wave_5 rfl 1 rfl ?_
  refine r_iconst C0 dX12_wave_6 ki_0 ?_
  refine r_bipush C0 dX12_wave_7 kb_7 ?_
  refine callS3 C0 h (hD _) ms_X12_in tm_X12_47 (fun y hy => c_X12_in hy) (Nat.le_of_ble_eq_true rfl) (Nat.le_of_ble_eq_true rfl) dX12_wave_9 (fun r2 h => ?_)
  refine r_if_ne C0 19 dX12_wave_12 rfl h (fun _ h => ?_) (fun _ h => ?_)
  · refine r_iconst C0 dX12_wave_19 ki_0 ?_
    exact r_sub [0, 1] rfl (w_X12_wave_j20 C0 hD h hz)
  · refine r_iconst C0 dX12_wave_15 ki_1 ?_
    refine r_goto C0 20 dX12_wave_16 rfl ?_
    exact r_sub [0, 1] rfl (w_X12_wave_j20 C0 hD h hz)
theorem c_X12_wave {l : Launch} {D : va_G} {cy : Nat → ClassId} {a : Nat → Nat} {V : VT} {X : va_W} {v1 : Int32} {y : Int32 × VT} (h : f_X12_wave v1 V = some y) : CT l D cy yX12_wave cX12_wave 2 (some .int) 1 [.ref (a 0), .int v1] (WM cy a V X) (WM cy a y.2 X) (some (.int y.1)) :=
  mkI (by decide) (Nat.le_of_ble_eq_true rfl) (fun Γ _ _ C0 hD hF => w_X12_wave C0 (dm_of hD) h hF)
theorem dX12_cue_0 : decode cX12_cue 0 = .ok (.aload_n 0, 1) := by decide +kernel
theorem dX12_cue_1 : decode cX12_cue 1 = .ok (.invokevirtual 165, 3) := by decide +kernel
theorem dX12_cue_4 : decode cX12_cue 4 = .ok (.aload_n 0, 1) := by decide +kernel
theorem dX12_cue_5 : decode cX12_cue 5 = .ok (.iload_n 1, 1) := by decide +kernel
theorem dX12_cue_6 : decode cX12_cue 6 = .ok (.invokestatic 115, 3) := by decide +kernel
theorem dX12_cue_9 : decode cX12_cue 9 = .ok (.ifCond .ne 7, 3) := by decide +kernel
theorem dX12_cue_12 : decode cX12_cue 12 = .ok (.iconst 1, 1) := by decide +kernel
theorem dX12_cue_13 : decode cX12_cue 13 = .ok (.goto 4, 3) := by decide +kernel
theorem dX12_cue_16 : decode cX12_cue 16 = .ok (.iconst 0, 1) := by decide +kernel
theorem dX12_cue_17 : decode cX12_cue 17 = .ok (.iconst 2, 1) := by decide +kernel
theorem dX12_cue_18 : decode cX12_cue 18 = .ok (.invokevirtual 168, 3) := by decide +kernel
theorem dX12_cue_21 : decode cX12_cue 21 = .ok (.ifCond .ne 24, 3) := by decide +kernel
theorem dX12_cue_24 : decode cX12_cue 24 = .ok (.aload_n 0, 1) := by decide +kernel
theorem dX12_cue_25 : decode cX12_cue 25 = .ok (.aload_n 0, 1) := by decide +kernel
theorem dX12_cue_26 : decode cX12_cue 26 = .ok (.iload_n 1, 1) := by decide +kernel
theorem dX12_cue_27 : decode cX12_cue 27 = .ok (.invokevirtual 66, 3) := by decide +kernel
theorem dX12_cue_30 : decode cX12_cue 30 = .ok (.ifCond .ne 7, 3) := by decide +kernel
theorem dX12_cue_33 : decode cX12_cue 33 = .ok (.iconst 1, 1) := by decide +kernel
theorem dX12_cue_34 : decode cX12_cue 34 = .ok (.goto 4, 3) := by decide +kernel
theorem dX12_cue_37 : decode cX12_cue 37 = .ok (.iconst 0, 1) := by decide +kernel
theorem dX12_cue_38 : decode cX12_cue 38 = .ok (.iconst 1, 1) := by decide +kernel
theorem dX12_cue_39 : decode cX12_cue 39 = .ok (.invokevirtual 168, 3) := by decide +kernel
theorem dX12_cue_42 : decode cX12_cue 42 = .ok (.ifCond .eq 8, 3) := by decide +kernel
theorem dX12_cue_45 : decode cX12_cue 45 = .ok (.aload_n 0, 1) := by decide +kernel
theorem dX12_cue_46 : decode cX12_cue 46 = .ok (.invokevirtual 172, 3) := by decide +kernel
theorem dX12_cue_49 : decode cX12_cue 49 = .ok (.ireturn, 1) := by decide +kernel
theorem dX12_cue_50 : decode cX12_cue 50 = .ok (.iload_n 2, 1) := by decide +kernel
theorem dX12_cue_51 : decode cX12_cue 51 = .ok (.ifCond .eq 35, 3) := by decide +kernel
theorem dX12_cue_54 : decode cX12_cue 54 = .ok (.iload_n 2, 1) := by decide +kernel
theorem dX12_cue_55 : decode cX12_cue 55 = .ok (.bipush (-5), 2) := by decide +kernel
theorem dX12_cue_57 : decode cX12_cue 57 = .ok (.iconst 5, 1) := by decide +kernel
theorem dX12_cue_58 : decode cX12_cue 58 = .ok (.invokestatic 47, 3) := by decide +kernel
theorem dX12_cue_61 : decode cX12_cue 61 = .ok (.ifCond .eq 25, 3) := by decide +kernel
theorem dX12_cue_64 : decode cX12_cue 64 = .ok (.iload_n 3, 1) := by decide +kernel
theorem dX12_cue_65 : decode cX12_cue 65 = .ok (.iconst 0, 1) := by decide +kernel
theorem dX12_cue_66 : decode cX12_cue 66 = .ok (.ldc 208, 2) := by decide +kernel
theorem dX12_cue_68 : decode cX12_cue 68 = .ok (.invokestatic 47, 3) := by decide +kernel
theorem dX12_cue_71 : decode cX12_cue 71 = .ok (.ifCond .eq 15, 3) := by decide +kernel
theorem dX12_cue_74 : decode cX12_cue 74 = .ok (.iload 4, 2) := by decide +kernel
theorem dX12_cue_76 : decode cX12_cue 76 = .ok (.iconst 1, 1) := by decide +kernel
theorem dX12_cue_77 : decode cX12_cue 77 = .ok (.sipush 200, 3) := by decide +kernel
theorem dX12_cue_80 : decode cX12_cue 80 = .ok (.invokestatic 47, 3) := by decide +kernel
theorem dX12_cue_83 : decode cX12_cue 83 = .ok (.ifCond .ne 7, 3) := by decide +kernel
theorem dX12_cue_86 : decode cX12_cue 86 = .ok (.iconst 1, 1) := by decide +kernel
theorem dX12_cue_87 : decode cX12_cue 87 = .ok (.goto 4, 3) := by decide +kernel
theorem dX12_cue_90 : decode cX12_cue 90 = .ok (.iconst 0, 1) := by decide +kernel
theorem dX12_cue_91 : decode cX12_cue 91 = .ok (.istore 5, 2) := by decide +kernel
theorem dX12_cue_93 : decode cX12_cue 93 = .ok (.aload_n 0, 1) := by decide +kernel
theorem dX12_cue_94 : decode cX12_cue 94 = .ok (.iload 5, 2) := by decide +kernel
theorem dX12_cue_96 : decode cX12_cue 96 = .ok (.bipush 7, 2) := by decide +kernel
theorem dX12_cue_98 : decode cX12_cue 98 = .ok (.invokevirtual 168, 3) := by decide +kernel
theorem dX12_cue_101 : decode cX12_cue 101 = .ok (.ifCond .ne 30, 3) := by decide +kernel
theorem dX12_cue_104 : decode cX12_cue 104 = .ok (.aload_n 0, 1) := by decide +kernel
theorem dX12_cue_105 : decode cX12_cue 105 = .ok (.aload_n 0, 1) := by decide +kernel
theorem dX12_cue_106 : decode cX12_cue 106 = .ok (.getfield 7, 3) := by decide +kernel
theorem dX12_cue_109 : decode cX12_cue 109 = .ok (.sipush 1642, 3) := by decide +kernel
theorem dX12_cue_112 : decode cX12_cue 112 = .ok (.iaload, 1) := by decide +kernel
theorem dX12_cue_113 : decode cX12_cue 113 = .ok (.bipush 60, 2) := by decide +kernel
theorem dX12_cue_115 : decode cX12_cue 115 = .ok (.if_icmp .ne 7, 3) := by decide +kernel
theorem dX12_cue_118 : decode cX12_cue 118 = .ok (.iconst 1, 1) := by decide +kernel
theorem dX12_cue_119 : decode cX12_cue 119 = .ok (.goto 4, 3) := by decide +kernel
theorem dX12_cue_122 : decode cX12_cue 122 = .ok (.iconst 0, 1) := by decide +kernel
theorem dX12_cue_123 : decode cX12_cue 123 = .ok (.bipush 11, 2) := by decide +kernel
theorem dX12_cue_125 : decode cX12_cue 125 = .ok (.invokevirtual 168, 3) := by decide +kernel
theorem dX12_cue_128 : decode cX12_cue 128 = .ok (.ifCond .eq 8, 3) := by decide +kernel
theorem dX12_cue_131 : decode cX12_cue 131 = .ok (.aload_n 0, 1) := by decide +kernel
theorem dX12_cue_132 : decode cX12_cue 132 = .ok (.invokevirtual 172, 3) := by decide +kernel
theorem dX12_cue_135 : decode cX12_cue 135 = .ok (.ireturn, 1) := by decide +kernel
theorem dX12_cue_136 : decode cX12_cue 136 = .ok (.sipush 1132, 3) := by decide +kernel
theorem dX12_cue_139 : decode cX12_cue 139 = .ok (.iconst 5, 1) := by decide +kernel
theorem dX12_cue_140 : decode cX12_cue 140 = .ok (.aload_n 0, 1) := by decide +kernel
theorem dX12_cue_141 : decode cX12_cue 141 = .ok (.getfield 7, 3) := by decide +kernel
theorem dX12_cue_144 : decode cX12_cue 144 = .ok (.sipush 1642, 3) := by decide +kernel
theorem dX12_cue_147 : decode cX12_cue 147 = .ok (.iaload, 1) := by decide +kernel
theorem dX12_cue_148 : decode cX12_cue 148 = .ok (.imul, 1) := by decide +kernel
theorem dX12_cue_149 : decode cX12_cue 149 = .ok (.iadd, 1) := by decide +kernel
theorem dX12_cue_150 : decode cX12_cue 150 = .ok (.istore 6, 2) := by decide +kernel
theorem dX12_cue_152 : decode cX12_cue 152 = .ok (.aload_n 0, 1) := by decide +kernel
theorem dX12_cue_153 : decode cX12_cue 153 = .ok (.getfield 7, 3) := by decide +kernel
theorem dX12_cue_156 : decode cX12_cue 156 = .ok (.iload 6, 2) := by decide +kernel
theorem dX12_cue_158 : decode cX12_cue 158 = .ok (.iload_n 1, 1) := by decide +kernel
theorem dX12_cue_159 : decode cX12_cue 159 = .ok (.iastore, 1) := by decide +kernel
theorem dX12_cue_160 : decode cX12_cue 160 = .ok (.aload_n 0, 1) := by decide +kernel
theorem dX12_cue_161 : decode cX12_cue 161 = .ok (.getfield 7, 3) := by decide +kernel
theorem dX12_cue_164 : decode cX12_cue 164 = .ok (.iload 6, 2) := by decide +kernel
theorem dX12_cue_166 : decode cX12_cue 166 = .ok (.iconst 1, 1) := by decide +kernel
theorem dX12_cue_167 : decode cX12_cue 167 = .ok (.iadd, 1) := by decide +kernel
theorem dX12_cue_168 : decode cX12_cue 168 = .ok (.iload_n 2, 1) := by decide +kernel
theorem dX12_cue_169 : decode cX12_cue 169 = .ok (.iastore, 1) := by decide +kernel
theorem dX12_cue_170 : decode cX12_cue 170 = .ok (.aload_n 0, 1) := by decide +kernel
theorem dX12_cue_171 : decode cX12_cue 171 = .ok (.getfield 7, 3) := by decide +kernel
theorem dX12_cue_174 : decode cX12_cue 174 = .ok (.iload 6, 2) := by decide +kernel
theorem dX12_cue_176 : decode cX12_cue 176 = .ok (.iconst 2, 1) := by decide +kernel
theorem dX12_cue_177 : decode cX12_cue 177 = .ok (.iadd, 1) := by decide +kernel
theorem dX12_cue_178 : decode cX12_cue 178 = .ok (.iload_n 3, 1) := by decide +kernel
theorem dX12_cue_179 : decode cX12_cue 179 = .ok (.iastore, 1) := by decide +kernel
theorem dX12_cue_180 : decode cX12_cue 180 = .ok (.aload_n 0, 1) := by decide +kernel
theorem dX12_cue_181 : decode cX12_cue 181 = .ok (.getfield 7, 3) := by decide +kernel
theorem dX12_cue_184 : decode cX12_cue 184 = .ok (.iload 6, 2) := by decide +kernel
theorem dX12_cue_186 : decode cX12_cue 186 = .ok (.iconst 3, 1) := by decide +kernel
theorem dX12_cue_187 : decode cX12_cue 187 = .ok (.iadd, 1) := by decide +kernel
theorem dX12_cue_188 : decode cX12_cue 188 = .ok (.iload 4, 2) := by decide +kernel
theorem dX12_cue_190 : decode cX12_cue 190 = .ok (.iastore, 1) := by decide +kernel
theorem dX12_cue_191 : decode cX12_cue 191 = .ok (.aload_n 0, 1) := by decide +kernel
theorem dX12_cue_192 : decode cX12_cue 192 = .ok (.getfield 7, 3) := by decide +kernel
theorem dX12_cue_195 : decode cX12_cue 195 = .ok (.iload 6, 2) := by decide +kernel
theorem dX12_cue_197 : decode cX12_cue 197 = .ok (.iconst 4, 1) := by decide +kernel
theorem dX12_cue_198 : decode cX12_cue 198 = .ok (.iadd, 1) := by decide +kernel
theorem dX12_cue_199 : decode cX12_cue 199 = .ok (.iconst 0, 1) := by decide +kernel
theorem dX12_cue_200 : decode cX12_cue 200 = .ok (.iastore, 1) := by decide +kernel
theorem dX12_cue_201 : decode cX12_cue 201 = .ok (.aload_n 0, 1) := by decide +kernel
theorem dX12_cue_202 : decode cX12_cue 202 = .ok (.getfield 7, 3) := by decide +kernel
theorem dX12_cue_205 : decode cX12_cue 205 = .ok (.sipush 1642, 3) := by decide +kernel
theorem dX12_cue_208 : decode cX12_cue 208 = .ok (.dup2, 1) := by decide +kernel
theorem dX12_cue_209 : decode cX12_cue 209 = .ok (.iaload, 1) := by decide +kernel
theorem dX12_cue_210 : decode cX12_cue 210 = .ok (.iconst 1, 1) := by decide +kernel
theorem dX12_cue_211 : decode cX12_cue 211 = .ok (.iadd, 1) := by decide +kernel
theorem dX12_cue_212 : decode cX12_cue 212 = .ok (.iastore, 1) := by decide +kernel
theorem dX12_cue_213 : decode cX12_cue 213 = .ok (.aload_n 0, 1) := by decide +kernel
theorem dX12_cue_214 : decode cX12_cue 214 = .ok (.aload_n 0, 1) := by decide +kernel
theorem dX12_cue_215 : decode cX12_cue 215 = .ok (.getfield 7, 3) := by decide +kernel
theorem dX12_cue_218 : decode cX12_cue 218 = .ok (.sipush 1642, 3) := by decide +kernel
theorem dX12_cue_221 : decode cX12_cue 221 = .ok (.iaload, 1) := by decide +kernel
theorem dX12_cue_222 : decode cX12_cue 222 = .ok (.iconst 1, 1) := by decide +kernel
theorem dX12_cue_223 : decode cX12_cue 223 = .ok (.isub, 1) := by decide +kernel
theorem dX12_cue_224 : decode cX12_cue 224 = .ok (.invokevirtual 176, 3) := by decide +kernel
theorem dX12_cue_227 : decode cX12_cue 227 = .ok (.ireturn, 1) := by decide +kernel
theorem w_X12_cue_j45 {z : (Int32 × VT)} {Γ : Gam} {cy : Nat → ClassId} {a : Nat → Nat} {V : VT} {X : va_W}  (C0 : CXg Γ cX12_cue 7 2 RX12 cy) (hD : DM Γ cy a X) (h : f_X12_cue_j45 V = some z) (hz : (fun y : Int32 × VT => FinI Γ cX12_cue (WM cy a y.2 X) y.1) z) : Wp Γ 0 0 45 [(0, .ref (a 0))] [] (WM cy a V X) := by
  unfold f_X12_cue_j45 at h
  refine r_aload_n C0 dX12_cue_45 rfl 0 rfl ?_
  refine callV0 C0 h (hD _) mw_X12_refused rv_m tm_X12_172 (fun y hy => c_X12_refused hy) (Nat.le_of_ble_eq_true rfl) (Nat.le_of_ble_eq_true rfl) dX12_cue_46 (fun r4 h => ?_)
  cases h
  exact hz _ _ dX12_cue_49
theorem w_X12_cue_j131 {z : (Int32 × VT)} {Γ : Gam} {cy : Nat → ClassId} {a : Nat → Nat} {V : VT} {X : va_W}  (C0 : CXg Γ cX12_cue 7 2 RX12 cy) (hD : DM Γ cy a X) (h : f_X12_cue_j131 V = some z) (hz : (fun y : Int32 × VT => FinI Γ cX12_cue (WM cy a y.2 X) y.1) z) : Wp Γ 0 0 131 [(0, .ref (a 0))] [] (WM cy a V X) := by
  unfold f_X12_cue_j131 at h
  refine r_aload_n C0 dX12_cue_131 rfl 0 rfl ?_
  refine callV0 C0 h (hD _) mw_X12_refused rv_m tm_X12_172 (fun y hy => c_X12_refused hy) (Nat.le_of_ble_eq_true rfl) (Nat.le_of_ble_eq_true rfl) dX12_cue_132 (fun r8 h => ?_)
  cases h
  exact hz _ _ dX12_cue_135
theorem w_X12_cue_j123 {z : (Int32 × VT)} {Γ : Gam} {cy : Nat → ClassId} {a : Nat → Nat} {V : VT} {X : va_W} {v1 : Int32} {v2 : Int32} {v3 : Int32} {v4 : Int32} {s1 : Int32}  (C0 : CXg Γ cX12_cue 7 2 RX12 cy) (hD : DM Γ cy a X) (h : f_X12_cue_j123 v1 v2 v3 v4 s1 V = some z) (hz : (fun y : Int32 × VT => FinI Γ cX12_cue (WM cy a y.2 X) y.1) z) : Wp Γ 0 0 123 [(0, .ref (a 0)), (1, .int v1), (2, .int v2), (3, .int v3), (4, .int v4)] [.int s1, .ref (a 0)] (WM cy a V X) := by
  unfold f_X12_cue_j123 at h
  refine r_bipush C0 dX12_cue_123 kb_11 ?_
  refine callV2 C0 h (hD _) mw_X12_is rv_m tm_X12_168 (fun y hy => c_X12_is hy) (Nat.le_of_ble_eq_true rfl) (Nat.le_of_ble_eq_true rfl) dX12_cue_125 (fun r10 h => ?_)
  refine r_if_eq C0 136 dX12_cue_128 rfl h (fun _ h => ?_) (fun _ h => ?_)
  · refine r_sipush C0 dX12_cue_136 ks_1132 ?_
    refine r_iconst C0 dX12_cue_139 ki_5 ?_
    refine r_aload_n C0 dX12_cue_140 rfl 0 rfl ?_
    refine wmg_0_0 C0 tf_X12_7 dX12_cue_141 ?_
    refine r_sipush C0 dX12_cue_144 ks_1642 ?_
    refine wmal_1 C0 h dX12_cue_147 (fun k11 h => ?_)
    refine r_imul C0 dX12_cue_148 ?_
    refine r_iadd C0 dX12_cue_149 ?_
    obtain ⟨a12, h8, h⟩ := op_bind h
    have e8 := Option.some.inj h8
    refine r_istore (lv2 := [(6, .int a12), (0, .ref (a 0)), (1, .int v1), (2, .int v2), (3, .int v3), (4, .int v4)]) C0 dX12_cue_150 e8 (Nat.le_of_ble_eq_true rfl) rfl ?_
    refine r_aload_n C0 dX12_cue_152 rfl 1 rfl ?_
    refine wmg_0_0 C0 tf_X12_7 dX12_cue_153 ?_
    refine r_iload C0 dX12_cue_156 0 rfl ?_
    refine r_iload_n C0 dX12_cue_158 rfl 2 rfl ?_
    refine wmas_1 C0 hD h dX12_cue_159 (fun k13 h => ?_)
    refine r_aload_n C0 dX12_cue_160 rfl 1 rfl ?_
    refine wmg_0_0 C0 tf_X12_7 dX12_cue_161 ?_
    refine r_iload C0 dX12_cue_164 0 rfl ?_
    refine r_iconst C0 dX12_cue_166 ki_1 ?_
    refine r_iadd C0 dX12_cue_167 ?_
    refine r_iload_n C0 dX12_cue_168 rfl 3 rfl ?_
    refine wmas_1 C0 hD h dX12_cue_169 (fun k14 h => ?_)
    refine r_aload_n C0 dX12_cue_170 rfl 1 rfl ?_
    refine wmg_0_0 C0 tf_X12_7 dX12_cue_171 ?_
    refine r_iload C0 dX12_cue_174 0 rfl ?_
    refine r_iconst C0 dX12_cue_176 ki_2 ?_
    refine r_iadd C0 dX12_cue_177 ?_
    refine r_iload_n C0 dX12_cue_178 rfl 4 rfl ?_
    refine wmas_1 C0 hD h dX12_cue_179 (fun k15 h => ?_)
    refine r_aload_n C0 dX12_cue_180 rfl 1 rfl ?_
    refine wmg_0_0 C0 tf_X12_7 dX12_cue_181 ?_
    refine r_iload C0 dX12_cue_184 0 rfl ?_
    refine r_iconst C0 dX12_cue_186 ki_3 ?_
    refine r_iadd C0 dX12_cue_187 ?_
    refine r_iload C0 dX12_cue_188 5 rfl ?_
    refine wmas_1 C0 hD h dX12_cue_190 (fun k16 h => ?_)
    refine r_aload_n C0 dX12_cue_191 rfl 1 rfl ?_
    refine wmg_0_0 C0 tf_X12_7 dX12_cue_192 ?_
    refine r_iload C0 dX12_cue_195 0 rfl ?_
    refine r_iconst C0 dX12_cue_197 ki_4 ?_
    refine r_iadd C0 dX12_cue_198 ?_
    refine r_iconst C0 dX12_cue_199 ki_0 ?_
    refine wmas_1 C0 hD h dX12_cue_200 (fun k17 h => ?_)
    refine r_aload_n C0 dX12_cue_201 rfl 1 rfl ?_
    refine wmg_0_0 C0 tf_X12_7 dX12_cue_202 ?_
    refine r_sipush C0 dX12_cue_205 ks_1642 ?_
    refine r_dup2 C0 dX12_cue_208 rfl rfl ?_
    refine wmal_1 C0 h dX12_cue_209 (fun k18 h => ?_)
    refine r_iconst C0 dX12_cue_210 ki_1 ?_
    refine r_iadd C0 dX12_cue_211 ?_
    refine wmas_1 C0 hD h dX12_cue_212 (fun k19 h => ?_)
    refine r_aload_n C0 dX12_cue_213 rfl 1 rfl ?_
    refine r_aload_n C0 dX12_cue_214 rfl 1 rfl ?_
    refine wmg_0_0 C0 tf_X12_7 dX12_cue_215 ?_
    refine r_sipush C0 dX12_cue_218 ks_1642 ?_
    refine wmal_1 C0 h dX12_cue_221 (fun k20 h => ?_)
    refine r_iconst C0 dX12_cue_222 ki_1 ?_
    refine r_isub C0 dX12_cue_223 ?_
    refine callV1 C0 h (hD _) mw_X12_keep rv_m tm_X12_176 (fun y hy => c_X12_keep hy) (Nat.le_of_ble_eq_true rfl) (Nat.le_of_ble_eq_true rfl) dX12_cue_224 (fun r21 h => ?_)
    cases h
    exact hz _ _ dX12_cue_227
  · exact r_sub [0] rfl (w_X12_cue_j131 C0 hD h hz)
theorem w_X12_cue_j91 {z : (Int32 × VT)} {Γ : Gam} {cy : Nat → ClassId} {a : Nat → Nat} {V : VT} {X : va_W} {v1 : Int32} {v2 : Int32} {v3 : Int32} {v4 : Int32} {s0 : Int32}  (C0 : CXg Γ cX12_cue 7 2 RX12 cy) (hD : DM Γ cy a X) (h : f_X12_cue_j91 v1 v2 v3 v4 s0 V = some z) (hz : (fun y : Int32 × VT => FinI Γ cX12_cue (WM cy a y.2 X) y.1) z) : Wp Γ 0 0 91 [(0, .ref (a 0)), (1, .int v1), (2, .int v2), (3, .int v3), (4, .int v4)] [.int s0] (WM cy a V X) := by
  unfold f_X12_cue_j91 at h
  refine r_istore (lv2 := [(5, .int s0), (0, .ref (a 0)), (1, .int v1), (2, .int v2), (3, .int v3), (4, .int v4)]) C0 dX12_cue_91 rfl (Nat.le_of_ble_eq_true rfl) rfl ?_
  refine r_aload_n C0 dX12_cue_93 rfl 1 rfl ?_
  refine r_iload C0 dX12_cue_94 0 rfl ?_
  refine r_bipush C0 dX12_cue_96 kb_7 ?_
  refine callV2 C0 h (hD _) mw_X12_is rv_m tm_X12_168 (fun y hy => c_X12_is hy) (Nat.le_of_ble_eq_true rfl) (Nat.le_of_ble_eq_true rfl) dX12_cue_98 (fun r7 h => ?_)
  refine r_if_ne C0 131 dX12_cue_101 rfl h (fun _ h => ?_) (fun _ h => ?_)
  · exact r_sub [1] rfl (w_X12_cue_j131 C0 hD h hz)
  · refine r_aload_n C0 dX12_cue_104 rfl 1 rfl ?_
    refine r_aload_n C0 dX12_cue_105 rfl 1 rfl ?_
    refine wmg_0_0 C0 tf_X12_7 dX12_cue_106 ?_
    refine r_sipush C0 dX12_cue_109 ks_1642 ?_
    refine wmal_1 C0 h dX12_cue_112 (fun k9 h => ?_)
    refine r_bipush C0 dX12_cue_113 kb_60 ?_
    refine r_icmp_ne C0 122 dX12_cue_115 rfl h (fun _ h => ?_) (fun _ h => ?_)
    · refine r_iconst C0 dX12_cue_122 ki_0 ?_
      exact r_sub [1, 2, 3, 4, 5] rfl (w_X12_cue_j123 C0 hD h hz)
    · refine r_iconst C0 dX12_cue_118 ki_1 ?_
      refine r_goto C0 123 dX12_cue_119 rfl ?_
      exact r_sub [1, 2, 3, 4, 5] rfl (w_X12_cue_j123 C0 hD h hz)
theorem w_X12_cue_j86 {z : (Int32 × VT)} {Γ : Gam} {cy : Nat → ClassId} {a : Nat → Nat} {V : VT} {X : va_W} {v1 : Int32} {v2 : Int32} {v3 : Int32} {v4 : Int32}  (C0 : CXg Γ cX12_cue 7 2 RX12 cy) (hD : DM Γ cy a X) (h : f_X12_cue_j86 v1 v2 v3 v4 V = some z) (hz : (fun y : Int32 × VT => FinI Γ cX12_cue (WM cy a y.2 X) y.1) z) : Wp Γ 0 0 86 [(0, .ref (a 0)), (1, .int v1), (2, .int v2), (3, .int v3), (4, .int v4)] [] (WM cy a V X) := by
  unfold f_X12_cue_j86 at h
  refine r_iconst C0 dX12_cue_86 ki_1 ?_
  refine r_goto C0 91 dX12_cue_87 rfl ?_
  exact r_sub [0, 1, 2, 3, 4] rfl (w_X12_cue_j91 C0 hD h hz)
theorem w_X12_cue_j38 {z : (Int32 × VT)} {Γ : Gam} {cy : Nat → ClassId} {a : Nat → Nat} {V : VT} {X : va_W} {v1 : Int32} {v2 : Int32} {v3 : Int32} {v4 : Int32} {s1 : Int32}  (C0 : CXg Γ cX12_cue 7 2 RX12 cy) (hD : DM Γ cy a X) (h : f_X12_cue_j38 v1 v2 v3 v4 s1 V = some z) (hz : (fun y : Int32 × VT => FinI Γ cX12_cue (WM cy a y.2 X) y.1) z) : Wp Γ 0 0 38 [(0, .ref (a 0)), (1, .int v1), (2, .int v2), (3, .int v3), (4, .int v4)] [.int s1, .ref (a 0)] (WM cy a V X) := by
  unfold f_X12_cue_j38 at h
  refine r_iconst C0 dX12_cue_38 ki_1 ?_
  refine callV2 C0 h (hD _) mw_X12_is rv_m tm_X12_168 (fun y hy => c_X12_is hy) (Nat.le_of_ble_eq_true rfl) (Nat.le_of_ble_eq_true rfl) dX12_cue_39 (fun r6 h => ?_)
  refine r_if_eq C0 50 dX12_cue_42 rfl h (fun _ h => ?_) (fun _ h => ?_)
  · refine r_iload_n C0 dX12_cue_50 rfl 2 rfl ?_
    refine r_if_eq C0 86 dX12_cue_51 rfl h (fun _ h => ?_) (fun _ h => ?_)
    · exact r_sub [0, 1, 2, 3, 4] rfl (w_X12_cue_j86 C0 hD h hz)
    · refine r_iload_n C0 dX12_cue_54 rfl 2 rfl ?_
      refine r_bipush C0 dX12_cue_55 kb_m5 ?_
      refine r_iconst C0 dX12_cue_57 ki_5 ?_
      refine callS3 C0 h (hD _) ms_X12_in tm_X12_47 (fun y hy => c_X12_in hy) (Nat.le_of_ble_eq_true rfl) (Nat.le_of_ble_eq_true rfl) dX12_cue_58 (fun r22 h => ?_)
      refine r_if_eq C0 86 dX12_cue_61 rfl h (fun _ h => ?_) (fun _ h => ?_)
      · exact r_sub [0, 1, 2, 3, 4] rfl (w_X12_cue_j86 C0 hD h hz)
      · refine r_iload_n C0 dX12_cue_64 rfl 3 rfl ?_
        refine r_iconst C0 dX12_cue_65 ki_0 ?_
        refine r_ldc C0 tk_X12_208 dX12_cue_66 ?_
        refine callS3 C0 h (hD _) ms_X12_in tm_X12_47 (fun y hy => c_X12_in hy) (Nat.le_of_ble_eq_true rfl) (Nat.le_of_ble_eq_true rfl) dX12_cue_68 (fun r23 h => ?_)
        refine r_if_eq C0 86 dX12_cue_71 rfl h (fun _ h => ?_) (fun _ h => ?_)
        · exact r_sub [0, 1, 2, 3, 4] rfl (w_X12_cue_j86 C0 hD h hz)
        · refine r_iload C0 dX12_cue_74 4 rfl ?_
          refine r_iconst C0 dX12_cue_76 ki_1 ?_
          refine r_sipush C0 dX12_cue_77 ks_200 ?_
          refine callS3 C0 h (hD _) ms_X12_in tm_X12_47 (fun y hy => c_X12_in hy) (Nat.le_of_ble_eq_true rfl) (Nat.le_of_ble_eq_true rfl) dX12_cue_80 (fun r24 h => ?_)
          refine r_if_ne C0 90 dX12_cue_83 rfl h (fun _ h => ?_) (fun _ h => ?_)
          · refine r_iconst C0 dX12_cue_90 ki_0 ?_
            exact r_sub [0, 1, 2, 3, 4] rfl (w_X12_cue_j91 C0 hD h hz)
          · exact r_sub [0, 1, 2, 3, 4] rfl (w_X12_cue_j86 C0 hD h hz)
  · exact r_sub [0] rfl (w_X12_cue_j45 C0 hD h hz)
theorem w_X12_cue_j17 {z : (Int32 × VT)} {Γ : Gam} {cy : Nat → ClassId} {a : Nat → Nat} {V : VT} {X : va_W} {v1 : Int32} {v2 : Int32} {v3 : Int32} {v4 : Int32} {s1 : Int32}  (C0 : CXg Γ cX12_cue 7 2 RX12 cy) (hD : DM Γ cy a X) (h : f_X12_cue_j17 v1 v2 v3 v4 s1 V = some z) (hz : (fun y : Int32 × VT => FinI Γ cX12_cue (WM cy a y.2 X) y.1) z) : Wp Γ 0 0 17 [(0, .ref (a 0)), (1, .int v1), (2, .int v2), (3, .int v3), (4, .int v4)] [.int s1, .ref (a 0)] (WM cy a V X) := by
  unfold f_X12_cue_j17 at h
  refine r_iconst C0 dX12_cue_17 ki_2 ?_
  refine callV2 C0 h (hD _) mw_X12_is rv_m tm_X12_168 (fun y hy => c_X12_is hy) (Nat.le_of_ble_eq_true rfl) (Nat.le_of_ble_eq_true rfl) dX12_cue_18 (fun r3 h => ?_)
  refine r_if_ne C0 45 dX12_cue_21 rfl h (fun _ h => ?_) (fun _ h => ?_)
  · exact r_sub [0] rfl (w_X12_cue_j45 C0 hD h hz)
  · refine r_aload_n C0 dX12_cue_24 rfl 0 rfl ?_
    refine r_aload_n C0 dX12_cue_25 rfl 0 rfl ?_
    refine r_iload_n C0 dX12_cue_26 rfl 1 rfl ?_
    refine callV1 C0 h (hD _) mw_X12_isRigged rv_m tm_X12_66 (fun y hy => c_X12_isRigged hy) (Nat.le_of_ble_eq_true rfl) (Nat.le_of_ble_eq_true rfl) dX12_cue_27 (fun r5 h => ?_)
    refine r_if_ne C0 37 dX12_cue_30 rfl h (fun _ h => ?_) (fun _ h => ?_)
    · refine r_iconst C0 dX12_cue_37 ki_0 ?_
      exact r_sub [0, 1, 2, 3, 4] rfl (w_X12_cue_j38 C0 hD h hz)
    · refine r_iconst C0 dX12_cue_33 ki_1 ?_
      refine r_goto C0 38 dX12_cue_34 rfl ?_
      exact r_sub [0, 1, 2, 3, 4] rfl (w_X12_cue_j38 C0 hD h hz)
theorem w_X12_cue {z : Int32 × VT} {Γ : Gam} {cy : Nat → ClassId} {a : Nat → Nat} {V : VT} {X : va_W} {v1 : Int32} {v2 : Int32} {v3 : Int32} {v4 : Int32}  (C0 : CXg Γ cX12_cue 7 2 RX12 cy) (hD : DM Γ cy a X) (h : f_X12_cue v1 v2 v3 v4 V = some z) (hz : (fun y : Int32 × VT => FinI Γ cX12_cue (WM cy a y.2 X) y.1) z) : Wp Γ 0 0 0 [(0, .ref (a 0)), (1, .int v1), (2, .int v2), (3, .int v3), (4, .int v4)] [] (WM cy a V X) := by
  unfold f_X12_cue at h
  refine r_aload_n C0 dX12_cue_0 rfl 0 rfl ?_
  refine callVv0 C0 h (hD _) mw_X12_begin rv_m tm_X12_165 (fun y hy => c_X12_begin hy) (Nat.le_of_ble_eq_true rfl) (Nat.le_of_ble_eq_true rfl) dX12_cue_1 (fun r1 h => ?_)
  refine r_aload_n C0 dX12_cue_4 rfl 0 rfl ?_
  refine r_iload_n C0 dX12_cue_5 rfl 1 rfl ?_
  refine callS1 C0 h (hD _) ms_X12_isBar tm_X12_115 (fun y hy => c_X12_isBar hy) (Nat.le_of_ble_eq_true rfl) (Nat.le_of_ble_eq_true rfl) dX12_cue_6 (fun r2 h => ?_)
  refine r_if_ne C0 16 dX12_cue_9 rfl h (fun _ h => ?_) (fun _ h => ?_)
  · refine r_iconst C0 dX12_cue_16 ki_0 ?_
    exact r_sub [0, 1, 2, 3, 4] rfl (w_X12_cue_j17 C0 hD h hz)
  · refine r_iconst C0 dX12_cue_12 ki_1 ?_
    refine r_goto C0 17 dX12_cue_13 rfl ?_
    exact r_sub [0, 1, 2, 3, 4] rfl (w_X12_cue_j17 C0 hD h hz)
theorem c_X12_cue {l : Launch} {D : va_G} {cy : Nat → ClassId} {a : Nat → Nat} {V : VT} {X : va_W} {v1 : Int32} {v2 : Int32} {v3 : Int32} {v4 : Int32} {y : Int32 × VT} (h : f_X12_cue v1 v2 v3 v4 V = some y) : CT l D cy yX12_cue cX12_cue 7 (some .int) 2 [.ref (a 0), .int v1, .int v2, .int v3, .int v4] (WM cy a V X) (WM cy a y.2 X) (some (.int y.1)) :=
  mkI (by decide) (Nat.le_of_ble_eq_true rfl) (fun Γ _ _ C0 hD hF => w_X12_cue C0 (dm_of hD) h hF)
theorem dX12_hush_0 : decode cX12_hush 0 = .ok (.aload_n 0, 1) := by decide +kernel
theorem dX12_hush_1 : decode cX12_hush 1 = .ok (.invokevirtual 165, 3) := by decide +kernel
theorem dX12_hush_4 : decode cX12_hush 4 = .ok (.aload_n 0, 1) := by decide +kernel
theorem dX12_hush_5 : decode cX12_hush 5 = .ok (.iload_n 1, 1) := by decide +kernel
theorem dX12_hush_6 : decode cX12_hush 6 = .ok (.invokestatic 115, 3) := by decide +kernel
theorem dX12_hush_9 : decode cX12_hush 9 = .ok (.ifCond .ne 7, 3) := by decide +kernel
theorem dX12_hush_12 : decode cX12_hush 12 = .ok (.iconst 1, 1) := by decide +kernel
theorem dX12_hush_13 : decode cX12_hush 13 = .ok (.goto 4, 3) := by decide +kernel
theorem dX12_hush_16 : decode cX12_hush 16 = .ok (.iconst 0, 1) := by decide +kernel
theorem dX12_hush_17 : decode cX12_hush 17 = .ok (.iconst 2, 1) := by decide +kernel
theorem dX12_hush_18 : decode cX12_hush 18 = .ok (.invokevirtual 168, 3) := by decide +kernel
theorem dX12_hush_21 : decode cX12_hush 21 = .ok (.ifCond .ne 24, 3) := by decide +kernel
theorem dX12_hush_24 : decode cX12_hush 24 = .ok (.aload_n 0, 1) := by decide +kernel
theorem dX12_hush_25 : decode cX12_hush 25 = .ok (.aload_n 0, 1) := by decide +kernel
theorem dX12_hush_26 : decode cX12_hush 26 = .ok (.iload_n 1, 1) := by decide +kernel
theorem dX12_hush_27 : decode cX12_hush 27 = .ok (.invokevirtual 66, 3) := by decide +kernel
theorem dX12_hush_30 : decode cX12_hush 30 = .ok (.ifCond .ne 7, 3) := by decide +kernel
theorem dX12_hush_33 : decode cX12_hush 33 = .ok (.iconst 1, 1) := by decide +kernel
theorem dX12_hush_34 : decode cX12_hush 34 = .ok (.goto 4, 3) := by decide +kernel
theorem dX12_hush_37 : decode cX12_hush 37 = .ok (.iconst 0, 1) := by decide +kernel
theorem dX12_hush_38 : decode cX12_hush 38 = .ok (.iconst 1, 1) := by decide +kernel
theorem dX12_hush_39 : decode cX12_hush 39 = .ok (.invokevirtual 168, 3) := by decide +kernel
theorem dX12_hush_42 : decode cX12_hush 42 = .ok (.ifCond .eq 8, 3) := by decide +kernel
theorem dX12_hush_45 : decode cX12_hush 45 = .ok (.aload_n 0, 1) := by decide +kernel
theorem dX12_hush_46 : decode cX12_hush 46 = .ok (.invokevirtual 172, 3) := by decide +kernel
theorem dX12_hush_49 : decode cX12_hush 49 = .ok (.ireturn, 1) := by decide +kernel
theorem dX12_hush_50 : decode cX12_hush 50 = .ok (.iconst 0, 1) := by decide +kernel
theorem dX12_hush_51 : decode cX12_hush 51 = .ok (.istore_n 2, 1) := by decide +kernel
theorem dX12_hush_52 : decode cX12_hush 52 = .ok (.iconst 0, 1) := by decide +kernel
theorem dX12_hush_53 : decode cX12_hush 53 = .ok (.istore_n 3, 1) := by decide +kernel
theorem dX12_hush_54 : decode cX12_hush 54 = .ok (.iload_n 3, 1) := by decide +kernel
theorem dX12_hush_55 : decode cX12_hush 55 = .ok (.aload_n 0, 1) := by decide +kernel
theorem dX12_hush_56 : decode cX12_hush 56 = .ok (.getfield 7, 3) := by decide +kernel
theorem dX12_hush_59 : decode cX12_hush 59 = .ok (.sipush 1642, 3) := by decide +kernel
theorem dX12_hush_62 : decode cX12_hush 62 = .ok (.iaload, 1) := by decide +kernel
theorem dX12_hush_63 : decode cX12_hush 63 = .ok (.if_icmp .ge 48, 3) := by decide +kernel
theorem dX12_hush_66 : decode cX12_hush 66 = .ok (.aload_n 0, 1) := by decide +kernel
theorem dX12_hush_67 : decode cX12_hush 67 = .ok (.iload_n 3, 1) := by decide +kernel
theorem dX12_hush_68 : decode cX12_hush 68 = .ok (.iconst 0, 1) := by decide +kernel
theorem dX12_hush_69 : decode cX12_hush 69 = .ok (.invokevirtual 140, 3) := by decide +kernel
theorem dX12_hush_72 : decode cX12_hush 72 = .ok (.iload_n 1, 1) := by decide +kernel
theorem dX12_hush_73 : decode cX12_hush 73 = .ok (.if_icmp .ne 32, 3) := by decide +kernel
theorem dX12_hush_76 : decode cX12_hush 76 = .ok (.aload_n 0, 1) := by decide +kernel
theorem dX12_hush_77 : decode cX12_hush 77 = .ok (.iload_n 3, 1) := by decide +kernel
theorem dX12_hush_78 : decode cX12_hush 78 = .ok (.invokevirtual 179, 3) := by decide +kernel
theorem dX12_hush_81 : decode cX12_hush 81 = .ok (.ifCond .ne 6, 3) := by decide +kernel
theorem dX12_hush_84 : decode cX12_hush 84 = .ok (.goto 21, 3) := by decide +kernel
theorem dX12_hush_87 : decode cX12_hush 87 = .ok (.aload_n 0, 1) := by decide +kernel
theorem dX12_hush_88 : decode cX12_hush 88 = .ok (.getfield 7, 3) := by decide +kernel
theorem dX12_hush_91 : decode cX12_hush 91 = .ok (.sipush 1132, 3) := by decide +kernel
theorem dX12_hush_94 : decode cX12_hush 94 = .ok (.iconst 5, 1) := by decide +kernel
theorem dX12_hush_95 : decode cX12_hush 95 = .ok (.iload_n 3, 1) := by decide +kernel
theorem dX12_hush_96 : decode cX12_hush 96 = .ok (.imul, 1) := by decide +kernel
theorem dX12_hush_97 : decode cX12_hush 97 = .ok (.iadd, 1) := by decide +kernel
theorem dX12_hush_98 : decode cX12_hush 98 = .ok (.iconst 4, 1) := by decide +kernel
theorem dX12_hush_99 : decode cX12_hush 99 = .ok (.iadd, 1) := by decide +kernel
theorem dX12_hush_100 : decode cX12_hush 100 = .ok (.iconst 1, 1) := by decide +kernel
theorem dX12_hush_101 : decode cX12_hush 101 = .ok (.iastore, 1) := by decide +kernel
theorem dX12_hush_102 : decode cX12_hush 102 = .ok (.iinc 2 1, 3) := by decide +kernel
theorem dX12_hush_105 : decode cX12_hush 105 = .ok (.iinc 3 1, 3) := by decide +kernel
theorem dX12_hush_108 : decode cX12_hush 108 = .ok (.goto (-54), 3) := by decide +kernel
theorem dX12_hush_111 : decode cX12_hush 111 = .ok (.aload_n 0, 1) := by decide +kernel
theorem dX12_hush_112 : decode cX12_hush 112 = .ok (.iload_n 2, 1) := by decide +kernel
theorem dX12_hush_113 : decode cX12_hush 113 = .ok (.invokevirtual 176, 3) := by decide +kernel
theorem dX12_hush_116 : decode cX12_hush 116 = .ok (.ireturn, 1) := by decide +kernel
theorem w_X12_hush_j45 {z : (Int32 × VT)} {Γ : Gam} {cy : Nat → ClassId} {a : Nat → Nat} {V : VT} {X : va_W}  (C0 : CXg Γ cX12_hush 4 2 RX12 cy) (hD : DM Γ cy a X) (h : f_X12_hush_j45 V = some z) (hz : (fun y : Int32 × VT => FinI Γ cX12_hush (WM cy a y.2 X) y.1) z) : Wp Γ 0 0 45 [(0, .ref (a 0))] [] (WM cy a V X) := by
  unfold f_X12_hush_j45 at h
  refine r_aload_n C0 dX12_hush_45 rfl 0 rfl ?_
  refine callV0 C0 h (hD _) mw_X12_refused rv_m tm_X12_172 (fun y hy => c_X12_refused hy) (Nat.le_of_ble_eq_true rfl) (Nat.le_of_ble_eq_true rfl) dX12_hush_46 (fun r4 h => ?_)
  cases h
  exact hz _ _ dX12_hush_49
theorem w_X12_hush_j105 {z : ((Int32 × Int32 × VT) ⊕ (Int32 × VT))} {Γ : Gam} {cy : Nat → ClassId} {a : Nat → Nat} {V : VT} {X : va_W} {v1 : Int32} {v2 : Int32} {v3 : Int32}  (C0 : CXg Γ cX12_hush 4 2 RX12 cy) (hD : DM Γ cy a X) (h : f_X12_hush_j105 v1 v2 v3 V = some z) (hz : (Sum.elim (fun x : Int32 × Int32 × VT => Wp Γ 0 0 54 [(0, .ref (a 0)), (1, .int v1), (2, .int x.1), (3, .int x.2.1)] [] (WM cy a x.2.2 X)) (fun y : Int32 × VT => FinI Γ cX12_hush (WM cy a y.2 X) y.1)) z) : Wp Γ 0 0 105 [(0, .ref (a 0)), (1, .int v1), (2, .int v2), (3, .int v3)] [] (WM cy a V X) := by
  unfold f_X12_hush_j105 at h
  obtain ⟨a13, h8, h⟩ := op_bind h
  have e8 := Option.some.inj h8
  refine r_iinc (lv2 := [(3, .int a13), (0, .ref (a 0)), (1, .int v1), (2, .int v2)]) C0 dX12_hush_105 3 rfl ki_1 e8 (Nat.le_of_ble_eq_true rfl) rfl ?_
  refine r_goto C0 54 dX12_hush_108 rfl ?_
  cases h
  have hz := el_inl hz
  exact r_sub [1, 2, 3, 0] rfl hz
theorem w_X12_hush_B54 {x : Int32 × Int32 × VT} {z : ((Int32 × Int32 × VT) ⊕ (Int32 × VT))} {Γ : Gam} {cy : Nat → ClassId} {a : Nat → Nat} {X : va_W} {v1 : Int32}  (C0 : CXg Γ cX12_hush 4 2 RX12 cy) (hD : DM Γ cy a X) (h : f_X12_hush_B54 v1 x = some z) (hz : (Sum.elim (fun x : Int32 × Int32 × VT => Wp Γ 0 0 54 [(0, .ref (a 0)), (1, .int v1), (2, .int x.1), (3, .int x.2.1)] [] (WM cy a x.2.2 X)) (fun y : Int32 × VT => FinI Γ cX12_hush (WM cy a y.2 X) y.1)) z) : Wp Γ 0 0 54 [(0, .ref (a 0)), (1, .int v1), (2, .int x.1), (3, .int x.2.1)] [] (WM cy a x.2.2 X) := by
  unfold f_X12_hush_B54 at h
  refine r_iload_n C0 dX12_hush_54 rfl 3 rfl ?_
  refine r_aload_n C0 dX12_hush_55 rfl 0 rfl ?_
  refine wmg_0_0 C0 tf_X12_7 dX12_hush_56 ?_
  refine r_sipush C0 dX12_hush_59 ks_1642 ?_
  refine wmal_1 C0 h dX12_hush_62 (fun k9 h => ?_)
  refine r_icmp_ge C0 111 dX12_hush_63 rfl h (fun _ h => ?_) (fun _ h => ?_)
  · obtain ⟨y10, h5, h9⟩ := op_bind h
    clear h
    cases h9
    have hz := (el_inr hz)
    have h := h5
    refine r_aload_n C0 dX12_hush_111 rfl 0 rfl ?_
    refine r_iload_n C0 dX12_hush_112 rfl 2 rfl ?_
    refine callV1 C0 h (hD _) mw_X12_keep rv_m tm_X12_176 (fun y hy => c_X12_keep hy) (Nat.le_of_ble_eq_true rfl) (Nat.le_of_ble_eq_true rfl) dX12_hush_113 (fun r11 h => ?_)
    cases h
    exact hz _ _ dX12_hush_116
  · refine r_aload_n C0 dX12_hush_66 rfl 0 rfl ?_
    refine r_iload_n C0 dX12_hush_67 rfl 3 rfl ?_
    refine r_iconst C0 dX12_hush_68 ki_0 ?_
    refine callV2 C0 h (hD _) mw_X12_cueIs rv_m tm_X12_140 (fun y hy => c_X12_cueIs hy) (Nat.le_of_ble_eq_true rfl) (Nat.le_of_ble_eq_true rfl) dX12_hush_69 (fun r12 h => ?_)
    refine r_iload_n C0 dX12_hush_72 rfl 1 rfl ?_
    refine r_icmp_ne C0 105 dX12_hush_73 rfl h (fun _ h => ?_) (fun _ h => ?_)
    · exact r_sub [0, 1, 2, 3] rfl (w_X12_hush_j105 C0 hD h hz)
    · refine r_aload_n C0 dX12_hush_76 rfl 0 rfl ?_
      refine r_iload_n C0 dX12_hush_77 rfl 3 rfl ?_
      refine callV1 C0 h (hD _) mw_X12_isNotOver rv_m tm_X12_179 (fun y hy => c_X12_isNotOver hy) (Nat.le_of_ble_eq_true rfl) (Nat.le_of_ble_eq_true rfl) dX12_hush_78 (fun r14 h => ?_)
      refine r_if_ne C0 87 dX12_hush_81 rfl h (fun _ h => ?_) (fun _ h => ?_)
      · refine r_aload_n C0 dX12_hush_87 rfl 0 rfl ?_
        refine wmg_0_0 C0 tf_X12_7 dX12_hush_88 ?_
        refine r_sipush C0 dX12_hush_91 ks_1132 ?_
        refine r_iconst C0 dX12_hush_94 ki_5 ?_
        refine r_iload_n C0 dX12_hush_95 rfl 3 rfl ?_
        refine r_imul C0 dX12_hush_96 ?_
        refine r_iadd C0 dX12_hush_97 ?_
        refine r_iconst C0 dX12_hush_98 ki_4 ?_
        refine r_iadd C0 dX12_hush_99 ?_
        refine r_iconst C0 dX12_hush_100 ki_1 ?_
        refine wmas_1 C0 hD h dX12_hush_101 (fun k15 h => ?_)
        obtain ⟨a16, h8, h⟩ := op_bind h
        have e8 := Option.some.inj h8
        refine r_iinc (lv2 := [(2, .int a16), (0, .ref (a 0)), (1, .int v1), (3, .int x.2.1)]) C0 dX12_hush_102 2 rfl ki_1 e8 (Nat.le_of_ble_eq_true rfl) rfl ?_
        exact r_sub [1, 2, 0, 3] rfl (w_X12_hush_j105 C0 hD h hz)
      · refine r_goto C0 105 dX12_hush_84 rfl ?_
        exact r_sub [0, 1, 2, 3] rfl (w_X12_hush_j105 C0 hD h hz)
theorem w_X12_hush_B54_lp {x : Int32 × Int32 × VT} {z : (Int32 × VT)} {Γ : Gam} {cy : Nat → ClassId} {a : Nat → Nat} {X : va_W} {v1 : Int32}  (C0 : CXg Γ cX12_hush 4 2 RX12 cy) (hD : DM Γ cy a X) (h : lp (f_X12_hush_B54 v1) fuel x = some z) (hz : (fun y : Int32 × VT => FinI Γ cX12_hush (WM cy a y.2 X) y.1) z) : Wp Γ 0 0 54 [(0, .ref (a 0)), (1, .int v1), (2, .int x.1), (3, .int x.2.1)] [] (WM cy a x.2.2 X) :=
  lp_rule (hd := (fun x : Int32 × Int32 × VT => Wp Γ 0 0 54 [(0, .ref (a 0)), (1, .int v1), (2, .int x.1), (3, .int x.2.1)] [] (WM cy a x.2.2 X))) (C := (fun y : Int32 × VT => FinI Γ cX12_hush (WM cy a y.2 X) y.1)) (fun x z h hz => w_X12_hush_B54 C0 hD h hz) _ _ _ h hz
theorem w_X12_hush_j38 {z : (Int32 × VT)} {Γ : Gam} {cy : Nat → ClassId} {a : Nat → Nat} {V : VT} {X : va_W} {v1 : Int32} {s1 : Int32}  (C0 : CXg Γ cX12_hush 4 2 RX12 cy) (hD : DM Γ cy a X) (h : f_X12_hush_j38 v1 s1 V = some z) (hz : (fun y : Int32 × VT => FinI Γ cX12_hush (WM cy a y.2 X) y.1) z) : Wp Γ 0 0 38 [(0, .ref (a 0)), (1, .int v1)] [.int s1, .ref (a 0)] (WM cy a V X) := by
  unfold f_X12_hush_j38 at h
  refine r_iconst C0 dX12_hush_38 ki_1 ?_
  refine callV2 C0 h (hD _) mw_X12_is rv_m tm_X12_168 (fun y hy => c_X12_is hy) (Nat.le_of_ble_eq_true rfl) (Nat.le_of_ble_eq_true rfl) dX12_hush_39 (fun r6 h => ?_)
  refine r_if_eq C0 50 dX12_hush_42 rfl h (fun _ h => ?_) (fun _ h => ?_)
  · refine r_iconst C0 dX12_hush_50 ki_0 ?_
    obtain ⟨a7, h8, h⟩ := op_bind h
    have e8 := Option.some.inj h8
    refine r_istore_n (lv2 := [(2, .int a7), (0, .ref (a 0)), (1, .int v1)]) C0 dX12_hush_51 rfl e8 (Nat.le_of_ble_eq_true rfl) rfl ?_
    refine r_iconst C0 dX12_hush_52 ki_0 ?_
    obtain ⟨a8, h8, h⟩ := op_bind h
    have e8 := Option.some.inj h8
    refine r_istore_n (lv2 := [(3, .int a8), (2, .int a7), (0, .ref (a 0)), (1, .int v1)]) C0 dX12_hush_53 rfl e8 (Nat.le_of_ble_eq_true rfl) rfl ?_
    exact r_sub [2, 3, 1, 0] rfl (w_X12_hush_B54_lp C0 hD h hz)
  · exact r_sub [0] rfl (w_X12_hush_j45 C0 hD h hz)
theorem w_X12_hush_j17 {z : (Int32 × VT)} {Γ : Gam} {cy : Nat → ClassId} {a : Nat → Nat} {V : VT} {X : va_W} {v1 : Int32} {s1 : Int32}  (C0 : CXg Γ cX12_hush 4 2 RX12 cy) (hD : DM Γ cy a X) (h : f_X12_hush_j17 v1 s1 V = some z) (hz : (fun y : Int32 × VT => FinI Γ cX12_hush (WM cy a y.2 X) y.1) z) : Wp Γ 0 0 17 [(0, .ref (a 0)), (1, .int v1)] [.int s1, .ref (a 0)] (WM cy a V X) := by
  unfold f_X12_hush_j17 at h
  refine r_iconst C0 dX12_hush_17 ki_2 ?_
  refine callV2 C0 h (hD _) mw_X12_is rv_m tm_X12_168 (fun y hy => c_X12_is hy) (Nat.le_of_ble_eq_true rfl) (Nat.le_of_ble_eq_true rfl) dX12_hush_18 (fun r3 h => ?_)
  refine r_if_ne C0 45 dX12_hush_21 rfl h (fun _ h => ?_) (fun _ h => ?_)
  · exact r_sub [0] rfl (w_X12_hush_j45 C0 hD h hz)
  · refine r_aload_n C0 dX12_hush_24 rfl 0 rfl ?_
    refine r_aload_n C0 dX12_hush_25 rfl 0 rfl ?_
    refine r_iload_n C0 dX12_hush_26 rfl 1 rfl ?_
    refine callV1 C0 h (hD _) mw_X12_isRigged rv_m tm_X12_66 (fun y hy => c_X12_isRigged hy) (Nat.le_of_ble_eq_true rfl) (Nat.le_of_ble_eq_true rfl) dX12_hush_27 (fun r5 h => ?_)
    refine r_if_ne C0 37 dX12_hush_30 rfl h (fun _ h => ?_) (fun _ h => ?_)
    · refine r_iconst C0 dX12_hush_37 ki_0 ?_
      exact r_sub [0, 1] rfl (w_X12_hush_j38 C0 hD h hz)
    · refine r_iconst C0 dX12_hush_33 ki_1 ?_
      refine r_goto C0 38 dX12_hush_34 rfl ?_
      exact r_sub [0, 1] rfl (w_X12_hush_j38 C0 hD h hz)
theorem w_X12_hush {z : Int32 × VT} {Γ : Gam} {cy : Nat → ClassId} {a : Nat → Nat} {V : VT} {X : va_W} {v1 : Int32}  (C0 : CXg Γ cX12_hush 4 2 RX12 cy) (hD : DM Γ cy a X) (h : f_X12_hush v1 V = some z) (hz : (fun y : Int32 × VT => FinI Γ cX12_hush (WM cy a y.2 X) y.1) z) : Wp Γ 0 0 0 [(0, .ref (a 0)), (1, .int v1)] [] (WM cy a V X) := by
  unfold f_X12_hush at h
  refine r_aload_n C0 dX12_hush_0 rfl 0 rfl ?_
  refine callVv0 C0 h (hD _) mw_X12_begin rv_m tm_X12_165 (fun y hy => c_X12_begin hy) (Nat.le_of_ble_eq_true rfl) (Nat.le_of_ble_eq_true rfl) dX12_hush_1 (fun r1 h => ?_)
  refine r_aload_n C0 dX12_hush_4 rfl 0 rfl ?_
  refine r_iload_n C0 dX12_hush_5 rfl 1 rfl ?_
  refine callS1 C0 h (hD _) ms_X12_isBar tm_X12_115 (fun y hy => c_X12_isBar hy) (Nat.le_of_ble_eq_true rfl) (Nat.le_of_ble_eq_true rfl) dX12_hush_6 (fun r2 h => ?_)
  refine r_if_ne C0 16 dX12_hush_9 rfl h (fun _ h => ?_) (fun _ h => ?_)
  · refine r_iconst C0 dX12_hush_16 ki_0 ?_
    exact r_sub [0, 1] rfl (w_X12_hush_j17 C0 hD h hz)
  · refine r_iconst C0 dX12_hush_12 ki_1 ?_
    refine r_goto C0 17 dX12_hush_13 rfl ?_
    exact r_sub [0, 1] rfl (w_X12_hush_j17 C0 hD h hz)
theorem c_X12_hush {l : Launch} {D : va_G} {cy : Nat → ClassId} {a : Nat → Nat} {V : VT} {X : va_W} {v1 : Int32} {y : Int32 × VT} (h : f_X12_hush v1 V = some y) : CT l D cy yX12_hush cX12_hush 4 (some .int) 2 [.ref (a 0), .int v1] (WM cy a V X) (WM cy a y.2 X) (some (.int y.1)) :=
  mkI (by decide) (Nat.le_of_ble_eq_true rfl) (fun Γ _ _ C0 hD hF => w_X12_hush C0 (dm_of hD) h hF)
theorem dX12_go_0 : decode cX12_go 0 = .ok (.aload_n 0, 1) := by decide +kernel
theorem dX12_go_1 : decode cX12_go 1 = .ok (.invokevirtual 165, 3) := by decide +kernel
theorem dX12_go_4 : decode cX12_go 4 = .ok (.aload_n 0, 1) := by decide +kernel
theorem dX12_go_5 : decode cX12_go 5 = .ok (.iload_n 1, 1) := by decide +kernel
theorem dX12_go_6 : decode cX12_go 6 = .ok (.iconst 1, 1) := by decide +kernel
theorem dX12_go_7 : decode cX12_go 7 = .ok (.bipush 100, 2) := by decide +kernel
theorem dX12_go_9 : decode cX12_go 9 = .ok (.invokestatic 47, 3) := by decide +kernel
theorem dX12_go_12 : decode cX12_go 12 = .ok (.ifCond .ne 7, 3) := by decide +kernel
theorem dX12_go_15 : decode cX12_go 15 = .ok (.iconst 1, 1) := by decide +kernel
theorem dX12_go_16 : decode cX12_go 16 = .ok (.goto 4, 3) := by decide +kernel
theorem dX12_go_19 : decode cX12_go 19 = .ok (.iconst 0, 1) := by decide +kernel
theorem dX12_go_20 : decode cX12_go 20 = .ok (.bipush 7, 2) := by decide +kernel
theorem dX12_go_22 : decode cX12_go 22 = .ok (.invokevirtual 168, 3) := by decide +kernel
theorem dX12_go_25 : decode cX12_go 25 = .ok (.ifCond .eq 8, 3) := by decide +kernel
theorem dX12_go_28 : decode cX12_go 28 = .ok (.aload_n 0, 1) := by decide +kernel
theorem dX12_go_29 : decode cX12_go 29 = .ok (.invokevirtual 172, 3) := by decide +kernel
theorem dX12_go_32 : decode cX12_go 32 = .ok (.ireturn, 1) := by decide +kernel
theorem dX12_go_33 : decode cX12_go 33 = .ok (.iconst 0, 1) := by decide +kernel
theorem dX12_go_34 : decode cX12_go 34 = .ok (.istore_n 2, 1) := by decide +kernel
theorem dX12_go_35 : decode cX12_go 35 = .ok (.iconst 0, 1) := by decide +kernel
theorem dX12_go_36 : decode cX12_go 36 = .ok (.istore_n 3, 1) := by decide +kernel
theorem dX12_go_37 : decode cX12_go 37 = .ok (.iload_n 3, 1) := by decide +kernel
theorem dX12_go_38 : decode cX12_go 38 = .ok (.iload_n 1, 1) := by decide +kernel
theorem dX12_go_39 : decode cX12_go 39 = .ok (.if_icmp .ge 16, 3) := by decide +kernel
theorem dX12_go_42 : decode cX12_go 42 = .ok (.iload_n 2, 1) := by decide +kernel
theorem dX12_go_43 : decode cX12_go 43 = .ok (.aload_n 0, 1) := by decide +kernel
theorem dX12_go_44 : decode cX12_go 44 = .ok (.invokevirtual 209, 3) := by decide +kernel
theorem dX12_go_47 : decode cX12_go 47 = .ok (.iadd, 1) := by decide +kernel
theorem dX12_go_48 : decode cX12_go 48 = .ok (.istore_n 2, 1) := by decide +kernel
theorem dX12_go_49 : decode cX12_go 49 = .ok (.iinc 3 1, 3) := by decide +kernel
theorem dX12_go_52 : decode cX12_go 52 = .ok (.goto (-15), 3) := by decide +kernel
theorem dX12_go_55 : decode cX12_go 55 = .ok (.aload_n 0, 1) := by decide +kernel
theorem dX12_go_56 : decode cX12_go 56 = .ok (.getfield 7, 3) := by decide +kernel
theorem dX12_go_59 : decode cX12_go 59 = .ok (.sipush 1644, 3) := by decide +kernel
theorem dX12_go_62 : decode cX12_go 62 = .ok (.dup2, 1) := by decide +kernel
theorem dX12_go_63 : decode cX12_go 63 = .ok (.iaload, 1) := by decide +kernel
theorem dX12_go_64 : decode cX12_go 64 = .ok (.iload_n 2, 1) := by decide +kernel
theorem dX12_go_65 : decode cX12_go 65 = .ok (.iadd, 1) := by decide +kernel
theorem dX12_go_66 : decode cX12_go 66 = .ok (.iastore, 1) := by decide +kernel
theorem dX12_go_67 : decode cX12_go 67 = .ok (.aload_n 0, 1) := by decide +kernel
theorem dX12_go_68 : decode cX12_go 68 = .ok (.iload_n 2, 1) := by decide +kernel
theorem dX12_go_69 : decode cX12_go 69 = .ok (.invokevirtual 176, 3) := by decide +kernel
theorem dX12_go_72 : decode cX12_go 72 = .ok (.ireturn, 1) := by decide +kernel
theorem w_X12_go_B37 {x : Int32 × Int32 × VT} {z : ((Int32 × Int32 × VT) ⊕ (Int32 × VT))} {Γ : Gam} {cy : Nat → ClassId} {a : Nat → Nat} {X : va_W} {v1 : Int32}  (C0 : CXg Γ cX12_go 4 8 RX12 cy) (hD : DM Γ cy a X) (h : f_X12_go_B37 v1 x = some z) (hz : (Sum.elim (fun x : Int32 × Int32 × VT => Wp Γ 0 0 37 [(0, .ref (a 0)), (1, .int v1), (2, .int x.1), (3, .int x.2.1)] [] (WM cy a x.2.2 X)) (fun y : Int32 × VT => FinI Γ cX12_go (WM cy a y.2 X) y.1)) z) : Wp Γ 0 0 37 [(0, .ref (a 0)), (1, .int v1), (2, .int x.1), (3, .int x.2.1)] [] (WM cy a x.2.2 X) := by
  unfold f_X12_go_B37 at h
  refine r_iload_n C0 dX12_go_37 rfl 3 rfl ?_
  refine r_iload_n C0 dX12_go_38 rfl 1 rfl ?_
  refine r_icmp_ge C0 55 dX12_go_39 rfl h (fun _ h => ?_) (fun _ h => ?_)
  · obtain ⟨y6, h5, h9⟩ := op_bind h
    clear h
    cases h9
    have hz := (el_inr hz)
    have h := h5
    refine r_aload_n C0 dX12_go_55 rfl 0 rfl ?_
    refine wmg_0_0 C0 tf_X12_7 dX12_go_56 ?_
    refine r_sipush C0 dX12_go_59 ks_1644 ?_
    refine r_dup2 C0 dX12_go_62 rfl rfl ?_
    refine wmal_1 C0 h dX12_go_63 (fun k7 h => ?_)
    refine r_iload_n C0 dX12_go_64 rfl 2 rfl ?_
    refine r_iadd C0 dX12_go_65 ?_
    refine wmas_1 C0 hD h dX12_go_66 (fun k8 h => ?_)
    refine r_aload_n C0 dX12_go_67 rfl 0 rfl ?_
    refine r_iload_n C0 dX12_go_68 rfl 2 rfl ?_
    refine callV1 C0 h (hD _) mw_X12_keep rv_m tm_X12_176 (fun y hy => c_X12_keep hy) (Nat.le_of_ble_eq_true rfl) (Nat.le_of_ble_eq_true rfl) dX12_go_69 (fun r9 h => ?_)
    cases h
    exact hz _ _ dX12_go_72
  · refine r_iload_n C0 dX12_go_42 rfl 2 rfl ?_
    refine r_aload_n C0 dX12_go_43 rfl 0 rfl ?_
    refine callV0 C0 h (hD _) mw_X12_tick rv_m tm_X12_209 (fun y hy => c_X12_tick hy) (Nat.le_of_ble_eq_true rfl) (Nat.le_of_ble_eq_true rfl) dX12_go_44 (fun r10 h => ?_)
    refine r_iadd C0 dX12_go_47 ?_
    obtain ⟨a11, h8, h⟩ := op_bind h
    have e8 := Option.some.inj h8
    refine r_istore_n (lv2 := [(2, .int a11), (0, .ref (a 0)), (1, .int v1), (3, .int x.2.1)]) C0 dX12_go_48 rfl e8 (Nat.le_of_ble_eq_true rfl) rfl ?_
    obtain ⟨a12, h8, h⟩ := op_bind h
    have e8 := Option.some.inj h8
    refine r_iinc (lv2 := [(3, .int a12), (2, .int a11), (0, .ref (a 0)), (1, .int v1)]) C0 dX12_go_49 3 rfl ki_1 e8 (Nat.le_of_ble_eq_true rfl) rfl ?_
    refine r_goto C0 37 dX12_go_52 rfl ?_
    cases h
    have hz := el_inl hz
    exact r_sub [2, 3, 1, 0] rfl hz
theorem w_X12_go_B37_lp {x : Int32 × Int32 × VT} {z : (Int32 × VT)} {Γ : Gam} {cy : Nat → ClassId} {a : Nat → Nat} {X : va_W} {v1 : Int32}  (C0 : CXg Γ cX12_go 4 8 RX12 cy) (hD : DM Γ cy a X) (h : lp (f_X12_go_B37 v1) fuel x = some z) (hz : (fun y : Int32 × VT => FinI Γ cX12_go (WM cy a y.2 X) y.1) z) : Wp Γ 0 0 37 [(0, .ref (a 0)), (1, .int v1), (2, .int x.1), (3, .int x.2.1)] [] (WM cy a x.2.2 X) :=
  lp_rule (hd := (fun x : Int32 × Int32 × VT => Wp Γ 0 0 37 [(0, .ref (a 0)), (1, .int v1), (2, .int x.1), (3, .int x.2.1)] [] (WM cy a x.2.2 X))) (C := (fun y : Int32 × VT => FinI Γ cX12_go (WM cy a y.2 X) y.1)) (fun x z h hz => w_X12_go_B37 C0 hD h hz) _ _ _ h hz
theorem w_X12_go_j20 {z : (Int32 × VT)} {Γ : Gam} {cy : Nat → ClassId} {a : Nat → Nat} {V : VT} {X : va_W} {v1 : Int32} {s1 : Int32}  (C0 : CXg Γ cX12_go 4 8 RX12 cy) (hD : DM Γ cy a X) (h : f_X12_go_j20 v1 s1 V = some z) (hz : (fun y : Int32 × VT => FinI Γ cX12_go (WM cy a y.2 X) y.1) z) : Wp Γ 0 0 20 [(0, .ref (a 0)), (1, .int v1)] [.int s1, .ref (a 0)] (WM cy a V X) := by
  unfold f_X12_go_j20 at h
  refine r_bipush C0 dX12_go_20 kb_7 ?_
  refine callV2 C0 h (hD _) mw_X12_is rv_m tm_X12_168 (fun y hy => c_X12_is hy) (Nat.le_of_ble_eq_true rfl) (Nat.le_of_ble_eq_true rfl) dX12_go_22 (fun r3 h => ?_)
  refine r_if_eq C0 33 dX12_go_25 rfl h (fun _ h => ?_) (fun _ h => ?_)
  · refine r_iconst C0 dX12_go_33 ki_0 ?_
    obtain ⟨a4, h8, h⟩ := op_bind h
    have e8 := Option.some.inj h8
    refine r_istore_n (lv2 := [(2, .int a4), (0, .ref (a 0)), (1, .int v1)]) C0 dX12_go_34 rfl e8 (Nat.le_of_ble_eq_true rfl) rfl ?_
    refine r_iconst C0 dX12_go_35 ki_0 ?_
    obtain ⟨a5, h8, h⟩ := op_bind h
    have e8 := Option.some.inj h8
    refine r_istore_n (lv2 := [(3, .int a5), (2, .int a4), (0, .ref (a 0)), (1, .int v1)]) C0 dX12_go_36 rfl e8 (Nat.le_of_ble_eq_true rfl) rfl ?_
    exact r_sub [2, 3, 1, 0] rfl (w_X12_go_B37_lp C0 hD h hz)
  · refine r_aload_n C0 dX12_go_28 rfl 0 rfl ?_
    refine callV0 C0 h (hD _) mw_X12_refused rv_m tm_X12_172 (fun y hy => c_X12_refused hy) (Nat.le_of_ble_eq_true rfl) (Nat.le_of_ble_eq_true rfl) dX12_go_29 (fun r13 h => ?_)
    cases h
    exact hz _ _ dX12_go_32
theorem w_X12_go {z : Int32 × VT} {Γ : Gam} {cy : Nat → ClassId} {a : Nat → Nat} {V : VT} {X : va_W} {v1 : Int32}  (C0 : CXg Γ cX12_go 4 8 RX12 cy) (hD : DM Γ cy a X) (h : f_X12_go v1 V = some z) (hz : (fun y : Int32 × VT => FinI Γ cX12_go (WM cy a y.2 X) y.1) z) : Wp Γ 0 0 0 [(0, .ref (a 0)), (1, .int v1)] [] (WM cy a V X) := by
  unfold f_X12_go at h
  refine r_aload_n C0 dX12_go_0 rfl 0 rfl ?_
  refine callVv0 C0 h (hD _) mw_X12_begin rv_m tm_X12_165 (fun y hy => c_X12_begin hy) (Nat.le_of_ble_eq_true rfl) (Nat.le_of_ble_eq_true rfl) dX12_go_1 (fun r1 h => ?_)
  refine r_aload_n C0 dX12_go_4 rfl 0 rfl ?_
  refine r_iload_n C0 dX12_go_5 rfl 1 rfl ?_
  refine r_iconst C0 dX12_go_6 ki_1 ?_
  refine r_bipush C0 dX12_go_7 kb_100 ?_
  refine callS3 C0 h (hD _) ms_X12_in tm_X12_47 (fun y hy => c_X12_in hy) (Nat.le_of_ble_eq_true rfl) (Nat.le_of_ble_eq_true rfl) dX12_go_9 (fun r2 h => ?_)
  refine r_if_ne C0 19 dX12_go_12 rfl h (fun _ h => ?_) (fun _ h => ?_)
  · refine r_iconst C0 dX12_go_19 ki_0 ?_
    exact r_sub [0, 1] rfl (w_X12_go_j20 C0 hD h hz)
  · refine r_iconst C0 dX12_go_15 ki_1 ?_
    refine r_goto C0 20 dX12_go_16 rfl ?_
    exact r_sub [0, 1] rfl (w_X12_go_j20 C0 hD h hz)
theorem c_X12_go {l : Launch} {D : va_G} {cy : Nat → ClassId} {a : Nat → Nat} {V : VT} {X : va_W} {v1 : Int32} {y : Int32 × VT} (h : f_X12_go v1 V = some y) : CT l D cy yX12_go cX12_go 4 (some .int) 8 [.ref (a 0), .int v1] (WM cy a V X) (WM cy a y.2 X) (some (.int y.1)) :=
  mkI (by decide) (Nat.le_of_ble_eq_true rfl) (fun Γ _ _ C0 hD hF => w_X12_go C0 (dm_of hD) h hF)
theorem dX12_undo_0 : decode cX12_undo 0 = .ok (.aload_n 0, 1) := by decide +kernel
theorem dX12_undo_1 : decode cX12_undo 1 = .ok (.iconst 0, 1) := by decide +kernel
theorem dX12_undo_2 : decode cX12_undo 2 = .ok (.putfield 32, 3) := by decide +kernel
theorem dX12_undo_5 : decode cX12_undo 5 = .ok (.aload_n 0, 1) := by decide +kernel
theorem dX12_undo_6 : decode cX12_undo 6 = .ok (.iconst 0, 1) := by decide +kernel
theorem dX12_undo_7 : decode cX12_undo 7 = .ok (.putfield 36, 3) := by decide +kernel
theorem dX12_undo_10 : decode cX12_undo 10 = .ok (.aload_n 0, 1) := by decide +kernel
theorem dX12_undo_11 : decode cX12_undo 11 = .ok (.aload_n 0, 1) := by decide +kernel
theorem dX12_undo_12 : decode cX12_undo 12 = .ok (.getfield 43, 3) := by decide +kernel
theorem dX12_undo_15 : decode cX12_undo 15 = .ok (.ifCond .ne 7, 3) := by decide +kernel
theorem dX12_undo_18 : decode cX12_undo 18 = .ok (.iconst 1, 1) := by decide +kernel
theorem dX12_undo_19 : decode cX12_undo 19 = .ok (.goto 4, 3) := by decide +kernel
theorem dX12_undo_22 : decode cX12_undo 22 = .ok (.iconst 0, 1) := by decide +kernel
theorem dX12_undo_23 : decode cX12_undo 23 = .ok (.bipush 17, 2) := by decide +kernel
theorem dX12_undo_25 : decode cX12_undo 25 = .ok (.invokevirtual 168, 3) := by decide +kernel
theorem dX12_undo_28 : decode cX12_undo 28 = .ok (.ifCond .eq 8, 3) := by decide +kernel
theorem dX12_undo_31 : decode cX12_undo 31 = .ok (.aload_n 0, 1) := by decide +kernel
theorem dX12_undo_32 : decode cX12_undo 32 = .ok (.invokevirtual 172, 3) := by decide +kernel
theorem dX12_undo_35 : decode cX12_undo 35 = .ok (.ireturn, 1) := by decide +kernel
theorem dX12_undo_36 : decode cX12_undo 36 = .ok (.aload_n 0, 1) := by decide +kernel
theorem dX12_undo_37 : decode cX12_undo 37 = .ok (.dup, 1) := by decide +kernel
theorem dX12_undo_38 : decode cX12_undo 38 = .ok (.getfield 43, 3) := by decide +kernel
theorem dX12_undo_41 : decode cX12_undo 41 = .ok (.iconst 1, 1) := by decide +kernel
theorem dX12_undo_42 : decode cX12_undo 42 = .ok (.isub, 1) := by decide +kernel
theorem dX12_undo_43 : decode cX12_undo 43 = .ok (.putfield 43, 3) := by decide +kernel
theorem dX12_undo_46 : decode cX12_undo 46 = .ok (.iconst 0, 1) := by decide +kernel
theorem dX12_undo_47 : decode cX12_undo 47 = .ok (.istore_n 1, 1) := by decide +kernel
theorem dX12_undo_48 : decode cX12_undo 48 = .ok (.iload_n 1, 1) := by decide +kernel
theorem dX12_undo_49 : decode cX12_undo 49 = .ok (.sipush 1646, 3) := by decide +kernel
theorem dX12_undo_52 : decode cX12_undo 52 = .ok (.if_icmp .ge 30, 3) := by decide +kernel
theorem dX12_undo_55 : decode cX12_undo 55 = .ok (.aload_n 0, 1) := by decide +kernel
theorem dX12_undo_56 : decode cX12_undo 56 = .ok (.getfield 7, 3) := by decide +kernel
theorem dX12_undo_59 : decode cX12_undo 59 = .ok (.iload_n 1, 1) := by decide +kernel
theorem dX12_undo_60 : decode cX12_undo 60 = .ok (.aload_n 0, 1) := by decide +kernel
theorem dX12_undo_61 : decode cX12_undo 61 = .ok (.getfield 14, 3) := by decide +kernel
theorem dX12_undo_64 : decode cX12_undo 64 = .ok (.sipush 1646, 3) := by decide +kernel
theorem dX12_undo_67 : decode cX12_undo 67 = .ok (.aload_n 0, 1) := by decide +kernel
theorem dX12_undo_68 : decode cX12_undo 68 = .ok (.getfield 43, 3) := by decide +kernel
theorem dX12_undo_71 : decode cX12_undo 71 = .ok (.imul, 1) := by decide +kernel
theorem dX12_undo_72 : decode cX12_undo 72 = .ok (.iload_n 1, 1) := by decide +kernel
theorem dX12_undo_73 : decode cX12_undo 73 = .ok (.iadd, 1) := by decide +kernel
theorem dX12_undo_74 : decode cX12_undo 74 = .ok (.iaload, 1) := by decide +kernel
theorem dX12_undo_75 : decode cX12_undo 75 = .ok (.iastore, 1) := by decide +kernel
theorem dX12_undo_76 : decode cX12_undo 76 = .ok (.iinc 1 1, 3) := by decide +kernel
theorem dX12_undo_79 : decode cX12_undo 79 = .ok (.goto (-31), 3) := by decide +kernel
theorem dX12_undo_82 : decode cX12_undo 82 = .ok (.aload_n 0, 1) := by decide +kernel
theorem dX12_undo_83 : decode cX12_undo 83 = .ok (.getfield 43, 3) := by decide +kernel
theorem dX12_undo_86 : decode cX12_undo 86 = .ok (.ireturn, 1) := by decide +kernel
theorem w_X12_undo_B48 {x : Int32 × VT} {z : ((Int32 × VT) ⊕ (Int32 × VT))} {Γ : Gam} {cy : Nat → ClassId} {a : Nat → Nat} {X : va_W}  (C0 : CXg Γ cX12_undo 2 1 RX12 cy) (hD : DM Γ cy a X) (h : f_X12_undo_B48 x = some z) (hz : (Sum.elim (fun x : Int32 × VT => Wp Γ 0 0 48 [(0, .ref (a 0)), (1, .int x.1)] [] (WM cy a x.2 X)) (fun y : Int32 × VT => FinI Γ cX12_undo (WM cy a y.2 X) y.1)) z) : Wp Γ 0 0 48 [(0, .ref (a 0)), (1, .int x.1)] [] (WM cy a x.2 X) := by
  unfold f_X12_undo_B48 at h
  refine r_iload_n C0 dX12_undo_48 rfl 1 rfl ?_
  refine r_sipush C0 dX12_undo_49 ks_1646 ?_
  refine r_icmp_ge C0 82 dX12_undo_52 rfl h (fun _ h => ?_) (fun _ h => ?_)
  · obtain ⟨y3, h5, h9⟩ := op_bind h
    clear h
    cases h9
    have hz := (el_inr hz)
    have h := h5
    refine r_aload_n C0 dX12_undo_82 rfl 0 rfl ?_
    refine wmg_0_2 C0 tf_X12_43 dX12_undo_83 ?_
    cases h
    exact hz _ _ dX12_undo_86
  · refine r_aload_n C0 dX12_undo_55 rfl 0 rfl ?_
    refine wmg_0_0 C0 tf_X12_7 dX12_undo_56 ?_
    refine r_iload_n C0 dX12_undo_59 rfl 1 rfl ?_
    refine r_aload_n C0 dX12_undo_60 rfl 0 rfl ?_
    refine wmg_0_1 C0 tf_X12_14 dX12_undo_61 ?_
    refine r_sipush C0 dX12_undo_64 ks_1646 ?_
    refine r_aload_n C0 dX12_undo_67 rfl 0 rfl ?_
    refine wmg_0_2 C0 tf_X12_43 dX12_undo_68 ?_
    refine r_imul C0 dX12_undo_71 ?_
    refine r_iload_n C0 dX12_undo_72 rfl 1 rfl ?_
    refine r_iadd C0 dX12_undo_73 ?_
    refine wmal_2 C0 h dX12_undo_74 (fun k4 h => ?_)
    refine wmas_1 C0 hD h dX12_undo_75 (fun k5 h => ?_)
    obtain ⟨a6, h8, h⟩ := op_bind h
    have e8 := Option.some.inj h8
    refine r_iinc (lv2 := [(1, .int a6), (0, .ref (a 0))]) C0 dX12_undo_76 1 rfl ki_1 e8 (Nat.le_of_ble_eq_true rfl) rfl ?_
    refine r_goto C0 48 dX12_undo_79 rfl ?_
    cases h
    have hz := el_inl hz
    exact r_sub [1, 0] rfl hz
theorem w_X12_undo_B48_lp {x : Int32 × VT} {z : (Int32 × VT)} {Γ : Gam} {cy : Nat → ClassId} {a : Nat → Nat} {X : va_W}  (C0 : CXg Γ cX12_undo 2 1 RX12 cy) (hD : DM Γ cy a X) (h : lp (f_X12_undo_B48) fuel x = some z) (hz : (fun y : Int32 × VT => FinI Γ cX12_undo (WM cy a y.2 X) y.1) z) : Wp Γ 0 0 48 [(0, .ref (a 0)), (1, .int x.1)] [] (WM cy a x.2 X) :=
  lp_rule (hd := (fun x : Int32 × VT => Wp Γ 0 0 48 [(0, .ref (a 0)), (1, .int x.1)] [] (WM cy a x.2 X))) (C := (fun y : Int32 × VT => FinI Γ cX12_undo (WM cy a y.2 X) y.1)) (fun x z h hz => w_X12_undo_B48 C0 hD h hz) _ _ _ h hz
theorem w_X12_undo_j23 {z : (Int32 × VT)} {Γ : Gam} {cy : Nat → ClassId} {a : Nat → Nat} {V : VT} {X : va_W} {s1 : Int32}  (C0 : CXg Γ cX12_undo 2 1 RX12 cy) (hD : DM Γ cy a X) (h : f_X12_undo_j23 s1 V = some z) (hz : (fun y : Int32 × VT => FinI Γ cX12_undo (WM cy a y.2 X) y.1) z) : Wp Γ 0 0 23 [(0, .ref (a 0))] [.int s1, .ref (a 0)] (WM cy a V X) := by
  unfold f_X12_undo_j23 at h
  refine r_bipush C0 dX12_undo_23 kb_17 ?_
  refine callV2 C0 h (hD _) mw_X12_is rv_m tm_X12_168 (fun y hy => c_X12_is hy) (Nat.le_of_ble_eq_true rfl) (Nat.le_of_ble_eq_true rfl) dX12_undo_25 (fun r1 h => ?_)
  refine r_if_eq C0 36 dX12_undo_28 rfl h (fun _ h => ?_) (fun _ h => ?_)
  · refine r_aload_n C0 dX12_undo_36 rfl 0 rfl ?_
    refine r_dup C0 dX12_undo_37 rfl ?_
    refine wmg_0_2 C0 tf_X12_43 dX12_undo_38 ?_
    refine r_iconst C0 dX12_undo_41 ki_1 ?_
    refine r_isub C0 dX12_undo_42 ?_
    refine wmp_0_2 C0 hD tf_X12_43 dX12_undo_43 ?_
    refine r_iconst C0 dX12_undo_46 ki_0 ?_
    obtain ⟨a2, h8, h⟩ := op_bind h
    have e8 := Option.some.inj h8
    refine r_istore_n (lv2 := [(1, .int a2), (0, .ref (a 0))]) C0 dX12_undo_47 rfl e8 (Nat.le_of_ble_eq_true rfl) rfl ?_
    exact r_sub [1, 0] rfl (w_X12_undo_B48_lp C0 hD h hz)
  · refine r_aload_n C0 dX12_undo_31 rfl 0 rfl ?_
    refine callV0 C0 h (hD _) mw_X12_refused rv_m tm_X12_172 (fun y hy => c_X12_refused hy) (Nat.le_of_ble_eq_true rfl) (Nat.le_of_ble_eq_true rfl) dX12_undo_32 (fun r7 h => ?_)
    cases h
    exact hz _ _ dX12_undo_35
theorem w_X12_undo {z : Int32 × VT} {Γ : Gam} {cy : Nat → ClassId} {a : Nat → Nat} {V : VT} {X : va_W}  (C0 : CXg Γ cX12_undo 2 1 RX12 cy) (hD : DM Γ cy a X) (h : f_X12_undo V = some z) (hz : (fun y : Int32 × VT => FinI Γ cX12_undo (WM cy a y.2 X) y.1) z) : Wp Γ 0 0 0 [(0, .ref (a 0))] [] (WM cy a V X) := by
  unfold f_X12_undo at h
  refine r_aload_n C0 dX12_undo_0 rfl 0 rfl ?_
  refine r_iconst C0 dX12_undo_1 ki_0 ?_
  refine wmp_0_7 C0 hD tf_X12_32 dX12_undo_2 ?_
  refine r_aload_n C0 dX12_undo_5 rfl 0 rfl ?_
  refine r_iconst C0 dX12_undo_6 ki_0 ?_
  refine wmp_0_8 C0 hD tf_X12_36 dX12_undo_7 ?_
  refine r_aload_n C0 dX12_undo_10 rfl 0 rfl ?_
  refine r_aload_n C0 dX12_undo_11 rfl 0 rfl ?_
  refine wmg_0_2 C0 tf_X12_43 dX12_undo_12 ?_
  refine r_if_ne C0 22 dX12_undo_15 rfl h (fun _ h => ?_) (fun _ h => ?_)
  · refine r_iconst C0 dX12_undo_22 ki_0 ?_
    exact r_sub [0] rfl (w_X12_undo_j23 C0 hD h hz)
  · refine r_iconst C0 dX12_undo_18 ki_1 ?_
    refine r_goto C0 23 dX12_undo_19 rfl ?_
    exact r_sub [0] rfl (w_X12_undo_j23 C0 hD h hz)
theorem c_X12_undo {l : Launch} {D : va_G} {cy : Nat → ClassId} {a : Nat → Nat} {V : VT} {X : va_W} {y : Int32 × VT} (h : f_X12_undo V = some y) : CT l D cy yX12_undo cX12_undo 2 (some .int) 1 [.ref (a 0)] (WM cy a V X) (WM cy a y.2 X) (some (.int y.1)) :=
  mkI (by decide) (Nat.le_of_ble_eq_true rfl) (fun Γ _ _ C0 hD hF => w_X12_undo C0 (dm_of hD) h hF)
theorem dX12_tell_0 : decode cX12_tell 0 = .ok (.aload_n 0, 1) := by decide +kernel
theorem dX12_tell_1 : decode cX12_tell 1 = .ok (.invokevirtual 165, 3) := by decide +kernel
theorem dX12_tell_4 : decode cX12_tell 4 = .ok (.aload_n 0, 1) := by decide +kernel
theorem dX12_tell_5 : decode cX12_tell 5 = .ok (.iload_n 1, 1) := by decide +kernel
theorem dX12_tell_6 : decode cX12_tell 6 = .ok (.iconst 1, 1) := by decide +kernel
theorem dX12_tell_7 : decode cX12_tell 7 = .ok (.iconst 5, 1) := by decide +kernel
theorem dX12_tell_8 : decode cX12_tell 8 = .ok (.invokestatic 47, 3) := by decide +kernel
theorem dX12_tell_11 : decode cX12_tell 11 = .ok (.ifCond .ne 7, 3) := by decide +kernel
theorem dX12_tell_14 : decode cX12_tell 14 = .ok (.iconst 1, 1) := by decide +kernel
theorem dX12_tell_15 : decode cX12_tell 15 = .ok (.goto 4, 3) := by decide +kernel
theorem dX12_tell_18 : decode cX12_tell 18 = .ok (.iconst 0, 1) := by decide +kernel
theorem dX12_tell_19 : decode cX12_tell 19 = .ok (.bipush 7, 2) := by decide +kernel
theorem dX12_tell_21 : decode cX12_tell 21 = .ok (.invokevirtual 168, 3) := by decide +kernel
theorem dX12_tell_24 : decode cX12_tell 24 = .ok (.ifCond .ne 26, 3) := by decide +kernel
theorem dX12_tell_27 : decode cX12_tell 27 = .ok (.aload_n 0, 1) := by decide +kernel
theorem dX12_tell_28 : decode cX12_tell 28 = .ok (.aload_n 0, 1) := by decide +kernel
theorem dX12_tell_29 : decode cX12_tell 29 = .ok (.getfield 212, 3) := by decide +kernel
theorem dX12_tell_32 : decode cX12_tell 32 = .ok (.bipush 40, 2) := by decide +kernel
theorem dX12_tell_34 : decode cX12_tell 34 = .ok (.if_icmp .ne 7, 3) := by decide +kernel
theorem dX12_tell_37 : decode cX12_tell 37 = .ok (.iconst 1, 1) := by decide +kernel
theorem dX12_tell_38 : decode cX12_tell 38 = .ok (.goto 4, 3) := by decide +kernel
theorem dX12_tell_41 : decode cX12_tell 41 = .ok (.iconst 0, 1) := by decide +kernel
theorem dX12_tell_42 : decode cX12_tell 42 = .ok (.bipush 11, 2) := by decide +kernel
theorem dX12_tell_44 : decode cX12_tell 44 = .ok (.invokevirtual 168, 3) := by decide +kernel
theorem dX12_tell_47 : decode cX12_tell 47 = .ok (.ifCond .eq 8, 3) := by decide +kernel
theorem dX12_tell_50 : decode cX12_tell 50 = .ok (.aload_n 0, 1) := by decide +kernel
theorem dX12_tell_51 : decode cX12_tell 51 = .ok (.invokevirtual 172, 3) := by decide +kernel
theorem dX12_tell_54 : decode cX12_tell 54 = .ok (.ireturn, 1) := by decide +kernel
theorem dX12_tell_55 : decode cX12_tell 55 = .ok (.aload_n 0, 1) := by decide +kernel
theorem dX12_tell_56 : decode cX12_tell 56 = .ok (.getfield 23, 3) := by decide +kernel
theorem dX12_tell_59 : decode cX12_tell 59 = .ok (.iconst 5, 1) := by decide +kernel
theorem dX12_tell_60 : decode cX12_tell 60 = .ok (.aload_n 0, 1) := by decide +kernel
theorem dX12_tell_61 : decode cX12_tell 61 = .ok (.getfield 212, 3) := by decide +kernel
theorem dX12_tell_64 : decode cX12_tell 64 = .ok (.imul, 1) := by decide +kernel
theorem dX12_tell_65 : decode cX12_tell 65 = .ok (.iload_n 1, 1) := by decide +kernel
theorem dX12_tell_66 : decode cX12_tell 66 = .ok (.iastore, 1) := by decide +kernel
theorem dX12_tell_67 : decode cX12_tell 67 = .ok (.aload_n 0, 1) := by decide +kernel
theorem dX12_tell_68 : decode cX12_tell 68 = .ok (.getfield 23, 3) := by decide +kernel
theorem dX12_tell_71 : decode cX12_tell 71 = .ok (.iconst 5, 1) := by decide +kernel
theorem dX12_tell_72 : decode cX12_tell 72 = .ok (.aload_n 0, 1) := by decide +kernel
theorem dX12_tell_73 : decode cX12_tell 73 = .ok (.getfield 212, 3) := by decide +kernel
theorem dX12_tell_76 : decode cX12_tell 76 = .ok (.imul, 1) := by decide +kernel
theorem dX12_tell_77 : decode cX12_tell 77 = .ok (.iconst 1, 1) := by decide +kernel
theorem dX12_tell_78 : decode cX12_tell 78 = .ok (.iadd, 1) := by decide +kernel
theorem dX12_tell_79 : decode cX12_tell 79 = .ok (.iload_n 2, 1) := by decide +kernel
theorem dX12_tell_80 : decode cX12_tell 80 = .ok (.iastore, 1) := by decide +kernel
theorem dX12_tell_81 : decode cX12_tell 81 = .ok (.aload_n 0, 1) := by decide +kernel
theorem dX12_tell_82 : decode cX12_tell 82 = .ok (.getfield 23, 3) := by decide +kernel
theorem dX12_tell_85 : decode cX12_tell 85 = .ok (.iconst 5, 1) := by decide +kernel
theorem dX12_tell_86 : decode cX12_tell 86 = .ok (.aload_n 0, 1) := by decide +kernel
theorem dX12_tell_87 : decode cX12_tell 87 = .ok (.getfield 212, 3) := by decide +kernel
theorem dX12_tell_90 : decode cX12_tell 90 = .ok (.imul, 1) := by decide +kernel
theorem dX12_tell_91 : decode cX12_tell 91 = .ok (.iconst 2, 1) := by decide +kernel
theorem dX12_tell_92 : decode cX12_tell 92 = .ok (.iadd, 1) := by decide +kernel
theorem dX12_tell_93 : decode cX12_tell 93 = .ok (.iload_n 3, 1) := by decide +kernel
theorem dX12_tell_94 : decode cX12_tell 94 = .ok (.iastore, 1) := by decide +kernel
theorem dX12_tell_95 : decode cX12_tell 95 = .ok (.aload_n 0, 1) := by decide +kernel
theorem dX12_tell_96 : decode cX12_tell 96 = .ok (.getfield 23, 3) := by decide +kernel
theorem dX12_tell_99 : decode cX12_tell 99 = .ok (.iconst 5, 1) := by decide +kernel
theorem dX12_tell_100 : decode cX12_tell 100 = .ok (.aload_n 0, 1) := by decide +kernel
theorem dX12_tell_101 : decode cX12_tell 101 = .ok (.getfield 212, 3) := by decide +kernel
theorem dX12_tell_104 : decode cX12_tell 104 = .ok (.imul, 1) := by decide +kernel
theorem dX12_tell_105 : decode cX12_tell 105 = .ok (.iconst 3, 1) := by decide +kernel
theorem dX12_tell_106 : decode cX12_tell 106 = .ok (.iadd, 1) := by decide +kernel
theorem dX12_tell_107 : decode cX12_tell 107 = .ok (.iload 4, 2) := by decide +kernel
theorem dX12_tell_109 : decode cX12_tell 109 = .ok (.iastore, 1) := by decide +kernel
theorem dX12_tell_110 : decode cX12_tell 110 = .ok (.aload_n 0, 1) := by decide +kernel
theorem dX12_tell_111 : decode cX12_tell 111 = .ok (.getfield 23, 3) := by decide +kernel
theorem dX12_tell_114 : decode cX12_tell 114 = .ok (.iconst 5, 1) := by decide +kernel
theorem dX12_tell_115 : decode cX12_tell 115 = .ok (.aload_n 0, 1) := by decide +kernel
theorem dX12_tell_116 : decode cX12_tell 116 = .ok (.getfield 212, 3) := by decide +kernel
theorem dX12_tell_119 : decode cX12_tell 119 = .ok (.imul, 1) := by decide +kernel
theorem dX12_tell_120 : decode cX12_tell 120 = .ok (.iconst 4, 1) := by decide +kernel
theorem dX12_tell_121 : decode cX12_tell 121 = .ok (.iadd, 1) := by decide +kernel
theorem dX12_tell_122 : decode cX12_tell 122 = .ok (.iload 5, 2) := by decide +kernel
theorem dX12_tell_124 : decode cX12_tell 124 = .ok (.iastore, 1) := by decide +kernel
theorem dX12_tell_125 : decode cX12_tell 125 = .ok (.aload_n 0, 1) := by decide +kernel
theorem dX12_tell_126 : decode cX12_tell 126 = .ok (.dup, 1) := by decide +kernel
theorem dX12_tell_127 : decode cX12_tell 127 = .ok (.getfield 212, 3) := by decide +kernel
theorem dX12_tell_130 : decode cX12_tell 130 = .ok (.iconst 1, 1) := by decide +kernel
theorem dX12_tell_131 : decode cX12_tell 131 = .ok (.iadd, 1) := by decide +kernel
theorem dX12_tell_132 : decode cX12_tell 132 = .ok (.putfield 212, 3) := by decide +kernel
theorem dX12_tell_135 : decode cX12_tell 135 = .ok (.aload_n 0, 1) := by decide +kernel
theorem dX12_tell_136 : decode cX12_tell 136 = .ok (.getfield 212, 3) := by decide +kernel
theorem dX12_tell_139 : decode cX12_tell 139 = .ok (.ireturn, 1) := by decide +kernel
theorem w_X12_tell_j50 {z : (Int32 × VT)} {Γ : Gam} {cy : Nat → ClassId} {a : Nat → Nat} {V : VT} {X : va_W}  (C0 : CXg Γ cX12_tell 6 1 RX12 cy) (hD : DM Γ cy a X) (h : f_X12_tell_j50 V = some z) (hz : (fun y : Int32 × VT => FinI Γ cX12_tell (WM cy a y.2 X) y.1) z) : Wp Γ 0 0 50 [(0, .ref (a 0))] [] (WM cy a V X) := by
  unfold f_X12_tell_j50 at h
  refine r_aload_n C0 dX12_tell_50 rfl 0 rfl ?_
  refine callV0 C0 h (hD _) mw_X12_refused rv_m tm_X12_172 (fun y hy => c_X12_refused hy) (Nat.le_of_ble_eq_true rfl) (Nat.le_of_ble_eq_true rfl) dX12_tell_51 (fun r4 h => ?_)
  cases h
  exact hz _ _ dX12_tell_54
theorem w_X12_tell_j42 {z : (Int32 × VT)} {Γ : Gam} {cy : Nat → ClassId} {a : Nat → Nat} {V : VT} {X : va_W} {v1 : Int32} {v2 : Int32} {v3 : Int32} {v4 : Int32} {v5 : Int32} {s1 : Int32}  (C0 : CXg Γ cX12_tell 6 1 RX12 cy) (hD : DM Γ cy a X) (h : f_X12_tell_j42 v1 v2 v3 v4 v5 s1 V = some z) (hz : (fun y : Int32 × VT => FinI Γ cX12_tell (WM cy a y.2 X) y.1) z) : Wp Γ 0 0 42 [(0, .ref (a 0)), (1, .int v1), (2, .int v2), (3, .int v3), (4, .int v4), (5, .int v5)] [.int s1, .ref (a 0)] (WM cy a V X) := by
  unfold f_X12_tell_j42 at h
  refine r_bipush C0 dX12_tell_42 kb_11 ?_
  refine callV2 C0 h (hD _) mw_X12_is rv_m tm_X12_168 (fun y hy => c_X12_is hy) (Nat.le_of_ble_eq_true rfl) (Nat.le_of_ble_eq_true rfl) dX12_tell_44 (fun r5 h => ?_)
  refine r_if_eq C0 55 dX12_tell_47 rfl h (fun _ h => ?_) (fun _ h => ?_)
  · refine r_aload_n C0 dX12_tell_55 rfl 0 rfl ?_
    refine wmg_0_5 C0 tf_X12_23 dX12_tell_56 ?_
    refine r_iconst C0 dX12_tell_59 ki_5 ?_
    refine r_aload_n C0 dX12_tell_60 rfl 0 rfl ?_
    refine wmg_0_6 C0 tf_X12_212 dX12_tell_61 ?_
    refine r_imul C0 dX12_tell_64 ?_
    refine r_iload_n C0 dX12_tell_65 rfl 1 rfl ?_
    refine wmas_5 C0 hD h dX12_tell_66 (fun k6 h => ?_)
    refine r_aload_n C0 dX12_tell_67 rfl 0 rfl ?_
    refine wmg_0_5 C0 tf_X12_23 dX12_tell_68 ?_
    refine r_iconst C0 dX12_tell_71 ki_5 ?_
    refine r_aload_n C0 dX12_tell_72 rfl 0 rfl ?_
    refine wmg_0_6 C0 tf_X12_212 dX12_tell_73 ?_
    refine r_imul C0 dX12_tell_76 ?_
    refine r_iconst C0 dX12_tell_77 ki_1 ?_
    refine r_iadd C0 dX12_tell_78 ?_
    refine r_iload_n C0 dX12_tell_79 rfl 2 rfl ?_
    refine wmas_5 C0 hD h dX12_tell_80 (fun k7 h => ?_)
    refine r_aload_n C0 dX12_tell_81 rfl 0 rfl ?_
    refine wmg_0_5 C0 tf_X12_23 dX12_tell_82 ?_
    refine r_iconst C0 dX12_tell_85 ki_5 ?_
    refine r_aload_n C0 dX12_tell_86 rfl 0 rfl ?_
    refine wmg_0_6 C0 tf_X12_212 dX12_tell_87 ?_
    refine r_imul C0 dX12_tell_90 ?_
    refine r_iconst C0 dX12_tell_91 ki_2 ?_
    refine r_iadd C0 dX12_tell_92 ?_
    refine r_iload_n C0 dX12_tell_93 rfl 3 rfl ?_
    refine wmas_5 C0 hD h dX12_tell_94 (fun k8 h => ?_)
    refine r_aload_n C0 dX12_tell_95 rfl 0 rfl ?_
    refine wmg_0_5 C0 tf_X12_23 dX12_tell_96 ?_
    refine r_iconst C0 dX12_tell_99 ki_5 ?_
    refine r_aload_n C0 dX12_tell_100 rfl 0 rfl ?_
    refine wmg_0_6 C0 tf_X12_212 dX12_tell_101 ?_
    refine r_imul C0 dX12_tell_104 ?_
    refine r_iconst C0 dX12_tell_105 ki_3 ?_
    refine r_iadd C0 dX12_tell_106 ?_
    refine r_iload C0 dX12_tell_107 4 rfl ?_
    refine wmas_5 C0 hD h dX12_tell_109 (fun k9 h => ?_)
    refine r_aload_n C0 dX12_tell_110 rfl 0 rfl ?_
    refine wmg_0_5 C0 tf_X12_23 dX12_tell_111 ?_
    refine r_iconst C0 dX12_tell_114 ki_5 ?_
    refine r_aload_n C0 dX12_tell_115 rfl 0 rfl ?_
    refine wmg_0_6 C0 tf_X12_212 dX12_tell_116 ?_
    refine r_imul C0 dX12_tell_119 ?_
    refine r_iconst C0 dX12_tell_120 ki_4 ?_
    refine r_iadd C0 dX12_tell_121 ?_
    refine r_iload C0 dX12_tell_122 5 rfl ?_
    refine wmas_5 C0 hD h dX12_tell_124 (fun k10 h => ?_)
    refine r_aload_n C0 dX12_tell_125 rfl 0 rfl ?_
    refine r_dup C0 dX12_tell_126 rfl ?_
    refine wmg_0_6 C0 tf_X12_212 dX12_tell_127 ?_
    refine r_iconst C0 dX12_tell_130 ki_1 ?_
    refine r_iadd C0 dX12_tell_131 ?_
    refine wmp_0_6 C0 hD tf_X12_212 dX12_tell_132 ?_
    refine r_aload_n C0 dX12_tell_135 rfl 0 rfl ?_
    refine wmg_0_6 C0 tf_X12_212 dX12_tell_136 ?_
    cases h
    exact hz _ _ dX12_tell_139
  · exact r_sub [0] rfl (w_X12_tell_j50 C0 hD h hz)
theorem w_X12_tell_j19 {z : (Int32 × VT)} {Γ : Gam} {cy : Nat → ClassId} {a : Nat → Nat} {V : VT} {X : va_W} {v1 : Int32} {v2 : Int32} {v3 : Int32} {v4 : Int32} {v5 : Int32} {s1 : Int32}  (C0 : CXg Γ cX12_tell 6 1 RX12 cy) (hD : DM Γ cy a X) (h : f_X12_tell_j19 v1 v2 v3 v4 v5 s1 V = some z) (hz : (fun y : Int32 × VT => FinI Γ cX12_tell (WM cy a y.2 X) y.1) z) : Wp Γ 0 0 19 [(0, .ref (a 0)), (1, .int v1), (2, .int v2), (3, .int v3), (4, .int v4), (5, .int v5)] [.int s1, .ref (a 0)] (WM cy a V X) := by
  unfold f_X12_tell_j19 at h
  refine r_bipush C0 dX12_tell_19 kb_7 ?_
  refine callV2 C0 h (hD _) mw_X12_is rv_m tm_X12_168 (fun y hy => c_X12_is hy) (Nat.le_of_ble_eq_true rfl) (Nat.le_of_ble_eq_true rfl) dX12_tell_21 (fun r3 h => ?_)
  refine r_if_ne C0 50 dX12_tell_24 rfl h (fun _ h => ?_) (fun _ h => ?_)
  · exact r_sub [0] rfl (w_X12_tell_j50 C0 hD h hz)
  · refine r_aload_n C0 dX12_tell_27 rfl 0 rfl ?_
    refine r_aload_n C0 dX12_tell_28 rfl 0 rfl ?_
    refine wmg_0_6 C0 tf_X12_212 dX12_tell_29 ?_
    refine r_bipush C0 dX12_tell_32 kb_40 ?_
    refine r_icmp_ne C0 41 dX12_tell_34 rfl h (fun _ h => ?_) (fun _ h => ?_)
    · refine r_iconst C0 dX12_tell_41 ki_0 ?_
      exact r_sub [0, 1, 2, 3, 4, 5] rfl (w_X12_tell_j42 C0 hD h hz)
    · refine r_iconst C0 dX12_tell_37 ki_1 ?_
      refine r_goto C0 42 dX12_tell_38 rfl ?_
      exact r_sub [0, 1, 2, 3, 4, 5] rfl (w_X12_tell_j42 C0 hD h hz)
theorem w_X12_tell {z : Int32 × VT} {Γ : Gam} {cy : Nat → ClassId} {a : Nat → Nat} {V : VT} {X : va_W} {v1 : Int32} {v2 : Int32} {v3 : Int32} {v4 : Int32} {v5 : Int32}  (C0 : CXg Γ cX12_tell 6 1 RX12 cy) (hD : DM Γ cy a X) (h : f_X12_tell v1 v2 v3 v4 v5 V = some z) (hz : (fun y : Int32 × VT => FinI Γ cX12_tell (WM cy a y.2 X) y.1) z) : Wp Γ 0 0 0 [(0, .ref (a 0)), (1, .int v1), (2, .int v2), (3, .int v3), (4, .int v4), (5, .int v5)] [] (WM cy a V X) := by
  unfold f_X12_tell at h
  refine r_aload_n C0 dX12_tell_0 rfl 0 rfl ?_
  refine callVv0 C0 h (hD _) mw_X12_begin rv_m tm_X12_165 (fun y hy => c_X12_begin hy) (Nat.le_of_ble_eq_true rfl) (Nat.le_of_ble_eq_true rfl) dX12_tell_1 (fun r1 h => ?_)
  refine r_aload_n C0 dX12_tell_4 rfl 0 rfl ?_
  refine r_iload_n C0 dX12_tell_5 rfl 1 rfl ?_
  refine r_iconst C0 dX12_tell_6 ki_1 ?_
  refine r_iconst C0 dX12_tell_7 ki_5 ?_
  refine callS3 C0 h (hD _) ms_X12_in tm_X12_47 (fun y hy => c_X12_in hy) (Nat.le_of_ble_eq_true rfl) (Nat.le_of_ble_eq_true rfl) dX12_tell_8 (fun r2 h => ?_)
  refine r_if_ne C0 18 dX12_tell_11 rfl h (fun _ h => ?_) (fun _ h => ?_)
  · refine r_iconst C0 dX12_tell_18 ki_0 ?_
    exact r_sub [0, 1, 2, 3, 4, 5] rfl (w_X12_tell_j19 C0 hD h hz)
  · refine r_iconst C0 dX12_tell_14 ki_1 ?_
    refine r_goto C0 19 dX12_tell_15 rfl ?_
    exact r_sub [0, 1, 2, 3, 4, 5] rfl (w_X12_tell_j19 C0 hD h hz)
theorem c_X12_tell {l : Launch} {D : va_G} {cy : Nat → ClassId} {a : Nat → Nat} {V : VT} {X : va_W} {v1 : Int32} {v2 : Int32} {v3 : Int32} {v4 : Int32} {v5 : Int32} {y : Int32 × VT} (h : f_X12_tell v1 v2 v3 v4 v5 V = some y) : CT l D cy yX12_tell cX12_tell 6 (some .int) 1 [.ref (a 0), .int v1, .int v2, .int v3, .int v4, .int v5] (WM cy a V X) (WM cy a y.2 X) (some (.int y.1)) :=
  mkI (by decide) (Nat.le_of_ble_eq_true rfl) (fun Γ _ _ C0 hD hF => w_X12_tell C0 (dm_of hD) h hF)
theorem dX12_forge_0 : decode cX12_forge 0 = .ok (.aload_n 0, 1) := by decide +kernel
theorem dX12_forge_1 : decode cX12_forge 1 = .ok (.invokevirtual 165, 3) := by decide +kernel
theorem dX12_forge_4 : decode cX12_forge 4 = .ok (.aload_n 0, 1) := by decide +kernel
theorem dX12_forge_5 : decode cX12_forge 5 = .ok (.iload_n 1, 1) := by decide +kernel
theorem dX12_forge_6 : decode cX12_forge 6 = .ok (.ifCond .lt 20, 3) := by decide +kernel
theorem dX12_forge_9 : decode cX12_forge 9 = .ok (.iload_n 1, 1) := by decide +kernel
theorem dX12_forge_10 : decode cX12_forge 10 = .ok (.aload_n 0, 1) := by decide +kernel
theorem dX12_forge_11 : decode cX12_forge 11 = .ok (.getfield 212, 3) := by decide +kernel
theorem dX12_forge_14 : decode cX12_forge 14 = .ok (.if_icmp .ge 12, 3) := by decide +kernel
theorem dX12_forge_17 : decode cX12_forge 17 = .ok (.iload_n 2, 1) := by decide +kernel
theorem dX12_forge_18 : decode cX12_forge 18 = .ok (.iconst 0, 1) := by decide +kernel
theorem dX12_forge_19 : decode cX12_forge 19 = .ok (.iconst 4, 1) := by decide +kernel
theorem dX12_forge_20 : decode cX12_forge 20 = .ok (.invokestatic 47, 3) := by decide +kernel
theorem dX12_forge_23 : decode cX12_forge 23 = .ok (.ifCond .ne 7, 3) := by decide +kernel
theorem dX12_forge_26 : decode cX12_forge 26 = .ok (.iconst 1, 1) := by decide +kernel
theorem dX12_forge_27 : decode cX12_forge 27 = .ok (.goto 4, 3) := by decide +kernel
theorem dX12_forge_30 : decode cX12_forge 30 = .ok (.iconst 0, 1) := by decide +kernel
theorem dX12_forge_31 : decode cX12_forge 31 = .ok (.iconst 2, 1) := by decide +kernel
theorem dX12_forge_32 : decode cX12_forge 32 = .ok (.invokevirtual 168, 3) := by decide +kernel
theorem dX12_forge_35 : decode cX12_forge 35 = .ok (.ifCond .ne 30, 3) := by decide +kernel
theorem dX12_forge_38 : decode cX12_forge 38 = .ok (.aload_n 0, 1) := by decide +kernel
theorem dX12_forge_39 : decode cX12_forge 39 = .ok (.iload_n 2, 1) := by decide +kernel
theorem dX12_forge_40 : decode cX12_forge 40 = .ok (.ifCond .ne 16, 3) := by decide +kernel
theorem dX12_forge_43 : decode cX12_forge 43 = .ok (.iload_n 3, 1) := by decide +kernel
theorem dX12_forge_44 : decode cX12_forge 44 = .ok (.iconst 1, 1) := by decide +kernel
theorem dX12_forge_45 : decode cX12_forge 45 = .ok (.iconst 5, 1) := by decide +kernel
theorem dX12_forge_46 : decode cX12_forge 46 = .ok (.invokestatic 47, 3) := by decide +kernel
theorem dX12_forge_49 : decode cX12_forge 49 = .ok (.ifCond .ne 7, 3) := by decide +kernel
theorem dX12_forge_52 : decode cX12_forge 52 = .ok (.iconst 1, 1) := by decide +kernel
theorem dX12_forge_53 : decode cX12_forge 53 = .ok (.goto 4, 3) := by decide +kernel
theorem dX12_forge_56 : decode cX12_forge 56 = .ok (.iconst 0, 1) := by decide +kernel
theorem dX12_forge_57 : decode cX12_forge 57 = .ok (.bipush 7, 2) := by decide +kernel
theorem dX12_forge_59 : decode cX12_forge 59 = .ok (.invokevirtual 168, 3) := by decide +kernel
theorem dX12_forge_62 : decode cX12_forge 62 = .ok (.ifCond .eq 8, 3) := by decide +kernel
theorem dX12_forge_65 : decode cX12_forge 65 = .ok (.aload_n 0, 1) := by decide +kernel
theorem dX12_forge_66 : decode cX12_forge 66 = .ok (.invokevirtual 172, 3) := by decide +kernel
theorem dX12_forge_69 : decode cX12_forge 69 = .ok (.ireturn, 1) := by decide +kernel
theorem dX12_forge_70 : decode cX12_forge 70 = .ok (.aload_n 0, 1) := by decide +kernel
theorem dX12_forge_71 : decode cX12_forge 71 = .ok (.getfield 23, 3) := by decide +kernel
theorem dX12_forge_74 : decode cX12_forge 74 = .ok (.iconst 5, 1) := by decide +kernel
theorem dX12_forge_75 : decode cX12_forge 75 = .ok (.iload_n 1, 1) := by decide +kernel
theorem dX12_forge_76 : decode cX12_forge 76 = .ok (.imul, 1) := by decide +kernel
theorem dX12_forge_77 : decode cX12_forge 77 = .ok (.iload_n 2, 1) := by decide +kernel
theorem dX12_forge_78 : decode cX12_forge 78 = .ok (.iadd, 1) := by decide +kernel
theorem dX12_forge_79 : decode cX12_forge 79 = .ok (.iaload, 1) := by decide +kernel
theorem dX12_forge_80 : decode cX12_forge 80 = .ok (.istore 4, 2) := by decide +kernel
theorem dX12_forge_82 : decode cX12_forge 82 = .ok (.aload_n 0, 1) := by decide +kernel
theorem dX12_forge_83 : decode cX12_forge 83 = .ok (.getfield 23, 3) := by decide +kernel
theorem dX12_forge_86 : decode cX12_forge 86 = .ok (.iconst 5, 1) := by decide +kernel
theorem dX12_forge_87 : decode cX12_forge 87 = .ok (.iload_n 1, 1) := by decide +kernel
theorem dX12_forge_88 : decode cX12_forge 88 = .ok (.imul, 1) := by decide +kernel
theorem dX12_forge_89 : decode cX12_forge 89 = .ok (.iload_n 2, 1) := by decide +kernel
theorem dX12_forge_90 : decode cX12_forge 90 = .ok (.iadd, 1) := by decide +kernel
theorem dX12_forge_91 : decode cX12_forge 91 = .ok (.iload_n 3, 1) := by decide +kernel
theorem dX12_forge_92 : decode cX12_forge 92 = .ok (.iastore, 1) := by decide +kernel
theorem dX12_forge_93 : decode cX12_forge 93 = .ok (.iload 4, 2) := by decide +kernel
theorem dX12_forge_95 : decode cX12_forge 95 = .ok (.ireturn, 1) := by decide +kernel
theorem w_X12_forge_j65 {z : (Int32 × VT)} {Γ : Gam} {cy : Nat → ClassId} {a : Nat → Nat} {V : VT} {X : va_W}  (C0 : CXg Γ cX12_forge 5 1 RX12 cy) (hD : DM Γ cy a X) (h : f_X12_forge_j65 V = some z) (hz : (fun y : Int32 × VT => FinI Γ cX12_forge (WM cy a y.2 X) y.1) z) : Wp Γ 0 0 65 [(0, .ref (a 0))] [] (WM cy a V X) := by
  unfold f_X12_forge_j65 at h
  refine r_aload_n C0 dX12_forge_65 rfl 0 rfl ?_
  refine callV0 C0 h (hD _) mw_X12_refused rv_m tm_X12_172 (fun y hy => c_X12_refused hy) (Nat.le_of_ble_eq_true rfl) (Nat.le_of_ble_eq_true rfl) dX12_forge_66 (fun r3 h => ?_)
  cases h
  exact hz _ _ dX12_forge_69
theorem w_X12_forge_j57 {z : (Int32 × VT)} {Γ : Gam} {cy : Nat → ClassId} {a : Nat → Nat} {V : VT} {X : va_W} {v1 : Int32} {v2 : Int32} {v3 : Int32} {s1 : Int32}  (C0 : CXg Γ cX12_forge 5 1 RX12 cy) (hD : DM Γ cy a X) (h : f_X12_forge_j57 v1 v2 v3 s1 V = some z) (hz : (fun y : Int32 × VT => FinI Γ cX12_forge (WM cy a y.2 X) y.1) z) : Wp Γ 0 0 57 [(0, .ref (a 0)), (1, .int v1), (2, .int v2), (3, .int v3)] [.int s1, .ref (a 0)] (WM cy a V X) := by
  unfold f_X12_forge_j57 at h
  refine r_bipush C0 dX12_forge_57 kb_7 ?_
  refine callV2 C0 h (hD _) mw_X12_is rv_m tm_X12_168 (fun y hy => c_X12_is hy) (Nat.le_of_ble_eq_true rfl) (Nat.le_of_ble_eq_true rfl) dX12_forge_59 (fun r4 h => ?_)
  refine r_if_eq C0 70 dX12_forge_62 rfl h (fun _ h => ?_) (fun _ h => ?_)
  · refine r_aload_n C0 dX12_forge_70 rfl 0 rfl ?_
    refine wmg_0_5 C0 tf_X12_23 dX12_forge_71 ?_
    refine r_iconst C0 dX12_forge_74 ki_5 ?_
    refine r_iload_n C0 dX12_forge_75 rfl 1 rfl ?_
    refine r_imul C0 dX12_forge_76 ?_
    refine r_iload_n C0 dX12_forge_77 rfl 2 rfl ?_
    refine r_iadd C0 dX12_forge_78 ?_
    refine wmal_5 C0 h dX12_forge_79 (fun k5 h => ?_)
    obtain ⟨a6, h8, h⟩ := op_bind h
    have e8 := Option.some.inj h8
    refine r_istore (lv2 := [(4, .int a6), (0, .ref (a 0)), (1, .int v1), (2, .int v2), (3, .int v3)]) C0 dX12_forge_80 e8 (Nat.le_of_ble_eq_true rfl) rfl ?_
    refine r_aload_n C0 dX12_forge_82 rfl 1 rfl ?_
    refine wmg_0_5 C0 tf_X12_23 dX12_forge_83 ?_
    refine r_iconst C0 dX12_forge_86 ki_5 ?_
    refine r_iload_n C0 dX12_forge_87 rfl 2 rfl ?_
    refine r_imul C0 dX12_forge_88 ?_
    refine r_iload_n C0 dX12_forge_89 rfl 3 rfl ?_
    refine r_iadd C0 dX12_forge_90 ?_
    refine r_iload_n C0 dX12_forge_91 rfl 4 rfl ?_
    refine wmas_5 C0 hD h dX12_forge_92 (fun k7 h => ?_)
    refine r_iload C0 dX12_forge_93 0 rfl ?_
    cases h
    exact hz _ _ dX12_forge_95
  · exact r_sub [0] rfl (w_X12_forge_j65 C0 hD h hz)
theorem w_X12_forge_j56 {z : (Int32 × VT)} {Γ : Gam} {cy : Nat → ClassId} {a : Nat → Nat} {V : VT} {X : va_W} {v1 : Int32} {v2 : Int32} {v3 : Int32}  (C0 : CXg Γ cX12_forge 5 1 RX12 cy) (hD : DM Γ cy a X) (h : f_X12_forge_j56 v1 v2 v3 V = some z) (hz : (fun y : Int32 × VT => FinI Γ cX12_forge (WM cy a y.2 X) y.1) z) : Wp Γ 0 0 56 [(0, .ref (a 0)), (1, .int v1), (2, .int v2), (3, .int v3)] [.ref (a 0)] (WM cy a V X) := by
  unfold f_X12_forge_j56 at h
  refine r_iconst C0 dX12_forge_56 ki_0 ?_
  exact r_sub [0, 1, 2, 3] rfl (w_X12_forge_j57 C0 hD h hz)
theorem w_X12_forge_j31 {z : (Int32 × VT)} {Γ : Gam} {cy : Nat → ClassId} {a : Nat → Nat} {V : VT} {X : va_W} {v1 : Int32} {v2 : Int32} {v3 : Int32} {s1 : Int32}  (C0 : CXg Γ cX12_forge 5 1 RX12 cy) (hD : DM Γ cy a X) (h : f_X12_forge_j31 v1 v2 v3 s1 V = some z) (hz : (fun y : Int32 × VT => FinI Γ cX12_forge (WM cy a y.2 X) y.1) z) : Wp Γ 0 0 31 [(0, .ref (a 0)), (1, .int v1), (2, .int v2), (3, .int v3)] [.int s1, .ref (a 0)] (WM cy a V X) := by
  unfold f_X12_forge_j31 at h
  refine r_iconst C0 dX12_forge_31 ki_2 ?_
  refine callV2 C0 h (hD _) mw_X12_is rv_m tm_X12_168 (fun y hy => c_X12_is hy) (Nat.le_of_ble_eq_true rfl) (Nat.le_of_ble_eq_true rfl) dX12_forge_32 (fun r2 h => ?_)
  refine r_if_ne C0 65 dX12_forge_35 rfl h (fun _ h => ?_) (fun _ h => ?_)
  · exact r_sub [0] rfl (w_X12_forge_j65 C0 hD h hz)
  · refine r_aload_n C0 dX12_forge_38 rfl 0 rfl ?_
    refine r_iload_n C0 dX12_forge_39 rfl 2 rfl ?_
    refine r_if_ne C0 56 dX12_forge_40 rfl h (fun _ h => ?_) (fun _ h => ?_)
    · exact r_sub [0, 1, 2, 3] rfl (w_X12_forge_j56 C0 hD h hz)
    · refine r_iload_n C0 dX12_forge_43 rfl 3 rfl ?_
      refine r_iconst C0 dX12_forge_44 ki_1 ?_
      refine r_iconst C0 dX12_forge_45 ki_5 ?_
      refine callS3 C0 h (hD _) ms_X12_in tm_X12_47 (fun y hy => c_X12_in hy) (Nat.le_of_ble_eq_true rfl) (Nat.le_of_ble_eq_true rfl) dX12_forge_46 (fun r8 h => ?_)
      refine r_if_ne C0 56 dX12_forge_49 rfl h (fun _ h => ?_) (fun _ h => ?_)
      · exact r_sub [0, 1, 2, 3] rfl (w_X12_forge_j56 C0 hD h hz)
      · refine r_iconst C0 dX12_forge_52 ki_1 ?_
        refine r_goto C0 57 dX12_forge_53 rfl ?_
        exact r_sub [0, 1, 2, 3] rfl (w_X12_forge_j57 C0 hD h hz)
theorem w_X12_forge_j26 {z : (Int32 × VT)} {Γ : Gam} {cy : Nat → ClassId} {a : Nat → Nat} {V : VT} {X : va_W} {v1 : Int32} {v2 : Int32} {v3 : Int32}  (C0 : CXg Γ cX12_forge 5 1 RX12 cy) (hD : DM Γ cy a X) (h : f_X12_forge_j26 v1 v2 v3 V = some z) (hz : (fun y : Int32 × VT => FinI Γ cX12_forge (WM cy a y.2 X) y.1) z) : Wp Γ 0 0 26 [(0, .ref (a 0)), (1, .int v1), (2, .int v2), (3, .int v3)] [.ref (a 0)] (WM cy a V X) := by
  unfold f_X12_forge_j26 at h
  refine r_iconst C0 dX12_forge_26 ki_1 ?_
  refine r_goto C0 31 dX12_forge_27 rfl ?_
  exact r_sub [0, 1, 2, 3] rfl (w_X12_forge_j31 C0 hD h hz)
theorem w_X12_forge {z : Int32 × VT} {Γ : Gam} {cy : Nat → ClassId} {a : Nat → Nat} {V : VT} {X : va_W} {v1 : Int32} {v2 : Int32} {v3 : Int32}  (C0 : CXg Γ cX12_forge 5 1 RX12 cy) (hD : DM Γ cy a X) (h : f_X12_forge v1 v2 v3 V = some z) (hz : (fun y : Int32 × VT => FinI Γ cX12_forge (WM cy a y.2 X) y.1) z) : Wp Γ 0 0 0 [(0, .ref (a 0)), (1, .int v1), (2, .int v2), (3, .int v3)] [] (WM cy a V X) := by
  unfold f_X12_forge at h
  refine r_aload_n C0 dX12_forge_0 rfl 0 rfl ?_
  refine callVv0 C0 h (hD _) mw_X12_begin rv_m tm_X12_165 (fun y hy => c_X12_begin hy) (Nat.le_of_ble_eq_true rfl) (Nat.le_of_ble_eq_true rfl) dX12_forge_1 (fun r1 h => ?_)
  refine r_aload_n C0 dX12_forge_4 rfl 0 rfl ?_
  refine r_iload_n C0 dX12_forge_5 rfl 1 rfl ?_
  refine r_if_lt C0 26 dX12_forge_6 rfl h (fun _ h => ?_) (fun _ h => ?_)
  · exact r_sub [0, 1, 2, 3] rfl (w_X12_forge_j26 C0 hD h hz)
  · refine r_iload_n C0 dX12_forge_9 rfl 1 rfl ?_
    refine r_aload_n C0 dX12_forge_10 rfl 0 rfl ?_
    refine wmg_0_6 C0 tf_X12_212 dX12_forge_11 ?_
    refine r_icmp_ge C0 26 dX12_forge_14 rfl h (fun _ h => ?_) (fun _ h => ?_)
    · exact r_sub [0, 1, 2, 3] rfl (w_X12_forge_j26 C0 hD h hz)
    · refine r_iload_n C0 dX12_forge_17 rfl 2 rfl ?_
      refine r_iconst C0 dX12_forge_18 ki_0 ?_
      refine r_iconst C0 dX12_forge_19 ki_4 ?_
      refine callS3 C0 h (hD _) ms_X12_in tm_X12_47 (fun y hy => c_X12_in hy) (Nat.le_of_ble_eq_true rfl) (Nat.le_of_ble_eq_true rfl) dX12_forge_20 (fun r9 h => ?_)
      refine r_if_ne C0 30 dX12_forge_23 rfl h (fun _ h => ?_) (fun _ h => ?_)
      · refine r_iconst C0 dX12_forge_30 ki_0 ?_
        exact r_sub [0, 1, 2, 3] rfl (w_X12_forge_j31 C0 hD h hz)
      · exact r_sub [0, 1, 2, 3] rfl (w_X12_forge_j26 C0 hD h hz)
theorem c_X12_forge {l : Launch} {D : va_G} {cy : Nat → ClassId} {a : Nat → Nat} {V : VT} {X : va_W} {v1 : Int32} {v2 : Int32} {v3 : Int32} {y : Int32 × VT} (h : f_X12_forge v1 v2 v3 V = some y) : CT l D cy yX12_forge cX12_forge 5 (some .int) 1 [.ref (a 0), .int v1, .int v2, .int v3] (WM cy a V X) (WM cy a y.2 X) (some (.int y.1)) :=
  mkI (by decide) (Nat.le_of_ble_eq_true rfl) (fun Γ _ _ C0 hD hF => w_X12_forge C0 (dm_of hD) h hF)
theorem dX12_clear_0 : decode cX12_clear 0 = .ok (.aload_n 0, 1) := by decide +kernel
theorem dX12_clear_1 : decode cX12_clear 1 = .ok (.invokevirtual 165, 3) := by decide +kernel
theorem dX12_clear_4 : decode cX12_clear 4 = .ok (.aload_n 0, 1) := by decide +kernel
theorem dX12_clear_5 : decode cX12_clear 5 = .ok (.getfield 212, 3) := by decide +kernel
theorem dX12_clear_8 : decode cX12_clear 8 = .ok (.istore_n 1, 1) := by decide +kernel
theorem dX12_clear_9 : decode cX12_clear 9 = .ok (.aload_n 0, 1) := by decide +kernel
theorem dX12_clear_10 : decode cX12_clear 10 = .ok (.iconst 0, 1) := by decide +kernel
theorem dX12_clear_11 : decode cX12_clear 11 = .ok (.putfield 212, 3) := by decide +kernel
theorem dX12_clear_14 : decode cX12_clear 14 = .ok (.iload_n 1, 1) := by decide +kernel
theorem dX12_clear_15 : decode cX12_clear 15 = .ok (.ireturn, 1) := by decide +kernel
theorem w_X12_clear {z : Int32 × VT} {Γ : Gam} {cy : Nat → ClassId} {a : Nat → Nat} {V : VT} {X : va_W}  (C0 : CXg Γ cX12_clear 2 1 RX12 cy) (hD : DM Γ cy a X) (h : f_X12_clear V = some z) (hz : (fun y : Int32 × VT => FinI Γ cX12_clear (WM cy a y.2 X) y.1) z) : Wp Γ 0 0 0 [(0, .ref (a 0))] [] (WM cy a V X) := by
  unfold f_X12_clear at h
  refine r_aload_n C0 dX12_clear_0 rfl 0 rfl ?_
  refine callVv0 C0 h (hD _) mw_X12_begin rv_m tm_X12_165 (fun y hy => c_X12_begin hy) (Nat.le_of_ble_eq_true rfl) (Nat.le_of_ble_eq_true rfl) dX12_clear_1 (fun r1 h => ?_)
  refine r_aload_n C0 dX12_clear_4 rfl 0 rfl ?_
  refine wmg_0_6 C0 tf_X12_212 dX12_clear_5 ?_
  obtain ⟨a2, h8, h⟩ := op_bind h
  have e8 := Option.some.inj h8
  refine r_istore_n (lv2 := [(1, .int a2), (0, .ref (a 0))]) C0 dX12_clear_8 rfl e8 (Nat.le_of_ble_eq_true rfl) rfl ?_
  refine r_aload_n C0 dX12_clear_9 rfl 1 rfl ?_
  refine r_iconst C0 dX12_clear_10 ki_0 ?_
  refine wmp_0_6 C0 hD tf_X12_212 dX12_clear_11 ?_
  refine r_iload_n C0 dX12_clear_14 rfl 0 rfl ?_
  cases h
  exact hz _ _ dX12_clear_15
theorem c_X12_clear {l : Launch} {D : va_G} {cy : Nat → ClassId} {a : Nat → Nat} {V : VT} {X : va_W} {y : Int32 × VT} (h : f_X12_clear V = some y) : CT l D cy yX12_clear cX12_clear 2 (some .int) 1 [.ref (a 0)] (WM cy a V X) (WM cy a y.2 X) (some (.int y.1)) :=
  mkI (by decide) (Nat.le_of_ble_eq_true rfl) (fun Γ _ _ C0 hD hF => w_X12_clear C0 (dm_of hD) h hF)
theorem dX12_done_0 : decode cX12_done 0 = .ok (.aload_n 0, 1) := by decide +kernel
theorem dX12_done_1 : decode cX12_done 1 = .ok (.getfield 23, 3) := by decide +kernel
theorem dX12_done_4 : decode cX12_done 4 = .ok (.iconst 5, 1) := by decide +kernel
theorem dX12_done_5 : decode cX12_done 5 = .ok (.iload_n 1, 1) := by decide +kernel
theorem dX12_done_6 : decode cX12_done 6 = .ok (.imul, 1) := by decide +kernel
theorem dX12_done_7 : decode cX12_done 7 = .ok (.iconst 1, 1) := by decide +kernel
theorem dX12_done_8 : decode cX12_done 8 = .ok (.iadd, 1) := by decide +kernel
theorem dX12_done_9 : decode cX12_done 9 = .ok (.iaload, 1) := by decide +kernel
theorem dX12_done_10 : decode cX12_done 10 = .ok (.istore_n 2, 1) := by decide +kernel
theorem dX12_done_11 : decode cX12_done 11 = .ok (.aload_n 0, 1) := by decide +kernel
theorem dX12_done_12 : decode cX12_done 12 = .ok (.getfield 23, 3) := by decide +kernel
theorem dX12_done_15 : decode cX12_done 15 = .ok (.iconst 5, 1) := by decide +kernel
theorem dX12_done_16 : decode cX12_done 16 = .ok (.iload_n 1, 1) := by decide +kernel
theorem dX12_done_17 : decode cX12_done 17 = .ok (.imul, 1) := by decide +kernel
theorem dX12_done_18 : decode cX12_done 18 = .ok (.iconst 2, 1) := by decide +kernel
theorem dX12_done_19 : decode cX12_done 19 = .ok (.iadd, 1) := by decide +kernel
theorem dX12_done_20 : decode cX12_done 20 = .ok (.iaload, 1) := by decide +kernel
theorem dX12_done_21 : decode cX12_done 21 = .ok (.istore_n 3, 1) := by decide +kernel
theorem dX12_done_22 : decode cX12_done 22 = .ok (.aload_n 0, 1) := by decide +kernel
theorem dX12_done_23 : decode cX12_done 23 = .ok (.getfield 23, 3) := by decide +kernel
theorem dX12_done_26 : decode cX12_done 26 = .ok (.iconst 5, 1) := by decide +kernel
theorem dX12_done_27 : decode cX12_done 27 = .ok (.iload_n 1, 1) := by decide +kernel
theorem dX12_done_28 : decode cX12_done 28 = .ok (.imul, 1) := by decide +kernel
theorem dX12_done_29 : decode cX12_done 29 = .ok (.iconst 3, 1) := by decide +kernel
theorem dX12_done_30 : decode cX12_done 30 = .ok (.iadd, 1) := by decide +kernel
theorem dX12_done_31 : decode cX12_done 31 = .ok (.iaload, 1) := by decide +kernel
theorem dX12_done_32 : decode cX12_done 32 = .ok (.istore 4, 2) := by decide +kernel
theorem dX12_done_34 : decode cX12_done 34 = .ok (.aload_n 0, 1) := by decide +kernel
theorem dX12_done_35 : decode cX12_done 35 = .ok (.getfield 23, 3) := by decide +kernel
theorem dX12_done_38 : decode cX12_done 38 = .ok (.iconst 5, 1) := by decide +kernel
theorem dX12_done_39 : decode cX12_done 39 = .ok (.iload_n 1, 1) := by decide +kernel
theorem dX12_done_40 : decode cX12_done 40 = .ok (.imul, 1) := by decide +kernel
theorem dX12_done_41 : decode cX12_done 41 = .ok (.iaload, 1) := by decide +kernel
theorem dX12_done_42 : decode cX12_done 42 = .ok (.tableswitch 68 1 4 #[30, 39, 45, 52], 30) := by decide +kernel
theorem dX12_done_72 : decode cX12_done 72 = .ok (.aload_n 0, 1) := by decide +kernel
theorem dX12_done_73 : decode cX12_done 73 = .ok (.iload_n 2, 1) := by decide +kernel
theorem dX12_done_74 : decode cX12_done 74 = .ok (.iload_n 3, 1) := by decide +kernel
theorem dX12_done_75 : decode cX12_done 75 = .ok (.iload 4, 2) := by decide +kernel
theorem dX12_done_77 : decode cX12_done 77 = .ok (.invokevirtual 215, 3) := by decide +kernel
theorem dX12_done_80 : decode cX12_done 80 = .ok (.ireturn, 1) := by decide +kernel
theorem dX12_done_81 : decode cX12_done 81 = .ok (.aload_n 0, 1) := by decide +kernel
theorem dX12_done_82 : decode cX12_done 82 = .ok (.iload_n 2, 1) := by decide +kernel
theorem dX12_done_83 : decode cX12_done 83 = .ok (.invokevirtual 218, 3) := by decide +kernel
theorem dX12_done_86 : decode cX12_done 86 = .ok (.ireturn, 1) := by decide +kernel
theorem dX12_done_87 : decode cX12_done 87 = .ok (.aload_n 0, 1) := by decide +kernel
theorem dX12_done_88 : decode cX12_done 88 = .ok (.iload_n 2, 1) := by decide +kernel
theorem dX12_done_89 : decode cX12_done 89 = .ok (.iload_n 3, 1) := by decide +kernel
theorem dX12_done_90 : decode cX12_done 90 = .ok (.invokevirtual 221, 3) := by decide +kernel
theorem dX12_done_93 : decode cX12_done 93 = .ok (.ireturn, 1) := by decide +kernel
theorem dX12_done_94 : decode cX12_done 94 = .ok (.aload_n 0, 1) := by decide +kernel
theorem dX12_done_95 : decode cX12_done 95 = .ok (.iload_n 2, 1) := by decide +kernel
theorem dX12_done_96 : decode cX12_done 96 = .ok (.iload_n 3, 1) := by decide +kernel
theorem dX12_done_97 : decode cX12_done 97 = .ok (.aload_n 0, 1) := by decide +kernel
theorem dX12_done_98 : decode cX12_done 98 = .ok (.getfield 7, 3) := by decide +kernel
theorem dX12_done_101 : decode cX12_done 101 = .ok (.sipush 1645, 3) := by decide +kernel
theorem dX12_done_104 : decode cX12_done 104 = .ok (.iaload, 1) := by decide +kernel
theorem dX12_done_105 : decode cX12_done 105 = .ok (.iconst 4, 1) := by decide +kernel
theorem dX12_done_106 : decode cX12_done 106 = .ok (.invokevirtual 224, 3) := by decide +kernel
theorem dX12_done_109 : decode cX12_done 109 = .ok (.ireturn, 1) := by decide +kernel
theorem dX12_done_110 : decode cX12_done 110 = .ok (.aload_n 0, 1) := by decide +kernel
theorem dX12_done_111 : decode cX12_done 111 = .ok (.iload_n 2, 1) := by decide +kernel
theorem dX12_done_112 : decode cX12_done 112 = .ok (.invokevirtual 228, 3) := by decide +kernel
theorem dX12_done_115 : decode cX12_done 115 = .ok (.ireturn, 1) := by decide +kernel
theorem w_X12_done {z : Int32 × VT} {Γ : Gam} {cy : Nat → ClassId} {a : Nat → Nat} {V : VT} {X : va_W} {v1 : Int32}  (C0 : CXg Γ cX12_done 5 9 RX12 cy) (hD : DM Γ cy a X) (h : f_X12_done v1 V = some z) (hz : (fun y : Int32 × VT => FinI Γ cX12_done (WM cy a y.2 X) y.1) z) : Wp Γ 0 0 0 [(0, .ref (a 0)), (1, .int v1)] [] (WM cy a V X) := by
  unfold f_X12_done at h
  refine r_aload_n C0 dX12_done_0 rfl 0 rfl ?_
  refine wmg_0_5 C0 tf_X12_23 dX12_done_1 ?_
  refine r_iconst C0 dX12_done_4 ki_5 ?_
  refine r_iload_n C0 dX12_done_5 rfl 1 rfl ?_
  refine r_imul C0 dX12_done_6 ?_
  refine r_iconst C0 dX12_done_7 ki_1 ?_
  refine r_iadd C0 dX12_done_8 ?_
  refine wmal_5 C0 h dX12_done_9 (fun k1 h => ?_)
  obtain ⟨a2, h8, h⟩ := op_bind h
  have e8 := Option.some.inj h8
  refine r_istore_n (lv2 := [(2, .int a2), (0, .ref (a 0)), (1, .int v1)]) C0 dX12_done_10 rfl e8 (Nat.le_of_ble_eq_true rfl) rfl ?_
  refine r_aload_n C0 dX12_done_11 rfl 1 rfl ?_
  refine wmg_0_5 C0 tf_X12_23 dX12_done_12 ?_
  refine r_iconst C0 dX12_done_15 ki_5 ?_
  refine r_iload_n C0 dX12_done_16 rfl 2 rfl ?_
  refine r_imul C0 dX12_done_17 ?_
  refine r_iconst C0 dX12_done_18 ki_2 ?_
  refine r_iadd C0 dX12_done_19 ?_
  refine wmal_5 C0 h dX12_done_20 (fun k3 h => ?_)
  obtain ⟨a4, h8, h⟩ := op_bind h
  have e8 := Option.some.inj h8
  refine r_istore_n (lv2 := [(3, .int a4), (2, .int a2), (0, .ref (a 0)), (1, .int v1)]) C0 dX12_done_21 rfl e8 (Nat.le_of_ble_eq_true rfl) rfl ?_
  refine r_aload_n C0 dX12_done_22 rfl 2 rfl ?_
  refine wmg_0_5 C0 tf_X12_23 dX12_done_23 ?_
  refine r_iconst C0 dX12_done_26 ki_5 ?_
  refine r_iload_n C0 dX12_done_27 rfl 3 rfl ?_
  refine r_imul C0 dX12_done_28 ?_
  refine r_iconst C0 dX12_done_29 ki_3 ?_
  refine r_iadd C0 dX12_done_30 ?_
  refine wmal_5 C0 h dX12_done_31 (fun k5 h => ?_)
  obtain ⟨a6, h8, h⟩ := op_bind h
  have e8 := Option.some.inj h8
  refine r_istore (lv2 := [(4, .int a6), (3, .int a4), (2, .int a2), (0, .ref (a 0)), (1, .int v1)]) C0 dX12_done_32 e8 (Nat.le_of_ble_eq_true rfl) rfl ?_
  refine r_aload_n C0 dX12_done_34 rfl 3 rfl ?_
  refine wmg_0_5 C0 tf_X12_23 dX12_done_35 ?_
  refine r_iconst C0 dX12_done_38 ki_5 ?_
  refine r_iload_n C0 dX12_done_39 rfl 4 rfl ?_
  refine r_imul C0 dX12_done_40 ?_
  refine wmal_5 C0 h dX12_done_41 (fun k7 h => ?_)
  by_cases c0 : (V 4 k7) = 1
  · have h := op_pos c0 h
    refine r_swI C0 72 dX12_done_42 c0 (by decide) (by decide) rfl rfl ?_
    refine r_aload_n C0 dX12_done_72 rfl 3 rfl ?_
    refine r_iload_n C0 dX12_done_73 rfl 2 rfl ?_
    refine r_iload_n C0 dX12_done_74 rfl 1 rfl ?_
    refine r_iload C0 dX12_done_75 0 rfl ?_
    refine callV3 C0 h (hD _) mw_X12_hang rv_m tm_X12_215 (fun y hy => c_X12_hang hy) (Nat.le_of_ble_eq_true rfl) (Nat.le_of_ble_eq_true rfl) dX12_done_77 (fun r8 h => ?_)
    cases h
    exact hz _ _ dX12_done_80
  have h := op_neg c0 h
  have n0 := ne_toInt (i := 1) c0 (by decide)
  by_cases c1 : (V 4 k7) = 2
  · have h := op_pos c1 h
    refine r_swI C0 81 dX12_done_42 c1 (by decide) (by decide) rfl rfl ?_
    refine r_aload_n C0 dX12_done_81 rfl 3 rfl ?_
    refine r_iload_n C0 dX12_done_82 rfl 2 rfl ?_
    refine callV1 C0 h (hD _) mw_X12_strike rv_m tm_X12_218 (fun y hy => c_X12_strike hy) (Nat.le_of_ble_eq_true rfl) (Nat.le_of_ble_eq_true rfl) dX12_done_83 (fun r9 h => ?_)
    cases h
    exact hz _ _ dX12_done_86
  have h := op_neg c1 h
  have n1 := ne_toInt (i := 2) c1 (by decide)
  by_cases c2 : (V 4 k7) = 3
  · have h := op_pos c2 h
    refine r_swI C0 87 dX12_done_42 c2 (by decide) (by decide) rfl rfl ?_
    refine r_aload_n C0 dX12_done_87 rfl 3 rfl ?_
    refine r_iload_n C0 dX12_done_88 rfl 2 rfl ?_
    refine r_iload_n C0 dX12_done_89 rfl 1 rfl ?_
    refine callV2 C0 h (hD _) mw_X12_brick rv_m tm_X12_221 (fun y hy => c_X12_brick hy) (Nat.le_of_ble_eq_true rfl) (Nat.le_of_ble_eq_true rfl) dX12_done_90 (fun r10 h => ?_)
    cases h
    exact hz _ _ dX12_done_93
  have h := op_neg c2 h
  have n2 := ne_toInt (i := 3) c2 (by decide)
  by_cases c3 : (V 4 k7) = 4
  · have h := op_pos c3 h
    refine r_swI C0 94 dX12_done_42 c3 (by decide) (by decide) rfl rfl ?_
    refine r_aload_n C0 dX12_done_94 rfl 3 rfl ?_
    refine r_iload_n C0 dX12_done_95 rfl 2 rfl ?_
    refine r_iload_n C0 dX12_done_96 rfl 1 rfl ?_
    refine r_aload_n C0 dX12_done_97 rfl 3 rfl ?_
    refine wmg_0_0 C0 tf_X12_7 dX12_done_98 ?_
    refine r_sipush C0 dX12_done_101 ks_1645 ?_
    refine wmal_1 C0 h dX12_done_104 (fun k11 h => ?_)
    refine r_iconst C0 dX12_done_105 ki_4 ?_
    refine callV4 C0 h (hD _) mw_X12_cue rv_m tm_X12_224 (fun y hy => c_X12_cue hy) (Nat.le_of_ble_eq_true rfl) (Nat.le_of_ble_eq_true rfl) dX12_done_106 (fun r12 h => ?_)
    cases h
    exact hz _ _ dX12_done_109
  have h := op_neg c3 h
  have n3 := ne_toInt (i := 4) c3 (by decide)
  refine r_swD C0 110 dX12_done_42 (by omega) rfl ?_
  refine r_aload_n C0 dX12_done_110 rfl 3 rfl ?_
  refine r_iload_n C0 dX12_done_111 rfl 2 rfl ?_
  refine callV1 C0 h (hD _) mw_X12_go rv_m tm_X12_228 (fun y hy => c_X12_go hy) (Nat.le_of_ble_eq_true rfl) (Nat.le_of_ble_eq_true rfl) dX12_done_112 (fun r13 h => ?_)
  cases h
  exact hz _ _ dX12_done_115
theorem c_X12_done {l : Launch} {D : va_G} {cy : Nat → ClassId} {a : Nat → Nat} {V : VT} {X : va_W} {v1 : Int32} {y : Int32 × VT} (h : f_X12_done v1 V = some y) : CT l D cy yX12_done cX12_done 5 (some .int) 9 [.ref (a 0), .int v1] (WM cy a V X) (WM cy a y.2 X) (some (.int y.1)) :=
  mkI (by decide) (Nat.le_of_ble_eq_true rfl) (fun Γ _ _ C0 hD hF => w_X12_done C0 (dm_of hD) h hF)
theorem dX12_check_0 : decode cX12_check 0 = .ok (.aload_n 0, 1) := by decide +kernel
theorem dX12_check_1 : decode cX12_check 1 = .ok (.invokevirtual 165, 3) := by decide +kernel
theorem dX12_check_4 : decode cX12_check 4 = .ok (.iconst 0, 1) := by decide +kernel
theorem dX12_check_5 : decode cX12_check 5 = .ok (.istore_n 1, 1) := by decide +kernel
theorem dX12_check_6 : decode cX12_check 6 = .ok (.iload_n 1, 1) := by decide +kernel
theorem dX12_check_7 : decode cX12_check 7 = .ok (.sipush 1646, 3) := by decide +kernel
theorem dX12_check_10 : decode cX12_check 10 = .ok (.if_icmp .ge 21, 3) := by decide +kernel
theorem dX12_check_13 : decode cX12_check 13 = .ok (.aload_n 0, 1) := by decide +kernel
theorem dX12_check_14 : decode cX12_check 14 = .ok (.getfield 20, 3) := by decide +kernel
theorem dX12_check_17 : decode cX12_check 17 = .ok (.iload_n 1, 1) := by decide +kernel
theorem dX12_check_18 : decode cX12_check 18 = .ok (.aload_n 0, 1) := by decide +kernel
theorem dX12_check_19 : decode cX12_check 19 = .ok (.getfield 7, 3) := by decide +kernel
theorem dX12_check_22 : decode cX12_check 22 = .ok (.iload_n 1, 1) := by decide +kernel
theorem dX12_check_23 : decode cX12_check 23 = .ok (.iaload, 1) := by decide +kernel
theorem dX12_check_24 : decode cX12_check 24 = .ok (.iastore, 1) := by decide +kernel
theorem dX12_check_25 : decode cX12_check 25 = .ok (.iinc 1 1, 3) := by decide +kernel
theorem dX12_check_28 : decode cX12_check 28 = .ok (.goto (-22), 3) := by decide +kernel
theorem dX12_check_31 : decode cX12_check 31 = .ok (.iconst 0, 1) := by decide +kernel
theorem dX12_check_32 : decode cX12_check 32 = .ok (.istore_n 1, 1) := by decide +kernel
theorem dX12_check_33 : decode cX12_check 33 = .ok (.iload_n 1, 1) := by decide +kernel
theorem dX12_check_34 : decode cX12_check 34 = .ok (.ldc 13, 2) := by decide +kernel
theorem dX12_check_36 : decode cX12_check 36 = .ok (.if_icmp .ge 21, 3) := by decide +kernel
theorem dX12_check_39 : decode cX12_check 39 = .ok (.aload_n 0, 1) := by decide +kernel
theorem dX12_check_40 : decode cX12_check 40 = .ok (.getfield 29, 3) := by decide +kernel
theorem dX12_check_43 : decode cX12_check 43 = .ok (.iload_n 1, 1) := by decide +kernel
theorem dX12_check_44 : decode cX12_check 44 = .ok (.aload_n 0, 1) := by decide +kernel
theorem dX12_check_45 : decode cX12_check 45 = .ok (.getfield 14, 3) := by decide +kernel
theorem dX12_check_48 : decode cX12_check 48 = .ok (.iload_n 1, 1) := by decide +kernel
theorem dX12_check_49 : decode cX12_check 49 = .ok (.iaload, 1) := by decide +kernel
theorem dX12_check_50 : decode cX12_check 50 = .ok (.iastore, 1) := by decide +kernel
theorem dX12_check_51 : decode cX12_check 51 = .ok (.iinc 1 1, 3) := by decide +kernel
theorem dX12_check_54 : decode cX12_check 54 = .ok (.goto (-21), 3) := by decide +kernel
theorem dX12_check_57 : decode cX12_check 57 = .ok (.aload_n 0, 1) := by decide +kernel
theorem dX12_check_58 : decode cX12_check 58 = .ok (.getfield 43, 3) := by decide +kernel
theorem dX12_check_61 : decode cX12_check 61 = .ok (.istore_n 1, 1) := by decide +kernel
theorem dX12_check_62 : decode cX12_check 62 = .ok (.aload_n 0, 1) := by decide +kernel
theorem dX12_check_63 : decode cX12_check 63 = .ok (.getfield 39, 3) := by decide +kernel
theorem dX12_check_66 : decode cX12_check 66 = .ok (.istore_n 2, 1) := by decide +kernel
theorem dX12_check_67 : decode cX12_check 67 = .ok (.iconst 0, 1) := by decide +kernel
theorem dX12_check_68 : decode cX12_check 68 = .ok (.istore_n 3, 1) := by decide +kernel
theorem dX12_check_69 : decode cX12_check 69 = .ok (.iload_n 3, 1) := by decide +kernel
theorem dX12_check_70 : decode cX12_check 70 = .ok (.aload_n 0, 1) := by decide +kernel
theorem dX12_check_71 : decode cX12_check 71 = .ok (.getfield 212, 3) := by decide +kernel
theorem dX12_check_74 : decode cX12_check 74 = .ok (.if_icmp .ge 60, 3) := by decide +kernel
theorem dX12_check_77 : decode cX12_check 77 = .ok (.aload_n 0, 1) := by decide +kernel
theorem dX12_check_78 : decode cX12_check 78 = .ok (.iload_n 3, 1) := by decide +kernel
theorem dX12_check_79 : decode cX12_check 79 = .ok (.invokevirtual 231, 3) := by decide +kernel
theorem dX12_check_82 : decode cX12_check 82 = .ok (.istore 4, 2) := by decide +kernel
theorem dX12_check_84 : decode cX12_check 84 = .ok (.aload_n 0, 1) := by decide +kernel
theorem dX12_check_85 : decode cX12_check 85 = .ok (.getfield 32, 3) := by decide +kernel
theorem dX12_check_88 : decode cX12_check 88 = .ok (.ifCond .ne 30, 3) := by decide +kernel
theorem dX12_check_91 : decode cX12_check 91 = .ok (.iload 4, 2) := by decide +kernel
theorem dX12_check_93 : decode cX12_check 93 = .ok (.aload_n 0, 1) := by decide +kernel
theorem dX12_check_94 : decode cX12_check 94 = .ok (.getfield 23, 3) := by decide +kernel
theorem dX12_check_97 : decode cX12_check 97 = .ok (.iconst 5, 1) := by decide +kernel
theorem dX12_check_98 : decode cX12_check 98 = .ok (.iload_n 3, 1) := by decide +kernel
theorem dX12_check_99 : decode cX12_check 99 = .ok (.imul, 1) := by decide +kernel
theorem dX12_check_100 : decode cX12_check 100 = .ok (.iconst 4, 1) := by decide +kernel
theorem dX12_check_101 : decode cX12_check 101 = .ok (.iadd, 1) := by decide +kernel
theorem dX12_check_102 : decode cX12_check 102 = .ok (.iaload, 1) := by decide +kernel
theorem dX12_check_103 : decode cX12_check 103 = .ok (.if_icmp .eq 15, 3) := by decide +kernel
theorem dX12_check_106 : decode cX12_check 106 = .ok (.aload_n 0, 1) := by decide +kernel
theorem dX12_check_107 : decode cX12_check 107 = .ok (.bipush 19, 2) := by decide +kernel
theorem dX12_check_109 : decode cX12_check 109 = .ok (.putfield 32, 3) := by decide +kernel
theorem dX12_check_112 : decode cX12_check 112 = .ok (.aload_n 0, 1) := by decide +kernel
theorem dX12_check_113 : decode cX12_check 113 = .ok (.iload 4, 2) := by decide +kernel
theorem dX12_check_115 : decode cX12_check 115 = .ok (.putfield 36, 3) := by decide +kernel
theorem dX12_check_118 : decode cX12_check 118 = .ok (.aload_n 0, 1) := by decide +kernel
theorem dX12_check_119 : decode cX12_check 119 = .ok (.getfield 32, 3) := by decide +kernel
theorem dX12_check_122 : decode cX12_check 122 = .ok (.ifCond .eq 6, 3) := by decide +kernel
theorem dX12_check_125 : decode cX12_check 125 = .ok (.goto 9, 3) := by decide +kernel
theorem dX12_check_128 : decode cX12_check 128 = .ok (.iinc 3 1, 3) := by decide +kernel
theorem dX12_check_131 : decode cX12_check 131 = .ok (.goto (-62), 3) := by decide +kernel
theorem dX12_check_134 : decode cX12_check 134 = .ok (.iconst 0, 1) := by decide +kernel
theorem dX12_check_135 : decode cX12_check 135 = .ok (.istore 4, 2) := by decide +kernel
theorem dX12_check_137 : decode cX12_check 137 = .ok (.iload 4, 2) := by decide +kernel
theorem dX12_check_139 : decode cX12_check 139 = .ok (.sipush 1646, 3) := by decide +kernel
theorem dX12_check_142 : decode cX12_check 142 = .ok (.if_icmp .ge 23, 3) := by decide +kernel
theorem dX12_check_145 : decode cX12_check 145 = .ok (.aload_n 0, 1) := by decide +kernel
theorem dX12_check_146 : decode cX12_check 146 = .ok (.getfield 7, 3) := by decide +kernel
theorem dX12_check_149 : decode cX12_check 149 = .ok (.iload 4, 2) := by decide +kernel
theorem dX12_check_151 : decode cX12_check 151 = .ok (.aload_n 0, 1) := by decide +kernel
theorem dX12_check_152 : decode cX12_check 152 = .ok (.getfield 20, 3) := by decide +kernel
theorem dX12_check_155 : decode cX12_check 155 = .ok (.iload 4, 2) := by decide +kernel
theorem dX12_check_157 : decode cX12_check 157 = .ok (.iaload, 1) := by decide +kernel
theorem dX12_check_158 : decode cX12_check 158 = .ok (.iastore, 1) := by decide +kernel
theorem dX12_check_159 : decode cX12_check 159 = .ok (.iinc 4 1, 3) := by decide +kernel
theorem dX12_check_162 : decode cX12_check 162 = .ok (.goto (-25), 3) := by decide +kernel
theorem dX12_check_165 : decode cX12_check 165 = .ok (.iconst 0, 1) := by decide +kernel
theorem dX12_check_166 : decode cX12_check 166 = .ok (.istore 4, 2) := by decide +kernel
theorem dX12_check_168 : decode cX12_check 168 = .ok (.iload 4, 2) := by decide +kernel
theorem dX12_check_170 : decode cX12_check 170 = .ok (.ldc 13, 2) := by decide +kernel
theorem dX12_check_172 : decode cX12_check 172 = .ok (.if_icmp .ge 23, 3) := by decide +kernel
theorem dX12_check_175 : decode cX12_check 175 = .ok (.aload_n 0, 1) := by decide +kernel
theorem dX12_check_176 : decode cX12_check 176 = .ok (.getfield 14, 3) := by decide +kernel
theorem dX12_check_179 : decode cX12_check 179 = .ok (.iload 4, 2) := by decide +kernel
theorem dX12_check_181 : decode cX12_check 181 = .ok (.aload_n 0, 1) := by decide +kernel
theorem dX12_check_182 : decode cX12_check 182 = .ok (.getfield 29, 3) := by decide +kernel
theorem dX12_check_185 : decode cX12_check 185 = .ok (.iload 4, 2) := by decide +kernel
theorem dX12_check_187 : decode cX12_check 187 = .ok (.iaload, 1) := by decide +kernel
theorem dX12_check_188 : decode cX12_check 188 = .ok (.iastore, 1) := by decide +kernel
theorem dX12_check_189 : decode cX12_check 189 = .ok (.iinc 4 1, 3) := by decide +kernel
theorem dX12_check_192 : decode cX12_check 192 = .ok (.goto (-24), 3) := by decide +kernel
theorem dX12_check_195 : decode cX12_check 195 = .ok (.aload_n 0, 1) := by decide +kernel
theorem dX12_check_196 : decode cX12_check 196 = .ok (.iload_n 1, 1) := by decide +kernel
theorem dX12_check_197 : decode cX12_check 197 = .ok (.putfield 43, 3) := by decide +kernel
theorem dX12_check_200 : decode cX12_check 200 = .ok (.aload_n 0, 1) := by decide +kernel
theorem dX12_check_201 : decode cX12_check 201 = .ok (.iload_n 2, 1) := by decide +kernel
theorem dX12_check_202 : decode cX12_check 202 = .ok (.putfield 39, 3) := by decide +kernel
theorem dX12_check_205 : decode cX12_check 205 = .ok (.iload_n 3, 1) := by decide +kernel
theorem dX12_check_206 : decode cX12_check 206 = .ok (.ireturn, 1) := by decide +kernel
theorem w_X12_check_B168 {x : Int32 × VT} {z : ((Int32 × VT) ⊕ (Int32 × VT))} {Γ : Gam} {cy : Nat → ClassId} {a : Nat → Nat} {X : va_W} {v1 : Int32} {v2 : Int32} {v3 : Int32}  (C0 : CXg Γ cX12_check 5 10 RX12 cy) (hD : DM Γ cy a X) (h : f_X12_check_B168 v1 v2 v3 x = some z) (hz : (Sum.elim (fun x : Int32 × VT => Wp Γ 0 0 168 [(0, .ref (a 0)), (1, .int v1), (2, .int v2), (3, .int v3), (4, .int x.1)] [] (WM cy a x.2 X)) (fun y : Int32 × VT => FinI Γ cX12_check (WM cy a y.2 X) y.1)) z) : Wp Γ 0 0 168 [(0, .ref (a 0)), (1, .int v1), (2, .int v2), (3, .int v3), (4, .int x.1)] [] (WM cy a x.2 X) := by
  unfold f_X12_check_B168 at h
  refine r_iload C0 dX12_check_168 4 rfl ?_
  refine r_ldc C0 tk_X12_13 dX12_check_170 ?_
  refine r_icmp_ge C0 195 dX12_check_172 rfl h (fun _ h => ?_) (fun _ h => ?_)
  · obtain ⟨y13, h5, h9⟩ := op_bind h
    clear h
    cases h9
    have hz := (el_inr hz)
    have h := h5
    refine r_aload_n C0 dX12_check_195 rfl 0 rfl ?_
    refine r_iload_n C0 dX12_check_196 rfl 1 rfl ?_
    refine wmp_0_2 C0 hD tf_X12_43 dX12_check_197 ?_
    refine r_aload_n C0 dX12_check_200 rfl 0 rfl ?_
    refine r_iload_n C0 dX12_check_201 rfl 2 rfl ?_
    refine wmp_0_9 C0 hD tf_X12_39 dX12_check_202 ?_
    refine r_iload_n C0 dX12_check_205 rfl 3 rfl ?_
    cases h
    exact hz _ _ dX12_check_206
  · refine r_aload_n C0 dX12_check_175 rfl 0 rfl ?_
    refine wmg_0_1 C0 tf_X12_14 dX12_check_176 ?_
    refine r_iload C0 dX12_check_179 4 rfl ?_
    refine r_aload_n C0 dX12_check_181 rfl 0 rfl ?_
    refine wmg_0_11 C0 tf_X12_29 dX12_check_182 ?_
    refine r_iload C0 dX12_check_185 4 rfl ?_
    refine wmal_7 C0 h dX12_check_187 (fun k14 h => ?_)
    refine wmas_2 C0 hD h dX12_check_188 (fun k15 h => ?_)
    obtain ⟨a16, h8, h⟩ := op_bind h
    have e8 := Option.some.inj h8
    refine r_iinc (lv2 := [(4, .int a16), (0, .ref (a 0)), (1, .int v1), (2, .int v2), (3, .int v3)]) C0 dX12_check_189 4 rfl ki_1 e8 (Nat.le_of_ble_eq_true rfl) rfl ?_
    refine r_goto C0 168 dX12_check_192 rfl ?_
    cases h
    have hz := el_inl hz
    exact r_sub [1, 2, 3, 4, 0] rfl hz
theorem w_X12_check_B168_lp {x : Int32 × VT} {z : (Int32 × VT)} {Γ : Gam} {cy : Nat → ClassId} {a : Nat → Nat} {X : va_W} {v1 : Int32} {v2 : Int32} {v3 : Int32}  (C0 : CXg Γ cX12_check 5 10 RX12 cy) (hD : DM Γ cy a X) (h : lp (f_X12_check_B168 v1 v2 v3) fuel x = some z) (hz : (fun y : Int32 × VT => FinI Γ cX12_check (WM cy a y.2 X) y.1) z) : Wp Γ 0 0 168 [(0, .ref (a 0)), (1, .int v1), (2, .int v2), (3, .int v3), (4, .int x.1)] [] (WM cy a x.2 X) :=
  lp_rule (hd := (fun x : Int32 × VT => Wp Γ 0 0 168 [(0, .ref (a 0)), (1, .int v1), (2, .int v2), (3, .int v3), (4, .int x.1)] [] (WM cy a x.2 X))) (C := (fun y : Int32 × VT => FinI Γ cX12_check (WM cy a y.2 X) y.1)) (fun x z h hz => w_X12_check_B168 C0 hD h hz) _ _ _ h hz
theorem w_X12_check_B137 {x : Int32 × VT} {z : ((Int32 × VT) ⊕ (Int32 × VT))} {Γ : Gam} {cy : Nat → ClassId} {a : Nat → Nat} {X : va_W} {v1 : Int32} {v2 : Int32} {v3 : Int32}  (C0 : CXg Γ cX12_check 5 10 RX12 cy) (hD : DM Γ cy a X) (h : f_X12_check_B137 v1 v2 v3 x = some z) (hz : (Sum.elim (fun x : Int32 × VT => Wp Γ 0 0 137 [(0, .ref (a 0)), (1, .int v1), (2, .int v2), (3, .int v3), (4, .int x.1)] [] (WM cy a x.2 X)) (fun y : Int32 × VT => FinI Γ cX12_check (WM cy a y.2 X) y.1)) z) : Wp Γ 0 0 137 [(0, .ref (a 0)), (1, .int v1), (2, .int v2), (3, .int v3), (4, .int x.1)] [] (WM cy a x.2 X) := by
  unfold f_X12_check_B137 at h
  refine r_iload C0 dX12_check_137 4 rfl ?_
  refine r_sipush C0 dX12_check_139 ks_1646 ?_
  refine r_icmp_ge C0 165 dX12_check_142 rfl h (fun _ h => ?_) (fun _ h => ?_)
  · obtain ⟨y11, h5, h9⟩ := op_bind h
    clear h
    cases h9
    have hz := (el_inr hz)
    have h := h5
    refine r_iconst C0 dX12_check_165 ki_0 ?_
    obtain ⟨a12, h8, h⟩ := op_bind h
    have e8 := Option.some.inj h8
    refine r_istore (lv2 := [(4, .int a12), (0, .ref (a 0)), (1, .int v1), (2, .int v2), (3, .int v3)]) C0 dX12_check_166 e8 (Nat.le_of_ble_eq_true rfl) rfl ?_
    exact r_sub [1, 2, 3, 4, 0] rfl (w_X12_check_B168_lp C0 hD h hz)
  · refine r_aload_n C0 dX12_check_145 rfl 0 rfl ?_
    refine wmg_0_0 C0 tf_X12_7 dX12_check_146 ?_
    refine r_iload C0 dX12_check_149 4 rfl ?_
    refine r_aload_n C0 dX12_check_151 rfl 0 rfl ?_
    refine wmg_0_4 C0 tf_X12_20 dX12_check_152 ?_
    refine r_iload C0 dX12_check_155 4 rfl ?_
    refine wmal_4 C0 h dX12_check_157 (fun k17 h => ?_)
    refine wmas_1 C0 hD h dX12_check_158 (fun k18 h => ?_)
    obtain ⟨a19, h8, h⟩ := op_bind h
    have e8 := Option.some.inj h8
    refine r_iinc (lv2 := [(4, .int a19), (0, .ref (a 0)), (1, .int v1), (2, .int v2), (3, .int v3)]) C0 dX12_check_159 4 rfl ki_1 e8 (Nat.le_of_ble_eq_true rfl) rfl ?_
    refine r_goto C0 137 dX12_check_162 rfl ?_
    cases h
    have hz := el_inl hz
    exact r_sub [1, 2, 3, 4, 0] rfl hz
theorem w_X12_check_B137_lp {x : Int32 × VT} {z : (Int32 × VT)} {Γ : Gam} {cy : Nat → ClassId} {a : Nat → Nat} {X : va_W} {v1 : Int32} {v2 : Int32} {v3 : Int32}  (C0 : CXg Γ cX12_check 5 10 RX12 cy) (hD : DM Γ cy a X) (h : lp (f_X12_check_B137 v1 v2 v3) fuel x = some z) (hz : (fun y : Int32 × VT => FinI Γ cX12_check (WM cy a y.2 X) y.1) z) : Wp Γ 0 0 137 [(0, .ref (a 0)), (1, .int v1), (2, .int v2), (3, .int v3), (4, .int x.1)] [] (WM cy a x.2 X) :=
  lp_rule (hd := (fun x : Int32 × VT => Wp Γ 0 0 137 [(0, .ref (a 0)), (1, .int v1), (2, .int v2), (3, .int v3), (4, .int x.1)] [] (WM cy a x.2 X))) (C := (fun y : Int32 × VT => FinI Γ cX12_check (WM cy a y.2 X) y.1)) (fun x z h hz => w_X12_check_B137 C0 hD h hz) _ _ _ h hz
theorem w_X12_check_j134 {z : (Int32 × VT)} {Γ : Gam} {cy : Nat → ClassId} {a : Nat → Nat} {V : VT} {X : va_W} {v1 : Int32} {v2 : Int32} {v3 : Int32}  (C0 : CXg Γ cX12_check 5 10 RX12 cy) (hD : DM Γ cy a X) (h : f_X12_check_j134 v1 v2 v3 V = some z) (hz : (fun y : Int32 × VT => FinI Γ cX12_check (WM cy a y.2 X) y.1) z) : Wp Γ 0 0 134 [(0, .ref (a 0)), (1, .int v1), (2, .int v2), (3, .int v3)] [] (WM cy a V X) := by
  unfold f_X12_check_j134 at h
  refine r_iconst C0 dX12_check_134 ki_0 ?_
  obtain ⟨a10, h8, h⟩ := op_bind h
  have e8 := Option.some.inj h8
  refine r_istore (lv2 := [(4, .int a10), (0, .ref (a 0)), (1, .int v1), (2, .int v2), (3, .int v3)]) C0 dX12_check_135 e8 (Nat.le_of_ble_eq_true rfl) rfl ?_
  exact r_sub [1, 2, 3, 4, 0] rfl (w_X12_check_B137_lp C0 hD h hz)
theorem w_X12_check_j118 {z : ((Int32 × VT) ⊕ (Int32 × VT))} {Γ : Gam} {cy : Nat → ClassId} {a : Nat → Nat} {V : VT} {X : va_W} {v1 : Int32} {v2 : Int32} {v3 : Int32}  (C0 : CXg Γ cX12_check 5 10 RX12 cy) (hD : DM Γ cy a X) (h : f_X12_check_j118 v1 v2 v3 V = some z) (hz : (Sum.elim (fun x : Int32 × VT => Wp Γ 0 0 69 [(0, .ref (a 0)), (1, .int v1), (2, .int v2), (3, .int x.1)] [] (WM cy a x.2 X)) (fun y : Int32 × VT => FinI Γ cX12_check (WM cy a y.2 X) y.1)) z) : Wp Γ 0 0 118 [(0, .ref (a 0)), (1, .int v1), (2, .int v2), (3, .int v3)] [] (WM cy a V X) := by
  unfold f_X12_check_j118 at h
  refine r_aload_n C0 dX12_check_118 rfl 0 rfl ?_
  refine wmg_0_7 C0 tf_X12_32 dX12_check_119 ?_
  refine r_if_eq C0 128 dX12_check_122 rfl h (fun _ h => ?_) (fun _ h => ?_)
  · obtain ⟨a21, h8, h⟩ := op_bind h
    have e8 := Option.some.inj h8
    refine r_iinc (lv2 := [(3, .int a21), (0, .ref (a 0)), (1, .int v1), (2, .int v2)]) C0 dX12_check_128 3 rfl ki_1 e8 (Nat.le_of_ble_eq_true rfl) rfl ?_
    refine r_goto C0 69 dX12_check_131 rfl ?_
    cases h
    have hz := el_inl hz
    exact r_sub [1, 2, 3, 0] rfl hz
  · obtain ⟨y22, h5, h9⟩ := op_bind h
    clear h
    cases h9
    have hz := (el_inr hz)
    have h := h5
    refine r_goto C0 134 dX12_check_125 rfl ?_
    exact r_sub [0, 1, 2, 3] rfl (w_X12_check_j134 C0 hD h hz)
theorem w_X12_check_B69 {x : Int32 × VT} {z : ((Int32 × VT) ⊕ (Int32 × VT))} {Γ : Gam} {cy : Nat → ClassId} {a : Nat → Nat} {X : va_W} {v1 : Int32} {v2 : Int32}  (C0 : CXg Γ cX12_check 5 10 RX12 cy) (hD : DM Γ cy a X) (h : f_X12_check_B69 v1 v2 x = some z) (hz : (Sum.elim (fun x : Int32 × VT => Wp Γ 0 0 69 [(0, .ref (a 0)), (1, .int v1), (2, .int v2), (3, .int x.1)] [] (WM cy a x.2 X)) (fun y : Int32 × VT => FinI Γ cX12_check (WM cy a y.2 X) y.1)) z) : Wp Γ 0 0 69 [(0, .ref (a 0)), (1, .int v1), (2, .int v2), (3, .int x.1)] [] (WM cy a x.2 X) := by
  unfold f_X12_check_B69 at h
  refine r_iload_n C0 dX12_check_69 rfl 3 rfl ?_
  refine r_aload_n C0 dX12_check_70 rfl 0 rfl ?_
  refine wmg_0_6 C0 tf_X12_212 dX12_check_71 ?_
  refine r_icmp_ge C0 134 dX12_check_74 rfl h (fun _ h => ?_) (fun _ h => ?_)
  · obtain ⟨y9, h5, h9⟩ := op_bind h
    clear h
    cases h9
    have hz := (el_inr hz)
    have h := h5
    exact r_sub [0, 1, 2, 3] rfl (w_X12_check_j134 C0 hD h hz)
  · refine r_aload_n C0 dX12_check_77 rfl 0 rfl ?_
    refine r_iload_n C0 dX12_check_78 rfl 3 rfl ?_
    refine callV1 C0 h (hD _) mw_X12_done rv_m tm_X12_231 (fun y hy => c_X12_done hy) (Nat.le_of_ble_eq_true rfl) (Nat.le_of_ble_eq_true rfl) dX12_check_79 (fun r20 h => ?_)
    refine r_istore (lv2 := [(4, .int r20.1), (0, .ref (a 0)), (1, .int v1), (2, .int v2), (3, .int x.1)]) C0 dX12_check_82 rfl (Nat.le_of_ble_eq_true rfl) rfl ?_
    refine r_aload_n C0 dX12_check_84 rfl 1 rfl ?_
    refine wmg_0_7 C0 tf_X12_32 dX12_check_85 ?_
    refine r_if_ne C0 118 dX12_check_88 rfl h (fun _ h => ?_) (fun _ h => ?_)
    · exact r_sub [1, 2, 3, 4] rfl (w_X12_check_j118 C0 hD h hz)
    · refine r_iload C0 dX12_check_91 0 rfl ?_
      refine r_aload_n C0 dX12_check_93 rfl 1 rfl ?_
      refine wmg_0_5 C0 tf_X12_23 dX12_check_94 ?_
      refine r_iconst C0 dX12_check_97 ki_5 ?_
      refine r_iload_n C0 dX12_check_98 rfl 4 rfl ?_
      refine r_imul C0 dX12_check_99 ?_
      refine r_iconst C0 dX12_check_100 ki_4 ?_
      refine r_iadd C0 dX12_check_101 ?_
      refine wmal_5 C0 h dX12_check_102 (fun k23 h => ?_)
      refine r_icmp_eq C0 118 dX12_check_103 rfl h (fun _ h => ?_) (fun _ h => ?_)
      · exact r_sub [1, 2, 3, 4] rfl (w_X12_check_j118 C0 hD h hz)
      · refine r_aload_n C0 dX12_check_106 rfl 1 rfl ?_
        refine r_bipush C0 dX12_check_107 kb_19 ?_
        refine wmp_0_7 C0 hD tf_X12_32 dX12_check_109 ?_
        refine r_aload_n C0 dX12_check_112 rfl 1 rfl ?_
        refine r_iload C0 dX12_check_113 0 rfl ?_
        refine wmp_0_8 C0 hD tf_X12_36 dX12_check_115 ?_
        exact r_sub [1, 2, 3, 4] rfl (w_X12_check_j118 C0 hD h hz)
theorem w_X12_check_B69_lp {x : Int32 × VT} {z : (Int32 × VT)} {Γ : Gam} {cy : Nat → ClassId} {a : Nat → Nat} {X : va_W} {v1 : Int32} {v2 : Int32}  (C0 : CXg Γ cX12_check 5 10 RX12 cy) (hD : DM Γ cy a X) (h : lp (f_X12_check_B69 v1 v2) fuel x = some z) (hz : (fun y : Int32 × VT => FinI Γ cX12_check (WM cy a y.2 X) y.1) z) : Wp Γ 0 0 69 [(0, .ref (a 0)), (1, .int v1), (2, .int v2), (3, .int x.1)] [] (WM cy a x.2 X) :=
  lp_rule (hd := (fun x : Int32 × VT => Wp Γ 0 0 69 [(0, .ref (a 0)), (1, .int v1), (2, .int v2), (3, .int x.1)] [] (WM cy a x.2 X))) (C := (fun y : Int32 × VT => FinI Γ cX12_check (WM cy a y.2 X) y.1)) (fun x z h hz => w_X12_check_B69 C0 hD h hz) _ _ _ h hz
theorem w_X12_check_B33 {x : Int32 × VT} {z : ((Int32 × VT) ⊕ (Int32 × VT))} {Γ : Gam} {cy : Nat → ClassId} {a : Nat → Nat} {X : va_W}  (C0 : CXg Γ cX12_check 5 10 RX12 cy) (hD : DM Γ cy a X) (h : f_X12_check_B33 x = some z) (hz : (Sum.elim (fun x : Int32 × VT => Wp Γ 0 0 33 [(0, .ref (a 0)), (1, .int x.1)] [] (WM cy a x.2 X)) (fun y : Int32 × VT => FinI Γ cX12_check (WM cy a y.2 X) y.1)) z) : Wp Γ 0 0 33 [(0, .ref (a 0)), (1, .int x.1)] [] (WM cy a x.2 X) := by
  unfold f_X12_check_B33 at h
  refine r_iload_n C0 dX12_check_33 rfl 1 rfl ?_
  refine r_ldc C0 tk_X12_13 dX12_check_34 ?_
  refine r_icmp_ge C0 57 dX12_check_36 rfl h (fun _ h => ?_) (fun _ h => ?_)
  · obtain ⟨y5, h5, h9⟩ := op_bind h
    clear h
    cases h9
    have hz := (el_inr hz)
    have h := h5
    refine r_aload_n C0 dX12_check_57 rfl 0 rfl ?_
    refine wmg_0_2 C0 tf_X12_43 dX12_check_58 ?_
    obtain ⟨a6, h8, h⟩ := op_bind h
    have e8 := Option.some.inj h8
    refine r_istore_n (lv2 := [(1, .int a6), (0, .ref (a 0))]) C0 dX12_check_61 rfl e8 (Nat.le_of_ble_eq_true rfl) rfl ?_
    refine r_aload_n C0 dX12_check_62 rfl 1 rfl ?_
    refine wmg_0_9 C0 tf_X12_39 dX12_check_63 ?_
    obtain ⟨a7, h8, h⟩ := op_bind h
    have e8 := Option.some.inj h8
    refine r_istore_n (lv2 := [(2, .int a7), (1, .int a6), (0, .ref (a 0))]) C0 dX12_check_66 rfl e8 (Nat.le_of_ble_eq_true rfl) rfl ?_
    refine r_iconst C0 dX12_check_67 ki_0 ?_
    obtain ⟨a8, h8, h⟩ := op_bind h
    have e8 := Option.some.inj h8
    refine r_istore_n (lv2 := [(3, .int a8), (2, .int a7), (1, .int a6), (0, .ref (a 0))]) C0 dX12_check_68 rfl e8 (Nat.le_of_ble_eq_true rfl) rfl ?_
    exact r_sub [3, 2, 1, 0] rfl (w_X12_check_B69_lp C0 hD h hz)
  · refine r_aload_n C0 dX12_check_39 rfl 0 rfl ?_
    refine wmg_0_11 C0 tf_X12_29 dX12_check_40 ?_
    refine r_iload_n C0 dX12_check_43 rfl 1 rfl ?_
    refine r_aload_n C0 dX12_check_44 rfl 0 rfl ?_
    refine wmg_0_1 C0 tf_X12_14 dX12_check_45 ?_
    refine r_iload_n C0 dX12_check_48 rfl 1 rfl ?_
    refine wmal_2 C0 h dX12_check_49 (fun k24 h => ?_)
    refine wmas_7 C0 hD h dX12_check_50 (fun k25 h => ?_)
    obtain ⟨a26, h8, h⟩ := op_bind h
    have e8 := Option.some.inj h8
    refine r_iinc (lv2 := [(1, .int a26), (0, .ref (a 0))]) C0 dX12_check_51 1 rfl ki_1 e8 (Nat.le_of_ble_eq_true rfl) rfl ?_
    refine r_goto C0 33 dX12_check_54 rfl ?_
    cases h
    have hz := el_inl hz
    exact r_sub [1, 0] rfl hz
theorem w_X12_check_B33_lp {x : Int32 × VT} {z : (Int32 × VT)} {Γ : Gam} {cy : Nat → ClassId} {a : Nat → Nat} {X : va_W}  (C0 : CXg Γ cX12_check 5 10 RX12 cy) (hD : DM Γ cy a X) (h : lp (f_X12_check_B33) fuel x = some z) (hz : (fun y : Int32 × VT => FinI Γ cX12_check (WM cy a y.2 X) y.1) z) : Wp Γ 0 0 33 [(0, .ref (a 0)), (1, .int x.1)] [] (WM cy a x.2 X) :=
  lp_rule (hd := (fun x : Int32 × VT => Wp Γ 0 0 33 [(0, .ref (a 0)), (1, .int x.1)] [] (WM cy a x.2 X))) (C := (fun y : Int32 × VT => FinI Γ cX12_check (WM cy a y.2 X) y.1)) (fun x z h hz => w_X12_check_B33 C0 hD h hz) _ _ _ h hz
theorem w_X12_check_B6 {x : Int32 × VT} {z : ((Int32 × VT) ⊕ (Int32 × VT))} {Γ : Gam} {cy : Nat → ClassId} {a : Nat → Nat} {X : va_W}  (C0 : CXg Γ cX12_check 5 10 RX12 cy) (hD : DM Γ cy a X) (h : f_X12_check_B6 x = some z) (hz : (Sum.elim (fun x : Int32 × VT => Wp Γ 0 0 6 [(0, .ref (a 0)), (1, .int x.1)] [] (WM cy a x.2 X)) (fun y : Int32 × VT => FinI Γ cX12_check (WM cy a y.2 X) y.1)) z) : Wp Γ 0 0 6 [(0, .ref (a 0)), (1, .int x.1)] [] (WM cy a x.2 X) := by
  unfold f_X12_check_B6 at h
  refine r_iload_n C0 dX12_check_6 rfl 1 rfl ?_
  refine r_sipush C0 dX12_check_7 ks_1646 ?_
  refine r_icmp_ge C0 31 dX12_check_10 rfl h (fun _ h => ?_) (fun _ h => ?_)
  · obtain ⟨y3, h5, h9⟩ := op_bind h
    clear h
    cases h9
    have hz := (el_inr hz)
    have h := h5
    refine r_iconst C0 dX12_check_31 ki_0 ?_
    obtain ⟨a4, h8, h⟩ := op_bind h
    have e8 := Option.some.inj h8
    refine r_istore_n (lv2 := [(1, .int a4), (0, .ref (a 0))]) C0 dX12_check_32 rfl e8 (Nat.le_of_ble_eq_true rfl) rfl ?_
    exact r_sub [1, 0] rfl (w_X12_check_B33_lp C0 hD h hz)
  · refine r_aload_n C0 dX12_check_13 rfl 0 rfl ?_
    refine wmg_0_4 C0 tf_X12_20 dX12_check_14 ?_
    refine r_iload_n C0 dX12_check_17 rfl 1 rfl ?_
    refine r_aload_n C0 dX12_check_18 rfl 0 rfl ?_
    refine wmg_0_0 C0 tf_X12_7 dX12_check_19 ?_
    refine r_iload_n C0 dX12_check_22 rfl 1 rfl ?_
    refine wmal_1 C0 h dX12_check_23 (fun k27 h => ?_)
    refine wmas_4 C0 hD h dX12_check_24 (fun k28 h => ?_)
    obtain ⟨a29, h8, h⟩ := op_bind h
    have e8 := Option.some.inj h8
    refine r_iinc (lv2 := [(1, .int a29), (0, .ref (a 0))]) C0 dX12_check_25 1 rfl ki_1 e8 (Nat.le_of_ble_eq_true rfl) rfl ?_
    refine r_goto C0 6 dX12_check_28 rfl ?_
    cases h
    have hz := el_inl hz
    exact r_sub [1, 0] rfl hz
theorem w_X12_check_B6_lp {x : Int32 × VT} {z : (Int32 × VT)} {Γ : Gam} {cy : Nat → ClassId} {a : Nat → Nat} {X : va_W}  (C0 : CXg Γ cX12_check 5 10 RX12 cy) (hD : DM Γ cy a X) (h : lp (f_X12_check_B6) fuel x = some z) (hz : (fun y : Int32 × VT => FinI Γ cX12_check (WM cy a y.2 X) y.1) z) : Wp Γ 0 0 6 [(0, .ref (a 0)), (1, .int x.1)] [] (WM cy a x.2 X) :=
  lp_rule (hd := (fun x : Int32 × VT => Wp Γ 0 0 6 [(0, .ref (a 0)), (1, .int x.1)] [] (WM cy a x.2 X))) (C := (fun y : Int32 × VT => FinI Γ cX12_check (WM cy a y.2 X) y.1)) (fun x z h hz => w_X12_check_B6 C0 hD h hz) _ _ _ h hz
theorem w_X12_check {z : Int32 × VT} {Γ : Gam} {cy : Nat → ClassId} {a : Nat → Nat} {V : VT} {X : va_W}  (C0 : CXg Γ cX12_check 5 10 RX12 cy) (hD : DM Γ cy a X) (h : f_X12_check V = some z) (hz : (fun y : Int32 × VT => FinI Γ cX12_check (WM cy a y.2 X) y.1) z) : Wp Γ 0 0 0 [(0, .ref (a 0))] [] (WM cy a V X) := by
  unfold f_X12_check at h
  refine r_aload_n C0 dX12_check_0 rfl 0 rfl ?_
  refine callVv0 C0 h (hD _) mw_X12_begin rv_m tm_X12_165 (fun y hy => c_X12_begin hy) (Nat.le_of_ble_eq_true rfl) (Nat.le_of_ble_eq_true rfl) dX12_check_1 (fun r1 h => ?_)
  refine r_iconst C0 dX12_check_4 ki_0 ?_
  obtain ⟨a2, h8, h⟩ := op_bind h
  have e8 := Option.some.inj h8
  refine r_istore_n (lv2 := [(1, .int a2), (0, .ref (a 0))]) C0 dX12_check_5 rfl e8 (Nat.le_of_ble_eq_true rfl) rfl ?_
  exact r_sub [1, 0] rfl (w_X12_check_B6_lp C0 hD h hz)
theorem c_X12_check {l : Launch} {D : va_G} {cy : Nat → ClassId} {a : Nat → Nat} {V : VT} {X : va_W} {y : Int32 × VT} (h : f_X12_check V = some y) : CT l D cy yX12_check cX12_check 5 (some .int) 10 [.ref (a 0)] (WM cy a V X) (WM cy a y.2 X) (some (.int y.1)) :=
  mkI (by decide) (Nat.le_of_ble_eq_true rfl) (fun Γ _ _ C0 hD hF => w_X12_check C0 (dm_of hD) h hF)
theorem dX12_at_0 : decode cX12_at 0 = .ok (.iload_n 1, 1) := by decide +kernel
theorem dX12_at_1 : decode cX12_at 1 = .ok (.invokestatic 115, 3) := by decide +kernel
theorem dX12_at_4 : decode cX12_at 4 = .ok (.ifCond .eq 29, 3) := by decide +kernel
theorem dX12_at_7 : decode cX12_at 7 = .ok (.aload_n 0, 1) := by decide +kernel
theorem dX12_at_8 : decode cX12_at 8 = .ok (.iload_n 1, 1) := by decide +kernel
theorem dX12_at_9 : decode cX12_at 9 = .ok (.invokevirtual 66, 3) := by decide +kernel
theorem dX12_at_12 : decode cX12_at 12 = .ok (.ifCond .eq 21, 3) := by decide +kernel
theorem dX12_at_15 : decode cX12_at 15 = .ok (.aload_n 0, 1) := by decide +kernel
theorem dX12_at_16 : decode cX12_at 16 = .ok (.iload_n 1, 1) := by decide +kernel
theorem dX12_at_17 : decode cX12_at 17 = .ok (.iload_n 2, 1) := by decide +kernel
theorem dX12_at_18 : decode cX12_at 18 = .ok (.invokevirtual 118, 3) := by decide +kernel
theorem dX12_at_21 : decode cX12_at 21 = .ok (.ifCond .eq 12, 3) := by decide +kernel
theorem dX12_at_24 : decode cX12_at 24 = .ok (.aload_n 0, 1) := by decide +kernel
theorem dX12_at_25 : decode cX12_at 25 = .ok (.iload_n 1, 1) := by decide +kernel
theorem dX12_at_26 : decode cX12_at 26 = .ok (.iload_n 2, 1) := by decide +kernel
theorem dX12_at_27 : decode cX12_at 27 = .ok (.invokevirtual 72, 3) := by decide +kernel
theorem dX12_at_30 : decode cX12_at 30 = .ok (.goto 5, 3) := by decide +kernel
theorem dX12_at_33 : decode cX12_at 33 = .ok (.ldc 42, 2) := by decide +kernel
theorem dX12_at_35 : decode cX12_at 35 = .ok (.ireturn, 1) := by decide +kernel
theorem w_X12_at_j33 {z : (Int32)} {Γ : Gam} {cy : Nat → ClassId} {a : Nat → Nat} {V : VT} {X : va_W}  (C0 : CXg Γ cX12_at 3 3 RX12 cy) (hD : DM Γ cy a X) (h : f_X12_at_j33 V = some z) (hz : (fun y : Int32 => FinI Γ cX12_at (WM cy a V X) y) z) : Wp Γ 0 0 33 [] [] (WM cy a V X) := by
  unfold f_X12_at_j33 at h
  refine r_ldc C0 tk_X12_42 dX12_at_33 ?_
  cases h
  exact hz _ _ dX12_at_35
theorem w_X12_at {z : Int32} {Γ : Gam} {cy : Nat → ClassId} {a : Nat → Nat} {V : VT} {X : va_W} {v1 : Int32} {v2 : Int32}  (C0 : CXg Γ cX12_at 3 3 RX12 cy) (hD : DM Γ cy a X) (h : f_X12_at v1 v2 V = some z) (hz : (fun y : Int32 => FinI Γ cX12_at (WM cy a V X) y) z) : Wp Γ 0 0 0 [(0, .ref (a 0)), (1, .int v1), (2, .int v2)] [] (WM cy a V X) := by
  unfold f_X12_at at h
  refine r_iload_n C0 dX12_at_0 rfl 1 rfl ?_
  refine callS1 C0 h (hD _) ms_X12_isBar tm_X12_115 (fun y hy => c_X12_isBar hy) (Nat.le_of_ble_eq_true rfl) (Nat.le_of_ble_eq_true rfl) dX12_at_1 (fun r1 h => ?_)
  refine r_if_eq C0 33 dX12_at_4 rfl h (fun _ h => ?_) (fun _ h => ?_)
  · exact r_sub [] rfl (w_X12_at_j33 C0 hD h hz)
  · refine r_aload_n C0 dX12_at_7 rfl 0 rfl ?_
    refine r_iload_n C0 dX12_at_8 rfl 1 rfl ?_
    refine callV1 C0 h (hD _) mw_X12_isRigged rv_m tm_X12_66 (fun y hy => c_X12_isRigged hy) (Nat.le_of_ble_eq_true rfl) (Nat.le_of_ble_eq_true rfl) dX12_at_9 (fun r2 h => ?_)
    refine r_if_eq C0 33 dX12_at_12 rfl h (fun _ h => ?_) (fun _ h => ?_)
    · exact r_sub [] rfl (w_X12_at_j33 C0 hD h hz)
    · refine r_aload_n C0 dX12_at_15 rfl 0 rfl ?_
      refine r_iload_n C0 dX12_at_16 rfl 1 rfl ?_
      refine r_iload_n C0 dX12_at_17 rfl 2 rfl ?_
      refine callV2 C0 h (hD _) mw_X12_isPlace rv_m tm_X12_118 (fun y hy => c_X12_isPlace hy) (Nat.le_of_ble_eq_true rfl) (Nat.le_of_ble_eq_true rfl) dX12_at_18 (fun r3 h => ?_)
      refine r_if_eq C0 33 dX12_at_21 rfl h (fun _ h => ?_) (fun _ h => ?_)
      · exact r_sub [] rfl (w_X12_at_j33 C0 hD h hz)
      · refine r_aload_n C0 dX12_at_24 rfl 0 rfl ?_
        refine r_iload_n C0 dX12_at_25 rfl 1 rfl ?_
        refine r_iload_n C0 dX12_at_26 rfl 2 rfl ?_
        refine callV2 C0 h (hD _) mw_X12_held rv_m tm_X12_72 (fun y hy => c_X12_held hy) (Nat.le_of_ble_eq_true rfl) (Nat.le_of_ble_eq_true rfl) dX12_at_27 (fun r4 h => ?_)
        refine r_goto C0 35 dX12_at_30 rfl ?_
        cases h
        exact hz _ _ dX12_at_35
theorem c_X12_at {l : Launch} {D : va_G} {cy : Nat → ClassId} {a : Nat → Nat} {V : VT} {X : va_W} {v1 : Int32} {v2 : Int32} {y : Int32} (h : f_X12_at v1 v2 V = some y) : CT l D cy yX12_at cX12_at 3 (some .int) 3 [.ref (a 0), .int v1, .int v2] (WM cy a V X) (WM cy a V X) (some (.int y)) :=
  mkI (by decide) (Nat.le_of_ble_eq_true rfl) (fun Γ _ _ C0 hD hF => w_X12_at C0 (dm_of hD) h hF)
