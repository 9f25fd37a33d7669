theorem dX12_stops_0 : decode cX12_stops 0 = .ok (.iload_n 1, 1) := by decide +kernel
theorem dX12_stops_1 : decode cX12_stops 1 = .ok (.istore 4, 2) := by decide +kernel
theorem dX12_stops_3 : decode cX12_stops 3 = .ok (.iload 4, 2) := by decide +kernel
theorem dX12_stops_5 : decode cX12_stops 5 = .ok (.iload_n 2, 1) := by decide +kernel
theorem dX12_stops_6 : decode cX12_stops 6 = .ok (.if_icmp .gt 39, 3) := by decide +kernel
theorem dX12_stops_9 : decode cX12_stops 9 = .ok (.aload_n 0, 1) := by decide +kernel
theorem dX12_stops_10 : decode cX12_stops 10 = .ok (.iload 4, 2) := by decide +kernel
theorem dX12_stops_12 : decode cX12_stops 12 = .ok (.invokevirtual 124, 3) := by decide +kernel
theorem dX12_stops_15 : decode cX12_stops 15 = .ok (.iload_n 3, 1) := by decide +kernel
theorem dX12_stops_16 : decode cX12_stops 16 = .ok (.iadd, 1) := by decide +kernel
theorem dX12_stops_17 : decode cX12_stops 17 = .ok (.iconst 0, 1) := by decide +kernel
theorem dX12_stops_18 : decode cX12_stops 18 = .ok (.bipush 100, 2) := by decide +kernel
theorem dX12_stops_20 : decode cX12_stops 20 = .ok (.invokestatic 47, 3) := by decide +kernel
theorem dX12_stops_23 : decode cX12_stops 23 = .ok (.ifCond .ne 16, 3) := by decide +kernel
theorem dX12_stops_26 : decode cX12_stops 26 = .ok (.aload_n 0, 1) := by decide +kernel
theorem dX12_stops_27 : decode cX12_stops 27 = .ok (.iconst 1, 1) := by decide +kernel
theorem dX12_stops_28 : decode cX12_stops 28 = .ok (.iload 4, 2) := by decide +kernel
theorem dX12_stops_30 : decode cX12_stops 30 = .ok (.ldc 42, 2) := by decide +kernel
theorem dX12_stops_32 : decode cX12_stops 32 = .ok (.ldc 42, 2) := by decide +kernel
theorem dX12_stops_34 : decode cX12_stops 34 = .ok (.invokevirtual 146, 3) := by decide +kernel
theorem dX12_stops_37 : decode cX12_stops 37 = .ok (.iconst 1, 1) := by decide +kernel
theorem dX12_stops_38 : decode cX12_stops 38 = .ok (.ireturn, 1) := by decide +kernel
theorem dX12_stops_39 : decode cX12_stops 39 = .ok (.iinc 4 1, 3) := by decide +kernel
theorem dX12_stops_42 : decode cX12_stops 42 = .ok (.goto (-39), 3) := by decide +kernel
theorem dX12_stops_45 : decode cX12_stops 45 = .ok (.iload_n 1, 1) := by decide +kernel
theorem dX12_stops_46 : decode cX12_stops 46 = .ok (.istore 4, 2) := by decide +kernel
theorem dX12_stops_48 : decode cX12_stops 48 = .ok (.iload 4, 2) := by decide +kernel
theorem dX12_stops_50 : decode cX12_stops 50 = .ok (.iload_n 2, 1) := by decide +kernel
theorem dX12_stops_51 : decode cX12_stops 51 = .ok (.if_icmp .gt 43, 3) := by decide +kernel
theorem dX12_stops_54 : decode cX12_stops 54 = .ok (.aload_n 0, 1) := by decide +kernel
theorem dX12_stops_55 : decode cX12_stops 55 = .ok (.iload 4, 2) := by decide +kernel
theorem dX12_stops_57 : decode cX12_stops 57 = .ok (.aload_n 0, 1) := by decide +kernel
theorem dX12_stops_58 : decode cX12_stops 58 = .ok (.getfield 7, 3) := by decide +kernel
theorem dX12_stops_61 : decode cX12_stops 61 = .ok (.iload 4, 2) := by decide +kernel
theorem dX12_stops_63 : decode cX12_stops 63 = .ok (.invokestatic 51, 3) := by decide +kernel
theorem dX12_stops_66 : decode cX12_stops 66 = .ok (.iconst 4, 1) := by decide +kernel
theorem dX12_stops_67 : decode cX12_stops 67 = .ok (.iadd, 1) := by decide +kernel
theorem dX12_stops_68 : decode cX12_stops 68 = .ok (.iaload, 1) := by decide +kernel
theorem dX12_stops_69 : decode cX12_stops 69 = .ok (.invokevirtual 150, 3) := by decide +kernel
theorem dX12_stops_72 : decode cX12_stops 72 = .ok (.ifCond .ne 16, 3) := by decide +kernel
theorem dX12_stops_75 : decode cX12_stops 75 = .ok (.aload_n 0, 1) := by decide +kernel
theorem dX12_stops_76 : decode cX12_stops 76 = .ok (.iconst 2, 1) := by decide +kernel
theorem dX12_stops_77 : decode cX12_stops 77 = .ok (.iload 4, 2) := by decide +kernel
theorem dX12_stops_79 : decode cX12_stops 79 = .ok (.ldc 42, 2) := by decide +kernel
theorem dX12_stops_81 : decode cX12_stops 81 = .ok (.ldc 42, 2) := by decide +kernel
theorem dX12_stops_83 : decode cX12_stops 83 = .ok (.invokevirtual 146, 3) := by decide +kernel
theorem dX12_stops_86 : decode cX12_stops 86 = .ok (.iconst 1, 1) := by decide +kernel
theorem dX12_stops_87 : decode cX12_stops 87 = .ok (.ireturn, 1) := by decide +kernel
theorem dX12_stops_88 : decode cX12_stops 88 = .ok (.iinc 4 1, 3) := by decide +kernel
theorem dX12_stops_91 : decode cX12_stops 91 = .ok (.goto (-43), 3) := by decide +kernel
theorem dX12_stops_94 : decode cX12_stops 94 = .ok (.iload_n 1, 1) := by decide +kernel
theorem dX12_stops_95 : decode cX12_stops 95 = .ok (.istore 4, 2) := by decide +kernel
theorem dX12_stops_97 : decode cX12_stops 97 = .ok (.iload 4, 2) := by decide +kernel
theorem dX12_stops_99 : decode cX12_stops 99 = .ok (.iload_n 2, 1) := by decide +kernel
theorem dX12_stops_100 : decode cX12_stops 100 = .ok (.if_icmp .gt 31, 3) := by decide +kernel
theorem dX12_stops_103 : decode cX12_stops 103 = .ok (.aload_n 0, 1) := by decide +kernel
theorem dX12_stops_104 : decode cX12_stops 104 = .ok (.iload 4, 2) := by decide +kernel
theorem dX12_stops_106 : decode cX12_stops 106 = .ok (.invokevirtual 153, 3) := by decide +kernel
theorem dX12_stops_109 : decode cX12_stops 109 = .ok (.ifCond .ne 16, 3) := by decide +kernel
theorem dX12_stops_112 : decode cX12_stops 112 = .ok (.aload_n 0, 1) := by decide +kernel
theorem dX12_stops_113 : decode cX12_stops 113 = .ok (.iconst 3, 1) := by decide +kernel
theorem dX12_stops_114 : decode cX12_stops 114 = .ok (.iload 4, 2) := by decide +kernel
theorem dX12_stops_116 : decode cX12_stops 116 = .ok (.ldc 42, 2) := by decide +kernel
theorem dX12_stops_118 : decode cX12_stops 118 = .ok (.ldc 42, 2) := by decide +kernel
theorem dX12_stops_120 : decode cX12_stops 120 = .ok (.invokevirtual 146, 3) := by decide +kernel
theorem dX12_stops_123 : decode cX12_stops 123 = .ok (.iconst 1, 1) := by decide +kernel
theorem dX12_stops_124 : decode cX12_stops 124 = .ok (.ireturn, 1) := by decide +kernel
theorem dX12_stops_125 : decode cX12_stops 125 = .ok (.iinc 4 1, 3) := by decide +kernel
theorem dX12_stops_128 : decode cX12_stops 128 = .ok (.goto (-31), 3) := by decide +kernel
theorem dX12_stops_131 : decode cX12_stops 131 = .ok (.iload_n 1, 1) := by decide +kernel
theorem dX12_stops_132 : decode cX12_stops 132 = .ok (.istore 4, 2) := by decide +kernel
theorem dX12_stops_134 : decode cX12_stops 134 = .ok (.iload 4, 2) := by decide +kernel
theorem dX12_stops_136 : decode cX12_stops 136 = .ok (.iload_n 2, 1) := by decide +kernel
theorem dX12_stops_137 : decode cX12_stops 137 = .ok (.if_icmp .gt 111, 3) := by decide +kernel
theorem dX12_stops_140 : decode cX12_stops 140 = .ok (.iconst 0, 1) := by decide +kernel
theorem dX12_stops_141 : decode cX12_stops 141 = .ok (.istore 5, 2) := by decide +kernel
theorem dX12_stops_143 : decode cX12_stops 143 = .ok (.iload 5, 2) := by decide +kernel
theorem dX12_stops_145 : decode cX12_stops 145 = .ok (.aload_n 0, 1) := by decide +kernel
theorem dX12_stops_146 : decode cX12_stops 146 = .ok (.iload 4, 2) := by decide +kernel
theorem dX12_stops_148 : decode cX12_stops 148 = .ok (.invokevirtual 55, 3) := by decide +kernel
theorem dX12_stops_151 : decode cX12_stops 151 = .ok (.if_icmp .ge 91, 3) := by decide +kernel
theorem dX12_stops_154 : decode cX12_stops 154 = .ok (.iload 4, 2) := by decide +kernel
theorem dX12_stops_156 : decode cX12_stops 156 = .ok (.iconst 1, 1) := by decide +kernel
theorem dX12_stops_157 : decode cX12_stops 157 = .ok (.isub, 1) := by decide +kernel
theorem dX12_stops_158 : decode cX12_stops 158 = .ok (.istore 6, 2) := by decide +kernel
theorem dX12_stops_160 : decode cX12_stops 160 = .ok (.iload 6, 2) := by decide +kernel
theorem dX12_stops_162 : decode cX12_stops 162 = .ok (.iload 4, 2) := by decide +kernel
theorem dX12_stops_164 : decode cX12_stops 164 = .ok (.iconst 1, 1) := by decide +kernel
theorem dX12_stops_165 : decode cX12_stops 165 = .ok (.iadd, 1) := by decide +kernel
theorem dX12_stops_166 : decode cX12_stops 166 = .ok (.if_icmp .gt 70, 3) := by decide +kernel
theorem dX12_stops_169 : decode cX12_stops 169 = .ok (.iload 6, 2) := by decide +kernel
theorem dX12_stops_171 : decode cX12_stops 171 = .ok (.iload_n 1, 1) := by decide +kernel
theorem dX12_stops_172 : decode cX12_stops 172 = .ok (.iload_n 2, 1) := by decide +kernel
theorem dX12_stops_173 : decode cX12_stops 173 = .ok (.invokestatic 47, 3) := by decide +kernel
theorem dX12_stops_176 : decode cX12_stops 176 = .ok (.ifCond .ne 54, 3) := by decide +kernel
theorem dX12_stops_179 : decode cX12_stops 179 = .ok (.iload 6, 2) := by decide +kernel
theorem dX12_stops_181 : decode cX12_stops 181 = .ok (.invokestatic 115, 3) := by decide +kernel
theorem dX12_stops_184 : decode cX12_stops 184 = .ok (.ifCond .eq 46, 3) := by decide +kernel
theorem dX12_stops_187 : decode cX12_stops 187 = .ok (.aload_n 0, 1) := by decide +kernel
theorem dX12_stops_188 : decode cX12_stops 188 = .ok (.iload 4, 2) := by decide +kernel
theorem dX12_stops_190 : decode cX12_stops 190 = .ok (.aload_n 0, 1) := by decide +kernel
theorem dX12_stops_191 : decode cX12_stops 191 = .ok (.iload 4, 2) := by decide +kernel
theorem dX12_stops_193 : decode cX12_stops 193 = .ok (.invokevirtual 124, 3) := by decide +kernel
theorem dX12_stops_196 : decode cX12_stops 196 = .ok (.iload_n 3, 1) := by decide +kernel
theorem dX12_stops_197 : decode cX12_stops 197 = .ok (.iadd, 1) := by decide +kernel
theorem dX12_stops_198 : decode cX12_stops 198 = .ok (.iload 6, 2) := by decide +kernel
theorem dX12_stops_200 : decode cX12_stops 200 = .ok (.aload_n 0, 1) := by decide +kernel
theorem dX12_stops_201 : decode cX12_stops 201 = .ok (.iload 6, 2) := by decide +kernel
theorem dX12_stops_203 : decode cX12_stops 203 = .ok (.invokevirtual 124, 3) := by decide +kernel
theorem dX12_stops_206 : decode cX12_stops 206 = .ok (.iload 5, 2) := by decide +kernel
theorem dX12_stops_208 : decode cX12_stops 208 = .ok (.invokevirtual 127, 3) := by decide +kernel
theorem dX12_stops_211 : decode cX12_stops 211 = .ok (.ifCond .ne 6, 3) := by decide +kernel
theorem dX12_stops_214 : decode cX12_stops 214 = .ok (.goto 16, 3) := by decide +kernel
theorem dX12_stops_217 : decode cX12_stops 217 = .ok (.aload_n 0, 1) := by decide +kernel
theorem dX12_stops_218 : decode cX12_stops 218 = .ok (.iconst 4, 1) := by decide +kernel
theorem dX12_stops_219 : decode cX12_stops 219 = .ok (.iload 4, 2) := by decide +kernel
theorem dX12_stops_221 : decode cX12_stops 221 = .ok (.iload 6, 2) := by decide +kernel
theorem dX12_stops_223 : decode cX12_stops 223 = .ok (.iload 5, 2) := by decide +kernel
theorem dX12_stops_225 : decode cX12_stops 225 = .ok (.invokevirtual 146, 3) := by decide +kernel
theorem dX12_stops_228 : decode cX12_stops 228 = .ok (.iconst 1, 1) := by decide +kernel
theorem dX12_stops_229 : decode cX12_stops 229 = .ok (.ireturn, 1) := by decide +kernel
theorem dX12_stops_230 : decode cX12_stops 230 = .ok (.iinc 6 2, 3) := by decide +kernel
theorem dX12_stops_233 : decode cX12_stops 233 = .ok (.goto (-73), 3) := by decide +kernel
theorem dX12_stops_236 : decode cX12_stops 236 = .ok (.iinc 5 1, 3) := by decide +kernel
theorem dX12_stops_239 : decode cX12_stops 239 = .ok (.goto (-96), 3) := by decide +kernel
theorem dX12_stops_242 : decode cX12_stops 242 = .ok (.iinc 4 1, 3) := by decide +kernel
theorem dX12_stops_245 : decode cX12_stops 245 = .ok (.goto (-111), 3) := by decide +kernel
theorem dX12_stops_248 : decode cX12_stops 248 = .ok (.iconst 0, 1) := by decide +kernel
theorem dX12_stops_249 : decode cX12_stops 249 = .ok (.ireturn, 1) := by decide +kernel
theorem w_X12_stops_j230 {z : ((Int32) ⊕ ((Int32) ⊕ ((Int32) ⊕ (Int32 × VT))))} {Γ : Gam} {cy : Nat → ClassId} {a : Nat → Nat} {V : VT} {X : va_W} {v1 : Int32} {v2 : Int32} {v3 : Int32} {v4 : Int32} {v5 : Int32} {v6 : Int32}  (C0 : CXg Γ cX12_stops 7 6 RX12 cy) (hD : DM Γ cy a X) (h : f_X12_stops_j230 v1 v2 v3 v4 v5 v6 V = some z) (hz : (Sum.elim (fun x : Int32 => Wp Γ 0 0 160 [(0, .ref (a 0)), (1, .int v1), (2, .int v2), (3, .int v3), (4, .int v4), (5, .int v5), (6, .int x)] [] (WM cy a V X)) (Sum.elim (fun x : Int32 => Wp Γ 0 0 143 [(0, .ref (a 0)), (1, .int v1), (2, .int v2), (3, .int v3), (4, .int v4), (5, .int x)] [] (WM cy a V X)) (Sum.elim (fun x : Int32 => Wp Γ 0 0 134 [(0, .ref (a 0)), (1, .int v1), (2, .int v2), (3, .int v3), (4, .int x)] [] (WM cy a V X)) (fun y : Int32 × VT => FinZ Γ cX12_stops (WM cy a y.2 X) y.1)))) z) : Wp Γ 0 0 230 [(0, .ref (a 0)), (1, .int v1), (2, .int v2), (3, .int v3), (4, .int v4), (5, .int v5), (6, .int v6)] [] (WM cy a V X) := by
  unfold f_X12_stops_j230 at h
  obtain ⟨a13, h8, h⟩ := op_bind h
  have e8 := Option.some.inj h8
  refine r_iinc (lv2 := [(6, .int a13), (0, .ref (a 0)), (1, .int v1), (2, .int v2), (3, .int v3), (4, .int v4), (5, .int v5)]) C0 dX12_stops_230 6 rfl ki_2 e8 (Nat.le_of_ble_eq_true rfl) rfl ?_
  refine r_goto C0 160 dX12_stops_233 rfl ?_
  cases h
  have hz := el_inl hz
  exact r_sub [1, 2, 3, 4, 5, 6, 0] rfl hz
theorem w_X12_stops_B160 {x : Int32} {z : ((Int32) ⊕ ((Int32) ⊕ ((Int32) ⊕ (Int32 × VT))))} {Γ : Gam} {cy : Nat → ClassId} {a : Nat → Nat} {V : VT} {X : va_W} {v1 : Int32} {v2 : Int32} {v3 : Int32} {v4 : Int32} {v5 : Int32}  (C0 : CXg Γ cX12_stops 7 6 RX12 cy) (hD : DM Γ cy a X) (h : f_X12_stops_B160 v1 v2 v3 v4 v5 V x = some z) (hz : (Sum.elim (fun x : Int32 => Wp Γ 0 0 160 [(0, .ref (a 0)), (1, .int v1), (2, .int v2), (3, .int v3), (4, .int v4), (5, .int v5), (6, .int x)] [] (WM cy a V X)) (Sum.elim (fun x : Int32 => Wp Γ 0 0 143 [(0, .ref (a 0)), (1, .int v1), (2, .int v2), (3, .int v3), (4, .int v4), (5, .int x)] [] (WM cy a V X)) (Sum.elim (fun x : Int32 => Wp Γ 0 0 134 [(0, .ref (a 0)), (1, .int v1), (2, .int v2), (3, .int v3), (4, .int x)] [] (WM cy a V X)) (fun y : Int32 × VT => FinZ Γ cX12_stops (WM cy a y.2 X) y.1)))) z) : Wp Γ 0 0 160 [(0, .ref (a 0)), (1, .int v1), (2, .int v2), (3, .int v3), (4, .int v4), (5, .int v5), (6, .int x)] [] (WM cy a V X) := by
  unfold f_X12_stops_B160 at h
  refine r_iload C0 dX12_stops_160 6 rfl ?_
  refine r_iload C0 dX12_stops_162 4 rfl ?_
  refine r_iconst C0 dX12_stops_164 ki_1 ?_
  refine r_iadd C0 dX12_stops_165 ?_
  refine r_icmp_gt C0 236 dX12_stops_166 rfl h (fun _ h => ?_) (fun _ h => ?_)
  · obtain ⟨y10, h5, h9⟩ := op_bind h
    clear h
    cases h9
    have hz := (el_inr hz)
    have h := h5
    obtain ⟨a11, h8, h⟩ := op_bind h
    have e8 := Option.some.inj h8
    refine r_iinc (lv2 := [(5, .int a11), (0, .ref (a 0)), (1, .int v1), (2, .int v2), (3, .int v3), (4, .int v4), (6, .int x)]) C0 dX12_stops_236 5 rfl ki_1 e8 (Nat.le_of_ble_eq_true rfl) rfl ?_
    refine r_goto C0 143 dX12_stops_239 rfl ?_
    cases h
    have hz := el_inl hz
    exact r_sub [1, 2, 3, 4, 5, 0] rfl hz
  · refine r_iload C0 dX12_stops_169 6 rfl ?_
    refine r_iload_n C0 dX12_stops_171 rfl 1 rfl ?_
    refine r_iload_n C0 dX12_stops_172 rfl 2 rfl ?_
    refine callS3 C0 h (hD _) ms_X12_in tm_X12_47 (fun y hy => c_X12_in hy) (Nat.le_of_ble_eq_true rfl) (Nat.le_of_ble_eq_true rfl) dX12_stops_173 (fun r12 h => ?_)
    refine r_if_ne C0 230 dX12_stops_176 rfl h (fun _ h => ?_) (fun _ h => ?_)
    · exact r_sub [0, 1, 2, 3, 4, 5, 6] rfl (w_X12_stops_j230 C0 hD h hz)
    · refine r_iload C0 dX12_stops_179 6 rfl ?_
      refine callS1 C0 h (hD _) ms_X12_isBar tm_X12_115 (fun y hy => c_X12_isBar hy) (Nat.le_of_ble_eq_true rfl) (Nat.le_of_ble_eq_true rfl) dX12_stops_181 (fun r14 h => ?_)
      refine r_if_eq C0 230 dX12_stops_184 rfl h (fun _ h => ?_) (fun _ h => ?_)
      · exact r_sub [0, 1, 2, 3, 4, 5, 6] rfl (w_X12_stops_j230 C0 hD h hz)
      · refine r_aload_n C0 dX12_stops_187 rfl 0 rfl ?_
        refine r_iload C0 dX12_stops_188 4 rfl ?_
        refine r_aload_n C0 dX12_stops_190 rfl 0 rfl ?_
        refine r_iload C0 dX12_stops_191 4 rfl ?_
        refine callV1 C0 h (hD _) mw_X12_height rv_m tm_X12_124 (fun y hy => c_X12_height hy) (Nat.le_of_ble_eq_true rfl) (Nat.le_of_ble_eq_true rfl) dX12_stops_193 (fun r15 h => ?_)
        refine r_iload_n C0 dX12_stops_196 rfl 3 rfl ?_
        refine r_iadd C0 dX12_stops_197 ?_
        refine r_iload C0 dX12_stops_198 6 rfl ?_
        refine r_aload_n C0 dX12_stops_200 rfl 0 rfl ?_
        refine r_iload C0 dX12_stops_201 6 rfl ?_
        refine callV1 C0 h (hD _) mw_X12_height rv_m tm_X12_124 (fun y hy => c_X12_height hy) (Nat.le_of_ble_eq_true rfl) (Nat.le_of_ble_eq_true rfl) dX12_stops_203 (fun r16 h => ?_)
        refine r_iload C0 dX12_stops_206 5 rfl ?_
        refine callV5 C0 h (hD _) mw_X12_clash rv_m tm_X12_127 (fun y hy => c_X12_clash hy) (Nat.le_of_ble_eq_true rfl) (Nat.le_of_ble_eq_true rfl) dX12_stops_208 (fun r17 h => ?_)
        refine r_if_ne C0 217 dX12_stops_211 rfl h (fun _ h => ?_) (fun _ h => ?_)
        · obtain ⟨y18, h5, h9⟩ := op_bind h
          clear h
          cases h9
          have hz := (el_inr (el_inr (el_inr hz)))
          have h := h5
          refine r_aload_n C0 dX12_stops_217 rfl 0 rfl ?_
          refine r_iconst C0 dX12_stops_218 ki_4 ?_
          refine r_iload C0 dX12_stops_219 4 rfl ?_
          refine r_iload C0 dX12_stops_221 6 rfl ?_
          refine r_iload C0 dX12_stops_223 5 rfl ?_
          refine callVv4 C0 h (hD _) mw_X12_note rv_m tm_X12_146 (fun y hy => c_X12_note hy) (Nat.le_of_ble_eq_true rfl) (Nat.le_of_ble_eq_true rfl) dX12_stops_225 (fun r19 h => ?_)
          refine r_iconst C0 dX12_stops_228 ki_1 ?_
          cases h
          exact hz _ _ nz_1 dX12_stops_229
        · refine r_goto C0 230 dX12_stops_214 rfl ?_
          exact r_sub [0, 1, 2, 3, 4, 5, 6] rfl (w_X12_stops_j230 C0 hD h hz)
theorem w_X12_stops_B160_lp {x : Int32} {z : ((Int32) ⊕ ((Int32) ⊕ (Int32 × VT)))} {Γ : Gam} {cy : Nat → ClassId} {a : Nat → Nat} {V : VT} {X : va_W} {v1 : Int32} {v2 : Int32} {v3 : Int32} {v4 : Int32} {v5 : Int32}  (C0 : CXg Γ cX12_stops 7 6 RX12 cy) (hD : DM Γ cy a X) (h : lp (f_X12_stops_B160 v1 v2 v3 v4 v5 V) fuel x = some z) (hz : (Sum.elim (fun x : Int32 => Wp Γ 0 0 143 [(0, .ref (a 0)), (1, .int v1), (2, .int v2), (3, .int v3), (4, .int v4), (5, .int x)] [] (WM cy a V X)) (Sum.elim (fun x : Int32 => Wp Γ 0 0 134 [(0, .ref (a 0)), (1, .int v1), (2, .int v2), (3, .int v3), (4, .int x)] [] (WM cy a V X)) (fun y : Int32 × VT => FinZ Γ cX12_stops (WM cy a y.2 X) y.1))) z) : Wp Γ 0 0 160 [(0, .ref (a 0)), (1, .int v1), (2, .int v2), (3, .int v3), (4, .int v4), (5, .int v5), (6, .int x)] [] (WM cy a V X) :=
  lp_rule (hd := (fun x : Int32 => Wp Γ 0 0 160 [(0, .ref (a 0)), (1, .int v1), (2, .int v2), (3, .int v3), (4, .int v4), (5, .int v5), (6, .int x)] [] (WM cy a V X))) (C := (Sum.elim (fun x : Int32 => Wp Γ 0 0 143 [(0, .ref (a 0)), (1, .int v1), (2, .int v2), (3, .int v3), (4, .int v4), (5, .int x)] [] (WM cy a V X)) (Sum.elim (fun x : Int32 => Wp Γ 0 0 134 [(0, .ref (a 0)), (1, .int v1), (2, .int v2), (3, .int v3), (4, .int x)] [] (WM cy a V X)) (fun y : Int32 × VT => FinZ Γ cX12_stops (WM cy a y.2 X) y.1)))) (fun x z h hz => w_X12_stops_B160 C0 hD h hz) _ _ _ h hz
theorem w_X12_stops_B143 {x : Int32} {z : ((Int32) ⊕ ((Int32) ⊕ (Int32 × VT)))} {Γ : Gam} {cy : Nat → ClassId} {a : Nat → Nat} {V : VT} {X : va_W} {v1 : Int32} {v2 : Int32} {v3 : Int32} {v4 : Int32}  (C0 : CXg Γ cX12_stops 7 6 RX12 cy) (hD : DM Γ cy a X) (h : f_X12_stops_B143 v1 v2 v3 v4 V x = some z) (hz : (Sum.elim (fun x : Int32 => Wp Γ 0 0 143 [(0, .ref (a 0)), (1, .int v1), (2, .int v2), (3, .int v3), (4, .int v4), (5, .int x)] [] (WM cy a V X)) (Sum.elim (fun x : Int32 => Wp Γ 0 0 134 [(0, .ref (a 0)), (1, .int v1), (2, .int v2), (3, .int v3), (4, .int x)] [] (WM cy a V X)) (fun y : Int32 × VT => FinZ Γ cX12_stops (WM cy a y.2 X) y.1))) z) : Wp Γ 0 0 143 [(0, .ref (a 0)), (1, .int v1), (2, .int v2), (3, .int v3), (4, .int v4), (5, .int x)] [] (WM cy a V X) := by
  unfold f_X12_stops_B143 at h
  refine r_iload C0 dX12_stops_143 5 rfl ?_
  refine r_aload_n C0 dX12_stops_145 rfl 0 rfl ?_
  refine r_iload C0 dX12_stops_146 4 rfl ?_
  refine callV1 C0 h (hD _) mw_X12_places rv_m tm_X12_55 (fun y hy => c_X12_places hy) (Nat.le_of_ble_eq_true rfl) (Nat.le_of_ble_eq_true rfl) dX12_stops_148 (fun r6 h => ?_)
  refine r_icmp_ge C0 242 dX12_stops_151 rfl h (fun _ h => ?_) (fun _ h => ?_)
  · obtain ⟨y7, h5, h9⟩ := op_bind h
    clear h
    cases h9
    have hz := (el_inr hz)
    have h := h5
    obtain ⟨a8, h8, h⟩ := op_bind h
    have e8 := Option.some.inj h8
    refine r_iinc (lv2 := [(4, .int a8), (0, .ref (a 0)), (1, .int v1), (2, .int v2), (3, .int v3), (5, .int x)]) C0 dX12_stops_242 4 rfl ki_1 e8 (Nat.le_of_ble_eq_true rfl) rfl ?_
    refine r_goto C0 134 dX12_stops_245 rfl ?_
    cases h
    have hz := el_inl hz
    exact r_sub [1, 2, 3, 4, 0] rfl hz
  · refine r_iload C0 dX12_stops_154 4 rfl ?_
    refine r_iconst C0 dX12_stops_156 ki_1 ?_
    refine r_isub C0 dX12_stops_157 ?_
    obtain ⟨a9, h8, h⟩ := op_bind h
    have e8 := Option.some.inj h8
    refine r_istore (lv2 := [(6, .int a9), (0, .ref (a 0)), (1, .int v1), (2, .int v2), (3, .int v3), (4, .int v4), (5, .int x)]) C0 dX12_stops_158 e8 (Nat.le_of_ble_eq_true rfl) rfl ?_
    exact r_sub [1, 2, 3, 4, 5, 6, 0] rfl (w_X12_stops_B160_lp C0 hD h hz)
theorem w_X12_stops_B143_lp {x : Int32} {z : ((Int32) ⊕ (Int32 × VT))} {Γ : Gam} {cy : Nat → ClassId} {a : Nat → Nat} {V : VT} {X : va_W} {v1 : Int32} {v2 : Int32} {v3 : Int32} {v4 : Int32}  (C0 : CXg Γ cX12_stops 7 6 RX12 cy) (hD : DM Γ cy a X) (h : lp (f_X12_stops_B143 v1 v2 v3 v4 V) fuel x = some z) (hz : (Sum.elim (fun x : Int32 => Wp Γ 0 0 134 [(0, .ref (a 0)), (1, .int v1), (2, .int v2), (3, .int v3), (4, .int x)] [] (WM cy a V X)) (fun y : Int32 × VT => FinZ Γ cX12_stops (WM cy a y.2 X) y.1)) z) : Wp Γ 0 0 143 [(0, .ref (a 0)), (1, .int v1), (2, .int v2), (3, .int v3), (4, .int v4), (5, .int x)] [] (WM cy a V X) :=
  lp_rule (hd := (fun x : Int32 => Wp Γ 0 0 143 [(0, .ref (a 0)), (1, .int v1), (2, .int v2), (3, .int v3), (4, .int v4), (5, .int x)] [] (WM cy a V X))) (C := (Sum.elim (fun x : Int32 => Wp Γ 0 0 134 [(0, .ref (a 0)), (1, .int v1), (2, .int v2), (3, .int v3), (4, .int x)] [] (WM cy a V X)) (fun y : Int32 × VT => FinZ Γ cX12_stops (WM cy a y.2 X) y.1))) (fun x z h hz => w_X12_stops_B143 C0 hD h hz) _ _ _ h hz
theorem w_X12_stops_B134 {x : Int32} {z : ((Int32) ⊕ (Int32 × VT))} {Γ : Gam} {cy : Nat → ClassId} {a : Nat → Nat} {V : VT} {X : va_W} {v1 : Int32} {v2 : Int32} {v3 : Int32}  (C0 : CXg Γ cX12_stops 7 6 RX12 cy) (hD : DM Γ cy a X) (h : f_X12_stops_B134 v1 v2 v3 V x = some z) (hz : (Sum.elim (fun x : Int32 => Wp Γ 0 0 134 [(0, .ref (a 0)), (1, .int v1), (2, .int v2), (3, .int v3), (4, .int x)] [] (WM cy a V X)) (fun y : Int32 × VT => FinZ Γ cX12_stops (WM cy a y.2 X) y.1)) z) : Wp Γ 0 0 134 [(0, .ref (a 0)), (1, .int v1), (2, .int v2), (3, .int v3), (4, .int x)] [] (WM cy a V X) := by
  unfold f_X12_stops_B134 at h
  refine r_iload C0 dX12_stops_134 4 rfl ?_
  refine r_iload_n C0 dX12_stops_136 rfl 2 rfl ?_
  refine r_icmp_gt C0 248 dX12_stops_137 rfl h (fun _ h => ?_) (fun _ h => ?_)
  · obtain ⟨y4, h5, h9⟩ := op_bind h
    clear h
    cases h9
    have hz := (el_inr hz)
    have h := h5
    refine r_iconst C0 dX12_stops_248 ki_0 ?_
    cases h
    exact hz _ _ nz_0 dX12_stops_249
  · refine r_iconst C0 dX12_stops_140 ki_0 ?_
    obtain ⟨a5, h8, h⟩ := op_bind h
    have e8 := Option.some.inj h8
    refine r_istore (lv2 := [(5, .int a5), (0, .ref (a 0)), (1, .int v1), (2, .int v2), (3, .int v3), (4, .int x)]) C0 dX12_stops_141 e8 (Nat.le_of_ble_eq_true rfl) rfl ?_
    exact r_sub [1, 2, 3, 4, 5, 0] rfl (w_X12_stops_B143_lp C0 hD h hz)
theorem w_X12_stops_B134_lp {x : Int32} {z : (Int32 × VT)} {Γ : Gam} {cy : Nat → ClassId} {a : Nat → Nat} {V : VT} {X : va_W} {v1 : Int32} {v2 : Int32} {v3 : Int32}  (C0 : CXg Γ cX12_stops 7 6 RX12 cy) (hD : DM Γ cy a X) (h : lp (f_X12_stops_B134 v1 v2 v3 V) fuel x = some z) (hz : (fun y : Int32 × VT => FinZ Γ cX12_stops (WM cy a y.2 X) y.1) z) : Wp Γ 0 0 134 [(0, .ref (a 0)), (1, .int v1), (2, .int v2), (3, .int v3), (4, .int x)] [] (WM cy a V X) :=
  lp_rule (hd := (fun x : Int32 => Wp Γ 0 0 134 [(0, .ref (a 0)), (1, .int v1), (2, .int v2), (3, .int v3), (4, .int x)] [] (WM cy a V X))) (C := (fun y : Int32 × VT => FinZ Γ cX12_stops (WM cy a y.2 X) y.1)) (fun x z h hz => w_X12_stops_B134 C0 hD h hz) _ _ _ h hz
theorem w_X12_stops_B97 {x : Int32} {z : ((Int32) ⊕ (Int32 × VT))} {Γ : Gam} {cy : Nat → ClassId} {a : Nat → Nat} {V : VT} {X : va_W} {v1 : Int32} {v2 : Int32} {v3 : Int32}  (C0 : CXg Γ cX12_stops 7 6 RX12 cy) (hD : DM Γ cy a X) (h : f_X12_stops_B97 v1 v2 v3 V x = some z) (hz : (Sum.elim (fun x : Int32 => Wp Γ 0 0 97 [(0, .ref (a 0)), (1, .int v1), (2, .int v2), (3, .int v3), (4, .int x)] [] (WM cy a V X)) (fun y : Int32 × VT => FinZ Γ cX12_stops (WM cy a y.2 X) y.1)) z) : Wp Γ 0 0 97 [(0, .ref (a 0)), (1, .int v1), (2, .int v2), (3, .int v3), (4, .int x)] [] (WM cy a V X) := by
  unfold f_X12_stops_B97 at h
  refine r_iload C0 dX12_stops_97 4 rfl ?_
  refine r_iload_n C0 dX12_stops_99 rfl 2 rfl ?_
  refine r_icmp_gt C0 131 dX12_stops_100 rfl h (fun _ h => ?_) (fun _ h => ?_)
  · obtain ⟨y3, h5, h9⟩ := op_bind h
    clear h
    cases h9
    have hz := (el_inr hz)
    have h := h5
    refine r_iload_n C0 dX12_stops_131 rfl 1 rfl ?_
    refine r_istore (lv2 := [(4, .int v1), (0, .ref (a 0)), (1, .int v1), (2, .int v2), (3, .int v3)]) C0 dX12_stops_132 rfl (Nat.le_of_ble_eq_true rfl) rfl ?_
    exact r_sub [1, 2, 3, 4, 0] rfl (w_X12_stops_B134_lp C0 hD h hz)
  · refine r_aload_n C0 dX12_stops_103 rfl 0 rfl ?_
    refine r_iload C0 dX12_stops_104 4 rfl ?_
    refine callV1 C0 h (hD _) mw_X12_isHeld rv_m tm_X12_153 (fun y hy => c_X12_isHeld hy) (Nat.le_of_ble_eq_true rfl) (Nat.le_of_ble_eq_true rfl) dX12_stops_106 (fun r20 h => ?_)
    refine r_if_ne C0 125 dX12_stops_109 rfl h (fun _ h => ?_) (fun _ h => ?_)
    · obtain ⟨a21, h8, h⟩ := op_bind h
      have e8 := Option.some.inj h8
      refine r_iinc (lv2 := [(4, .int a21), (0, .ref (a 0)), (1, .int v1), (2, .int v2), (3, .int v3)]) C0 dX12_stops_125 4 rfl ki_1 e8 (Nat.le_of_ble_eq_true rfl) rfl ?_
      refine r_goto C0 97 dX12_stops_128 rfl ?_
      cases h
      have hz := el_inl hz
      exact r_sub [1, 2, 3, 4, 0] rfl hz
    · obtain ⟨y22, h5, h9⟩ := op_bind h
      clear h
      cases h9
      have hz := (el_inr hz)
      have h := h5
      refine r_aload_n C0 dX12_stops_112 rfl 0 rfl ?_
      refine r_iconst C0 dX12_stops_113 ki_3 ?_
      refine r_iload C0 dX12_stops_114 4 rfl ?_
      refine r_ldc C0 tk_X12_42 dX12_stops_116 ?_
      refine r_ldc C0 tk_X12_42 dX12_stops_118 ?_
      refine callVv4 C0 h (hD _) mw_X12_note rv_m tm_X12_146 (fun y hy => c_X12_note hy) (Nat.le_of_ble_eq_true rfl) (Nat.le_of_ble_eq_true rfl) dX12_stops_120 (fun r23 h => ?_)
      refine r_iconst C0 dX12_stops_123 ki_1 ?_
      cases h
      exact hz _ _ nz_1 dX12_stops_124
theorem w_X12_stops_B97_lp {x : Int32} {z : (Int32 × VT)} {Γ : Gam} {cy : Nat → ClassId} {a : Nat → Nat} {V : VT} {X : va_W} {v1 : Int32} {v2 : Int32} {v3 : Int32}  (C0 : CXg Γ cX12_stops 7 6 RX12 cy) (hD : DM Γ cy a X) (h : lp (f_X12_stops_B97 v1 v2 v3 V) fuel x = some z) (hz : (fun y : Int32 × VT => FinZ Γ cX12_stops (WM cy a y.2 X) y.1) z) : Wp Γ 0 0 97 [(0, .ref (a 0)), (1, .int v1), (2, .int v2), (3, .int v3), (4, .int x)] [] (WM cy a V X) :=
  lp_rule (hd := (fun x : Int32 => Wp Γ 0 0 97 [(0, .ref (a 0)), (1, .int v1), (2, .int v2), (3, .int v3), (4, .int x)] [] (WM cy a V X))) (C := (fun y : Int32 × VT => FinZ Γ cX12_stops (WM cy a y.2 X) y.1)) (fun x z h hz => w_X12_stops_B97 C0 hD h hz) _ _ _ h hz
theorem w_X12_stops_B48 {x : Int32} {z : ((Int32) ⊕ (Int32 × VT))} {Γ : Gam} {cy : Nat → ClassId} {a : Nat → Nat} {V : VT} {X : va_W} {v1 : Int32} {v2 : Int32} {v3 : Int32}  (C0 : CXg Γ cX12_stops 7 6 RX12 cy) (hD : DM Γ cy a X) (h : f_X12_stops_B48 v1 v2 v3 V x = some z) (hz : (Sum.elim (fun x : Int32 => Wp Γ 0 0 48 [(0, .ref (a 0)), (1, .int v1), (2, .int v2), (3, .int v3), (4, .int x)] [] (WM cy a V X)) (fun y : Int32 × VT => FinZ Γ cX12_stops (WM cy a y.2 X) y.1)) z) : Wp Γ 0 0 48 [(0, .ref (a 0)), (1, .int v1), (2, .int v2), (3, .int v3), (4, .int x)] [] (WM cy a V X) := by
  unfold f_X12_stops_B48 at h
  refine r_iload C0 dX12_stops_48 4 rfl ?_
  refine r_iload_n C0 dX12_stops_50 rfl 2 rfl ?_
  refine r_icmp_gt C0 94 dX12_stops_51 rfl h (fun _ h => ?_) (fun _ h => ?_)
  · obtain ⟨y2, h5, h9⟩ := op_bind h
    clear h
    cases h9
    have hz := (el_inr hz)
    have h := h5
    refine r_iload_n C0 dX12_stops_94 rfl 1 rfl ?_
    refine r_istore (lv2 := [(4, .int v1), (0, .ref (a 0)), (1, .int v1), (2, .int v2), (3, .int v3)]) C0 dX12_stops_95 rfl (Nat.le_of_ble_eq_true rfl) rfl ?_
    exact r_sub [1, 2, 3, 4, 0] rfl (w_X12_stops_B97_lp C0 hD h hz)
  · refine r_aload_n C0 dX12_stops_54 rfl 0 rfl ?_
    refine r_iload C0 dX12_stops_55 4 rfl ?_
    refine r_aload_n C0 dX12_stops_57 rfl 0 rfl ?_
    refine wmg_0_0 C0 tf_X12_7 dX12_stops_58 ?_
    refine r_iload C0 dX12_stops_61 4 rfl ?_
    refine callS1 C0 h (hD _) ms_X12_bar0 tm_X12_51 (fun y hy => c_X12_bar0 hy) (Nat.le_of_ble_eq_true rfl) (Nat.le_of_ble_eq_true rfl) dX12_stops_63 (fun r24 h => ?_)
    refine r_iconst C0 dX12_stops_66 ki_4 ?_
    refine r_iadd C0 dX12_stops_67 ?_
    refine wmal_1 C0 h dX12_stops_68 (fun k25 h => ?_)
    refine callV2 C0 h (hD _) mw_X12_isBalanced rv_m tm_X12_150 (fun y hy => c_X12_isBalanced hy) (Nat.le_of_ble_eq_true rfl) (Nat.le_of_ble_eq_true rfl) dX12_stops_69 (fun r26 h => ?_)
    refine r_if_ne C0 88 dX12_stops_72 rfl h (fun _ h => ?_) (fun _ h => ?_)
    · obtain ⟨a27, h8, h⟩ := op_bind h
      have e8 := Option.some.inj h8
      refine r_iinc (lv2 := [(4, .int a27), (0, .ref (a 0)), (1, .int v1), (2, .int v2), (3, .int v3)]) C0 dX12_stops_88 4 rfl ki_1 e8 (Nat.le_of_ble_eq_true rfl) rfl ?_
      refine r_goto C0 48 dX12_stops_91 rfl ?_
      cases h
      have hz := el_inl hz
      exact r_sub [1, 2, 3, 4, 0] rfl hz
    · obtain ⟨y28, h5, h9⟩ := op_bind h
      clear h
      cases h9
      have hz := (el_inr hz)
      have h := h5
      refine r_aload_n C0 dX12_stops_75 rfl 0 rfl ?_
      refine r_iconst C0 dX12_stops_76 ki_2 ?_
      refine r_iload C0 dX12_stops_77 4 rfl ?_
      refine r_ldc C0 tk_X12_42 dX12_stops_79 ?_
      refine r_ldc C0 tk_X12_42 dX12_stops_81 ?_
      refine callVv4 C0 h (hD _) mw_X12_note rv_m tm_X12_146 (fun y hy => c_X12_note hy) (Nat.le_of_ble_eq_true rfl) (Nat.le_of_ble_eq_true rfl) dX12_stops_83 (fun r29 h => ?_)
      refine r_iconst C0 dX12_stops_86 ki_1 ?_
      cases h
      exact hz _ _ nz_1 dX12_stops_87
theorem w_X12_stops_B48_lp {x : Int32} {z : (Int32 × VT)} {Γ : Gam} {cy : Nat → ClassId} {a : Nat → Nat} {V : VT} {X : va_W} {v1 : Int32} {v2 : Int32} {v3 : Int32}  (C0 : CXg Γ cX12_stops 7 6 RX12 cy) (hD : DM Γ cy a X) (h : lp (f_X12_stops_B48 v1 v2 v3 V) fuel x = some z) (hz : (fun y : Int32 × VT => FinZ Γ cX12_stops (WM cy a y.2 X) y.1) z) : Wp Γ 0 0 48 [(0, .ref (a 0)), (1, .int v1), (2, .int v2), (3, .int v3), (4, .int x)] [] (WM cy a V X) :=
  lp_rule (hd := (fun x : Int32 => Wp Γ 0 0 48 [(0, .ref (a 0)), (1, .int v1), (2, .int v2), (3, .int v3), (4, .int x)] [] (WM cy a V X))) (C := (fun y : Int32 × VT => FinZ Γ cX12_stops (WM cy a y.2 X) y.1)) (fun x z h hz => w_X12_stops_B48 C0 hD h hz) _ _ _ h hz
theorem w_X12_stops_B3 {x : Int32} {z : ((Int32) ⊕ (Int32 × VT))} {Γ : Gam} {cy : Nat → ClassId} {a : Nat → Nat} {V : VT} {X : va_W} {v1 : Int32} {v2 : Int32} {v3 : Int32}  (C0 : CXg Γ cX12_stops 7 6 RX12 cy) (hD : DM Γ cy a X) (h : f_X12_stops_B3 v1 v2 v3 V x = some z) (hz : (Sum.elim (fun x : Int32 => Wp Γ 0 0 3 [(0, .ref (a 0)), (1, .int v1), (2, .int v2), (3, .int v3), (4, .int x)] [] (WM cy a V X)) (fun y : Int32 × VT => FinZ Γ cX12_stops (WM cy a y.2 X) y.1)) z) : Wp Γ 0 0 3 [(0, .ref (a 0)), (1, .int v1), (2, .int v2), (3, .int v3), (4, .int x)] [] (WM cy a V X) := by
  unfold f_X12_stops_B3 at h
  refine r_iload C0 dX12_stops_3 4 rfl ?_
  refine r_iload_n C0 dX12_stops_5 rfl 2 rfl ?_
  refine r_icmp_gt C0 45 dX12_stops_6 rfl h (fun _ h => ?_) (fun _ h => ?_)
  · obtain ⟨y1, h5, h9⟩ := op_bind h
    clear h
    cases h9
    have hz := (el_inr hz)
    have h := h5
    refine r_iload_n C0 dX12_stops_45 rfl 1 rfl ?_
    refine r_istore (lv2 := [(4, .int v1), (0, .ref (a 0)), (1, .int v1), (2, .int v2), (3, .int v3)]) C0 dX12_stops_46 rfl (Nat.le_of_ble_eq_true rfl) rfl ?_
    exact r_sub [1, 2, 3, 4, 0] rfl (w_X12_stops_B48_lp C0 hD h hz)
  · refine r_aload_n C0 dX12_stops_9 rfl 0 rfl ?_
    refine r_iload C0 dX12_stops_10 4 rfl ?_
    refine callV1 C0 h (hD _) mw_X12_height rv_m tm_X12_124 (fun y hy => c_X12_height hy) (Nat.le_of_ble_eq_true rfl) (Nat.le_of_ble_eq_true rfl) dX12_stops_12 (fun r30 h => ?_)
    refine r_iload_n C0 dX12_stops_15 rfl 3 rfl ?_
    refine r_iadd C0 dX12_stops_16 ?_
    refine r_iconst C0 dX12_stops_17 ki_0 ?_
    refine r_bipush C0 dX12_stops_18 kb_100 ?_
    refine callS3 C0 h (hD _) ms_X12_in tm_X12_47 (fun y hy => c_X12_in hy) (Nat.le_of_ble_eq_true rfl) (Nat.le_of_ble_eq_true rfl) dX12_stops_20 (fun r31 h => ?_)
    refine r_if_ne C0 39 dX12_stops_23 rfl h (fun _ h => ?_) (fun _ h => ?_)
    · obtain ⟨a32, h8, h⟩ := op_bind h
      have e8 := Option.some.inj h8
      refine r_iinc (lv2 := [(4, .int a32), (0, .ref (a 0)), (1, .int v1), (2, .int v2), (3, .int v3)]) C0 dX12_stops_39 4 rfl ki_1 e8 (Nat.le_of_ble_eq_true rfl) rfl ?_
      refine r_goto C0 3 dX12_stops_42 rfl ?_
      cases h
      have hz := el_inl hz
      exact r_sub [1, 2, 3, 4, 0] rfl hz
    · obtain ⟨y33, h5, h9⟩ := op_bind h
      clear h
      cases h9
      have hz := (el_inr hz)
      have h := h5
      refine r_aload_n C0 dX12_stops_26 rfl 0 rfl ?_
      refine r_iconst C0 dX12_stops_27 ki_1 ?_
      refine r_iload C0 dX12_stops_28 4 rfl ?_
      refine r_ldc C0 tk_X12_42 dX12_stops_30 ?_
      refine r_ldc C0 tk_X12_42 dX12_stops_32 ?_
      refine callVv4 C0 h (hD _) mw_X12_note rv_m tm_X12_146 (fun y hy => c_X12_note hy) (Nat.le_of_ble_eq_true rfl) (Nat.le_of_ble_eq_true rfl) dX12_stops_34 (fun r34 h => ?_)
      refine r_iconst C0 dX12_stops_37 ki_1 ?_
      cases h
      exact hz _ _ nz_1 dX12_stops_38
theorem w_X12_stops_B3_lp {x : Int32} {z : (Int32 × VT)} {Γ : Gam} {cy : Nat → ClassId} {a : Nat → Nat} {V : VT} {X : va_W} {v1 : Int32} {v2 : Int32} {v3 : Int32}  (C0 : CXg Γ cX12_stops 7 6 RX12 cy) (hD : DM Γ cy a X) (h : lp (f_X12_stops_B3 v1 v2 v3 V) fuel x = some z) (hz : (fun y : Int32 × VT => FinZ Γ cX12_stops (WM cy a y.2 X) y.1) z) : Wp Γ 0 0 3 [(0, .ref (a 0)), (1, .int v1), (2, .int v2), (3, .int v3), (4, .int x)] [] (WM cy a V X) :=
  lp_rule (hd := (fun x : Int32 => Wp Γ 0 0 3 [(0, .ref (a 0)), (1, .int v1), (2, .int v2), (3, .int v3), (4, .int x)] [] (WM cy a V X))) (C := (fun y : Int32 × VT => FinZ Γ cX12_stops (WM cy a y.2 X) y.1)) (fun x z h hz => w_X12_stops_B3 C0 hD h hz) _ _ _ h hz
theorem w_X12_stops {z : Int32 × VT} {Γ : Gam} {cy : Nat → ClassId} {a : Nat → Nat} {V : VT} {X : va_W} {v1 : Int32} {v2 : Int32} {v3 : Int32}  (C0 : CXg Γ cX12_stops 7 6 RX12 cy) (hD : DM Γ cy a X) (h : f_X12_stops v1 v2 v3 V = some z) (hz : (fun y : Int32 × VT => FinZ Γ cX12_stops (WM cy a y.2 X) y.1) z) : Wp Γ 0 0 0 [(0, .ref (a 0)), (1, .int v1), (2, .int v2), (3, .int v3)] [] (WM cy a V X) := by
  unfold f_X12_stops at h
  refine r_iload_n C0 dX12_stops_0 rfl 1 rfl ?_
  refine r_istore (lv2 := [(4, .int v1), (0, .ref (a 0)), (1, .int v1), (2, .int v2), (3, .int v3)]) C0 dX12_stops_1 rfl (Nat.le_of_ble_eq_true rfl) rfl ?_
  exact r_sub [1, 2, 3, 4, 0] rfl (w_X12_stops_B3_lp C0 hD h hz)
theorem c_X12_stops {l : Launch} {D : va_G} {cy : Nat → ClassId} {a : Nat → Nat} {V : VT} {X : va_W} {v1 : Int32} {v2 : Int32} {v3 : Int32} {y : Int32 × VT} (h : f_X12_stops v1 v2 v3 V = some y) : CT l D cy yX12_stops cX12_stops 7 (some .boolean) 6 [.ref (a 0), .int v1, .int v2, .int v3] (WM cy a V X) (WM cy a y.2 X) (some (.int y.1)) :=
  mkZ (by decide) (Nat.le_of_ble_eq_true rfl) (fun Γ _ _ C0 hD hF => w_X12_stops C0 (dm_of hD) h hF)
theorem dX12_tick_0 : decode cX12_tick 0 = .ok (.iconst 0, 1) := by decide +kernel
theorem dX12_tick_1 : decode cX12_tick 1 = .ok (.istore_n 1, 1) := by decide +kernel
theorem dX12_tick_2 : decode cX12_tick 2 = .ok (.iconst 0, 1) := by decide +kernel
theorem dX12_tick_3 : decode cX12_tick 3 = .ok (.istore_n 2, 1) := by decide +kernel
theorem dX12_tick_4 : decode cX12_tick 4 = .ok (.iload_n 2, 1) := by decide +kernel
theorem dX12_tick_5 : decode cX12_tick 5 = .ok (.bipush 12, 2) := by decide +kernel
theorem dX12_tick_7 : decode cX12_tick 7 = .ok (.if_icmp .ge 244, 3) := by decide +kernel
theorem dX12_tick_10 : decode cX12_tick 10 = .ok (.iload_n 2, 1) := by decide +kernel
theorem dX12_tick_11 : decode cX12_tick 11 = .ok (.istore_n 3, 1) := by decide +kernel
theorem dX12_tick_12 : decode cX12_tick 12 = .ok (.aload_n 0, 1) := by decide +kernel
theorem dX12_tick_13 : decode cX12_tick 13 = .ok (.iload_n 2, 1) := by decide +kernel
theorem dX12_tick_14 : decode cX12_tick 14 = .ok (.invokevirtual 156, 3) := by decide +kernel
theorem dX12_tick_17 : decode cX12_tick 17 = .ok (.istore 4, 2) := by decide +kernel
theorem dX12_tick_19 : decode cX12_tick 19 = .ok (.iload 4, 2) := by decide +kernel
theorem dX12_tick_21 : decode cX12_tick 21 = .ok (.iconst 1, 1) := by decide +kernel
theorem dX12_tick_22 : decode cX12_tick 22 = .ok (.iadd, 1) := by decide +kernel
theorem dX12_tick_23 : decode cX12_tick 23 = .ok (.istore_n 2, 1) := by decide +kernel
theorem dX12_tick_24 : decode cX12_tick 24 = .ok (.iconst (-1), 1) := by decide +kernel
theorem dX12_tick_25 : decode cX12_tick 25 = .ok (.istore 5, 2) := by decide +kernel
theorem dX12_tick_27 : decode cX12_tick 27 = .ok (.iload_n 3, 1) := by decide +kernel
theorem dX12_tick_28 : decode cX12_tick 28 = .ok (.istore 6, 2) := by decide +kernel
theorem dX12_tick_30 : decode cX12_tick 30 = .ok (.iload 6, 2) := by decide +kernel
theorem dX12_tick_32 : decode cX12_tick 32 = .ok (.iload 4, 2) := by decide +kernel
theorem dX12_tick_34 : decode cX12_tick 34 = .ok (.if_icmp .gt 35, 3) := by decide +kernel
theorem dX12_tick_37 : decode cX12_tick 37 = .ok (.iload 5, 2) := by decide +kernel
theorem dX12_tick_39 : decode cX12_tick 39 = .ok (.ifCond .ge 30, 3) := by decide +kernel
theorem dX12_tick_42 : decode cX12_tick 42 = .ok (.aload_n 0, 1) := by decide +kernel
theorem dX12_tick_43 : decode cX12_tick 43 = .ok (.iload 6, 2) := by decide +kernel
theorem dX12_tick_45 : decode cX12_tick 45 = .ok (.invokevirtual 66, 3) := by decide +kernel
theorem dX12_tick_48 : decode cX12_tick 48 = .ok (.ifCond .eq 12, 3) := by decide +kernel
theorem dX12_tick_51 : decode cX12_tick 51 = .ok (.aload_n 0, 1) := by decide +kernel
theorem dX12_tick_52 : decode cX12_tick 52 = .ok (.iload 6, 2) := by decide +kernel
theorem dX12_tick_54 : decode cX12_tick 54 = .ok (.invokevirtual 159, 3) := by decide +kernel
theorem dX12_tick_57 : decode cX12_tick 57 = .ok (.goto 4, 3) := by decide +kernel
theorem dX12_tick_60 : decode cX12_tick 60 = .ok (.iconst (-1), 1) := by decide +kernel
theorem dX12_tick_61 : decode cX12_tick 61 = .ok (.istore 5, 2) := by decide +kernel
theorem dX12_tick_63 : decode cX12_tick 63 = .ok (.iinc 6 1, 3) := by decide +kernel
theorem dX12_tick_66 : decode cX12_tick 66 = .ok (.goto (-36), 3) := by decide +kernel
theorem dX12_tick_69 : decode cX12_tick 69 = .ok (.iload 5, 2) := by decide +kernel
theorem dX12_tick_71 : decode cX12_tick 71 = .ok (.ifCond .ge 6, 3) := by decide +kernel
theorem dX12_tick_74 : decode cX12_tick 74 = .ok (.goto (-70), 3) := by decide +kernel
theorem dX12_tick_77 : decode cX12_tick 77 = .ok (.aload_n 0, 1) := by decide +kernel
theorem dX12_tick_78 : decode cX12_tick 78 = .ok (.iload 5, 2) := by decide +kernel
theorem dX12_tick_80 : decode cX12_tick 80 = .ok (.iconst 1, 1) := by decide +kernel
theorem dX12_tick_81 : decode cX12_tick 81 = .ok (.invokevirtual 140, 3) := by decide +kernel
theorem dX12_tick_84 : decode cX12_tick 84 = .ok (.istore 6, 2) := by decide +kernel
theorem dX12_tick_86 : decode cX12_tick 86 = .ok (.iload 6, 2) := by decide +kernel
theorem dX12_tick_88 : decode cX12_tick 88 = .ok (.ifCond .ge 7, 3) := by decide +kernel
theorem dX12_tick_91 : decode cX12_tick 91 = .ok (.iconst (-1), 1) := by decide +kernel
theorem dX12_tick_92 : decode cX12_tick 92 = .ok (.goto 4, 3) := by decide +kernel
theorem dX12_tick_95 : decode cX12_tick 95 = .ok (.iconst 1, 1) := by decide +kernel
theorem dX12_tick_96 : decode cX12_tick 96 = .ok (.istore 7, 2) := by decide +kernel
theorem dX12_tick_98 : decode cX12_tick 98 = .ok (.iconst 0, 1) := by decide +kernel
theorem dX12_tick_99 : decode cX12_tick 99 = .ok (.istore 8, 2) := by decide +kernel
theorem dX12_tick_101 : decode cX12_tick 101 = .ok (.iconst 0, 1) := by decide +kernel
theorem dX12_tick_102 : decode cX12_tick 102 = .ok (.istore 9, 2) := by decide +kernel
theorem dX12_tick_104 : decode cX12_tick 104 = .ok (.iload 9, 2) := by decide +kernel
theorem dX12_tick_106 : decode cX12_tick 106 = .ok (.iload 6, 2) := by decide +kernel
theorem dX12_tick_108 : decode cX12_tick 108 = .ok (.iload 7, 2) := by decide +kernel
theorem dX12_tick_110 : decode cX12_tick 110 = .ok (.imul, 1) := by decide +kernel
theorem dX12_tick_111 : decode cX12_tick 111 = .ok (.if_icmp .ge 69, 3) := by decide +kernel
theorem dX12_tick_114 : decode cX12_tick 114 = .ok (.iload 8, 2) := by decide +kernel
theorem dX12_tick_116 : decode cX12_tick 116 = .ok (.ifCond .ne 64, 3) := by decide +kernel
theorem dX12_tick_119 : decode cX12_tick 119 = .ok (.aload_n 0, 1) := by decide +kernel
theorem dX12_tick_120 : decode cX12_tick 120 = .ok (.iload_n 3, 1) := by decide +kernel
theorem dX12_tick_121 : decode cX12_tick 121 = .ok (.iload 4, 2) := by decide +kernel
theorem dX12_tick_123 : decode cX12_tick 123 = .ok (.iload 7, 2) := by decide +kernel
theorem dX12_tick_125 : decode cX12_tick 125 = .ok (.invokevirtual 162, 3) := by decide +kernel
theorem dX12_tick_128 : decode cX12_tick 128 = .ok (.istore 8, 2) := by decide +kernel
theorem dX12_tick_130 : decode cX12_tick 130 = .ok (.iload 8, 2) := by decide +kernel
theorem dX12_tick_132 : decode cX12_tick 132 = .ok (.ifCond .eq 6, 3) := by decide +kernel
theorem dX12_tick_135 : decode cX12_tick 135 = .ok (.goto 39, 3) := by decide +kernel
theorem dX12_tick_138 : decode cX12_tick 138 = .ok (.iload_n 3, 1) := by decide +kernel
theorem dX12_tick_139 : decode cX12_tick 139 = .ok (.istore 10, 2) := by decide +kernel
theorem dX12_tick_141 : decode cX12_tick 141 = .ok (.iload 10, 2) := by decide +kernel
theorem dX12_tick_143 : decode cX12_tick 143 = .ok (.iload 4, 2) := by decide +kernel
theorem dX12_tick_145 : decode cX12_tick 145 = .ok (.if_icmp .gt 26, 3) := by decide +kernel
theorem dX12_tick_148 : decode cX12_tick 148 = .ok (.aload_n 0, 1) := by decide +kernel
theorem dX12_tick_149 : decode cX12_tick 149 = .ok (.getfield 7, 3) := by decide +kernel
theorem dX12_tick_152 : decode cX12_tick 152 = .ok (.iload 10, 2) := by decide +kernel
theorem dX12_tick_154 : decode cX12_tick 154 = .ok (.invokestatic 51, 3) := by decide +kernel
theorem dX12_tick_157 : decode cX12_tick 157 = .ok (.iconst 3, 1) := by decide +kernel
theorem dX12_tick_158 : decode cX12_tick 158 = .ok (.iadd, 1) := by decide +kernel
theorem dX12_tick_159 : decode cX12_tick 159 = .ok (.dup2, 1) := by decide +kernel
theorem dX12_tick_160 : decode cX12_tick 160 = .ok (.iaload, 1) := by decide +kernel
theorem dX12_tick_161 : decode cX12_tick 161 = .ok (.iload 7, 2) := by decide +kernel
theorem dX12_tick_163 : decode cX12_tick 163 = .ok (.iadd, 1) := by decide +kernel
theorem dX12_tick_164 : decode cX12_tick 164 = .ok (.iastore, 1) := by decide +kernel
theorem dX12_tick_165 : decode cX12_tick 165 = .ok (.iinc 10 1, 3) := by decide +kernel
theorem dX12_tick_168 : decode cX12_tick 168 = .ok (.goto (-27), 3) := by decide +kernel
theorem dX12_tick_171 : decode cX12_tick 171 = .ok (.iinc 1 1, 3) := by decide +kernel
theorem dX12_tick_174 : decode cX12_tick 174 = .ok (.iinc 9 1, 3) := by decide +kernel
theorem dX12_tick_177 : decode cX12_tick 177 = .ok (.goto (-73), 3) := by decide +kernel
theorem dX12_tick_180 : decode cX12_tick 180 = .ok (.iconst 0, 1) := by decide +kernel
theorem dX12_tick_181 : decode cX12_tick 181 = .ok (.istore 9, 2) := by decide +kernel
theorem dX12_tick_183 : decode cX12_tick 183 = .ok (.iload 9, 2) := by decide +kernel
theorem dX12_tick_185 : decode cX12_tick 185 = .ok (.aload_n 0, 1) := by decide +kernel
theorem dX12_tick_186 : decode cX12_tick 186 = .ok (.getfield 7, 3) := by decide +kernel
theorem dX12_tick_189 : decode cX12_tick 189 = .ok (.sipush 1642, 3) := by decide +kernel
theorem dX12_tick_192 : decode cX12_tick 192 = .ok (.iaload, 1) := by decide +kernel
theorem dX12_tick_193 : decode cX12_tick 193 = .ok (.if_icmp .ge 55, 3) := by decide +kernel
theorem dX12_tick_196 : decode cX12_tick 196 = .ok (.iload 8, 2) := by decide +kernel
theorem dX12_tick_198 : decode cX12_tick 198 = .ok (.ifCond .eq 50, 3) := by decide +kernel
theorem dX12_tick_201 : decode cX12_tick 201 = .ok (.aload_n 0, 1) := by decide +kernel
theorem dX12_tick_202 : decode cX12_tick 202 = .ok (.iload 9, 2) := by decide +kernel
theorem dX12_tick_204 : decode cX12_tick 204 = .ok (.iconst 0, 1) := by decide +kernel
theorem dX12_tick_205 : decode cX12_tick 205 = .ok (.invokevirtual 140, 3) := by decide +kernel
theorem dX12_tick_208 : decode cX12_tick 208 = .ok (.iload_n 3, 1) := by decide +kernel
theorem dX12_tick_209 : decode cX12_tick 209 = .ok (.iload 4, 2) := by decide +kernel
theorem dX12_tick_211 : decode cX12_tick 211 = .ok (.invokestatic 47, 3) := by decide +kernel
theorem dX12_tick_214 : decode cX12_tick 214 = .ok (.ifCond .eq 28, 3) := by decide +kernel
theorem dX12_tick_217 : decode cX12_tick 217 = .ok (.aload_n 0, 1) := by decide +kernel
theorem dX12_tick_218 : decode cX12_tick 218 = .ok (.iload 9, 2) := by decide +kernel
theorem dX12_tick_220 : decode cX12_tick 220 = .ok (.invokevirtual 143, 3) := by decide +kernel
theorem dX12_tick_223 : decode cX12_tick 223 = .ok (.ifCond .eq 19, 3) := by decide +kernel
theorem dX12_tick_226 : decode cX12_tick 226 = .ok (.aload_n 0, 1) := by decide +kernel
theorem dX12_tick_227 : decode cX12_tick 227 = .ok (.getfield 7, 3) := by decide +kernel
theorem dX12_tick_230 : decode cX12_tick 230 = .ok (.sipush 1132, 3) := by decide +kernel
theorem dX12_tick_233 : decode cX12_tick 233 = .ok (.iconst 5, 1) := by decide +kernel
theorem dX12_tick_234 : decode cX12_tick 234 = .ok (.iload 9, 2) := by decide +kernel
theorem dX12_tick_236 : decode cX12_tick 236 = .ok (.imul, 1) := by decide +kernel
theorem dX12_tick_237 : decode cX12_tick 237 = .ok (.iadd, 1) := by decide +kernel
theorem dX12_tick_238 : decode cX12_tick 238 = .ok (.iconst 4, 1) := by decide +kernel
theorem dX12_tick_239 : decode cX12_tick 239 = .ok (.iadd, 1) := by decide +kernel
theorem dX12_tick_240 : decode cX12_tick 240 = .ok (.iconst 1, 1) := by decide +kernel
theorem dX12_tick_241 : decode cX12_tick 241 = .ok (.iastore, 1) := by decide +kernel
theorem dX12_tick_242 : decode cX12_tick 242 = .ok (.iinc 9 1, 3) := by decide +kernel
theorem dX12_tick_245 : decode cX12_tick 245 = .ok (.goto (-62), 3) := by decide +kernel
theorem dX12_tick_248 : decode cX12_tick 248 = .ok (.goto (-244), 3) := by decide +kernel
theorem dX12_tick_251 : decode cX12_tick 251 = .ok (.aload_n 0, 1) := by decide +kernel
theorem dX12_tick_252 : decode cX12_tick 252 = .ok (.getfield 7, 3) := by decide +kernel
theorem dX12_tick_255 : decode cX12_tick 255 = .ok (.sipush 1645, 3) := by decide +kernel
theorem dX12_tick_258 : decode cX12_tick 258 = .ok (.dup2, 1) := by decide +kernel
theorem dX12_tick_259 : decode cX12_tick 259 = .ok (.iaload, 1) := by decide +kernel
theorem dX12_tick_260 : decode cX12_tick 260 = .ok (.iconst 1, 1) := by decide +kernel
theorem dX12_tick_261 : decode cX12_tick 261 = .ok (.iadd, 1) := by decide +kernel
theorem dX12_tick_262 : decode cX12_tick 262 = .ok (.iastore, 1) := by decide +kernel
theorem dX12_tick_263 : decode cX12_tick 263 = .ok (.iload_n 1, 1) := by decide +kernel
theorem dX12_tick_264 : decode cX12_tick 264 = .ok (.ireturn, 1) := by decide +kernel
theorem w_X12_tick_j248 {z : ((Int32 × Int32 × VT) ⊕ (Int32 × VT))} {Γ : Gam} {cy : Nat → ClassId} {a : Nat → Nat} {V : VT} {X : va_W} {v1 : Int32} {v2 : Int32}  (C0 : CXg Γ cX12_tick 11 7 RX12 cy) (hD : DM Γ cy a X) (h : f_X12_tick_j248 v1 v2 V = some z) (hz : (Sum.elim (fun x : Int32 × Int32 × VT => Wp Γ 0 0 4 [(0, .ref (a 0)), (1, .int x.1), (2, .int x.2.1)] [] (WM cy a x.2.2 X)) (fun y : Int32 × VT => FinI Γ cX12_tick (WM cy a y.2 X) y.1)) z) : Wp Γ 0 0 248 [(0, .ref (a 0)), (1, .int v1), (2, .int v2)] [] (WM cy a V X) := by
  unfold f_X12_tick_j248 at h
  refine r_goto C0 4 dX12_tick_248 rfl ?_
  cases h
  have hz := el_inl hz
  exact r_sub [0, 1, 2] rfl hz
theorem w_X12_tick_j242 {z : ((Int32 × VT) ⊕ ((Int32 × Int32 × VT) ⊕ (Int32 × VT)))} {Γ : Gam} {cy : Nat → ClassId} {a : Nat → Nat} {V : VT} {X : va_W} {v1 : Int32} {v2 : Int32} {v3 : Int32} {v4 : Int32} {v8 : Int32} {v9 : Int32}  (C0 : CXg Γ cX12_tick 11 7 RX12 cy) (hD : DM Γ cy a X) (h : f_X12_tick_j242 v1 v2 v3 v4 v8 v9 V = some z) (hz : (Sum.elim (fun x : Int32 × VT => Wp Γ 0 0 183 [(0, .ref (a 0)), (1, .int v1), (2, .int v2), (3, .int v3), (4, .int v4), (8, .int v8), (9, .int x.1)] [] (WM cy a x.2 X)) (Sum.elim (fun x : Int32 × Int32 × VT => Wp Γ 0 0 4 [(0, .ref (a 0)), (1, .int x.1), (2, .int x.2.1)] [] (WM cy a x.2.2 X)) (fun y : Int32 × VT => FinI Γ cX12_tick (WM cy a y.2 X) y.1))) z) : Wp Γ 0 0 242 [(0, .ref (a 0)), (1, .int v1), (2, .int v2), (3, .int v3), (4, .int v4), (8, .int v8), (9, .int v9)] [] (WM cy a V X) := by
  unfold f_X12_tick_j242 at h
  obtain ⟨a20, h8, h⟩ := op_bind h
  have e8 := Option.some.inj h8
  refine r_iinc (lv2 := [(9, .int a20), (0, .ref (a 0)), (1, .int v1), (2, .int v2), (3, .int v3), (4, .int v4), (8, .int v8)]) C0 dX12_tick_242 6 rfl ki_1 e8 (Nat.le_of_ble_eq_true rfl) rfl ?_
  refine r_goto C0 183 dX12_tick_245 rfl ?_
  cases h
  have hz := el_inl hz
  exact r_sub [1, 2, 3, 4, 5, 6, 0] rfl hz
theorem w_X12_tick_B183 {x : Int32 × VT} {z : ((Int32 × VT) ⊕ ((Int32 × Int32 × VT) ⊕ (Int32 × VT)))} {Γ : Gam} {cy : Nat → ClassId} {a : Nat → Nat} {X : va_W} {v1 : Int32} {v2 : Int32} {v3 : Int32} {v4 : Int32} {v8 : Int32}  (C0 : CXg Γ cX12_tick 11 7 RX12 cy) (hD : DM Γ cy a X) (h : f_X12_tick_B183 v1 v2 v3 v4 v8 x = some z) (hz : (Sum.elim (fun x : Int32 × VT => Wp Γ 0 0 183 [(0, .ref (a 0)), (1, .int v1), (2, .int v2), (3, .int v3), (4, .int v4), (8, .int v8), (9, .int x.1)] [] (WM cy a x.2 X)) (Sum.elim (fun x : Int32 × Int32 × VT => Wp Γ 0 0 4 [(0, .ref (a 0)), (1, .int x.1), (2, .int x.2.1)] [] (WM cy a x.2.2 X)) (fun y : Int32 × VT => FinI Γ cX12_tick (WM cy a y.2 X) y.1))) z) : Wp Γ 0 0 183 [(0, .ref (a 0)), (1, .int v1), (2, .int v2), (3, .int v3), (4, .int v4), (8, .int v8), (9, .int x.1)] [] (WM cy a x.2 X) := by
  unfold f_X12_tick_B183 at h
  refine r_iload C0 dX12_tick_183 6 rfl ?_
  refine r_aload_n C0 dX12_tick_185 rfl 0 rfl ?_
  refine wmg_0_0 C0 tf_X12_7 dX12_tick_186 ?_
  refine r_sipush C0 dX12_tick_189 ks_1642 ?_
  refine wmal_1 C0 h dX12_tick_192 (fun k15 h => ?_)
  refine r_icmp_ge C0 248 dX12_tick_193 rfl h (fun _ h => ?_) (fun _ h => ?_)
  · obtain ⟨y16, h5, h9⟩ := op_bind h
    clear h
    cases h9
    have hz := (el_inr hz)
    have h := h5
    exact r_sub [0, 1, 2] rfl (w_X12_tick_j248 C0 hD h hz)
  · refine r_iload C0 dX12_tick_196 5 rfl ?_
    refine r_if_eq C0 248 dX12_tick_198 rfl h (fun _ h => ?_) (fun _ h => ?_)
    · obtain ⟨y17, h5, h9⟩ := op_bind h
      clear h
      cases h9
      have hz := (el_inr hz)
      have h := h5
      exact r_sub [0, 1, 2] rfl (w_X12_tick_j248 C0 hD h hz)
    · refine r_aload_n C0 dX12_tick_201 rfl 0 rfl ?_
      refine r_iload C0 dX12_tick_202 6 rfl ?_
      refine r_iconst C0 dX12_tick_204 ki_0 ?_
      refine callV2 C0 h (hD _) mw_X12_cueIs rv_m tm_X12_140 (fun y hy => c_X12_cueIs hy) (Nat.le_of_ble_eq_true rfl) (Nat.le_of_ble_eq_true rfl) dX12_tick_205 (fun r18 h => ?_)
      refine r_iload_n C0 dX12_tick_208 rfl 3 rfl ?_
      refine r_iload C0 dX12_tick_209 4 rfl ?_
      refine callS3 C0 h (hD _) ms_X12_in tm_X12_47 (fun y hy => c_X12_in hy) (Nat.le_of_ble_eq_true rfl) (Nat.le_of_ble_eq_true rfl) dX12_tick_211 (fun r19 h => ?_)
      refine r_if_eq C0 242 dX12_tick_214 rfl h (fun _ h => ?_) (fun _ h => ?_)
      · exact r_sub [0, 1, 2, 3, 4, 5, 6] rfl (w_X12_tick_j242 C0 hD h hz)
      · refine r_aload_n C0 dX12_tick_217 rfl 0 rfl ?_
        refine r_iload C0 dX12_tick_218 6 rfl ?_
        refine callV1 C0 h (hD _) mw_X12_runs rv_m tm_X12_143 (fun y hy => c_X12_runs hy) (Nat.le_of_ble_eq_true rfl) (Nat.le_of_ble_eq_true rfl) dX12_tick_220 (fun r21 h => ?_)
        refine r_if_eq C0 242 dX12_tick_223 rfl h (fun _ h => ?_) (fun _ h => ?_)
        · exact r_sub [0, 1, 2, 3, 4, 5, 6] rfl (w_X12_tick_j242 C0 hD h hz)
        · refine r_aload_n C0 dX12_tick_226 rfl 0 rfl ?_
          refine wmg_0_0 C0 tf_X12_7 dX12_tick_227 ?_
          refine r_sipush C0 dX12_tick_230 ks_1132 ?_
          refine r_iconst C0 dX12_tick_233 ki_5 ?_
          refine r_iload C0 dX12_tick_234 6 rfl ?_
          refine r_imul C0 dX12_tick_236 ?_
          refine r_iadd C0 dX12_tick_237 ?_
          refine r_iconst C0 dX12_tick_238 ki_4 ?_
          refine r_iadd C0 dX12_tick_239 ?_
          refine r_iconst C0 dX12_tick_240 ki_1 ?_
          refine wmas_1 C0 hD h dX12_tick_241 (fun k22 h => ?_)
          exact r_sub [0, 1, 2, 3, 4, 5, 6] rfl (w_X12_tick_j242 C0 hD h hz)
theorem w_X12_tick_B183_lp {x : Int32 × VT} {z : ((Int32 × Int32 × VT) ⊕ (Int32 × VT))} {Γ : Gam} {cy : Nat → ClassId} {a : Nat → Nat} {X : va_W} {v1 : Int32} {v2 : Int32} {v3 : Int32} {v4 : Int32} {v8 : Int32}  (C0 : CXg Γ cX12_tick 11 7 RX12 cy) (hD : DM Γ cy a X) (h : lp (f_X12_tick_B183 v1 v2 v3 v4 v8) fuel x = some z) (hz : (Sum.elim (fun x : Int32 × Int32 × VT => Wp Γ 0 0 4 [(0, .ref (a 0)), (1, .int x.1), (2, .int x.2.1)] [] (WM cy a x.2.2 X)) (fun y : Int32 × VT => FinI Γ cX12_tick (WM cy a y.2 X) y.1)) z) : Wp Γ 0 0 183 [(0, .ref (a 0)), (1, .int v1), (2, .int v2), (3, .int v3), (4, .int v4), (8, .int v8), (9, .int x.1)] [] (WM cy a x.2 X) :=
  lp_rule (hd := (fun x : Int32 × VT => Wp Γ 0 0 183 [(0, .ref (a 0)), (1, .int v1), (2, .int v2), (3, .int v3), (4, .int v4), (8, .int v8), (9, .int x.1)] [] (WM cy a x.2 X))) (C := (Sum.elim (fun x : Int32 × Int32 × VT => Wp Γ 0 0 4 [(0, .ref (a 0)), (1, .int x.1), (2, .int x.2.1)] [] (WM cy a x.2.2 X)) (fun y : Int32 × VT => FinI Γ cX12_tick (WM cy a y.2 X) y.1))) (fun x z h hz => w_X12_tick_B183 C0 hD h hz) _ _ _ h hz
theorem w_X12_tick_j180 {z : ((Int32 × Int32 × VT) ⊕ (Int32 × VT))} {Γ : Gam} {cy : Nat → ClassId} {a : Nat → Nat} {V : VT} {X : va_W} {v1 : Int32} {v2 : Int32} {v3 : Int32} {v4 : Int32} {v8 : Int32}  (C0 : CXg Γ cX12_tick 11 7 RX12 cy) (hD : DM Γ cy a X) (h : f_X12_tick_j180 v1 v2 v3 v4 v8 V = some z) (hz : (Sum.elim (fun x : Int32 × Int32 × VT => Wp Γ 0 0 4 [(0, .ref (a 0)), (1, .int x.1), (2, .int x.2.1)] [] (WM cy a x.2.2 X)) (fun y : Int32 × VT => FinI Γ cX12_tick (WM cy a y.2 X) y.1)) z) : Wp Γ 0 0 180 [(0, .ref (a 0)), (1, .int v1), (2, .int v2), (3, .int v3), (4, .int v4), (8, .int v8)] [] (WM cy a V X) := by
  unfold f_X12_tick_j180 at h
  refine r_iconst C0 dX12_tick_180 ki_0 ?_
  obtain ⟨a14, h8, h⟩ := op_bind h
  have e8 := Option.some.inj h8
  refine r_istore (lv2 := [(9, .int a14), (0, .ref (a 0)), (1, .int v1), (2, .int v2), (3, .int v3), (4, .int v4), (8, .int v8)]) C0 dX12_tick_181 e8 (Nat.le_of_ble_eq_true rfl) rfl ?_
  exact r_sub [1, 2, 3, 4, 5, 6, 0] rfl (w_X12_tick_B183_lp C0 hD h hz)
theorem w_X12_tick_j174 {z : ((Int32 × Int32 × Int32 × VT) ⊕ ((Int32 × Int32 × VT) ⊕ (Int32 × VT)))} {Γ : Gam} {cy : Nat → ClassId} {a : Nat → Nat} {V : VT} {X : va_W} {v1 : Int32} {v2 : Int32} {v3 : Int32} {v4 : Int32} {v6 : Int32} {v7 : Int32} {v8 : Int32} {v9 : Int32}  (C0 : CXg Γ cX12_tick 11 7 RX12 cy) (hD : DM Γ cy a X) (h : f_X12_tick_j174 v1 v2 v3 v4 v6 v7 v8 v9 V = some z) (hz : (Sum.elim (fun x : Int32 × Int32 × Int32 × VT => Wp Γ 0 0 104 [(0, .ref (a 0)), (1, .int x.1), (2, .int v2), (3, .int v3), (4, .int v4), (6, .int v6), (7, .int v7), (8, .int x.2.1), (9, .int x.2.2.1)] [] (WM cy a x.2.2.2 X)) (Sum.elim (fun x : Int32 × Int32 × VT => Wp Γ 0 0 4 [(0, .ref (a 0)), (1, .int x.1), (2, .int x.2.1)] [] (WM cy a x.2.2 X)) (fun y : Int32 × VT => FinI Γ cX12_tick (WM cy a y.2 X) y.1))) z) : Wp Γ 0 0 174 [(0, .ref (a 0)), (1, .int v1), (2, .int v2), (3, .int v3), (4, .int v4), (6, .int v6), (7, .int v7), (8, .int v8), (9, .int v9)] [] (WM cy a V X) := by
  unfold f_X12_tick_j174 at h
  obtain ⟨a27, h8, h⟩ := op_bind h
  have e8 := Option.some.inj h8
  refine r_iinc (lv2 := [(9, .int a27), (0, .ref (a 0)), (1, .int v1), (2, .int v2), (3, .int v3), (4, .int v4), (6, .int v6), (7, .int v7), (8, .int v8)]) C0 dX12_tick_174 8 rfl ki_1 e8 (Nat.le_of_ble_eq_true rfl) rfl ?_
  refine r_goto C0 104 dX12_tick_177 rfl ?_
  cases h
  have hz := el_inl hz
  exact r_sub [1, 2, 3, 4, 5, 6, 7, 8, 0] rfl hz
theorem w_X12_tick_B141 {x : Int32 × VT} {z : ((Int32 × VT) ⊕ ((Int32 × Int32 × Int32 × VT) ⊕ ((Int32 × Int32 × VT) ⊕ (Int32 × VT))))} {Γ : Gam} {cy : Nat → ClassId} {a : Nat → Nat} {X : va_W} {v1 : Int32} {v2 : Int32} {v3 : Int32} {v4 : Int32} {v6 : Int32} {v7 : Int32} {v8 : Int32} {v9 : Int32}  (C0 : CXg Γ cX12_tick 11 7 RX12 cy) (hD : DM Γ cy a X) (h : f_X12_tick_B141 v1 v2 v3 v4 v6 v7 v8 v9 x = some z) (hz : (Sum.elim (fun x : Int32 × VT => Wp Γ 0 0 141 [(0, .ref (a 0)), (1, .int v1), (2, .int v2), (3, .int v3), (4, .int v4), (6, .int v6), (7, .int v7), (8, .int v8), (9, .int v9), (10, .int x.1)] [] (WM cy a x.2 X)) (Sum.elim (fun x : Int32 × Int32 × Int32 × VT => Wp Γ 0 0 104 [(0, .ref (a 0)), (1, .int x.1), (2, .int v2), (3, .int v3), (4, .int v4), (6, .int v6), (7, .int v7), (8, .int x.2.1), (9, .int x.2.2.1)] [] (WM cy a x.2.2.2 X)) (Sum.elim (fun x : Int32 × Int32 × VT => Wp Γ 0 0 4 [(0, .ref (a 0)), (1, .int x.1), (2, .int x.2.1)] [] (WM cy a x.2.2 X)) (fun y : Int32 × VT => FinI Γ cX12_tick (WM cy a y.2 X) y.1)))) z) : Wp Γ 0 0 141 [(0, .ref (a 0)), (1, .int v1), (2, .int v2), (3, .int v3), (4, .int v4), (6, .int v6), (7, .int v7), (8, .int v8), (9, .int v9), (10, .int x.1)] [] (WM cy a x.2 X) := by
  unfold f_X12_tick_B141 at h
  refine r_iload C0 dX12_tick_141 9 rfl ?_
  refine r_iload C0 dX12_tick_143 4 rfl ?_
  refine r_icmp_gt C0 171 dX12_tick_145 rfl h (fun _ h => ?_) (fun _ h => ?_)
  · obtain ⟨y25, h5, h9⟩ := op_bind h
    clear h
    cases h9
    have hz := (el_inr hz)
    have h := h5
    obtain ⟨a26, h8, h⟩ := op_bind h
    have e8 := Option.some.inj h8
    refine r_iinc (lv2 := [(1, .int a26), (0, .ref (a 0)), (2, .int v2), (3, .int v3), (4, .int v4), (6, .int v6), (7, .int v7), (8, .int v8), (9, .int v9), (10, .int x.1)]) C0 dX12_tick_171 1 rfl ki_1 e8 (Nat.le_of_ble_eq_true rfl) rfl ?_
    exact r_sub [1, 0, 2, 3, 4, 5, 6, 7, 8] rfl (w_X12_tick_j174 C0 hD h hz)
  · refine r_aload_n C0 dX12_tick_148 rfl 0 rfl ?_
    refine wmg_0_0 C0 tf_X12_7 dX12_tick_149 ?_
    refine r_iload C0 dX12_tick_152 9 rfl ?_
    refine callS1 C0 h (hD _) ms_X12_bar0 tm_X12_51 (fun y hy => c_X12_bar0 hy) (Nat.le_of_ble_eq_true rfl) (Nat.le_of_ble_eq_true rfl) dX12_tick_154 (fun r28 h => ?_)
    refine r_iconst C0 dX12_tick_157 ki_3 ?_
    refine r_iadd C0 dX12_tick_158 ?_
    refine r_dup2 C0 dX12_tick_159 rfl rfl ?_
    refine wmal_1 C0 h dX12_tick_160 (fun k29 h => ?_)
    refine r_iload C0 dX12_tick_161 6 rfl ?_
    refine r_iadd C0 dX12_tick_163 ?_
    refine wmas_1 C0 hD h dX12_tick_164 (fun k30 h => ?_)
    obtain ⟨a31, h8, h⟩ := op_bind h
    have e8 := Option.some.inj h8
    refine r_iinc (lv2 := [(10, .int a31), (0, .ref (a 0)), (1, .int v1), (2, .int v2), (3, .int v3), (4, .int v4), (6, .int v6), (7, .int v7), (8, .int v8), (9, .int v9)]) C0 dX12_tick_165 9 rfl ki_1 e8 (Nat.le_of_ble_eq_true rfl) rfl ?_
    refine r_goto C0 141 dX12_tick_168 rfl ?_
    cases h
    have hz := el_inl hz
    exact r_sub [1, 2, 3, 4, 5, 6, 7, 8, 9, 0] rfl hz
theorem w_X12_tick_B141_lp {x : Int32 × VT} {z : ((Int32 × Int32 × Int32 × VT) ⊕ ((Int32 × Int32 × VT) ⊕ (Int32 × VT)))} {Γ : Gam} {cy : Nat → ClassId} {a : Nat → Nat} {X : va_W} {v1 : Int32} {v2 : Int32} {v3 : Int32} {v4 : Int32} {v6 : Int32} {v7 : Int32} {v8 : Int32} {v9 : Int32}  (C0 : CXg Γ cX12_tick 11 7 RX12 cy) (hD : DM Γ cy a X) (h : lp (f_X12_tick_B141 v1 v2 v3 v4 v6 v7 v8 v9) fuel x = some z) (hz : (Sum.elim (fun x : Int32 × Int32 × Int32 × VT => Wp Γ 0 0 104 [(0, .ref (a 0)), (1, .int x.1), (2, .int v2), (3, .int v3), (4, .int v4), (6, .int v6), (7, .int v7), (8, .int x.2.1), (9, .int x.2.2.1)] [] (WM cy a x.2.2.2 X)) (Sum.elim (fun x : Int32 × Int32 × VT => Wp Γ 0 0 4 [(0, .ref (a 0)), (1, .int x.1), (2, .int x.2.1)] [] (WM cy a x.2.2 X)) (fun y : Int32 × VT => FinI Γ cX12_tick (WM cy a y.2 X) y.1))) z) : Wp Γ 0 0 141 [(0, .ref (a 0)), (1, .int v1), (2, .int v2), (3, .int v3), (4, .int v4), (6, .int v6), (7, .int v7), (8, .int v8), (9, .int v9), (10, .int x.1)] [] (WM cy a x.2 X) :=
  lp_rule (hd := (fun x : Int32 × VT => Wp Γ 0 0 141 [(0, .ref (a 0)), (1, .int v1), (2, .int v2), (3, .int v3), (4, .int v4), (6, .int v6), (7, .int v7), (8, .int v8), (9, .int v9), (10, .int x.1)] [] (WM cy a x.2 X))) (C := (Sum.elim (fun x : Int32 × Int32 × Int32 × VT => Wp Γ 0 0 104 [(0, .ref (a 0)), (1, .int x.1), (2, .int v2), (3, .int v3), (4, .int v4), (6, .int v6), (7, .int v7), (8, .int x.2.1), (9, .int x.2.2.1)] [] (WM cy a x.2.2.2 X)) (Sum.elim (fun x : Int32 × Int32 × VT => Wp Γ 0 0 4 [(0, .ref (a 0)), (1, .int x.1), (2, .int x.2.1)] [] (WM cy a x.2.2 X)) (fun y : Int32 × VT => FinI Γ cX12_tick (WM cy a y.2 X) y.1)))) (fun x z h hz => w_X12_tick_B141 C0 hD h hz) _ _ _ h hz
theorem w_X12_tick_B104 {x : Int32 × Int32 × Int32 × VT} {z : ((Int32 × Int32 × Int32 × VT) ⊕ ((Int32 × Int32 × VT) ⊕ (Int32 × VT)))} {Γ : Gam} {cy : Nat → ClassId} {a : Nat → Nat} {X : va_W} {v2 : Int32} {v3 : Int32} {v4 : Int32} {v6 : Int32} {v7 : Int32}  (C0 : CXg Γ cX12_tick 11 7 RX12 cy) (hD : DM Γ cy a X) (h : f_X12_tick_B104 v2 v3 v4 v6 v7 x = some z) (hz : (Sum.elim (fun x : Int32 × Int32 × Int32 × VT => Wp Γ 0 0 104 [(0, .ref (a 0)), (1, .int x.1), (2, .int v2), (3, .int v3), (4, .int v4), (6, .int v6), (7, .int v7), (8, .int x.2.1), (9, .int x.2.2.1)] [] (WM cy a x.2.2.2 X)) (Sum.elim (fun x : Int32 × Int32 × VT => Wp Γ 0 0 4 [(0, .ref (a 0)), (1, .int x.1), (2, .int x.2.1)] [] (WM cy a x.2.2 X)) (fun y : Int32 × VT => FinI Γ cX12_tick (WM cy a y.2 X) y.1))) z) : Wp Γ 0 0 104 [(0, .ref (a 0)), (1, .int x.1), (2, .int v2), (3, .int v3), (4, .int v4), (6, .int v6), (7, .int v7), (8, .int x.2.1), (9, .int x.2.2.1)] [] (WM cy a x.2.2.2 X) := by
  unfold f_X12_tick_B104 at h
  refine r_iload C0 dX12_tick_104 8 rfl ?_
  refine r_iload C0 dX12_tick_106 5 rfl ?_
  refine r_iload C0 dX12_tick_108 6 rfl ?_
  refine r_imul C0 dX12_tick_110 ?_
  refine r_icmp_ge C0 180 dX12_tick_111 rfl h (fun _ h => ?_) (fun _ h => ?_)
  · obtain ⟨y13, h5, h9⟩ := op_bind h
    clear h
    cases h9
    have hz := (el_inr hz)
    have h := h5
    exact r_sub [0, 1, 2, 3, 4, 7] rfl (w_X12_tick_j180 C0 hD h hz)
  · refine r_iload C0 dX12_tick_114 7 rfl ?_
    refine r_if_ne C0 180 dX12_tick_116 rfl h (fun _ h => ?_) (fun _ h => ?_)
    · obtain ⟨y23, h5, h9⟩ := op_bind h
      clear h
      cases h9
      have hz := (el_inr hz)
      have h := h5
      exact r_sub [0, 1, 2, 3, 4, 7] rfl (w_X12_tick_j180 C0 hD h hz)
    · refine r_aload_n C0 dX12_tick_119 rfl 0 rfl ?_
      refine r_iload_n C0 dX12_tick_120 rfl 3 rfl ?_
      refine r_iload C0 dX12_tick_121 4 rfl ?_
      refine r_iload C0 dX12_tick_123 6 rfl ?_
      refine callV3 C0 h (hD _) mw_X12_stops rv_m tm_X12_162 (fun y hy => c_X12_stops hy) (Nat.le_of_ble_eq_true rfl) (Nat.le_of_ble_eq_true rfl) dX12_tick_125 (fun r24 h => ?_)
      refine r_istore (lv2 := [(8, .int r24.1), (0, .ref (a 0)), (1, .int x.1), (2, .int v2), (3, .int v3), (4, .int v4), (6, .int v6), (7, .int v7), (9, .int x.2.2.1)]) C0 dX12_tick_128 rfl (Nat.le_of_ble_eq_true rfl) rfl ?_
      refine r_iload C0 dX12_tick_130 0 rfl ?_
      refine r_if_eq C0 138 dX12_tick_132 rfl h (fun _ h => ?_) (fun _ h => ?_)
      · refine r_iload_n C0 dX12_tick_138 rfl 4 rfl ?_
        refine r_istore (lv2 := [(10, .int v3), (8, .int r24.1), (0, .ref (a 0)), (1, .int x.1), (2, .int v2), (3, .int v3), (4, .int v4), (6, .int v6), (7, .int v7), (9, .int x.2.2.1)]) C0 dX12_tick_139 rfl (Nat.le_of_ble_eq_true rfl) rfl ?_
        exact r_sub [2, 3, 4, 5, 6, 7, 8, 1, 9, 0] rfl (w_X12_tick_B141_lp C0 hD h hz)
      · refine r_goto C0 174 dX12_tick_135 rfl ?_
        exact r_sub [1, 2, 3, 4, 5, 6, 7, 0, 8] rfl (w_X12_tick_j174 C0 hD h hz)
theorem w_X12_tick_B104_lp {x : Int32 × Int32 × Int32 × VT} {z : ((Int32 × Int32 × VT) ⊕ (Int32 × VT))} {Γ : Gam} {cy : Nat → ClassId} {a : Nat → Nat} {X : va_W} {v2 : Int32} {v3 : Int32} {v4 : Int32} {v6 : Int32} {v7 : Int32}  (C0 : CXg Γ cX12_tick 11 7 RX12 cy) (hD : DM Γ cy a X) (h : lp (f_X12_tick_B104 v2 v3 v4 v6 v7) fuel x = some z) (hz : (Sum.elim (fun x : Int32 × Int32 × VT => Wp Γ 0 0 4 [(0, .ref (a 0)), (1, .int x.1), (2, .int x.2.1)] [] (WM cy a x.2.2 X)) (fun y : Int32 × VT => FinI Γ cX12_tick (WM cy a y.2 X) y.1)) z) : Wp Γ 0 0 104 [(0, .ref (a 0)), (1, .int x.1), (2, .int v2), (3, .int v3), (4, .int v4), (6, .int v6), (7, .int v7), (8, .int x.2.1), (9, .int x.2.2.1)] [] (WM cy a x.2.2.2 X) :=
  lp_rule (hd := (fun x : Int32 × Int32 × Int32 × VT => Wp Γ 0 0 104 [(0, .ref (a 0)), (1, .int x.1), (2, .int v2), (3, .int v3), (4, .int v4), (6, .int v6), (7, .int v7), (8, .int x.2.1), (9, .int x.2.2.1)] [] (WM cy a x.2.2.2 X))) (C := (Sum.elim (fun x : Int32 × Int32 × VT => Wp Γ 0 0 4 [(0, .ref (a 0)), (1, .int x.1), (2, .int x.2.1)] [] (WM cy a x.2.2 X)) (fun y : Int32 × VT => FinI Γ cX12_tick (WM cy a y.2 X) y.1))) (fun x z h hz => w_X12_tick_B104 C0 hD h hz) _ _ _ h hz
theorem w_X12_tick_j96 {z : ((Int32 × Int32 × VT) ⊕ (Int32 × VT))} {Γ : Gam} {cy : Nat → ClassId} {a : Nat → Nat} {V : VT} {X : va_W} {v1 : Int32} {v2 : Int32} {v3 : Int32} {v4 : Int32} {v6 : Int32} {s0 : Int32}  (C0 : CXg Γ cX12_tick 11 7 RX12 cy) (hD : DM Γ cy a X) (h : f_X12_tick_j96 v1 v2 v3 v4 v6 s0 V = some z) (hz : (Sum.elim (fun x : Int32 × Int32 × VT => Wp Γ 0 0 4 [(0, .ref (a 0)), (1, .int x.1), (2, .int x.2.1)] [] (WM cy a x.2.2 X)) (fun y : Int32 × VT => FinI Γ cX12_tick (WM cy a y.2 X) y.1)) z) : Wp Γ 0 0 96 [(0, .ref (a 0)), (1, .int v1), (2, .int v2), (3, .int v3), (4, .int v4), (6, .int v6)] [.int s0] (WM cy a V X) := by
  unfold f_X12_tick_j96 at h
  refine r_istore (lv2 := [(7, .int s0), (0, .ref (a 0)), (1, .int v1), (2, .int v2), (3, .int v3), (4, .int v4), (6, .int v6)]) C0 dX12_tick_96 rfl (Nat.le_of_ble_eq_true rfl) rfl ?_
  refine r_iconst C0 dX12_tick_98 ki_0 ?_
  obtain ⟨a11, h8, h⟩ := op_bind h
  have e8 := Option.some.inj h8
  refine r_istore (lv2 := [(8, .int a11), (7, .int s0), (0, .ref (a 0)), (1, .int v1), (2, .int v2), (3, .int v3), (4, .int v4), (6, .int v6)]) C0 dX12_tick_99 e8 (Nat.le_of_ble_eq_true rfl) rfl ?_
  refine r_iconst C0 dX12_tick_101 ki_0 ?_
  obtain ⟨a12, h8, h⟩ := op_bind h
  have e8 := Option.some.inj h8
  refine r_istore (lv2 := [(9, .int a12), (8, .int a11), (7, .int s0), (0, .ref (a 0)), (1, .int v1), (2, .int v2), (3, .int v3), (4, .int v4), (6, .int v6)]) C0 dX12_tick_102 e8 (Nat.le_of_ble_eq_true rfl) rfl ?_
  exact r_sub [3, 4, 5, 6, 7, 8, 2, 1, 0] rfl (w_X12_tick_B104_lp C0 hD h hz)
theorem w_X12_tick_j69 {z : ((Int32 × Int32 × VT) ⊕ (Int32 × VT))} {Γ : Gam} {cy : Nat → ClassId} {a : Nat → Nat} {V : VT} {X : va_W} {v1 : Int32} {v2 : Int32} {v3 : Int32} {v4 : Int32} {v5 : Int32}  (C0 : CXg Γ cX12_tick 11 7 RX12 cy) (hD : DM Γ cy a X) (h : f_X12_tick_j69 v1 v2 v3 v4 v5 V = some z) (hz : (Sum.elim (fun x : Int32 × Int32 × VT => Wp Γ 0 0 4 [(0, .ref (a 0)), (1, .int x.1), (2, .int x.2.1)] [] (WM cy a x.2.2 X)) (fun y : Int32 × VT => FinI Γ cX12_tick (WM cy a y.2 X) y.1)) z) : Wp Γ 0 0 69 [(0, .ref (a 0)), (1, .int v1), (2, .int v2), (3, .int v3), (4, .int v4), (5, .int v5)] [] (WM cy a V X) := by
  unfold f_X12_tick_j69 at h
  refine r_iload C0 dX12_tick_69 5 rfl ?_
  refine r_if_ge C0 77 dX12_tick_71 rfl h (fun _ h => ?_) (fun _ h => ?_)
  · refine r_aload_n C0 dX12_tick_77 rfl 0 rfl ?_
    refine r_iload C0 dX12_tick_78 5 rfl ?_
    refine r_iconst C0 dX12_tick_80 ki_1 ?_
    refine callV2 C0 h (hD _) mw_X12_cueIs rv_m tm_X12_140 (fun y hy => c_X12_cueIs hy) (Nat.le_of_ble_eq_true rfl) (Nat.le_of_ble_eq_true rfl) dX12_tick_81 (fun r10 h => ?_)
    refine r_istore (lv2 := [(6, .int r10), (0, .ref (a 0)), (1, .int v1), (2, .int v2), (3, .int v3), (4, .int v4), (5, .int v5)]) C0 dX12_tick_84 rfl (Nat.le_of_ble_eq_true rfl) rfl ?_
    refine r_iload C0 dX12_tick_86 0 rfl ?_
    refine r_if_ge C0 95 dX12_tick_88 rfl h (fun _ h => ?_) (fun _ h => ?_)
    · refine r_iconst C0 dX12_tick_95 ki_1 ?_
      exact r_sub [1, 2, 3, 4, 5, 0] rfl (w_X12_tick_j96 C0 hD h hz)
    · refine r_iconst C0 dX12_tick_91 ki_m1 ?_
      refine r_goto C0 96 dX12_tick_92 rfl ?_
      exact r_sub [1, 2, 3, 4, 5, 0] rfl (w_X12_tick_j96 C0 hD h hz)
  · refine r_goto C0 4 dX12_tick_74 rfl ?_
    cases h
    have hz := el_inl hz
    exact r_sub [0, 1, 2] rfl hz
theorem w_X12_tick_j61 {z : ((Int32 × Int32) ⊕ ((Int32 × Int32 × VT) ⊕ (Int32 × VT)))} {Γ : Gam} {cy : Nat → ClassId} {a : Nat → Nat} {V : VT} {X : va_W} {v1 : Int32} {v2 : Int32} {v3 : Int32} {v4 : Int32} {v6 : Int32} {s0 : Int32}  (C0 : CXg Γ cX12_tick 11 7 RX12 cy) (hD : DM Γ cy a X) (h : f_X12_tick_j61 v1 v2 v3 v4 v6 s0 V = some z) (hz : (Sum.elim (fun x : Int32 × Int32 => Wp Γ 0 0 30 [(0, .ref (a 0)), (1, .int v1), (2, .int v2), (3, .int v3), (4, .int v4), (5, .int x.1), (6, .int x.2)] [] (WM cy a V X)) (Sum.elim (fun x : Int32 × Int32 × VT => Wp Γ 0 0 4 [(0, .ref (a 0)), (1, .int x.1), (2, .int x.2.1)] [] (WM cy a x.2.2 X)) (fun y : Int32 × VT => FinI Γ cX12_tick (WM cy a y.2 X) y.1))) z) : Wp Γ 0 0 61 [(0, .ref (a 0)), (1, .int v1), (2, .int v2), (3, .int v3), (4, .int v4), (6, .int v6)] [.int s0] (WM cy a V X) := by
  unfold f_X12_tick_j61 at h
  refine r_istore (lv2 := [(5, .int s0), (0, .ref (a 0)), (1, .int v1), (2, .int v2), (3, .int v3), (4, .int v4), (6, .int v6)]) C0 dX12_tick_61 rfl (Nat.le_of_ble_eq_true rfl) rfl ?_
  obtain ⟨a34, h8, h⟩ := op_bind h
  have e8 := Option.some.inj h8
  refine r_iinc (lv2 := [(6, .int a34), (5, .int s0), (0, .ref (a 0)), (1, .int v1), (2, .int v2), (3, .int v3), (4, .int v4)]) C0 dX12_tick_63 6 rfl ki_1 e8 (Nat.le_of_ble_eq_true rfl) rfl ?_
  refine r_goto C0 30 dX12_tick_66 rfl ?_
  cases h
  have hz := el_inl hz
  exact r_sub [2, 3, 4, 5, 6, 1, 0] rfl hz
theorem w_X12_tick_B30 {x : Int32 × Int32} {z : ((Int32 × Int32) ⊕ ((Int32 × Int32 × VT) ⊕ (Int32 × VT)))} {Γ : Gam} {cy : Nat → ClassId} {a : Nat → Nat} {V : VT} {X : va_W} {v1 : Int32} {v2 : Int32} {v3 : Int32} {v4 : Int32}  (C0 : CXg Γ cX12_tick 11 7 RX12 cy) (hD : DM Γ cy a X) (h : f_X12_tick_B30 v1 v2 v3 v4 V x = some z) (hz : (Sum.elim (fun x : Int32 × Int32 => Wp Γ 0 0 30 [(0, .ref (a 0)), (1, .int v1), (2, .int v2), (3, .int v3), (4, .int v4), (5, .int x.1), (6, .int x.2)] [] (WM cy a V X)) (Sum.elim (fun x : Int32 × Int32 × VT => Wp Γ 0 0 4 [(0, .ref (a 0)), (1, .int x.1), (2, .int x.2.1)] [] (WM cy a x.2.2 X)) (fun y : Int32 × VT => FinI Γ cX12_tick (WM cy a y.2 X) y.1))) z) : Wp Γ 0 0 30 [(0, .ref (a 0)), (1, .int v1), (2, .int v2), (3, .int v3), (4, .int v4), (5, .int x.1), (6, .int x.2)] [] (WM cy a V X) := by
  unfold f_X12_tick_B30 at h
  refine r_iload C0 dX12_tick_30 6 rfl ?_
  refine r_iload C0 dX12_tick_32 4 rfl ?_
  refine r_icmp_gt C0 69 dX12_tick_34 rfl h (fun _ h => ?_) (fun _ h => ?_)
  · obtain ⟨y9, h5, h9⟩ := op_bind h
    clear h
    cases h9
    have hz := (el_inr hz)
    have h := h5
    exact r_sub [0, 1, 2, 3, 4, 5] rfl (w_X12_tick_j69 C0 hD h hz)
  · refine r_iload C0 dX12_tick_37 5 rfl ?_
    refine r_if_ge C0 69 dX12_tick_39 rfl h (fun _ h => ?_) (fun _ h => ?_)
    · obtain ⟨y32, h5, h9⟩ := op_bind h
      clear h
      cases h9
      have hz := (el_inr hz)
      have h := h5
      exact r_sub [0, 1, 2, 3, 4, 5] rfl (w_X12_tick_j69 C0 hD h hz)
    · refine r_aload_n C0 dX12_tick_42 rfl 0 rfl ?_
      refine r_iload C0 dX12_tick_43 6 rfl ?_
      refine callV1 C0 h (hD _) mw_X12_isRigged rv_m tm_X12_66 (fun y hy => c_X12_isRigged hy) (Nat.le_of_ble_eq_true rfl) (Nat.le_of_ble_eq_true rfl) dX12_tick_45 (fun r33 h => ?_)
      refine r_if_eq C0 60 dX12_tick_48 rfl h (fun _ h => ?_) (fun _ h => ?_)
      · refine r_iconst C0 dX12_tick_60 ki_m1 ?_
        exact r_sub [0, 1, 2, 3, 4, 6] rfl (w_X12_tick_j61 C0 hD h hz)
      · refine r_aload_n C0 dX12_tick_51 rfl 0 rfl ?_
        refine r_iload C0 dX12_tick_52 6 rfl ?_
        refine callV1 C0 h (hD _) mw_X12_running rv_m tm_X12_159 (fun y hy => c_X12_running hy) (Nat.le_of_ble_eq_true rfl) (Nat.le_of_ble_eq_true rfl) dX12_tick_54 (fun r35 h => ?_)
        refine r_goto C0 61 dX12_tick_57 rfl ?_
        exact r_sub [0, 1, 2, 3, 4, 6] rfl (w_X12_tick_j61 C0 hD h hz)
theorem w_X12_tick_B30_lp {x : Int32 × Int32} {z : ((Int32 × Int32 × VT) ⊕ (Int32 × VT))} {Γ : Gam} {cy : Nat → ClassId} {a : Nat → Nat} {V : VT} {X : va_W} {v1 : Int32} {v2 : Int32} {v3 : Int32} {v4 : Int32}  (C0 : CXg Γ cX12_tick 11 7 RX12 cy) (hD : DM Γ cy a X) (h : lp (f_X12_tick_B30 v1 v2 v3 v4 V) fuel x = some z) (hz : (Sum.elim (fun x : Int32 × Int32 × VT => Wp Γ 0 0 4 [(0, .ref (a 0)), (1, .int x.1), (2, .int x.2.1)] [] (WM cy a x.2.2 X)) (fun y : Int32 × VT => FinI Γ cX12_tick (WM cy a y.2 X) y.1)) z) : Wp Γ 0 0 30 [(0, .ref (a 0)), (1, .int v1), (2, .int v2), (3, .int v3), (4, .int v4), (5, .int x.1), (6, .int x.2)] [] (WM cy a V X) :=
  lp_rule (hd := (fun x : Int32 × Int32 => Wp Γ 0 0 30 [(0, .ref (a 0)), (1, .int v1), (2, .int v2), (3, .int v3), (4, .int v4), (5, .int x.1), (6, .int x.2)] [] (WM cy a V X))) (C := (Sum.elim (fun x : Int32 × Int32 × VT => Wp Γ 0 0 4 [(0, .ref (a 0)), (1, .int x.1), (2, .int x.2.1)] [] (WM cy a x.2.2 X)) (fun y : Int32 × VT => FinI Γ cX12_tick (WM cy a y.2 X) y.1))) (fun x z h hz => w_X12_tick_B30 C0 hD h hz) _ _ _ h hz
theorem w_X12_tick_B4 {x : Int32 × Int32 × VT} {z : ((Int32 × Int32 × VT) ⊕ (Int32 × VT))} {Γ : Gam} {cy : Nat → ClassId} {a : Nat → Nat} {X : va_W}  (C0 : CXg Γ cX12_tick 11 7 RX12 cy) (hD : DM Γ cy a X) (h : f_X12_tick_B4 x = some z) (hz : (Sum.elim (fun x : Int32 × Int32 × VT => Wp Γ 0 0 4 [(0, .ref (a 0)), (1, .int x.1), (2, .int x.2.1)] [] (WM cy a x.2.2 X)) (fun y : Int32 × VT => FinI Γ cX12_tick (WM cy a y.2 X) y.1)) z) : Wp Γ 0 0 4 [(0, .ref (a 0)), (1, .int x.1), (2, .int x.2.1)] [] (WM cy a x.2.2 X) := by
  unfold f_X12_tick_B4 at h
  refine r_iload_n C0 dX12_tick_4 rfl 2 rfl ?_
  refine r_bipush C0 dX12_tick_5 kb_12 ?_
  refine r_icmp_ge C0 251 dX12_tick_7 rfl h (fun _ h => ?_) (fun _ h => ?_)
  · obtain ⟨y3, h5, h9⟩ := op_bind h
    clear h
    cases h9
    have hz := (el_inr hz)
    have h := h5
    refine r_aload_n C0 dX12_tick_251 rfl 0 rfl ?_
    refine wmg_0_0 C0 tf_X12_7 dX12_tick_252 ?_
    refine r_sipush C0 dX12_tick_255 ks_1645 ?_
    refine r_dup2 C0 dX12_tick_258 rfl rfl ?_
    refine wmal_1 C0 h dX12_tick_259 (fun k4 h => ?_)
    refine r_iconst C0 dX12_tick_260 ki_1 ?_
    refine r_iadd C0 dX12_tick_261 ?_
    refine wmas_1 C0 hD h dX12_tick_262 (fun k5 h => ?_)
    refine r_iload_n C0 dX12_tick_263 rfl 1 rfl ?_
    cases h
    exact hz _ _ dX12_tick_264
  · refine r_iload_n C0 dX12_tick_10 rfl 2 rfl ?_
    refine r_istore_n (lv2 := [(3, .int x.2.1), (0, .ref (a 0)), (1, .int x.1), (2, .int x.2.1)]) C0 dX12_tick_11 rfl rfl (Nat.le_of_ble_eq_true rfl) rfl ?_
    refine r_aload_n C0 dX12_tick_12 rfl 1 rfl ?_
    refine r_iload_n C0 dX12_tick_13 rfl 3 rfl ?_
    refine callV1 C0 h (hD _) mw_X12_lastOfGroup rv_m tm_X12_156 (fun y hy => c_X12_lastOfGroup hy) (Nat.le_of_ble_eq_true rfl) (Nat.le_of_ble_eq_true rfl) dX12_tick_14 (fun r6 h => ?_)
    refine r_istore (lv2 := [(4, .int r6), (3, .int x.2.1), (0, .ref (a 0)), (1, .int x.1), (2, .int x.2.1)]) C0 dX12_tick_17 rfl (Nat.le_of_ble_eq_true rfl) rfl ?_
    refine r_iload C0 dX12_tick_19 0 rfl ?_
    refine r_iconst C0 dX12_tick_21 ki_1 ?_
    refine r_iadd C0 dX12_tick_22 ?_
    obtain ⟨a7, h8, h⟩ := op_bind h
    have e8 := Option.some.inj h8
    refine r_istore_n (lv2 := [(2, .int a7), (4, .int r6), (3, .int x.2.1), (0, .ref (a 0)), (1, .int x.1)]) C0 dX12_tick_23 rfl e8 (Nat.le_of_ble_eq_true rfl) rfl ?_
    refine r_iconst C0 dX12_tick_24 ki_m1 ?_
    obtain ⟨a8, h8, h⟩ := op_bind h
    have e8 := Option.some.inj h8
    refine r_istore (lv2 := [(5, .int a8), (2, .int a7), (4, .int r6), (3, .int x.2.1), (0, .ref (a 0)), (1, .int x.1)]) C0 dX12_tick_25 e8 (Nat.le_of_ble_eq_true rfl) rfl ?_
    refine r_iload_n C0 dX12_tick_27 rfl 3 rfl ?_
    refine r_istore (lv2 := [(6, .int x.2.1), (5, .int a8), (2, .int a7), (4, .int r6), (3, .int x.2.1), (0, .ref (a 0)), (1, .int x.1)]) C0 dX12_tick_28 rfl (Nat.le_of_ble_eq_true rfl) rfl ?_
    exact r_sub [5, 6, 2, 4, 3, 1, 0] rfl (w_X12_tick_B30_lp C0 hD h hz)
theorem w_X12_tick_B4_lp {x : Int32 × Int32 × VT} {z : (Int32 × VT)} {Γ : Gam} {cy : Nat → ClassId} {a : Nat → Nat} {X : va_W}  (C0 : CXg Γ cX12_tick 11 7 RX12 cy) (hD : DM Γ cy a X) (h : lp (f_X12_tick_B4) fuel x = some z) (hz : (fun y : Int32 × VT => FinI Γ cX12_tick (WM cy a y.2 X) y.1) z) : Wp Γ 0 0 4 [(0, .ref (a 0)), (1, .int x.1), (2, .int x.2.1)] [] (WM cy a x.2.2 X) :=
  lp_rule (hd := (fun x : Int32 × Int32 × VT => Wp Γ 0 0 4 [(0, .ref (a 0)), (1, .int x.1), (2, .int x.2.1)] [] (WM cy a x.2.2 X))) (C := (fun y : Int32 × VT => FinI Γ cX12_tick (WM cy a y.2 X) y.1)) (fun x z h hz => w_X12_tick_B4 C0 hD h hz) _ _ _ h hz
theorem w_X12_tick {z : Int32 × VT} {Γ : Gam} {cy : Nat → ClassId} {a : Nat → Nat} {V : VT} {X : va_W}  (C0 : CXg Γ cX12_tick 11 7 RX12 cy) (hD : DM Γ cy a X) (h : f_X12_tick V = some z) (hz : (fun y : Int32 × VT => FinI Γ cX12_tick (WM cy a y.2 X) y.1) z) : Wp Γ 0 0 0 [(0, .ref (a 0))] [] (WM cy a V X) := by
  unfold f_X12_tick at h
  refine r_iconst C0 dX12_tick_0 ki_0 ?_
  obtain ⟨a1, h8, h⟩ := op_bind h
  have e8 := Option.some.inj h8
  refine r_istore_n (lv2 := [(1, .int a1), (0, .ref (a 0))]) C0 dX12_tick_1 rfl e8 (Nat.le_of_ble_eq_true rfl) rfl ?_
  refine r_iconst C0 dX12_tick_2 ki_0 ?_
  obtain ⟨a2, h8, h⟩ := op_bind h
  have e8 := Option.some.inj h8
  refine r_istore_n (lv2 := [(2, .int a2), (1, .int a1), (0, .ref (a 0))]) C0 dX12_tick_3 rfl e8 (Nat.le_of_ble_eq_true rfl) rfl ?_
  exact r_sub [2, 1, 0] rfl (w_X12_tick_B4_lp C0 hD h hz)
theorem c_X12_tick {l : Launch} {D : va_G} {cy : Nat → ClassId} {a : Nat → Nat} {V : VT} {X : va_W} {y : Int32 × VT} (h : f_X12_tick V = some y) : CT l D cy yX12_tick cX12_tick 11 (some .int) 7 [.ref (a 0)] (WM cy a V X) (WM cy a y.2 X) (some (.int y.1)) :=
  mkI (by decide) (Nat.le_of_ble_eq_true rfl) (fun Γ _ _ C0 hD hF => w_X12_tick C0 (dm_of hD) h hF)
theorem dX12_bar_0 : decode cX12_bar 0 = .ok (.aload_n 0, 1) := by decide +kernel
theorem dX12_bar_1 : decode cX12_bar 1 = .ok (.invokevirtual 165, 3) := by decide +kernel
theorem dX12_bar_4 : decode cX12_bar 4 = .ok (.aload_n 0, 1) := by decide +kernel
theorem dX12_bar_5 : decode cX12_bar 5 = .ok (.iload_n 1, 1) := by decide +kernel
theorem dX12_bar_6 : decode cX12_bar 6 = .ok (.invokestatic 115, 3) := by decide +kernel
theorem dX12_bar_9 : decode cX12_bar 9 = .ok (.ifCond .ne 7, 3) := by decide +kernel
theorem dX12_bar_12 : decode cX12_bar 12 = .ok (.iconst 1, 1) := by decide +kernel
theorem dX12_bar_13 : decode cX12_bar 13 = .ok (.goto 4, 3) := by decide +kernel
theorem dX12_bar_16 : decode cX12_bar 16 = .ok (.iconst 0, 1) := by decide +kernel
theorem dX12_bar_17 : decode cX12_bar 17 = .ok (.iconst 2, 1) := by decide +kernel
theorem dX12_bar_18 : decode cX12_bar 18 = .ok (.invokevirtual 168, 3) := by decide +kernel
theorem dX12_bar_21 : decode cX12_bar 21 = .ok (.ifCond .ne 68, 3) := by decide +kernel
theorem dX12_bar_24 : decode cX12_bar 24 = .ok (.aload_n 0, 1) := by decide +kernel
theorem dX12_bar_25 : decode cX12_bar 25 = .ok (.aload_n 0, 1) := by decide +kernel
theorem dX12_bar_26 : decode cX12_bar 26 = .ok (.iload_n 1, 1) := by decide +kernel
theorem dX12_bar_27 : decode cX12_bar 27 = .ok (.invokevirtual 66, 3) := by decide +kernel
theorem dX12_bar_30 : decode cX12_bar 30 = .ok (.bipush 8, 2) := by decide +kernel
theorem dX12_bar_32 : decode cX12_bar 32 = .ok (.invokevirtual 168, 3) := by decide +kernel
theorem dX12_bar_35 : decode cX12_bar 35 = .ok (.ifCond .ne 54, 3) := by decide +kernel
theorem dX12_bar_38 : decode cX12_bar 38 = .ok (.aload_n 0, 1) := by decide +kernel
theorem dX12_bar_39 : decode cX12_bar 39 = .ok (.iload_n 2, 1) := by decide +kernel
theorem dX12_bar_40 : decode cX12_bar 40 = .ok (.ifCond .ge 7, 3) := by decide +kernel
theorem dX12_bar_43 : decode cX12_bar 43 = .ok (.iconst 1, 1) := by decide +kernel
theorem dX12_bar_44 : decode cX12_bar 44 = .ok (.goto 4, 3) := by decide +kernel
theorem dX12_bar_47 : decode cX12_bar 47 = .ok (.iconst 0, 1) := by decide +kernel
theorem dX12_bar_48 : decode cX12_bar 48 = .ok (.iconst 3, 1) := by decide +kernel
theorem dX12_bar_49 : decode cX12_bar 49 = .ok (.invokevirtual 168, 3) := by decide +kernel
theorem dX12_bar_52 : decode cX12_bar 52 = .ok (.ifCond .ne 37, 3) := by decide +kernel
theorem dX12_bar_55 : decode cX12_bar 55 = .ok (.aload_n 0, 1) := by decide +kernel
theorem dX12_bar_56 : decode cX12_bar 56 = .ok (.iload_n 2, 1) := by decide +kernel
theorem dX12_bar_57 : decode cX12_bar 57 = .ok (.iconst 2, 1) := by decide +kernel
theorem dX12_bar_58 : decode cX12_bar 58 = .ok (.bipush 16, 2) := by decide +kernel
theorem dX12_bar_60 : decode cX12_bar 60 = .ok (.invokestatic 47, 3) := by decide +kernel
theorem dX12_bar_63 : decode cX12_bar 63 = .ok (.ifCond .eq 13, 3) := by decide +kernel
theorem dX12_bar_66 : decode cX12_bar 66 = .ok (.iload_n 3, 1) := by decide +kernel
theorem dX12_bar_67 : decode cX12_bar 67 = .ok (.iconst 1, 1) := by decide +kernel
theorem dX12_bar_68 : decode cX12_bar 68 = .ok (.bipush 30, 2) := by decide +kernel
theorem dX12_bar_70 : decode cX12_bar 70 = .ok (.invokestatic 47, 3) := by decide +kernel
theorem dX12_bar_73 : decode cX12_bar 73 = .ok (.ifCond .ne 7, 3) := by decide +kernel
theorem dX12_bar_76 : decode cX12_bar 76 = .ok (.iconst 1, 1) := by decide +kernel
theorem dX12_bar_77 : decode cX12_bar 77 = .ok (.goto 4, 3) := by decide +kernel
theorem dX12_bar_80 : decode cX12_bar 80 = .ok (.iconst 0, 1) := by decide +kernel
theorem dX12_bar_81 : decode cX12_bar 81 = .ok (.bipush 7, 2) := by decide +kernel
theorem dX12_bar_83 : decode cX12_bar 83 = .ok (.invokevirtual 168, 3) := by decide +kernel
theorem dX12_bar_86 : decode cX12_bar 86 = .ok (.ifCond .eq 8, 3) := by decide +kernel
theorem dX12_bar_89 : decode cX12_bar 89 = .ok (.aload_n 0, 1) := by decide +kernel
theorem dX12_bar_90 : decode cX12_bar 90 = .ok (.invokevirtual 172, 3) := by decide +kernel
theorem dX12_bar_93 : decode cX12_bar 93 = .ok (.ireturn, 1) := by decide +kernel
theorem dX12_bar_94 : decode cX12_bar 94 = .ok (.iload_n 1, 1) := by decide +kernel
theorem dX12_bar_95 : decode cX12_bar 95 = .ok (.invokestatic 51, 3) := by decide +kernel
theorem dX12_bar_98 : decode cX12_bar 98 = .ok (.istore 4, 2) := by decide +kernel
theorem dX12_bar_100 : decode cX12_bar 100 = .ok (.iconst 0, 1) := by decide +kernel
theorem dX12_bar_101 : decode cX12_bar 101 = .ok (.istore 5, 2) := by decide +kernel
theorem dX12_bar_103 : decode cX12_bar 103 = .ok (.iload 5, 2) := by decide +kernel
theorem dX12_bar_105 : decode cX12_bar 105 = .ok (.bipush 21, 2) := by decide +kernel
theorem dX12_bar_107 : decode cX12_bar 107 = .ok (.if_icmp .ge 20, 3) := by decide +kernel
theorem dX12_bar_110 : decode cX12_bar 110 = .ok (.aload_n 0, 1) := by decide +kernel
theorem dX12_bar_111 : decode cX12_bar 111 = .ok (.getfield 7, 3) := by decide +kernel
theorem dX12_bar_114 : decode cX12_bar 114 = .ok (.iload 4, 2) := by decide +kernel
theorem dX12_bar_116 : decode cX12_bar 116 = .ok (.iload 5, 2) := by decide +kernel
theorem dX12_bar_118 : decode cX12_bar 118 = .ok (.iadd, 1) := by decide +kernel
theorem dX12_bar_119 : decode cX12_bar 119 = .ok (.iconst 0, 1) := by decide +kernel
theorem dX12_bar_120 : decode cX12_bar 120 = .ok (.iastore, 1) := by decide +kernel
theorem dX12_bar_121 : decode cX12_bar 121 = .ok (.iinc 5 1, 3) := by decide +kernel
theorem dX12_bar_124 : decode cX12_bar 124 = .ok (.goto (-21), 3) := by decide +kernel
theorem dX12_bar_127 : decode cX12_bar 127 = .ok (.aload_n 0, 1) := by decide +kernel
theorem dX12_bar_128 : decode cX12_bar 128 = .ok (.getfield 7, 3) := by decide +kernel
theorem dX12_bar_131 : decode cX12_bar 131 = .ok (.iload 4, 2) := by decide +kernel
theorem dX12_bar_133 : decode cX12_bar 133 = .ok (.iconst 1, 1) := by decide +kernel
theorem dX12_bar_134 : decode cX12_bar 134 = .ok (.iastore, 1) := by decide +kernel
theorem dX12_bar_135 : decode cX12_bar 135 = .ok (.aload_n 0, 1) := by decide +kernel
theorem dX12_bar_136 : decode cX12_bar 136 = .ok (.getfield 7, 3) := by decide +kernel
theorem dX12_bar_139 : decode cX12_bar 139 = .ok (.iload 4, 2) := by decide +kernel
theorem dX12_bar_141 : decode cX12_bar 141 = .ok (.iconst 1, 1) := by decide +kernel
theorem dX12_bar_142 : decode cX12_bar 142 = .ok (.iadd, 1) := by decide +kernel
theorem dX12_bar_143 : decode cX12_bar 143 = .ok (.iload_n 2, 1) := by decide +kernel
theorem dX12_bar_144 : decode cX12_bar 144 = .ok (.iastore, 1) := by decide +kernel
theorem dX12_bar_145 : decode cX12_bar 145 = .ok (.aload_n 0, 1) := by decide +kernel
theorem dX12_bar_146 : decode cX12_bar 146 = .ok (.getfield 7, 3) := by decide +kernel
theorem dX12_bar_149 : decode cX12_bar 149 = .ok (.iload 4, 2) := by decide +kernel
theorem dX12_bar_151 : decode cX12_bar 151 = .ok (.iconst 2, 1) := by decide +kernel
theorem dX12_bar_152 : decode cX12_bar 152 = .ok (.iadd, 1) := by decide +kernel
theorem dX12_bar_153 : decode cX12_bar 153 = .ok (.iload_n 3, 1) := by decide +kernel
theorem dX12_bar_154 : decode cX12_bar 154 = .ok (.iastore, 1) := by decide +kernel
theorem dX12_bar_155 : decode cX12_bar 155 = .ok (.aload_n 0, 1) := by decide +kernel
theorem dX12_bar_156 : decode cX12_bar 156 = .ok (.iload_n 2, 1) := by decide +kernel
theorem dX12_bar_157 : decode cX12_bar 157 = .ok (.invokevirtual 176, 3) := by decide +kernel
theorem dX12_bar_160 : decode cX12_bar 160 = .ok (.ireturn, 1) := by decide +kernel
theorem w_X12_bar_j89 {z : (Int32 × VT)} {Γ : Gam} {cy : Nat → ClassId} {a : Nat → Nat} {V : VT} {X : va_W}  (C0 : CXg Γ cX12_bar 6 2 RX12 cy) (hD : DM Γ cy a X) (h : f_X12_bar_j89 V = some z) (hz : (fun y : Int32 × VT => FinI Γ cX12_bar (WM cy a y.2 X) y.1) z) : Wp Γ 0 0 89 [(0, .ref (a 0))] [] (WM cy a V X) := by
  unfold f_X12_bar_j89 at h
  refine r_aload_n C0 dX12_bar_89 rfl 0 rfl ?_
  refine callV0 C0 h (hD _) mw_X12_refused rv_m tm_X12_172 (fun y hy => c_X12_refused hy) (Nat.le_of_ble_eq_true rfl) (Nat.le_of_ble_eq_true rfl) dX12_bar_90 (fun r4 h => ?_)
  cases h
  exact hz _ _ dX12_bar_93
theorem w_X12_bar_B103 {x : Int32 × VT} {z : ((Int32 × VT) ⊕ (Int32 × VT))} {Γ : Gam} {cy : Nat → ClassId} {a : Nat → Nat} {X : va_W} {v2 : Int32} {v3 : Int32} {v4 : Int32}  (C0 : CXg Γ cX12_bar 6 2 RX12 cy) (hD : DM Γ cy a X) (h : f_X12_bar_B103 v2 v3 v4 x = some z) (hz : (Sum.elim (fun x : Int32 × VT => Wp Γ 0 0 103 [(0, .ref (a 0)), (2, .int v2), (3, .int v3), (4, .int v4), (5, .int x.1)] [] (WM cy a x.2 X)) (fun y : Int32 × VT => FinI Γ cX12_bar (WM cy a y.2 X) y.1)) z) : Wp Γ 0 0 103 [(0, .ref (a 0)), (2, .int v2), (3, .int v3), (4, .int v4), (5, .int x.1)] [] (WM cy a x.2 X) := by
  unfold f_X12_bar_B103 at h
  refine r_iload C0 dX12_bar_103 4 rfl ?_
  refine r_bipush C0 dX12_bar_105 kb_21 ?_
  refine r_icmp_ge C0 127 dX12_bar_107 rfl h (fun _ h => ?_) (fun _ h => ?_)
  · obtain ⟨y12, h5, h9⟩ := op_bind h
    clear h
    cases h9
    have hz := (el_inr hz)
    have h := h5
    refine r_aload_n C0 dX12_bar_127 rfl 0 rfl ?_
    refine wmg_0_0 C0 tf_X12_7 dX12_bar_128 ?_
    refine r_iload C0 dX12_bar_131 3 rfl ?_
    refine r_iconst C0 dX12_bar_133 ki_1 ?_
    refine wmas_1 C0 hD h dX12_bar_134 (fun k13 h => ?_)
    refine r_aload_n C0 dX12_bar_135 rfl 0 rfl ?_
    refine wmg_0_0 C0 tf_X12_7 dX12_bar_136 ?_
    refine r_iload C0 dX12_bar_139 3 rfl ?_
    refine r_iconst C0 dX12_bar_141 ki_1 ?_
    refine r_iadd C0 dX12_bar_142 ?_
    refine r_iload_n C0 dX12_bar_143 rfl 1 rfl ?_
    refine wmas_1 C0 hD h dX12_bar_144 (fun k14 h => ?_)
    refine r_aload_n C0 dX12_bar_145 rfl 0 rfl ?_
    refine wmg_0_0 C0 tf_X12_7 dX12_bar_146 ?_
    refine r_iload C0 dX12_bar_149 3 rfl ?_
    refine r_iconst C0 dX12_bar_151 ki_2 ?_
    refine r_iadd C0 dX12_bar_152 ?_
    refine r_iload_n C0 dX12_bar_153 rfl 2 rfl ?_
    refine wmas_1 C0 hD h dX12_bar_154 (fun k15 h => ?_)
    refine r_aload_n C0 dX12_bar_155 rfl 0 rfl ?_
    refine r_iload_n C0 dX12_bar_156 rfl 1 rfl ?_
    refine callV1 C0 h (hD _) mw_X12_keep rv_m tm_X12_176 (fun y hy => c_X12_keep hy) (Nat.le_of_ble_eq_true rfl) (Nat.le_of_ble_eq_true rfl) dX12_bar_157 (fun r16 h => ?_)
    cases h
    exact hz _ _ dX12_bar_160
  · refine r_aload_n C0 dX12_bar_110 rfl 0 rfl ?_
    refine wmg_0_0 C0 tf_X12_7 dX12_bar_111 ?_
    refine r_iload C0 dX12_bar_114 3 rfl ?_
    refine r_iload C0 dX12_bar_116 4 rfl ?_
    refine r_iadd C0 dX12_bar_118 ?_
    refine r_iconst C0 dX12_bar_119 ki_0 ?_
    refine wmas_1 C0 hD h dX12_bar_120 (fun k17 h => ?_)
    obtain ⟨a18, h8, h⟩ := op_bind h
    have e8 := Option.some.inj h8
    refine r_iinc (lv2 := [(5, .int a18), (0, .ref (a 0)), (2, .int v2), (3, .int v3), (4, .int v4)]) C0 dX12_bar_121 4 rfl ki_1 e8 (Nat.le_of_ble_eq_true rfl) rfl ?_
    refine r_goto C0 103 dX12_bar_124 rfl ?_
    cases h
    have hz := el_inl hz
    exact r_sub [1, 2, 3, 4, 0] rfl hz
theorem w_X12_bar_B103_lp {x : Int32 × VT} {z : (Int32 × VT)} {Γ : Gam} {cy : Nat → ClassId} {a : Nat → Nat} {X : va_W} {v2 : Int32} {v3 : Int32} {v4 : Int32}  (C0 : CXg Γ cX12_bar 6 2 RX12 cy) (hD : DM Γ cy a X) (h : lp (f_X12_bar_B103 v2 v3 v4) fuel x = some z) (hz : (fun y : Int32 × VT => FinI Γ cX12_bar (WM cy a y.2 X) y.1) z) : Wp Γ 0 0 103 [(0, .ref (a 0)), (2, .int v2), (3, .int v3), (4, .int v4), (5, .int x.1)] [] (WM cy a x.2 X) :=
  lp_rule (hd := (fun x : Int32 × VT => Wp Γ 0 0 103 [(0, .ref (a 0)), (2, .int v2), (3, .int v3), (4, .int v4), (5, .int x.1)] [] (WM cy a x.2 X))) (C := (fun y : Int32 × VT => FinI Γ cX12_bar (WM cy a y.2 X) y.1)) (fun x z h hz => w_X12_bar_B103 C0 hD h hz) _ _ _ h hz
theorem w_X12_bar_j81 {z : (Int32 × VT)} {Γ : Gam} {cy : Nat → ClassId} {a : Nat → Nat} {V : VT} {X : va_W} {v1 : Int32} {v2 : Int32} {v3 : Int32} {s1 : Int32}  (C0 : CXg Γ cX12_bar 6 2 RX12 cy) (hD : DM Γ cy a X) (h : f_X12_bar_j81 v1 v2 v3 s1 V = some z) (hz : (fun y : Int32 × VT => FinI Γ cX12_bar (WM cy a y.2 X) y.1) z) : Wp Γ 0 0 81 [(0, .ref (a 0)), (1, .int v1), (2, .int v2), (3, .int v3)] [.int s1, .ref (a 0)] (WM cy a V X) := by
  unfold f_X12_bar_j81 at h
  refine r_bipush C0 dX12_bar_81 kb_7 ?_
  refine callV2 C0 h (hD _) mw_X12_is rv_m tm_X12_168 (fun y hy => c_X12_is hy) (Nat.le_of_ble_eq_true rfl) (Nat.le_of_ble_eq_true rfl) dX12_bar_83 (fun r9 h => ?_)
  refine r_if_eq C0 94 dX12_bar_86 rfl h (fun _ h => ?_) (fun _ h => ?_)
  · refine r_iload_n C0 dX12_bar_94 rfl 1 rfl ?_
    refine callS1 C0 h (hD _) ms_X12_bar0 tm_X12_51 (fun y hy => c_X12_bar0 hy) (Nat.le_of_ble_eq_true rfl) (Nat.le_of_ble_eq_true rfl) dX12_bar_95 (fun r10 h => ?_)
    refine r_istore (lv2 := [(4, .int r10), (0, .ref (a 0)), (1, .int v1), (2, .int v2), (3, .int v3)]) C0 dX12_bar_98 rfl (Nat.le_of_ble_eq_true rfl) rfl ?_
    refine r_iconst C0 dX12_bar_100 ki_0 ?_
    obtain ⟨a11, h8, h⟩ := op_bind h
    have e8 := Option.some.inj h8
    refine r_istore (lv2 := [(5, .int a11), (4, .int r10), (0, .ref (a 0)), (1, .int v1), (2, .int v2), (3, .int v3)]) C0 dX12_bar_101 e8 (Nat.le_of_ble_eq_true rfl) rfl ?_
    exact r_sub [2, 4, 5, 1, 0] rfl (w_X12_bar_B103_lp C0 hD h hz)
  · exact r_sub [0] rfl (w_X12_bar_j89 C0 hD h hz)
theorem w_X12_bar_j76 {z : (Int32 × VT)} {Γ : Gam} {cy : Nat → ClassId} {a : Nat → Nat} {V : VT} {X : va_W} {v1 : Int32} {v2 : Int32} {v3 : Int32}  (C0 : CXg Γ cX12_bar 6 2 RX12 cy) (hD : DM Γ cy a X) (h : f_X12_bar_j76 v1 v2 v3 V = some z) (hz : (fun y : Int32 × VT => FinI Γ cX12_bar (WM cy a y.2 X) y.1) z) : Wp Γ 0 0 76 [(0, .ref (a 0)), (1, .int v1), (2, .int v2), (3, .int v3)] [.ref (a 0)] (WM cy a V X) := by
  unfold f_X12_bar_j76 at h
  refine r_iconst C0 dX12_bar_76 ki_1 ?_
  refine r_goto C0 81 dX12_bar_77 rfl ?_
  exact r_sub [0, 1, 2, 3] rfl (w_X12_bar_j81 C0 hD h hz)
theorem w_X12_bar_j48 {z : (Int32 × VT)} {Γ : Gam} {cy : Nat → ClassId} {a : Nat → Nat} {V : VT} {X : va_W} {v1 : Int32} {v2 : Int32} {v3 : Int32} {s1 : Int32}  (C0 : CXg Γ cX12_bar 6 2 RX12 cy) (hD : DM Γ cy a X) (h : f_X12_bar_j48 v1 v2 v3 s1 V = some z) (hz : (fun y : Int32 × VT => FinI Γ cX12_bar (WM cy a y.2 X) y.1) z) : Wp Γ 0 0 48 [(0, .ref (a 0)), (1, .int v1), (2, .int v2), (3, .int v3)] [.int s1, .ref (a 0)] (WM cy a V X) := by
  unfold f_X12_bar_j48 at h
  refine r_iconst C0 dX12_bar_48 ki_3 ?_
  refine callV2 C0 h (hD _) mw_X12_is rv_m tm_X12_168 (fun y hy => c_X12_is hy) (Nat.le_of_ble_eq_true rfl) (Nat.le_of_ble_eq_true rfl) dX12_bar_49 (fun r7 h => ?_)
  refine r_if_ne C0 89 dX12_bar_52 rfl h (fun _ h => ?_) (fun _ h => ?_)
  · exact r_sub [0] rfl (w_X12_bar_j89 C0 hD h hz)
  · refine r_aload_n C0 dX12_bar_55 rfl 0 rfl ?_
    refine r_iload_n C0 dX12_bar_56 rfl 2 rfl ?_
    refine r_iconst C0 dX12_bar_57 ki_2 ?_
    refine r_bipush C0 dX12_bar_58 kb_16 ?_
    refine callS3 C0 h (hD _) ms_X12_in tm_X12_47 (fun y hy => c_X12_in hy) (Nat.le_of_ble_eq_true rfl) (Nat.le_of_ble_eq_true rfl) dX12_bar_60 (fun r8 h => ?_)
    refine r_if_eq C0 76 dX12_bar_63 rfl h (fun _ h => ?_) (fun _ h => ?_)
    · exact r_sub [0, 1, 2, 3] rfl (w_X12_bar_j76 C0 hD h hz)
    · refine r_iload_n C0 dX12_bar_66 rfl 3 rfl ?_
      refine r_iconst C0 dX12_bar_67 ki_1 ?_
      refine r_bipush C0 dX12_bar_68 kb_30 ?_
      refine callS3 C0 h (hD _) ms_X12_in tm_X12_47 (fun y hy => c_X12_in hy) (Nat.le_of_ble_eq_true rfl) (Nat.le_of_ble_eq_true rfl) dX12_bar_70 (fun r19 h => ?_)
      refine r_if_ne C0 80 dX12_bar_73 rfl h (fun _ h => ?_) (fun _ h => ?_)
      · refine r_iconst C0 dX12_bar_80 ki_0 ?_
        exact r_sub [0, 1, 2, 3] rfl (w_X12_bar_j81 C0 hD h hz)
      · exact r_sub [0, 1, 2, 3] rfl (w_X12_bar_j76 C0 hD h hz)
theorem w_X12_bar_j17 {z : (Int32 × VT)} {Γ : Gam} {cy : Nat → ClassId} {a : Nat → Nat} {V : VT} {X : va_W} {v1 : Int32} {v2 : Int32} {v3 : Int32} {s1 : Int32}  (C0 : CXg Γ cX12_bar 6 2 RX12 cy) (hD : DM Γ cy a X) (h : f_X12_bar_j17 v1 v2 v3 s1 V = some z) (hz : (fun y : Int32 × VT => FinI Γ cX12_bar (WM cy a y.2 X) y.1) z) : Wp Γ 0 0 17 [(0, .ref (a 0)), (1, .int v1), (2, .int v2), (3, .int v3)] [.int s1, .ref (a 0)] (WM cy a V X) := by
  unfold f_X12_bar_j17 at h
  refine r_iconst C0 dX12_bar_17 ki_2 ?_
  refine callV2 C0 h (hD _) mw_X12_is rv_m tm_X12_168 (fun y hy => c_X12_is hy) (Nat.le_of_ble_eq_true rfl) (Nat.le_of_ble_eq_true rfl) dX12_bar_18 (fun r3 h => ?_)
  refine r_if_ne C0 89 dX12_bar_21 rfl h (fun _ h => ?_) (fun _ h => ?_)
  · exact r_sub [0] rfl (w_X12_bar_j89 C0 hD h hz)
  · refine r_aload_n C0 dX12_bar_24 rfl 0 rfl ?_
    refine r_aload_n C0 dX12_bar_25 rfl 0 rfl ?_
    refine r_iload_n C0 dX12_bar_26 rfl 1 rfl ?_
    refine callV1 C0 h (hD _) mw_X12_isRigged rv_m tm_X12_66 (fun y hy => c_X12_isRigged hy) (Nat.le_of_ble_eq_true rfl) (Nat.le_of_ble_eq_true rfl) dX12_bar_27 (fun r5 h => ?_)
    refine r_bipush C0 dX12_bar_30 kb_8 ?_
    refine callV2 C0 h (hD _) mw_X12_is rv_m tm_X12_168 (fun y hy => c_X12_is hy) (Nat.le_of_ble_eq_true rfl) (Nat.le_of_ble_eq_true rfl) dX12_bar_32 (fun r6 h => ?_)
    refine r_if_ne C0 89 dX12_bar_35 rfl h (fun _ h => ?_) (fun _ h => ?_)
    · exact r_sub [0] rfl (w_X12_bar_j89 C0 hD h hz)
    · refine r_aload_n C0 dX12_bar_38 rfl 0 rfl ?_
      refine r_iload_n C0 dX12_bar_39 rfl 2 rfl ?_
      refine r_if_ge C0 47 dX12_bar_40 rfl h (fun _ h => ?_) (fun _ h => ?_)
      · refine r_iconst C0 dX12_bar_47 ki_0 ?_
        exact r_sub [0, 1, 2, 3] rfl (w_X12_bar_j48 C0 hD h hz)
      · refine r_iconst C0 dX12_bar_43 ki_1 ?_
        refine r_goto C0 48 dX12_bar_44 rfl ?_
        exact r_sub [0, 1, 2, 3] rfl (w_X12_bar_j48 C0 hD h hz)
theorem w_X12_bar {z : Int32 × VT} {Γ : Gam} {cy : Nat → ClassId} {a : Nat → Nat} {V : VT} {X : va_W} {v1 : Int32} {v2 : Int32} {v3 : Int32}  (C0 : CXg Γ cX12_bar 6 2 RX12 cy) (hD : DM Γ cy a X) (h : f_X12_bar v1 v2 v3 V = some z) (hz : (fun y : Int32 × VT => FinI Γ cX12_bar (WM cy a y.2 X) y.1) z) : Wp Γ 0 0 0 [(0, .ref (a 0)), (1, .int v1), (2, .int v2), (3, .int v3)] [] (WM cy a V X) := by
  unfold f_X12_bar at h
  refine r_aload_n C0 dX12_bar_0 rfl 0 rfl ?_
  refine callVv0 C0 h (hD _) mw_X12_begin rv_m tm_X12_165 (fun y hy => c_X12_begin hy) (Nat.le_of_ble_eq_true rfl) (Nat.le_of_ble_eq_true rfl) dX12_bar_1 (fun r1 h => ?_)
  refine r_aload_n C0 dX12_bar_4 rfl 0 rfl ?_
  refine r_iload_n C0 dX12_bar_5 rfl 1 rfl ?_
  refine callS1 C0 h (hD _) ms_X12_isBar tm_X12_115 (fun y hy => c_X12_isBar hy) (Nat.le_of_ble_eq_true rfl) (Nat.le_of_ble_eq_true rfl) dX12_bar_6 (fun r2 h => ?_)
  refine r_if_ne C0 16 dX12_bar_9 rfl h (fun _ h => ?_) (fun _ h => ?_)
  · refine r_iconst C0 dX12_bar_16 ki_0 ?_
    exact r_sub [0, 1, 2, 3] rfl (w_X12_bar_j17 C0 hD h hz)
  · refine r_iconst C0 dX12_bar_12 ki_1 ?_
    refine r_goto C0 17 dX12_bar_13 rfl ?_
    exact r_sub [0, 1, 2, 3] rfl (w_X12_bar_j17 C0 hD h hz)
theorem c_X12_bar {l : Launch} {D : va_G} {cy : Nat → ClassId} {a : Nat → Nat} {V : VT} {X : va_W} {v1 : Int32} {v2 : Int32} {v3 : Int32} {y : Int32 × VT} (h : f_X12_bar v1 v2 v3 V = some y) : CT l D cy yX12_bar cX12_bar 6 (some .int) 2 [.ref (a 0), .int v1, .int v2, .int v3] (WM cy a V X) (WM cy a y.2 X) (some (.int y.1)) :=
  mkI (by decide) (Nat.le_of_ble_eq_true rfl) (fun Γ _ _ C0 hD hF => w_X12_bar C0 (dm_of hD) h hF)
theorem dX12_strip_0 : decode cX12_strip 0 = .ok (.aload_n 0, 1) := by decide +kernel
theorem dX12_strip_1 : decode cX12_strip 1 = .ok (.invokevirtual 165, 3) := by decide +kernel
theorem dX12_strip_4 : decode cX12_strip 4 = .ok (.aload_n 0, 1) := by decide +kernel
theorem dX12_strip_5 : decode cX12_strip 5 = .ok (.iload_n 1, 1) := by decide +kernel
theorem dX12_strip_6 : decode cX12_strip 6 = .ok (.invokestatic 115, 3) := by decide +kernel
theorem dX12_strip_9 : decode cX12_strip 9 = .ok (.ifCond .ne 7, 3) := by decide +kernel
theorem dX12_strip_12 : decode cX12_strip 12 = .ok (.iconst 1, 1) := by decide +kernel
theorem dX12_strip_13 : decode cX12_strip 13 = .ok (.goto 4, 3) := by decide +kernel
theorem dX12_strip_16 : decode cX12_strip 16 = .ok (.iconst 0, 1) := by decide +kernel
theorem dX12_strip_17 : decode cX12_strip 17 = .ok (.iconst 2, 1) := by decide +kernel
theorem dX12_strip_18 : decode cX12_strip 18 = .ok (.invokevirtual 168, 3) := by decide +kernel
theorem dX12_strip_21 : decode cX12_strip 21 = .ok (.ifCond .ne 46, 3) := by decide +kernel
theorem dX12_strip_24 : decode cX12_strip 24 = .ok (.aload_n 0, 1) := by decide +kernel
theorem dX12_strip_25 : decode cX12_strip 25 = .ok (.aload_n 0, 1) := by decide +kernel
theorem dX12_strip_26 : decode cX12_strip 26 = .ok (.iload_n 1, 1) := by decide +kernel
theorem dX12_strip_27 : decode cX12_strip 27 = .ok (.invokevirtual 66, 3) := by decide +kernel
theorem dX12_strip_30 : decode cX12_strip 30 = .ok (.ifCond .ne 7, 3) := by decide +kernel
theorem dX12_strip_33 : decode cX12_strip 33 = .ok (.iconst 1, 1) := by decide +kernel
theorem dX12_strip_34 : decode cX12_strip 34 = .ok (.goto 4, 3) := by decide +kernel
theorem dX12_strip_37 : decode cX12_strip 37 = .ok (.iconst 0, 1) := by decide +kernel
theorem dX12_strip_38 : decode cX12_strip 38 = .ok (.iconst 1, 1) := by decide +kernel
theorem dX12_strip_39 : decode cX12_strip 39 = .ok (.invokevirtual 168, 3) := by decide +kernel
theorem dX12_strip_42 : decode cX12_strip 42 = .ok (.ifCond .ne 25, 3) := by decide +kernel
theorem dX12_strip_45 : decode cX12_strip 45 = .ok (.aload_n 0, 1) := by decide +kernel
theorem dX12_strip_46 : decode cX12_strip 46 = .ok (.aload_n 0, 1) := by decide +kernel
theorem dX12_strip_47 : decode cX12_strip 47 = .ok (.iload_n 1, 1) := by decide +kernel
theorem dX12_strip_48 : decode cX12_strip 48 = .ok (.invokevirtual 124, 3) := by decide +kernel
theorem dX12_strip_51 : decode cX12_strip 51 = .ok (.ifCond .eq 7, 3) := by decide +kernel
theorem dX12_strip_54 : decode cX12_strip 54 = .ok (.iconst 1, 1) := by decide +kernel
theorem dX12_strip_55 : decode cX12_strip 55 = .ok (.goto 4, 3) := by decide +kernel
theorem dX12_strip_58 : decode cX12_strip 58 = .ok (.iconst 0, 1) := by decide +kernel
theorem dX12_strip_59 : decode cX12_strip 59 = .ok (.bipush 10, 2) := by decide +kernel
theorem dX12_strip_61 : decode cX12_strip 61 = .ok (.invokevirtual 168, 3) := by decide +kernel
theorem dX12_strip_64 : decode cX12_strip 64 = .ok (.ifCond .eq 8, 3) := by decide +kernel
theorem dX12_strip_67 : decode cX12_strip 67 = .ok (.aload_n 0, 1) := by decide +kernel
theorem dX12_strip_68 : decode cX12_strip 68 = .ok (.invokevirtual 172, 3) := by decide +kernel
theorem dX12_strip_71 : decode cX12_strip 71 = .ok (.ireturn, 1) := by decide +kernel
theorem dX12_strip_72 : decode cX12_strip 72 = .ok (.iconst 0, 1) := by decide +kernel
theorem dX12_strip_73 : decode cX12_strip 73 = .ok (.istore_n 2, 1) := by decide +kernel
theorem dX12_strip_74 : decode cX12_strip 74 = .ok (.iconst 0, 1) := by decide +kernel
theorem dX12_strip_75 : decode cX12_strip 75 = .ok (.istore_n 3, 1) := by decide +kernel
theorem dX12_strip_76 : decode cX12_strip 76 = .ok (.iload_n 3, 1) := by decide +kernel
theorem dX12_strip_77 : decode cX12_strip 77 = .ok (.aload_n 0, 1) := by decide +kernel
theorem dX12_strip_78 : decode cX12_strip 78 = .ok (.getfield 7, 3) := by decide +kernel
theorem dX12_strip_81 : decode cX12_strip 81 = .ok (.sipush 1642, 3) := by decide +kernel
theorem dX12_strip_84 : decode cX12_strip 84 = .ok (.iaload, 1) := by decide +kernel
theorem dX12_strip_85 : decode cX12_strip 85 = .ok (.if_icmp .ge 37, 3) := by decide +kernel
theorem dX12_strip_88 : decode cX12_strip 88 = .ok (.iload_n 2, 1) := by decide +kernel
theorem dX12_strip_89 : decode cX12_strip 89 = .ok (.ifCond .ne 21, 3) := by decide +kernel
theorem dX12_strip_92 : decode cX12_strip 92 = .ok (.aload_n 0, 1) := by decide +kernel
theorem dX12_strip_93 : decode cX12_strip 93 = .ok (.iload_n 3, 1) := by decide +kernel
theorem dX12_strip_94 : decode cX12_strip 94 = .ok (.iconst 0, 1) := by decide +kernel
theorem dX12_strip_95 : decode cX12_strip 95 = .ok (.invokevirtual 140, 3) := by decide +kernel
theorem dX12_strip_98 : decode cX12_strip 98 = .ok (.iload_n 1, 1) := by decide +kernel
theorem dX12_strip_99 : decode cX12_strip 99 = .ok (.if_icmp .ne 15, 3) := by decide +kernel
theorem dX12_strip_102 : decode cX12_strip 102 = .ok (.aload_n 0, 1) := by decide +kernel
theorem dX12_strip_103 : decode cX12_strip 103 = .ok (.iload_n 3, 1) := by decide +kernel
theorem dX12_strip_104 : decode cX12_strip 104 = .ok (.invokevirtual 179, 3) := by decide +kernel
theorem dX12_strip_107 : decode cX12_strip 107 = .ok (.ifCond .eq 7, 3) := by decide +kernel
theorem dX12_strip_110 : decode cX12_strip 110 = .ok (.iconst 1, 1) := by decide +kernel
theorem dX12_strip_111 : decode cX12_strip 111 = .ok (.goto 4, 3) := by decide +kernel
theorem dX12_strip_114 : decode cX12_strip 114 = .ok (.iconst 0, 1) := by decide +kernel
theorem dX12_strip_115 : decode cX12_strip 115 = .ok (.istore_n 2, 1) := by decide +kernel
theorem dX12_strip_116 : decode cX12_strip 116 = .ok (.iinc 3 1, 3) := by decide +kernel
theorem dX12_strip_119 : decode cX12_strip 119 = .ok (.goto (-43), 3) := by decide +kernel
theorem dX12_strip_122 : decode cX12_strip 122 = .ok (.aload_n 0, 1) := by decide +kernel
theorem dX12_strip_123 : decode cX12_strip 123 = .ok (.iload_n 2, 1) := by decide +kernel
theorem dX12_strip_124 : decode cX12_strip 124 = .ok (.bipush 18, 2) := by decide +kernel
theorem dX12_strip_126 : decode cX12_strip 126 = .ok (.invokevirtual 168, 3) := by decide +kernel
theorem dX12_strip_129 : decode cX12_strip 129 = .ok (.ifCond .eq 8, 3) := by decide +kernel
theorem dX12_strip_132 : decode cX12_strip 132 = .ok (.aload_n 0, 1) := by decide +kernel
theorem dX12_strip_133 : decode cX12_strip 133 = .ok (.invokevirtual 172, 3) := by decide +kernel
theorem dX12_strip_136 : decode cX12_strip 136 = .ok (.ireturn, 1) := by decide +kernel
theorem dX12_strip_137 : decode cX12_strip 137 = .ok (.iconst (-1), 1) := by decide +kernel
theorem dX12_strip_138 : decode cX12_strip 138 = .ok (.istore_n 3, 1) := by decide +kernel
theorem dX12_strip_139 : decode cX12_strip 139 = .ok (.aload_n 0, 1) := by decide +kernel
theorem dX12_strip_140 : decode cX12_strip 140 = .ok (.iload_n 1, 1) := by decide +kernel
theorem dX12_strip_141 : decode cX12_strip 141 = .ok (.invokevirtual 55, 3) := by decide +kernel
theorem dX12_strip_144 : decode cX12_strip 144 = .ok (.iconst 1, 1) := by decide +kernel
theorem dX12_strip_145 : decode cX12_strip 145 = .ok (.isub, 1) := by decide +kernel
theorem dX12_strip_146 : decode cX12_strip 146 = .ok (.istore 4, 2) := by decide +kernel
theorem dX12_strip_148 : decode cX12_strip 148 = .ok (.iload 4, 2) := by decide +kernel
theorem dX12_strip_150 : decode cX12_strip 150 = .ok (.ifCond .lt 22, 3) := by decide +kernel
theorem dX12_strip_153 : decode cX12_strip 153 = .ok (.aload_n 0, 1) := by decide +kernel
theorem dX12_strip_154 : decode cX12_strip 154 = .ok (.iload_n 1, 1) := by decide +kernel
theorem dX12_strip_155 : decode cX12_strip 155 = .ok (.iload 4, 2) := by decide +kernel
theorem dX12_strip_157 : decode cX12_strip 157 = .ok (.invokevirtual 72, 3) := by decide +kernel
theorem dX12_strip_160 : decode cX12_strip 160 = .ok (.ifCond .eq 6, 3) := by decide +kernel
theorem dX12_strip_163 : decode cX12_strip 163 = .ok (.iload 4, 2) := by decide +kernel
theorem dX12_strip_165 : decode cX12_strip 165 = .ok (.istore_n 3, 1) := by decide +kernel
theorem dX12_strip_166 : decode cX12_strip 166 = .ok (.iinc 4 (-1), 3) := by decide +kernel
theorem dX12_strip_169 : decode cX12_strip 169 = .ok (.goto (-21), 3) := by decide +kernel
theorem dX12_strip_172 : decode cX12_strip 172 = .ok (.aload_n 0, 1) := by decide +kernel
theorem dX12_strip_173 : decode cX12_strip 173 = .ok (.iload_n 3, 1) := by decide +kernel
theorem dX12_strip_174 : decode cX12_strip 174 = .ok (.ifCond .lt 7, 3) := by decide +kernel
theorem dX12_strip_177 : decode cX12_strip 177 = .ok (.iconst 1, 1) := by decide +kernel
theorem dX12_strip_178 : decode cX12_strip 178 = .ok (.goto 4, 3) := by decide +kernel
theorem dX12_strip_181 : decode cX12_strip 181 = .ok (.iconst 0, 1) := by decide +kernel
theorem dX12_strip_182 : decode cX12_strip 182 = .ok (.bipush 16, 2) := by decide +kernel
theorem dX12_strip_184 : decode cX12_strip 184 = .ok (.invokevirtual 168, 3) := by decide +kernel
theorem dX12_strip_187 : decode cX12_strip 187 = .ok (.ifCond .eq 13, 3) := by decide +kernel
theorem dX12_strip_190 : decode cX12_strip 190 = .ok (.aload_n 0, 1) := by decide +kernel
theorem dX12_strip_191 : decode cX12_strip 191 = .ok (.iload_n 3, 1) := by decide +kernel
theorem dX12_strip_192 : decode cX12_strip 192 = .ok (.putfield 36, 3) := by decide +kernel
theorem dX12_strip_195 : decode cX12_strip 195 = .ok (.aload_n 0, 1) := by decide +kernel
theorem dX12_strip_196 : decode cX12_strip 196 = .ok (.invokevirtual 172, 3) := by decide +kernel
theorem dX12_strip_199 : decode cX12_strip 199 = .ok (.ireturn, 1) := by decide +kernel
theorem dX12_strip_200 : decode cX12_strip 200 = .ok (.aload_n 0, 1) := by decide +kernel
theorem dX12_strip_201 : decode cX12_strip 201 = .ok (.iload_n 1, 1) := by decide +kernel
theorem dX12_strip_202 : decode cX12_strip 202 = .ok (.invokevirtual 105, 3) := by decide +kernel
theorem dX12_strip_205 : decode cX12_strip 205 = .ok (.istore 4, 2) := by decide +kernel
theorem dX12_strip_207 : decode cX12_strip 207 = .ok (.iconst 0, 1) := by decide +kernel
theorem dX12_strip_208 : decode cX12_strip 208 = .ok (.istore 5, 2) := by decide +kernel
theorem dX12_strip_210 : decode cX12_strip 210 = .ok (.iload 5, 2) := by decide +kernel
theorem dX12_strip_212 : decode cX12_strip 212 = .ok (.aload_n 0, 1) := by decide +kernel
theorem dX12_strip_213 : decode cX12_strip 213 = .ok (.getfield 7, 3) := by decide +kernel
theorem dX12_strip_216 : decode cX12_strip 216 = .ok (.sipush 1640, 3) := by decide +kernel
theorem dX12_strip_219 : decode cX12_strip 219 = .ok (.iaload, 1) := by decide +kernel
theorem dX12_strip_220 : decode cX12_strip 220 = .ok (.if_icmp .ge 36, 3) := by decide +kernel
theorem dX12_strip_223 : decode cX12_strip 223 = .ok (.aload_n 0, 1) := by decide +kernel
theorem dX12_strip_224 : decode cX12_strip 224 = .ok (.iload 5, 2) := by decide +kernel
theorem dX12_strip_226 : decode cX12_strip 226 = .ok (.iload_n 1, 1) := by decide +kernel
theorem dX12_strip_227 : decode cX12_strip 227 = .ok (.invokevirtual 89, 3) := by decide +kernel
theorem dX12_strip_230 : decode cX12_strip 230 = .ok (.ifCond .eq 20, 3) := by decide +kernel
theorem dX12_strip_233 : decode cX12_strip 233 = .ok (.aload_n 0, 1) := by decide +kernel
theorem dX12_strip_234 : decode cX12_strip 234 = .ok (.getfield 7, 3) := by decide +kernel
theorem dX12_strip_237 : decode cX12_strip 237 = .ok (.sipush 252, 3) := by decide +kernel
theorem dX12_strip_240 : decode cX12_strip 240 = .ok (.bipush 12, 2) := by decide +kernel
theorem dX12_strip_242 : decode cX12_strip 242 = .ok (.iload 5, 2) := by decide +kernel
theorem dX12_strip_244 : decode cX12_strip 244 = .ok (.imul, 1) := by decide +kernel
theorem dX12_strip_245 : decode cX12_strip 245 = .ok (.iadd, 1) := by decide +kernel
theorem dX12_strip_246 : decode cX12_strip 246 = .ok (.iconst 3, 1) := by decide +kernel
theorem dX12_strip_247 : decode cX12_strip 247 = .ok (.iadd, 1) := by decide +kernel
theorem dX12_strip_248 : decode cX12_strip 248 = .ok (.iconst 0, 1) := by decide +kernel
theorem dX12_strip_249 : decode cX12_strip 249 = .ok (.iastore, 1) := by decide +kernel
theorem dX12_strip_250 : decode cX12_strip 250 = .ok (.iinc 5 1, 3) := by decide +kernel
theorem dX12_strip_253 : decode cX12_strip 253 = .ok (.goto (-43), 3) := by decide +kernel
theorem dX12_strip_256 : decode cX12_strip 256 = .ok (.iconst 0, 1) := by decide +kernel
theorem dX12_strip_257 : decode cX12_strip 257 = .ok (.istore 5, 2) := by decide +kernel
theorem dX12_strip_259 : decode cX12_strip 259 = .ok (.iload 5, 2) := by decide +kernel
theorem dX12_strip_261 : decode cX12_strip 261 = .ok (.bipush 21, 2) := by decide +kernel
theorem dX12_strip_263 : decode cX12_strip 263 = .ok (.if_icmp .ge 22, 3) := by decide +kernel
theorem dX12_strip_266 : decode cX12_strip 266 = .ok (.aload_n 0, 1) := by decide +kernel
theorem dX12_strip_267 : decode cX12_strip 267 = .ok (.getfield 7, 3) := by decide +kernel
theorem dX12_strip_270 : decode cX12_strip 270 = .ok (.iload_n 1, 1) := by decide +kernel
theorem dX12_strip_271 : decode cX12_strip 271 = .ok (.invokestatic 51, 3) := by decide +kernel
theorem dX12_strip_274 : decode cX12_strip 274 = .ok (.iload 5, 2) := by decide +kernel
theorem dX12_strip_276 : decode cX12_strip 276 = .ok (.iadd, 1) := by decide +kernel
theorem dX12_strip_277 : decode cX12_strip 277 = .ok (.iconst 0, 1) := by decide +kernel
theorem dX12_strip_278 : decode cX12_strip 278 = .ok (.iastore, 1) := by decide +kernel
theorem dX12_strip_279 : decode cX12_strip 279 = .ok (.iinc 5 1, 3) := by decide +kernel
theorem dX12_strip_282 : decode cX12_strip 282 = .ok (.goto (-23), 3) := by decide +kernel
theorem dX12_strip_285 : decode cX12_strip 285 = .ok (.aload_n 0, 1) := by decide +kernel
theorem dX12_strip_286 : decode cX12_strip 286 = .ok (.iload 4, 2) := by decide +kernel
theorem dX12_strip_288 : decode cX12_strip 288 = .ok (.invokevirtual 176, 3) := by decide +kernel
theorem dX12_strip_291 : decode cX12_strip 291 = .ok (.ireturn, 1) := by decide +kernel
theorem w_X12_strip_j67 {z : (Int32 × VT)} {Γ : Gam} {cy : Nat → ClassId} {a : Nat → Nat} {V : VT} {X : va_W}  (C0 : CXg Γ cX12_strip 6 4 RX12 cy) (hD : DM Γ cy a X) (h : f_X12_strip_j67 V = some z) (hz : (fun y : Int32 × VT => FinI Γ cX12_strip (WM cy a y.2 X) y.1) z) : Wp Γ 0 0 67 [(0, .ref (a 0))] [] (WM cy a V X) := by
  unfold f_X12_strip_j67 at h
  refine r_aload_n C0 dX12_strip_67 rfl 0 rfl ?_
  refine callV0 C0 h (hD _) mw_X12_refused rv_m tm_X12_172 (fun y hy => c_X12_refused hy) (Nat.le_of_ble_eq_true rfl) (Nat.le_of_ble_eq_true rfl) dX12_strip_68 (fun r4 h => ?_)
  cases h
  exact hz _ _ dX12_strip_71
theorem w_X12_strip_B259 {x : Int32 × VT} {z : ((Int32 × VT) ⊕ (Int32 × VT))} {Γ : Gam} {cy : Nat → ClassId} {a : Nat → Nat} {X : va_W} {v1 : Int32} {v4 : Int32}  (C0 : CXg Γ cX12_strip 6 4 RX12 cy) (hD : DM Γ cy a X) (h : f_X12_strip_B259 v1 v4 x = some z) (hz : (Sum.elim (fun x : Int32 × VT => Wp Γ 0 0 259 [(0, .ref (a 0)), (1, .int v1), (4, .int v4), (5, .int x.1)] [] (WM cy a x.2 X)) (fun y : Int32 × VT => FinI Γ cX12_strip (WM cy a y.2 X) y.1)) z) : Wp Γ 0 0 259 [(0, .ref (a 0)), (1, .int v1), (4, .int v4), (5, .int x.1)] [] (WM cy a x.2 X) := by
  unfold f_X12_strip_B259 at h
  refine r_iload C0 dX12_strip_259 3 rfl ?_
  refine r_bipush C0 dX12_strip_261 kb_21 ?_
  refine r_icmp_ge C0 285 dX12_strip_263 rfl h (fun _ h => ?_) (fun _ h => ?_)
  · obtain ⟨y24, h5, h9⟩ := op_bind h
    clear h
    cases h9
    have hz := (el_inr hz)
    have h := h5
    refine r_aload_n C0 dX12_strip_285 rfl 0 rfl ?_
    refine r_iload C0 dX12_strip_286 2 rfl ?_
    refine callV1 C0 h (hD _) mw_X12_keep rv_m tm_X12_176 (fun y hy => c_X12_keep hy) (Nat.le_of_ble_eq_true rfl) (Nat.le_of_ble_eq_true rfl) dX12_strip_288 (fun r25 h => ?_)
    cases h
    exact hz _ _ dX12_strip_291
  · refine r_aload_n C0 dX12_strip_266 rfl 0 rfl ?_
    refine wmg_0_0 C0 tf_X12_7 dX12_strip_267 ?_
    refine r_iload_n C0 dX12_strip_270 rfl 1 rfl ?_
    refine callS1 C0 h (hD _) ms_X12_bar0 tm_X12_51 (fun y hy => c_X12_bar0 hy) (Nat.le_of_ble_eq_true rfl) (Nat.le_of_ble_eq_true rfl) dX12_strip_271 (fun r26 h => ?_)
    refine r_iload C0 dX12_strip_274 3 rfl ?_
    refine r_iadd C0 dX12_strip_276 ?_
    refine r_iconst C0 dX12_strip_277 ki_0 ?_
    refine wmas_1 C0 hD h dX12_strip_278 (fun k27 h => ?_)
    obtain ⟨a28, h8, h⟩ := op_bind h
    have e8 := Option.some.inj h8
    refine r_iinc (lv2 := [(5, .int a28), (0, .ref (a 0)), (1, .int v1), (4, .int v4)]) C0 dX12_strip_279 3 rfl ki_1 e8 (Nat.le_of_ble_eq_true rfl) rfl ?_
    refine r_goto C0 259 dX12_strip_282 rfl ?_
    cases h
    have hz := el_inl hz
    exact r_sub [1, 2, 3, 0] rfl hz
theorem w_X12_strip_B259_lp {x : Int32 × VT} {z : (Int32 × VT)} {Γ : Gam} {cy : Nat → ClassId} {a : Nat → Nat} {X : va_W} {v1 : Int32} {v4 : Int32}  (C0 : CXg Γ cX12_strip 6 4 RX12 cy) (hD : DM Γ cy a X) (h : lp (f_X12_strip_B259 v1 v4) fuel x = some z) (hz : (fun y : Int32 × VT => FinI Γ cX12_strip (WM cy a y.2 X) y.1) z) : Wp Γ 0 0 259 [(0, .ref (a 0)), (1, .int v1), (4, .int v4), (5, .int x.1)] [] (WM cy a x.2 X) :=
  lp_rule (hd := (fun x : Int32 × VT => Wp Γ 0 0 259 [(0, .ref (a 0)), (1, .int v1), (4, .int v4), (5, .int x.1)] [] (WM cy a x.2 X))) (C := (fun y : Int32 × VT => FinI Γ cX12_strip (WM cy a y.2 X) y.1)) (fun x z h hz => w_X12_strip_B259 C0 hD h hz) _ _ _ h hz
theorem w_X12_strip_j250 {z : ((Int32 × VT) ⊕ (Int32 × VT))} {Γ : Gam} {cy : Nat → ClassId} {a : Nat → Nat} {V : VT} {X : va_W} {v1 : Int32} {v4 : Int32} {v5 : Int32}  (C0 : CXg Γ cX12_strip 6 4 RX12 cy) (hD : DM Γ cy a X) (h : f_X12_strip_j250 v1 v4 v5 V = some z) (hz : (Sum.elim (fun x : Int32 × VT => Wp Γ 0 0 210 [(0, .ref (a 0)), (1, .int v1), (4, .int v4), (5, .int x.1)] [] (WM cy a x.2 X)) (fun y : Int32 × VT => FinI Γ cX12_strip (WM cy a y.2 X) y.1)) z) : Wp Γ 0 0 250 [(0, .ref (a 0)), (1, .int v1), (4, .int v4), (5, .int v5)] [] (WM cy a V X) := by
  unfold f_X12_strip_j250 at h
  obtain ⟨a30, h8, h⟩ := op_bind h
  have e8 := Option.some.inj h8
  refine r_iinc (lv2 := [(5, .int a30), (0, .ref (a 0)), (1, .int v1), (4, .int v4)]) C0 dX12_strip_250 3 rfl ki_1 e8 (Nat.le_of_ble_eq_true rfl) rfl ?_
  refine r_goto C0 210 dX12_strip_253 rfl ?_
  cases h
  have hz := el_inl hz
  exact r_sub [1, 2, 3, 0] rfl hz
theorem w_X12_strip_B210 {x : Int32 × VT} {z : ((Int32 × VT) ⊕ (Int32 × VT))} {Γ : Gam} {cy : Nat → ClassId} {a : Nat → Nat} {X : va_W} {v1 : Int32} {v4 : Int32}  (C0 : CXg Γ cX12_strip 6 4 RX12 cy) (hD : DM Γ cy a X) (h : f_X12_strip_B210 v1 v4 x = some z) (hz : (Sum.elim (fun x : Int32 × VT => Wp Γ 0 0 210 [(0, .ref (a 0)), (1, .int v1), (4, .int v4), (5, .int x.1)] [] (WM cy a x.2 X)) (fun y : Int32 × VT => FinI Γ cX12_strip (WM cy a y.2 X) y.1)) z) : Wp Γ 0 0 210 [(0, .ref (a 0)), (1, .int v1), (4, .int v4), (5, .int x.1)] [] (WM cy a x.2 X) := by
  unfold f_X12_strip_B210 at h
  refine r_iload C0 dX12_strip_210 3 rfl ?_
  refine r_aload_n C0 dX12_strip_212 rfl 0 rfl ?_
  refine wmg_0_0 C0 tf_X12_7 dX12_strip_213 ?_
  refine r_sipush C0 dX12_strip_216 ks_1640 ?_
  refine wmal_1 C0 h dX12_strip_219 (fun k21 h => ?_)
  refine r_icmp_ge C0 256 dX12_strip_220 rfl h (fun _ h => ?_) (fun _ h => ?_)
  · obtain ⟨y22, h5, h9⟩ := op_bind h
    clear h
    cases h9
    have hz := (el_inr hz)
    have h := h5
    refine r_iconst C0 dX12_strip_256 ki_0 ?_
    obtain ⟨a23, h8, h⟩ := op_bind h
    have e8 := Option.some.inj h8
    refine r_istore (lv2 := [(5, .int a23), (0, .ref (a 0)), (1, .int v1), (4, .int v4)]) C0 dX12_strip_257 e8 (Nat.le_of_ble_eq_true rfl) rfl ?_
    exact r_sub [1, 2, 3, 0] rfl (w_X12_strip_B259_lp C0 hD h hz)
  · refine r_aload_n C0 dX12_strip_223 rfl 0 rfl ?_
    refine r_iload C0 dX12_strip_224 3 rfl ?_
    refine r_iload_n C0 dX12_strip_226 rfl 1 rfl ?_
    refine callV2 C0 h (hD _) mw_X12_holds rv_m tm_X12_89 (fun y hy => c_X12_holds hy) (Nat.le_of_ble_eq_true rfl) (Nat.le_of_ble_eq_true rfl) dX12_strip_227 (fun r29 h => ?_)
    refine r_if_eq C0 250 dX12_strip_230 rfl h (fun _ h => ?_) (fun _ h => ?_)
    · exact r_sub [0, 1, 2, 3] rfl (w_X12_strip_j250 C0 hD h hz)
    · refine r_aload_n C0 dX12_strip_233 rfl 0 rfl ?_
      refine wmg_0_0 C0 tf_X12_7 dX12_strip_234 ?_
      refine r_sipush C0 dX12_strip_237 ks_252 ?_
      refine r_bipush C0 dX12_strip_240 kb_12 ?_
      refine r_iload C0 dX12_strip_242 3 rfl ?_
      refine r_imul C0 dX12_strip_244 ?_
      refine r_iadd C0 dX12_strip_245 ?_
      refine r_iconst C0 dX12_strip_246 ki_3 ?_
      refine r_iadd C0 dX12_strip_247 ?_
      refine r_iconst C0 dX12_strip_248 ki_0 ?_
      refine wmas_1 C0 hD h dX12_strip_249 (fun k31 h => ?_)
      exact r_sub [0, 1, 2, 3] rfl (w_X12_strip_j250 C0 hD h hz)
theorem w_X12_strip_B210_lp {x : Int32 × VT} {z : (Int32 × VT)} {Γ : Gam} {cy : Nat → ClassId} {a : Nat → Nat} {X : va_W} {v1 : Int32} {v4 : Int32}  (C0 : CXg Γ cX12_strip 6 4 RX12 cy) (hD : DM Γ cy a X) (h : lp (f_X12_strip_B210 v1 v4) fuel x = some z) (hz : (fun y : Int32 × VT => FinI Γ cX12_strip (WM cy a y.2 X) y.1) z) : Wp Γ 0 0 210 [(0, .ref (a 0)), (1, .int v1), (4, .int v4), (5, .int x.1)] [] (WM cy a x.2 X) :=
  lp_rule (hd := (fun x : Int32 × VT => Wp Γ 0 0 210 [(0, .ref (a 0)), (1, .int v1), (4, .int v4), (5, .int x.1)] [] (WM cy a x.2 X))) (C := (fun y : Int32 × VT => FinI Γ cX12_strip (WM cy a y.2 X) y.1)) (fun x z h hz => w_X12_strip_B210 C0 hD h hz) _ _ _ h hz
theorem w_X12_strip_j182 {z : (Int32 × VT)} {Γ : Gam} {cy : Nat → ClassId} {a : Nat → Nat} {V : VT} {X : va_W} {v1 : Int32} {v3 : Int32} {s1 : Int32}  (C0 : CXg Γ cX12_strip 6 4 RX12 cy) (hD : DM Γ cy a X) (h : f_X12_strip_j182 v1 v3 s1 V = some z) (hz : (fun y : Int32 × VT => FinI Γ cX12_strip (WM cy a y.2 X) y.1) z) : Wp Γ 0 0 182 [(0, .ref (a 0)), (1, .int v1), (3, .int v3)] [.int s1, .ref (a 0)] (WM cy a V X) := by
  unfold f_X12_strip_j182 at h
  refine r_bipush C0 dX12_strip_182 kb_16 ?_
  refine callV2 C0 h (hD _) mw_X12_is rv_m tm_X12_168 (fun y hy => c_X12_is hy) (Nat.le_of_ble_eq_true rfl) (Nat.le_of_ble_eq_true rfl) dX12_strip_184 (fun r18 h => ?_)
  refine r_if_eq C0 200 dX12_strip_187 rfl h (fun _ h => ?_) (fun _ h => ?_)
  · refine r_aload_n C0 dX12_strip_200 rfl 0 rfl ?_
    refine r_iload_n C0 dX12_strip_201 rfl 1 rfl ?_
    refine callV1 C0 h (hD _) mw_X12_lines rv_m tm_X12_105 (fun y hy => c_X12_lines hy) (Nat.le_of_ble_eq_true rfl) (Nat.le_of_ble_eq_true rfl) dX12_strip_202 (fun r19 h => ?_)
    refine r_istore (lv2 := [(4, .int r19), (0, .ref (a 0)), (1, .int v1), (3, .int v3)]) C0 dX12_strip_205 rfl (Nat.le_of_ble_eq_true rfl) rfl ?_
    refine r_iconst C0 dX12_strip_207 ki_0 ?_
    obtain ⟨a20, h8, h⟩ := op_bind h
    have e8 := Option.some.inj h8
    refine r_istore (lv2 := [(5, .int a20), (4, .int r19), (0, .ref (a 0)), (1, .int v1), (3, .int v3)]) C0 dX12_strip_208 e8 (Nat.le_of_ble_eq_true rfl) rfl ?_
    exact r_sub [2, 3, 1, 0] rfl (w_X12_strip_B210_lp C0 hD h hz)
  · refine r_aload_n C0 dX12_strip_190 rfl 0 rfl ?_
    refine r_iload_n C0 dX12_strip_191 rfl 2 rfl ?_
    refine wmp_0_8 C0 hD tf_X12_36 dX12_strip_192 ?_
    refine r_aload_n C0 dX12_strip_195 rfl 0 rfl ?_
    refine callV0 C0 h (hD _) mw_X12_refused rv_m tm_X12_172 (fun y hy => c_X12_refused hy) (Nat.le_of_ble_eq_true rfl) (Nat.le_of_ble_eq_true rfl) dX12_strip_196 (fun r32 h => ?_)
    cases h
    exact hz _ _ dX12_strip_199
theorem w_X12_strip_j166 {z : ((Int32 × Int32) ⊕ (Int32 × VT))} {Γ : Gam} {cy : Nat → ClassId} {a : Nat → Nat} {V : VT} {X : va_W} {v1 : Int32} {v3 : Int32} {v4 : Int32}  (C0 : CXg Γ cX12_strip 6 4 RX12 cy) (hD : DM Γ cy a X) (h : f_X12_strip_j166 v1 v3 v4 V = some z) (hz : (Sum.elim (fun x : Int32 × Int32 => Wp Γ 0 0 148 [(0, .ref (a 0)), (1, .int v1), (3, .int x.1), (4, .int x.2)] [] (WM cy a V X)) (fun y : Int32 × VT => FinI Γ cX12_strip (WM cy a y.2 X) y.1)) z) : Wp Γ 0 0 166 [(0, .ref (a 0)), (1, .int v1), (3, .int v3), (4, .int v4)] [] (WM cy a V X) := by
  unfold f_X12_strip_j166 at h
  obtain ⟨a34, h8, h⟩ := op_bind h
  have e8 := Option.some.inj h8
  refine r_iinc (lv2 := [(4, .int a34), (0, .ref (a 0)), (1, .int v1), (3, .int v3)]) C0 dX12_strip_166 3 rfl ki_m1 e8 (Nat.le_of_ble_eq_true rfl) rfl ?_
  refine r_goto C0 148 dX12_strip_169 rfl ?_
  cases h
  have hz := el_inl hz
  exact r_sub [1, 2, 3, 0] rfl hz
theorem w_X12_strip_B148 {x : Int32 × Int32} {z : ((Int32 × Int32) ⊕ (Int32 × VT))} {Γ : Gam} {cy : Nat → ClassId} {a : Nat → Nat} {V : VT} {X : va_W} {v1 : Int32}  (C0 : CXg Γ cX12_strip 6 4 RX12 cy) (hD : DM Γ cy a X) (h : f_X12_strip_B148 v1 V x = some z) (hz : (Sum.elim (fun x : Int32 × Int32 => Wp Γ 0 0 148 [(0, .ref (a 0)), (1, .int v1), (3, .int x.1), (4, .int x.2)] [] (WM cy a V X)) (fun y : Int32 × VT => FinI Γ cX12_strip (WM cy a y.2 X) y.1)) z) : Wp Γ 0 0 148 [(0, .ref (a 0)), (1, .int v1), (3, .int x.1), (4, .int x.2)] [] (WM cy a V X) := by
  unfold f_X12_strip_B148 at h
  refine r_iload C0 dX12_strip_148 3 rfl ?_
  refine r_if_lt C0 172 dX12_strip_150 rfl h (fun _ h => ?_) (fun _ h => ?_)
  · obtain ⟨y17, h5, h9⟩ := op_bind h
    clear h
    cases h9
    have hz := (el_inr hz)
    have h := h5
    refine r_aload_n C0 dX12_strip_172 rfl 0 rfl ?_
    refine r_iload_n C0 dX12_strip_173 rfl 2 rfl ?_
    refine r_if_lt C0 181 dX12_strip_174 rfl h (fun _ h => ?_) (fun _ h => ?_)
    · refine r_iconst C0 dX12_strip_181 ki_0 ?_
      exact r_sub [0, 1, 2] rfl (w_X12_strip_j182 C0 hD h hz)
    · refine r_iconst C0 dX12_strip_177 ki_1 ?_
      refine r_goto C0 182 dX12_strip_178 rfl ?_
      exact r_sub [0, 1, 2] rfl (w_X12_strip_j182 C0 hD h hz)
  · refine r_aload_n C0 dX12_strip_153 rfl 0 rfl ?_
    refine r_iload_n C0 dX12_strip_154 rfl 1 rfl ?_
    refine r_iload C0 dX12_strip_155 3 rfl ?_
    refine callV2 C0 h (hD _) mw_X12_held rv_m tm_X12_72 (fun y hy => c_X12_held hy) (Nat.le_of_ble_eq_true rfl) (Nat.le_of_ble_eq_true rfl) dX12_strip_157 (fun r33 h => ?_)
    refine r_if_eq C0 166 dX12_strip_160 rfl h (fun _ h => ?_) (fun _ h => ?_)
    · exact r_sub [0, 1, 2, 3] rfl (w_X12_strip_j166 C0 hD h hz)
    · refine r_iload C0 dX12_strip_163 3 rfl ?_
      refine r_istore_n (lv2 := [(3, .int x.2), (0, .ref (a 0)), (1, .int v1), (4, .int x.2)]) C0 dX12_strip_165 rfl rfl (Nat.le_of_ble_eq_true rfl) rfl ?_
      exact r_sub [1, 2, 0, 3] rfl (w_X12_strip_j166 C0 hD h hz)
theorem w_X12_strip_B148_lp {x : Int32 × Int32} {z : (Int32 × VT)} {Γ : Gam} {cy : Nat → ClassId} {a : Nat → Nat} {V : VT} {X : va_W} {v1 : Int32}  (C0 : CXg Γ cX12_strip 6 4 RX12 cy) (hD : DM Γ cy a X) (h : lp (f_X12_strip_B148 v1 V) fuel x = some z) (hz : (fun y : Int32 × VT => FinI Γ cX12_strip (WM cy a y.2 X) y.1) z) : Wp Γ 0 0 148 [(0, .ref (a 0)), (1, .int v1), (3, .int x.1), (4, .int x.2)] [] (WM cy a V X) :=
  lp_rule (hd := (fun x : Int32 × Int32 => Wp Γ 0 0 148 [(0, .ref (a 0)), (1, .int v1), (3, .int x.1), (4, .int x.2)] [] (WM cy a V X))) (C := (fun y : Int32 × VT => FinI Γ cX12_strip (WM cy a y.2 X) y.1)) (fun x z h hz => w_X12_strip_B148 C0 hD h hz) _ _ _ h hz
theorem w_X12_strip_j115 {z : ((Int32 × Int32) ⊕ (Int32 × VT))} {Γ : Gam} {cy : Nat → ClassId} {a : Nat → Nat} {V : VT} {X : va_W} {v1 : Int32} {v3 : Int32} {s0 : Int32}  (C0 : CXg Γ cX12_strip 6 4 RX12 cy) (hD : DM Γ cy a X) (h : f_X12_strip_j115 v1 v3 s0 V = some z) (hz : (Sum.elim (fun x : Int32 × Int32 => Wp Γ 0 0 76 [(0, .ref (a 0)), (1, .int v1), (2, .int x.1), (3, .int x.2)] [] (WM cy a V X)) (fun y : Int32 × VT => FinI Γ cX12_strip (WM cy a y.2 X) y.1)) z) : Wp Γ 0 0 115 [(0, .ref (a 0)), (1, .int v1), (3, .int v3)] [.int s0] (WM cy a V X) := by
  unfold f_X12_strip_j115 at h
  refine r_istore_n (lv2 := [(2, .int s0), (0, .ref (a 0)), (1, .int v1), (3, .int v3)]) C0 dX12_strip_115 rfl rfl (Nat.le_of_ble_eq_true rfl) rfl ?_
  obtain ⟨a36, h8, h⟩ := op_bind h
  have e8 := Option.some.inj h8
  refine r_iinc (lv2 := [(3, .int a36), (2, .int s0), (0, .ref (a 0)), (1, .int v1)]) C0 dX12_strip_116 3 rfl ki_1 e8 (Nat.le_of_ble_eq_true rfl) rfl ?_
  refine r_goto C0 76 dX12_strip_119 rfl ?_
  cases h
  have hz := el_inl hz
  exact r_sub [2, 3, 1, 0] rfl hz
theorem w_X12_strip_j110 {z : ((Int32 × Int32) ⊕ (Int32 × VT))} {Γ : Gam} {cy : Nat → ClassId} {a : Nat → Nat} {V : VT} {X : va_W} {v1 : Int32} {v3 : Int32}  (C0 : CXg Γ cX12_strip 6 4 RX12 cy) (hD : DM Γ cy a X) (h : f_X12_strip_j110 v1 v3 V = some z) (hz : (Sum.elim (fun x : Int32 × Int32 => Wp Γ 0 0 76 [(0, .ref (a 0)), (1, .int v1), (2, .int x.1), (3, .int x.2)] [] (WM cy a V X)) (fun y : Int32 × VT => FinI Γ cX12_strip (WM cy a y.2 X) y.1)) z) : Wp Γ 0 0 110 [(0, .ref (a 0)), (1, .int v1), (3, .int v3)] [] (WM cy a V X) := by
  unfold f_X12_strip_j110 at h
  refine r_iconst C0 dX12_strip_110 ki_1 ?_
  refine r_goto C0 115 dX12_strip_111 rfl ?_
  exact r_sub [0, 1, 2] rfl (w_X12_strip_j115 C0 hD h hz)
theorem w_X12_strip_j114 {z : ((Int32 × Int32) ⊕ (Int32 × VT))} {Γ : Gam} {cy : Nat → ClassId} {a : Nat → Nat} {V : VT} {X : va_W} {v1 : Int32} {v3 : Int32}  (C0 : CXg Γ cX12_strip 6 4 RX12 cy) (hD : DM Γ cy a X) (h : f_X12_strip_j114 v1 v3 V = some z) (hz : (Sum.elim (fun x : Int32 × Int32 => Wp Γ 0 0 76 [(0, .ref (a 0)), (1, .int v1), (2, .int x.1), (3, .int x.2)] [] (WM cy a V X)) (fun y : Int32 × VT => FinI Γ cX12_strip (WM cy a y.2 X) y.1)) z) : Wp Γ 0 0 114 [(0, .ref (a 0)), (1, .int v1), (3, .int v3)] [] (WM cy a V X) := by
  unfold f_X12_strip_j114 at h
  refine r_iconst C0 dX12_strip_114 ki_0 ?_
  exact r_sub [0, 1, 2] rfl (w_X12_strip_j115 C0 hD h hz)
theorem w_X12_strip_B76 {x : Int32 × Int32} {z : ((Int32 × Int32) ⊕ (Int32 × VT))} {Γ : Gam} {cy : Nat → ClassId} {a : Nat → Nat} {V : VT} {X : va_W} {v1 : Int32}  (C0 : CXg Γ cX12_strip 6 4 RX12 cy) (hD : DM Γ cy a X) (h : f_X12_strip_B76 v1 V x = some z) (hz : (Sum.elim (fun x : Int32 × Int32 => Wp Γ 0 0 76 [(0, .ref (a 0)), (1, .int v1), (2, .int x.1), (3, .int x.2)] [] (WM cy a V X)) (fun y : Int32 × VT => FinI Γ cX12_strip (WM cy a y.2 X) y.1)) z) : Wp Γ 0 0 76 [(0, .ref (a 0)), (1, .int v1), (2, .int x.1), (3, .int x.2)] [] (WM cy a V X) := by
  unfold f_X12_strip_B76 at h
  refine r_iload_n C0 dX12_strip_76 rfl 3 rfl ?_
  refine r_aload_n C0 dX12_strip_77 rfl 0 rfl ?_
  refine wmg_0_0 C0 tf_X12_7 dX12_strip_78 ?_
  refine r_sipush C0 dX12_strip_81 ks_1642 ?_
  refine wmal_1 C0 h dX12_strip_84 (fun k11 h => ?_)
  refine r_icmp_ge C0 122 dX12_strip_85 rfl h (fun _ h => ?_) (fun _ h => ?_)
  · obtain ⟨y12, h5, h9⟩ := op_bind h
    clear h
    cases h9
    have hz := (el_inr hz)
    have h := h5
    refine r_aload_n C0 dX12_strip_122 rfl 0 rfl ?_
    refine r_iload_n C0 dX12_strip_123 rfl 2 rfl ?_
    refine r_bipush C0 dX12_strip_124 kb_18 ?_
    refine callV2 C0 h (hD _) mw_X12_is rv_m tm_X12_168 (fun y hy => c_X12_is hy) (Nat.le_of_ble_eq_true rfl) (Nat.le_of_ble_eq_true rfl) dX12_strip_126 (fun r13 h => ?_)
    refine r_if_eq C0 137 dX12_strip_129 rfl h (fun _ h => ?_) (fun _ h => ?_)
    · refine r_iconst C0 dX12_strip_137 ki_m1 ?_
      obtain ⟨a14, h8, h⟩ := op_bind h
      have e8 := Option.some.inj h8
      refine r_istore_n (lv2 := [(3, .int a14), (0, .ref (a 0)), (1, .int v1), (2, .int x.1)]) C0 dX12_strip_138 rfl e8 (Nat.le_of_ble_eq_true rfl) rfl ?_
      refine r_aload_n C0 dX12_strip_139 rfl 1 rfl ?_
      refine r_iload_n C0 dX12_strip_140 rfl 2 rfl ?_
      refine callV1 C0 h (hD _) mw_X12_places rv_m tm_X12_55 (fun y hy => c_X12_places hy) (Nat.le_of_ble_eq_true rfl) (Nat.le_of_ble_eq_true rfl) dX12_strip_141 (fun r15 h => ?_)
      refine r_iconst C0 dX12_strip_144 ki_1 ?_
      refine r_isub C0 dX12_strip_145 ?_
      obtain ⟨a16, h8, h⟩ := op_bind h
      have e8 := Option.some.inj h8
      refine r_istore (lv2 := [(4, .int a16), (3, .int a14), (0, .ref (a 0)), (1, .int v1), (2, .int x.1)]) C0 dX12_strip_146 e8 (Nat.le_of_ble_eq_true rfl) rfl ?_
      exact r_sub [2, 3, 1, 0] rfl (w_X12_strip_B148_lp C0 hD h hz)
    · refine r_aload_n C0 dX12_strip_132 rfl 0 rfl ?_
      refine callV0 C0 h (hD _) mw_X12_refused rv_m tm_X12_172 (fun y hy => c_X12_refused hy) (Nat.le_of_ble_eq_true rfl) (Nat.le_of_ble_eq_true rfl) dX12_strip_133 (fun r35 h => ?_)
      cases h
      exact hz _ _ dX12_strip_136
  · refine r_iload_n C0 dX12_strip_88 rfl 2 rfl ?_
    refine r_if_ne C0 110 dX12_strip_89 rfl h (fun _ h => ?_) (fun _ h => ?_)
    · exact r_sub [0, 1, 3] rfl (w_X12_strip_j110 C0 hD h hz)
    · refine r_aload_n C0 dX12_strip_92 rfl 0 rfl ?_
      refine r_iload_n C0 dX12_strip_93 rfl 3 rfl ?_
      refine r_iconst C0 dX12_strip_94 ki_0 ?_
      refine callV2 C0 h (hD _) mw_X12_cueIs rv_m tm_X12_140 (fun y hy => c_X12_cueIs hy) (Nat.le_of_ble_eq_true rfl) (Nat.le_of_ble_eq_true rfl) dX12_strip_95 (fun r37 h => ?_)
      refine r_iload_n C0 dX12_strip_98 rfl 1 rfl ?_
      refine r_icmp_ne C0 114 dX12_strip_99 rfl h (fun _ h => ?_) (fun _ h => ?_)
      · exact r_sub [0, 1, 3] rfl (w_X12_strip_j114 C0 hD h hz)
      · refine r_aload_n C0 dX12_strip_102 rfl 0 rfl ?_
        refine r_iload_n C0 dX12_strip_103 rfl 3 rfl ?_
        refine callV1 C0 h (hD _) mw_X12_isNotOver rv_m tm_X12_179 (fun y hy => c_X12_isNotOver hy) (Nat.le_of_ble_eq_true rfl) (Nat.le_of_ble_eq_true rfl) dX12_strip_104 (fun r38 h => ?_)
        refine r_if_eq C0 114 dX12_strip_107 rfl h (fun _ h => ?_) (fun _ h => ?_)
        · exact r_sub [0, 1, 3] rfl (w_X12_strip_j114 C0 hD h hz)
        · exact r_sub [0, 1, 3] rfl (w_X12_strip_j110 C0 hD h hz)
theorem w_X12_strip_B76_lp {x : Int32 × Int32} {z : (Int32 × VT)} {Γ : Gam} {cy : Nat → ClassId} {a : Nat → Nat} {V : VT} {X : va_W} {v1 : Int32}  (C0 : CXg Γ cX12_strip 6 4 RX12 cy) (hD : DM Γ cy a X) (h : lp (f_X12_strip_B76 v1 V) fuel x = some z) (hz : (fun y : Int32 × VT => FinI Γ cX12_strip (WM cy a y.2 X) y.1) z) : Wp Γ 0 0 76 [(0, .ref (a 0)), (1, .int v1), (2, .int x.1), (3, .int x.2)] [] (WM cy a V X) :=
  lp_rule (hd := (fun x : Int32 × Int32 => Wp Γ 0 0 76 [(0, .ref (a 0)), (1, .int v1), (2, .int x.1), (3, .int x.2)] [] (WM cy a V X))) (C := (fun y : Int32 × VT => FinI Γ cX12_strip (WM cy a y.2 X) y.1)) (fun x z h hz => w_X12_strip_B76 C0 hD h hz) _ _ _ h hz
theorem w_X12_strip_j59 {z : (Int32 × VT)} {Γ : Gam} {cy : Nat → ClassId} {a : Nat → Nat} {V : VT} {X : va_W} {v1 : Int32} {s1 : Int32}  (C0 : CXg Γ cX12_strip 6 4 RX12 cy) (hD : DM Γ cy a X) (h : f_X12_strip_j59 v1 s1 V = some z) (hz : (fun y : Int32 × VT => FinI Γ cX12_strip (WM cy a y.2 X) y.1) z) : Wp Γ 0 0 59 [(0, .ref (a 0)), (1, .int v1)] [.int s1, .ref (a 0)] (WM cy a V X) := by
  unfold f_X12_strip_j59 at h
  refine r_bipush C0 dX12_strip_59 kb_10 ?_
  refine callV2 C0 h (hD _) mw_X12_is rv_m tm_X12_168 (fun y hy => c_X12_is hy) (Nat.le_of_ble_eq_true rfl) (Nat.le_of_ble_eq_true rfl) dX12_strip_61 (fun r8 h => ?_)
  refine r_if_eq C0 72 dX12_strip_64 rfl h (fun _ h => ?_) (fun _ h => ?_)
  · refine r_iconst C0 dX12_strip_72 ki_0 ?_
    obtain ⟨a9, h8, h⟩ := op_bind h
    have e8 := Option.some.inj h8
    refine r_istore_n (lv2 := [(2, .int a9), (0, .ref (a 0)), (1, .int v1)]) C0 dX12_strip_73 rfl e8 (Nat.le_of_ble_eq_true rfl) rfl ?_
    refine r_iconst C0 dX12_strip_74 ki_0 ?_
    obtain ⟨a10, h8, h⟩ := op_bind h
    have e8 := Option.some.inj h8
    refine r_istore_n (lv2 := [(3, .int a10), (2, .int a9), (0, .ref (a 0)), (1, .int v1)]) C0 dX12_strip_75 rfl e8 (Nat.le_of_ble_eq_true rfl) rfl ?_
    exact r_sub [2, 3, 1, 0] rfl (w_X12_strip_B76_lp C0 hD h hz)
  · exact r_sub [0] rfl (w_X12_strip_j67 C0 hD h hz)
theorem w_X12_strip_j38 {z : (Int32 × VT)} {Γ : Gam} {cy : Nat → ClassId} {a : Nat → Nat} {V : VT} {X : va_W} {v1 : Int32} {s1 : Int32}  (C0 : CXg Γ cX12_strip 6 4 RX12 cy) (hD : DM Γ cy a X) (h : f_X12_strip_j38 v1 s1 V = some z) (hz : (fun y : Int32 × VT => FinI Γ cX12_strip (WM cy a y.2 X) y.1) z) : Wp Γ 0 0 38 [(0, .ref (a 0)), (1, .int v1)] [.int s1, .ref (a 0)] (WM cy a V X) := by
  unfold f_X12_strip_j38 at h
  refine r_iconst C0 dX12_strip_38 ki_1 ?_
  refine callV2 C0 h (hD _) mw_X12_is rv_m tm_X12_168 (fun y hy => c_X12_is hy) (Nat.le_of_ble_eq_true rfl) (Nat.le_of_ble_eq_true rfl) dX12_strip_39 (fun r6 h => ?_)
  refine r_if_ne C0 67 dX12_strip_42 rfl h (fun _ h => ?_) (fun _ h => ?_)
  · exact r_sub [0] rfl (w_X12_strip_j67 C0 hD h hz)
  · refine r_aload_n C0 dX12_strip_45 rfl 0 rfl ?_
    refine r_aload_n C0 dX12_strip_46 rfl 0 rfl ?_
    refine r_iload_n C0 dX12_strip_47 rfl 1 rfl ?_
    refine callV1 C0 h (hD _) mw_X12_height rv_m tm_X12_124 (fun y hy => c_X12_height hy) (Nat.le_of_ble_eq_true rfl) (Nat.le_of_ble_eq_true rfl) dX12_strip_48 (fun r7 h => ?_)
    refine r_if_eq C0 58 dX12_strip_51 rfl h (fun _ h => ?_) (fun _ h => ?_)
    · refine r_iconst C0 dX12_strip_58 ki_0 ?_
      exact r_sub [0, 1] rfl (w_X12_strip_j59 C0 hD h hz)
    · refine r_iconst C0 dX12_strip_54 ki_1 ?_
      refine r_goto C0 59 dX12_strip_55 rfl ?_
      exact r_sub [0, 1] rfl (w_X12_strip_j59 C0 hD h hz)
theorem w_X12_strip_j17 {z : (Int32 × VT)} {Γ : Gam} {cy : Nat → ClassId} {a : Nat → Nat} {V : VT} {X : va_W} {v1 : Int32} {s1 : Int32}  (C0 : CXg Γ cX12_strip 6 4 RX12 cy) (hD : DM Γ cy a X) (h : f_X12_strip_j17 v1 s1 V = some z) (hz : (fun y : Int32 × VT => FinI Γ cX12_strip (WM cy a y.2 X) y.1) z) : Wp Γ 0 0 17 [(0, .ref (a 0)), (1, .int v1)] [.int s1, .ref (a 0)] (WM cy a V X) := by
  unfold f_X12_strip_j17 at h
  refine r_iconst C0 dX12_strip_17 ki_2 ?_
  refine callV2 C0 h (hD _) mw_X12_is rv_m tm_X12_168 (fun y hy => c_X12_is hy) (Nat.le_of_ble_eq_true rfl) (Nat.le_of_ble_eq_true rfl) dX12_strip_18 (fun r3 h => ?_)
  refine r_if_ne C0 67 dX12_strip_21 rfl h (fun _ h => ?_) (fun _ h => ?_)
  · exact r_sub [0] rfl (w_X12_strip_j67 C0 hD h hz)
  · refine r_aload_n C0 dX12_strip_24 rfl 0 rfl ?_
    refine r_aload_n C0 dX12_strip_25 rfl 0 rfl ?_
    refine r_iload_n C0 dX12_strip_26 rfl 1 rfl ?_
    refine callV1 C0 h (hD _) mw_X12_isRigged rv_m tm_X12_66 (fun y hy => c_X12_isRigged hy) (Nat.le_of_ble_eq_true rfl) (Nat.le_of_ble_eq_true rfl) dX12_strip_27 (fun r5 h => ?_)
    refine r_if_ne C0 37 dX12_strip_30 rfl h (fun _ h => ?_) (fun _ h => ?_)
    · refine r_iconst C0 dX12_strip_37 ki_0 ?_
      exact r_sub [0, 1] rfl (w_X12_strip_j38 C0 hD h hz)
    · refine r_iconst C0 dX12_strip_33 ki_1 ?_
      refine r_goto C0 38 dX12_strip_34 rfl ?_
      exact r_sub [0, 1] rfl (w_X12_strip_j38 C0 hD h hz)
theorem w_X12_strip {z : Int32 × VT} {Γ : Gam} {cy : Nat → ClassId} {a : Nat → Nat} {V : VT} {X : va_W} {v1 : Int32}  (C0 : CXg Γ cX12_strip 6 4 RX12 cy) (hD : DM Γ cy a X) (h : f_X12_strip v1 V = some z) (hz : (fun y : Int32 × VT => FinI Γ cX12_strip (WM cy a y.2 X) y.1) z) : Wp Γ 0 0 0 [(0, .ref (a 0)), (1, .int v1)] [] (WM cy a V X) := by
  unfold f_X12_strip at h
  refine r_aload_n C0 dX12_strip_0 rfl 0 rfl ?_
  refine callVv0 C0 h (hD _) mw_X12_begin rv_m tm_X12_165 (fun y hy => c_X12_begin hy) (Nat.le_of_ble_eq_true rfl) (Nat.le_of_ble_eq_true rfl) dX12_strip_1 (fun r1 h => ?_)
  refine r_aload_n C0 dX12_strip_4 rfl 0 rfl ?_
  refine r_iload_n C0 dX12_strip_5 rfl 1 rfl ?_
  refine callS1 C0 h (hD _) ms_X12_isBar tm_X12_115 (fun y hy => c_X12_isBar hy) (Nat.le_of_ble_eq_true rfl) (Nat.le_of_ble_eq_true rfl) dX12_strip_6 (fun r2 h => ?_)
  refine r_if_ne C0 16 dX12_strip_9 rfl h (fun _ h => ?_) (fun _ h => ?_)
  · refine r_iconst C0 dX12_strip_16 ki_0 ?_
    exact r_sub [0, 1] rfl (w_X12_strip_j17 C0 hD h hz)
  · refine r_iconst C0 dX12_strip_12 ki_1 ?_
    refine r_goto C0 17 dX12_strip_13 rfl ?_
    exact r_sub [0, 1] rfl (w_X12_strip_j17 C0 hD h hz)
theorem c_X12_strip {l : Launch} {D : va_G} {cy : Nat → ClassId} {a : Nat → Nat} {V : VT} {X : va_W} {v1 : Int32} {y : Int32 × VT} (h : f_X12_strip v1 V = some y) : CT l D cy yX12_strip cX12_strip 6 (some .int) 4 [.ref (a 0), .int v1] (WM cy a V X) (WM cy a y.2 X) (some (.int y.1)) :=
  mkI (by decide) (Nat.le_of_ble_eq_true rfl) (fun Γ _ _ C0 hD hF => w_X12_strip C0 (dm_of hD) h hF)
theorem dX12_line_0 : decode cX12_line 0 = .ok (.aload_n 0, 1) := by decide +kernel
theorem dX12_line_1 : decode cX12_line 1 = .ok (.invokevirtual 165, 3) := by decide +kernel
theorem dX12_line_4 : decode cX12_line 4 = .ok (.aload_n 0, 1) := by decide +kernel
theorem dX12_line_5 : decode cX12_line 5 = .ok (.iload_n 1, 1) := by decide +kernel
theorem dX12_line_6 : decode cX12_line 6 = .ok (.invokestatic 115, 3) := by decide +kernel
theorem dX12_line_9 : decode cX12_line 9 = .ok (.ifCond .ne 7, 3) := by decide +kernel
theorem dX12_line_12 : decode cX12_line 12 = .ok (.iconst 1, 1) := by decide +kernel
theorem dX12_line_13 : decode cX12_line 13 = .ok (.goto 4, 3) := by decide +kernel
theorem dX12_line_16 : decode cX12_line 16 = .ok (.iconst 0, 1) := by decide +kernel
theorem dX12_line_17 : decode cX12_line 17 = .ok (.iconst 2, 1) := by decide +kernel
theorem dX12_line_18 : decode cX12_line 18 = .ok (.invokevirtual 168, 3) := by decide +kernel
theorem dX12_line_21 : decode cX12_line 21 = .ok (.ifCond .ne 46, 3) := by decide +kernel
theorem dX12_line_24 : decode cX12_line 24 = .ok (.aload_n 0, 1) := by decide +kernel
theorem dX12_line_25 : decode cX12_line 25 = .ok (.aload_n 0, 1) := by decide +kernel
theorem dX12_line_26 : decode cX12_line 26 = .ok (.iload_n 1, 1) := by decide +kernel
theorem dX12_line_27 : decode cX12_line 27 = .ok (.invokevirtual 66, 3) := by decide +kernel
theorem dX12_line_30 : decode cX12_line 30 = .ok (.ifCond .ne 7, 3) := by decide +kernel
theorem dX12_line_33 : decode cX12_line 33 = .ok (.iconst 1, 1) := by decide +kernel
theorem dX12_line_34 : decode cX12_line 34 = .ok (.goto 4, 3) := by decide +kernel
theorem dX12_line_37 : decode cX12_line 37 = .ok (.iconst 0, 1) := by decide +kernel
theorem dX12_line_38 : decode cX12_line 38 = .ok (.iconst 1, 1) := by decide +kernel
theorem dX12_line_39 : decode cX12_line 39 = .ok (.invokevirtual 168, 3) := by decide +kernel
theorem dX12_line_42 : decode cX12_line 42 = .ok (.ifCond .ne 25, 3) := by decide +kernel
theorem dX12_line_45 : decode cX12_line 45 = .ok (.aload_n 0, 1) := by decide +kernel
theorem dX12_line_46 : decode cX12_line 46 = .ok (.aload_n 0, 1) := by decide +kernel
theorem dX12_line_47 : decode cX12_line 47 = .ok (.iload_n 1, 1) := by decide +kernel
theorem dX12_line_48 : decode cX12_line 48 = .ok (.iload_n 2, 1) := by decide +kernel
theorem dX12_line_49 : decode cX12_line 49 = .ok (.invokevirtual 118, 3) := by decide +kernel
theorem dX12_line_52 : decode cX12_line 52 = .ok (.ifCond .ne 7, 3) := by decide +kernel
theorem dX12_line_55 : decode cX12_line 55 = .ok (.iconst 1, 1) := by decide +kernel
theorem dX12_line_56 : decode cX12_line 56 = .ok (.goto 4, 3) := by decide +kernel
theorem dX12_line_59 : decode cX12_line 59 = .ok (.iconst 0, 1) := by decide +kernel
theorem dX12_line_60 : decode cX12_line 60 = .ok (.iconst 2, 1) := by decide +kernel
theorem dX12_line_61 : decode cX12_line 61 = .ok (.invokevirtual 168, 3) := by decide +kernel
theorem dX12_line_64 : decode cX12_line 64 = .ok (.ifCond .eq 8, 3) := by decide +kernel
theorem dX12_line_67 : decode cX12_line 67 = .ok (.aload_n 0, 1) := by decide +kernel
theorem dX12_line_68 : decode cX12_line 68 = .ok (.invokevirtual 172, 3) := by decide +kernel
theorem dX12_line_71 : decode cX12_line 71 = .ok (.ireturn, 1) := by decide +kernel
theorem dX12_line_72 : decode cX12_line 72 = .ok (.iconst 0, 1) := by decide +kernel
theorem dX12_line_73 : decode cX12_line 73 = .ok (.istore 5, 2) := by decide +kernel
theorem dX12_line_75 : decode cX12_line 75 = .ok (.iconst 0, 1) := by decide +kernel
theorem dX12_line_76 : decode cX12_line 76 = .ok (.istore 6, 2) := by decide +kernel
theorem dX12_line_78 : decode cX12_line 78 = .ok (.iload 6, 2) := by decide +kernel
theorem dX12_line_80 : decode cX12_line 80 = .ok (.aload_n 0, 1) := by decide +kernel
theorem dX12_line_81 : decode cX12_line 81 = .ok (.getfield 7, 3) := by decide +kernel
theorem dX12_line_84 : decode cX12_line 84 = .ok (.sipush 1640, 3) := by decide +kernel
theorem dX12_line_87 : decode cX12_line 87 = .ok (.iaload, 1) := by decide +kernel
theorem dX12_line_88 : decode cX12_line 88 = .ok (.if_icmp .ge 42, 3) := by decide +kernel
theorem dX12_line_91 : decode cX12_line 91 = .ok (.iload 5, 2) := by decide +kernel
theorem dX12_line_93 : decode cX12_line 93 = .ok (.ifCond .ne 24, 3) := by decide +kernel
theorem dX12_line_96 : decode cX12_line 96 = .ok (.aload_n 0, 1) := by decide +kernel
theorem dX12_line_97 : decode cX12_line 97 = .ok (.iload 6, 2) := by decide +kernel
theorem dX12_line_99 : decode cX12_line 99 = .ok (.iload_n 1, 1) := by decide +kernel
theorem dX12_line_100 : decode cX12_line 100 = .ok (.invokevirtual 89, 3) := by decide +kernel
theorem dX12_line_103 : decode cX12_line 103 = .ok (.ifCond .eq 18, 3) := by decide +kernel
theorem dX12_line_106 : decode cX12_line 106 = .ok (.aload_n 0, 1) := by decide +kernel
theorem dX12_line_107 : decode cX12_line 107 = .ok (.iload 6, 2) := by decide +kernel
theorem dX12_line_109 : decode cX12_line 109 = .ok (.iconst 1, 1) := by decide +kernel
theorem dX12_line_110 : decode cX12_line 110 = .ok (.invokevirtual 58, 3) := by decide +kernel
theorem dX12_line_113 : decode cX12_line 113 = .ok (.iload_n 2, 1) := by decide +kernel
theorem dX12_line_114 : decode cX12_line 114 = .ok (.if_icmp .ne 7, 3) := by decide +kernel
theorem dX12_line_117 : decode cX12_line 117 = .ok (.iconst 1, 1) := by decide +kernel
theorem dX12_line_118 : decode cX12_line 118 = .ok (.goto 4, 3) := by decide +kernel
theorem dX12_line_121 : decode cX12_line 121 = .ok (.iconst 0, 1) := by decide +kernel
theorem dX12_line_122 : decode cX12_line 122 = .ok (.istore 5, 2) := by decide +kernel
theorem dX12_line_124 : decode cX12_line 124 = .ok (.iinc 6 1, 3) := by decide +kernel
theorem dX12_line_127 : decode cX12_line 127 = .ok (.goto (-49), 3) := by decide +kernel
theorem dX12_line_130 : decode cX12_line 130 = .ok (.aload_n 0, 1) := by decide +kernel
theorem dX12_line_131 : decode cX12_line 131 = .ok (.iload 5, 2) := by decide +kernel
theorem dX12_line_133 : decode cX12_line 133 = .ok (.bipush 8, 2) := by decide +kernel
theorem dX12_line_135 : decode cX12_line 135 = .ok (.invokevirtual 168, 3) := by decide +kernel
theorem dX12_line_138 : decode cX12_line 138 = .ok (.ifCond .ne 83, 3) := by decide +kernel
theorem dX12_line_141 : decode cX12_line 141 = .ok (.aload_n 0, 1) := by decide +kernel
theorem dX12_line_142 : decode cX12_line 142 = .ok (.aload_n 0, 1) := by decide +kernel
theorem dX12_line_143 : decode cX12_line 143 = .ok (.getfield 7, 3) := by decide +kernel
theorem dX12_line_146 : decode cX12_line 146 = .ok (.sipush 1640, 3) := by decide +kernel
theorem dX12_line_149 : decode cX12_line 149 = .ok (.iaload, 1) := by decide +kernel
theorem dX12_line_150 : decode cX12_line 150 = .ok (.bipush 40, 2) := by decide +kernel
theorem dX12_line_152 : decode cX12_line 152 = .ok (.if_icmp .ne 7, 3) := by decide +kernel
theorem dX12_line_155 : decode cX12_line 155 = .ok (.iconst 1, 1) := by decide +kernel
theorem dX12_line_156 : decode cX12_line 156 = .ok (.goto 4, 3) := by decide +kernel
theorem dX12_line_159 : decode cX12_line 159 = .ok (.iconst 0, 1) := by decide +kernel
theorem dX12_line_160 : decode cX12_line 160 = .ok (.bipush 11, 2) := by decide +kernel
theorem dX12_line_162 : decode cX12_line 162 = .ok (.invokevirtual 168, 3) := by decide +kernel
theorem dX12_line_165 : decode cX12_line 165 = .ok (.ifCond .ne 56, 3) := by decide +kernel
theorem dX12_line_168 : decode cX12_line 168 = .ok (.aload_n 0, 1) := by decide +kernel
theorem dX12_line_169 : decode cX12_line 169 = .ok (.iload_n 3, 1) := by decide +kernel
theorem dX12_line_170 : decode cX12_line 170 = .ok (.ifCond .ge 7, 3) := by decide +kernel
theorem dX12_line_173 : decode cX12_line 173 = .ok (.iconst 1, 1) := by decide +kernel
theorem dX12_line_174 : decode cX12_line 174 = .ok (.goto 4, 3) := by decide +kernel
theorem dX12_line_177 : decode cX12_line 177 = .ok (.iconst 0, 1) := by decide +kernel
theorem dX12_line_178 : decode cX12_line 178 = .ok (.iconst 3, 1) := by decide +kernel
theorem dX12_line_179 : decode cX12_line 179 = .ok (.invokevirtual 168, 3) := by decide +kernel
theorem dX12_line_182 : decode cX12_line 182 = .ok (.ifCond .ne 39, 3) := by decide +kernel
theorem dX12_line_185 : decode cX12_line 185 = .ok (.aload_n 0, 1) := by decide +kernel
theorem dX12_line_186 : decode cX12_line 186 = .ok (.iload_n 3, 1) := by decide +kernel
theorem dX12_line_187 : decode cX12_line 187 = .ok (.iconst 1, 1) := by decide +kernel
theorem dX12_line_188 : decode cX12_line 188 = .ok (.bipush 8, 2) := by decide +kernel
theorem dX12_line_190 : decode cX12_line 190 = .ok (.invokestatic 47, 3) := by decide +kernel
theorem dX12_line_193 : decode cX12_line 193 = .ok (.ifCond .eq 15, 3) := by decide +kernel
theorem dX12_line_196 : decode cX12_line 196 = .ok (.iload 4, 2) := by decide +kernel
theorem dX12_line_198 : decode cX12_line 198 = .ok (.iconst 0, 1) := by decide +kernel
theorem dX12_line_199 : decode cX12_line 199 = .ok (.sipush 30000, 3) := by decide +kernel
theorem dX12_line_202 : decode cX12_line 202 = .ok (.invokestatic 47, 3) := by decide +kernel
theorem dX12_line_205 : decode cX12_line 205 = .ok (.ifCond .ne 7, 3) := by decide +kernel
theorem dX12_line_208 : decode cX12_line 208 = .ok (.iconst 1, 1) := by decide +kernel
theorem dX12_line_209 : decode cX12_line 209 = .ok (.goto 4, 3) := by decide +kernel
theorem dX12_line_212 : decode cX12_line 212 = .ok (.iconst 0, 1) := by decide +kernel
theorem dX12_line_213 : decode cX12_line 213 = .ok (.bipush 7, 2) := by decide +kernel
theorem dX12_line_215 : decode cX12_line 215 = .ok (.invokevirtual 168, 3) := by decide +kernel
theorem dX12_line_218 : decode cX12_line 218 = .ok (.ifCond .eq 8, 3) := by decide +kernel
theorem dX12_line_221 : decode cX12_line 221 = .ok (.aload_n 0, 1) := by decide +kernel
theorem dX12_line_222 : decode cX12_line 222 = .ok (.invokevirtual 172, 3) := by decide +kernel
theorem dX12_line_225 : decode cX12_line 225 = .ok (.ireturn, 1) := by decide +kernel
theorem dX12_line_226 : decode cX12_line 226 = .ok (.sipush 252, 3) := by decide +kernel
theorem dX12_line_229 : decode cX12_line 229 = .ok (.bipush 12, 2) := by decide +kernel
theorem dX12_line_231 : decode cX12_line 231 = .ok (.aload_n 0, 1) := by decide +kernel
theorem dX12_line_232 : decode cX12_line 232 = .ok (.getfield 7, 3) := by decide +kernel
theorem dX12_line_235 : decode cX12_line 235 = .ok (.sipush 1640, 3) := by decide +kernel
theorem dX12_line_238 : decode cX12_line 238 = .ok (.iaload, 1) := by decide +kernel
theorem dX12_line_239 : decode cX12_line 239 = .ok (.imul, 1) := by decide +kernel
theorem dX12_line_240 : decode cX12_line 240 = .ok (.iadd, 1) := by decide +kernel
theorem dX12_line_241 : decode cX12_line 241 = .ok (.istore 6, 2) := by decide +kernel
theorem dX12_line_243 : decode cX12_line 243 = .ok (.aload_n 0, 1) := by decide +kernel
theorem dX12_line_244 : decode cX12_line 244 = .ok (.getfield 7, 3) := by decide +kernel
theorem dX12_line_247 : decode cX12_line 247 = .ok (.iload 6, 2) := by decide +kernel
theorem dX12_line_249 : decode cX12_line 249 = .ok (.iload_n 1, 1) := by decide +kernel
theorem dX12_line_250 : decode cX12_line 250 = .ok (.iastore, 1) := by decide +kernel
theorem dX12_line_251 : decode cX12_line 251 = .ok (.aload_n 0, 1) := by decide +kernel
theorem dX12_line_252 : decode cX12_line 252 = .ok (.getfield 7, 3) := by decide +kernel
theorem dX12_line_255 : decode cX12_line 255 = .ok (.iload 6, 2) := by decide +kernel
theorem dX12_line_257 : decode cX12_line 257 = .ok (.iconst 1, 1) := by decide +kernel
theorem dX12_line_258 : decode cX12_line 258 = .ok (.iadd, 1) := by decide +kernel
theorem dX12_line_259 : decode cX12_line 259 = .ok (.iload_n 2, 1) := by decide +kernel
theorem dX12_line_260 : decode cX12_line 260 = .ok (.iastore, 1) := by decide +kernel
theorem dX12_line_261 : decode cX12_line 261 = .ok (.aload_n 0, 1) := by decide +kernel
theorem dX12_line_262 : decode cX12_line 262 = .ok (.getfield 7, 3) := by decide +kernel
theorem dX12_line_265 : decode cX12_line 265 = .ok (.iload 6, 2) := by decide +kernel
theorem dX12_line_267 : decode cX12_line 267 = .ok (.iconst 2, 1) := by decide +kernel
theorem dX12_line_268 : decode cX12_line 268 = .ok (.iadd, 1) := by decide +kernel
theorem dX12_line_269 : decode cX12_line 269 = .ok (.iload_n 3, 1) := by decide +kernel
theorem dX12_line_270 : decode cX12_line 270 = .ok (.iastore, 1) := by decide +kernel
theorem dX12_line_271 : decode cX12_line 271 = .ok (.aload_n 0, 1) := by decide +kernel
theorem dX12_line_272 : decode cX12_line 272 = .ok (.getfield 7, 3) := by decide +kernel
theorem dX12_line_275 : decode cX12_line 275 = .ok (.iload 6, 2) := by decide +kernel
theorem dX12_line_277 : decode cX12_line 277 = .ok (.iconst 3, 1) := by decide +kernel
theorem dX12_line_278 : decode cX12_line 278 = .ok (.iadd, 1) := by decide +kernel
theorem dX12_line_279 : decode cX12_line 279 = .ok (.iconst 1, 1) := by decide +kernel
theorem dX12_line_280 : decode cX12_line 280 = .ok (.iastore, 1) := by decide +kernel
theorem dX12_line_281 : decode cX12_line 281 = .ok (.iconst 0, 1) := by decide +kernel
theorem dX12_line_282 : decode cX12_line 282 = .ok (.istore 7, 2) := by decide +kernel
theorem dX12_line_284 : decode cX12_line 284 = .ok (.iload 7, 2) := by decide +kernel
theorem dX12_line_286 : decode cX12_line 286 = .ok (.iload_n 3, 1) := by decide +kernel
theorem dX12_line_287 : decode cX12_line 287 = .ok (.if_icmp .ge 23, 3) := by decide +kernel
theorem dX12_line_290 : decode cX12_line 290 = .ok (.aload_n 0, 1) := by decide +kernel
theorem dX12_line_291 : decode cX12_line 291 = .ok (.getfield 7, 3) := by decide +kernel
theorem dX12_line_294 : decode cX12_line 294 = .ok (.iload 6, 2) := by decide +kernel
theorem dX12_line_296 : decode cX12_line 296 = .ok (.iconst 4, 1) := by decide +kernel
theorem dX12_line_297 : decode cX12_line 297 = .ok (.iadd, 1) := by decide +kernel
theorem dX12_line_298 : decode cX12_line 298 = .ok (.iload 7, 2) := by decide +kernel
theorem dX12_line_300 : decode cX12_line 300 = .ok (.iadd, 1) := by decide +kernel
theorem dX12_line_301 : decode cX12_line 301 = .ok (.iload 4, 2) := by decide +kernel
theorem dX12_line_303 : decode cX12_line 303 = .ok (.iastore, 1) := by decide +kernel
theorem dX12_line_304 : decode cX12_line 304 = .ok (.iinc 7 1, 3) := by decide +kernel
theorem dX12_line_307 : decode cX12_line 307 = .ok (.goto (-23), 3) := by decide +kernel
theorem dX12_line_310 : decode cX12_line 310 = .ok (.aload_n 0, 1) := by decide +kernel
theorem dX12_line_311 : decode cX12_line 311 = .ok (.getfield 7, 3) := by decide +kernel
theorem dX12_line_314 : decode cX12_line 314 = .ok (.sipush 1640, 3) := by decide +kernel
theorem dX12_line_317 : decode cX12_line 317 = .ok (.dup2, 1) := by decide +kernel
theorem dX12_line_318 : decode cX12_line 318 = .ok (.iaload, 1) := by decide +kernel
theorem dX12_line_319 : decode cX12_line 319 = .ok (.iconst 1, 1) := by decide +kernel
theorem dX12_line_320 : decode cX12_line 320 = .ok (.iadd, 1) := by decide +kernel
theorem dX12_line_321 : decode cX12_line 321 = .ok (.iastore, 1) := by decide +kernel
theorem dX12_line_322 : decode cX12_line 322 = .ok (.aload_n 0, 1) := by decide +kernel
theorem dX12_line_323 : decode cX12_line 323 = .ok (.aload_n 0, 1) := by decide +kernel
theorem dX12_line_324 : decode cX12_line 324 = .ok (.getfield 7, 3) := by decide +kernel
theorem dX12_line_327 : decode cX12_line 327 = .ok (.sipush 1640, 3) := by decide +kernel
theorem dX12_line_330 : decode cX12_line 330 = .ok (.iaload, 1) := by decide +kernel
theorem dX12_line_331 : decode cX12_line 331 = .ok (.iconst 1, 1) := by decide +kernel
theorem dX12_line_332 : decode cX12_line 332 = .ok (.isub, 1) := by decide +kernel
theorem dX12_line_333 : decode cX12_line 333 = .ok (.invokevirtual 176, 3) := by decide +kernel
theorem dX12_line_336 : decode cX12_line 336 = .ok (.ireturn, 1) := by decide +kernel
theorem w_X12_line_j67 {z : (Int32 × VT)} {Γ : Gam} {cy : Nat → ClassId} {a : Nat → Nat} {V : VT} {X : va_W}  (C0 : CXg Γ cX12_line 8 3 RX12 cy) (hD : DM Γ cy a X) (h : f_X12_line_j67 V = some z) (hz : (fun y : Int32 × VT => FinI Γ cX12_line (WM cy a y.2 X) y.1) z) : Wp Γ 0 0 67 [(0, .ref (a 0))] [] (WM cy a V X) := by
  unfold f_X12_line_j67 at h
  refine r_aload_n C0 dX12_line_67 rfl 0 rfl ?_
  refine callV0 C0 h (hD _) mw_X12_refused rv_m tm_X12_172 (fun y hy => c_X12_refused hy) (Nat.le_of_ble_eq_true rfl) (Nat.le_of_ble_eq_true rfl) dX12_line_68 (fun r4 h => ?_)
  cases h
  exact hz _ _ dX12_line_71
theorem w_X12_line_j221 {z : (Int32 × VT)} {Γ : Gam} {cy : Nat → ClassId} {a : Nat → Nat} {V : VT} {X : va_W}  (C0 : CXg Γ cX12_line 8 3 RX12 cy) (hD : DM Γ cy a X) (h : f_X12_line_j221 V = some z) (hz : (fun y : Int32 × VT => FinI Γ cX12_line (WM cy a y.2 X) y.1) z) : Wp Γ 0 0 221 [(0, .ref (a 0))] [] (WM cy a V X) := by
  unfold f_X12_line_j221 at h
  refine r_aload_n C0 dX12_line_221 rfl 0 rfl ?_
  refine callV0 C0 h (hD _) mw_X12_refused rv_m tm_X12_172 (fun y hy => c_X12_refused hy) (Nat.le_of_ble_eq_true rfl) (Nat.le_of_ble_eq_true rfl) dX12_line_222 (fun r14 h => ?_)
  cases h
  exact hz _ _ dX12_line_225
theorem w_X12_line_B284 {x : Int32 × VT} {z : ((Int32 × VT) ⊕ (Int32 × VT))} {Γ : Gam} {cy : Nat → ClassId} {a : Nat → Nat} {X : va_W} {v3 : Int32} {v4 : Int32} {v6 : Int32}  (C0 : CXg Γ cX12_line 8 3 RX12 cy) (hD : DM Γ cy a X) (h : f_X12_line_B284 v3 v4 v6 x = some z) (hz : (Sum.elim (fun x : Int32 × VT => Wp Γ 0 0 284 [(0, .ref (a 0)), (3, .int v3), (4, .int v4), (6, .int v6), (7, .int x.1)] [] (WM cy a x.2 X)) (fun y : Int32 × VT => FinI Γ cX12_line (WM cy a y.2 X) y.1)) z) : Wp Γ 0 0 284 [(0, .ref (a 0)), (3, .int v3), (4, .int v4), (6, .int v6), (7, .int x.1)] [] (WM cy a x.2 X) := by
  unfold f_X12_line_B284 at h
  refine r_iload C0 dX12_line_284 4 rfl ?_
  refine r_iload_n C0 dX12_line_286 rfl 1 rfl ?_
  refine r_icmp_ge C0 310 dX12_line_287 rfl h (fun _ h => ?_) (fun _ h => ?_)
  · obtain ⟨y27, h5, h9⟩ := op_bind h
    clear h
    cases h9
    have hz := (el_inr hz)
    have h := h5
    refine r_aload_n C0 dX12_line_310 rfl 0 rfl ?_
    refine wmg_0_0 C0 tf_X12_7 dX12_line_311 ?_
    refine r_sipush C0 dX12_line_314 ks_1640 ?_
    refine r_dup2 C0 dX12_line_317 rfl rfl ?_
    refine wmal_1 C0 h dX12_line_318 (fun k28 h => ?_)
    refine r_iconst C0 dX12_line_319 ki_1 ?_
    refine r_iadd C0 dX12_line_320 ?_
    refine wmas_1 C0 hD h dX12_line_321 (fun k29 h => ?_)
    refine r_aload_n C0 dX12_line_322 rfl 0 rfl ?_
    refine r_aload_n C0 dX12_line_323 rfl 0 rfl ?_
    refine wmg_0_0 C0 tf_X12_7 dX12_line_324 ?_
    refine r_sipush C0 dX12_line_327 ks_1640 ?_
    refine wmal_1 C0 h dX12_line_330 (fun k30 h => ?_)
    refine r_iconst C0 dX12_line_331 ki_1 ?_
    refine r_isub C0 dX12_line_332 ?_
    refine callV1 C0 h (hD _) mw_X12_keep rv_m tm_X12_176 (fun y hy => c_X12_keep hy) (Nat.le_of_ble_eq_true rfl) (Nat.le_of_ble_eq_true rfl) dX12_line_333 (fun r31 h => ?_)
    cases h
    exact hz _ _ dX12_line_336
  · refine r_aload_n C0 dX12_line_290 rfl 0 rfl ?_
    refine wmg_0_0 C0 tf_X12_7 dX12_line_291 ?_
    refine r_iload C0 dX12_line_294 3 rfl ?_
    refine r_iconst C0 dX12_line_296 ki_4 ?_
    refine r_iadd C0 dX12_line_297 ?_
    refine r_iload C0 dX12_line_298 4 rfl ?_
    refine r_iadd C0 dX12_line_300 ?_
    refine r_iload C0 dX12_line_301 2 rfl ?_
    refine wmas_1 C0 hD h dX12_line_303 (fun k32 h => ?_)
    obtain ⟨a33, h8, h⟩ := op_bind h
    have e8 := Option.some.inj h8
    refine r_iinc (lv2 := [(7, .int a33), (0, .ref (a 0)), (3, .int v3), (4, .int v4), (6, .int v6)]) C0 dX12_line_304 4 rfl ki_1 e8 (Nat.le_of_ble_eq_true rfl) rfl ?_
    refine r_goto C0 284 dX12_line_307 rfl ?_
    cases h
    have hz := el_inl hz
    exact r_sub [1, 2, 3, 4, 0] rfl hz
theorem w_X12_line_B284_lp {x : Int32 × VT} {z : (Int32 × VT)} {Γ : Gam} {cy : Nat → ClassId} {a : Nat → Nat} {X : va_W} {v3 : Int32} {v4 : Int32} {v6 : Int32}  (C0 : CXg Γ cX12_line 8 3 RX12 cy) (hD : DM Γ cy a X) (h : lp (f_X12_line_B284 v3 v4 v6) fuel x = some z) (hz : (fun y : Int32 × VT => FinI Γ cX12_line (WM cy a y.2 X) y.1) z) : Wp Γ 0 0 284 [(0, .ref (a 0)), (3, .int v3), (4, .int v4), (6, .int v6), (7, .int x.1)] [] (WM cy a x.2 X) :=
  lp_rule (hd := (fun x : Int32 × VT => Wp Γ 0 0 284 [(0, .ref (a 0)), (3, .int v3), (4, .int v4), (6, .int v6), (7, .int x.1)] [] (WM cy a x.2 X))) (C := (fun y : Int32 × VT => FinI Γ cX12_line (WM cy a y.2 X) y.1)) (fun x z h hz => w_X12_line_B284 C0 hD h hz) _ _ _ h hz
theorem w_X12_line_j213 {z : (Int32 × VT)} {Γ : Gam} {cy : Nat → ClassId} {a : Nat → Nat} {V : VT} {X : va_W} {v1 : Int32} {v2 : Int32} {v3 : Int32} {v4 : Int32} {s1 : Int32}  (C0 : CXg Γ cX12_line 8 3 RX12 cy) (hD : DM Γ cy a X) (h : f_X12_line_j213 v1 v2 v3 v4 s1 V = some z) (hz : (fun y : Int32 × VT => FinI Γ cX12_line (WM cy a y.2 X) y.1) z) : Wp Γ 0 0 213 [(0, .ref (a 0)), (1, .int v1), (2, .int v2), (3, .int v3), (4, .int v4)] [.int s1, .ref (a 0)] (WM cy a V X) := by
  unfold f_X12_line_j213 at h
  refine r_bipush C0 dX12_line_213 kb_7 ?_
  refine callV2 C0 h (hD _) mw_X12_is rv_m tm_X12_168 (fun y hy => c_X12_is hy) (Nat.le_of_ble_eq_true rfl) (Nat.le_of_ble_eq_true rfl) dX12_line_215 (fun r19 h => ?_)
  refine r_if_eq C0 226 dX12_line_218 rfl h (fun _ h => ?_) (fun _ h => ?_)
  · refine r_sipush C0 dX12_line_226 ks_252 ?_
    refine r_bipush C0 dX12_line_229 kb_12 ?_
    refine r_aload_n C0 dX12_line_231 rfl 0 rfl ?_
    refine wmg_0_0 C0 tf_X12_7 dX12_line_232 ?_
    refine r_sipush C0 dX12_line_235 ks_1640 ?_
    refine wmal_1 C0 h dX12_line_238 (fun k20 h => ?_)
    refine r_imul C0 dX12_line_239 ?_
    refine r_iadd C0 dX12_line_240 ?_
    obtain ⟨a21, h8, h⟩ := op_bind h
    have e8 := Option.some.inj h8
    refine r_istore (lv2 := [(6, .int a21), (0, .ref (a 0)), (1, .int v1), (2, .int v2), (3, .int v3), (4, .int v4)]) C0 dX12_line_241 e8 (Nat.le_of_ble_eq_true rfl) rfl ?_
    refine r_aload_n C0 dX12_line_243 rfl 1 rfl ?_
    refine wmg_0_0 C0 tf_X12_7 dX12_line_244 ?_
    refine r_iload C0 dX12_line_247 0 rfl ?_
    refine r_iload_n C0 dX12_line_249 rfl 2 rfl ?_
    refine wmas_1 C0 hD h dX12_line_250 (fun k22 h => ?_)
    refine r_aload_n C0 dX12_line_251 rfl 1 rfl ?_
    refine wmg_0_0 C0 tf_X12_7 dX12_line_252 ?_
    refine r_iload C0 dX12_line_255 0 rfl ?_
    refine r_iconst C0 dX12_line_257 ki_1 ?_
    refine r_iadd C0 dX12_line_258 ?_
    refine r_iload_n C0 dX12_line_259 rfl 3 rfl ?_
    refine wmas_1 C0 hD h dX12_line_260 (fun k23 h => ?_)
    refine r_aload_n C0 dX12_line_261 rfl 1 rfl ?_
    refine wmg_0_0 C0 tf_X12_7 dX12_line_262 ?_
    refine r_iload C0 dX12_line_265 0 rfl ?_
    refine r_iconst C0 dX12_line_267 ki_2 ?_
    refine r_iadd C0 dX12_line_268 ?_
    refine r_iload_n C0 dX12_line_269 rfl 4 rfl ?_
    refine wmas_1 C0 hD h dX12_line_270 (fun k24 h => ?_)
    refine r_aload_n C0 dX12_line_271 rfl 1 rfl ?_
    refine wmg_0_0 C0 tf_X12_7 dX12_line_272 ?_
    refine r_iload C0 dX12_line_275 0 rfl ?_
    refine r_iconst C0 dX12_line_277 ki_3 ?_
    refine r_iadd C0 dX12_line_278 ?_
    refine r_iconst C0 dX12_line_279 ki_1 ?_
    refine wmas_1 C0 hD h dX12_line_280 (fun k25 h => ?_)
    refine r_iconst C0 dX12_line_281 ki_0 ?_
    obtain ⟨a26, h8, h⟩ := op_bind h
    have e8 := Option.some.inj h8
    refine r_istore (lv2 := [(7, .int a26), (6, .int a21), (0, .ref (a 0)), (1, .int v1), (2, .int v2), (3, .int v3), (4, .int v4)]) C0 dX12_line_282 e8 (Nat.le_of_ble_eq_true rfl) rfl ?_
    exact r_sub [2, 5, 6, 1, 0] rfl (w_X12_line_B284_lp C0 hD h hz)
  · exact r_sub [0] rfl (w_X12_line_j221 C0 hD h hz)
theorem w_X12_line_j208 {z : (Int32 × VT)} {Γ : Gam} {cy : Nat → ClassId} {a : Nat → Nat} {V : VT} {X : va_W} {v1 : Int32} {v2 : Int32} {v3 : Int32} {v4 : Int32}  (C0 : CXg Γ cX12_line 8 3 RX12 cy) (hD : DM Γ cy a X) (h : f_X12_line_j208 v1 v2 v3 v4 V = some z) (hz : (fun y : Int32 × VT => FinI Γ cX12_line (WM cy a y.2 X) y.1) z) : Wp Γ 0 0 208 [(0, .ref (a 0)), (1, .int v1), (2, .int v2), (3, .int v3), (4, .int v4)] [.ref (a 0)] (WM cy a V X) := by
  unfold f_X12_line_j208 at h
  refine r_iconst C0 dX12_line_208 ki_1 ?_
  refine r_goto C0 213 dX12_line_209 rfl ?_
  exact r_sub [0, 1, 2, 3, 4] rfl (w_X12_line_j213 C0 hD h hz)
theorem w_X12_line_j178 {z : (Int32 × VT)} {Γ : Gam} {cy : Nat → ClassId} {a : Nat → Nat} {V : VT} {X : va_W} {v1 : Int32} {v2 : Int32} {v3 : Int32} {v4 : Int32} {s1 : Int32}  (C0 : CXg Γ cX12_line 8 3 RX12 cy) (hD : DM Γ cy a X) (h : f_X12_line_j178 v1 v2 v3 v4 s1 V = some z) (hz : (fun y : Int32 × VT => FinI Γ cX12_line (WM cy a y.2 X) y.1) z) : Wp Γ 0 0 178 [(0, .ref (a 0)), (1, .int v1), (2, .int v2), (3, .int v3), (4, .int v4)] [.int s1, .ref (a 0)] (WM cy a V X) := by
  unfold f_X12_line_j178 at h
  refine r_iconst C0 dX12_line_178 ki_3 ?_
  refine callV2 C0 h (hD _) mw_X12_is rv_m tm_X12_168 (fun y hy => c_X12_is hy) (Nat.le_of_ble_eq_true rfl) (Nat.le_of_ble_eq_true rfl) dX12_line_179 (fun r17 h => ?_)
  refine r_if_ne C0 221 dX12_line_182 rfl h (fun _ h => ?_) (fun _ h => ?_)
  · exact r_sub [0] rfl (w_X12_line_j221 C0 hD h hz)
  · refine r_aload_n C0 dX12_line_185 rfl 0 rfl ?_
    refine r_iload_n C0 dX12_line_186 rfl 3 rfl ?_
    refine r_iconst C0 dX12_line_187 ki_1 ?_
    refine r_bipush C0 dX12_line_188 kb_8 ?_
    refine callS3 C0 h (hD _) ms_X12_in tm_X12_47 (fun y hy => c_X12_in hy) (Nat.le_of_ble_eq_true rfl) (Nat.le_of_ble_eq_true rfl) dX12_line_190 (fun r18 h => ?_)
    refine r_if_eq C0 208 dX12_line_193 rfl h (fun _ h => ?_) (fun _ h => ?_)
    · exact r_sub [0, 1, 2, 3, 4] rfl (w_X12_line_j208 C0 hD h hz)
    · refine r_iload C0 dX12_line_196 4 rfl ?_
      refine r_iconst C0 dX12_line_198 ki_0 ?_
      refine r_sipush C0 dX12_line_199 ks_30000 ?_
      refine callS3 C0 h (hD _) ms_X12_in tm_X12_47 (fun y hy => c_X12_in hy) (Nat.le_of_ble_eq_true rfl) (Nat.le_of_ble_eq_true rfl) dX12_line_202 (fun r34 h => ?_)
      refine r_if_ne C0 212 dX12_line_205 rfl h (fun _ h => ?_) (fun _ h => ?_)
      · refine r_iconst C0 dX12_line_212 ki_0 ?_
        exact r_sub [0, 1, 2, 3, 4] rfl (w_X12_line_j213 C0 hD h hz)
      · exact r_sub [0, 1, 2, 3, 4] rfl (w_X12_line_j208 C0 hD h hz)
theorem w_X12_line_j160 {z : (Int32 × VT)} {Γ : Gam} {cy : Nat → ClassId} {a : Nat → Nat} {V : VT} {X : va_W} {v1 : Int32} {v2 : Int32} {v3 : Int32} {v4 : Int32} {s1 : Int32}  (C0 : CXg Γ cX12_line 8 3 RX12 cy) (hD : DM Γ cy a X) (h : f_X12_line_j160 v1 v2 v3 v4 s1 V = some z) (hz : (fun y : Int32 × VT => FinI Γ cX12_line (WM cy a y.2 X) y.1) z) : Wp Γ 0 0 160 [(0, .ref (a 0)), (1, .int v1), (2, .int v2), (3, .int v3), (4, .int v4)] [.int s1, .ref (a 0)] (WM cy a V X) := by
  unfold f_X12_line_j160 at h
  refine r_bipush C0 dX12_line_160 kb_11 ?_
  refine callV2 C0 h (hD _) mw_X12_is rv_m tm_X12_168 (fun y hy => c_X12_is hy) (Nat.le_of_ble_eq_true rfl) (Nat.le_of_ble_eq_true rfl) dX12_line_162 (fun r16 h => ?_)
  refine r_if_ne C0 221 dX12_line_165 rfl h (fun _ h => ?_) (fun _ h => ?_)
  · exact r_sub [0] rfl (w_X12_line_j221 C0 hD h hz)
  · refine r_aload_n C0 dX12_line_168 rfl 0 rfl ?_
    refine r_iload_n C0 dX12_line_169 rfl 3 rfl ?_
    refine r_if_ge C0 177 dX12_line_170 rfl h (fun _ h => ?_) (fun _ h => ?_)
    · refine r_iconst C0 dX12_line_177 ki_0 ?_
      exact r_sub [0, 1, 2, 3, 4] rfl (w_X12_line_j178 C0 hD h hz)
    · refine r_iconst C0 dX12_line_173 ki_1 ?_
      refine r_goto C0 178 dX12_line_174 rfl ?_
      exact r_sub [0, 1, 2, 3, 4] rfl (w_X12_line_j178 C0 hD h hz)
theorem w_X12_line_j122 {z : ((Int32 × Int32) ⊕ (Int32 × VT))} {Γ : Gam} {cy : Nat → ClassId} {a : Nat → Nat} {V : VT} {X : va_W} {v1 : Int32} {v2 : Int32} {v3 : Int32} {v4 : Int32} {v6 : Int32} {s0 : Int32}  (C0 : CXg Γ cX12_line 8 3 RX12 cy) (hD : DM Γ cy a X) (h : f_X12_line_j122 v1 v2 v3 v4 v6 s0 V = some z) (hz : (Sum.elim (fun x : Int32 × Int32 => Wp Γ 0 0 78 [(0, .ref (a 0)), (1, .int v1), (2, .int v2), (3, .int v3), (4, .int v4), (5, .int x.1), (6, .int x.2)] [] (WM cy a V X)) (fun y : Int32 × VT => FinI Γ cX12_line (WM cy a y.2 X) y.1)) z) : Wp Γ 0 0 122 [(0, .ref (a 0)), (1, .int v1), (2, .int v2), (3, .int v3), (4, .int v4), (6, .int v6)] [.int s0] (WM cy a V X) := by
  unfold f_X12_line_j122 at h
  refine r_istore (lv2 := [(5, .int s0), (0, .ref (a 0)), (1, .int v1), (2, .int v2), (3, .int v3), (4, .int v4), (6, .int v6)]) C0 dX12_line_122 rfl (Nat.le_of_ble_eq_true rfl) rfl ?_
  obtain ⟨a35, h8, h⟩ := op_bind h
  have e8 := Option.some.inj h8
  refine r_iinc (lv2 := [(6, .int a35), (5, .int s0), (0, .ref (a 0)), (1, .int v1), (2, .int v2), (3, .int v3), (4, .int v4)]) C0 dX12_line_124 6 rfl ki_1 e8 (Nat.le_of_ble_eq_true rfl) rfl ?_
  refine r_goto C0 78 dX12_line_127 rfl ?_
  cases h
  have hz := el_inl hz
  exact r_sub [2, 3, 4, 5, 6, 1, 0] rfl hz
theorem w_X12_line_j117 {z : ((Int32 × Int32) ⊕ (Int32 × VT))} {Γ : Gam} {cy : Nat → ClassId} {a : Nat → Nat} {V : VT} {X : va_W} {v1 : Int32} {v2 : Int32} {v3 : Int32} {v4 : Int32} {v6 : Int32}  (C0 : CXg Γ cX12_line 8 3 RX12 cy) (hD : DM Γ cy a X) (h : f_X12_line_j117 v1 v2 v3 v4 v6 V = some z) (hz : (Sum.elim (fun x : Int32 × Int32 => Wp Γ 0 0 78 [(0, .ref (a 0)), (1, .int v1), (2, .int v2), (3, .int v3), (4, .int v4), (5, .int x.1), (6, .int x.2)] [] (WM cy a V X)) (fun y : Int32 × VT => FinI Γ cX12_line (WM cy a y.2 X) y.1)) z) : Wp Γ 0 0 117 [(0, .ref (a 0)), (1, .int v1), (2, .int v2), (3, .int v3), (4, .int v4), (6, .int v6)] [] (WM cy a V X) := by
  unfold f_X12_line_j117 at h
  refine r_iconst C0 dX12_line_117 ki_1 ?_
  refine r_goto C0 122 dX12_line_118 rfl ?_
  exact r_sub [0, 1, 2, 3, 4, 5] rfl (w_X12_line_j122 C0 hD h hz)
theorem w_X12_line_j121 {z : ((Int32 × Int32) ⊕ (Int32 × VT))} {Γ : Gam} {cy : Nat → ClassId} {a : Nat → Nat} {V : VT} {X : va_W} {v1 : Int32} {v2 : Int32} {v3 : Int32} {v4 : Int32} {v6 : Int32}  (C0 : CXg Γ cX12_line 8 3 RX12 cy) (hD : DM Γ cy a X) (h : f_X12_line_j121 v1 v2 v3 v4 v6 V = some z) (hz : (Sum.elim (fun x : Int32 × Int32 => Wp Γ 0 0 78 [(0, .ref (a 0)), (1, .int v1), (2, .int v2), (3, .int v3), (4, .int v4), (5, .int x.1), (6, .int x.2)] [] (WM cy a V X)) (fun y : Int32 × VT => FinI Γ cX12_line (WM cy a y.2 X) y.1)) z) : Wp Γ 0 0 121 [(0, .ref (a 0)), (1, .int v1), (2, .int v2), (3, .int v3), (4, .int v4), (6, .int v6)] [] (WM cy a V X) := by
  unfold f_X12_line_j121 at h
  refine r_iconst C0 dX12_line_121 ki_0 ?_
  exact r_sub [0, 1, 2, 3, 4, 5] rfl (w_X12_line_j122 C0 hD h hz)
theorem w_X12_line_B78 {x : Int32 × Int32} {z : ((Int32 × Int32) ⊕ (Int32 × VT))} {Γ : Gam} {cy : Nat → ClassId} {a : Nat → Nat} {V : VT} {X : va_W} {v1 : Int32} {v2 : Int32} {v3 : Int32} {v4 : Int32}  (C0 : CXg Γ cX12_line 8 3 RX12 cy) (hD : DM Γ cy a X) (h : f_X12_line_B78 v1 v2 v3 v4 V x = some z) (hz : (Sum.elim (fun x : Int32 × Int32 => Wp Γ 0 0 78 [(0, .ref (a 0)), (1, .int v1), (2, .int v2), (3, .int v3), (4, .int v4), (5, .int x.1), (6, .int x.2)] [] (WM cy a V X)) (fun y : Int32 × VT => FinI Γ cX12_line (WM cy a y.2 X) y.1)) z) : Wp Γ 0 0 78 [(0, .ref (a 0)), (1, .int v1), (2, .int v2), (3, .int v3), (4, .int v4), (5, .int x.1), (6, .int x.2)] [] (WM cy a V X) := by
  unfold f_X12_line_B78 at h
  refine r_iload C0 dX12_line_78 6 rfl ?_
  refine r_aload_n C0 dX12_line_80 rfl 0 rfl ?_
  refine wmg_0_0 C0 tf_X12_7 dX12_line_81 ?_
  refine r_sipush C0 dX12_line_84 ks_1640 ?_
  refine wmal_1 C0 h dX12_line_87 (fun k11 h => ?_)
  refine r_icmp_ge C0 130 dX12_line_88 rfl h (fun _ h => ?_) (fun _ h => ?_)
  · obtain ⟨y12, h5, h9⟩ := op_bind h
    clear h
    cases h9
    have hz := (el_inr hz)
    have h := h5
    refine r_aload_n C0 dX12_line_130 rfl 0 rfl ?_
    refine r_iload C0 dX12_line_131 5 rfl ?_
    refine r_bipush C0 dX12_line_133 kb_8 ?_
    refine callV2 C0 h (hD _) mw_X12_is rv_m tm_X12_168 (fun y hy => c_X12_is hy) (Nat.le_of_ble_eq_true rfl) (Nat.le_of_ble_eq_true rfl) dX12_line_135 (fun r13 h => ?_)
    refine r_if_ne C0 221 dX12_line_138 rfl h (fun _ h => ?_) (fun _ h => ?_)
    · exact r_sub [0] rfl (w_X12_line_j221 C0 hD h hz)
    · refine r_aload_n C0 dX12_line_141 rfl 0 rfl ?_
      refine r_aload_n C0 dX12_line_142 rfl 0 rfl ?_
      refine wmg_0_0 C0 tf_X12_7 dX12_line_143 ?_
      refine r_sipush C0 dX12_line_146 ks_1640 ?_
      refine wmal_1 C0 h dX12_line_149 (fun k15 h => ?_)
      refine r_bipush C0 dX12_line_150 kb_40 ?_
      refine r_icmp_ne C0 159 dX12_line_152 rfl h (fun _ h => ?_) (fun _ h => ?_)
      · refine r_iconst C0 dX12_line_159 ki_0 ?_
        exact r_sub [0, 1, 2, 3, 4] rfl (w_X12_line_j160 C0 hD h hz)
      · refine r_iconst C0 dX12_line_155 ki_1 ?_
        refine r_goto C0 160 dX12_line_156 rfl ?_
        exact r_sub [0, 1, 2, 3, 4] rfl (w_X12_line_j160 C0 hD h hz)
  · refine r_iload C0 dX12_line_91 5 rfl ?_
    refine r_if_ne C0 117 dX12_line_93 rfl h (fun _ h => ?_) (fun _ h => ?_)
    · exact r_sub [0, 1, 2, 3, 4, 6] rfl (w_X12_line_j117 C0 hD h hz)
    · refine r_aload_n C0 dX12_line_96 rfl 0 rfl ?_
      refine r_iload C0 dX12_line_97 6 rfl ?_
      refine r_iload_n C0 dX12_line_99 rfl 1 rfl ?_
      refine callV2 C0 h (hD _) mw_X12_holds rv_m tm_X12_89 (fun y hy => c_X12_holds hy) (Nat.le_of_ble_eq_true rfl) (Nat.le_of_ble_eq_true rfl) dX12_line_100 (fun r36 h => ?_)
      refine r_if_eq C0 121 dX12_line_103 rfl h (fun _ h => ?_) (fun _ h => ?_)
      · exact r_sub [0, 1, 2, 3, 4, 6] rfl (w_X12_line_j121 C0 hD h hz)
      · refine r_aload_n C0 dX12_line_106 rfl 0 rfl ?_
        refine r_iload C0 dX12_line_107 6 rfl ?_
        refine r_iconst C0 dX12_line_109 ki_1 ?_
        refine callV2 C0 h (hD _) mw_X12_lineIs rv_m tm_X12_58 (fun y hy => c_X12_lineIs hy) (Nat.le_of_ble_eq_true rfl) (Nat.le_of_ble_eq_true rfl) dX12_line_110 (fun r37 h => ?_)
        refine r_iload_n C0 dX12_line_113 rfl 2 rfl ?_
        refine r_icmp_ne C0 121 dX12_line_114 rfl h (fun _ h => ?_) (fun _ h => ?_)
        · exact r_sub [0, 1, 2, 3, 4, 6] rfl (w_X12_line_j121 C0 hD h hz)
        · exact r_sub [0, 1, 2, 3, 4, 6] rfl (w_X12_line_j117 C0 hD h hz)
theorem w_X12_line_B78_lp {x : Int32 × Int32} {z : (Int32 × VT)} {Γ : Gam} {cy : Nat → ClassId} {a : Nat → Nat} {V : VT} {X : va_W} {v1 : Int32} {v2 : Int32} {v3 : Int32} {v4 : Int32}  (C0 : CXg Γ cX12_line 8 3 RX12 cy) (hD : DM Γ cy a X) (h : lp (f_X12_line_B78 v1 v2 v3 v4 V) fuel x = some z) (hz : (fun y : Int32 × VT => FinI Γ cX12_line (WM cy a y.2 X) y.1) z) : Wp Γ 0 0 78 [(0, .ref (a 0)), (1, .int v1), (2, .int v2), (3, .int v3), (4, .int v4), (5, .int x.1), (6, .int x.2)] [] (WM cy a V X) :=
  lp_rule (hd := (fun x : Int32 × Int32 => Wp Γ 0 0 78 [(0, .ref (a 0)), (1, .int v1), (2, .int v2), (3, .int v3), (4, .int v4), (5, .int x.1), (6, .int x.2)] [] (WM cy a V X))) (C := (fun y : Int32 × VT => FinI Γ cX12_line (WM cy a y.2 X) y.1)) (fun x z h hz => w_X12_line_B78 C0 hD h hz) _ _ _ h hz
theorem w_X12_line_j60 {z : (Int32 × VT)} {Γ : Gam} {cy : Nat → ClassId} {a : Nat → Nat} {V : VT} {X : va_W} {v1 : Int32} {v2 : Int32} {v3 : Int32} {v4 : Int32} {s1 : Int32}  (C0 : CXg Γ cX12_line 8 3 RX12 cy) (hD : DM Γ cy a X) (h : f_X12_line_j60 v1 v2 v3 v4 s1 V = some z) (hz : (fun y : Int32 × VT => FinI Γ cX12_line (WM cy a y.2 X) y.1) z) : Wp Γ 0 0 60 [(0, .ref (a 0)), (1, .int v1), (2, .int v2), (3, .int v3), (4, .int v4)] [.int s1, .ref (a 0)] (WM cy a V X) := by
  unfold f_X12_line_j60 at h
  refine r_iconst C0 dX12_line_60 ki_2 ?_
  refine callV2 C0 h (hD _) mw_X12_is rv_m tm_X12_168 (fun y hy => c_X12_is hy) (Nat.le_of_ble_eq_true rfl) (Nat.le_of_ble_eq_true rfl) dX12_line_61 (fun r8 h => ?_)
  refine r_if_eq C0 72 dX12_line_64 rfl h (fun _ h => ?_) (fun _ h => ?_)
  · refine r_iconst C0 dX12_line_72 ki_0 ?_
    obtain ⟨a9, h8, h⟩ := op_bind h
    have e8 := Option.some.inj h8
    refine r_istore (lv2 := [(5, .int a9), (0, .ref (a 0)), (1, .int v1), (2, .int v2), (3, .int v3), (4, .int v4)]) C0 dX12_line_73 e8 (Nat.le_of_ble_eq_true rfl) rfl ?_
    refine r_iconst C0 dX12_line_75 ki_0 ?_
    obtain ⟨a10, h8, h⟩ := op_bind h
    have e8 := Option.some.inj h8
    refine r_istore (lv2 := [(6, .int a10), (5, .int a9), (0, .ref (a 0)), (1, .int v1), (2, .int v2), (3, .int v3), (4, .int v4)]) C0 dX12_line_76 e8 (Nat.le_of_ble_eq_true rfl) rfl ?_
    exact r_sub [2, 3, 4, 5, 6, 1, 0] rfl (w_X12_line_B78_lp C0 hD h hz)
  · exact r_sub [0] rfl (w_X12_line_j67 C0 hD h hz)
theorem w_X12_line_j38 {z : (Int32 × VT)} {Γ : Gam} {cy : Nat → ClassId} {a : Nat → Nat} {V : VT} {X : va_W} {v1 : Int32} {v2 : Int32} {v3 : Int32} {v4 : Int32} {s1 : Int32}  (C0 : CXg Γ cX12_line 8 3 RX12 cy) (hD : DM Γ cy a X) (h : f_X12_line_j38 v1 v2 v3 v4 s1 V = some z) (hz : (fun y : Int32 × VT => FinI Γ cX12_line (WM cy a y.2 X) y.1) z) : Wp Γ 0 0 38 [(0, .ref (a 0)), (1, .int v1), (2, .int v2), (3, .int v3), (4, .int v4)] [.int s1, .ref (a 0)] (WM cy a V X) := by
  unfold f_X12_line_j38 at h
  refine r_iconst C0 dX12_line_38 ki_1 ?_
  refine callV2 C0 h (hD _) mw_X12_is rv_m tm_X12_168 (fun y hy => c_X12_is hy) (Nat.le_of_ble_eq_true rfl) (Nat.le_of_ble_eq_true rfl) dX12_line_39 (fun r6 h => ?_)
  refine r_if_ne C0 67 dX12_line_42 rfl h (fun _ h => ?_) (fun _ h => ?_)
  · exact r_sub [0] rfl (w_X12_line_j67 C0 hD h hz)
  · refine r_aload_n C0 dX12_line_45 rfl 0 rfl ?_
    refine r_aload_n C0 dX12_line_46 rfl 0 rfl ?_
    refine r_iload_n C0 dX12_line_47 rfl 1 rfl ?_
    refine r_iload_n C0 dX12_line_48 rfl 2 rfl ?_
    refine callV2 C0 h (hD _) mw_X12_isPlace rv_m tm_X12_118 (fun y hy => c_X12_isPlace hy) (Nat.le_of_ble_eq_true rfl) (Nat.le_of_ble_eq_true rfl) dX12_line_49 (fun r7 h => ?_)
    refine r_if_ne C0 59 dX12_line_52 rfl h (fun _ h => ?_) (fun _ h => ?_)
    · refine r_iconst C0 dX12_line_59 ki_0 ?_
      exact r_sub [0, 1, 2, 3, 4] rfl (w_X12_line_j60 C0 hD h hz)
    · refine r_iconst C0 dX12_line_55 ki_1 ?_
      refine r_goto C0 60 dX12_line_56 rfl ?_
      exact r_sub [0, 1, 2, 3, 4] rfl (w_X12_line_j60 C0 hD h hz)
theorem w_X12_line_j17 {z : (Int32 × VT)} {Γ : Gam} {cy : Nat → ClassId} {a : Nat → Nat} {V : VT} {X : va_W} {v1 : Int32} {v2 : Int32} {v3 : Int32} {v4 : Int32} {s1 : Int32}  (C0 : CXg Γ cX12_line 8 3 RX12 cy) (hD : DM Γ cy a X) (h : f_X12_line_j17 v1 v2 v3 v4 s1 V = some z) (hz : (fun y : Int32 × VT => FinI Γ cX12_line (WM cy a y.2 X) y.1) z) : Wp Γ 0 0 17 [(0, .ref (a 0)), (1, .int v1), (2, .int v2), (3, .int v3), (4, .int v4)] [.int s1, .ref (a 0)] (WM cy a V X) := by
  unfold f_X12_line_j17 at h
  refine r_iconst C0 dX12_line_17 ki_2 ?_
  refine callV2 C0 h (hD _) mw_X12_is rv_m tm_X12_168 (fun y hy => c_X12_is hy) (Nat.le_of_ble_eq_true rfl) (Nat.le_of_ble_eq_true rfl) dX12_line_18 (fun r3 h => ?_)
  refine r_if_ne C0 67 dX12_line_21 rfl h (fun _ h => ?_) (fun _ h => ?_)
  · exact r_sub [0] rfl (w_X12_line_j67 C0 hD h hz)
  · refine r_aload_n C0 dX12_line_24 rfl 0 rfl ?_
    refine r_aload_n C0 dX12_line_25 rfl 0 rfl ?_
    refine r_iload_n C0 dX12_line_26 rfl 1 rfl ?_
    refine callV1 C0 h (hD _) mw_X12_isRigged rv_m tm_X12_66 (fun y hy => c_X12_isRigged hy) (Nat.le_of_ble_eq_true rfl) (Nat.le_of_ble_eq_true rfl) dX12_line_27 (fun r5 h => ?_)
    refine r_if_ne C0 37 dX12_line_30 rfl h (fun _ h => ?_) (fun _ h => ?_)
    · refine r_iconst C0 dX12_line_37 ki_0 ?_
      exact r_sub [0, 1, 2, 3, 4] rfl (w_X12_line_j38 C0 hD h hz)
    · refine r_iconst C0 dX12_line_33 ki_1 ?_
      refine r_goto C0 38 dX12_line_34 rfl ?_
      exact r_sub [0, 1, 2, 3, 4] rfl (w_X12_line_j38 C0 hD h hz)
theorem w_X12_line {z : Int32 × VT} {Γ : Gam} {cy : Nat → ClassId} {a : Nat → Nat} {V : VT} {X : va_W} {v1 : Int32} {v2 : Int32} {v3 : Int32} {v4 : Int32}  (C0 : CXg Γ cX12_line 8 3 RX12 cy) (hD : DM Γ cy a X) (h : f_X12_line v1 v2 v3 v4 V = some z) (hz : (fun y : Int32 × VT => FinI Γ cX12_line (WM cy a y.2 X) y.1) z) : Wp Γ 0 0 0 [(0, .ref (a 0)), (1, .int v1), (2, .int v2), (3, .int v3), (4, .int v4)] [] (WM cy a V X) := by
  unfold f_X12_line at h
  refine r_aload_n C0 dX12_line_0 rfl 0 rfl ?_
  refine callVv0 C0 h (hD _) mw_X12_begin rv_m tm_X12_165 (fun y hy => c_X12_begin hy) (Nat.le_of_ble_eq_true rfl) (Nat.le_of_ble_eq_true rfl) dX12_line_1 (fun r1 h => ?_)
  refine r_aload_n C0 dX12_line_4 rfl 0 rfl ?_
  refine r_iload_n C0 dX12_line_5 rfl 1 rfl ?_
  refine callS1 C0 h (hD _) ms_X12_isBar tm_X12_115 (fun y hy => c_X12_isBar hy) (Nat.le_of_ble_eq_true rfl) (Nat.le_of_ble_eq_true rfl) dX12_line_6 (fun r2 h => ?_)
  refine r_if_ne C0 16 dX12_line_9 rfl h (fun _ h => ?_) (fun _ h => ?_)
  · refine r_iconst C0 dX12_line_16 ki_0 ?_
    exact r_sub [0, 1, 2, 3, 4] rfl (w_X12_line_j17 C0 hD h hz)
  · refine r_iconst C0 dX12_line_12 ki_1 ?_
    refine r_goto C0 17 dX12_line_13 rfl ?_
    exact r_sub [0, 1, 2, 3, 4] rfl (w_X12_line_j17 C0 hD h hz)
theorem c_X12_line {l : Launch} {D : va_G} {cy : Nat → ClassId} {a : Nat → Nat} {V : VT} {X : va_W} {v1 : Int32} {v2 : Int32} {v3 : Int32} {v4 : Int32} {y : Int32 × VT} (h : f_X12_line v1 v2 v3 v4 V = some y) : CT l D cy yX12_line cX12_line 8 (some .int) 3 [.ref (a 0), .int v1, .int v2, .int v3, .int v4] (WM cy a V X) (WM cy a y.2 X) (some (.int y.1)) :=
  mkI (by decide) (Nat.le_of_ble_eq_true rfl) (fun Γ _ _ C0 hD hF => w_X12_line C0 (dm_of hD) h hF)
theorem dX12_wear_0 : decode cX12_wear 0 = .ok (.aload_n 0, 1) := by decide +kernel
theorem dX12_wear_1 : decode cX12_wear 1 = .ok (.invokevirtual 165, 3) := by decide +kernel
theorem dX12_wear_4 : decode cX12_wear 4 = .ok (.aload_n 0, 1) := by decide +kernel
theorem dX12_wear_5 : decode cX12_wear 5 = .ok (.aload_n 0, 1) := by decide +kernel
theorem dX12_wear_6 : decode cX12_wear 6 = .ok (.iload_n 1, 1) := by decide +kernel
theorem dX12_wear_7 : decode cX12_wear 7 = .ok (.invokevirtual 182, 3) := by decide +kernel
theorem dX12_wear_10 : decode cX12_wear 10 = .ok (.ifCond .ne 7, 3) := by decide +kernel
theorem dX12_wear_13 : decode cX12_wear 13 = .ok (.iconst 1, 1) := by decide +kernel
theorem dX12_wear_14 : decode cX12_wear 14 = .ok (.goto 4, 3) := by decide +kernel
theorem dX12_wear_17 : decode cX12_wear 17 = .ok (.iconst 0, 1) := by decide +kernel
theorem dX12_wear_18 : decode cX12_wear 18 = .ok (.iconst 2, 1) := by decide +kernel
theorem dX12_wear_19 : decode cX12_wear 19 = .ok (.invokevirtual 168, 3) := by decide +kernel
theorem dX12_wear_22 : decode cX12_wear 22 = .ok (.ifCond .ne 76, 3) := by decide +kernel
theorem dX12_wear_25 : decode cX12_wear 25 = .ok (.aload_n 0, 1) := by decide +kernel
theorem dX12_wear_26 : decode cX12_wear 26 = .ok (.aload_n 0, 1) := by decide +kernel
theorem dX12_wear_27 : decode cX12_wear 27 = .ok (.iload_n 1, 1) := by decide +kernel
theorem dX12_wear_28 : decode cX12_wear 28 = .ok (.invokevirtual 62, 3) := by decide +kernel
theorem dX12_wear_31 : decode cX12_wear 31 = .ok (.ifCond .ne 7, 3) := by decide +kernel
theorem dX12_wear_34 : decode cX12_wear 34 = .ok (.iconst 1, 1) := by decide +kernel
theorem dX12_wear_35 : decode cX12_wear 35 = .ok (.goto 4, 3) := by decide +kernel
theorem dX12_wear_38 : decode cX12_wear 38 = .ok (.iconst 0, 1) := by decide +kernel
theorem dX12_wear_39 : decode cX12_wear 39 = .ok (.iconst 1, 1) := by decide +kernel
theorem dX12_wear_40 : decode cX12_wear 40 = .ok (.invokevirtual 168, 3) := by decide +kernel
theorem dX12_wear_43 : decode cX12_wear 43 = .ok (.ifCond .ne 55, 3) := by decide +kernel
theorem dX12_wear_46 : decode cX12_wear 46 = .ok (.aload_n 0, 1) := by decide +kernel
theorem dX12_wear_47 : decode cX12_wear 47 = .ok (.iload_n 2, 1) := by decide +kernel
theorem dX12_wear_48 : decode cX12_wear 48 = .ok (.ifCond .lt 13, 3) := by decide +kernel
theorem dX12_wear_51 : decode cX12_wear 51 = .ok (.iload_n 2, 1) := by decide +kernel
theorem dX12_wear_52 : decode cX12_wear 52 = .ok (.aload_n 0, 1) := by decide +kernel
theorem dX12_wear_53 : decode cX12_wear 53 = .ok (.iload_n 1, 1) := by decide +kernel
theorem dX12_wear_54 : decode cX12_wear 54 = .ok (.iconst 2, 1) := by decide +kernel
theorem dX12_wear_55 : decode cX12_wear 55 = .ok (.invokevirtual 58, 3) := by decide +kernel
theorem dX12_wear_58 : decode cX12_wear 58 = .ok (.if_icmp .lt 7, 3) := by decide +kernel
theorem dX12_wear_61 : decode cX12_wear 61 = .ok (.iconst 1, 1) := by decide +kernel
theorem dX12_wear_62 : decode cX12_wear 62 = .ok (.goto 4, 3) := by decide +kernel
theorem dX12_wear_65 : decode cX12_wear 65 = .ok (.iconst 0, 1) := by decide +kernel
theorem dX12_wear_66 : decode cX12_wear 66 = .ok (.iconst 2, 1) := by decide +kernel
theorem dX12_wear_67 : decode cX12_wear 67 = .ok (.invokevirtual 168, 3) := by decide +kernel
theorem dX12_wear_70 : decode cX12_wear 70 = .ok (.ifCond .ne 28, 3) := by decide +kernel
theorem dX12_wear_73 : decode cX12_wear 73 = .ok (.aload_n 0, 1) := by decide +kernel
theorem dX12_wear_74 : decode cX12_wear 74 = .ok (.iload_n 3, 1) := by decide +kernel
theorem dX12_wear_75 : decode cX12_wear 75 = .ok (.iconst 0, 1) := by decide +kernel
theorem dX12_wear_76 : decode cX12_wear 76 = .ok (.sipush 30000, 3) := by decide +kernel
theorem dX12_wear_79 : decode cX12_wear 79 = .ok (.invokestatic 47, 3) := by decide +kernel
theorem dX12_wear_82 : decode cX12_wear 82 = .ok (.ifCond .ne 7, 3) := by decide +kernel
theorem dX12_wear_85 : decode cX12_wear 85 = .ok (.iconst 1, 1) := by decide +kernel
theorem dX12_wear_86 : decode cX12_wear 86 = .ok (.goto 4, 3) := by decide +kernel
theorem dX12_wear_89 : decode cX12_wear 89 = .ok (.iconst 0, 1) := by decide +kernel
theorem dX12_wear_90 : decode cX12_wear 90 = .ok (.bipush 7, 2) := by decide +kernel
theorem dX12_wear_92 : decode cX12_wear 92 = .ok (.invokevirtual 168, 3) := by decide +kernel
theorem dX12_wear_95 : decode cX12_wear 95 = .ok (.ifCond .eq 8, 3) := by decide +kernel
theorem dX12_wear_98 : decode cX12_wear 98 = .ok (.aload_n 0, 1) := by decide +kernel
theorem dX12_wear_99 : decode cX12_wear 99 = .ok (.invokevirtual 172, 3) := by decide +kernel
theorem dX12_wear_102 : decode cX12_wear 102 = .ok (.ireturn, 1) := by decide +kernel
theorem dX12_wear_103 : decode cX12_wear 103 = .ok (.sipush 252, 3) := by decide +kernel
theorem dX12_wear_106 : decode cX12_wear 106 = .ok (.bipush 12, 2) := by decide +kernel
theorem dX12_wear_108 : decode cX12_wear 108 = .ok (.iload_n 1, 1) := by decide +kernel
theorem dX12_wear_109 : decode cX12_wear 109 = .ok (.imul, 1) := by decide +kernel
theorem dX12_wear_110 : decode cX12_wear 110 = .ok (.iadd, 1) := by decide +kernel
theorem dX12_wear_111 : decode cX12_wear 111 = .ok (.iconst 4, 1) := by decide +kernel
theorem dX12_wear_112 : decode cX12_wear 112 = .ok (.iadd, 1) := by decide +kernel
theorem dX12_wear_113 : decode cX12_wear 113 = .ok (.iload_n 2, 1) := by decide +kernel
theorem dX12_wear_114 : decode cX12_wear 114 = .ok (.iadd, 1) := by decide +kernel
theorem dX12_wear_115 : decode cX12_wear 115 = .ok (.istore 4, 2) := by decide +kernel
theorem dX12_wear_117 : decode cX12_wear 117 = .ok (.aload_n 0, 1) := by decide +kernel
theorem dX12_wear_118 : decode cX12_wear 118 = .ok (.getfield 7, 3) := by decide +kernel
theorem dX12_wear_121 : decode cX12_wear 121 = .ok (.iload 4, 2) := by decide +kernel
theorem dX12_wear_123 : decode cX12_wear 123 = .ok (.aload_n 0, 1) := by decide +kernel
theorem dX12_wear_124 : decode cX12_wear 124 = .ok (.getfield 7, 3) := by decide +kernel
theorem dX12_wear_127 : decode cX12_wear 127 = .ok (.iload 4, 2) := by decide +kernel
theorem dX12_wear_129 : decode cX12_wear 129 = .ok (.iaload, 1) := by decide +kernel
theorem dX12_wear_130 : decode cX12_wear 130 = .ok (.iload_n 3, 1) := by decide +kernel
theorem dX12_wear_131 : decode cX12_wear 131 = .ok (.if_icmp .le 15, 3) := by decide +kernel
theorem dX12_wear_134 : decode cX12_wear 134 = .ok (.aload_n 0, 1) := by decide +kernel
theorem dX12_wear_135 : decode cX12_wear 135 = .ok (.getfield 7, 3) := by decide +kernel
theorem dX12_wear_138 : decode cX12_wear 138 = .ok (.iload 4, 2) := by decide +kernel
theorem dX12_wear_140 : decode cX12_wear 140 = .ok (.iaload, 1) := by decide +kernel
theorem dX12_wear_141 : decode cX12_wear 141 = .ok (.iload_n 3, 1) := by decide +kernel
theorem dX12_wear_142 : decode cX12_wear 142 = .ok (.isub, 1) := by decide +kernel
theorem dX12_wear_143 : decode cX12_wear 143 = .ok (.goto 4, 3) := by decide +kernel
theorem dX12_wear_146 : decode cX12_wear 146 = .ok (.iconst 0, 1) := by decide +kernel
theorem dX12_wear_147 : decode cX12_wear 147 = .ok (.iastore, 1) := by decide +kernel
theorem dX12_wear_148 : decode cX12_wear 148 = .ok (.aload_n 0, 1) := by decide +kernel
theorem dX12_wear_149 : decode cX12_wear 149 = .ok (.aload_n 0, 1) := by decide +kernel
theorem dX12_wear_150 : decode cX12_wear 150 = .ok (.getfield 7, 3) := by decide +kernel
theorem dX12_wear_153 : decode cX12_wear 153 = .ok (.iload 4, 2) := by decide +kernel
theorem dX12_wear_155 : decode cX12_wear 155 = .ok (.iaload, 1) := by decide +kernel
theorem dX12_wear_156 : decode cX12_wear 156 = .ok (.invokevirtual 176, 3) := by decide +kernel
theorem dX12_wear_159 : decode cX12_wear 159 = .ok (.ireturn, 1) := by decide +kernel
theorem w_X12_wear_j98 {z : (Int32 × VT)} {Γ : Gam} {cy : Nat → ClassId} {a : Nat → Nat} {V : VT} {X : va_W}  (C0 : CXg Γ cX12_wear 5 2 RX12 cy) (hD : DM Γ cy a X) (h : f_X12_wear_j98 V = some z) (hz : (fun y : Int32 × VT => FinI Γ cX12_wear (WM cy a y.2 X) y.1) z) : Wp Γ 0 0 98 [(0, .ref (a 0))] [] (WM cy a V X) := by
  unfold f_X12_wear_j98 at h
  refine r_aload_n C0 dX12_wear_98 rfl 0 rfl ?_
  refine callV0 C0 h (hD _) mw_X12_refused rv_m tm_X12_172 (fun y hy => c_X12_refused hy) (Nat.le_of_ble_eq_true rfl) (Nat.le_of_ble_eq_true rfl) dX12_wear_99 (fun r4 h => ?_)
  cases h
  exact hz _ _ dX12_wear_102
theorem w_X12_wear_j147 {z : (Int32 × VT)} {Γ : Gam} {cy : Nat → ClassId} {a : Nat → Nat} {V : VT} {X : va_W} {v4 : Int32} {s1 : Int32} {s2 : Int32}  (C0 : CXg Γ cX12_wear 5 2 RX12 cy) (hD : DM Γ cy a X) (h : f_X12_wear_j147 v4 s1 s2 V = some z) (hz : (fun y : Int32 × VT => FinI Γ cX12_wear (WM cy a y.2 X) y.1) z) : Wp Γ 0 0 147 [(0, .ref (a 0)), (4, .int v4)] [.int s2, .int s1, .ref (a 1)] (WM cy a V X) := by
  unfold f_X12_wear_j147 at h
  refine wmas_1 C0 hD h dX12_wear_147 (fun k12 h => ?_)
  refine r_aload_n C0 dX12_wear_148 rfl 0 rfl ?_
  refine r_aload_n C0 dX12_wear_149 rfl 0 rfl ?_
  refine wmg_0_0 C0 tf_X12_7 dX12_wear_150 ?_
  refine r_iload C0 dX12_wear_153 1 rfl ?_
  refine wmal_1 C0 h dX12_wear_155 (fun k13 h => ?_)
  refine callV1 C0 h (hD _) mw_X12_keep rv_m tm_X12_176 (fun y hy => c_X12_keep hy) (Nat.le_of_ble_eq_true rfl) (Nat.le_of_ble_eq_true rfl) dX12_wear_156 (fun r14 h => ?_)
  cases h
  exact hz _ _ dX12_wear_159
theorem w_X12_wear_j90 {z : (Int32 × VT)} {Γ : Gam} {cy : Nat → ClassId} {a : Nat → Nat} {V : VT} {X : va_W} {v1 : Int32} {v2 : Int32} {v3 : Int32} {s1 : Int32}  (C0 : CXg Γ cX12_wear 5 2 RX12 cy) (hD : DM Γ cy a X) (h : f_X12_wear_j90 v1 v2 v3 s1 V = some z) (hz : (fun y : Int32 × VT => FinI Γ cX12_wear (WM cy a y.2 X) y.1) z) : Wp Γ 0 0 90 [(0, .ref (a 0)), (1, .int v1), (2, .int v2), (3, .int v3)] [.int s1, .ref (a 0)] (WM cy a V X) := by
  unfold f_X12_wear_j90 at h
  refine r_bipush C0 dX12_wear_90 kb_7 ?_
  refine callV2 C0 h (hD _) mw_X12_is rv_m tm_X12_168 (fun y hy => c_X12_is hy) (Nat.le_of_ble_eq_true rfl) (Nat.le_of_ble_eq_true rfl) dX12_wear_92 (fun r9 h => ?_)
  refine r_if_eq C0 103 dX12_wear_95 rfl h (fun _ h => ?_) (fun _ h => ?_)
  · refine r_sipush C0 dX12_wear_103 ks_252 ?_
    refine r_bipush C0 dX12_wear_106 kb_12 ?_
    refine r_iload_n C0 dX12_wear_108 rfl 1 rfl ?_
    refine r_imul C0 dX12_wear_109 ?_
    refine r_iadd C0 dX12_wear_110 ?_
    refine r_iconst C0 dX12_wear_111 ki_4 ?_
    refine r_iadd C0 dX12_wear_112 ?_
    refine r_iload_n C0 dX12_wear_113 rfl 2 rfl ?_
    refine r_iadd C0 dX12_wear_114 ?_
    obtain ⟨a10, h8, h⟩ := op_bind h
    have e8 := Option.some.inj h8
    refine r_istore (lv2 := [(4, .int a10), (0, .ref (a 0)), (1, .int v1), (2, .int v2), (3, .int v3)]) C0 dX12_wear_115 e8 (Nat.le_of_ble_eq_true rfl) rfl ?_
    refine r_aload_n C0 dX12_wear_117 rfl 1 rfl ?_
    refine wmg_0_0 C0 tf_X12_7 dX12_wear_118 ?_
    refine r_iload C0 dX12_wear_121 0 rfl ?_
    refine r_aload_n C0 dX12_wear_123 rfl 1 rfl ?_
    refine wmg_0_0 C0 tf_X12_7 dX12_wear_124 ?_
    refine r_iload C0 dX12_wear_127 0 rfl ?_
    refine wmal_1 C0 h dX12_wear_129 (fun k11 h => ?_)
    refine r_iload_n C0 dX12_wear_130 rfl 4 rfl ?_
    refine r_icmp_le C0 146 dX12_wear_131 rfl h (fun _ h => ?_) (fun _ h => ?_)
    · refine r_iconst C0 dX12_wear_146 ki_0 ?_
      exact r_sub [1, 0] rfl (w_X12_wear_j147 C0 hD h hz)
    · refine r_aload_n C0 dX12_wear_134 rfl 1 rfl ?_
      refine wmg_0_0 C0 tf_X12_7 dX12_wear_135 ?_
      refine r_iload C0 dX12_wear_138 0 rfl ?_
      refine wmal_1 C0 h dX12_wear_140 (fun k15 h => ?_)
      refine r_iload_n C0 dX12_wear_141 rfl 4 rfl ?_
      refine r_isub C0 dX12_wear_142 ?_
      refine r_goto C0 147 dX12_wear_143 rfl ?_
      exact r_sub [1, 0] rfl (w_X12_wear_j147 C0 hD h hz)
  · exact r_sub [0] rfl (w_X12_wear_j98 C0 hD h hz)
theorem w_X12_wear_j66 {z : (Int32 × VT)} {Γ : Gam} {cy : Nat → ClassId} {a : Nat → Nat} {V : VT} {X : va_W} {v1 : Int32} {v2 : Int32} {v3 : Int32} {s1 : Int32}  (C0 : CXg Γ cX12_wear 5 2 RX12 cy) (hD : DM Γ cy a X) (h : f_X12_wear_j66 v1 v2 v3 s1 V = some z) (hz : (fun y : Int32 × VT => FinI Γ cX12_wear (WM cy a y.2 X) y.1) z) : Wp Γ 0 0 66 [(0, .ref (a 0)), (1, .int v1), (2, .int v2), (3, .int v3)] [.int s1, .ref (a 0)] (WM cy a V X) := by
  unfold f_X12_wear_j66 at h
  refine r_iconst C0 dX12_wear_66 ki_2 ?_
  refine callV2 C0 h (hD _) mw_X12_is rv_m tm_X12_168 (fun y hy => c_X12_is hy) (Nat.le_of_ble_eq_true rfl) (Nat.le_of_ble_eq_true rfl) dX12_wear_67 (fun r7 h => ?_)
  refine r_if_ne C0 98 dX12_wear_70 rfl h (fun _ h => ?_) (fun _ h => ?_)
  · exact r_sub [0] rfl (w_X12_wear_j98 C0 hD h hz)
  · refine r_aload_n C0 dX12_wear_73 rfl 0 rfl ?_
    refine r_iload_n C0 dX12_wear_74 rfl 3 rfl ?_
    refine r_iconst C0 dX12_wear_75 ki_0 ?_
    refine r_sipush C0 dX12_wear_76 ks_30000 ?_
    refine callS3 C0 h (hD _) ms_X12_in tm_X12_47 (fun y hy => c_X12_in hy) (Nat.le_of_ble_eq_true rfl) (Nat.le_of_ble_eq_true rfl) dX12_wear_79 (fun r8 h => ?_)
    refine r_if_ne C0 89 dX12_wear_82 rfl h (fun _ h => ?_) (fun _ h => ?_)
    · refine r_iconst C0 dX12_wear_89 ki_0 ?_
      exact r_sub [0, 1, 2, 3] rfl (w_X12_wear_j90 C0 hD h hz)
    · refine r_iconst C0 dX12_wear_85 ki_1 ?_
      refine r_goto C0 90 dX12_wear_86 rfl ?_
      exact r_sub [0, 1, 2, 3] rfl (w_X12_wear_j90 C0 hD h hz)
theorem w_X12_wear_j61 {z : (Int32 × VT)} {Γ : Gam} {cy : Nat → ClassId} {a : Nat → Nat} {V : VT} {X : va_W} {v1 : Int32} {v2 : Int32} {v3 : Int32}  (C0 : CXg Γ cX12_wear 5 2 RX12 cy) (hD : DM Γ cy a X) (h : f_X12_wear_j61 v1 v2 v3 V = some z) (hz : (fun y : Int32 × VT => FinI Γ cX12_wear (WM cy a y.2 X) y.1) z) : Wp Γ 0 0 61 [(0, .ref (a 0)), (1, .int v1), (2, .int v2), (3, .int v3)] [.ref (a 0)] (WM cy a V X) := by
  unfold f_X12_wear_j61 at h
  refine r_iconst C0 dX12_wear_61 ki_1 ?_
  refine r_goto C0 66 dX12_wear_62 rfl ?_
  exact r_sub [0, 1, 2, 3] rfl (w_X12_wear_j66 C0 hD h hz)
theorem w_X12_wear_j39 {z : (Int32 × VT)} {Γ : Gam} {cy : Nat → ClassId} {a : Nat → Nat} {V : VT} {X : va_W} {v1 : Int32} {v2 : Int32} {v3 : Int32} {s1 : Int32}  (C0 : CXg Γ cX12_wear 5 2 RX12 cy) (hD : DM Γ cy a X) (h : f_X12_wear_j39 v1 v2 v3 s1 V = some z) (hz : (fun y : Int32 × VT => FinI Γ cX12_wear (WM cy a y.2 X) y.1) z) : Wp Γ 0 0 39 [(0, .ref (a 0)), (1, .int v1), (2, .int v2), (3, .int v3)] [.int s1, .ref (a 0)] (WM cy a V X) := by
  unfold f_X12_wear_j39 at h
  refine r_iconst C0 dX12_wear_39 ki_1 ?_
  refine callV2 C0 h (hD _) mw_X12_is rv_m tm_X12_168 (fun y hy => c_X12_is hy) (Nat.le_of_ble_eq_true rfl) (Nat.le_of_ble_eq_true rfl) dX12_wear_40 (fun r6 h => ?_)
  refine r_if_ne C0 98 dX12_wear_43 rfl h (fun _ h => ?_) (fun _ h => ?_)
  · exact r_sub [0] rfl (w_X12_wear_j98 C0 hD h hz)
  · refine r_aload_n C0 dX12_wear_46 rfl 0 rfl ?_
    refine r_iload_n C0 dX12_wear_47 rfl 2 rfl ?_
    refine r_if_lt C0 61 dX12_wear_48 rfl h (fun _ h => ?_) (fun _ h => ?_)
    · exact r_sub [0, 1, 2, 3] rfl (w_X12_wear_j61 C0 hD h hz)
    · refine r_iload_n C0 dX12_wear_51 rfl 2 rfl ?_
      refine r_aload_n C0 dX12_wear_52 rfl 0 rfl ?_
      refine r_iload_n C0 dX12_wear_53 rfl 1 rfl ?_
      refine r_iconst C0 dX12_wear_54 ki_2 ?_
      refine callV2 C0 h (hD _) mw_X12_lineIs rv_m tm_X12_58 (fun y hy => c_X12_lineIs hy) (Nat.le_of_ble_eq_true rfl) (Nat.le_of_ble_eq_true rfl) dX12_wear_55 (fun r16 h => ?_)
      refine r_icmp_lt C0 65 dX12_wear_58 rfl h (fun _ h => ?_) (fun _ h => ?_)
      · refine r_iconst C0 dX12_wear_65 ki_0 ?_
        exact r_sub [0, 1, 2, 3] rfl (w_X12_wear_j66 C0 hD h hz)
      · exact r_sub [0, 1, 2, 3] rfl (w_X12_wear_j61 C0 hD h hz)
theorem w_X12_wear_j18 {z : (Int32 × VT)} {Γ : Gam} {cy : Nat → ClassId} {a : Nat → Nat} {V : VT} {X : va_W} {v1 : Int32} {v2 : Int32} {v3 : Int32} {s1 : Int32}  (C0 : CXg Γ cX12_wear 5 2 RX12 cy) (hD : DM Γ cy a X) (h : f_X12_wear_j18 v1 v2 v3 s1 V = some z) (hz : (fun y : Int32 × VT => FinI Γ cX12_wear (WM cy a y.2 X) y.1) z) : Wp Γ 0 0 18 [(0, .ref (a 0)), (1, .int v1), (2, .int v2), (3, .int v3)] [.int s1, .ref (a 0)] (WM cy a V X) := by
  unfold f_X12_wear_j18 at h
  refine r_iconst C0 dX12_wear_18 ki_2 ?_
  refine callV2 C0 h (hD _) mw_X12_is rv_m tm_X12_168 (fun y hy => c_X12_is hy) (Nat.le_of_ble_eq_true rfl) (Nat.le_of_ble_eq_true rfl) dX12_wear_19 (fun r3 h => ?_)
  refine r_if_ne C0 98 dX12_wear_22 rfl h (fun _ h => ?_) (fun _ h => ?_)
  · exact r_sub [0] rfl (w_X12_wear_j98 C0 hD h hz)
  · refine r_aload_n C0 dX12_wear_25 rfl 0 rfl ?_
    refine r_aload_n C0 dX12_wear_26 rfl 0 rfl ?_
    refine r_iload_n C0 dX12_wear_27 rfl 1 rfl ?_
    refine callV1 C0 h (hD _) mw_X12_isLineThere rv_m tm_X12_62 (fun y hy => c_X12_isLineThere hy) (Nat.le_of_ble_eq_true rfl) (Nat.le_of_ble_eq_true rfl) dX12_wear_28 (fun r5 h => ?_)
    refine r_if_ne C0 38 dX12_wear_31 rfl h (fun _ h => ?_) (fun _ h => ?_)
    · refine r_iconst C0 dX12_wear_38 ki_0 ?_
      exact r_sub [0, 1, 2, 3] rfl (w_X12_wear_j39 C0 hD h hz)
    · refine r_iconst C0 dX12_wear_34 ki_1 ?_
      refine r_goto C0 39 dX12_wear_35 rfl ?_
      exact r_sub [0, 1, 2, 3] rfl (w_X12_wear_j39 C0 hD h hz)
theorem w_X12_wear {z : Int32 × VT} {Γ : Gam} {cy : Nat → ClassId} {a : Nat → Nat} {V : VT} {X : va_W} {v1 : Int32} {v2 : Int32} {v3 : Int32}  (C0 : CXg Γ cX12_wear 5 2 RX12 cy) (hD : DM Γ cy a X) (h : f_X12_wear v1 v2 v3 V = some z) (hz : (fun y : Int32 × VT => FinI Γ cX12_wear (WM cy a y.2 X) y.1) z) : Wp Γ 0 0 0 [(0, .ref (a 0)), (1, .int v1), (2, .int v2), (3, .int v3)] [] (WM cy a V X) := by
  unfold f_X12_wear at h
  refine r_aload_n C0 dX12_wear_0 rfl 0 rfl ?_
  refine callVv0 C0 h (hD _) mw_X12_begin rv_m tm_X12_165 (fun y hy => c_X12_begin hy) (Nat.le_of_ble_eq_true rfl) (Nat.le_of_ble_eq_true rfl) dX12_wear_1 (fun r1 h => ?_)
  refine r_aload_n C0 dX12_wear_4 rfl 0 rfl ?_
  refine r_aload_n C0 dX12_wear_5 rfl 0 rfl ?_
  refine r_iload_n C0 dX12_wear_6 rfl 1 rfl ?_
  refine callV1 C0 h (hD _) mw_X12_isLineTold rv_m tm_X12_182 (fun y hy => c_X12_isLineTold hy) (Nat.le_of_ble_eq_true rfl) (Nat.le_of_ble_eq_true rfl) dX12_wear_7 (fun r2 h => ?_)
  refine r_if_ne C0 17 dX12_wear_10 rfl h (fun _ h => ?_) (fun _ h => ?_)
  · refine r_iconst C0 dX12_wear_17 ki_0 ?_
    exact r_sub [0, 1, 2, 3] rfl (w_X12_wear_j18 C0 hD h hz)
  · refine r_iconst C0 dX12_wear_13 ki_1 ?_
    refine r_goto C0 18 dX12_wear_14 rfl ?_
    exact r_sub [0, 1, 2, 3] rfl (w_X12_wear_j18 C0 hD h hz)
theorem c_X12_wear {l : Launch} {D : va_G} {cy : Nat → ClassId} {a : Nat → Nat} {V : VT} {X : va_W} {v1 : Int32} {v2 : Int32} {v3 : Int32} {y : Int32 × VT} (h : f_X12_wear v1 v2 v3 V = some y) : CT l D cy yX12_wear cX12_wear 5 (some .int) 2 [.ref (a 0), .int v1, .int v2, .int v3] (WM cy a V X) (WM cy a y.2 X) (some (.int y.1)) :=
  mkI (by decide) (Nat.le_of_ble_eq_true rfl) (fun Γ _ _ C0 hD hF => w_X12_wear C0 (dm_of hD) h hF)
theorem dX12_cut_0 : decode cX12_cut 0 = .ok (.aload_n 0, 1) := by decide +kernel
theorem dX12_cut_1 : decode cX12_cut 1 = .ok (.invokevirtual 165, 3) := by decide +kernel
theorem dX12_cut_4 : decode cX12_cut 4 = .ok (.aload_n 0, 1) := by decide +kernel
theorem dX12_cut_5 : decode cX12_cut 5 = .ok (.aload_n 0, 1) := by decide +kernel
theorem dX12_cut_6 : decode cX12_cut 6 = .ok (.iload_n 1, 1) := by decide +kernel
theorem dX12_cut_7 : decode cX12_cut 7 = .ok (.invokevirtual 182, 3) := by decide +kernel
theorem dX12_cut_10 : decode cX12_cut 10 = .ok (.ifCond .ne 7, 3) := by decide +kernel
theorem dX12_cut_13 : decode cX12_cut 13 = .ok (.iconst 1, 1) := by decide +kernel
theorem dX12_cut_14 : decode cX12_cut 14 = .ok (.goto 4, 3) := by decide +kernel
theorem dX12_cut_17 : decode cX12_cut 17 = .ok (.iconst 0, 1) := by decide +kernel
theorem dX12_cut_18 : decode cX12_cut 18 = .ok (.iconst 2, 1) := by decide +kernel
theorem dX12_cut_19 : decode cX12_cut 19 = .ok (.invokevirtual 168, 3) := by decide +kernel
theorem dX12_cut_22 : decode cX12_cut 22 = .ok (.ifCond .ne 24, 3) := by decide +kernel
theorem dX12_cut_25 : decode cX12_cut 25 = .ok (.aload_n 0, 1) := by decide +kernel
theorem dX12_cut_26 : decode cX12_cut 26 = .ok (.aload_n 0, 1) := by decide +kernel
theorem dX12_cut_27 : decode cX12_cut 27 = .ok (.iload_n 1, 1) := by decide +kernel
theorem dX12_cut_28 : decode cX12_cut 28 = .ok (.invokevirtual 62, 3) := by decide +kernel
theorem dX12_cut_31 : decode cX12_cut 31 = .ok (.ifCond .ne 7, 3) := by decide +kernel
theorem dX12_cut_34 : decode cX12_cut 34 = .ok (.iconst 1, 1) := by decide +kernel
theorem dX12_cut_35 : decode cX12_cut 35 = .ok (.goto 4, 3) := by decide +kernel
theorem dX12_cut_38 : decode cX12_cut 38 = .ok (.iconst 0, 1) := by decide +kernel
theorem dX12_cut_39 : decode cX12_cut 39 = .ok (.iconst 1, 1) := by decide +kernel
theorem dX12_cut_40 : decode cX12_cut 40 = .ok (.invokevirtual 168, 3) := by decide +kernel
theorem dX12_cut_43 : decode cX12_cut 43 = .ok (.ifCond .eq 8, 3) := by decide +kernel
theorem dX12_cut_46 : decode cX12_cut 46 = .ok (.aload_n 0, 1) := by decide +kernel
theorem dX12_cut_47 : decode cX12_cut 47 = .ok (.invokevirtual 172, 3) := by decide +kernel
theorem dX12_cut_50 : decode cX12_cut 50 = .ok (.ireturn, 1) := by decide +kernel
theorem dX12_cut_51 : decode cX12_cut 51 = .ok (.aload_n 0, 1) := by decide +kernel
theorem dX12_cut_52 : decode cX12_cut 52 = .ok (.iload_n 1, 1) := by decide +kernel
theorem dX12_cut_53 : decode cX12_cut 53 = .ok (.invokevirtual 112, 3) := by decide +kernel
theorem dX12_cut_56 : decode cX12_cut 56 = .ok (.istore_n 2, 1) := by decide +kernel
theorem dX12_cut_57 : decode cX12_cut 57 = .ok (.aload_n 0, 1) := by decide +kernel
theorem dX12_cut_58 : decode cX12_cut 58 = .ok (.getfield 7, 3) := by decide +kernel
theorem dX12_cut_61 : decode cX12_cut 61 = .ok (.sipush 252, 3) := by decide +kernel
theorem dX12_cut_64 : decode cX12_cut 64 = .ok (.bipush 12, 2) := by decide +kernel
theorem dX12_cut_66 : decode cX12_cut 66 = .ok (.iload_n 1, 1) := by decide +kernel
theorem dX12_cut_67 : decode cX12_cut 67 = .ok (.imul, 1) := by decide +kernel
theorem dX12_cut_68 : decode cX12_cut 68 = .ok (.iadd, 1) := by decide +kernel
theorem dX12_cut_69 : decode cX12_cut 69 = .ok (.iconst 3, 1) := by decide +kernel
theorem dX12_cut_70 : decode cX12_cut 70 = .ok (.iadd, 1) := by decide +kernel
theorem dX12_cut_71 : decode cX12_cut 71 = .ok (.iconst 0, 1) := by decide +kernel
theorem dX12_cut_72 : decode cX12_cut 72 = .ok (.iastore, 1) := by decide +kernel
theorem dX12_cut_73 : decode cX12_cut 73 = .ok (.aload_n 0, 1) := by decide +kernel
theorem dX12_cut_74 : decode cX12_cut 74 = .ok (.iload_n 2, 1) := by decide +kernel
theorem dX12_cut_75 : decode cX12_cut 75 = .ok (.invokevirtual 176, 3) := by decide +kernel
theorem dX12_cut_78 : decode cX12_cut 78 = .ok (.ireturn, 1) := by decide +kernel
theorem w_X12_cut_j46 {z : (Int32 × VT)} {Γ : Gam} {cy : Nat → ClassId} {a : Nat → Nat} {V : VT} {X : va_W}  (C0 : CXg Γ cX12_cut 3 2 RX12 cy) (hD : DM Γ cy a X) (h : f_X12_cut_j46 V = some z) (hz : (fun y : Int32 × VT => FinI Γ cX12_cut (WM cy a y.2 X) y.1) z) : Wp Γ 0 0 46 [(0, .ref (a 0))] [] (WM cy a V X) := by
  unfold f_X12_cut_j46 at h
  refine r_aload_n C0 dX12_cut_46 rfl 0 rfl ?_
  refine callV0 C0 h (hD _) mw_X12_refused rv_m tm_X12_172 (fun y hy => c_X12_refused hy) (Nat.le_of_ble_eq_true rfl) (Nat.le_of_ble_eq_true rfl) dX12_cut_47 (fun r4 h => ?_)
  cases h
  exact hz _ _ dX12_cut_50
theorem w_X12_cut_j39 {z : (Int32 × VT)} {Γ : Gam} {cy : Nat → ClassId} {a : Nat → Nat} {V : VT} {X : va_W} {v1 : Int32} {s1 : Int32}  (C0 : CXg Γ cX12_cut 3 2 RX12 cy) (hD : DM Γ cy a X) (h : f_X12_cut_j39 v1 s1 V = some z) (hz : (fun y : Int32 × VT => FinI Γ cX12_cut (WM cy a y.2 X) y.1) z) : Wp Γ 0 0 39 [(0, .ref (a 0)), (1, .int v1)] [.int s1, .ref (a 0)] (WM cy a V X) := by
  unfold f_X12_cut_j39 at h
  refine r_iconst C0 dX12_cut_39 ki_1 ?_
  refine callV2 C0 h (hD _) mw_X12_is rv_m tm_X12_168 (fun y hy => c_X12_is hy) (Nat.le_of_ble_eq_true rfl) (Nat.le_of_ble_eq_true rfl) dX12_cut_40 (fun r6 h => ?_)
  refine r_if_eq C0 51 dX12_cut_43 rfl h (fun _ h => ?_) (fun _ h => ?_)
  · refine r_aload_n C0 dX12_cut_51 rfl 0 rfl ?_
    refine r_iload_n C0 dX12_cut_52 rfl 1 rfl ?_
    refine callV1 C0 h (hD _) mw_X12_weakest rv_m tm_X12_112 (fun y hy => c_X12_weakest hy) (Nat.le_of_ble_eq_true rfl) (Nat.le_of_ble_eq_true rfl) dX12_cut_53 (fun r7 h => ?_)
    refine r_istore_n (lv2 := [(2, .int r7), (0, .ref (a 0)), (1, .int v1)]) C0 dX12_cut_56 rfl rfl (Nat.le_of_ble_eq_true rfl) rfl ?_
    refine r_aload_n C0 dX12_cut_57 rfl 1 rfl ?_
    refine wmg_0_0 C0 tf_X12_7 dX12_cut_58 ?_
    refine r_sipush C0 dX12_cut_61 ks_252 ?_
    refine r_bipush C0 dX12_cut_64 kb_12 ?_
    refine r_iload_n C0 dX12_cut_66 rfl 2 rfl ?_
    refine r_imul C0 dX12_cut_67 ?_
    refine r_iadd C0 dX12_cut_68 ?_
    refine r_iconst C0 dX12_cut_69 ki_3 ?_
    refine r_iadd C0 dX12_cut_70 ?_
    refine r_iconst C0 dX12_cut_71 ki_0 ?_
    refine wmas_1 C0 hD h dX12_cut_72 (fun k8 h => ?_)
    refine r_aload_n C0 dX12_cut_73 rfl 1 rfl ?_
    refine r_iload_n C0 dX12_cut_74 rfl 0 rfl ?_
    refine callV1 C0 h (hD _) mw_X12_keep rv_m tm_X12_176 (fun y hy => c_X12_keep hy) (Nat.le_of_ble_eq_true rfl) (Nat.le_of_ble_eq_true rfl) dX12_cut_75 (fun r9 h => ?_)
    cases h
    exact hz _ _ dX12_cut_78
  · exact r_sub [0] rfl (w_X12_cut_j46 C0 hD h hz)
theorem w_X12_cut_j18 {z : (Int32 × VT)} {Γ : Gam} {cy : Nat → ClassId} {a : Nat → Nat} {V : VT} {X : va_W} {v1 : Int32} {s1 : Int32}  (C0 : CXg Γ cX12_cut 3 2 RX12 cy) (hD : DM Γ cy a X) (h : f_X12_cut_j18 v1 s1 V = some z) (hz : (fun y : Int32 × VT => FinI Γ cX12_cut (WM cy a y.2 X) y.1) z) : Wp Γ 0 0 18 [(0, .ref (a 0)), (1, .int v1)] [.int s1, .ref (a 0)] (WM cy a V X) := by
  unfold f_X12_cut_j18 at h
  refine r_iconst C0 dX12_cut_18 ki_2 ?_
  refine callV2 C0 h (hD _) mw_X12_is rv_m tm_X12_168 (fun y hy => c_X12_is hy) (Nat.le_of_ble_eq_true rfl) (Nat.le_of_ble_eq_true rfl) dX12_cut_19 (fun r3 h => ?_)
  refine r_if_ne C0 46 dX12_cut_22 rfl h (fun _ h => ?_) (fun _ h => ?_)
  · exact r_sub [0] rfl (w_X12_cut_j46 C0 hD h hz)
  · refine r_aload_n C0 dX12_cut_25 rfl 0 rfl ?_
    refine r_aload_n C0 dX12_cut_26 rfl 0 rfl ?_
    refine r_iload_n C0 dX12_cut_27 rfl 1 rfl ?_
    refine callV1 C0 h (hD _) mw_X12_isLineThere rv_m tm_X12_62 (fun y hy => c_X12_isLineThere hy) (Nat.le_of_ble_eq_true rfl) (Nat.le_of_ble_eq_true rfl) dX12_cut_28 (fun r5 h => ?_)
    refine r_if_ne C0 38 dX12_cut_31 rfl h (fun _ h => ?_) (fun _ h => ?_)
    · refine r_iconst C0 dX12_cut_38 ki_0 ?_
      exact r_sub [0, 1] rfl (w_X12_cut_j39 C0 hD h hz)
    · refine r_iconst C0 dX12_cut_34 ki_1 ?_
      refine r_goto C0 39 dX12_cut_35 rfl ?_
      exact r_sub [0, 1] rfl (w_X12_cut_j39 C0 hD h hz)
theorem w_X12_cut {z : Int32 × VT} {Γ : Gam} {cy : Nat → ClassId} {a : Nat → Nat} {V : VT} {X : va_W} {v1 : Int32}  (C0 : CXg Γ cX12_cut 3 2 RX12 cy) (hD : DM Γ cy a X) (h : f_X12_cut v1 V = some z) (hz : (fun y : Int32 × VT => FinI Γ cX12_cut (WM cy a y.2 X) y.1) z) : Wp Γ 0 0 0 [(0, .ref (a 0)), (1, .int v1)] [] (WM cy a V X) := by
  unfold f_X12_cut at h
  refine r_aload_n C0 dX12_cut_0 rfl 0 rfl ?_
  refine callVv0 C0 h (hD _) mw_X12_begin rv_m tm_X12_165 (fun y hy => c_X12_begin hy) (Nat.le_of_ble_eq_true rfl) (Nat.le_of_ble_eq_true rfl) dX12_cut_1 (fun r1 h => ?_)
  refine r_aload_n C0 dX12_cut_4 rfl 0 rfl ?_
  refine r_aload_n C0 dX12_cut_5 rfl 0 rfl ?_
  refine r_iload_n C0 dX12_cut_6 rfl 1 rfl ?_
  refine callV1 C0 h (hD _) mw_X12_isLineTold rv_m tm_X12_182 (fun y hy => c_X12_isLineTold hy) (Nat.le_of_ble_eq_true rfl) (Nat.le_of_ble_eq_true rfl) dX12_cut_7 (fun r2 h => ?_)
  refine r_if_ne C0 17 dX12_cut_10 rfl h (fun _ h => ?_) (fun _ h => ?_)
  · refine r_iconst C0 dX12_cut_17 ki_0 ?_
    exact r_sub [0, 1] rfl (w_X12_cut_j18 C0 hD h hz)
  · refine r_iconst C0 dX12_cut_13 ki_1 ?_
    refine r_goto C0 18 dX12_cut_14 rfl ?_
    exact r_sub [0, 1] rfl (w_X12_cut_j18 C0 hD h hz)
theorem c_X12_cut {l : Launch} {D : va_G} {cy : Nat → ClassId} {a : Nat → Nat} {V : VT} {X : va_W} {v1 : Int32} {y : Int32 × VT} (h : f_X12_cut v1 V = some y) : CT l D cy yX12_cut cX12_cut 3 (some .int) 2 [.ref (a 0), .int v1] (WM cy a V X) (WM cy a y.2 X) (some (.int y.1)) :=
  mkI (by decide) (Nat.le_of_ble_eq_true rfl) (fun Γ _ _ C0 hD hF => w_X12_cut C0 (dm_of hD) h hF)
theorem dX12_thing_0 : decode cX12_thing 0 = .ok (.aload_n 0, 1) := by decide +kernel
theorem dX12_thing_1 : decode cX12_thing 1 = .ok (.invokevirtual 165, 3) := by decide +kernel
theorem dX12_thing_4 : decode cX12_thing 4 = .ok (.iload_n 1, 1) := by decide +kernel
theorem dX12_thing_5 : decode cX12_thing 5 = .ok (.iconst 0, 1) := by decide +kernel
theorem dX12_thing_6 : decode cX12_thing 6 = .ok (.iconst 4, 1) := by decide +kernel
theorem dX12_thing_7 : decode cX12_thing 7 = .ok (.invokestatic 47, 3) := by decide +kernel
theorem dX12_thing_10 : decode cX12_thing 10 = .ok (.ifCond .eq 44, 3) := by decide +kernel
theorem dX12_thing_13 : decode cX12_thing 13 = .ok (.iload_n 2, 1) := by decide +kernel
theorem dX12_thing_14 : decode cX12_thing 14 = .ok (.iconst 1, 1) := by decide +kernel
theorem dX12_thing_15 : decode cX12_thing 15 = .ok (.bipush 15, 2) := by decide +kernel
theorem dX12_thing_17 : decode cX12_thing 17 = .ok (.invokestatic 47, 3) := by decide +kernel
theorem dX12_thing_20 : decode cX12_thing 20 = .ok (.ifCond .eq 34, 3) := by decide +kernel
theorem dX12_thing_23 : decode cX12_thing 23 = .ok (.iload_n 3, 1) := by decide +kernel
theorem dX12_thing_24 : decode cX12_thing 24 = .ok (.iconst 1, 1) := by decide +kernel
theorem dX12_thing_25 : decode cX12_thing 25 = .ok (.iload_n 1, 1) := by decide +kernel
theorem dX12_thing_26 : decode cX12_thing 26 = .ok (.iconst 1, 1) := by decide +kernel
theorem dX12_thing_27 : decode cX12_thing 27 = .ok (.if_icmp .ne 8, 3) := by decide +kernel
theorem dX12_thing_30 : decode cX12_thing 30 = .ok (.bipush 6, 2) := by decide +kernel
theorem dX12_thing_32 : decode cX12_thing 32 = .ok (.goto 5, 3) := by decide +kernel
theorem dX12_thing_35 : decode cX12_thing 35 = .ok (.bipush 40, 2) := by decide +kernel
theorem dX12_thing_37 : decode cX12_thing 37 = .ok (.invokestatic 47, 3) := by decide +kernel
theorem dX12_thing_40 : decode cX12_thing 40 = .ok (.ifCond .eq 14, 3) := by decide +kernel
theorem dX12_thing_43 : decode cX12_thing 43 = .ok (.iload 4, 2) := by decide +kernel
theorem dX12_thing_45 : decode cX12_thing 45 = .ok (.iconst 0, 1) := by decide +kernel
theorem dX12_thing_46 : decode cX12_thing 46 = .ok (.ldc 185, 2) := by decide +kernel
theorem dX12_thing_48 : decode cX12_thing 48 = .ok (.invokestatic 47, 3) := by decide +kernel
theorem dX12_thing_51 : decode cX12_thing 51 = .ok (.ifCond .ne 7, 3) := by decide +kernel
theorem dX12_thing_54 : decode cX12_thing 54 = .ok (.iconst 1, 1) := by decide +kernel
theorem dX12_thing_55 : decode cX12_thing 55 = .ok (.goto 4, 3) := by decide +kernel
theorem dX12_thing_58 : decode cX12_thing 58 = .ok (.iconst 0, 1) := by decide +kernel
theorem dX12_thing_59 : decode cX12_thing 59 = .ok (.istore 5, 2) := by decide +kernel
theorem dX12_thing_61 : decode cX12_thing 61 = .ok (.aload_n 0, 1) := by decide +kernel
theorem dX12_thing_62 : decode cX12_thing 62 = .ok (.iload 5, 2) := by decide +kernel
theorem dX12_thing_64 : decode cX12_thing 64 = .ok (.bipush 7, 2) := by decide +kernel
theorem dX12_thing_66 : decode cX12_thing 66 = .ok (.invokevirtual 168, 3) := by decide +kernel
theorem dX12_thing_69 : decode cX12_thing 69 = .ok (.ifCond .ne 30, 3) := by decide +kernel
theorem dX12_thing_72 : decode cX12_thing 72 = .ok (.aload_n 0, 1) := by decide +kernel
theorem dX12_thing_73 : decode cX12_thing 73 = .ok (.aload_n 0, 1) := by decide +kernel
theorem dX12_thing_74 : decode cX12_thing 74 = .ok (.getfield 7, 3) := by decide +kernel
theorem dX12_thing_77 : decode cX12_thing 77 = .ok (.sipush 1641, 3) := by decide +kernel
theorem dX12_thing_80 : decode cX12_thing 80 = .ok (.iaload, 1) := by decide +kernel
theorem dX12_thing_81 : decode cX12_thing 81 = .ok (.bipush 80, 2) := by decide +kernel
theorem dX12_thing_83 : decode cX12_thing 83 = .ok (.if_icmp .ne 7, 3) := by decide +kernel
theorem dX12_thing_86 : decode cX12_thing 86 = .ok (.iconst 1, 1) := by decide +kernel
theorem dX12_thing_87 : decode cX12_thing 87 = .ok (.goto 4, 3) := by decide +kernel
theorem dX12_thing_90 : decode cX12_thing 90 = .ok (.iconst 0, 1) := by decide +kernel
theorem dX12_thing_91 : decode cX12_thing 91 = .ok (.bipush 11, 2) := by decide +kernel
theorem dX12_thing_93 : decode cX12_thing 93 = .ok (.invokevirtual 168, 3) := by decide +kernel
theorem dX12_thing_96 : decode cX12_thing 96 = .ok (.ifCond .eq 8, 3) := by decide +kernel
theorem dX12_thing_99 : decode cX12_thing 99 = .ok (.aload_n 0, 1) := by decide +kernel
theorem dX12_thing_100 : decode cX12_thing 100 = .ok (.invokevirtual 172, 3) := by decide +kernel
theorem dX12_thing_103 : decode cX12_thing 103 = .ok (.ireturn, 1) := by decide +kernel
theorem dX12_thing_104 : decode cX12_thing 104 = .ok (.sipush 732, 3) := by decide +kernel
theorem dX12_thing_107 : decode cX12_thing 107 = .ok (.iconst 5, 1) := by decide +kernel
theorem dX12_thing_108 : decode cX12_thing 108 = .ok (.aload_n 0, 1) := by decide +kernel
theorem dX12_thing_109 : decode cX12_thing 109 = .ok (.getfield 7, 3) := by decide +kernel
theorem dX12_thing_112 : decode cX12_thing 112 = .ok (.sipush 1641, 3) := by decide +kernel
theorem dX12_thing_115 : decode cX12_thing 115 = .ok (.iaload, 1) := by decide +kernel
theorem dX12_thing_116 : decode cX12_thing 116 = .ok (.imul, 1) := by decide +kernel
theorem dX12_thing_117 : decode cX12_thing 117 = .ok (.iadd, 1) := by decide +kernel
theorem dX12_thing_118 : decode cX12_thing 118 = .ok (.istore 6, 2) := by decide +kernel
theorem dX12_thing_120 : decode cX12_thing 120 = .ok (.aload_n 0, 1) := by decide +kernel
theorem dX12_thing_121 : decode cX12_thing 121 = .ok (.getfield 7, 3) := by decide +kernel
theorem dX12_thing_124 : decode cX12_thing 124 = .ok (.iload 6, 2) := by decide +kernel
theorem dX12_thing_126 : decode cX12_thing 126 = .ok (.iload_n 1, 1) := by decide +kernel
theorem dX12_thing_127 : decode cX12_thing 127 = .ok (.iastore, 1) := by decide +kernel
theorem dX12_thing_128 : decode cX12_thing 128 = .ok (.aload_n 0, 1) := by decide +kernel
theorem dX12_thing_129 : decode cX12_thing 129 = .ok (.getfield 7, 3) := by decide +kernel
theorem dX12_thing_132 : decode cX12_thing 132 = .ok (.iload 6, 2) := by decide +kernel
theorem dX12_thing_134 : decode cX12_thing 134 = .ok (.iconst 1, 1) := by decide +kernel
theorem dX12_thing_135 : decode cX12_thing 135 = .ok (.iadd, 1) := by decide +kernel
theorem dX12_thing_136 : decode cX12_thing 136 = .ok (.iload_n 2, 1) := by decide +kernel
theorem dX12_thing_137 : decode cX12_thing 137 = .ok (.iastore, 1) := by decide +kernel
theorem dX12_thing_138 : decode cX12_thing 138 = .ok (.aload_n 0, 1) := by decide +kernel
theorem dX12_thing_139 : decode cX12_thing 139 = .ok (.getfield 7, 3) := by decide +kernel
theorem dX12_thing_142 : decode cX12_thing 142 = .ok (.iload 6, 2) := by decide +kernel
theorem dX12_thing_144 : decode cX12_thing 144 = .ok (.iconst 2, 1) := by decide +kernel
theorem dX12_thing_145 : decode cX12_thing 145 = .ok (.iadd, 1) := by decide +kernel
theorem dX12_thing_146 : decode cX12_thing 146 = .ok (.iload_n 3, 1) := by decide +kernel
theorem dX12_thing_147 : decode cX12_thing 147 = .ok (.iastore, 1) := by decide +kernel
theorem dX12_thing_148 : decode cX12_thing 148 = .ok (.aload_n 0, 1) := by decide +kernel
theorem dX12_thing_149 : decode cX12_thing 149 = .ok (.getfield 7, 3) := by decide +kernel
theorem dX12_thing_152 : decode cX12_thing 152 = .ok (.iload 6, 2) := by decide +kernel
theorem dX12_thing_154 : decode cX12_thing 154 = .ok (.iconst 3, 1) := by decide +kernel
theorem dX12_thing_155 : decode cX12_thing 155 = .ok (.iadd, 1) := by decide +kernel
theorem dX12_thing_156 : decode cX12_thing 156 = .ok (.iload 4, 2) := by decide +kernel
theorem dX12_thing_158 : decode cX12_thing 158 = .ok (.iastore, 1) := by decide +kernel
theorem dX12_thing_159 : decode cX12_thing 159 = .ok (.aload_n 0, 1) := by decide +kernel
theorem dX12_thing_160 : decode cX12_thing 160 = .ok (.getfield 7, 3) := by decide +kernel
theorem dX12_thing_163 : decode cX12_thing 163 = .ok (.iload 6, 2) := by decide +kernel
theorem dX12_thing_165 : decode cX12_thing 165 = .ok (.iconst 4, 1) := by decide +kernel
theorem dX12_thing_166 : decode cX12_thing 166 = .ok (.iadd, 1) := by decide +kernel
theorem dX12_thing_167 : decode cX12_thing 167 = .ok (.iconst 0, 1) := by decide +kernel
theorem dX12_thing_168 : decode cX12_thing 168 = .ok (.iastore, 1) := by decide +kernel
theorem dX12_thing_169 : decode cX12_thing 169 = .ok (.aload_n 0, 1) := by decide +kernel
theorem dX12_thing_170 : decode cX12_thing 170 = .ok (.getfield 7, 3) := by decide +kernel
theorem dX12_thing_173 : decode cX12_thing 173 = .ok (.sipush 1641, 3) := by decide +kernel
theorem dX12_thing_176 : decode cX12_thing 176 = .ok (.dup2, 1) := by decide +kernel
theorem dX12_thing_177 : decode cX12_thing 177 = .ok (.iaload, 1) := by decide +kernel
theorem dX12_thing_178 : decode cX12_thing 178 = .ok (.iconst 1, 1) := by decide +kernel
theorem dX12_thing_179 : decode cX12_thing 179 = .ok (.iadd, 1) := by decide +kernel
theorem dX12_thing_180 : decode cX12_thing 180 = .ok (.iastore, 1) := by decide +kernel
theorem dX12_thing_181 : decode cX12_thing 181 = .ok (.aload_n 0, 1) := by decide +kernel
theorem dX12_thing_182 : decode cX12_thing 182 = .ok (.aload_n 0, 1) := by decide +kernel
theorem dX12_thing_183 : decode cX12_thing 183 = .ok (.getfield 7, 3) := by decide +kernel
theorem dX12_thing_186 : decode cX12_thing 186 = .ok (.sipush 1641, 3) := by decide +kernel
theorem dX12_thing_189 : decode cX12_thing 189 = .ok (.iaload, 1) := by decide +kernel
theorem dX12_thing_190 : decode cX12_thing 190 = .ok (.iconst 1, 1) := by decide +kernel
theorem dX12_thing_191 : decode cX12_thing 191 = .ok (.isub, 1) := by decide +kernel
theorem dX12_thing_192 : decode cX12_thing 192 = .ok (.invokevirtual 176, 3) := by decide +kernel
theorem dX12_thing_195 : decode cX12_thing 195 = .ok (.ireturn, 1) := by decide +kernel
theorem w_X12_thing_j99 {z : (Int32 × VT)} {Γ : Gam} {cy : Nat → ClassId} {a : Nat → Nat} {V : VT} {X : va_W}  (C0 : CXg Γ cX12_thing 7 1 RX12 cy) (hD : DM Γ cy a X) (h : f_X12_thing_j99 V = some z) (hz : (fun y : Int32 × VT => FinI Γ cX12_thing (WM cy a y.2 X) y.1) z) : Wp Γ 0 0 99 [(0, .ref (a 0))] [] (WM cy a V X) := by
  unfold f_X12_thing_j99 at h
  refine r_aload_n C0 dX12_thing_99 rfl 0 rfl ?_
  refine callV0 C0 h (hD _) mw_X12_refused rv_m tm_X12_172 (fun y hy => c_X12_refused hy) (Nat.le_of_ble_eq_true rfl) (Nat.le_of_ble_eq_true rfl) dX12_thing_100 (fun r4 h => ?_)
  cases h
  exact hz _ _ dX12_thing_103
theorem w_X12_thing_j91 {z : (Int32 × VT)} {Γ : Gam} {cy : Nat → ClassId} {a : Nat → Nat} {V : VT} {X : va_W} {v1 : Int32} {v2 : Int32} {v3 : Int32} {v4 : Int32} {s1 : Int32}  (C0 : CXg Γ cX12_thing 7 1 RX12 cy) (hD : DM Γ cy a X) (h : f_X12_thing_j91 v1 v2 v3 v4 s1 V = some z) (hz : (fun y : Int32 × VT => FinI Γ cX12_thing (WM cy a y.2 X) y.1) z) : Wp Γ 0 0 91 [(0, .ref (a 0)), (1, .int v1), (2, .int v2), (3, .int v3), (4, .int v4)] [.int s1, .ref (a 0)] (WM cy a V X) := by
  unfold f_X12_thing_j91 at h
  refine r_bipush C0 dX12_thing_91 kb_11 ?_
  refine callV2 C0 h (hD _) mw_X12_is rv_m tm_X12_168 (fun y hy => c_X12_is hy) (Nat.le_of_ble_eq_true rfl) (Nat.le_of_ble_eq_true rfl) dX12_thing_93 (fun r6 h => ?_)
  refine r_if_eq C0 104 dX12_thing_96 rfl h (fun _ h => ?_) (fun _ h => ?_)
  · refine r_sipush C0 dX12_thing_104 ks_732 ?_
    refine r_iconst C0 dX12_thing_107 ki_5 ?_
    refine r_aload_n C0 dX12_thing_108 rfl 0 rfl ?_
    refine wmg_0_0 C0 tf_X12_7 dX12_thing_109 ?_
    refine r_sipush C0 dX12_thing_112 ks_1641 ?_
    refine wmal_1 C0 h dX12_thing_115 (fun k7 h => ?_)
    refine r_imul C0 dX12_thing_116 ?_
    refine r_iadd C0 dX12_thing_117 ?_
    obtain ⟨a8, h8, h⟩ := op_bind h
    have e8 := Option.some.inj h8
    refine r_istore (lv2 := [(6, .int a8), (0, .ref (a 0)), (1, .int v1), (2, .int v2), (3, .int v3), (4, .int v4)]) C0 dX12_thing_118 e8 (Nat.le_of_ble_eq_true rfl) rfl ?_
    refine r_aload_n C0 dX12_thing_120 rfl 1 rfl ?_
    refine wmg_0_0 C0 tf_X12_7 dX12_thing_121 ?_
    refine r_iload C0 dX12_thing_124 0 rfl ?_
    refine r_iload_n C0 dX12_thing_126 rfl 2 rfl ?_
    refine wmas_1 C0 hD h dX12_thing_127 (fun k9 h => ?_)
    refine r_aload_n C0 dX12_thing_128 rfl 1 rfl ?_
    refine wmg_0_0 C0 tf_X12_7 dX12_thing_129 ?_
    refine r_iload C0 dX12_thing_132 0 rfl ?_
    refine r_iconst C0 dX12_thing_134 ki_1 ?_
    refine r_iadd C0 dX12_thing_135 ?_
    refine r_iload_n C0 dX12_thing_136 rfl 3 rfl ?_
    refine wmas_1 C0 hD h dX12_thing_137 (fun k10 h => ?_)
    refine r_aload_n C0 dX12_thing_138 rfl 1 rfl ?_
    refine wmg_0_0 C0 tf_X12_7 dX12_thing_139 ?_
    refine r_iload C0 dX12_thing_142 0 rfl ?_
    refine r_iconst C0 dX12_thing_144 ki_2 ?_
    refine r_iadd C0 dX12_thing_145 ?_
    refine r_iload_n C0 dX12_thing_146 rfl 4 rfl ?_
    refine wmas_1 C0 hD h dX12_thing_147 (fun k11 h => ?_)
    refine r_aload_n C0 dX12_thing_148 rfl 1 rfl ?_
    refine wmg_0_0 C0 tf_X12_7 dX12_thing_149 ?_
    refine r_iload C0 dX12_thing_152 0 rfl ?_
    refine r_iconst C0 dX12_thing_154 ki_3 ?_
    refine r_iadd C0 dX12_thing_155 ?_
    refine r_iload C0 dX12_thing_156 5 rfl ?_
    refine wmas_1 C0 hD h dX12_thing_158 (fun k12 h => ?_)
    refine r_aload_n C0 dX12_thing_159 rfl 1 rfl ?_
    refine wmg_0_0 C0 tf_X12_7 dX12_thing_160 ?_
    refine r_iload C0 dX12_thing_163 0 rfl ?_
    refine r_iconst C0 dX12_thing_165 ki_4 ?_
    refine r_iadd C0 dX12_thing_166 ?_
    refine r_iconst C0 dX12_thing_167 ki_0 ?_
    refine wmas_1 C0 hD h dX12_thing_168 (fun k13 h => ?_)
    refine r_aload_n C0 dX12_thing_169 rfl 1 rfl ?_
    refine wmg_0_0 C0 tf_X12_7 dX12_thing_170 ?_
    refine r_sipush C0 dX12_thing_173 ks_1641 ?_
    refine r_dup2 C0 dX12_thing_176 rfl rfl ?_
    refine wmal_1 C0 h dX12_thing_177 (fun k14 h => ?_)
    refine r_iconst C0 dX12_thing_178 ki_1 ?_
    refine r_iadd C0 dX12_thing_179 ?_
    refine wmas_1 C0 hD h dX12_thing_180 (fun k15 h => ?_)
    refine r_aload_n C0 dX12_thing_181 rfl 1 rfl ?_
    refine r_aload_n C0 dX12_thing_182 rfl 1 rfl ?_
    refine wmg_0_0 C0 tf_X12_7 dX12_thing_183 ?_
    refine r_sipush C0 dX12_thing_186 ks_1641 ?_
    refine wmal_1 C0 h dX12_thing_189 (fun k16 h => ?_)
    refine r_iconst C0 dX12_thing_190 ki_1 ?_
    refine r_isub C0 dX12_thing_191 ?_
    refine callV1 C0 h (hD _) mw_X12_keep rv_m tm_X12_176 (fun y hy => c_X12_keep hy) (Nat.le_of_ble_eq_true rfl) (Nat.le_of_ble_eq_true rfl) dX12_thing_192 (fun r17 h => ?_)
    cases h
    exact hz _ _ dX12_thing_195
  · exact r_sub [0] rfl (w_X12_thing_j99 C0 hD h hz)
theorem w_X12_thing_j59 {z : (Int32 × VT)} {Γ : Gam} {cy : Nat → ClassId} {a : Nat → Nat} {V : VT} {X : va_W} {v1 : Int32} {v2 : Int32} {v3 : Int32} {v4 : Int32} {s0 : Int32}  (C0 : CXg Γ cX12_thing 7 1 RX12 cy) (hD : DM Γ cy a X) (h : f_X12_thing_j59 v1 v2 v3 v4 s0 V = some z) (hz : (fun y : Int32 × VT => FinI Γ cX12_thing (WM cy a y.2 X) y.1) z) : Wp Γ 0 0 59 [(0, .ref (a 0)), (1, .int v1), (2, .int v2), (3, .int v3), (4, .int v4)] [.int s0] (WM cy a V X) := by
  unfold f_X12_thing_j59 at h
  refine r_istore (lv2 := [(5, .int s0), (0, .ref (a 0)), (1, .int v1), (2, .int v2), (3, .int v3), (4, .int v4)]) C0 dX12_thing_59 rfl (Nat.le_of_ble_eq_true rfl) rfl ?_
  refine r_aload_n C0 dX12_thing_61 rfl 1 rfl ?_
  refine r_iload C0 dX12_thing_62 0 rfl ?_
  refine r_bipush C0 dX12_thing_64 kb_7 ?_
  refine callV2 C0 h (hD _) mw_X12_is rv_m tm_X12_168 (fun y hy => c_X12_is hy) (Nat.le_of_ble_eq_true rfl) (Nat.le_of_ble_eq_true rfl) dX12_thing_66 (fun r3 h => ?_)
  refine r_if_ne C0 99 dX12_thing_69 rfl h (fun _ h => ?_) (fun _ h => ?_)
  · exact r_sub [1] rfl (w_X12_thing_j99 C0 hD h hz)
  · refine r_aload_n C0 dX12_thing_72 rfl 1 rfl ?_
    refine r_aload_n C0 dX12_thing_73 rfl 1 rfl ?_
    refine wmg_0_0 C0 tf_X12_7 dX12_thing_74 ?_
    refine r_sipush C0 dX12_thing_77 ks_1641 ?_
    refine wmal_1 C0 h dX12_thing_80 (fun k5 h => ?_)
    refine r_bipush C0 dX12_thing_81 kb_80 ?_
    refine r_icmp_ne C0 90 dX12_thing_83 rfl h (fun _ h => ?_) (fun _ h => ?_)
    · refine r_iconst C0 dX12_thing_90 ki_0 ?_
      exact r_sub [1, 2, 3, 4, 5] rfl (w_X12_thing_j91 C0 hD h hz)
    · refine r_iconst C0 dX12_thing_86 ki_1 ?_
      refine r_goto C0 91 dX12_thing_87 rfl ?_
      exact r_sub [1, 2, 3, 4, 5] rfl (w_X12_thing_j91 C0 hD h hz)
theorem w_X12_thing_j54 {z : (Int32 × VT)} {Γ : Gam} {cy : Nat → ClassId} {a : Nat → Nat} {V : VT} {X : va_W} {v1 : Int32} {v2 : Int32} {v3 : Int32} {v4 : Int32}  (C0 : CXg Γ cX12_thing 7 1 RX12 cy) (hD : DM Γ cy a X) (h : f_X12_thing_j54 v1 v2 v3 v4 V = some z) (hz : (fun y : Int32 × VT => FinI Γ cX12_thing (WM cy a y.2 X) y.1) z) : Wp Γ 0 0 54 [(0, .ref (a 0)), (1, .int v1), (2, .int v2), (3, .int v3), (4, .int v4)] [] (WM cy a V X) := by
  unfold f_X12_thing_j54 at h
  refine r_iconst C0 dX12_thing_54 ki_1 ?_
  refine r_goto C0 59 dX12_thing_55 rfl ?_
  exact r_sub [0, 1, 2, 3, 4] rfl (w_X12_thing_j59 C0 hD h hz)
theorem w_X12_thing_j37 {z : (Int32 × VT)} {Γ : Gam} {cy : Nat → ClassId} {a : Nat → Nat} {V : VT} {X : va_W} {v1 : Int32} {v2 : Int32} {v3 : Int32} {v4 : Int32} {s0 : Int32} {s1 : Int32} {s2 : Int32}  (C0 : CXg Γ cX12_thing 7 1 RX12 cy) (hD : DM Γ cy a X) (h : f_X12_thing_j37 v1 v2 v3 v4 s0 s1 s2 V = some z) (hz : (fun y : Int32 × VT => FinI Γ cX12_thing (WM cy a y.2 X) y.1) z) : Wp Γ 0 0 37 [(0, .ref (a 0)), (1, .int v1), (2, .int v2), (3, .int v3), (4, .int v4)] [.int s2, .int s1, .int s0] (WM cy a V X) := by
  unfold f_X12_thing_j37 at h
  refine callS3 C0 h (hD _) ms_X12_in tm_X12_47 (fun y hy => c_X12_in hy) (Nat.le_of_ble_eq_true rfl) (Nat.le_of_ble_eq_true rfl) dX12_thing_37 (fun r19 h => ?_)
  refine r_if_eq C0 54 dX12_thing_40 rfl h (fun _ h => ?_) (fun _ h => ?_)
  · exact r_sub [0, 1, 2, 3, 4] rfl (w_X12_thing_j54 C0 hD h hz)
  · refine r_iload C0 dX12_thing_43 4 rfl ?_
    refine r_iconst C0 dX12_thing_45 ki_0 ?_
    refine r_ldc C0 tk_X12_185 dX12_thing_46 ?_
    refine callS3 C0 h (hD _) ms_X12_in tm_X12_47 (fun y hy => c_X12_in hy) (Nat.le_of_ble_eq_true rfl) (Nat.le_of_ble_eq_true rfl) dX12_thing_48 (fun r20 h => ?_)
    refine r_if_ne C0 58 dX12_thing_51 rfl h (fun _ h => ?_) (fun _ h => ?_)
    · refine r_iconst C0 dX12_thing_58 ki_0 ?_
      exact r_sub [0, 1, 2, 3, 4] rfl (w_X12_thing_j59 C0 hD h hz)
    · exact r_sub [0, 1, 2, 3, 4] rfl (w_X12_thing_j54 C0 hD h hz)
theorem w_X12_thing {z : Int32 × VT} {Γ : Gam} {cy : Nat → ClassId} {a : Nat → Nat} {V : VT} {X : va_W} {v1 : Int32} {v2 : Int32} {v3 : Int32} {v4 : Int32}  (C0 : CXg Γ cX12_thing 7 1 RX12 cy) (hD : DM Γ cy a X) (h : f_X12_thing v1 v2 v3 v4 V = some z) (hz : (fun y : Int32 × VT => FinI Γ cX12_thing (WM cy a y.2 X) y.1) z) : Wp Γ 0 0 0 [(0, .ref (a 0)), (1, .int v1), (2, .int v2), (3, .int v3), (4, .int v4)] [] (WM cy a V X) := by
  unfold f_X12_thing at h
  refine r_aload_n C0 dX12_thing_0 rfl 0 rfl ?_
  refine callVv0 C0 h (hD _) mw_X12_begin rv_m tm_X12_165 (fun y hy => c_X12_begin hy) (Nat.le_of_ble_eq_true rfl) (Nat.le_of_ble_eq_true rfl) dX12_thing_1 (fun r1 h => ?_)
  refine r_iload_n C0 dX12_thing_4 rfl 1 rfl ?_
  refine r_iconst C0 dX12_thing_5 ki_0 ?_
  refine r_iconst C0 dX12_thing_6 ki_4 ?_
  refine callS3 C0 h (hD _) ms_X12_in tm_X12_47 (fun y hy => c_X12_in hy) (Nat.le_of_ble_eq_true rfl) (Nat.le_of_ble_eq_true rfl) dX12_thing_7 (fun r2 h => ?_)
  refine r_if_eq C0 54 dX12_thing_10 rfl h (fun _ h => ?_) (fun _ h => ?_)
  · exact r_sub [0, 1, 2, 3, 4] rfl (w_X12_thing_j54 C0 hD h hz)
  · refine r_iload_n C0 dX12_thing_13 rfl 2 rfl ?_
    refine r_iconst C0 dX12_thing_14 ki_1 ?_
    refine r_bipush C0 dX12_thing_15 kb_15 ?_
    refine callS3 C0 h (hD _) ms_X12_in tm_X12_47 (fun y hy => c_X12_in hy) (Nat.le_of_ble_eq_true rfl) (Nat.le_of_ble_eq_true rfl) dX12_thing_17 (fun r18 h => ?_)
    refine r_if_eq C0 54 dX12_thing_20 rfl h (fun _ h => ?_) (fun _ h => ?_)
    · exact r_sub [0, 1, 2, 3, 4] rfl (w_X12_thing_j54 C0 hD h hz)
    · refine r_iload_n C0 dX12_thing_23 rfl 3 rfl ?_
      refine r_iconst C0 dX12_thing_24 ki_1 ?_
      refine r_iload_n C0 dX12_thing_25 rfl 1 rfl ?_
      refine r_iconst C0 dX12_thing_26 ki_1 ?_
      refine r_icmp_ne C0 35 dX12_thing_27 rfl h (fun _ h => ?_) (fun _ h => ?_)
      · refine r_bipush C0 dX12_thing_35 kb_40 ?_
        exact r_sub [0, 1, 2, 3, 4] rfl (w_X12_thing_j37 C0 hD h hz)
      · refine r_bipush C0 dX12_thing_30 kb_6 ?_
        refine r_goto C0 37 dX12_thing_32 rfl ?_
        exact r_sub [0, 1, 2, 3, 4] rfl (w_X12_thing_j37 C0 hD h hz)
theorem c_X12_thing {l : Launch} {D : va_G} {cy : Nat → ClassId} {a : Nat → Nat} {V : VT} {X : va_W} {v1 : Int32} {v2 : Int32} {v3 : Int32} {v4 : Int32} {y : Int32 × VT} (h : f_X12_thing v1 v2 v3 v4 V = some y) : CT l D cy yX12_thing cX12_thing 7 (some .int) 1 [.ref (a 0), .int v1, .int v2, .int v3, .int v4] (WM cy a V X) (WM cy a y.2 X) (some (.int y.1)) :=
  mkI (by decide) (Nat.le_of_ble_eq_true rfl) (fun Γ _ _ C0 hD hF => w_X12_thing C0 (dm_of hD) h hF)
theorem dX12_takenBack_0 : decode cX12_takenBack 0 = .ok (.iconst 0, 1) := by decide +kernel
theorem dX12_takenBack_1 : decode cX12_takenBack 1 = .ok (.istore_n 1, 1) := by decide +kernel
theorem dX12_takenBack_2 : decode cX12_takenBack 2 = .ok (.iload_n 1, 1) := by decide +kernel
theorem dX12_takenBack_3 : decode cX12_takenBack 3 = .ok (.sipush 1646, 3) := by decide +kernel
theorem dX12_takenBack_6 : decode cX12_takenBack 6 = .ok (.if_icmp .ge 21, 3) := by decide +kernel
theorem dX12_takenBack_9 : decode cX12_takenBack 9 = .ok (.aload_n 0, 1) := by decide +kernel
theorem dX12_takenBack_10 : decode cX12_takenBack 10 = .ok (.getfield 7, 3) := by decide +kernel
theorem dX12_takenBack_13 : decode cX12_takenBack 13 = .ok (.iload_n 1, 1) := by decide +kernel
theorem dX12_takenBack_14 : decode cX12_takenBack 14 = .ok (.aload_n 0, 1) := by decide +kernel
theorem dX12_takenBack_15 : decode cX12_takenBack 15 = .ok (.getfield 17, 3) := by decide +kernel
theorem dX12_takenBack_18 : decode cX12_takenBack 18 = .ok (.iload_n 1, 1) := by decide +kernel
theorem dX12_takenBack_19 : decode cX12_takenBack 19 = .ok (.iaload, 1) := by decide +kernel
theorem dX12_takenBack_20 : decode cX12_takenBack 20 = .ok (.iastore, 1) := by decide +kernel
theorem dX12_takenBack_21 : decode cX12_takenBack 21 = .ok (.iinc 1 1, 3) := by decide +kernel
theorem dX12_takenBack_24 : decode cX12_takenBack 24 = .ok (.goto (-22), 3) := by decide +kernel
theorem dX12_takenBack_27 : decode cX12_takenBack 27 = .ok (.aload_n 0, 1) := by decide +kernel
theorem dX12_takenBack_28 : decode cX12_takenBack 28 = .ok (.invokevirtual 172, 3) := by decide +kernel
theorem dX12_takenBack_31 : decode cX12_takenBack 31 = .ok (.ireturn, 1) := by decide +kernel
theorem w_X12_takenBack_B2 {x : Int32 × VT} {z : ((Int32 × VT) ⊕ (Int32 × VT))} {Γ : Gam} {cy : Nat → ClassId} {a : Nat → Nat} {X : va_W}  (C0 : CXg Γ cX12_takenBack 2 1 RX12 cy) (hD : DM Γ cy a X) (h : f_X12_takenBack_B2 x = some z) (hz : (Sum.elim (fun x : Int32 × VT => Wp Γ 0 0 2 [(0, .ref (a 0)), (1, .int x.1)] [] (WM cy a x.2 X)) (fun y : Int32 × VT => FinI Γ cX12_takenBack (WM cy a y.2 X) y.1)) z) : Wp Γ 0 0 2 [(0, .ref (a 0)), (1, .int x.1)] [] (WM cy a x.2 X) := by
  unfold f_X12_takenBack_B2 at h
  refine r_iload_n C0 dX12_takenBack_2 rfl 1 rfl ?_
  refine r_sipush C0 dX12_takenBack_3 ks_1646 ?_
  refine r_icmp_ge C0 27 dX12_takenBack_6 rfl h (fun _ h => ?_) (fun _ h => ?_)
  · obtain ⟨y2, h5, h9⟩ := op_bind h
    clear h
    cases h9
    have hz := (el_inr hz)
    have h := h5
    refine r_aload_n C0 dX12_takenBack_27 rfl 0 rfl ?_
    refine callV0 C0 h (hD _) mw_X12_refused rv_m tm_X12_172 (fun y hy => c_X12_refused hy) (Nat.le_of_ble_eq_true rfl) (Nat.le_of_ble_eq_true rfl) dX12_takenBack_28 (fun r3 h => ?_)
    cases h
    exact hz _ _ dX12_takenBack_31
  · refine r_aload_n C0 dX12_takenBack_9 rfl 0 rfl ?_
    refine wmg_0_0 C0 tf_X12_7 dX12_takenBack_10 ?_
    refine r_iload_n C0 dX12_takenBack_13 rfl 1 rfl ?_
    refine r_aload_n C0 dX12_takenBack_14 rfl 0 rfl ?_
    refine wmg_0_3 C0 tf_X12_17 dX12_takenBack_15 ?_
    refine r_iload_n C0 dX12_takenBack_18 rfl 1 rfl ?_
    refine wmal_3 C0 h dX12_takenBack_19 (fun k4 h => ?_)
    refine wmas_1 C0 hD h dX12_takenBack_20 (fun k5 h => ?_)
    obtain ⟨a6, h8, h⟩ := op_bind h
    have e8 := Option.some.inj h8
    refine r_iinc (lv2 := [(1, .int a6), (0, .ref (a 0))]) C0 dX12_takenBack_21 1 rfl ki_1 e8 (Nat.le_of_ble_eq_true rfl) rfl ?_
    refine r_goto C0 2 dX12_takenBack_24 rfl ?_
    cases h
    have hz := el_inl hz
    exact r_sub [1, 0] rfl hz
theorem w_X12_takenBack_B2_lp {x : Int32 × VT} {z : (Int32 × VT)} {Γ : Gam} {cy : Nat → ClassId} {a : Nat → Nat} {X : va_W}  (C0 : CXg Γ cX12_takenBack 2 1 RX12 cy) (hD : DM Γ cy a X) (h : lp (f_X12_takenBack_B2) fuel x = some z) (hz : (fun y : Int32 × VT => FinI Γ cX12_takenBack (WM cy a y.2 X) y.1) z) : Wp Γ 0 0 2 [(0, .ref (a 0)), (1, .int x.1)] [] (WM cy a x.2 X) :=
  lp_rule (hd := (fun x : Int32 × VT => Wp Γ 0 0 2 [(0, .ref (a 0)), (1, .int x.1)] [] (WM cy a x.2 X))) (C := (fun y : Int32 × VT => FinI Γ cX12_takenBack (WM cy a y.2 X) y.1)) (fun x z h hz => w_X12_takenBack_B2 C0 hD h hz) _ _ _ h hz
theorem w_X12_takenBack {z : Int32 × VT} {Γ : Gam} {cy : Nat → ClassId} {a : Nat → Nat} {V : VT} {X : va_W}  (C0 : CXg Γ cX12_takenBack 2 1 RX12 cy) (hD : DM Γ cy a X) (h : f_X12_takenBack V = some z) (hz : (fun y : Int32 × VT => FinI Γ cX12_takenBack (WM cy a y.2 X) y.1) z) : Wp Γ 0 0 0 [(0, .ref (a 0))] [] (WM cy a V X) := by
  unfold f_X12_takenBack at h
  refine r_iconst C0 dX12_takenBack_0 ki_0 ?_
  obtain ⟨a1, h8, h⟩ := op_bind h
  have e8 := Option.some.inj h8
  refine r_istore_n (lv2 := [(1, .int a1), (0, .ref (a 0))]) C0 dX12_takenBack_1 rfl e8 (Nat.le_of_ble_eq_true rfl) rfl ?_
  exact r_sub [1, 0] rfl (w_X12_takenBack_B2_lp C0 hD h hz)
theorem c_X12_takenBack {l : Launch} {D : va_G} {cy : Nat → ClassId} {a : Nat → Nat} {V : VT} {X : va_W} {y : Int32 × VT} (h : f_X12_takenBack V = some y) : CT l D cy yX12_takenBack cX12_takenBack 2 (some .int) 1 [.ref (a 0)] (WM cy a V X) (WM cy a y.2 X) (some (.int y.1)) :=
  mkI (by decide) (Nat.le_of_ble_eq_true rfl) (fun Γ _ _ C0 hD hF => w_X12_takenBack C0 (dm_of hD) h hF)
theorem dX12_heat_0 : decode cX12_heat 0 = .ok (.aload_n 0, 1) := by decide +kernel
theorem dX12_heat_1 : decode cX12_heat 1 = .ok (.invokevirtual 165, 3) := by decide +kernel
theorem dX12_heat_4 : decode cX12_heat 4 = .ok (.aload_n 0, 1) := by decide +kernel
theorem dX12_heat_5 : decode cX12_heat 5 = .ok (.aload_n 0, 1) := by decide +kernel
theorem dX12_heat_6 : decode cX12_heat 6 = .ok (.iload_n 1, 1) := by decide +kernel
theorem dX12_heat_7 : decode cX12_heat 7 = .ok (.invokevirtual 186, 3) := by decide +kernel
theorem dX12_heat_10 : decode cX12_heat 10 = .ok (.ifCond .ne 7, 3) := by decide +kernel
theorem dX12_heat_13 : decode cX12_heat 13 = .ok (.iconst 1, 1) := by decide +kernel
theorem dX12_heat_14 : decode cX12_heat 14 = .ok (.goto 4, 3) := by decide +kernel
theorem dX12_heat_17 : decode cX12_heat 17 = .ok (.iconst 0, 1) := by decide +kernel
theorem dX12_heat_18 : decode cX12_heat 18 = .ok (.iconst 2, 1) := by decide +kernel
theorem dX12_heat_19 : decode cX12_heat 19 = .ok (.invokevirtual 168, 3) := by decide +kernel
theorem dX12_heat_22 : decode cX12_heat 22 = .ok (.ifCond .ne 50, 3) := by decide +kernel
theorem dX12_heat_25 : decode cX12_heat 25 = .ok (.aload_n 0, 1) := by decide +kernel
theorem dX12_heat_26 : decode cX12_heat 26 = .ok (.aload_n 0, 1) := by decide +kernel
theorem dX12_heat_27 : decode cX12_heat 27 = .ok (.iload_n 1, 1) := by decide +kernel
theorem dX12_heat_28 : decode cX12_heat 28 = .ok (.iconst 0, 1) := by decide +kernel
theorem dX12_heat_29 : decode cX12_heat 29 = .ok (.invokevirtual 75, 3) := by decide +kernel
theorem dX12_heat_32 : decode cX12_heat 32 = .ok (.iconst 2, 1) := by decide +kernel
theorem dX12_heat_33 : decode cX12_heat 33 = .ok (.if_icmp .eq 7, 3) := by decide +kernel
theorem dX12_heat_36 : decode cX12_heat 36 = .ok (.iconst 1, 1) := by decide +kernel
theorem dX12_heat_37 : decode cX12_heat 37 = .ok (.goto 4, 3) := by decide +kernel
theorem dX12_heat_40 : decode cX12_heat 40 = .ok (.iconst 0, 1) := by decide +kernel
theorem dX12_heat_41 : decode cX12_heat 41 = .ok (.iconst 4, 1) := by decide +kernel
theorem dX12_heat_42 : decode cX12_heat 42 = .ok (.invokevirtual 168, 3) := by decide +kernel
theorem dX12_heat_45 : decode cX12_heat 45 = .ok (.ifCond .ne 27, 3) := by decide +kernel
theorem dX12_heat_48 : decode cX12_heat 48 = .ok (.aload_n 0, 1) := by decide +kernel
theorem dX12_heat_49 : decode cX12_heat 49 = .ok (.iload_n 2, 1) := by decide +kernel
theorem dX12_heat_50 : decode cX12_heat 50 = .ok (.iconst 0, 1) := by decide +kernel
theorem dX12_heat_51 : decode cX12_heat 51 = .ok (.ldc 189, 2) := by decide +kernel
theorem dX12_heat_53 : decode cX12_heat 53 = .ok (.invokestatic 47, 3) := by decide +kernel
theorem dX12_heat_56 : decode cX12_heat 56 = .ok (.ifCond .ne 7, 3) := by decide +kernel
theorem dX12_heat_59 : decode cX12_heat 59 = .ok (.iconst 1, 1) := by decide +kernel
theorem dX12_heat_60 : decode cX12_heat 60 = .ok (.goto 4, 3) := by decide +kernel
theorem dX12_heat_63 : decode cX12_heat 63 = .ok (.iconst 0, 1) := by decide +kernel
theorem dX12_heat_64 : decode cX12_heat 64 = .ok (.bipush 7, 2) := by decide +kernel
theorem dX12_heat_66 : decode cX12_heat 66 = .ok (.invokevirtual 168, 3) := by decide +kernel
theorem dX12_heat_69 : decode cX12_heat 69 = .ok (.ifCond .eq 8, 3) := by decide +kernel
theorem dX12_heat_72 : decode cX12_heat 72 = .ok (.aload_n 0, 1) := by decide +kernel
theorem dX12_heat_73 : decode cX12_heat 73 = .ok (.invokevirtual 172, 3) := by decide +kernel
theorem dX12_heat_76 : decode cX12_heat 76 = .ok (.ireturn, 1) := by decide +kernel
theorem dX12_heat_77 : decode cX12_heat 77 = .ok (.aload_n 0, 1) := by decide +kernel
theorem dX12_heat_78 : decode cX12_heat 78 = .ok (.iload_n 1, 1) := by decide +kernel
theorem dX12_heat_79 : decode cX12_heat 79 = .ok (.iconst 4, 1) := by decide +kernel
theorem dX12_heat_80 : decode cX12_heat 80 = .ok (.invokevirtual 75, 3) := by decide +kernel
theorem dX12_heat_83 : decode cX12_heat 83 = .ok (.istore_n 3, 1) := by decide +kernel
theorem dX12_heat_84 : decode cX12_heat 84 = .ok (.aload_n 0, 1) := by decide +kernel
theorem dX12_heat_85 : decode cX12_heat 85 = .ok (.getfield 7, 3) := by decide +kernel
theorem dX12_heat_88 : decode cX12_heat 88 = .ok (.sipush 732, 3) := by decide +kernel
theorem dX12_heat_91 : decode cX12_heat 91 = .ok (.iconst 5, 1) := by decide +kernel
theorem dX12_heat_92 : decode cX12_heat 92 = .ok (.iload_n 1, 1) := by decide +kernel
theorem dX12_heat_93 : decode cX12_heat 93 = .ok (.imul, 1) := by decide +kernel
theorem dX12_heat_94 : decode cX12_heat 94 = .ok (.iadd, 1) := by decide +kernel
theorem dX12_heat_95 : decode cX12_heat 95 = .ok (.iconst 4, 1) := by decide +kernel
theorem dX12_heat_96 : decode cX12_heat 96 = .ok (.iadd, 1) := by decide +kernel
theorem dX12_heat_97 : decode cX12_heat 97 = .ok (.iload_n 2, 1) := by decide +kernel
theorem dX12_heat_98 : decode cX12_heat 98 = .ok (.iastore, 1) := by decide +kernel
theorem dX12_heat_99 : decode cX12_heat 99 = .ok (.aload_n 0, 1) := by decide +kernel
theorem dX12_heat_100 : decode cX12_heat 100 = .ok (.invokevirtual 190, 3) := by decide +kernel
theorem dX12_heat_103 : decode cX12_heat 103 = .ok (.istore 4, 2) := by decide +kernel
theorem dX12_heat_105 : decode cX12_heat 105 = .ok (.aload_n 0, 1) := by decide +kernel
theorem dX12_heat_106 : decode cX12_heat 106 = .ok (.iload 4, 2) := by decide +kernel
theorem dX12_heat_108 : decode cX12_heat 108 = .ok (.ifCond .lt 7, 3) := by decide +kernel
theorem dX12_heat_111 : decode cX12_heat 111 = .ok (.iconst 1, 1) := by decide +kernel
theorem dX12_heat_112 : decode cX12_heat 112 = .ok (.goto 4, 3) := by decide +kernel
theorem dX12_heat_115 : decode cX12_heat 115 = .ok (.iconst 0, 1) := by decide +kernel
theorem dX12_heat_116 : decode cX12_heat 116 = .ok (.bipush 14, 2) := by decide +kernel
theorem dX12_heat_118 : decode cX12_heat 118 = .ok (.invokevirtual 168, 3) := by decide +kernel
theorem dX12_heat_121 : decode cX12_heat 121 = .ok (.ifCond .eq 14, 3) := by decide +kernel
theorem dX12_heat_124 : decode cX12_heat 124 = .ok (.aload_n 0, 1) := by decide +kernel
theorem dX12_heat_125 : decode cX12_heat 125 = .ok (.iload 4, 2) := by decide +kernel
theorem dX12_heat_127 : decode cX12_heat 127 = .ok (.putfield 36, 3) := by decide +kernel
theorem dX12_heat_130 : decode cX12_heat 130 = .ok (.aload_n 0, 1) := by decide +kernel
theorem dX12_heat_131 : decode cX12_heat 131 = .ok (.invokevirtual 193, 3) := by decide +kernel
theorem dX12_heat_134 : decode cX12_heat 134 = .ok (.ireturn, 1) := by decide +kernel
theorem dX12_heat_135 : decode cX12_heat 135 = .ok (.aload_n 0, 1) := by decide +kernel
theorem dX12_heat_136 : decode cX12_heat 136 = .ok (.iload_n 3, 1) := by decide +kernel
theorem dX12_heat_137 : decode cX12_heat 137 = .ok (.invokevirtual 176, 3) := by decide +kernel
theorem dX12_heat_140 : decode cX12_heat 140 = .ok (.ireturn, 1) := by decide +kernel
theorem w_X12_heat_j72 {z : (Int32 × VT)} {Γ : Gam} {cy : Nat → ClassId} {a : Nat → Nat} {V : VT} {X : va_W}  (C0 : CXg Γ cX12_heat 5 4 RX12 cy) (hD : DM Γ cy a X) (h : f_X12_heat_j72 V = some z) (hz : (fun y : Int32 × VT => FinI Γ cX12_heat (WM cy a y.2 X) y.1) z) : Wp Γ 0 0 72 [(0, .ref (a 0))] [] (WM cy a V X) := by
  unfold f_X12_heat_j72 at h
  refine r_aload_n C0 dX12_heat_72 rfl 0 rfl ?_
  refine callV0 C0 h (hD _) mw_X12_refused rv_m tm_X12_172 (fun y hy => c_X12_refused hy) (Nat.le_of_ble_eq_true rfl) (Nat.le_of_ble_eq_true rfl) dX12_heat_73 (fun r4 h => ?_)
  cases h
  exact hz _ _ dX12_heat_76
theorem w_X12_heat_j116 {z : (Int32 × VT)} {Γ : Gam} {cy : Nat → ClassId} {a : Nat → Nat} {V : VT} {X : va_W} {v3 : Int32} {v4 : Int32} {s1 : Int32}  (C0 : CXg Γ cX12_heat 5 4 RX12 cy) (hD : DM Γ cy a X) (h : f_X12_heat_j116 v3 v4 s1 V = some z) (hz : (fun y : Int32 × VT => FinI Γ cX12_heat (WM cy a y.2 X) y.1) z) : Wp Γ 0 0 116 [(0, .ref (a 0)), (3, .int v3), (4, .int v4)] [.int s1, .ref (a 0)] (WM cy a V X) := by
  unfold f_X12_heat_j116 at h
  refine r_bipush C0 dX12_heat_116 kb_14 ?_
  refine callV2 C0 h (hD _) mw_X12_is rv_m tm_X12_168 (fun y hy => c_X12_is hy) (Nat.le_of_ble_eq_true rfl) (Nat.le_of_ble_eq_true rfl) dX12_heat_118 (fun r12 h => ?_)
  refine r_if_eq C0 135 dX12_heat_121 rfl h (fun _ h => ?_) (fun _ h => ?_)
  · refine r_aload_n C0 dX12_heat_135 rfl 0 rfl ?_
    refine r_iload_n C0 dX12_heat_136 rfl 1 rfl ?_
    refine callV1 C0 h (hD _) mw_X12_keep rv_m tm_X12_176 (fun y hy => c_X12_keep hy) (Nat.le_of_ble_eq_true rfl) (Nat.le_of_ble_eq_true rfl) dX12_heat_137 (fun r13 h => ?_)
    cases h
    exact hz _ _ dX12_heat_140
  · refine r_aload_n C0 dX12_heat_124 rfl 0 rfl ?_
    refine r_iload C0 dX12_heat_125 2 rfl ?_
    refine wmp_0_8 C0 hD tf_X12_36 dX12_heat_127 ?_
    refine r_aload_n C0 dX12_heat_130 rfl 0 rfl ?_
    refine callV0 C0 h (hD _) mw_X12_takenBack rv_m tm_X12_193 (fun y hy => c_X12_takenBack hy) (Nat.le_of_ble_eq_true rfl) (Nat.le_of_ble_eq_true rfl) dX12_heat_131 (fun r14 h => ?_)
    cases h
    exact hz _ _ dX12_heat_134
theorem w_X12_heat_j64 {z : (Int32 × VT)} {Γ : Gam} {cy : Nat → ClassId} {a : Nat → Nat} {V : VT} {X : va_W} {v1 : Int32} {v2 : Int32} {s1 : Int32}  (C0 : CXg Γ cX12_heat 5 4 RX12 cy) (hD : DM Γ cy a X) (h : f_X12_heat_j64 v1 v2 s1 V = some z) (hz : (fun y : Int32 × VT => FinI Γ cX12_heat (WM cy a y.2 X) y.1) z) : Wp Γ 0 0 64 [(0, .ref (a 0)), (1, .int v1), (2, .int v2)] [.int s1, .ref (a 0)] (WM cy a V X) := by
  unfold f_X12_heat_j64 at h
  refine r_bipush C0 dX12_heat_64 kb_7 ?_
  refine callV2 C0 h (hD _) mw_X12_is rv_m tm_X12_168 (fun y hy => c_X12_is hy) (Nat.le_of_ble_eq_true rfl) (Nat.le_of_ble_eq_true rfl) dX12_heat_66 (fun r8 h => ?_)
  refine r_if_eq C0 77 dX12_heat_69 rfl h (fun _ h => ?_) (fun _ h => ?_)
  · refine r_aload_n C0 dX12_heat_77 rfl 0 rfl ?_
    refine r_iload_n C0 dX12_heat_78 rfl 1 rfl ?_
    refine r_iconst C0 dX12_heat_79 ki_4 ?_
    refine callV2 C0 h (hD _) mw_X12_thingIs rv_m tm_X12_75 (fun y hy => c_X12_thingIs hy) (Nat.le_of_ble_eq_true rfl) (Nat.le_of_ble_eq_true rfl) dX12_heat_80 (fun r9 h => ?_)
    refine r_istore_n (lv2 := [(3, .int r9), (0, .ref (a 0)), (1, .int v1), (2, .int v2)]) C0 dX12_heat_83 rfl rfl (Nat.le_of_ble_eq_true rfl) rfl ?_
    refine r_aload_n C0 dX12_heat_84 rfl 1 rfl ?_
    refine wmg_0_0 C0 tf_X12_7 dX12_heat_85 ?_
    refine r_sipush C0 dX12_heat_88 ks_732 ?_
    refine r_iconst C0 dX12_heat_91 ki_5 ?_
    refine r_iload_n C0 dX12_heat_92 rfl 2 rfl ?_
    refine r_imul C0 dX12_heat_93 ?_
    refine r_iadd C0 dX12_heat_94 ?_
    refine r_iconst C0 dX12_heat_95 ki_4 ?_
    refine r_iadd C0 dX12_heat_96 ?_
    refine r_iload_n C0 dX12_heat_97 rfl 3 rfl ?_
    refine wmas_1 C0 hD h dX12_heat_98 (fun k10 h => ?_)
    refine r_aload_n C0 dX12_heat_99 rfl 1 rfl ?_
    refine callV0 C0 h (hD _) mw_X12_scorched rv_m tm_X12_190 (fun y hy => c_X12_scorched hy) (Nat.le_of_ble_eq_true rfl) (Nat.le_of_ble_eq_true rfl) dX12_heat_100 (fun r11 h => ?_)
    refine r_istore (lv2 := [(4, .int r11), (3, .int r9), (0, .ref (a 0)), (1, .int v1), (2, .int v2)]) C0 dX12_heat_103 rfl (Nat.le_of_ble_eq_true rfl) rfl ?_
    refine r_aload_n C0 dX12_heat_105 rfl 2 rfl ?_
    refine r_iload C0 dX12_heat_106 0 rfl ?_
    refine r_if_lt C0 115 dX12_heat_108 rfl h (fun _ h => ?_) (fun _ h => ?_)
    · refine r_iconst C0 dX12_heat_115 ki_0 ?_
      exact r_sub [2, 1, 0] rfl (w_X12_heat_j116 C0 hD h hz)
    · refine r_iconst C0 dX12_heat_111 ki_1 ?_
      refine r_goto C0 116 dX12_heat_112 rfl ?_
      exact r_sub [2, 1, 0] rfl (w_X12_heat_j116 C0 hD h hz)
  · exact r_sub [0] rfl (w_X12_heat_j72 C0 hD h hz)
theorem w_X12_heat_j41 {z : (Int32 × VT)} {Γ : Gam} {cy : Nat → ClassId} {a : Nat → Nat} {V : VT} {X : va_W} {v1 : Int32} {v2 : Int32} {s1 : Int32}  (C0 : CXg Γ cX12_heat 5 4 RX12 cy) (hD : DM Γ cy a X) (h : f_X12_heat_j41 v1 v2 s1 V = some z) (hz : (fun y : Int32 × VT => FinI Γ cX12_heat (WM cy a y.2 X) y.1) z) : Wp Γ 0 0 41 [(0, .ref (a 0)), (1, .int v1), (2, .int v2)] [.int s1, .ref (a 0)] (WM cy a V X) := by
  unfold f_X12_heat_j41 at h
  refine r_iconst C0 dX12_heat_41 ki_4 ?_
  refine callV2 C0 h (hD _) mw_X12_is rv_m tm_X12_168 (fun y hy => c_X12_is hy) (Nat.le_of_ble_eq_true rfl) (Nat.le_of_ble_eq_true rfl) dX12_heat_42 (fun r6 h => ?_)
  refine r_if_ne C0 72 dX12_heat_45 rfl h (fun _ h => ?_) (fun _ h => ?_)
  · exact r_sub [0] rfl (w_X12_heat_j72 C0 hD h hz)
  · refine r_aload_n C0 dX12_heat_48 rfl 0 rfl ?_
    refine r_iload_n C0 dX12_heat_49 rfl 2 rfl ?_
    refine r_iconst C0 dX12_heat_50 ki_0 ?_
    refine r_ldc C0 tk_X12_189 dX12_heat_51 ?_
    refine callS3 C0 h (hD _) ms_X12_in tm_X12_47 (fun y hy => c_X12_in hy) (Nat.le_of_ble_eq_true rfl) (Nat.le_of_ble_eq_true rfl) dX12_heat_53 (fun r7 h => ?_)
    refine r_if_ne C0 63 dX12_heat_56 rfl h (fun _ h => ?_) (fun _ h => ?_)
    · refine r_iconst C0 dX12_heat_63 ki_0 ?_
      exact r_sub [0, 1, 2] rfl (w_X12_heat_j64 C0 hD h hz)
    · refine r_iconst C0 dX12_heat_59 ki_1 ?_
      refine r_goto C0 64 dX12_heat_60 rfl ?_
      exact r_sub [0, 1, 2] rfl (w_X12_heat_j64 C0 hD h hz)
theorem w_X12_heat_j18 {z : (Int32 × VT)} {Γ : Gam} {cy : Nat → ClassId} {a : Nat → Nat} {V : VT} {X : va_W} {v1 : Int32} {v2 : Int32} {s1 : Int32}  (C0 : CXg Γ cX12_heat 5 4 RX12 cy) (hD : DM Γ cy a X) (h : f_X12_heat_j18 v1 v2 s1 V = some z) (hz : (fun y : Int32 × VT => FinI Γ cX12_heat (WM cy a y.2 X) y.1) z) : Wp Γ 0 0 18 [(0, .ref (a 0)), (1, .int v1), (2, .int v2)] [.int s1, .ref (a 0)] (WM cy a V X) := by
  unfold f_X12_heat_j18 at h
  refine r_iconst C0 dX12_heat_18 ki_2 ?_
  refine callV2 C0 h (hD _) mw_X12_is rv_m tm_X12_168 (fun y hy => c_X12_is hy) (Nat.le_of_ble_eq_true rfl) (Nat.le_of_ble_eq_true rfl) dX12_heat_19 (fun r3 h => ?_)
  refine r_if_ne C0 72 dX12_heat_22 rfl h (fun _ h => ?_) (fun _ h => ?_)
  · exact r_sub [0] rfl (w_X12_heat_j72 C0 hD h hz)
  · refine r_aload_n C0 dX12_heat_25 rfl 0 rfl ?_
    refine r_aload_n C0 dX12_heat_26 rfl 0 rfl ?_
    refine r_iload_n C0 dX12_heat_27 rfl 1 rfl ?_
    refine r_iconst C0 dX12_heat_28 ki_0 ?_
    refine callV2 C0 h (hD _) mw_X12_thingIs rv_m tm_X12_75 (fun y hy => c_X12_thingIs hy) (Nat.le_of_ble_eq_true rfl) (Nat.le_of_ble_eq_true rfl) dX12_heat_29 (fun r5 h => ?_)
    refine r_iconst C0 dX12_heat_32 ki_2 ?_
    refine r_icmp_eq C0 40 dX12_heat_33 rfl h (fun _ h => ?_) (fun _ h => ?_)
    · refine r_iconst C0 dX12_heat_40 ki_0 ?_
      exact r_sub [0, 1, 2] rfl (w_X12_heat_j41 C0 hD h hz)
    · refine r_iconst C0 dX12_heat_36 ki_1 ?_
      refine r_goto C0 41 dX12_heat_37 rfl ?_
      exact r_sub [0, 1, 2] rfl (w_X12_heat_j41 C0 hD h hz)
theorem w_X12_heat {z : Int32 × VT} {Γ : Gam} {cy : Nat → ClassId} {a : Nat → Nat} {V : VT} {X : va_W} {v1 : Int32} {v2 : Int32}  (C0 : CXg Γ cX12_heat 5 4 RX12 cy) (hD : DM Γ cy a X) (h : f_X12_heat v1 v2 V = some z) (hz : (fun y : Int32 × VT => FinI Γ cX12_heat (WM cy a y.2 X) y.1) z) : Wp Γ 0 0 0 [(0, .ref (a 0)), (1, .int v1), (2, .int v2)] [] (WM cy a V X) := by
  unfold f_X12_heat at h
  refine r_aload_n C0 dX12_heat_0 rfl 0 rfl ?_
  refine callVv0 C0 h (hD _) mw_X12_begin rv_m tm_X12_165 (fun y hy => c_X12_begin hy) (Nat.le_of_ble_eq_true rfl) (Nat.le_of_ble_eq_true rfl) dX12_heat_1 (fun r1 h => ?_)
  refine r_aload_n C0 dX12_heat_4 rfl 0 rfl ?_
  refine r_aload_n C0 dX12_heat_5 rfl 0 rfl ?_
  refine r_iload_n C0 dX12_heat_6 rfl 1 rfl ?_
  refine callV1 C0 h (hD _) mw_X12_isTold rv_m tm_X12_186 (fun y hy => c_X12_isTold hy) (Nat.le_of_ble_eq_true rfl) (Nat.le_of_ble_eq_true rfl) dX12_heat_7 (fun r2 h => ?_)
  refine r_if_ne C0 17 dX12_heat_10 rfl h (fun _ h => ?_) (fun _ h => ?_)
  · refine r_iconst C0 dX12_heat_17 ki_0 ?_
    exact r_sub [0, 1, 2] rfl (w_X12_heat_j18 C0 hD h hz)
  · refine r_iconst C0 dX12_heat_13 ki_1 ?_
    refine r_goto C0 18 dX12_heat_14 rfl ?_
    exact r_sub [0, 1, 2] rfl (w_X12_heat_j18 C0 hD h hz)
theorem c_X12_heat {l : Launch} {D : va_G} {cy : Nat → ClassId} {a : Nat → Nat} {V : VT} {X : va_W} {v1 : Int32} {v2 : Int32} {y : Int32 × VT} (h : f_X12_heat v1 v2 V = some y) : CT l D cy yX12_heat cX12_heat 5 (some .int) 4 [.ref (a 0), .int v1, .int v2] (WM cy a V X) (WM cy a y.2 X) (some (.int y.1)) :=
  mkI (by decide) (Nat.le_of_ble_eq_true rfl) (fun Γ _ _ C0 hD hF => w_X12_heat C0 (dm_of hD) h hF)
theorem dX12_hang_0 : decode cX12_hang 0 = .ok (.aload_n 0, 1) := by decide +kernel
theorem dX12_hang_1 : decode cX12_hang 1 = .ok (.invokevirtual 165, 3) := by decide +kernel
theorem dX12_hang_4 : decode cX12_hang 4 = .ok (.aload_n 0, 1) := by decide +kernel
theorem dX12_hang_5 : decode cX12_hang 5 = .ok (.aload_n 0, 1) := by decide +kernel
theorem dX12_hang_6 : decode cX12_hang 6 = .ok (.iload_n 1, 1) := by decide +kernel
theorem dX12_hang_7 : decode cX12_hang 7 = .ok (.invokevirtual 186, 3) := by decide +kernel
theorem dX12_hang_10 : decode cX12_hang 10 = .ok (.ifCond .ne 7, 3) := by decide +kernel
theorem dX12_hang_13 : decode cX12_hang 13 = .ok (.iconst 1, 1) := by decide +kernel
theorem dX12_hang_14 : decode cX12_hang 14 = .ok (.goto 4, 3) := by decide +kernel
theorem dX12_hang_17 : decode cX12_hang 17 = .ok (.iconst 0, 1) := by decide +kernel
theorem dX12_hang_18 : decode cX12_hang 18 = .ok (.iconst 2, 1) := by decide +kernel
theorem dX12_hang_19 : decode cX12_hang 19 = .ok (.invokevirtual 168, 3) := by decide +kernel
theorem dX12_hang_22 : decode cX12_hang 22 = .ok (.ifCond .ne 27, 3) := by decide +kernel
theorem dX12_hang_25 : decode cX12_hang 25 = .ok (.aload_n 0, 1) := by decide +kernel
theorem dX12_hang_26 : decode cX12_hang 26 = .ok (.aload_n 0, 1) := by decide +kernel
theorem dX12_hang_27 : decode cX12_hang 27 = .ok (.iload_n 1, 1) := by decide +kernel
theorem dX12_hang_28 : decode cX12_hang 28 = .ok (.invokevirtual 196, 3) := by decide +kernel
theorem dX12_hang_31 : decode cX12_hang 31 = .ok (.ldc 42, 2) := by decide +kernel
theorem dX12_hang_33 : decode cX12_hang 33 = .ok (.if_icmp .eq 7, 3) := by decide +kernel
theorem dX12_hang_36 : decode cX12_hang 36 = .ok (.iconst 1, 1) := by decide +kernel
theorem dX12_hang_37 : decode cX12_hang 37 = .ok (.goto 4, 3) := by decide +kernel
theorem dX12_hang_40 : decode cX12_hang 40 = .ok (.iconst 0, 1) := by decide +kernel
theorem dX12_hang_41 : decode cX12_hang 41 = .ok (.bipush 8, 2) := by decide +kernel
theorem dX12_hang_43 : decode cX12_hang 43 = .ok (.invokevirtual 168, 3) := by decide +kernel
theorem dX12_hang_46 : decode cX12_hang 46 = .ok (.ifCond .eq 8, 3) := by decide +kernel
theorem dX12_hang_49 : decode cX12_hang 49 = .ok (.aload_n 0, 1) := by decide +kernel
theorem dX12_hang_50 : decode cX12_hang 50 = .ok (.invokevirtual 172, 3) := by decide +kernel
theorem dX12_hang_53 : decode cX12_hang 53 = .ok (.ireturn, 1) := by decide +kernel
theorem dX12_hang_54 : decode cX12_hang 54 = .ok (.aload_n 0, 1) := by decide +kernel
theorem dX12_hang_55 : decode cX12_hang 55 = .ok (.iload_n 1, 1) := by decide +kernel
theorem dX12_hang_56 : decode cX12_hang 56 = .ok (.iconst 0, 1) := by decide +kernel
theorem dX12_hang_57 : decode cX12_hang 57 = .ok (.invokevirtual 75, 3) := by decide +kernel
theorem dX12_hang_60 : decode cX12_hang 60 = .ok (.iconst 4, 1) := by decide +kernel
theorem dX12_hang_61 : decode cX12_hang 61 = .ok (.if_icmp .ne 7, 3) := by decide +kernel
theorem dX12_hang_64 : decode cX12_hang 64 = .ok (.iconst 1, 1) := by decide +kernel
theorem dX12_hang_65 : decode cX12_hang 65 = .ok (.goto 4, 3) := by decide +kernel
theorem dX12_hang_68 : decode cX12_hang 68 = .ok (.iconst 0, 1) := by decide +kernel
theorem dX12_hang_69 : decode cX12_hang 69 = .ok (.istore 4, 2) := by decide +kernel
theorem dX12_hang_71 : decode cX12_hang 71 = .ok (.iload 4, 2) := by decide +kernel
theorem dX12_hang_73 : decode cX12_hang 73 = .ok (.ifCond .eq 15, 3) := by decide +kernel
theorem dX12_hang_76 : decode cX12_hang 76 = .ok (.iload_n 2, 1) := by decide +kernel
theorem dX12_hang_77 : decode cX12_hang 77 = .ok (.bipush 12, 2) := by decide +kernel
theorem dX12_hang_79 : decode cX12_hang 79 = .ok (.if_icmp .ge 9, 3) := by decide +kernel
theorem dX12_hang_82 : decode cX12_hang 82 = .ok (.iload_n 2, 1) := by decide +kernel
theorem dX12_hang_83 : decode cX12_hang 83 = .ok (.iconst 1, 1) := by decide +kernel
theorem dX12_hang_84 : decode cX12_hang 84 = .ok (.iadd, 1) := by decide +kernel
theorem dX12_hang_85 : decode cX12_hang 85 = .ok (.goto 4, 3) := by decide +kernel
theorem dX12_hang_88 : decode cX12_hang 88 = .ok (.iload_n 2, 1) := by decide +kernel
theorem dX12_hang_89 : decode cX12_hang 89 = .ok (.istore 5, 2) := by decide +kernel
theorem dX12_hang_91 : decode cX12_hang 91 = .ok (.aload_n 0, 1) := by decide +kernel
theorem dX12_hang_92 : decode cX12_hang 92 = .ok (.iload_n 2, 1) := by decide +kernel
theorem dX12_hang_93 : decode cX12_hang 93 = .ok (.invokestatic 115, 3) := by decide +kernel
theorem dX12_hang_96 : decode cX12_hang 96 = .ok (.ifCond .eq 11, 3) := by decide +kernel
theorem dX12_hang_99 : decode cX12_hang 99 = .ok (.iload 5, 2) := by decide +kernel
theorem dX12_hang_101 : decode cX12_hang 101 = .ok (.invokestatic 115, 3) := by decide +kernel
theorem dX12_hang_104 : decode cX12_hang 104 = .ok (.ifCond .ne 7, 3) := by decide +kernel
theorem dX12_hang_107 : decode cX12_hang 107 = .ok (.iconst 1, 1) := by decide +kernel
theorem dX12_hang_108 : decode cX12_hang 108 = .ok (.goto 4, 3) := by decide +kernel
theorem dX12_hang_111 : decode cX12_hang 111 = .ok (.iconst 0, 1) := by decide +kernel
theorem dX12_hang_112 : decode cX12_hang 112 = .ok (.iconst 2, 1) := by decide +kernel
theorem dX12_hang_113 : decode cX12_hang 113 = .ok (.invokevirtual 168, 3) := by decide +kernel
theorem dX12_hang_116 : decode cX12_hang 116 = .ok (.ifCond .ne 65, 3) := by decide +kernel
theorem dX12_hang_119 : decode cX12_hang 119 = .ok (.aload_n 0, 1) := by decide +kernel
theorem dX12_hang_120 : decode cX12_hang 120 = .ok (.aload_n 0, 1) := by decide +kernel
theorem dX12_hang_121 : decode cX12_hang 121 = .ok (.iload_n 2, 1) := by decide +kernel
theorem dX12_hang_122 : decode cX12_hang 122 = .ok (.invokevirtual 66, 3) := by decide +kernel
theorem dX12_hang_125 : decode cX12_hang 125 = .ok (.ifCond .eq 12, 3) := by decide +kernel
theorem dX12_hang_128 : decode cX12_hang 128 = .ok (.aload_n 0, 1) := by decide +kernel
theorem dX12_hang_129 : decode cX12_hang 129 = .ok (.iload 5, 2) := by decide +kernel
theorem dX12_hang_131 : decode cX12_hang 131 = .ok (.invokevirtual 66, 3) := by decide +kernel
theorem dX12_hang_134 : decode cX12_hang 134 = .ok (.ifCond .ne 7, 3) := by decide +kernel
theorem dX12_hang_137 : decode cX12_hang 137 = .ok (.iconst 1, 1) := by decide +kernel
theorem dX12_hang_138 : decode cX12_hang 138 = .ok (.goto 4, 3) := by decide +kernel
theorem dX12_hang_141 : decode cX12_hang 141 = .ok (.iconst 0, 1) := by decide +kernel
theorem dX12_hang_142 : decode cX12_hang 142 = .ok (.iconst 1, 1) := by decide +kernel
theorem dX12_hang_143 : decode cX12_hang 143 = .ok (.invokevirtual 168, 3) := by decide +kernel
theorem dX12_hang_146 : decode cX12_hang 146 = .ok (.ifCond .ne 35, 3) := by decide +kernel
theorem dX12_hang_149 : decode cX12_hang 149 = .ok (.aload_n 0, 1) := by decide +kernel
theorem dX12_hang_150 : decode cX12_hang 150 = .ok (.aload_n 0, 1) := by decide +kernel
theorem dX12_hang_151 : decode cX12_hang 151 = .ok (.iload_n 2, 1) := by decide +kernel
theorem dX12_hang_152 : decode cX12_hang 152 = .ok (.iload_n 3, 1) := by decide +kernel
theorem dX12_hang_153 : decode cX12_hang 153 = .ok (.invokevirtual 118, 3) := by decide +kernel
theorem dX12_hang_156 : decode cX12_hang 156 = .ok (.ifCond .eq 13, 3) := by decide +kernel
theorem dX12_hang_159 : decode cX12_hang 159 = .ok (.aload_n 0, 1) := by decide +kernel
theorem dX12_hang_160 : decode cX12_hang 160 = .ok (.iload 5, 2) := by decide +kernel
theorem dX12_hang_162 : decode cX12_hang 162 = .ok (.iload_n 3, 1) := by decide +kernel
theorem dX12_hang_163 : decode cX12_hang 163 = .ok (.invokevirtual 118, 3) := by decide +kernel
theorem dX12_hang_166 : decode cX12_hang 166 = .ok (.ifCond .ne 7, 3) := by decide +kernel
theorem dX12_hang_169 : decode cX12_hang 169 = .ok (.iconst 1, 1) := by decide +kernel
theorem dX12_hang_170 : decode cX12_hang 170 = .ok (.goto 4, 3) := by decide +kernel
theorem dX12_hang_173 : decode cX12_hang 173 = .ok (.iconst 0, 1) := by decide +kernel
theorem dX12_hang_174 : decode cX12_hang 174 = .ok (.iconst 2, 1) := by decide +kernel
theorem dX12_hang_175 : decode cX12_hang 175 = .ok (.invokevirtual 168, 3) := by decide +kernel
theorem dX12_hang_178 : decode cX12_hang 178 = .ok (.ifCond .eq 8, 3) := by decide +kernel
theorem dX12_hang_181 : decode cX12_hang 181 = .ok (.aload_n 0, 1) := by decide +kernel
theorem dX12_hang_182 : decode cX12_hang 182 = .ok (.invokevirtual 172, 3) := by decide +kernel
theorem dX12_hang_185 : decode cX12_hang 185 = .ok (.ireturn, 1) := by decide +kernel
theorem dX12_hang_186 : decode cX12_hang 186 = .ok (.aload_n 0, 1) := by decide +kernel
theorem dX12_hang_187 : decode cX12_hang 187 = .ok (.aload_n 0, 1) := by decide +kernel
theorem dX12_hang_188 : decode cX12_hang 188 = .ok (.iload_n 2, 1) := by decide +kernel
theorem dX12_hang_189 : decode cX12_hang 189 = .ok (.invokevirtual 124, 3) := by decide +kernel
theorem dX12_hang_192 : decode cX12_hang 192 = .ok (.ifCond .ne 12, 3) := by decide +kernel
theorem dX12_hang_195 : decode cX12_hang 195 = .ok (.aload_n 0, 1) := by decide +kernel
theorem dX12_hang_196 : decode cX12_hang 196 = .ok (.iload 5, 2) := by decide +kernel
theorem dX12_hang_198 : decode cX12_hang 198 = .ok (.invokevirtual 124, 3) := by decide +kernel
theorem dX12_hang_201 : decode cX12_hang 201 = .ok (.ifCond .eq 7, 3) := by decide +kernel
theorem dX12_hang_204 : decode cX12_hang 204 = .ok (.iconst 1, 1) := by decide +kernel
theorem dX12_hang_205 : decode cX12_hang 205 = .ok (.goto 4, 3) := by decide +kernel
theorem dX12_hang_208 : decode cX12_hang 208 = .ok (.iconst 0, 1) := by decide +kernel
theorem dX12_hang_209 : decode cX12_hang 209 = .ok (.bipush 10, 2) := by decide +kernel
theorem dX12_hang_211 : decode cX12_hang 211 = .ok (.invokevirtual 168, 3) := by decide +kernel
theorem dX12_hang_214 : decode cX12_hang 214 = .ok (.ifCond .ne 36, 3) := by decide +kernel
theorem dX12_hang_217 : decode cX12_hang 217 = .ok (.aload_n 0, 1) := by decide +kernel
theorem dX12_hang_218 : decode cX12_hang 218 = .ok (.aload_n 0, 1) := by decide +kernel
theorem dX12_hang_219 : decode cX12_hang 219 = .ok (.iload_n 2, 1) := by decide +kernel
theorem dX12_hang_220 : decode cX12_hang 220 = .ok (.iload_n 3, 1) := by decide +kernel
theorem dX12_hang_221 : decode cX12_hang 221 = .ok (.invokevirtual 72, 3) := by decide +kernel
theorem dX12_hang_224 : decode cX12_hang 224 = .ok (.ifCond .ne 13, 3) := by decide +kernel
theorem dX12_hang_227 : decode cX12_hang 227 = .ok (.aload_n 0, 1) := by decide +kernel
theorem dX12_hang_228 : decode cX12_hang 228 = .ok (.iload 5, 2) := by decide +kernel
theorem dX12_hang_230 : decode cX12_hang 230 = .ok (.iload_n 3, 1) := by decide +kernel
theorem dX12_hang_231 : decode cX12_hang 231 = .ok (.invokevirtual 72, 3) := by decide +kernel
theorem dX12_hang_234 : decode cX12_hang 234 = .ok (.ifCond .eq 7, 3) := by decide +kernel
theorem dX12_hang_237 : decode cX12_hang 237 = .ok (.iconst 1, 1) := by decide +kernel
theorem dX12_hang_238 : decode cX12_hang 238 = .ok (.goto 4, 3) := by decide +kernel
theorem dX12_hang_241 : decode cX12_hang 241 = .ok (.iconst 0, 1) := by decide +kernel
theorem dX12_hang_242 : decode cX12_hang 242 = .ok (.bipush 12, 2) := by decide +kernel
theorem dX12_hang_244 : decode cX12_hang 244 = .ok (.invokevirtual 168, 3) := by decide +kernel
theorem dX12_hang_247 : decode cX12_hang 247 = .ok (.ifCond .eq 8, 3) := by decide +kernel
theorem dX12_hang_250 : decode cX12_hang 250 = .ok (.aload_n 0, 1) := by decide +kernel
theorem dX12_hang_251 : decode cX12_hang 251 = .ok (.invokevirtual 172, 3) := by decide +kernel
theorem dX12_hang_254 : decode cX12_hang 254 = .ok (.ireturn, 1) := by decide +kernel
theorem dX12_hang_255 : decode cX12_hang 255 = .ok (.aload_n 0, 1) := by decide +kernel
theorem dX12_hang_256 : decode cX12_hang 256 = .ok (.iload_n 2, 1) := by decide +kernel
theorem dX12_hang_257 : decode cX12_hang 257 = .ok (.iload_n 3, 1) := by decide +kernel
theorem dX12_hang_258 : decode cX12_hang 258 = .ok (.iconst 2, 1) := by decide +kernel
theorem dX12_hang_259 : decode cX12_hang 259 = .ok (.iload_n 1, 1) := by decide +kernel
theorem dX12_hang_260 : decode cX12_hang 260 = .ok (.iadd, 1) := by decide +kernel
theorem dX12_hang_261 : decode cX12_hang 261 = .ok (.invokevirtual 199, 3) := by decide +kernel
theorem dX12_hang_264 : decode cX12_hang 264 = .ok (.aload_n 0, 1) := by decide +kernel
theorem dX12_hang_265 : decode cX12_hang 265 = .ok (.iload 5, 2) := by decide +kernel
theorem dX12_hang_267 : decode cX12_hang 267 = .ok (.iload_n 3, 1) := by decide +kernel
theorem dX12_hang_268 : decode cX12_hang 268 = .ok (.iconst 2, 1) := by decide +kernel
theorem dX12_hang_269 : decode cX12_hang 269 = .ok (.iload_n 1, 1) := by decide +kernel
theorem dX12_hang_270 : decode cX12_hang 270 = .ok (.iadd, 1) := by decide +kernel
theorem dX12_hang_271 : decode cX12_hang 271 = .ok (.invokevirtual 199, 3) := by decide +kernel
theorem dX12_hang_274 : decode cX12_hang 274 = .ok (.aload_n 0, 1) := by decide +kernel
theorem dX12_hang_275 : decode cX12_hang 275 = .ok (.iload_n 2, 1) := by decide +kernel
theorem dX12_hang_276 : decode cX12_hang 276 = .ok (.iload_n 3, 1) := by decide +kernel
theorem dX12_hang_277 : decode cX12_hang 277 = .ok (.invokevirtual 203, 3) := by decide +kernel
theorem dX12_hang_280 : decode cX12_hang 280 = .ok (.aload_n 0, 1) := by decide +kernel
theorem dX12_hang_281 : decode cX12_hang 281 = .ok (.iload 5, 2) := by decide +kernel
theorem dX12_hang_283 : decode cX12_hang 283 = .ok (.iload_n 3, 1) := by decide +kernel
theorem dX12_hang_284 : decode cX12_hang 284 = .ok (.invokevirtual 203, 3) := by decide +kernel
theorem dX12_hang_287 : decode cX12_hang 287 = .ok (.invokestatic 134, 3) := by decide +kernel
theorem dX12_hang_290 : decode cX12_hang 290 = .ok (.istore 6, 2) := by decide +kernel
theorem dX12_hang_292 : decode cX12_hang 292 = .ok (.aload_n 0, 1) := by decide +kernel
theorem dX12_hang_293 : decode cX12_hang 293 = .ok (.iload 6, 2) := by decide +kernel
theorem dX12_hang_295 : decode cX12_hang 295 = .ok (.ifCond .lt 7, 3) := by decide +kernel
theorem dX12_hang_298 : decode cX12_hang 298 = .ok (.iconst 1, 1) := by decide +kernel
theorem dX12_hang_299 : decode cX12_hang 299 = .ok (.goto 4, 3) := by decide +kernel
theorem dX12_hang_302 : decode cX12_hang 302 = .ok (.iconst 0, 1) := by decide +kernel
theorem dX12_hang_303 : decode cX12_hang 303 = .ok (.bipush 13, 2) := by decide +kernel
theorem dX12_hang_305 : decode cX12_hang 305 = .ok (.invokevirtual 168, 3) := by decide +kernel
theorem dX12_hang_308 : decode cX12_hang 308 = .ok (.ifCond .eq 14, 3) := by decide +kernel
theorem dX12_hang_311 : decode cX12_hang 311 = .ok (.aload_n 0, 1) := by decide +kernel
theorem dX12_hang_312 : decode cX12_hang 312 = .ok (.iload 6, 2) := by decide +kernel
theorem dX12_hang_314 : decode cX12_hang 314 = .ok (.putfield 36, 3) := by decide +kernel
theorem dX12_hang_317 : decode cX12_hang 317 = .ok (.aload_n 0, 1) := by decide +kernel
theorem dX12_hang_318 : decode cX12_hang 318 = .ok (.invokevirtual 193, 3) := by decide +kernel
theorem dX12_hang_321 : decode cX12_hang 321 = .ok (.ireturn, 1) := by decide +kernel
theorem dX12_hang_322 : decode cX12_hang 322 = .ok (.aload_n 0, 1) := by decide +kernel
theorem dX12_hang_323 : decode cX12_hang 323 = .ok (.invokevirtual 190, 3) := by decide +kernel
theorem dX12_hang_326 : decode cX12_hang 326 = .ok (.istore 7, 2) := by decide +kernel
theorem dX12_hang_328 : decode cX12_hang 328 = .ok (.aload_n 0, 1) := by decide +kernel
theorem dX12_hang_329 : decode cX12_hang 329 = .ok (.iload 7, 2) := by decide +kernel
theorem dX12_hang_331 : decode cX12_hang 331 = .ok (.ifCond .lt 7, 3) := by decide +kernel
theorem dX12_hang_334 : decode cX12_hang 334 = .ok (.iconst 1, 1) := by decide +kernel
theorem dX12_hang_335 : decode cX12_hang 335 = .ok (.goto 4, 3) := by decide +kernel
theorem dX12_hang_338 : decode cX12_hang 338 = .ok (.iconst 0, 1) := by decide +kernel
theorem dX12_hang_339 : decode cX12_hang 339 = .ok (.bipush 14, 2) := by decide +kernel
theorem dX12_hang_341 : decode cX12_hang 341 = .ok (.invokevirtual 168, 3) := by decide +kernel
theorem dX12_hang_344 : decode cX12_hang 344 = .ok (.ifCond .eq 14, 3) := by decide +kernel
theorem dX12_hang_347 : decode cX12_hang 347 = .ok (.aload_n 0, 1) := by decide +kernel
theorem dX12_hang_348 : decode cX12_hang 348 = .ok (.iload 7, 2) := by decide +kernel
theorem dX12_hang_350 : decode cX12_hang 350 = .ok (.putfield 36, 3) := by decide +kernel
theorem dX12_hang_353 : decode cX12_hang 353 = .ok (.aload_n 0, 1) := by decide +kernel
theorem dX12_hang_354 : decode cX12_hang 354 = .ok (.invokevirtual 193, 3) := by decide +kernel
theorem dX12_hang_357 : decode cX12_hang 357 = .ok (.ireturn, 1) := by decide +kernel
theorem dX12_hang_358 : decode cX12_hang 358 = .ok (.aload_n 0, 1) := by decide +kernel
theorem dX12_hang_359 : decode cX12_hang 359 = .ok (.iload_n 2, 1) := by decide +kernel
theorem dX12_hang_360 : decode cX12_hang 360 = .ok (.invokevirtual 153, 3) := by decide +kernel
theorem dX12_hang_363 : decode cX12_hang 363 = .ok (.ifCond .eq 21, 3) := by decide +kernel
theorem dX12_hang_366 : decode cX12_hang 366 = .ok (.aload_n 0, 1) := by decide +kernel
theorem dX12_hang_367 : decode cX12_hang 367 = .ok (.iload 5, 2) := by decide +kernel
theorem dX12_hang_369 : decode cX12_hang 369 = .ok (.invokevirtual 153, 3) := by decide +kernel
theorem dX12_hang_372 : decode cX12_hang 372 = .ok (.ifCond .eq 7, 3) := by decide +kernel
theorem dX12_hang_375 : decode cX12_hang 375 = .ok (.iconst (-1), 1) := by decide +kernel
theorem dX12_hang_376 : decode cX12_hang 376 = .ok (.goto 9, 3) := by decide +kernel
theorem dX12_hang_379 : decode cX12_hang 379 = .ok (.iload 5, 2) := by decide +kernel
theorem dX12_hang_381 : decode cX12_hang 381 = .ok (.goto 4, 3) := by decide +kernel
theorem dX12_hang_384 : decode cX12_hang 384 = .ok (.iload_n 2, 1) := by decide +kernel
theorem dX12_hang_385 : decode cX12_hang 385 = .ok (.istore 8, 2) := by decide +kernel
theorem dX12_hang_387 : decode cX12_hang 387 = .ok (.aload_n 0, 1) := by decide +kernel
theorem dX12_hang_388 : decode cX12_hang 388 = .ok (.iload 8, 2) := by decide +kernel
theorem dX12_hang_390 : decode cX12_hang 390 = .ok (.ifCond .lt 7, 3) := by decide +kernel
theorem dX12_hang_393 : decode cX12_hang 393 = .ok (.iconst 1, 1) := by decide +kernel
theorem dX12_hang_394 : decode cX12_hang 394 = .ok (.goto 4, 3) := by decide +kernel
theorem dX12_hang_397 : decode cX12_hang 397 = .ok (.iconst 0, 1) := by decide +kernel
theorem dX12_hang_398 : decode cX12_hang 398 = .ok (.bipush 15, 2) := by decide +kernel
theorem dX12_hang_400 : decode cX12_hang 400 = .ok (.invokevirtual 168, 3) := by decide +kernel
theorem dX12_hang_403 : decode cX12_hang 403 = .ok (.ifCond .eq 14, 3) := by decide +kernel
theorem dX12_hang_406 : decode cX12_hang 406 = .ok (.aload_n 0, 1) := by decide +kernel
theorem dX12_hang_407 : decode cX12_hang 407 = .ok (.iload 8, 2) := by decide +kernel
theorem dX12_hang_409 : decode cX12_hang 409 = .ok (.putfield 36, 3) := by decide +kernel
theorem dX12_hang_412 : decode cX12_hang 412 = .ok (.aload_n 0, 1) := by decide +kernel
theorem dX12_hang_413 : decode cX12_hang 413 = .ok (.invokevirtual 193, 3) := by decide +kernel
theorem dX12_hang_416 : decode cX12_hang 416 = .ok (.ireturn, 1) := by decide +kernel
theorem dX12_hang_417 : decode cX12_hang 417 = .ok (.aload_n 0, 1) := by decide +kernel
theorem dX12_hang_418 : decode cX12_hang 418 = .ok (.aload_n 0, 1) := by decide +kernel
theorem dX12_hang_419 : decode cX12_hang 419 = .ok (.iload_n 2, 1) := by decide +kernel
theorem dX12_hang_420 : decode cX12_hang 420 = .ok (.invokevirtual 102, 3) := by decide +kernel
theorem dX12_hang_423 : decode cX12_hang 423 = .ok (.invokevirtual 176, 3) := by decide +kernel
theorem dX12_hang_426 : decode cX12_hang 426 = .ok (.ireturn, 1) := by decide +kernel
theorem w_X12_hang_j49 {z : (Int32 × VT)} {Γ : Gam} {cy : Nat → ClassId} {a : Nat → Nat} {V : VT} {X : va_W}  (C0 : CXg Γ cX12_hang 9 6 RX12 cy) (hD : DM Γ cy a X) (h : f_X12_hang_j49 V = some z) (hz : (fun y : Int32 × VT => FinI Γ cX12_hang (WM cy a y.2 X) y.1) z) : Wp Γ 0 0 49 [(0, .ref (a 0))] [] (WM cy a V X) := by
  unfold f_X12_hang_j49 at h
  refine r_aload_n C0 dX12_hang_49 rfl 0 rfl ?_
  refine callV0 C0 h (hD _) mw_X12_refused rv_m tm_X12_172 (fun y hy => c_X12_refused hy) (Nat.le_of_ble_eq_true rfl) (Nat.le_of_ble_eq_true rfl) dX12_hang_50 (fun r4 h => ?_)
  cases h
  exact hz _ _ dX12_hang_53
theorem w_X12_hang_j181 {z : (Int32 × VT)} {Γ : Gam} {cy : Nat → ClassId} {a : Nat → Nat} {V : VT} {X : va_W}  (C0 : CXg Γ cX12_hang 9 6 RX12 cy) (hD : DM Γ cy a X) (h : f_X12_hang_j181 V = some z) (hz : (fun y : Int32 × VT => FinI Γ cX12_hang (WM cy a y.2 X) y.1) z) : Wp Γ 0 0 181 [(0, .ref (a 0))] [] (WM cy a V X) := by
  unfold f_X12_hang_j181 at h
  refine r_aload_n C0 dX12_hang_181 rfl 0 rfl ?_
  refine callV0 C0 h (hD _) mw_X12_refused rv_m tm_X12_172 (fun y hy => c_X12_refused hy) (Nat.le_of_ble_eq_true rfl) (Nat.le_of_ble_eq_true rfl) dX12_hang_182 (fun r10 h => ?_)
  cases h
  exact hz _ _ dX12_hang_185
theorem w_X12_hang_j250 {z : (Int32 × VT)} {Γ : Gam} {cy : Nat → ClassId} {a : Nat → Nat} {V : VT} {X : va_W}  (C0 : CXg Γ cX12_hang 9 6 RX12 cy) (hD : DM Γ cy a X) (h : f_X12_hang_j250 V = some z) (hz : (fun y : Int32 × VT => FinI Γ cX12_hang (WM cy a y.2 X) y.1) z) : Wp Γ 0 0 250 [(0, .ref (a 0))] [] (WM cy a V X) := by
  unfold f_X12_hang_j250 at h
  refine r_aload_n C0 dX12_hang_250 rfl 0 rfl ?_
  refine callV0 C0 h (hD _) mw_X12_refused rv_m tm_X12_172 (fun y hy => c_X12_refused hy) (Nat.le_of_ble_eq_true rfl) (Nat.le_of_ble_eq_true rfl) dX12_hang_251 (fun r17 h => ?_)
  cases h
  exact hz _ _ dX12_hang_254
theorem w_X12_hang_j398 {z : (Int32 × VT)} {Γ : Gam} {cy : Nat → ClassId} {a : Nat → Nat} {V : VT} {X : va_W} {v2 : Int32} {v8 : Int32} {s1 : Int32}  (C0 : CXg Γ cX12_hang 9 6 RX12 cy) (hD : DM Γ cy a X) (h : f_X12_hang_j398 v2 v8 s1 V = some z) (hz : (fun y : Int32 × VT => FinI Γ cX12_hang (WM cy a y.2 X) y.1) z) : Wp Γ 0 0 398 [(0, .ref (a 0)), (2, .int v2), (8, .int v8)] [.int s1, .ref (a 0)] (WM cy a V X) := by
  unfold f_X12_hang_j398 at h
  refine r_bipush C0 dX12_hang_398 kb_15 ?_
  refine callV2 C0 h (hD _) mw_X12_is rv_m tm_X12_168 (fun y hy => c_X12_is hy) (Nat.le_of_ble_eq_true rfl) (Nat.le_of_ble_eq_true rfl) dX12_hang_400 (fun r29 h => ?_)
  refine r_if_eq C0 417 dX12_hang_403 rfl h (fun _ h => ?_) (fun _ h => ?_)
  · refine r_aload_n C0 dX12_hang_417 rfl 0 rfl ?_
    refine r_aload_n C0 dX12_hang_418 rfl 0 rfl ?_
    refine r_iload_n C0 dX12_hang_419 rfl 1 rfl ?_
    refine callV1 C0 h (hD _) mw_X12_things rv_m tm_X12_102 (fun y hy => c_X12_things hy) (Nat.le_of_ble_eq_true rfl) (Nat.le_of_ble_eq_true rfl) dX12_hang_420 (fun r30 h => ?_)
    refine callV1 C0 h (hD _) mw_X12_keep rv_m tm_X12_176 (fun y hy => c_X12_keep hy) (Nat.le_of_ble_eq_true rfl) (Nat.le_of_ble_eq_true rfl) dX12_hang_423 (fun r31 h => ?_)
    cases h
    exact hz _ _ dX12_hang_426
  · refine r_aload_n C0 dX12_hang_406 rfl 0 rfl ?_
    refine r_iload C0 dX12_hang_407 2 rfl ?_
    refine wmp_0_8 C0 hD tf_X12_36 dX12_hang_409 ?_
    refine r_aload_n C0 dX12_hang_412 rfl 0 rfl ?_
    refine callV0 C0 h (hD _) mw_X12_takenBack rv_m tm_X12_193 (fun y hy => c_X12_takenBack hy) (Nat.le_of_ble_eq_true rfl) (Nat.le_of_ble_eq_true rfl) dX12_hang_413 (fun r32 h => ?_)
    cases h
    exact hz _ _ dX12_hang_416
theorem w_X12_hang_j385 {z : (Int32 × VT)} {Γ : Gam} {cy : Nat → ClassId} {a : Nat → Nat} {V : VT} {X : va_W} {v2 : Int32} {s0 : Int32}  (C0 : CXg Γ cX12_hang 9 6 RX12 cy) (hD : DM Γ cy a X) (h : f_X12_hang_j385 v2 s0 V = some z) (hz : (fun y : Int32 × VT => FinI Γ cX12_hang (WM cy a y.2 X) y.1) z) : Wp Γ 0 0 385 [(0, .ref (a 0)), (2, .int v2)] [.int s0] (WM cy a V X) := by
  unfold f_X12_hang_j385 at h
  refine r_istore (lv2 := [(8, .int s0), (0, .ref (a 0)), (2, .int v2)]) C0 dX12_hang_385 rfl (Nat.le_of_ble_eq_true rfl) rfl ?_
  refine r_aload_n C0 dX12_hang_387 rfl 1 rfl ?_
  refine r_iload C0 dX12_hang_388 0 rfl ?_
  refine r_if_lt C0 397 dX12_hang_390 rfl h (fun _ h => ?_) (fun _ h => ?_)
  · refine r_iconst C0 dX12_hang_397 ki_0 ?_
    exact r_sub [1, 2, 0] rfl (w_X12_hang_j398 C0 hD h hz)
  · refine r_iconst C0 dX12_hang_393 ki_1 ?_
    refine r_goto C0 398 dX12_hang_394 rfl ?_
    exact r_sub [1, 2, 0] rfl (w_X12_hang_j398 C0 hD h hz)
theorem w_X12_hang_j339 {z : (Int32 × VT)} {Γ : Gam} {cy : Nat → ClassId} {a : Nat → Nat} {V : VT} {X : va_W} {v2 : Int32} {v5 : Int32} {v7 : Int32} {s1 : Int32}  (C0 : CXg Γ cX12_hang 9 6 RX12 cy) (hD : DM Γ cy a X) (h : f_X12_hang_j339 v2 v5 v7 s1 V = some z) (hz : (fun y : Int32 × VT => FinI Γ cX12_hang (WM cy a y.2 X) y.1) z) : Wp Γ 0 0 339 [(0, .ref (a 0)), (2, .int v2), (5, .int v5), (7, .int v7)] [.int s1, .ref (a 0)] (WM cy a V X) := by
  unfold f_X12_hang_j339 at h
  refine r_bipush C0 dX12_hang_339 kb_14 ?_
  refine callV2 C0 h (hD _) mw_X12_is rv_m tm_X12_168 (fun y hy => c_X12_is hy) (Nat.le_of_ble_eq_true rfl) (Nat.le_of_ble_eq_true rfl) dX12_hang_341 (fun r27 h => ?_)
  refine r_if_eq C0 358 dX12_hang_344 rfl h (fun _ h => ?_) (fun _ h => ?_)
  · refine r_aload_n C0 dX12_hang_358 rfl 0 rfl ?_
    refine r_iload_n C0 dX12_hang_359 rfl 1 rfl ?_
    refine callV1 C0 h (hD _) mw_X12_isHeld rv_m tm_X12_153 (fun y hy => c_X12_isHeld hy) (Nat.le_of_ble_eq_true rfl) (Nat.le_of_ble_eq_true rfl) dX12_hang_360 (fun r28 h => ?_)
    refine r_if_eq C0 384 dX12_hang_363 rfl h (fun _ h => ?_) (fun _ h => ?_)
    · refine r_iload_n C0 dX12_hang_384 rfl 1 rfl ?_
      exact r_sub [0, 1] rfl (w_X12_hang_j385 C0 hD h hz)
    · refine r_aload_n C0 dX12_hang_366 rfl 0 rfl ?_
      refine r_iload C0 dX12_hang_367 2 rfl ?_
      refine callV1 C0 h (hD _) mw_X12_isHeld rv_m tm_X12_153 (fun y hy => c_X12_isHeld hy) (Nat.le_of_ble_eq_true rfl) (Nat.le_of_ble_eq_true rfl) dX12_hang_369 (fun r33 h => ?_)
      refine r_if_eq C0 379 dX12_hang_372 rfl h (fun _ h => ?_) (fun _ h => ?_)
      · refine r_iload C0 dX12_hang_379 2 rfl ?_
        refine r_goto C0 385 dX12_hang_381 rfl ?_
        exact r_sub [0, 1] rfl (w_X12_hang_j385 C0 hD h hz)
      · refine r_iconst C0 dX12_hang_375 ki_m1 ?_
        refine r_goto C0 385 dX12_hang_376 rfl ?_
        exact r_sub [0, 1] rfl (w_X12_hang_j385 C0 hD h hz)
  · refine r_aload_n C0 dX12_hang_347 rfl 0 rfl ?_
    refine r_iload C0 dX12_hang_348 3 rfl ?_
    refine wmp_0_8 C0 hD tf_X12_36 dX12_hang_350 ?_
    refine r_aload_n C0 dX12_hang_353 rfl 0 rfl ?_
    refine callV0 C0 h (hD _) mw_X12_takenBack rv_m tm_X12_193 (fun y hy => c_X12_takenBack hy) (Nat.le_of_ble_eq_true rfl) (Nat.le_of_ble_eq_true rfl) dX12_hang_354 (fun r34 h => ?_)
    cases h
    exact hz _ _ dX12_hang_357
theorem w_X12_hang_j303 {z : (Int32 × VT)} {Γ : Gam} {cy : Nat → ClassId} {a : Nat → Nat} {V : VT} {X : va_W} {v2 : Int32} {v5 : Int32} {v6 : Int32} {s1 : Int32}  (C0 : CXg Γ cX12_hang 9 6 RX12 cy) (hD : DM Γ cy a X) (h : f_X12_hang_j303 v2 v5 v6 s1 V = some z) (hz : (fun y : Int32 × VT => FinI Γ cX12_hang (WM cy a y.2 X) y.1) z) : Wp Γ 0 0 303 [(0, .ref (a 0)), (2, .int v2), (5, .int v5), (6, .int v6)] [.int s1, .ref (a 0)] (WM cy a V X) := by
  unfold f_X12_hang_j303 at h
  refine r_bipush C0 dX12_hang_303 kb_13 ?_
  refine callV2 C0 h (hD _) mw_X12_is rv_m tm_X12_168 (fun y hy => c_X12_is hy) (Nat.le_of_ble_eq_true rfl) (Nat.le_of_ble_eq_true rfl) dX12_hang_305 (fun r25 h => ?_)
  refine r_if_eq C0 322 dX12_hang_308 rfl h (fun _ h => ?_) (fun _ h => ?_)
  · refine r_aload_n C0 dX12_hang_322 rfl 0 rfl ?_
    refine callV0 C0 h (hD _) mw_X12_scorched rv_m tm_X12_190 (fun y hy => c_X12_scorched hy) (Nat.le_of_ble_eq_true rfl) (Nat.le_of_ble_eq_true rfl) dX12_hang_323 (fun r26 h => ?_)
    refine r_istore (lv2 := [(7, .int r26), (0, .ref (a 0)), (2, .int v2), (5, .int v5), (6, .int v6)]) C0 dX12_hang_326 rfl (Nat.le_of_ble_eq_true rfl) rfl ?_
    refine r_aload_n C0 dX12_hang_328 rfl 1 rfl ?_
    refine r_iload C0 dX12_hang_329 0 rfl ?_
    refine r_if_lt C0 338 dX12_hang_331 rfl h (fun _ h => ?_) (fun _ h => ?_)
    · refine r_iconst C0 dX12_hang_338 ki_0 ?_
      exact r_sub [1, 2, 3, 0] rfl (w_X12_hang_j339 C0 hD h hz)
    · refine r_iconst C0 dX12_hang_334 ki_1 ?_
      refine r_goto C0 339 dX12_hang_335 rfl ?_
      exact r_sub [1, 2, 3, 0] rfl (w_X12_hang_j339 C0 hD h hz)
  · refine r_aload_n C0 dX12_hang_311 rfl 0 rfl ?_
    refine r_iload C0 dX12_hang_312 3 rfl ?_
    refine wmp_0_8 C0 hD tf_X12_36 dX12_hang_314 ?_
    refine r_aload_n C0 dX12_hang_317 rfl 0 rfl ?_
    refine callV0 C0 h (hD _) mw_X12_takenBack rv_m tm_X12_193 (fun y hy => c_X12_takenBack hy) (Nat.le_of_ble_eq_true rfl) (Nat.le_of_ble_eq_true rfl) dX12_hang_318 (fun r35 h => ?_)
    cases h
    exact hz _ _ dX12_hang_321
theorem w_X12_hang_j242 {z : (Int32 × VT)} {Γ : Gam} {cy : Nat → ClassId} {a : Nat → Nat} {V : VT} {X : va_W} {v1 : Int32} {v2 : Int32} {v3 : Int32} {v5 : Int32} {s1 : Int32}  (C0 : CXg Γ cX12_hang 9 6 RX12 cy) (hD : DM Γ cy a X) (h : f_X12_hang_j242 v1 v2 v3 v5 s1 V = some z) (hz : (fun y : Int32 × VT => FinI Γ cX12_hang (WM cy a y.2 X) y.1) z) : Wp Γ 0 0 242 [(0, .ref (a 0)), (1, .int v1), (2, .int v2), (3, .int v3), (5, .int v5)] [.int s1, .ref (a 0)] (WM cy a V X) := by
  unfold f_X12_hang_j242 at h
  refine r_bipush C0 dX12_hang_242 kb_12 ?_
  refine callV2 C0 h (hD _) mw_X12_is rv_m tm_X12_168 (fun y hy => c_X12_is hy) (Nat.le_of_ble_eq_true rfl) (Nat.le_of_ble_eq_true rfl) dX12_hang_244 (fun r19 h => ?_)
  refine r_if_eq C0 255 dX12_hang_247 rfl h (fun _ h => ?_) (fun _ h => ?_)
  · refine r_aload_n C0 dX12_hang_255 rfl 0 rfl ?_
    refine r_iload_n C0 dX12_hang_256 rfl 2 rfl ?_
    refine r_iload_n C0 dX12_hang_257 rfl 3 rfl ?_
    refine r_iconst C0 dX12_hang_258 ki_2 ?_
    refine r_iload_n C0 dX12_hang_259 rfl 1 rfl ?_
    refine r_iadd C0 dX12_hang_260 ?_
    refine callVv3 C0 h (hD _) mw_X12_put rv_m tm_X12_199 (fun y hy => c_X12_put hy) (Nat.le_of_ble_eq_true rfl) (Nat.le_of_ble_eq_true rfl) dX12_hang_261 (fun r20 h => ?_)
    refine r_aload_n C0 dX12_hang_264 rfl 0 rfl ?_
    refine r_iload C0 dX12_hang_265 4 rfl ?_
    refine r_iload_n C0 dX12_hang_267 rfl 3 rfl ?_
    refine r_iconst C0 dX12_hang_268 ki_2 ?_
    refine r_iload_n C0 dX12_hang_269 rfl 1 rfl ?_
    refine r_iadd C0 dX12_hang_270 ?_
    refine callVv3 C0 h (hD _) mw_X12_put rv_m tm_X12_199 (fun y hy => c_X12_put hy) (Nat.le_of_ble_eq_true rfl) (Nat.le_of_ble_eq_true rfl) dX12_hang_271 (fun r21 h => ?_)
    refine r_aload_n C0 dX12_hang_274 rfl 0 rfl ?_
    refine r_iload_n C0 dX12_hang_275 rfl 2 rfl ?_
    refine r_iload_n C0 dX12_hang_276 rfl 3 rfl ?_
    refine callV2 C0 h (hD _) mw_X12_clashing rv_m tm_X12_203 (fun y hy => c_X12_clashing hy) (Nat.le_of_ble_eq_true rfl) (Nat.le_of_ble_eq_true rfl) dX12_hang_277 (fun r22 h => ?_)
    refine r_aload_n C0 dX12_hang_280 rfl 0 rfl ?_
    refine r_iload C0 dX12_hang_281 4 rfl ?_
    refine r_iload_n C0 dX12_hang_283 rfl 3 rfl ?_
    refine callV2 C0 h (hD _) mw_X12_clashing rv_m tm_X12_203 (fun y hy => c_X12_clashing hy) (Nat.le_of_ble_eq_true rfl) (Nat.le_of_ble_eq_true rfl) dX12_hang_284 (fun r23 h => ?_)
    refine callS2 C0 h (hD _) ms_X12_lesser tm_X12_134 (fun y hy => c_X12_lesser hy) (Nat.le_of_ble_eq_true rfl) (Nat.le_of_ble_eq_true rfl) dX12_hang_287 (fun r24 h => ?_)
    refine r_istore (lv2 := [(6, .int r24), (0, .ref (a 0)), (1, .int v1), (2, .int v2), (3, .int v3), (5, .int v5)]) C0 dX12_hang_290 rfl (Nat.le_of_ble_eq_true rfl) rfl ?_
    refine r_aload_n C0 dX12_hang_292 rfl 1 rfl ?_
    refine r_iload C0 dX12_hang_293 0 rfl ?_
    refine r_if_lt C0 302 dX12_hang_295 rfl h (fun _ h => ?_) (fun _ h => ?_)
    · refine r_iconst C0 dX12_hang_302 ki_0 ?_
      exact r_sub [1, 3, 5, 0] rfl (w_X12_hang_j303 C0 hD h hz)
    · refine r_iconst C0 dX12_hang_298 ki_1 ?_
      refine r_goto C0 303 dX12_hang_299 rfl ?_
      exact r_sub [1, 3, 5, 0] rfl (w_X12_hang_j303 C0 hD h hz)
  · exact r_sub [0] rfl (w_X12_hang_j250 C0 hD h hz)
theorem w_X12_hang_j237 {z : (Int32 × VT)} {Γ : Gam} {cy : Nat → ClassId} {a : Nat → Nat} {V : VT} {X : va_W} {v1 : Int32} {v2 : Int32} {v3 : Int32} {v5 : Int32}  (C0 : CXg Γ cX12_hang 9 6 RX12 cy) (hD : DM Γ cy a X) (h : f_X12_hang_j237 v1 v2 v3 v5 V = some z) (hz : (fun y : Int32 × VT => FinI Γ cX12_hang (WM cy a y.2 X) y.1) z) : Wp Γ 0 0 237 [(0, .ref (a 0)), (1, .int v1), (2, .int v2), (3, .int v3), (5, .int v5)] [.ref (a 0)] (WM cy a V X) := by
  unfold f_X12_hang_j237 at h
  refine r_iconst C0 dX12_hang_237 ki_1 ?_
  refine r_goto C0 242 dX12_hang_238 rfl ?_
  exact r_sub [0, 1, 2, 3, 4] rfl (w_X12_hang_j242 C0 hD h hz)
theorem w_X12_hang_j209 {z : (Int32 × VT)} {Γ : Gam} {cy : Nat → ClassId} {a : Nat → Nat} {V : VT} {X : va_W} {v1 : Int32} {v2 : Int32} {v3 : Int32} {v5 : Int32} {s1 : Int32}  (C0 : CXg Γ cX12_hang 9 6 RX12 cy) (hD : DM Γ cy a X) (h : f_X12_hang_j209 v1 v2 v3 v5 s1 V = some z) (hz : (fun y : Int32 × VT => FinI Γ cX12_hang (WM cy a y.2 X) y.1) z) : Wp Γ 0 0 209 [(0, .ref (a 0)), (1, .int v1), (2, .int v2), (3, .int v3), (5, .int v5)] [.int s1, .ref (a 0)] (WM cy a V X) := by
  unfold f_X12_hang_j209 at h
  refine r_bipush C0 dX12_hang_209 kb_10 ?_
  refine callV2 C0 h (hD _) mw_X12_is rv_m tm_X12_168 (fun y hy => c_X12_is hy) (Nat.le_of_ble_eq_true rfl) (Nat.le_of_ble_eq_true rfl) dX12_hang_211 (fun r16 h => ?_)
  refine r_if_ne C0 250 dX12_hang_214 rfl h (fun _ h => ?_) (fun _ h => ?_)
  · exact r_sub [0] rfl (w_X12_hang_j250 C0 hD h hz)
  · refine r_aload_n C0 dX12_hang_217 rfl 0 rfl ?_
    refine r_aload_n C0 dX12_hang_218 rfl 0 rfl ?_
    refine r_iload_n C0 dX12_hang_219 rfl 2 rfl ?_
    refine r_iload_n C0 dX12_hang_220 rfl 3 rfl ?_
    refine callV2 C0 h (hD _) mw_X12_held rv_m tm_X12_72 (fun y hy => c_X12_held hy) (Nat.le_of_ble_eq_true rfl) (Nat.le_of_ble_eq_true rfl) dX12_hang_221 (fun r18 h => ?_)
    refine r_if_ne C0 237 dX12_hang_224 rfl h (fun _ h => ?_) (fun _ h => ?_)
    · exact r_sub [0, 1, 2, 3, 4] rfl (w_X12_hang_j237 C0 hD h hz)
    · refine r_aload_n C0 dX12_hang_227 rfl 0 rfl ?_
      refine r_iload C0 dX12_hang_228 4 rfl ?_
      refine r_iload_n C0 dX12_hang_230 rfl 3 rfl ?_
      refine callV2 C0 h (hD _) mw_X12_held rv_m tm_X12_72 (fun y hy => c_X12_held hy) (Nat.le_of_ble_eq_true rfl) (Nat.le_of_ble_eq_true rfl) dX12_hang_231 (fun r36 h => ?_)
      refine r_if_eq C0 241 dX12_hang_234 rfl h (fun _ h => ?_) (fun _ h => ?_)
      · refine r_iconst C0 dX12_hang_241 ki_0 ?_
        exact r_sub [0, 1, 2, 3, 4] rfl (w_X12_hang_j242 C0 hD h hz)
      · exact r_sub [0, 1, 2, 3, 4] rfl (w_X12_hang_j237 C0 hD h hz)
theorem w_X12_hang_j204 {z : (Int32 × VT)} {Γ : Gam} {cy : Nat → ClassId} {a : Nat → Nat} {V : VT} {X : va_W} {v1 : Int32} {v2 : Int32} {v3 : Int32} {v5 : Int32}  (C0 : CXg Γ cX12_hang 9 6 RX12 cy) (hD : DM Γ cy a X) (h : f_X12_hang_j204 v1 v2 v3 v5 V = some z) (hz : (fun y : Int32 × VT => FinI Γ cX12_hang (WM cy a y.2 X) y.1) z) : Wp Γ 0 0 204 [(0, .ref (a 0)), (1, .int v1), (2, .int v2), (3, .int v3), (5, .int v5)] [.ref (a 0)] (WM cy a V X) := by
  unfold f_X12_hang_j204 at h
  refine r_iconst C0 dX12_hang_204 ki_1 ?_
  refine r_goto C0 209 dX12_hang_205 rfl ?_
  exact r_sub [0, 1, 2, 3, 4] rfl (w_X12_hang_j209 C0 hD h hz)
theorem w_X12_hang_j174 {z : (Int32 × VT)} {Γ : Gam} {cy : Nat → ClassId} {a : Nat → Nat} {V : VT} {X : va_W} {v1 : Int32} {v2 : Int32} {v3 : Int32} {v5 : Int32} {s1 : Int32}  (C0 : CXg Γ cX12_hang 9 6 RX12 cy) (hD : DM Γ cy a X) (h : f_X12_hang_j174 v1 v2 v3 v5 s1 V = some z) (hz : (fun y : Int32 × VT => FinI Γ cX12_hang (WM cy a y.2 X) y.1) z) : Wp Γ 0 0 174 [(0, .ref (a 0)), (1, .int v1), (2, .int v2), (3, .int v3), (5, .int v5)] [.int s1, .ref (a 0)] (WM cy a V X) := by
  unfold f_X12_hang_j174 at h
  refine r_iconst C0 dX12_hang_174 ki_2 ?_
  refine callV2 C0 h (hD _) mw_X12_is rv_m tm_X12_168 (fun y hy => c_X12_is hy) (Nat.le_of_ble_eq_true rfl) (Nat.le_of_ble_eq_true rfl) dX12_hang_175 (fun r14 h => ?_)
  refine r_if_eq C0 186 dX12_hang_178 rfl h (fun _ h => ?_) (fun _ h => ?_)
  · refine r_aload_n C0 dX12_hang_186 rfl 0 rfl ?_
    refine r_aload_n C0 dX12_hang_187 rfl 0 rfl ?_
    refine r_iload_n C0 dX12_hang_188 rfl 2 rfl ?_
    refine callV1 C0 h (hD _) mw_X12_height rv_m tm_X12_124 (fun y hy => c_X12_height hy) (Nat.le_of_ble_eq_true rfl) (Nat.le_of_ble_eq_true rfl) dX12_hang_189 (fun r15 h => ?_)
    refine r_if_ne C0 204 dX12_hang_192 rfl h (fun _ h => ?_) (fun _ h => ?_)
    · exact r_sub [0, 1, 2, 3, 4] rfl (w_X12_hang_j204 C0 hD h hz)
    · refine r_aload_n C0 dX12_hang_195 rfl 0 rfl ?_
      refine r_iload C0 dX12_hang_196 4 rfl ?_
      refine callV1 C0 h (hD _) mw_X12_height rv_m tm_X12_124 (fun y hy => c_X12_height hy) (Nat.le_of_ble_eq_true rfl) (Nat.le_of_ble_eq_true rfl) dX12_hang_198 (fun r37 h => ?_)
      refine r_if_eq C0 208 dX12_hang_201 rfl h (fun _ h => ?_) (fun _ h => ?_)
      · refine r_iconst C0 dX12_hang_208 ki_0 ?_
        exact r_sub [0, 1, 2, 3, 4] rfl (w_X12_hang_j209 C0 hD h hz)
      · exact r_sub [0, 1, 2, 3, 4] rfl (w_X12_hang_j204 C0 hD h hz)
  · exact r_sub [0] rfl (w_X12_hang_j181 C0 hD h hz)
theorem w_X12_hang_j169 {z : (Int32 × VT)} {Γ : Gam} {cy : Nat → ClassId} {a : Nat → Nat} {V : VT} {X : va_W} {v1 : Int32} {v2 : Int32} {v3 : Int32} {v5 : Int32}  (C0 : CXg Γ cX12_hang 9 6 RX12 cy) (hD : DM Γ cy a X) (h : f_X12_hang_j169 v1 v2 v3 v5 V = some z) (hz : (fun y : Int32 × VT => FinI Γ cX12_hang (WM cy a y.2 X) y.1) z) : Wp Γ 0 0 169 [(0, .ref (a 0)), (1, .int v1), (2, .int v2), (3, .int v3), (5, .int v5)] [.ref (a 0)] (WM cy a V X) := by
  unfold f_X12_hang_j169 at h
  refine r_iconst C0 dX12_hang_169 ki_1 ?_
  refine r_goto C0 174 dX12_hang_170 rfl ?_
  exact r_sub [0, 1, 2, 3, 4] rfl (w_X12_hang_j174 C0 hD h hz)
theorem w_X12_hang_j142 {z : (Int32 × VT)} {Γ : Gam} {cy : Nat → ClassId} {a : Nat → Nat} {V : VT} {X : va_W} {v1 : Int32} {v2 : Int32} {v3 : Int32} {v5 : Int32} {s1 : Int32}  (C0 : CXg Γ cX12_hang 9 6 RX12 cy) (hD : DM Γ cy a X) (h : f_X12_hang_j142 v1 v2 v3 v5 s1 V = some z) (hz : (fun y : Int32 × VT => FinI Γ cX12_hang (WM cy a y.2 X) y.1) z) : Wp Γ 0 0 142 [(0, .ref (a 0)), (1, .int v1), (2, .int v2), (3, .int v3), (5, .int v5)] [.int s1, .ref (a 0)] (WM cy a V X) := by
  unfold f_X12_hang_j142 at h
  refine r_iconst C0 dX12_hang_142 ki_1 ?_
  refine callV2 C0 h (hD _) mw_X12_is rv_m tm_X12_168 (fun y hy => c_X12_is hy) (Nat.le_of_ble_eq_true rfl) (Nat.le_of_ble_eq_true rfl) dX12_hang_143 (fun r12 h => ?_)
  refine r_if_ne C0 181 dX12_hang_146 rfl h (fun _ h => ?_) (fun _ h => ?_)
  · exact r_sub [0] rfl (w_X12_hang_j181 C0 hD h hz)
  · refine r_aload_n C0 dX12_hang_149 rfl 0 rfl ?_
    refine r_aload_n C0 dX12_hang_150 rfl 0 rfl ?_
    refine r_iload_n C0 dX12_hang_151 rfl 2 rfl ?_
    refine r_iload_n C0 dX12_hang_152 rfl 3 rfl ?_
    refine callV2 C0 h (hD _) mw_X12_isPlace rv_m tm_X12_118 (fun y hy => c_X12_isPlace hy) (Nat.le_of_ble_eq_true rfl) (Nat.le_of_ble_eq_true rfl) dX12_hang_153 (fun r13 h => ?_)
    refine r_if_eq C0 169 dX12_hang_156 rfl h (fun _ h => ?_) (fun _ h => ?_)
    · exact r_sub [0, 1, 2, 3, 4] rfl (w_X12_hang_j169 C0 hD h hz)
    · refine r_aload_n C0 dX12_hang_159 rfl 0 rfl ?_
      refine r_iload C0 dX12_hang_160 4 rfl ?_
      refine r_iload_n C0 dX12_hang_162 rfl 3 rfl ?_
      refine callV2 C0 h (hD _) mw_X12_isPlace rv_m tm_X12_118 (fun y hy => c_X12_isPlace hy) (Nat.le_of_ble_eq_true rfl) (Nat.le_of_ble_eq_true rfl) dX12_hang_163 (fun r38 h => ?_)
      refine r_if_ne C0 173 dX12_hang_166 rfl h (fun _ h => ?_) (fun _ h => ?_)
      · refine r_iconst C0 dX12_hang_173 ki_0 ?_
        exact r_sub [0, 1, 2, 3, 4] rfl (w_X12_hang_j174 C0 hD h hz)
      · exact r_sub [0, 1, 2, 3, 4] rfl (w_X12_hang_j169 C0 hD h hz)
theorem w_X12_hang_j137 {z : (Int32 × VT)} {Γ : Gam} {cy : Nat → ClassId} {a : Nat → Nat} {V : VT} {X : va_W} {v1 : Int32} {v2 : Int32} {v3 : Int32} {v5 : Int32}  (C0 : CXg Γ cX12_hang 9 6 RX12 cy) (hD : DM Γ cy a X) (h : f_X12_hang_j137 v1 v2 v3 v5 V = some z) (hz : (fun y : Int32 × VT => FinI Γ cX12_hang (WM cy a y.2 X) y.1) z) : Wp Γ 0 0 137 [(0, .ref (a 0)), (1, .int v1), (2, .int v2), (3, .int v3), (5, .int v5)] [.ref (a 0)] (WM cy a V X) := by
  unfold f_X12_hang_j137 at h
  refine r_iconst C0 dX12_hang_137 ki_1 ?_
  refine r_goto C0 142 dX12_hang_138 rfl ?_
  exact r_sub [0, 1, 2, 3, 4] rfl (w_X12_hang_j142 C0 hD h hz)
theorem w_X12_hang_j112 {z : (Int32 × VT)} {Γ : Gam} {cy : Nat → ClassId} {a : Nat → Nat} {V : VT} {X : va_W} {v1 : Int32} {v2 : Int32} {v3 : Int32} {v5 : Int32} {s1 : Int32}  (C0 : CXg Γ cX12_hang 9 6 RX12 cy) (hD : DM Γ cy a X) (h : f_X12_hang_j112 v1 v2 v3 v5 s1 V = some z) (hz : (fun y : Int32 × VT => FinI Γ cX12_hang (WM cy a y.2 X) y.1) z) : Wp Γ 0 0 112 [(0, .ref (a 0)), (1, .int v1), (2, .int v2), (3, .int v3), (5, .int v5)] [.int s1, .ref (a 0)] (WM cy a V X) := by
  unfold f_X12_hang_j112 at h
  refine r_iconst C0 dX12_hang_112 ki_2 ?_
  refine callV2 C0 h (hD _) mw_X12_is rv_m tm_X12_168 (fun y hy => c_X12_is hy) (Nat.le_of_ble_eq_true rfl) (Nat.le_of_ble_eq_true rfl) dX12_hang_113 (fun r9 h => ?_)
  refine r_if_ne C0 181 dX12_hang_116 rfl h (fun _ h => ?_) (fun _ h => ?_)
  · exact r_sub [0] rfl (w_X12_hang_j181 C0 hD h hz)
  · refine r_aload_n C0 dX12_hang_119 rfl 0 rfl ?_
    refine r_aload_n C0 dX12_hang_120 rfl 0 rfl ?_
    refine r_iload_n C0 dX12_hang_121 rfl 2 rfl ?_
    refine callV1 C0 h (hD _) mw_X12_isRigged rv_m tm_X12_66 (fun y hy => c_X12_isRigged hy) (Nat.le_of_ble_eq_true rfl) (Nat.le_of_ble_eq_true rfl) dX12_hang_122 (fun r11 h => ?_)
    refine r_if_eq C0 137 dX12_hang_125 rfl h (fun _ h => ?_) (fun _ h => ?_)
    · exact r_sub [0, 1, 2, 3, 4] rfl (w_X12_hang_j137 C0 hD h hz)
    · refine r_aload_n C0 dX12_hang_128 rfl 0 rfl ?_
      refine r_iload C0 dX12_hang_129 4 rfl ?_
      refine callV1 C0 h (hD _) mw_X12_isRigged rv_m tm_X12_66 (fun y hy => c_X12_isRigged hy) (Nat.le_of_ble_eq_true rfl) (Nat.le_of_ble_eq_true rfl) dX12_hang_131 (fun r39 h => ?_)
      refine r_if_ne C0 141 dX12_hang_134 rfl h (fun _ h => ?_) (fun _ h => ?_)
      · refine r_iconst C0 dX12_hang_141 ki_0 ?_
        exact r_sub [0, 1, 2, 3, 4] rfl (w_X12_hang_j142 C0 hD h hz)
      · exact r_sub [0, 1, 2, 3, 4] rfl (w_X12_hang_j137 C0 hD h hz)
theorem w_X12_hang_j107 {z : (Int32 × VT)} {Γ : Gam} {cy : Nat → ClassId} {a : Nat → Nat} {V : VT} {X : va_W} {v1 : Int32} {v2 : Int32} {v3 : Int32} {v5 : Int32}  (C0 : CXg Γ cX12_hang 9 6 RX12 cy) (hD : DM Γ cy a X) (h : f_X12_hang_j107 v1 v2 v3 v5 V = some z) (hz : (fun y : Int32 × VT => FinI Γ cX12_hang (WM cy a y.2 X) y.1) z) : Wp Γ 0 0 107 [(0, .ref (a 0)), (1, .int v1), (2, .int v2), (3, .int v3), (5, .int v5)] [.ref (a 0)] (WM cy a V X) := by
  unfold f_X12_hang_j107 at h
  refine r_iconst C0 dX12_hang_107 ki_1 ?_
  refine r_goto C0 112 dX12_hang_108 rfl ?_
  exact r_sub [0, 1, 2, 3, 4] rfl (w_X12_hang_j112 C0 hD h hz)
theorem w_X12_hang_j89 {z : (Int32 × VT)} {Γ : Gam} {cy : Nat → ClassId} {a : Nat → Nat} {V : VT} {X : va_W} {v1 : Int32} {v2 : Int32} {v3 : Int32} {s0 : Int32}  (C0 : CXg Γ cX12_hang 9 6 RX12 cy) (hD : DM Γ cy a X) (h : f_X12_hang_j89 v1 v2 v3 s0 V = some z) (hz : (fun y : Int32 × VT => FinI Γ cX12_hang (WM cy a y.2 X) y.1) z) : Wp Γ 0 0 89 [(0, .ref (a 0)), (1, .int v1), (2, .int v2), (3, .int v3)] [.int s0] (WM cy a V X) := by
  unfold f_X12_hang_j89 at h
  refine r_istore (lv2 := [(5, .int s0), (0, .ref (a 0)), (1, .int v1), (2, .int v2), (3, .int v3)]) C0 dX12_hang_89 rfl (Nat.le_of_ble_eq_true rfl) rfl ?_
  refine r_aload_n C0 dX12_hang_91 rfl 1 rfl ?_
  refine r_iload_n C0 dX12_hang_92 rfl 3 rfl ?_
  refine callS1 C0 h (hD _) ms_X12_isBar tm_X12_115 (fun y hy => c_X12_isBar hy) (Nat.le_of_ble_eq_true rfl) (Nat.le_of_ble_eq_true rfl) dX12_hang_93 (fun r8 h => ?_)
  refine r_if_eq C0 107 dX12_hang_96 rfl h (fun _ h => ?_) (fun _ h => ?_)
  · exact r_sub [1, 2, 3, 4, 0] rfl (w_X12_hang_j107 C0 hD h hz)
  · refine r_iload C0 dX12_hang_99 0 rfl ?_
    refine callS1 C0 h (hD _) ms_X12_isBar tm_X12_115 (fun y hy => c_X12_isBar hy) (Nat.le_of_ble_eq_true rfl) (Nat.le_of_ble_eq_true rfl) dX12_hang_101 (fun r40 h => ?_)
    refine r_if_ne C0 111 dX12_hang_104 rfl h (fun _ h => ?_) (fun _ h => ?_)
    · refine r_iconst C0 dX12_hang_111 ki_0 ?_
      exact r_sub [1, 2, 3, 4, 0] rfl (w_X12_hang_j112 C0 hD h hz)
    · exact r_sub [1, 2, 3, 4, 0] rfl (w_X12_hang_j107 C0 hD h hz)
theorem w_X12_hang_j88 {z : (Int32 × VT)} {Γ : Gam} {cy : Nat → ClassId} {a : Nat → Nat} {V : VT} {X : va_W} {v1 : Int32} {v2 : Int32} {v3 : Int32}  (C0 : CXg Γ cX12_hang 9 6 RX12 cy) (hD : DM Γ cy a X) (h : f_X12_hang_j88 v1 v2 v3 V = some z) (hz : (fun y : Int32 × VT => FinI Γ cX12_hang (WM cy a y.2 X) y.1) z) : Wp Γ 0 0 88 [(0, .ref (a 0)), (1, .int v1), (2, .int v2), (3, .int v3)] [] (WM cy a V X) := by
  unfold f_X12_hang_j88 at h
  refine r_iload_n C0 dX12_hang_88 rfl 2 rfl ?_
  exact r_sub [0, 1, 2, 3] rfl (w_X12_hang_j89 C0 hD h hz)
theorem w_X12_hang_j69 {z : (Int32 × VT)} {Γ : Gam} {cy : Nat → ClassId} {a : Nat → Nat} {V : VT} {X : va_W} {v1 : Int32} {v2 : Int32} {v3 : Int32} {s0 : Int32}  (C0 : CXg Γ cX12_hang 9 6 RX12 cy) (hD : DM Γ cy a X) (h : f_X12_hang_j69 v1 v2 v3 s0 V = some z) (hz : (fun y : Int32 × VT => FinI Γ cX12_hang (WM cy a y.2 X) y.1) z) : Wp Γ 0 0 69 [(0, .ref (a 0)), (1, .int v1), (2, .int v2), (3, .int v3)] [.int s0] (WM cy a V X) := by
  unfold f_X12_hang_j69 at h
  refine r_istore (lv2 := [(4, .int s0), (0, .ref (a 0)), (1, .int v1), (2, .int v2), (3, .int v3)]) C0 dX12_hang_69 rfl (Nat.le_of_ble_eq_true rfl) rfl ?_
  refine r_iload C0 dX12_hang_71 0 rfl ?_
  refine r_if_eq C0 88 dX12_hang_73 rfl h (fun _ h => ?_) (fun _ h => ?_)
  · exact r_sub [1, 2, 3, 4] rfl (w_X12_hang_j88 C0 hD h hz)
  · refine r_iload_n C0 dX12_hang_76 rfl 3 rfl ?_
    refine r_bipush C0 dX12_hang_77 kb_12 ?_
    refine r_icmp_ge C0 88 dX12_hang_79 rfl h (fun _ h => ?_) (fun _ h => ?_)
    · exact r_sub [1, 2, 3, 4] rfl (w_X12_hang_j88 C0 hD h hz)
    · refine r_iload_n C0 dX12_hang_82 rfl 3 rfl ?_
      refine r_iconst C0 dX12_hang_83 ki_1 ?_
      refine r_iadd C0 dX12_hang_84 ?_
      refine r_goto C0 89 dX12_hang_85 rfl ?_
      exact r_sub [1, 2, 3, 4] rfl (w_X12_hang_j89 C0 hD h hz)
theorem w_X12_hang_j41 {z : (Int32 × VT)} {Γ : Gam} {cy : Nat → ClassId} {a : Nat → Nat} {V : VT} {X : va_W} {v1 : Int32} {v2 : Int32} {v3 : Int32} {s1 : Int32}  (C0 : CXg Γ cX12_hang 9 6 RX12 cy) (hD : DM Γ cy a X) (h : f_X12_hang_j41 v1 v2 v3 s1 V = some z) (hz : (fun y : Int32 × VT => FinI Γ cX12_hang (WM cy a y.2 X) y.1) z) : Wp Γ 0 0 41 [(0, .ref (a 0)), (1, .int v1), (2, .int v2), (3, .int v3)] [.int s1, .ref (a 0)] (WM cy a V X) := by
  unfold f_X12_hang_j41 at h
  refine r_bipush C0 dX12_hang_41 kb_8 ?_
  refine callV2 C0 h (hD _) mw_X12_is rv_m tm_X12_168 (fun y hy => c_X12_is hy) (Nat.le_of_ble_eq_true rfl) (Nat.le_of_ble_eq_true rfl) dX12_hang_43 (fun r6 h => ?_)
  refine r_if_eq C0 54 dX12_hang_46 rfl h (fun _ h => ?_) (fun _ h => ?_)
  · refine r_aload_n C0 dX12_hang_54 rfl 0 rfl ?_
    refine r_iload_n C0 dX12_hang_55 rfl 1 rfl ?_
    refine r_iconst C0 dX12_hang_56 ki_0 ?_
    refine callV2 C0 h (hD _) mw_X12_thingIs rv_m tm_X12_75 (fun y hy => c_X12_thingIs hy) (Nat.le_of_ble_eq_true rfl) (Nat.le_of_ble_eq_true rfl) dX12_hang_57 (fun r7 h => ?_)
    refine r_iconst C0 dX12_hang_60 ki_4 ?_
    refine r_icmp_ne C0 68 dX12_hang_61 rfl h (fun _ h => ?_) (fun _ h => ?_)
    · refine r_iconst C0 dX12_hang_68 ki_0 ?_
      exact r_sub [0, 1, 2, 3] rfl (w_X12_hang_j69 C0 hD h hz)
    · refine r_iconst C0 dX12_hang_64 ki_1 ?_
      refine r_goto C0 69 dX12_hang_65 rfl ?_
      exact r_sub [0, 1, 2, 3] rfl (w_X12_hang_j69 C0 hD h hz)
  · exact r_sub [0] rfl (w_X12_hang_j49 C0 hD h hz)
theorem w_X12_hang_j18 {z : (Int32 × VT)} {Γ : Gam} {cy : Nat → ClassId} {a : Nat → Nat} {V : VT} {X : va_W} {v1 : Int32} {v2 : Int32} {v3 : Int32} {s1 : Int32}  (C0 : CXg Γ cX12_hang 9 6 RX12 cy) (hD : DM Γ cy a X) (h : f_X12_hang_j18 v1 v2 v3 s1 V = some z) (hz : (fun y : Int32 × VT => FinI Γ cX12_hang (WM cy a y.2 X) y.1) z) : Wp Γ 0 0 18 [(0, .ref (a 0)), (1, .int v1), (2, .int v2), (3, .int v3)] [.int s1, .ref (a 0)] (WM cy a V X) := by
  unfold f_X12_hang_j18 at h
  refine r_iconst C0 dX12_hang_18 ki_2 ?_
  refine callV2 C0 h (hD _) mw_X12_is rv_m tm_X12_168 (fun y hy => c_X12_is hy) (Nat.le_of_ble_eq_true rfl) (Nat.le_of_ble_eq_true rfl) dX12_hang_19 (fun r3 h => ?_)
  refine r_if_ne C0 49 dX12_hang_22 rfl h (fun _ h => ?_) (fun _ h => ?_)
  · exact r_sub [0] rfl (w_X12_hang_j49 C0 hD h hz)
  · refine r_aload_n C0 dX12_hang_25 rfl 0 rfl ?_
    refine r_aload_n C0 dX12_hang_26 rfl 0 rfl ?_
    refine r_iload_n C0 dX12_hang_27 rfl 1 rfl ?_
    refine callV1 C0 h (hD _) mw_X12_barWith rv_m tm_X12_196 (fun y hy => c_X12_barWith hy) (Nat.le_of_ble_eq_true rfl) (Nat.le_of_ble_eq_true rfl) dX12_hang_28 (fun r5 h => ?_)
    refine r_ldc C0 tk_X12_42 dX12_hang_31 ?_
    refine r_icmp_eq C0 40 dX12_hang_33 rfl h (fun _ h => ?_) (fun _ h => ?_)
    · refine r_iconst C0 dX12_hang_40 ki_0 ?_
      exact r_sub [0, 1, 2, 3] rfl (w_X12_hang_j41 C0 hD h hz)
    · refine r_iconst C0 dX12_hang_36 ki_1 ?_
      refine r_goto C0 41 dX12_hang_37 rfl ?_
      exact r_sub [0, 1, 2, 3] rfl (w_X12_hang_j41 C0 hD h hz)
theorem w_X12_hang {z : Int32 × VT} {Γ : Gam} {cy : Nat → ClassId} {a : Nat → Nat} {V : VT} {X : va_W} {v1 : Int32} {v2 : Int32} {v3 : Int32}  (C0 : CXg Γ cX12_hang 9 6 RX12 cy) (hD : DM Γ cy a X) (h : f_X12_hang v1 v2 v3 V = some z) (hz : (fun y : Int32 × VT => FinI Γ cX12_hang (WM cy a y.2 X) y.1) z) : Wp Γ 0 0 0 [(0, .ref (a 0)), (1, .int v1), (2, .int v2), (3, .int v3)] [] (WM cy a V X) := by
  unfold f_X12_hang at h
  refine r_aload_n C0 dX12_hang_0 rfl 0 rfl ?_
  refine callVv0 C0 h (hD _) mw_X12_begin rv_m tm_X12_165 (fun y hy => c_X12_begin hy) (Nat.le_of_ble_eq_true rfl) (Nat.le_of_ble_eq_true rfl) dX12_hang_1 (fun r1 h => ?_)
  refine r_aload_n C0 dX12_hang_4 rfl 0 rfl ?_
  refine r_aload_n C0 dX12_hang_5 rfl 0 rfl ?_
  refine r_iload_n C0 dX12_hang_6 rfl 1 rfl ?_
  refine callV1 C0 h (hD _) mw_X12_isTold rv_m tm_X12_186 (fun y hy => c_X12_isTold hy) (Nat.le_of_ble_eq_true rfl) (Nat.le_of_ble_eq_true rfl) dX12_hang_7 (fun r2 h => ?_)
  refine r_if_ne C0 17 dX12_hang_10 rfl h (fun _ h => ?_) (fun _ h => ?_)
  · refine r_iconst C0 dX12_hang_17 ki_0 ?_
    exact r_sub [0, 1, 2, 3] rfl (w_X12_hang_j18 C0 hD h hz)
  · refine r_iconst C0 dX12_hang_13 ki_1 ?_
    refine r_goto C0 18 dX12_hang_14 rfl ?_
    exact r_sub [0, 1, 2, 3] rfl (w_X12_hang_j18 C0 hD h hz)
theorem c_X12_hang {l : Launch} {D : va_G} {cy : Nat → ClassId} {a : Nat → Nat} {V : VT} {X : va_W} {v1 : Int32} {v2 : Int32} {v3 : Int32} {y : Int32 × VT} (h : f_X12_hang v1 v2 v3 V = some y) : CT l D cy yX12_hang cX12_hang 9 (some .int) 6 [.ref (a 0), .int v1, .int v2, .int v3] (WM cy a V X) (WM cy a y.2 X) (some (.int y.1)) :=
  mkI (by decide) (Nat.le_of_ble_eq_true rfl) (fun Γ _ _ C0 hD hF => w_X12_hang C0 (dm_of hD) h hF)
