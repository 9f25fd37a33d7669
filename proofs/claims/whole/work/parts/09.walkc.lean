theorem dX0_willClash_0 : decode cX0_willClash 0 = .ok (.iload_n 1, 1) := by decide +kernel
theorem dX0_willClash_1 : decode cX0_willClash 1 = .ok (.istore 4, 2) := by decide +kernel
theorem dX0_willClash_3 : decode cX0_willClash 3 = .ok (.iload 4, 2) := by decide +kernel
theorem dX0_willClash_5 : decode cX0_willClash 5 = .ok (.iload_n 2, 1) := by decide +kernel
theorem dX0_willClash_6 : decode cX0_willClash 6 = .ok (.if_icmp .gt 156, 3) := by decide +kernel
theorem dX0_willClash_9 : decode cX0_willClash 9 = .ok (.iload 4, 2) := by decide +kernel
theorem dX0_willClash_11 : decode cX0_willClash 11 = .ok (.iload_n 1, 1) := by decide +kernel
theorem dX0_willClash_12 : decode cX0_willClash 12 = .ok (.if_icmp .eq 12, 3) := by decide +kernel
theorem dX0_willClash_15 : decode cX0_willClash 15 = .ok (.iload 4, 2) := by decide +kernel
theorem dX0_willClash_17 : decode cX0_willClash 17 = .ok (.iload_n 2, 1) := by decide +kernel
theorem dX0_willClash_18 : decode cX0_willClash 18 = .ok (.if_icmp .eq 6, 3) := by decide +kernel
theorem dX0_willClash_21 : decode cX0_willClash 21 = .ok (.goto 135, 3) := by decide +kernel
theorem dX0_willClash_24 : decode cX0_willClash 24 = .ok (.aload_n 0, 1) := by decide +kernel
theorem dX0_willClash_25 : decode cX0_willClash 25 = .ok (.getfield 36, 3) := by decide +kernel
theorem dX0_willClash_28 : decode cX0_willClash 28 = .ok (.getfield 155, 3) := by decide +kernel
theorem dX0_willClash_31 : decode cX0_willClash 31 = .ok (.iload 4, 2) := by decide +kernel
theorem dX0_willClash_33 : decode cX0_willClash 33 = .ok (.iconst 2, 1) := by decide +kernel
theorem dX0_willClash_34 : decode cX0_willClash 34 = .ok (.invokevirtual 69, 3) := by decide +kernel
theorem dX0_willClash_37 : decode cX0_willClash 37 = .ok (.iload_n 3, 1) := by decide +kernel
theorem dX0_willClash_38 : decode cX0_willClash 38 = .ok (.iadd, 1) := by decide +kernel
theorem dX0_willClash_39 : decode cX0_willClash 39 = .ok (.istore 5, 2) := by decide +kernel
theorem dX0_willClash_41 : decode cX0_willClash 41 = .ok (.aload_n 0, 1) := by decide +kernel
theorem dX0_willClash_42 : decode cX0_willClash 42 = .ok (.getfield 36, 3) := by decide +kernel
theorem dX0_willClash_45 : decode cX0_willClash 45 = .ok (.getfield 155, 3) := by decide +kernel
theorem dX0_willClash_48 : decode cX0_willClash 48 = .ok (.iload 4, 2) := by decide +kernel
theorem dX0_willClash_50 : decode cX0_willClash 50 = .ok (.iconst 0, 1) := by decide +kernel
theorem dX0_willClash_51 : decode cX0_willClash 51 = .ok (.invokevirtual 69, 3) := by decide +kernel
theorem dX0_willClash_54 : decode cX0_willClash 54 = .ok (.istore 6, 2) := by decide +kernel
theorem dX0_willClash_56 : decode cX0_willClash 56 = .ok (.iconst 0, 1) := by decide +kernel
theorem dX0_willClash_57 : decode cX0_willClash 57 = .ok (.istore 7, 2) := by decide +kernel
theorem dX0_willClash_59 : decode cX0_willClash 59 = .ok (.iload 7, 2) := by decide +kernel
theorem dX0_willClash_61 : decode cX0_willClash 61 = .ok (.iload 6, 2) := by decide +kernel
theorem dX0_willClash_63 : decode cX0_willClash 63 = .ok (.if_icmp .ge 93, 3) := by decide +kernel
theorem dX0_willClash_66 : decode cX0_willClash 66 = .ok (.aload_n 0, 1) := by decide +kernel
theorem dX0_willClash_67 : decode cX0_willClash 67 = .ok (.iload 4, 2) := by decide +kernel
theorem dX0_willClash_69 : decode cX0_willClash 69 = .ok (.putfield 26, 3) := by decide +kernel
theorem dX0_willClash_72 : decode cX0_willClash 72 = .ok (.aload_n 0, 1) := by decide +kernel
theorem dX0_willClash_73 : decode cX0_willClash 73 = .ok (.iload 7, 2) := by decide +kernel
theorem dX0_willClash_75 : decode cX0_willClash 75 = .ok (.putfield 33, 3) := by decide +kernel
theorem dX0_willClash_78 : decode cX0_willClash 78 = .ok (.aload_n 0, 1) := by decide +kernel
theorem dX0_willClash_79 : decode cX0_willClash 79 = .ok (.iload 4, 2) := by decide +kernel
theorem dX0_willClash_81 : decode cX0_willClash 81 = .ok (.iconst 1, 1) := by decide +kernel
theorem dX0_willClash_82 : decode cX0_willClash 82 = .ok (.isub, 1) := by decide +kernel
theorem dX0_willClash_83 : decode cX0_willClash 83 = .ok (.putfield 30, 3) := by decide +kernel
theorem dX0_willClash_86 : decode cX0_willClash 86 = .ok (.iload 4, 2) := by decide +kernel
theorem dX0_willClash_88 : decode cX0_willClash 88 = .ok (.iload_n 1, 1) := by decide +kernel
theorem dX0_willClash_89 : decode cX0_willClash 89 = .ok (.if_icmp .ne 25, 3) := by decide +kernel
theorem dX0_willClash_92 : decode cX0_willClash 92 = .ok (.aload_n 0, 1) := by decide +kernel
theorem dX0_willClash_93 : decode cX0_willClash 93 = .ok (.getfield 44, 3) := by decide +kernel
theorem dX0_willClash_96 : decode cX0_willClash 96 = .ok (.iload 4, 2) := by decide +kernel
theorem dX0_willClash_98 : decode cX0_willClash 98 = .ok (.iload 5, 2) := by decide +kernel
theorem dX0_willClash_100 : decode cX0_willClash 100 = .ok (.aload_n 0, 1) := by decide +kernel
theorem dX0_willClash_101 : decode cX0_willClash 101 = .ok (.getfield 30, 3) := by decide +kernel
theorem dX0_willClash_104 : decode cX0_willClash 104 = .ok (.iload 7, 2) := by decide +kernel
theorem dX0_willClash_106 : decode cX0_willClash 106 = .ok (.invokevirtual 161, 3) := by decide +kernel
theorem dX0_willClash_109 : decode cX0_willClash 109 = .ok (.ifCond .eq 5, 3) := by decide +kernel
theorem dX0_willClash_112 : decode cX0_willClash 112 = .ok (.iconst 1, 1) := by decide +kernel
theorem dX0_willClash_113 : decode cX0_willClash 113 = .ok (.ireturn, 1) := by decide +kernel
theorem dX0_willClash_114 : decode cX0_willClash 114 = .ok (.aload_n 0, 1) := by decide +kernel
theorem dX0_willClash_115 : decode cX0_willClash 115 = .ok (.iload 4, 2) := by decide +kernel
theorem dX0_willClash_117 : decode cX0_willClash 117 = .ok (.iconst 1, 1) := by decide +kernel
theorem dX0_willClash_118 : decode cX0_willClash 118 = .ok (.iadd, 1) := by decide +kernel
theorem dX0_willClash_119 : decode cX0_willClash 119 = .ok (.putfield 30, 3) := by decide +kernel
theorem dX0_willClash_122 : decode cX0_willClash 122 = .ok (.iload 4, 2) := by decide +kernel
theorem dX0_willClash_124 : decode cX0_willClash 124 = .ok (.iload_n 2, 1) := by decide +kernel
theorem dX0_willClash_125 : decode cX0_willClash 125 = .ok (.if_icmp .ne 25, 3) := by decide +kernel
theorem dX0_willClash_128 : decode cX0_willClash 128 = .ok (.aload_n 0, 1) := by decide +kernel
theorem dX0_willClash_129 : decode cX0_willClash 129 = .ok (.getfield 44, 3) := by decide +kernel
theorem dX0_willClash_132 : decode cX0_willClash 132 = .ok (.iload 4, 2) := by decide +kernel
theorem dX0_willClash_134 : decode cX0_willClash 134 = .ok (.iload 5, 2) := by decide +kernel
theorem dX0_willClash_136 : decode cX0_willClash 136 = .ok (.aload_n 0, 1) := by decide +kernel
theorem dX0_willClash_137 : decode cX0_willClash 137 = .ok (.getfield 30, 3) := by decide +kernel
theorem dX0_willClash_140 : decode cX0_willClash 140 = .ok (.iload 7, 2) := by decide +kernel
theorem dX0_willClash_142 : decode cX0_willClash 142 = .ok (.invokevirtual 161, 3) := by decide +kernel
theorem dX0_willClash_145 : decode cX0_willClash 145 = .ok (.ifCond .eq 5, 3) := by decide +kernel
theorem dX0_willClash_148 : decode cX0_willClash 148 = .ok (.iconst 1, 1) := by decide +kernel
theorem dX0_willClash_149 : decode cX0_willClash 149 = .ok (.ireturn, 1) := by decide +kernel
theorem dX0_willClash_150 : decode cX0_willClash 150 = .ok (.iinc 7 1, 3) := by decide +kernel
theorem dX0_willClash_153 : decode cX0_willClash 153 = .ok (.goto (-94), 3) := by decide +kernel
theorem dX0_willClash_156 : decode cX0_willClash 156 = .ok (.iinc 4 1, 3) := by decide +kernel
theorem dX0_willClash_159 : decode cX0_willClash 159 = .ok (.goto (-156), 3) := by decide +kernel
theorem dX0_willClash_162 : decode cX0_willClash 162 = .ok (.iconst 0, 1) := by decide +kernel
theorem dX0_willClash_163 : decode cX0_willClash 163 = .ok (.ireturn, 1) := by decide +kernel
theorem w_X0_willClash_j156 {z : ((Int32 × VT) ⊕ (Int32 × VT))} {Γ : Gam} {cy : Nat → ClassId} {a : Nat → Nat} {V : VT} {J : JT} {K : Nat → Option Nat} {X : va_W} {v1 : Int32} {v2 : Int32} {v3 : Int32} {v4 : Int32}  (C0 : CXg Γ cX0_willClash 8 2 RX0 cy) (hD : DC Γ cy a X) (h : f_X0_willClash_j156 v1 v2 v3 v4 V = some z) (hz : (Sum.elim (fun x : Int32 × VT => Wp Γ 0 0 3 [(0, .ref (a 8)), (1, .int v1), (2, .int v2), (3, .int v3), (4, .int x.1)] [] (WC cy a x.2 J K X)) (fun y : Int32 × VT => FinZ Γ cX0_willClash (WC cy a y.2 J K X) y.1)) z) : Wp Γ 0 0 156 [(0, .ref (a 8)), (1, .int v1), (2, .int v2), (3, .int v3), (4, .int v4)] [] (WC cy a V J K X) := by
  unfold f_X0_willClash_j156 at h
  obtain ⟨a7, h8, h⟩ := op_bind h
  have e8 := Option.some.inj h8
  refine r_iinc (lv2 := [(4, .int a7), (0, .ref (a 8)), (1, .int v1), (2, .int v2), (3, .int v3)]) C0 dX0_willClash_156 4 rfl ki_1 e8 (Nat.le_of_ble_eq_true rfl) rfl ?_
  refine r_goto C0 3 dX0_willClash_159 rfl ?_
  cases h
  have hz := el_inl hz
  exact r_sub [1, 2, 3, 4, 0] rfl hz
theorem w_X0_willClash_j150 {z : ((Int32 × VT) ⊕ ((Int32 × VT) ⊕ (Int32 × VT)))} {Γ : Gam} {cy : Nat → ClassId} {a : Nat → Nat} {V : VT} {J : JT} {K : Nat → Option Nat} {X : va_W} {v1 : Int32} {v2 : Int32} {v3 : Int32} {v4 : Int32} {v5 : Int32} {v6 : Int32} {v7 : Int32}  (C0 : CXg Γ cX0_willClash 8 2 RX0 cy) (hD : DC Γ cy a X) (h : f_X0_willClash_j150 v1 v2 v3 v4 v5 v6 v7 V = some z) (hz : (Sum.elim (fun x : Int32 × VT => Wp Γ 0 0 59 [(0, .ref (a 8)), (1, .int v1), (2, .int v2), (3, .int v3), (4, .int v4), (5, .int v5), (6, .int v6), (7, .int x.1)] [] (WC cy a x.2 J K X)) (Sum.elim (fun x : Int32 × VT => Wp Γ 0 0 3 [(0, .ref (a 8)), (1, .int v1), (2, .int v2), (3, .int v3), (4, .int x.1)] [] (WC cy a x.2 J K X)) (fun y : Int32 × VT => FinZ Γ cX0_willClash (WC cy a y.2 J K X) y.1))) z) : Wp Γ 0 0 150 [(0, .ref (a 8)), (1, .int v1), (2, .int v2), (3, .int v3), (4, .int v4), (5, .int v5), (6, .int v6), (7, .int v7)] [] (WC cy a V J K X) := by
  unfold f_X0_willClash_j150 at h
  obtain ⟨a8, h8, h⟩ := op_bind h
  have e8 := Option.some.inj h8
  refine r_iinc (lv2 := [(7, .int a8), (0, .ref (a 8)), (1, .int v1), (2, .int v2), (3, .int v3), (4, .int v4), (5, .int v5), (6, .int v6)]) C0 dX0_willClash_150 7 rfl ki_1 e8 (Nat.le_of_ble_eq_true rfl) rfl ?_
  refine r_goto C0 59 dX0_willClash_153 rfl ?_
  cases h
  have hz := el_inl hz
  exact r_sub [1, 2, 3, 4, 5, 6, 7, 0] rfl hz
theorem w_X0_willClash_j114 {z : ((Int32 × VT) ⊕ ((Int32 × VT) ⊕ (Int32 × VT)))} {Γ : Gam} {cy : Nat → ClassId} {a : Nat → Nat} {V : VT} {J : JT} {K : Nat → Option Nat} {X : va_W} {v1 : Int32} {v2 : Int32} {v3 : Int32} {v4 : Int32} {v5 : Int32} {v6 : Int32} {v7 : Int32}  (C0 : CXg Γ cX0_willClash 8 2 RX0 cy) (hD : DC Γ cy a X) (h : f_X0_willClash_j114 v1 v2 v3 v4 v5 v6 v7 V = some z) (hz : (Sum.elim (fun x : Int32 × VT => Wp Γ 0 0 59 [(0, .ref (a 8)), (1, .int v1), (2, .int v2), (3, .int v3), (4, .int v4), (5, .int v5), (6, .int v6), (7, .int x.1)] [] (WC cy a x.2 J K X)) (Sum.elim (fun x : Int32 × VT => Wp Γ 0 0 3 [(0, .ref (a 8)), (1, .int v1), (2, .int v2), (3, .int v3), (4, .int x.1)] [] (WC cy a x.2 J K X)) (fun y : Int32 × VT => FinZ Γ cX0_willClash (WC cy a y.2 J K X) y.1))) z) : Wp Γ 0 0 114 [(0, .ref (a 8)), (1, .int v1), (2, .int v2), (3, .int v3), (4, .int v4), (5, .int v5), (6, .int v6), (7, .int v7)] [] (WC cy a V J K X) := by
  unfold f_X0_willClash_j114 at h
  refine r_aload_n C0 dX0_willClash_114 rfl 0 rfl ?_
  refine r_iload C0 dX0_willClash_115 4 rfl ?_
  refine r_iconst C0 dX0_willClash_117 ki_1 ?_
  refine r_iadd C0 dX0_willClash_118 ?_
  refine wcp_8_9 C0 hD tf_X0_30 dX0_willClash_119 ?_
  refine r_iload C0 dX0_willClash_122 4 rfl ?_
  refine r_iload_n C0 dX0_willClash_124 rfl 2 rfl ?_
  refine r_icmp_ne C0 150 dX0_willClash_125 rfl h (fun _ h => ?_) (fun _ h => ?_)
  · exact r_sub [0, 1, 2, 3, 4, 5, 6, 7] rfl (w_X0_willClash_j150 C0 hD h hz)
  · refine r_aload_n C0 dX0_willClash_128 rfl 0 rfl ?_
    refine wcg_8_2 C0 tf_X0_44 dX0_willClash_129 ?_
    refine r_iload C0 dX0_willClash_132 4 rfl ?_
    refine r_iload C0 dX0_willClash_134 5 rfl ?_
    refine r_aload_n C0 dX0_willClash_136 rfl 0 rfl ?_
    refine wcg_8_9 C0 tf_X0_30 dX0_willClash_137 ?_
    refine r_iload C0 dX0_willClash_140 7 rfl ?_
    refine callV4 C0 h (hD _ _ _) mw_X5_wouldClash rv_5 tm_X0_161 (fun y hy => c_X5_wouldClash hy) (Nat.le_of_ble_eq_true rfl) (Nat.le_of_ble_eq_true rfl) dX0_willClash_142 (fun r9 h => ?_)
    refine r_if_eq C0 150 dX0_willClash_145 rfl h (fun _ h => ?_) (fun _ h => ?_)
    · exact r_sub [0, 1, 2, 3, 4, 5, 6, 7] rfl (w_X0_willClash_j150 C0 hD h hz)
    · obtain ⟨y10, h5, h9⟩ := op_bind h
      clear h
      cases h9
      have hz := (el_inr (el_inr hz))
      have h := h5
      refine r_iconst C0 dX0_willClash_148 ki_1 ?_
      cases h
      exact hz _ _ nz_1 dX0_willClash_149
theorem w_X0_willClash_B59 {x : Int32 × VT} {z : ((Int32 × VT) ⊕ ((Int32 × VT) ⊕ (Int32 × VT)))} {Γ : Gam} {cy : Nat → ClassId} {a : Nat → Nat} {J : JT} {K : Nat → Option Nat} {X : va_W} {v1 : Int32} {v2 : Int32} {v3 : Int32} {v4 : Int32} {v5 : Int32} {v6 : Int32}  (C0 : CXg Γ cX0_willClash 8 2 RX0 cy) (hD : DC Γ cy a X) (h : f_X0_willClash_B59 v1 v2 v3 v4 v5 v6 x = some z) (hz : (Sum.elim (fun x : Int32 × VT => Wp Γ 0 0 59 [(0, .ref (a 8)), (1, .int v1), (2, .int v2), (3, .int v3), (4, .int v4), (5, .int v5), (6, .int v6), (7, .int x.1)] [] (WC cy a x.2 J K X)) (Sum.elim (fun x : Int32 × VT => Wp Γ 0 0 3 [(0, .ref (a 8)), (1, .int v1), (2, .int v2), (3, .int v3), (4, .int x.1)] [] (WC cy a x.2 J K X)) (fun y : Int32 × VT => FinZ Γ cX0_willClash (WC cy a y.2 J K X) y.1))) z) : Wp Γ 0 0 59 [(0, .ref (a 8)), (1, .int v1), (2, .int v2), (3, .int v3), (4, .int v4), (5, .int v5), (6, .int v6), (7, .int x.1)] [] (WC cy a x.2 J K X) := by
  unfold f_X0_willClash_B59 at h
  refine r_iload C0 dX0_willClash_59 7 rfl ?_
  refine r_iload C0 dX0_willClash_61 6 rfl ?_
  refine r_icmp_ge C0 156 dX0_willClash_63 rfl h (fun _ h => ?_) (fun _ h => ?_)
  · obtain ⟨y6, h5, h9⟩ := op_bind h
    clear h
    cases h9
    have hz := (el_inr hz)
    have h := h5
    exact r_sub [0, 1, 2, 3, 4] rfl (w_X0_willClash_j156 C0 hD h hz)
  · refine r_aload_n C0 dX0_willClash_66 rfl 0 rfl ?_
    refine r_iload C0 dX0_willClash_67 4 rfl ?_
    refine wcp_8_8 C0 hD tf_X0_26 dX0_willClash_69 ?_
    refine r_aload_n C0 dX0_willClash_72 rfl 0 rfl ?_
    refine r_iload C0 dX0_willClash_73 7 rfl ?_
    refine wcp_8_10 C0 hD tf_X0_33 dX0_willClash_75 ?_
    refine r_aload_n C0 dX0_willClash_78 rfl 0 rfl ?_
    refine r_iload C0 dX0_willClash_79 4 rfl ?_
    refine r_iconst C0 dX0_willClash_81 ki_1 ?_
    refine r_isub C0 dX0_willClash_82 ?_
    refine wcp_8_9 C0 hD tf_X0_30 dX0_willClash_83 ?_
    refine r_iload C0 dX0_willClash_86 4 rfl ?_
    refine r_iload_n C0 dX0_willClash_88 rfl 1 rfl ?_
    refine r_icmp_ne C0 114 dX0_willClash_89 rfl h (fun _ h => ?_) (fun _ h => ?_)
    · exact r_sub [0, 1, 2, 3, 4, 5, 6, 7] rfl (w_X0_willClash_j114 C0 hD h hz)
    · refine r_aload_n C0 dX0_willClash_92 rfl 0 rfl ?_
      refine wcg_8_2 C0 tf_X0_44 dX0_willClash_93 ?_
      refine r_iload C0 dX0_willClash_96 4 rfl ?_
      refine r_iload C0 dX0_willClash_98 5 rfl ?_
      refine r_aload_n C0 dX0_willClash_100 rfl 0 rfl ?_
      refine wcg_8_9 C0 tf_X0_30 dX0_willClash_101 ?_
      refine r_iload C0 dX0_willClash_104 7 rfl ?_
      refine callV4 C0 h (hD _ _ _) mw_X5_wouldClash rv_5 tm_X0_161 (fun y hy => c_X5_wouldClash hy) (Nat.le_of_ble_eq_true rfl) (Nat.le_of_ble_eq_true rfl) dX0_willClash_106 (fun r11 h => ?_)
      refine r_if_eq C0 114 dX0_willClash_109 rfl h (fun _ h => ?_) (fun _ h => ?_)
      · exact r_sub [0, 1, 2, 3, 4, 5, 6, 7] rfl (w_X0_willClash_j114 C0 hD h hz)
      · obtain ⟨y12, h5, h9⟩ := op_bind h
        clear h
        cases h9
        have hz := (el_inr (el_inr hz))
        have h := h5
        refine r_iconst C0 dX0_willClash_112 ki_1 ?_
        cases h
        exact hz _ _ nz_1 dX0_willClash_113
theorem w_X0_willClash_B59_lp {x : Int32 × VT} {z : ((Int32 × VT) ⊕ (Int32 × VT))} {Γ : Gam} {cy : Nat → ClassId} {a : Nat → Nat} {J : JT} {K : Nat → Option Nat} {X : va_W} {v1 : Int32} {v2 : Int32} {v3 : Int32} {v4 : Int32} {v5 : Int32} {v6 : Int32}  (C0 : CXg Γ cX0_willClash 8 2 RX0 cy) (hD : DC Γ cy a X) (h : lp (f_X0_willClash_B59 v1 v2 v3 v4 v5 v6) fuel x = some z) (hz : (Sum.elim (fun x : Int32 × VT => Wp Γ 0 0 3 [(0, .ref (a 8)), (1, .int v1), (2, .int v2), (3, .int v3), (4, .int x.1)] [] (WC cy a x.2 J K X)) (fun y : Int32 × VT => FinZ Γ cX0_willClash (WC cy a y.2 J K X) y.1)) z) : Wp Γ 0 0 59 [(0, .ref (a 8)), (1, .int v1), (2, .int v2), (3, .int v3), (4, .int v4), (5, .int v5), (6, .int v6), (7, .int x.1)] [] (WC cy a x.2 J K X) :=
  lp_rule (hd := (fun x : Int32 × VT => Wp Γ 0 0 59 [(0, .ref (a 8)), (1, .int v1), (2, .int v2), (3, .int v3), (4, .int v4), (5, .int v5), (6, .int v6), (7, .int x.1)] [] (WC cy a x.2 J K X))) (C := (Sum.elim (fun x : Int32 × VT => Wp Γ 0 0 3 [(0, .ref (a 8)), (1, .int v1), (2, .int v2), (3, .int v3), (4, .int x.1)] [] (WC cy a x.2 J K X)) (fun y : Int32 × VT => FinZ Γ cX0_willClash (WC cy a y.2 J K X) y.1))) (fun x z h hz => w_X0_willClash_B59 C0 hD h hz) _ _ _ h hz
theorem w_X0_willClash_j24 {z : ((Int32 × VT) ⊕ (Int32 × VT))} {Γ : Gam} {cy : Nat → ClassId} {a : Nat → Nat} {V : VT} {J : JT} {K : Nat → Option Nat} {X : va_W} {v1 : Int32} {v2 : Int32} {v3 : Int32} {v4 : Int32}  (C0 : CXg Γ cX0_willClash 8 2 RX0 cy) (hD : DC Γ cy a X) (h : f_X0_willClash_j24 v1 v2 v3 v4 V = some z) (hz : (Sum.elim (fun x : Int32 × VT => Wp Γ 0 0 3 [(0, .ref (a 8)), (1, .int v1), (2, .int v2), (3, .int v3), (4, .int x.1)] [] (WC cy a x.2 J K X)) (fun y : Int32 × VT => FinZ Γ cX0_willClash (WC cy a y.2 J K X) y.1)) z) : Wp Γ 0 0 24 [(0, .ref (a 8)), (1, .int v1), (2, .int v2), (3, .int v3), (4, .int v4)] [] (WC cy a V J K X) := by
  unfold f_X0_willClash_j24 at h
  refine r_aload_n C0 dX0_willClash_24 rfl 0 rfl ?_
  refine wcg_8_0 C0 tf_X0_36 dX0_willClash_25 ?_
  refine wcg_3_0 C0 tf_X0_155 dX0_willClash_28 ?_
  refine r_iload C0 dX0_willClash_31 4 rfl ?_
  refine r_iconst C0 dX0_willClash_33 ki_2 ?_
  refine callV2 C0 h (hD _ _ _) mw_X7_get (rv_t tb_10) tm_X0_69 (fun y hy => c_X7_get tb_10 hy) (Nat.le_of_ble_eq_true rfl) (Nat.le_of_ble_eq_true rfl) dX0_willClash_34 (fun r2 h => ?_)
  refine r_iload_n C0 dX0_willClash_37 rfl 3 rfl ?_
  refine r_iadd C0 dX0_willClash_38 ?_
  obtain ⟨a3, h8, h⟩ := op_bind h
  have e8 := Option.some.inj h8
  refine r_istore (lv2 := [(5, .int a3), (0, .ref (a 8)), (1, .int v1), (2, .int v2), (3, .int v3), (4, .int v4)]) C0 dX0_willClash_39 e8 (Nat.le_of_ble_eq_true rfl) rfl ?_
  refine r_aload_n C0 dX0_willClash_41 rfl 1 rfl ?_
  refine wcg_8_0 C0 tf_X0_36 dX0_willClash_42 ?_
  refine wcg_3_0 C0 tf_X0_155 dX0_willClash_45 ?_
  refine r_iload C0 dX0_willClash_48 5 rfl ?_
  refine r_iconst C0 dX0_willClash_50 ki_0 ?_
  refine callV2 C0 h (hD _ _ _) mw_X7_get (rv_t tb_10) tm_X0_69 (fun y hy => c_X7_get tb_10 hy) (Nat.le_of_ble_eq_true rfl) (Nat.le_of_ble_eq_true rfl) dX0_willClash_51 (fun r4 h => ?_)
  refine r_istore (lv2 := [(6, .int r4), (5, .int a3), (0, .ref (a 8)), (1, .int v1), (2, .int v2), (3, .int v3), (4, .int v4)]) C0 dX0_willClash_54 rfl (Nat.le_of_ble_eq_true rfl) rfl ?_
  refine r_iconst C0 dX0_willClash_56 ki_0 ?_
  obtain ⟨a5, h8, h⟩ := op_bind h
  have e8 := Option.some.inj h8
  refine r_istore (lv2 := [(7, .int a5), (6, .int r4), (5, .int a3), (0, .ref (a 8)), (1, .int v1), (2, .int v2), (3, .int v3), (4, .int v4)]) C0 dX0_willClash_57 e8 (Nat.le_of_ble_eq_true rfl) rfl ?_
  exact r_sub [3, 4, 5, 6, 7, 2, 1, 0] rfl (w_X0_willClash_B59_lp C0 hD h hz)
theorem w_X0_willClash_B3 {x : Int32 × VT} {z : ((Int32 × VT) ⊕ (Int32 × VT))} {Γ : Gam} {cy : Nat → ClassId} {a : Nat → Nat} {J : JT} {K : Nat → Option Nat} {X : va_W} {v1 : Int32} {v2 : Int32} {v3 : Int32}  (C0 : CXg Γ cX0_willClash 8 2 RX0 cy) (hD : DC Γ cy a X) (h : f_X0_willClash_B3 v1 v2 v3 x = some z) (hz : (Sum.elim (fun x : Int32 × VT => Wp Γ 0 0 3 [(0, .ref (a 8)), (1, .int v1), (2, .int v2), (3, .int v3), (4, .int x.1)] [] (WC cy a x.2 J K X)) (fun y : Int32 × VT => FinZ Γ cX0_willClash (WC cy a y.2 J K X) y.1)) z) : Wp Γ 0 0 3 [(0, .ref (a 8)), (1, .int v1), (2, .int v2), (3, .int v3), (4, .int x.1)] [] (WC cy a x.2 J K X) := by
  unfold f_X0_willClash_B3 at h
  refine r_iload C0 dX0_willClash_3 4 rfl ?_
  refine r_iload_n C0 dX0_willClash_5 rfl 2 rfl ?_
  refine r_icmp_gt C0 162 dX0_willClash_6 rfl h (fun _ h => ?_) (fun _ h => ?_)
  · obtain ⟨y1, h5, h9⟩ := op_bind h
    clear h
    cases h9
    have hz := (el_inr hz)
    have h := h5
    refine r_iconst C0 dX0_willClash_162 ki_0 ?_
    cases h
    exact hz _ _ nz_0 dX0_willClash_163
  · refine r_iload C0 dX0_willClash_9 4 rfl ?_
    refine r_iload_n C0 dX0_willClash_11 rfl 1 rfl ?_
    refine r_icmp_eq C0 24 dX0_willClash_12 rfl h (fun _ h => ?_) (fun _ h => ?_)
    · exact r_sub [0, 1, 2, 3, 4] rfl (w_X0_willClash_j24 C0 hD h hz)
    · refine r_iload C0 dX0_willClash_15 4 rfl ?_
      refine r_iload_n C0 dX0_willClash_17 rfl 2 rfl ?_
      refine r_icmp_eq C0 24 dX0_willClash_18 rfl h (fun _ h => ?_) (fun _ h => ?_)
      · exact r_sub [0, 1, 2, 3, 4] rfl (w_X0_willClash_j24 C0 hD h hz)
      · refine r_goto C0 156 dX0_willClash_21 rfl ?_
        exact r_sub [0, 1, 2, 3, 4] rfl (w_X0_willClash_j156 C0 hD h hz)
theorem w_X0_willClash_B3_lp {x : Int32 × VT} {z : (Int32 × VT)} {Γ : Gam} {cy : Nat → ClassId} {a : Nat → Nat} {J : JT} {K : Nat → Option Nat} {X : va_W} {v1 : Int32} {v2 : Int32} {v3 : Int32}  (C0 : CXg Γ cX0_willClash 8 2 RX0 cy) (hD : DC Γ cy a X) (h : lp (f_X0_willClash_B3 v1 v2 v3) fuel x = some z) (hz : (fun y : Int32 × VT => FinZ Γ cX0_willClash (WC cy a y.2 J K X) y.1) z) : Wp Γ 0 0 3 [(0, .ref (a 8)), (1, .int v1), (2, .int v2), (3, .int v3), (4, .int x.1)] [] (WC cy a x.2 J K X) :=
  lp_rule (hd := (fun x : Int32 × VT => Wp Γ 0 0 3 [(0, .ref (a 8)), (1, .int v1), (2, .int v2), (3, .int v3), (4, .int x.1)] [] (WC cy a x.2 J K X))) (C := (fun y : Int32 × VT => FinZ Γ cX0_willClash (WC cy a y.2 J K X) y.1)) (fun x z h hz => w_X0_willClash_B3 C0 hD h hz) _ _ _ h hz
theorem w_X0_willClash {z : Int32 × VT} {Γ : Gam} {cy : Nat → ClassId} {a : Nat → Nat} {V : VT} {J : JT} {K : Nat → Option Nat} {X : va_W} {v1 : Int32} {v2 : Int32} {v3 : Int32}  (C0 : CXg Γ cX0_willClash 8 2 RX0 cy) (hD : DC Γ cy a X) (h : f_X0_willClash v1 v2 v3 V = some z) (hz : (fun y : Int32 × VT => FinZ Γ cX0_willClash (WC cy a y.2 J K X) y.1) z) : Wp Γ 0 0 0 [(0, .ref (a 8)), (1, .int v1), (2, .int v2), (3, .int v3)] [] (WC cy a V J K X) := by
  unfold f_X0_willClash at h
  refine r_iload_n C0 dX0_willClash_0 rfl 1 rfl ?_
  refine r_istore (lv2 := [(4, .int v1), (0, .ref (a 8)), (1, .int v1), (2, .int v2), (3, .int v3)]) C0 dX0_willClash_1 rfl (Nat.le_of_ble_eq_true rfl) rfl ?_
  exact r_sub [1, 2, 3, 4, 0] rfl (w_X0_willClash_B3_lp C0 hD h hz)
theorem c_X0_willClash {l : Launch} {D : va_G} {cy : Nat → ClassId} {a : Nat → Nat} {V : VT} {J : JT} {K : Nat → Option Nat} {X : va_W} {v1 : Int32} {v2 : Int32} {v3 : Int32} {y : Int32 × VT} (h : f_X0_willClash v1 v2 v3 V = some y) : CT l D cy yX0_willClash cX0_willClash 8 (some .boolean) 2 [.ref (a 8), .int v1, .int v2, .int v3] (WC cy a V J K X) (WC cy a y.2 J K X) (some (.int y.1)) :=
  mkZ (by decide) (Nat.le_of_ble_eq_true rfl) (fun Γ _ _ C0 hD hF => w_X0_willClash C0 (dc_of hD) h hF)
theorem dX0_moveGroup_0 : decode cX0_moveGroup 0 = .ok (.ldc 25, 2) := by decide +kernel
theorem dX0_moveGroup_2 : decode cX0_moveGroup 2 = .ok (.istore_n 3, 1) := by decide +kernel
theorem dX0_moveGroup_3 : decode cX0_moveGroup 3 = .ok (.iload_n 2, 1) := by decide +kernel
theorem dX0_moveGroup_4 : decode cX0_moveGroup 4 = .ok (.istore 4, 2) := by decide +kernel
theorem dX0_moveGroup_6 : decode cX0_moveGroup 6 = .ok (.iload 4, 2) := by decide +kernel
theorem dX0_moveGroup_8 : decode cX0_moveGroup 8 = .ok (.iload_n 1, 1) := by decide +kernel
theorem dX0_moveGroup_9 : decode cX0_moveGroup 9 = .ok (.if_icmp .lt 45, 3) := by decide +kernel
theorem dX0_moveGroup_12 : decode cX0_moveGroup 12 = .ok (.iload 4, 2) := by decide +kernel
theorem dX0_moveGroup_14 : decode cX0_moveGroup 14 = .ok (.ifCond .lt 40, 3) := by decide +kernel
theorem dX0_moveGroup_17 : decode cX0_moveGroup 17 = .ok (.iload 4, 2) := by decide +kernel
theorem dX0_moveGroup_19 : decode cX0_moveGroup 19 = .ok (.bipush 12, 2) := by decide +kernel
theorem dX0_moveGroup_21 : decode cX0_moveGroup 21 = .ok (.if_icmp .ge 33, 3) := by decide +kernel
theorem dX0_moveGroup_24 : decode cX0_moveGroup 24 = .ok (.aload_n 0, 1) := by decide +kernel
theorem dX0_moveGroup_25 : decode cX0_moveGroup 25 = .ok (.getfield 21, 3) := by decide +kernel
theorem dX0_moveGroup_28 : decode cX0_moveGroup 28 = .ok (.iload 4, 2) := by decide +kernel
theorem dX0_moveGroup_30 : decode cX0_moveGroup 30 = .ok (.iaload, 1) := by decide +kernel
theorem dX0_moveGroup_31 : decode cX0_moveGroup 31 = .ok (.ldc 25, 2) := by decide +kernel
theorem dX0_moveGroup_33 : decode cX0_moveGroup 33 = .ok (.if_icmp .eq 13, 3) := by decide +kernel
theorem dX0_moveGroup_36 : decode cX0_moveGroup 36 = .ok (.aload_n 0, 1) := by decide +kernel
theorem dX0_moveGroup_37 : decode cX0_moveGroup 37 = .ok (.getfield 21, 3) := by decide +kernel
theorem dX0_moveGroup_40 : decode cX0_moveGroup 40 = .ok (.iload 4, 2) := by decide +kernel
theorem dX0_moveGroup_42 : decode cX0_moveGroup 42 = .ok (.iaload, 1) := by decide +kernel
theorem dX0_moveGroup_43 : decode cX0_moveGroup 43 = .ok (.goto 4, 3) := by decide +kernel
theorem dX0_moveGroup_46 : decode cX0_moveGroup 46 = .ok (.iload_n 3, 1) := by decide +kernel
theorem dX0_moveGroup_47 : decode cX0_moveGroup 47 = .ok (.istore_n 3, 1) := by decide +kernel
theorem dX0_moveGroup_48 : decode cX0_moveGroup 48 = .ok (.iinc 4 (-1), 3) := by decide +kernel
theorem dX0_moveGroup_51 : decode cX0_moveGroup 51 = .ok (.goto (-45), 3) := by decide +kernel
theorem dX0_moveGroup_54 : decode cX0_moveGroup 54 = .ok (.iload_n 3, 1) := by decide +kernel
theorem dX0_moveGroup_55 : decode cX0_moveGroup 55 = .ok (.ldc 25, 2) := by decide +kernel
theorem dX0_moveGroup_57 : decode cX0_moveGroup 57 = .ok (.if_icmp .ne 5, 3) := by decide +kernel
theorem dX0_moveGroup_60 : decode cX0_moveGroup 60 = .ok (.iconst 0, 1) := by decide +kernel
theorem dX0_moveGroup_61 : decode cX0_moveGroup 61 = .ok (.ireturn, 1) := by decide +kernel
theorem dX0_moveGroup_62 : decode cX0_moveGroup 62 = .ok (.aload_n 0, 1) := by decide +kernel
theorem dX0_moveGroup_63 : decode cX0_moveGroup 63 = .ok (.getfield 36, 3) := by decide +kernel
theorem dX0_moveGroup_66 : decode cX0_moveGroup 66 = .ok (.getfield 79, 3) := by decide +kernel
theorem dX0_moveGroup_69 : decode cX0_moveGroup 69 = .ok (.iload_n 3, 1) := by decide +kernel
theorem dX0_moveGroup_70 : decode cX0_moveGroup 70 = .ok (.iconst 1, 1) := by decide +kernel
theorem dX0_moveGroup_71 : decode cX0_moveGroup 71 = .ok (.invokevirtual 69, 3) := by decide +kernel
theorem dX0_moveGroup_74 : decode cX0_moveGroup 74 = .ok (.istore 4, 2) := by decide +kernel
theorem dX0_moveGroup_76 : decode cX0_moveGroup 76 = .ok (.iload 4, 2) := by decide +kernel
theorem dX0_moveGroup_78 : decode cX0_moveGroup 78 = .ok (.ifCond .ge 7, 3) := by decide +kernel
theorem dX0_moveGroup_81 : decode cX0_moveGroup 81 = .ok (.iconst (-1), 1) := by decide +kernel
theorem dX0_moveGroup_82 : decode cX0_moveGroup 82 = .ok (.goto 4, 3) := by decide +kernel
theorem dX0_moveGroup_85 : decode cX0_moveGroup 85 = .ok (.iconst 1, 1) := by decide +kernel
theorem dX0_moveGroup_86 : decode cX0_moveGroup 86 = .ok (.istore 5, 2) := by decide +kernel
theorem dX0_moveGroup_88 : decode cX0_moveGroup 88 = .ok (.iconst 0, 1) := by decide +kernel
theorem dX0_moveGroup_89 : decode cX0_moveGroup 89 = .ok (.istore 6, 2) := by decide +kernel
theorem dX0_moveGroup_91 : decode cX0_moveGroup 91 = .ok (.iload 6, 2) := by decide +kernel
theorem dX0_moveGroup_93 : decode cX0_moveGroup 93 = .ok (.iload 4, 2) := by decide +kernel
theorem dX0_moveGroup_95 : decode cX0_moveGroup 95 = .ok (.invokestatic 134, 3) := by decide +kernel
theorem dX0_moveGroup_98 : decode cX0_moveGroup 98 = .ok (.if_icmp .ge 102, 3) := by decide +kernel
theorem dX0_moveGroup_101 : decode cX0_moveGroup 101 = .ok (.aload_n 0, 1) := by decide +kernel
theorem dX0_moveGroup_102 : decode cX0_moveGroup 102 = .ok (.iload_n 1, 1) := by decide +kernel
theorem dX0_moveGroup_103 : decode cX0_moveGroup 103 = .ok (.iload_n 2, 1) := by decide +kernel
theorem dX0_moveGroup_104 : decode cX0_moveGroup 104 = .ok (.iload 5, 2) := by decide +kernel
theorem dX0_moveGroup_106 : decode cX0_moveGroup 106 = .ok (.invokevirtual 139, 3) := by decide +kernel
theorem dX0_moveGroup_109 : decode cX0_moveGroup 109 = .ok (.istore 7, 2) := by decide +kernel
theorem dX0_moveGroup_111 : decode cX0_moveGroup 111 = .ok (.iload 7, 2) := by decide +kernel
theorem dX0_moveGroup_113 : decode cX0_moveGroup 113 = .ok (.ifCond .ne 17, 3) := by decide +kernel
theorem dX0_moveGroup_116 : decode cX0_moveGroup 116 = .ok (.aload_n 0, 1) := by decide +kernel
theorem dX0_moveGroup_117 : decode cX0_moveGroup 117 = .ok (.iload_n 1, 1) := by decide +kernel
theorem dX0_moveGroup_118 : decode cX0_moveGroup 118 = .ok (.iload_n 2, 1) := by decide +kernel
theorem dX0_moveGroup_119 : decode cX0_moveGroup 119 = .ok (.iload 5, 2) := by decide +kernel
theorem dX0_moveGroup_121 : decode cX0_moveGroup 121 = .ok (.invokevirtual 143, 3) := by decide +kernel
theorem dX0_moveGroup_124 : decode cX0_moveGroup 124 = .ok (.ifCond .eq 6, 3) := by decide +kernel
theorem dX0_moveGroup_127 : decode cX0_moveGroup 127 = .ok (.iconst 4, 1) := by decide +kernel
theorem dX0_moveGroup_128 : decode cX0_moveGroup 128 = .ok (.istore 7, 2) := by decide +kernel
theorem dX0_moveGroup_130 : decode cX0_moveGroup 130 = .ok (.iload 7, 2) := by decide +kernel
theorem dX0_moveGroup_132 : decode cX0_moveGroup 132 = .ok (.ifCond .eq 18, 3) := by decide +kernel
theorem dX0_moveGroup_135 : decode cX0_moveGroup 135 = .ok (.aload_n 0, 1) := by decide +kernel
theorem dX0_moveGroup_136 : decode cX0_moveGroup 136 = .ok (.iload 7, 2) := by decide +kernel
theorem dX0_moveGroup_138 : decode cX0_moveGroup 138 = .ok (.invokevirtual 147, 3) := by decide +kernel
theorem dX0_moveGroup_141 : decode cX0_moveGroup 141 = .ok (.aload_n 0, 1) := by decide +kernel
theorem dX0_moveGroup_142 : decode cX0_moveGroup 142 = .ok (.iload_n 1, 1) := by decide +kernel
theorem dX0_moveGroup_143 : decode cX0_moveGroup 143 = .ok (.iload_n 2, 1) := by decide +kernel
theorem dX0_moveGroup_144 : decode cX0_moveGroup 144 = .ok (.invokevirtual 151, 3) := by decide +kernel
theorem dX0_moveGroup_147 : decode cX0_moveGroup 147 = .ok (.iload 6, 2) := by decide +kernel
theorem dX0_moveGroup_149 : decode cX0_moveGroup 149 = .ok (.ireturn, 1) := by decide +kernel
theorem dX0_moveGroup_150 : decode cX0_moveGroup 150 = .ok (.iload_n 1, 1) := by decide +kernel
theorem dX0_moveGroup_151 : decode cX0_moveGroup 151 = .ok (.istore 8, 2) := by decide +kernel
theorem dX0_moveGroup_153 : decode cX0_moveGroup 153 = .ok (.iload 8, 2) := by decide +kernel
theorem dX0_moveGroup_155 : decode cX0_moveGroup 155 = .ok (.iload_n 2, 1) := by decide +kernel
theorem dX0_moveGroup_156 : decode cX0_moveGroup 156 = .ok (.if_icmp .gt 38, 3) := by decide +kernel
theorem dX0_moveGroup_159 : decode cX0_moveGroup 159 = .ok (.aload_n 0, 1) := by decide +kernel
theorem dX0_moveGroup_160 : decode cX0_moveGroup 160 = .ok (.getfield 36, 3) := by decide +kernel
theorem dX0_moveGroup_163 : decode cX0_moveGroup 163 = .ok (.getfield 155, 3) := by decide +kernel
theorem dX0_moveGroup_166 : decode cX0_moveGroup 166 = .ok (.iload 8, 2) := by decide +kernel
theorem dX0_moveGroup_168 : decode cX0_moveGroup 168 = .ok (.iconst 2, 1) := by decide +kernel
theorem dX0_moveGroup_169 : decode cX0_moveGroup 169 = .ok (.aload_n 0, 1) := by decide +kernel
theorem dX0_moveGroup_170 : decode cX0_moveGroup 170 = .ok (.getfield 36, 3) := by decide +kernel
theorem dX0_moveGroup_173 : decode cX0_moveGroup 173 = .ok (.getfield 155, 3) := by decide +kernel
theorem dX0_moveGroup_176 : decode cX0_moveGroup 176 = .ok (.iload 8, 2) := by decide +kernel
theorem dX0_moveGroup_178 : decode cX0_moveGroup 178 = .ok (.iconst 2, 1) := by decide +kernel
theorem dX0_moveGroup_179 : decode cX0_moveGroup 179 = .ok (.invokevirtual 69, 3) := by decide +kernel
theorem dX0_moveGroup_182 : decode cX0_moveGroup 182 = .ok (.iload 5, 2) := by decide +kernel
theorem dX0_moveGroup_184 : decode cX0_moveGroup 184 = .ok (.iadd, 1) := by decide +kernel
theorem dX0_moveGroup_185 : decode cX0_moveGroup 185 = .ok (.invokevirtual 75, 3) := by decide +kernel
theorem dX0_moveGroup_188 : decode cX0_moveGroup 188 = .ok (.iinc 8 1, 3) := by decide +kernel
theorem dX0_moveGroup_191 : decode cX0_moveGroup 191 = .ok (.goto (-38), 3) := by decide +kernel
theorem dX0_moveGroup_194 : decode cX0_moveGroup 194 = .ok (.iinc 6 1, 3) := by decide +kernel
theorem dX0_moveGroup_197 : decode cX0_moveGroup 197 = .ok (.goto (-106), 3) := by decide +kernel
theorem dX0_moveGroup_200 : decode cX0_moveGroup 200 = .ok (.iload 4, 2) := by decide +kernel
theorem dX0_moveGroup_202 : decode cX0_moveGroup 202 = .ok (.invokestatic 134, 3) := by decide +kernel
theorem dX0_moveGroup_205 : decode cX0_moveGroup 205 = .ok (.ireturn, 1) := by decide +kernel
theorem w_X0_moveGroup_B153 {x : Int32 × VT} {z : ((Int32 × VT) ⊕ ((Int32 × VT) ⊕ (Int32 × VT)))} {Γ : Gam} {cy : Nat → ClassId} {a : Nat → Nat} {J : JT} {K : Nat → Option Nat} {X : va_W} {v1 : Int32} {v2 : Int32} {v4 : Int32} {v5 : Int32} {v6 : Int32}  (C0 : CXg Γ cX0_moveGroup 9 3 RX0 cy) (hD : DC Γ cy a X) (h : f_X0_moveGroup_B153 v1 v2 v4 v5 v6 x = some z) (hz : (Sum.elim (fun x : Int32 × VT => Wp Γ 0 0 153 [(0, .ref (a 8)), (1, .int v1), (2, .int v2), (4, .int v4), (5, .int v5), (6, .int v6), (8, .int x.1)] [] (WC cy a x.2 J K X)) (Sum.elim (fun x : Int32 × VT => Wp Γ 0 0 91 [(0, .ref (a 8)), (1, .int v1), (2, .int v2), (4, .int v4), (5, .int v5), (6, .int x.1)] [] (WC cy a x.2 J K X)) (fun y : Int32 × VT => FinI Γ cX0_moveGroup (WC cy a y.2 J K X) y.1))) z) : Wp Γ 0 0 153 [(0, .ref (a 8)), (1, .int v1), (2, .int v2), (4, .int v4), (5, .int v5), (6, .int v6), (8, .int x.1)] [] (WC cy a x.2 J K X) := by
  unfold f_X0_moveGroup_B153 at h
  refine r_iload C0 dX0_moveGroup_153 6 rfl ?_
  refine r_iload_n C0 dX0_moveGroup_155 rfl 2 rfl ?_
  refine r_icmp_gt C0 194 dX0_moveGroup_156 rfl h (fun _ h => ?_) (fun _ h => ?_)
  · obtain ⟨y7, h5, h9⟩ := op_bind h
    clear h
    cases h9
    have hz := (el_inr hz)
    have h := h5
    obtain ⟨a8, h8, h⟩ := op_bind h
    have e8 := Option.some.inj h8
    refine r_iinc (lv2 := [(6, .int a8), (0, .ref (a 8)), (1, .int v1), (2, .int v2), (4, .int v4), (5, .int v5), (8, .int x.1)]) C0 dX0_moveGroup_194 5 rfl ki_1 e8 (Nat.le_of_ble_eq_true rfl) rfl ?_
    refine r_goto C0 91 dX0_moveGroup_197 rfl ?_
    cases h
    have hz := el_inl hz
    exact r_sub [1, 2, 3, 4, 5, 0] rfl hz
  · refine r_aload_n C0 dX0_moveGroup_159 rfl 0 rfl ?_
    refine wcg_8_0 C0 tf_X0_36 dX0_moveGroup_160 ?_
    refine wcg_3_0 C0 tf_X0_155 dX0_moveGroup_163 ?_
    refine r_iload C0 dX0_moveGroup_166 6 rfl ?_
    refine r_iconst C0 dX0_moveGroup_168 ki_2 ?_
    refine r_aload_n C0 dX0_moveGroup_169 rfl 0 rfl ?_
    refine wcg_8_0 C0 tf_X0_36 dX0_moveGroup_170 ?_
    refine wcg_3_0 C0 tf_X0_155 dX0_moveGroup_173 ?_
    refine r_iload C0 dX0_moveGroup_176 6 rfl ?_
    refine r_iconst C0 dX0_moveGroup_178 ki_2 ?_
    refine callV2 C0 h (hD _ _ _) mw_X7_get (rv_t tb_10) tm_X0_69 (fun y hy => c_X7_get tb_10 hy) (Nat.le_of_ble_eq_true rfl) (Nat.le_of_ble_eq_true rfl) dX0_moveGroup_179 (fun r9 h => ?_)
    refine r_iload C0 dX0_moveGroup_182 4 rfl ?_
    refine r_iadd C0 dX0_moveGroup_184 ?_
    refine callVv3 C0 h (hD _ _ _) mw_X7_set (rv_t tb_10) tm_X0_75 (fun y hy => c_X7_set tb_10 hy) (Nat.le_of_ble_eq_true rfl) (Nat.le_of_ble_eq_true rfl) dX0_moveGroup_185 (fun r10 h => ?_)
    obtain ⟨a11, h8, h⟩ := op_bind h
    have e8 := Option.some.inj h8
    refine r_iinc (lv2 := [(8, .int a11), (0, .ref (a 8)), (1, .int v1), (2, .int v2), (4, .int v4), (5, .int v5), (6, .int v6)]) C0 dX0_moveGroup_188 6 rfl ki_1 e8 (Nat.le_of_ble_eq_true rfl) rfl ?_
    refine r_goto C0 153 dX0_moveGroup_191 rfl ?_
    cases h
    have hz := el_inl hz
    exact r_sub [1, 2, 3, 4, 5, 6, 0] rfl hz
theorem w_X0_moveGroup_B153_lp {x : Int32 × VT} {z : ((Int32 × VT) ⊕ (Int32 × VT))} {Γ : Gam} {cy : Nat → ClassId} {a : Nat → Nat} {J : JT} {K : Nat → Option Nat} {X : va_W} {v1 : Int32} {v2 : Int32} {v4 : Int32} {v5 : Int32} {v6 : Int32}  (C0 : CXg Γ cX0_moveGroup 9 3 RX0 cy) (hD : DC Γ cy a X) (h : lp (f_X0_moveGroup_B153 v1 v2 v4 v5 v6) fuel x = some z) (hz : (Sum.elim (fun x : Int32 × VT => Wp Γ 0 0 91 [(0, .ref (a 8)), (1, .int v1), (2, .int v2), (4, .int v4), (5, .int v5), (6, .int x.1)] [] (WC cy a x.2 J K X)) (fun y : Int32 × VT => FinI Γ cX0_moveGroup (WC cy a y.2 J K X) y.1)) z) : Wp Γ 0 0 153 [(0, .ref (a 8)), (1, .int v1), (2, .int v2), (4, .int v4), (5, .int v5), (6, .int v6), (8, .int x.1)] [] (WC cy a x.2 J K X) :=
  lp_rule (hd := (fun x : Int32 × VT => Wp Γ 0 0 153 [(0, .ref (a 8)), (1, .int v1), (2, .int v2), (4, .int v4), (5, .int v5), (6, .int v6), (8, .int x.1)] [] (WC cy a x.2 J K X))) (C := (Sum.elim (fun x : Int32 × VT => Wp Γ 0 0 91 [(0, .ref (a 8)), (1, .int v1), (2, .int v2), (4, .int v4), (5, .int v5), (6, .int x.1)] [] (WC cy a x.2 J K X)) (fun y : Int32 × VT => FinI Γ cX0_moveGroup (WC cy a y.2 J K X) y.1))) (fun x z h hz => w_X0_moveGroup_B153 C0 hD h hz) _ _ _ h hz
theorem w_X0_moveGroup_j130 {z : ((Int32 × VT) ⊕ (Int32 × VT))} {Γ : Gam} {cy : Nat → ClassId} {a : Nat → Nat} {V : VT} {J : JT} {K : Nat → Option Nat} {X : va_W} {v1 : Int32} {v2 : Int32} {v4 : Int32} {v5 : Int32} {v6 : Int32} {v7 : Int32}  (C0 : CXg Γ cX0_moveGroup 9 3 RX0 cy) (hD : DC Γ cy a X) (h : f_X0_moveGroup_j130 v1 v2 v4 v5 v6 v7 V = some z) (hz : (Sum.elim (fun x : Int32 × VT => Wp Γ 0 0 91 [(0, .ref (a 8)), (1, .int v1), (2, .int v2), (4, .int v4), (5, .int v5), (6, .int x.1)] [] (WC cy a x.2 J K X)) (fun y : Int32 × VT => FinI Γ cX0_moveGroup (WC cy a y.2 J K X) y.1)) z) : Wp Γ 0 0 130 [(0, .ref (a 8)), (1, .int v1), (2, .int v2), (4, .int v4), (5, .int v5), (6, .int v6), (7, .int v7)] [] (WC cy a V J K X) := by
  unfold f_X0_moveGroup_j130 at h
  refine r_iload C0 dX0_moveGroup_130 6 rfl ?_
  refine r_if_eq C0 150 dX0_moveGroup_132 rfl h (fun _ h => ?_) (fun _ h => ?_)
  · refine r_iload_n C0 dX0_moveGroup_150 rfl 1 rfl ?_
    refine r_istore (lv2 := [(8, .int v1), (0, .ref (a 8)), (1, .int v1), (2, .int v2), (4, .int v4), (5, .int v5), (6, .int v6), (7, .int v7)]) C0 dX0_moveGroup_151 rfl (Nat.le_of_ble_eq_true rfl) rfl ?_
    exact r_sub [1, 2, 3, 4, 5, 6, 0] rfl (w_X0_moveGroup_B153_lp C0 hD h hz)
  · obtain ⟨y12, h5, h9⟩ := op_bind h
    clear h
    cases h9
    have hz := (el_inr hz)
    have h := h5
    refine r_aload_n C0 dX0_moveGroup_135 rfl 0 rfl ?_
    refine r_iload C0 dX0_moveGroup_136 6 rfl ?_
    refine callVv1 C0 h (hD _ _ _) mw_X0_noteStop rv_8 tm_X0_147 (fun y hy => c_X0_noteStop hy) (Nat.le_of_ble_eq_true rfl) (Nat.le_of_ble_eq_true rfl) dX0_moveGroup_138 (fun r13 h => ?_)
    refine r_aload_n C0 dX0_moveGroup_141 rfl 0 rfl ?_
    refine r_iload_n C0 dX0_moveGroup_142 rfl 1 rfl ?_
    refine r_iload_n C0 dX0_moveGroup_143 rfl 2 rfl ?_
    refine callVv2 C0 h (hD _ _ _) mw_X0_endRunning rv_8 tm_X0_151 (fun y hy => c_X0_endRunning hy) (Nat.le_of_ble_eq_true rfl) (Nat.le_of_ble_eq_true rfl) dX0_moveGroup_144 (fun r14 h => ?_)
    refine r_iload C0 dX0_moveGroup_147 5 rfl ?_
    cases h
    exact hz _ _ dX0_moveGroup_149
theorem w_X0_moveGroup_B91 {x : Int32 × VT} {z : ((Int32 × VT) ⊕ (Int32 × VT))} {Γ : Gam} {cy : Nat → ClassId} {a : Nat → Nat} {J : JT} {K : Nat → Option Nat} {X : va_W} {v1 : Int32} {v2 : Int32} {v4 : Int32} {v5 : Int32}  (C0 : CXg Γ cX0_moveGroup 9 3 RX0 cy) (hD : DC Γ cy a X) (h : f_X0_moveGroup_B91 v1 v2 v4 v5 x = some z) (hz : (Sum.elim (fun x : Int32 × VT => Wp Γ 0 0 91 [(0, .ref (a 8)), (1, .int v1), (2, .int v2), (4, .int v4), (5, .int v5), (6, .int x.1)] [] (WC cy a x.2 J K X)) (fun y : Int32 × VT => FinI Γ cX0_moveGroup (WC cy a y.2 J K X) y.1)) z) : Wp Γ 0 0 91 [(0, .ref (a 8)), (1, .int v1), (2, .int v2), (4, .int v4), (5, .int v5), (6, .int x.1)] [] (WC cy a x.2 J K X) := by
  unfold f_X0_moveGroup_B91 at h
  refine r_iload C0 dX0_moveGroup_91 5 rfl ?_
  refine r_iload C0 dX0_moveGroup_93 3 rfl ?_
  refine r_mabs (y := 0) C0 dX0_moveGroup_95 tm_X0_134 (Nat.le_of_ble_eq_true rfl) (Nat.le_of_ble_eq_true rfl) ?_
  refine r_icmp_ge C0 200 dX0_moveGroup_98 rfl h (fun _ h => ?_) (fun _ h => ?_)
  · obtain ⟨y5, h5, h9⟩ := op_bind h
    clear h
    cases h9
    have hz := (el_inr hz)
    have h := h5
    refine r_iload C0 dX0_moveGroup_200 3 rfl ?_
    refine r_mabs (y := 0) C0 dX0_moveGroup_202 tm_X0_134 (Nat.le_of_ble_eq_true rfl) (Nat.le_of_ble_eq_true rfl) ?_
    cases h
    exact hz _ _ dX0_moveGroup_205
  · refine r_aload_n C0 dX0_moveGroup_101 rfl 0 rfl ?_
    refine r_iload_n C0 dX0_moveGroup_102 rfl 1 rfl ?_
    refine r_iload_n C0 dX0_moveGroup_103 rfl 2 rfl ?_
    refine r_iload C0 dX0_moveGroup_104 4 rfl ?_
    refine callV3 C0 h (hD _ _ _) mw_X0_whyStop rv_8 tm_X0_139 (fun y hy => c_X0_whyStop hy) (Nat.le_of_ble_eq_true rfl) (Nat.le_of_ble_eq_true rfl) dX0_moveGroup_106 (fun r6 h => ?_)
    refine r_istore (lv2 := [(7, .int r6.1), (0, .ref (a 8)), (1, .int v1), (2, .int v2), (4, .int v4), (5, .int v5), (6, .int x.1)]) C0 dX0_moveGroup_109 rfl (Nat.le_of_ble_eq_true rfl) rfl ?_
    refine r_iload C0 dX0_moveGroup_111 0 rfl ?_
    refine r_if_ne C0 130 dX0_moveGroup_113 rfl h (fun _ h => ?_) (fun _ h => ?_)
    · exact r_sub [1, 2, 3, 4, 5, 6, 0] rfl (w_X0_moveGroup_j130 C0 hD h hz)
    · refine r_aload_n C0 dX0_moveGroup_116 rfl 1 rfl ?_
      refine r_iload_n C0 dX0_moveGroup_117 rfl 2 rfl ?_
      refine r_iload_n C0 dX0_moveGroup_118 rfl 3 rfl ?_
      refine r_iload C0 dX0_moveGroup_119 5 rfl ?_
      refine callV3 C0 h (hD _ _ _) mw_X0_willClash rv_8 tm_X0_143 (fun y hy => c_X0_willClash hy) (Nat.le_of_ble_eq_true rfl) (Nat.le_of_ble_eq_true rfl) dX0_moveGroup_121 (fun r15 h => ?_)
      refine r_if_eq C0 130 dX0_moveGroup_124 rfl h (fun _ h => ?_) (fun _ h => ?_)
      · exact r_sub [1, 2, 3, 4, 5, 6, 0] rfl (w_X0_moveGroup_j130 C0 hD h hz)
      · refine r_iconst C0 dX0_moveGroup_127 ki_4 ?_
        obtain ⟨a16, h8, h⟩ := op_bind h
        have e8 := Option.some.inj h8
        refine r_istore (lv2 := [(7, .int a16), (0, .ref (a 8)), (1, .int v1), (2, .int v2), (4, .int v4), (5, .int v5), (6, .int x.1)]) C0 dX0_moveGroup_128 e8 (Nat.le_of_ble_eq_true rfl) rfl ?_
        exact r_sub [1, 2, 3, 4, 5, 6, 0] rfl (w_X0_moveGroup_j130 C0 hD h hz)
theorem w_X0_moveGroup_B91_lp {x : Int32 × VT} {z : (Int32 × VT)} {Γ : Gam} {cy : Nat → ClassId} {a : Nat → Nat} {J : JT} {K : Nat → Option Nat} {X : va_W} {v1 : Int32} {v2 : Int32} {v4 : Int32} {v5 : Int32}  (C0 : CXg Γ cX0_moveGroup 9 3 RX0 cy) (hD : DC Γ cy a X) (h : lp (f_X0_moveGroup_B91 v1 v2 v4 v5) fuel x = some z) (hz : (fun y : Int32 × VT => FinI Γ cX0_moveGroup (WC cy a y.2 J K X) y.1) z) : Wp Γ 0 0 91 [(0, .ref (a 8)), (1, .int v1), (2, .int v2), (4, .int v4), (5, .int v5), (6, .int x.1)] [] (WC cy a x.2 J K X) :=
  lp_rule (hd := (fun x : Int32 × VT => Wp Γ 0 0 91 [(0, .ref (a 8)), (1, .int v1), (2, .int v2), (4, .int v4), (5, .int v5), (6, .int x.1)] [] (WC cy a x.2 J K X))) (C := (fun y : Int32 × VT => FinI Γ cX0_moveGroup (WC cy a y.2 J K X) y.1)) (fun x z h hz => w_X0_moveGroup_B91 C0 hD h hz) _ _ _ h hz
theorem w_X0_moveGroup_j86 {z : (Int32 × VT)} {Γ : Gam} {cy : Nat → ClassId} {a : Nat → Nat} {V : VT} {J : JT} {K : Nat → Option Nat} {X : va_W} {v1 : Int32} {v2 : Int32} {v4 : Int32} {s0 : Int32}  (C0 : CXg Γ cX0_moveGroup 9 3 RX0 cy) (hD : DC Γ cy a X) (h : f_X0_moveGroup_j86 v1 v2 v4 s0 V = some z) (hz : (fun y : Int32 × VT => FinI Γ cX0_moveGroup (WC cy a y.2 J K X) y.1) z) : Wp Γ 0 0 86 [(0, .ref (a 8)), (1, .int v1), (2, .int v2), (4, .int v4)] [.int s0] (WC cy a V J K X) := by
  unfold f_X0_moveGroup_j86 at h
  refine r_istore (lv2 := [(5, .int s0), (0, .ref (a 8)), (1, .int v1), (2, .int v2), (4, .int v4)]) C0 dX0_moveGroup_86 rfl (Nat.le_of_ble_eq_true rfl) rfl ?_
  refine r_iconst C0 dX0_moveGroup_88 ki_0 ?_
  obtain ⟨a4, h8, h⟩ := op_bind h
  have e8 := Option.some.inj h8
  refine r_istore (lv2 := [(6, .int a4), (5, .int s0), (0, .ref (a 8)), (1, .int v1), (2, .int v2), (4, .int v4)]) C0 dX0_moveGroup_89 e8 (Nat.le_of_ble_eq_true rfl) rfl ?_
  exact r_sub [2, 3, 4, 5, 1, 0] rfl (w_X0_moveGroup_B91_lp C0 hD h hz)
theorem w_X0_moveGroup_j54 {z : (Int32 × VT)} {Γ : Gam} {cy : Nat → ClassId} {a : Nat → Nat} {V : VT} {J : JT} {K : Nat → Option Nat} {X : va_W} {v1 : Int32} {v2 : Int32} {v3 : Int32}  (C0 : CXg Γ cX0_moveGroup 9 3 RX0 cy) (hD : DC Γ cy a X) (h : f_X0_moveGroup_j54 v1 v2 v3 V = some z) (hz : (fun y : Int32 × VT => FinI Γ cX0_moveGroup (WC cy a y.2 J K X) y.1) z) : Wp Γ 0 0 54 [(0, .ref (a 8)), (1, .int v1), (2, .int v2), (3, .int v3)] [] (WC cy a V J K X) := by
  unfold f_X0_moveGroup_j54 at h
  refine r_iload_n C0 dX0_moveGroup_54 rfl 3 rfl ?_
  refine r_ldc C0 tk_X0_25 dX0_moveGroup_55 ?_
  refine r_icmp_ne C0 62 dX0_moveGroup_57 rfl h (fun _ h => ?_) (fun _ h => ?_)
  · refine r_aload_n C0 dX0_moveGroup_62 rfl 0 rfl ?_
    refine wcg_8_0 C0 tf_X0_36 dX0_moveGroup_63 ?_
    refine wcg_3_5 C0 tf_X0_79 dX0_moveGroup_66 ?_
    refine r_iload_n C0 dX0_moveGroup_69 rfl 3 rfl ?_
    refine r_iconst C0 dX0_moveGroup_70 ki_1 ?_
    refine callV2 C0 h (hD _ _ _) mw_X7_get (rv_t tb_15) tm_X0_69 (fun y hy => c_X7_get tb_15 hy) (Nat.le_of_ble_eq_true rfl) (Nat.le_of_ble_eq_true rfl) dX0_moveGroup_71 (fun r3 h => ?_)
    refine r_istore (lv2 := [(4, .int r3), (0, .ref (a 8)), (1, .int v1), (2, .int v2), (3, .int v3)]) C0 dX0_moveGroup_74 rfl (Nat.le_of_ble_eq_true rfl) rfl ?_
    refine r_iload C0 dX0_moveGroup_76 0 rfl ?_
    refine r_if_ge C0 85 dX0_moveGroup_78 rfl h (fun _ h => ?_) (fun _ h => ?_)
    · refine r_iconst C0 dX0_moveGroup_85 ki_1 ?_
      exact r_sub [1, 2, 3, 0] rfl (w_X0_moveGroup_j86 C0 hD h hz)
    · refine r_iconst C0 dX0_moveGroup_81 ki_m1 ?_
      refine r_goto C0 86 dX0_moveGroup_82 rfl ?_
      exact r_sub [1, 2, 3, 0] rfl (w_X0_moveGroup_j86 C0 hD h hz)
  · refine r_iconst C0 dX0_moveGroup_60 ki_0 ?_
    cases h
    exact hz _ _ dX0_moveGroup_61
theorem w_X0_moveGroup_j47 {z : ((Int32 × Int32) ⊕ (Int32 × VT))} {Γ : Gam} {cy : Nat → ClassId} {a : Nat → Nat} {V : VT} {J : JT} {K : Nat → Option Nat} {X : va_W} {v1 : Int32} {v2 : Int32} {v4 : Int32} {s0 : Int32}  (C0 : CXg Γ cX0_moveGroup 9 3 RX0 cy) (hD : DC Γ cy a X) (h : f_X0_moveGroup_j47 v1 v2 v4 s0 V = some z) (hz : (Sum.elim (fun x : Int32 × Int32 => Wp Γ 0 0 6 [(0, .ref (a 8)), (1, .int v1), (2, .int v2), (3, .int x.1), (4, .int x.2)] [] (WC cy a V J K X)) (fun y : Int32 × VT => FinI Γ cX0_moveGroup (WC cy a y.2 J K X) y.1)) z) : Wp Γ 0 0 47 [(0, .ref (a 8)), (1, .int v1), (2, .int v2), (4, .int v4)] [.int s0] (WC cy a V J K X) := by
  unfold f_X0_moveGroup_j47 at h
  refine r_istore_n (lv2 := [(3, .int s0), (0, .ref (a 8)), (1, .int v1), (2, .int v2), (4, .int v4)]) C0 dX0_moveGroup_47 rfl rfl (Nat.le_of_ble_eq_true rfl) rfl ?_
  obtain ⟨a20, h8, h⟩ := op_bind h
  have e8 := Option.some.inj h8
  refine r_iinc (lv2 := [(4, .int a20), (3, .int s0), (0, .ref (a 8)), (1, .int v1), (2, .int v2)]) C0 dX0_moveGroup_48 4 rfl ki_m1 e8 (Nat.le_of_ble_eq_true rfl) rfl ?_
  refine r_goto C0 6 dX0_moveGroup_51 rfl ?_
  cases h
  have hz := el_inl hz
  exact r_sub [2, 3, 4, 1, 0] rfl hz
theorem w_X0_moveGroup_B6 {x : Int32 × Int32} {z : ((Int32 × Int32) ⊕ (Int32 × VT))} {Γ : Gam} {cy : Nat → ClassId} {a : Nat → Nat} {V : VT} {J : JT} {K : Nat → Option Nat} {X : va_W} {v1 : Int32} {v2 : Int32}  (C0 : CXg Γ cX0_moveGroup 9 3 RX0 cy) (hD : DC Γ cy a X) (h : f_X0_moveGroup_B6 v1 v2 V x = some z) (hz : (Sum.elim (fun x : Int32 × Int32 => Wp Γ 0 0 6 [(0, .ref (a 8)), (1, .int v1), (2, .int v2), (3, .int x.1), (4, .int x.2)] [] (WC cy a V J K X)) (fun y : Int32 × VT => FinI Γ cX0_moveGroup (WC cy a y.2 J K X) y.1)) z) : Wp Γ 0 0 6 [(0, .ref (a 8)), (1, .int v1), (2, .int v2), (3, .int x.1), (4, .int x.2)] [] (WC cy a V J K X) := by
  unfold f_X0_moveGroup_B6 at h
  refine r_iload C0 dX0_moveGroup_6 4 rfl ?_
  refine r_iload_n C0 dX0_moveGroup_8 rfl 1 rfl ?_
  refine r_icmp_lt C0 54 dX0_moveGroup_9 rfl h (fun _ h => ?_) (fun _ h => ?_)
  · obtain ⟨y2, h5, h9⟩ := op_bind h
    clear h
    cases h9
    have hz := (el_inr hz)
    have h := h5
    exact r_sub [0, 1, 2, 3] rfl (w_X0_moveGroup_j54 C0 hD h hz)
  · refine r_iload C0 dX0_moveGroup_12 4 rfl ?_
    refine r_if_lt C0 54 dX0_moveGroup_14 rfl h (fun _ h => ?_) (fun _ h => ?_)
    · obtain ⟨y17, h5, h9⟩ := op_bind h
      clear h
      cases h9
      have hz := (el_inr hz)
      have h := h5
      exact r_sub [0, 1, 2, 3] rfl (w_X0_moveGroup_j54 C0 hD h hz)
    · refine r_iload C0 dX0_moveGroup_17 4 rfl ?_
      refine r_bipush C0 dX0_moveGroup_19 kb_12 ?_
      refine r_icmp_ge C0 54 dX0_moveGroup_21 rfl h (fun _ h => ?_) (fun _ h => ?_)
      · obtain ⟨y18, h5, h9⟩ := op_bind h
        clear h
        cases h9
        have hz := (el_inr hz)
        have h := h5
        exact r_sub [0, 1, 2, 3] rfl (w_X0_moveGroup_j54 C0 hD h hz)
      · refine r_aload_n C0 dX0_moveGroup_24 rfl 0 rfl ?_
        refine wcg_8_7 C0 tf_X0_21 dX0_moveGroup_25 ?_
        refine r_iload C0 dX0_moveGroup_28 4 rfl ?_
        refine wcal_29 C0 h dX0_moveGroup_30 (fun k19 h => ?_)
        refine r_ldc C0 tk_X0_25 dX0_moveGroup_31 ?_
        refine r_icmp_eq C0 46 dX0_moveGroup_33 rfl h (fun _ h => ?_) (fun _ h => ?_)
        · refine r_iload_n C0 dX0_moveGroup_46 rfl 3 rfl ?_
          exact r_sub [0, 1, 2, 4] rfl (w_X0_moveGroup_j47 C0 hD h hz)
        · refine r_aload_n C0 dX0_moveGroup_36 rfl 0 rfl ?_
          refine wcg_8_7 C0 tf_X0_21 dX0_moveGroup_37 ?_
          refine r_iload C0 dX0_moveGroup_40 4 rfl ?_
          refine wcal_29 C0 h dX0_moveGroup_42 (fun k21 h => ?_)
          refine r_goto C0 47 dX0_moveGroup_43 rfl ?_
          exact r_sub [0, 1, 2, 4] rfl (w_X0_moveGroup_j47 C0 hD h hz)
theorem w_X0_moveGroup_B6_lp {x : Int32 × Int32} {z : (Int32 × VT)} {Γ : Gam} {cy : Nat → ClassId} {a : Nat → Nat} {V : VT} {J : JT} {K : Nat → Option Nat} {X : va_W} {v1 : Int32} {v2 : Int32}  (C0 : CXg Γ cX0_moveGroup 9 3 RX0 cy) (hD : DC Γ cy a X) (h : lp (f_X0_moveGroup_B6 v1 v2 V) fuel x = some z) (hz : (fun y : Int32 × VT => FinI Γ cX0_moveGroup (WC cy a y.2 J K X) y.1) z) : Wp Γ 0 0 6 [(0, .ref (a 8)), (1, .int v1), (2, .int v2), (3, .int x.1), (4, .int x.2)] [] (WC cy a V J K X) :=
  lp_rule (hd := (fun x : Int32 × Int32 => Wp Γ 0 0 6 [(0, .ref (a 8)), (1, .int v1), (2, .int v2), (3, .int x.1), (4, .int x.2)] [] (WC cy a V J K X))) (C := (fun y : Int32 × VT => FinI Γ cX0_moveGroup (WC cy a y.2 J K X) y.1)) (fun x z h hz => w_X0_moveGroup_B6 C0 hD h hz) _ _ _ h hz
theorem w_X0_moveGroup {z : Int32 × VT} {Γ : Gam} {cy : Nat → ClassId} {a : Nat → Nat} {V : VT} {J : JT} {K : Nat → Option Nat} {X : va_W} {v1 : Int32} {v2 : Int32}  (C0 : CXg Γ cX0_moveGroup 9 3 RX0 cy) (hD : DC Γ cy a X) (h : f_X0_moveGroup v1 v2 V = some z) (hz : (fun y : Int32 × VT => FinI Γ cX0_moveGroup (WC cy a y.2 J K X) y.1) z) : Wp Γ 0 0 0 [(0, .ref (a 8)), (1, .int v1), (2, .int v2)] [] (WC cy a V J K X) := by
  unfold f_X0_moveGroup at h
  refine r_ldc C0 tk_X0_25 dX0_moveGroup_0 ?_
  obtain ⟨a1, h8, h⟩ := op_bind h
  have e8 := Option.some.inj h8
  refine r_istore_n (lv2 := [(3, .int a1), (0, .ref (a 8)), (1, .int v1), (2, .int v2)]) C0 dX0_moveGroup_2 rfl e8 (Nat.le_of_ble_eq_true rfl) rfl ?_
  refine r_iload_n C0 dX0_moveGroup_3 rfl 3 rfl ?_
  refine r_istore (lv2 := [(4, .int v2), (3, .int a1), (0, .ref (a 8)), (1, .int v1), (2, .int v2)]) C0 dX0_moveGroup_4 rfl (Nat.le_of_ble_eq_true rfl) rfl ?_
  exact r_sub [2, 3, 4, 1, 0] rfl (w_X0_moveGroup_B6_lp C0 hD h hz)
theorem c_X0_moveGroup {l : Launch} {D : va_G} {cy : Nat → ClassId} {a : Nat → Nat} {V : VT} {J : JT} {K : Nat → Option Nat} {X : va_W} {v1 : Int32} {v2 : Int32} {y : Int32 × VT} (h : f_X0_moveGroup v1 v2 V = some y) : CT l D cy yX0_moveGroup cX0_moveGroup 9 (some .int) 3 [.ref (a 8), .int v1, .int v2] (WC cy a V J K X) (WC cy a y.2 J K X) (some (.int y.1)) :=
  mkI (by decide) (Nat.le_of_ble_eq_true rfl) (fun Γ _ _ C0 hD hF => w_X0_moveGroup C0 (dc_of hD) h hF)
theorem dX0_runTick_0 : decode cX0_runTick 0 = .ok (.aload_n 0, 1) := by decide +kernel
theorem dX0_runTick_1 : decode cX0_runTick 1 = .ok (.invokevirtual 116, 3) := by decide +kernel
theorem dX0_runTick_4 : decode cX0_runTick 4 = .ok (.iconst 0, 1) := by decide +kernel
theorem dX0_runTick_5 : decode cX0_runTick 5 = .ok (.istore_n 1, 1) := by decide +kernel
theorem dX0_runTick_6 : decode cX0_runTick 6 = .ok (.iconst 0, 1) := by decide +kernel
theorem dX0_runTick_7 : decode cX0_runTick 7 = .ok (.istore_n 2, 1) := by decide +kernel
theorem dX0_runTick_8 : decode cX0_runTick 8 = .ok (.iconst 0, 1) := by decide +kernel
theorem dX0_runTick_9 : decode cX0_runTick 9 = .ok (.istore_n 3, 1) := by decide +kernel
theorem dX0_runTick_10 : decode cX0_runTick 10 = .ok (.iload_n 3, 1) := by decide +kernel
theorem dX0_runTick_11 : decode cX0_runTick 11 = .ok (.bipush 12, 2) := by decide +kernel
theorem dX0_runTick_13 : decode cX0_runTick 13 = .ok (.if_icmp .ge 39, 3) := by decide +kernel
theorem dX0_runTick_16 : decode cX0_runTick 16 = .ok (.iload_n 3, 1) := by decide +kernel
theorem dX0_runTick_17 : decode cX0_runTick 17 = .ok (.bipush 11, 2) := by decide +kernel
theorem dX0_runTick_19 : decode cX0_runTick 19 = .ok (.if_icmp .eq 14, 3) := by decide +kernel
theorem dX0_runTick_22 : decode cX0_runTick 22 = .ok (.aload_n 0, 1) := by decide +kernel
theorem dX0_runTick_23 : decode cX0_runTick 23 = .ok (.getfield 9, 3) := by decide +kernel
theorem dX0_runTick_26 : decode cX0_runTick 26 = .ok (.iload_n 3, 1) := by decide +kernel
theorem dX0_runTick_27 : decode cX0_runTick 27 = .ok (.iconst 1, 1) := by decide +kernel
theorem dX0_runTick_28 : decode cX0_runTick 28 = .ok (.iadd, 1) := by decide +kernel
theorem dX0_runTick_29 : decode cX0_runTick 29 = .ok (.baload, 1) := by decide +kernel
theorem dX0_runTick_30 : decode cX0_runTick 30 = .ok (.ifCond .ne 16, 3) := by decide +kernel
theorem dX0_runTick_33 : decode cX0_runTick 33 = .ok (.iload_n 1, 1) := by decide +kernel
theorem dX0_runTick_34 : decode cX0_runTick 34 = .ok (.aload_n 0, 1) := by decide +kernel
theorem dX0_runTick_35 : decode cX0_runTick 35 = .ok (.iload_n 2, 1) := by decide +kernel
theorem dX0_runTick_36 : decode cX0_runTick 36 = .ok (.iload_n 3, 1) := by decide +kernel
theorem dX0_runTick_37 : decode cX0_runTick 37 = .ok (.invokevirtual 119, 3) := by decide +kernel
theorem dX0_runTick_40 : decode cX0_runTick 40 = .ok (.iadd, 1) := by decide +kernel
theorem dX0_runTick_41 : decode cX0_runTick 41 = .ok (.istore_n 1, 1) := by decide +kernel
theorem dX0_runTick_42 : decode cX0_runTick 42 = .ok (.iload_n 3, 1) := by decide +kernel
theorem dX0_runTick_43 : decode cX0_runTick 43 = .ok (.iconst 1, 1) := by decide +kernel
theorem dX0_runTick_44 : decode cX0_runTick 44 = .ok (.iadd, 1) := by decide +kernel
theorem dX0_runTick_45 : decode cX0_runTick 45 = .ok (.istore_n 2, 1) := by decide +kernel
theorem dX0_runTick_46 : decode cX0_runTick 46 = .ok (.iinc 3 1, 3) := by decide +kernel
theorem dX0_runTick_49 : decode cX0_runTick 49 = .ok (.goto (-39), 3) := by decide +kernel
theorem dX0_runTick_52 : decode cX0_runTick 52 = .ok (.aload_n 0, 1) := by decide +kernel
theorem dX0_runTick_53 : decode cX0_runTick 53 = .ok (.getfield 36, 3) := by decide +kernel
theorem dX0_runTick_56 : decode cX0_runTick 56 = .ok (.getfield 63, 3) := by decide +kernel
theorem dX0_runTick_59 : decode cX0_runTick 59 = .ok (.iconst 0, 1) := by decide +kernel
theorem dX0_runTick_60 : decode cX0_runTick 60 = .ok (.iconst 5, 1) := by decide +kernel
theorem dX0_runTick_61 : decode cX0_runTick 61 = .ok (.aload_n 0, 1) := by decide +kernel
theorem dX0_runTick_62 : decode cX0_runTick 62 = .ok (.getfield 36, 3) := by decide +kernel
theorem dX0_runTick_65 : decode cX0_runTick 65 = .ok (.invokevirtual 122, 3) := by decide +kernel
theorem dX0_runTick_68 : decode cX0_runTick 68 = .ok (.iconst 1, 1) := by decide +kernel
theorem dX0_runTick_69 : decode cX0_runTick 69 = .ok (.iadd, 1) := by decide +kernel
theorem dX0_runTick_70 : decode cX0_runTick 70 = .ok (.invokevirtual 75, 3) := by decide +kernel
theorem dX0_runTick_73 : decode cX0_runTick 73 = .ok (.iload_n 1, 1) := by decide +kernel
theorem dX0_runTick_74 : decode cX0_runTick 74 = .ok (.ireturn, 1) := by decide +kernel
theorem w_X0_runTick_j46 {z : ((Int32 × Int32 × Int32 × VT) ⊕ (Int32 × VT))} {Γ : Gam} {cy : Nat → ClassId} {a : Nat → Nat} {V : VT} {J : JT} {K : Nat → Option Nat} {X : va_W} {v1 : Int32} {v2 : Int32} {v3 : Int32}  (C0 : CXg Γ cX0_runTick 4 4 RX0 cy) (hD : DC Γ cy a X) (h : f_X0_runTick_j46 v1 v2 v3 V = some z) (hz : (Sum.elim (fun x : Int32 × Int32 × Int32 × VT => Wp Γ 0 0 10 [(0, .ref (a 8)), (1, .int x.1), (2, .int x.2.1), (3, .int x.2.2.1)] [] (WC cy a x.2.2.2 J K X)) (fun y : Int32 × VT => FinI Γ cX0_runTick (WC cy a y.2 J K X) y.1)) z) : Wp Γ 0 0 46 [(0, .ref (a 8)), (1, .int v1), (2, .int v2), (3, .int v3)] [] (WC cy a V J K X) := by
  unfold f_X0_runTick_j46 at h
  obtain ⟨a11, h8, h⟩ := op_bind h
  have e8 := Option.some.inj h8
  refine r_iinc (lv2 := [(3, .int a11), (0, .ref (a 8)), (1, .int v1), (2, .int v2)]) C0 dX0_runTick_46 3 rfl ki_1 e8 (Nat.le_of_ble_eq_true rfl) rfl ?_
  refine r_goto C0 10 dX0_runTick_49 rfl ?_
  cases h
  have hz := el_inl hz
  exact r_sub [1, 2, 3, 0] rfl hz
theorem w_X0_runTick_j33 {z : ((Int32 × Int32 × Int32 × VT) ⊕ (Int32 × VT))} {Γ : Gam} {cy : Nat → ClassId} {a : Nat → Nat} {V : VT} {J : JT} {K : Nat → Option Nat} {X : va_W} {v1 : Int32} {v2 : Int32} {v3 : Int32}  (C0 : CXg Γ cX0_runTick 4 4 RX0 cy) (hD : DC Γ cy a X) (h : f_X0_runTick_j33 v1 v2 v3 V = some z) (hz : (Sum.elim (fun x : Int32 × Int32 × Int32 × VT => Wp Γ 0 0 10 [(0, .ref (a 8)), (1, .int x.1), (2, .int x.2.1), (3, .int x.2.2.1)] [] (WC cy a x.2.2.2 J K X)) (fun y : Int32 × VT => FinI Γ cX0_runTick (WC cy a y.2 J K X) y.1)) z) : Wp Γ 0 0 33 [(0, .ref (a 8)), (1, .int v1), (2, .int v2), (3, .int v3)] [] (WC cy a V J K X) := by
  unfold f_X0_runTick_j33 at h
  refine r_iload_n C0 dX0_runTick_33 rfl 1 rfl ?_
  refine r_aload_n C0 dX0_runTick_34 rfl 0 rfl ?_
  refine r_iload_n C0 dX0_runTick_35 rfl 2 rfl ?_
  refine r_iload_n C0 dX0_runTick_36 rfl 3 rfl ?_
  refine callV2 C0 h (hD _ _ _) mw_X0_moveGroup rv_8 tm_X0_119 (fun y hy => c_X0_moveGroup hy) (Nat.le_of_ble_eq_true rfl) (Nat.le_of_ble_eq_true rfl) dX0_runTick_37 (fun r8 h => ?_)
  refine r_iadd C0 dX0_runTick_40 ?_
  obtain ⟨a9, h8, h⟩ := op_bind h
  have e8 := Option.some.inj h8
  refine r_istore_n (lv2 := [(1, .int a9), (0, .ref (a 8)), (2, .int v2), (3, .int v3)]) C0 dX0_runTick_41 rfl e8 (Nat.le_of_ble_eq_true rfl) rfl ?_
  refine r_iload_n C0 dX0_runTick_42 rfl 3 rfl ?_
  refine r_iconst C0 dX0_runTick_43 ki_1 ?_
  refine r_iadd C0 dX0_runTick_44 ?_
  obtain ⟨a10, h8, h⟩ := op_bind h
  have e8 := Option.some.inj h8
  refine r_istore_n (lv2 := [(2, .int a10), (1, .int a9), (0, .ref (a 8)), (3, .int v3)]) C0 dX0_runTick_45 rfl e8 (Nat.le_of_ble_eq_true rfl) rfl ?_
  exact r_sub [2, 1, 0, 3] rfl (w_X0_runTick_j46 C0 hD h hz)
theorem w_X0_runTick_B10 {x : Int32 × Int32 × Int32 × VT} {z : ((Int32 × Int32 × Int32 × VT) ⊕ (Int32 × VT))} {Γ : Gam} {cy : Nat → ClassId} {a : Nat → Nat} {J : JT} {K : Nat → Option Nat} {X : va_W}  (C0 : CXg Γ cX0_runTick 4 4 RX0 cy) (hD : DC Γ cy a X) (h : f_X0_runTick_B10 x = some z) (hz : (Sum.elim (fun x : Int32 × Int32 × Int32 × VT => Wp Γ 0 0 10 [(0, .ref (a 8)), (1, .int x.1), (2, .int x.2.1), (3, .int x.2.2.1)] [] (WC cy a x.2.2.2 J K X)) (fun y : Int32 × VT => FinI Γ cX0_runTick (WC cy a y.2 J K X) y.1)) z) : Wp Γ 0 0 10 [(0, .ref (a 8)), (1, .int x.1), (2, .int x.2.1), (3, .int x.2.2.1)] [] (WC cy a x.2.2.2 J K X) := by
  unfold f_X0_runTick_B10 at h
  refine r_iload_n C0 dX0_runTick_10 rfl 3 rfl ?_
  refine r_bipush C0 dX0_runTick_11 kb_12 ?_
  refine r_icmp_ge C0 52 dX0_runTick_13 rfl h (fun _ h => ?_) (fun _ h => ?_)
  · obtain ⟨y5, h5, h9⟩ := op_bind h
    clear h
    cases h9
    have hz := (el_inr hz)
    have h := h5
    refine r_aload_n C0 dX0_runTick_52 rfl 0 rfl ?_
    refine wcg_8_0 C0 tf_X0_36 dX0_runTick_53 ?_
    refine wcg_3_7 C0 tf_X0_63 dX0_runTick_56 ?_
    refine r_iconst C0 dX0_runTick_59 ki_0 ?_
    refine r_iconst C0 dX0_runTick_60 ki_5 ?_
    refine r_aload_n C0 dX0_runTick_61 rfl 0 rfl ?_
    refine wcg_8_0 C0 tf_X0_36 dX0_runTick_62 ?_
    refine callV0 C0 h (hD _ _ _) mw_X3_time rv_3 tm_X0_122 (fun y hy => c_X3_time hy) (Nat.le_of_ble_eq_true rfl) (Nat.le_of_ble_eq_true rfl) dX0_runTick_65 (fun r6 h => ?_)
    refine r_iconst C0 dX0_runTick_68 ki_1 ?_
    refine r_iadd C0 dX0_runTick_69 ?_
    refine callVv3 C0 h (hD _ _ _) mw_X7_set (rv_t tb_17) tm_X0_75 (fun y hy => c_X7_set tb_17 hy) (Nat.le_of_ble_eq_true rfl) (Nat.le_of_ble_eq_true rfl) dX0_runTick_70 (fun r7 h => ?_)
    refine r_iload_n C0 dX0_runTick_73 rfl 1 rfl ?_
    cases h
    exact hz _ _ dX0_runTick_74
  · refine r_iload_n C0 dX0_runTick_16 rfl 3 rfl ?_
    refine r_bipush C0 dX0_runTick_17 kb_11 ?_
    refine r_icmp_eq C0 33 dX0_runTick_19 rfl h (fun _ h => ?_) (fun _ h => ?_)
    · exact r_sub [0, 1, 2, 3] rfl (w_X0_runTick_j33 C0 hD h hz)
    · refine r_aload_n C0 dX0_runTick_22 rfl 0 rfl ?_
      refine wcg_8_4 C0 tf_X0_9 dX0_runTick_23 ?_
      refine r_iload_n C0 dX0_runTick_26 rfl 3 rfl ?_
      refine r_iconst C0 dX0_runTick_27 ki_1 ?_
      refine r_iadd C0 dX0_runTick_28 ?_
      refine wcal_26 C0 h dX0_runTick_29 (fun k12 h => ?_)
      refine r_if_ne C0 46 dX0_runTick_30 rfl h (fun _ h => ?_) (fun _ h => ?_)
      · exact r_sub [0, 1, 2, 3] rfl (w_X0_runTick_j46 C0 hD h hz)
      · exact r_sub [0, 1, 2, 3] rfl (w_X0_runTick_j33 C0 hD h hz)
theorem w_X0_runTick_B10_lp {x : Int32 × Int32 × Int32 × VT} {z : (Int32 × VT)} {Γ : Gam} {cy : Nat → ClassId} {a : Nat → Nat} {J : JT} {K : Nat → Option Nat} {X : va_W}  (C0 : CXg Γ cX0_runTick 4 4 RX0 cy) (hD : DC Γ cy a X) (h : lp (f_X0_runTick_B10) fuel x = some z) (hz : (fun y : Int32 × VT => FinI Γ cX0_runTick (WC cy a y.2 J K X) y.1) z) : Wp Γ 0 0 10 [(0, .ref (a 8)), (1, .int x.1), (2, .int x.2.1), (3, .int x.2.2.1)] [] (WC cy a x.2.2.2 J K X) :=
  lp_rule (hd := (fun x : Int32 × Int32 × Int32 × VT => Wp Γ 0 0 10 [(0, .ref (a 8)), (1, .int x.1), (2, .int x.2.1), (3, .int x.2.2.1)] [] (WC cy a x.2.2.2 J K X))) (C := (fun y : Int32 × VT => FinI Γ cX0_runTick (WC cy a y.2 J K X) y.1)) (fun x z h hz => w_X0_runTick_B10 C0 hD h hz) _ _ _ h hz
theorem w_X0_runTick {z : Int32 × VT} {Γ : Gam} {cy : Nat → ClassId} {a : Nat → Nat} {V : VT} {J : JT} {K : Nat → Option Nat} {X : va_W}  (C0 : CXg Γ cX0_runTick 4 4 RX0 cy) (hD : DC Γ cy a X) (h : f_X0_runTick V = some z) (hz : (fun y : Int32 × VT => FinI Γ cX0_runTick (WC cy a y.2 J K X) y.1) z) : Wp Γ 0 0 0 [(0, .ref (a 8))] [] (WC cy a V J K X) := by
  unfold f_X0_runTick at h
  refine r_aload_n C0 dX0_runTick_0 rfl 0 rfl ?_
  refine callVv0 C0 h (hD _ _ _) mw_X0_findDeciding rv_8 tm_X0_116 (fun y hy => c_X0_findDeciding hy) (Nat.le_of_ble_eq_true rfl) (Nat.le_of_ble_eq_true rfl) dX0_runTick_1 (fun r1 h => ?_)
  refine r_iconst C0 dX0_runTick_4 ki_0 ?_
  obtain ⟨a2, h8, h⟩ := op_bind h
  have e8 := Option.some.inj h8
  refine r_istore_n (lv2 := [(1, .int a2), (0, .ref (a 8))]) C0 dX0_runTick_5 rfl e8 (Nat.le_of_ble_eq_true rfl) rfl ?_
  refine r_iconst C0 dX0_runTick_6 ki_0 ?_
  obtain ⟨a3, h8, h⟩ := op_bind h
  have e8 := Option.some.inj h8
  refine r_istore_n (lv2 := [(2, .int a3), (1, .int a2), (0, .ref (a 8))]) C0 dX0_runTick_7 rfl e8 (Nat.le_of_ble_eq_true rfl) rfl ?_
  refine r_iconst C0 dX0_runTick_8 ki_0 ?_
  obtain ⟨a4, h8, h⟩ := op_bind h
  have e8 := Option.some.inj h8
  refine r_istore_n (lv2 := [(3, .int a4), (2, .int a3), (1, .int a2), (0, .ref (a 8))]) C0 dX0_runTick_9 rfl e8 (Nat.le_of_ble_eq_true rfl) rfl ?_
  exact r_sub [3, 2, 1, 0] rfl (w_X0_runTick_B10_lp C0 hD h hz)
theorem c_X0_runTick {l : Launch} {D : va_G} {cy : Nat → ClassId} {a : Nat → Nat} {V : VT} {J : JT} {K : Nat → Option Nat} {X : va_W} {y : Int32 × VT} (h : f_X0_runTick V = some y) : CT l D cy yX0_runTick cX0_runTick 4 (some .int) 4 [.ref (a 8)] (WC cy a V J K X) (WC cy a y.2 J K X) (some (.int y.1)) :=
  mkI (by decide) (Nat.le_of_ble_eq_true rfl) (fun Γ _ _ C0 hD hF => w_X0_runTick C0 (dc_of hD) h hF)
theorem dX0_runTicks_0 : decode cX0_runTicks 0 = .ok (.iload_n 1, 1) := by decide +kernel
theorem dX0_runTicks_1 : decode cX0_runTicks 1 = .ok (.iconst 1, 1) := by decide +kernel
theorem dX0_runTicks_2 : decode cX0_runTicks 2 = .ok (.if_icmp .lt 9, 3) := by decide +kernel
theorem dX0_runTicks_5 : decode cX0_runTicks 5 = .ok (.iload_n 1, 1) := by decide +kernel
theorem dX0_runTicks_6 : decode cX0_runTicks 6 = .ok (.bipush 100, 2) := by decide +kernel
theorem dX0_runTicks_8 : decode cX0_runTicks 8 = .ok (.if_icmp .le 13, 3) := by decide +kernel
theorem dX0_runTicks_11 : decode cX0_runTicks 11 = .ok (.aload_n 0, 1) := by decide +kernel
theorem dX0_runTicks_12 : decode cX0_runTicks 12 = .ok (.getfield 48, 3) := by decide +kernel
theorem dX0_runTicks_15 : decode cX0_runTicks 15 = .ok (.bipush 7, 2) := by decide +kernel
theorem dX0_runTicks_17 : decode cX0_runTicks 17 = .ok (.invokevirtual 59, 3) := by decide +kernel
theorem dX0_runTicks_20 : decode cX0_runTicks 20 = .ok (.ireturn, 1) := by decide +kernel
theorem dX0_runTicks_21 : decode cX0_runTicks 21 = .ok (.aload_n 0, 1) := by decide +kernel
theorem dX0_runTicks_22 : decode cX0_runTicks 22 = .ok (.invokevirtual 86, 3) := by decide +kernel
theorem dX0_runTicks_25 : decode cX0_runTicks 25 = .ok (.iconst 0, 1) := by decide +kernel
theorem dX0_runTicks_26 : decode cX0_runTicks 26 = .ok (.istore_n 2, 1) := by decide +kernel
theorem dX0_runTicks_27 : decode cX0_runTicks 27 = .ok (.iconst 0, 1) := by decide +kernel
theorem dX0_runTicks_28 : decode cX0_runTicks 28 = .ok (.istore_n 3, 1) := by decide +kernel
theorem dX0_runTicks_29 : decode cX0_runTicks 29 = .ok (.iload_n 3, 1) := by decide +kernel
theorem dX0_runTicks_30 : decode cX0_runTicks 30 = .ok (.iload_n 1, 1) := by decide +kernel
theorem dX0_runTicks_31 : decode cX0_runTicks 31 = .ok (.if_icmp .ge 16, 3) := by decide +kernel
theorem dX0_runTicks_34 : decode cX0_runTicks 34 = .ok (.iload_n 2, 1) := by decide +kernel
theorem dX0_runTicks_35 : decode cX0_runTicks 35 = .ok (.aload_n 0, 1) := by decide +kernel
theorem dX0_runTicks_36 : decode cX0_runTicks 36 = .ok (.invokevirtual 89, 3) := by decide +kernel
theorem dX0_runTicks_39 : decode cX0_runTicks 39 = .ok (.iadd, 1) := by decide +kernel
theorem dX0_runTicks_40 : decode cX0_runTicks 40 = .ok (.istore_n 2, 1) := by decide +kernel
theorem dX0_runTicks_41 : decode cX0_runTicks 41 = .ok (.iinc 3 1, 3) := by decide +kernel
theorem dX0_runTicks_44 : decode cX0_runTicks 44 = .ok (.goto (-15), 3) := by decide +kernel
theorem dX0_runTicks_47 : decode cX0_runTicks 47 = .ok (.aload_n 0, 1) := by decide +kernel
theorem dX0_runTicks_48 : decode cX0_runTicks 48 = .ok (.getfield 36, 3) := by decide +kernel
theorem dX0_runTicks_51 : decode cX0_runTicks 51 = .ok (.getfield 63, 3) := by decide +kernel
theorem dX0_runTicks_54 : decode cX0_runTicks 54 = .ok (.iconst 0, 1) := by decide +kernel
theorem dX0_runTicks_55 : decode cX0_runTicks 55 = .ok (.iconst 4, 1) := by decide +kernel
theorem dX0_runTicks_56 : decode cX0_runTicks 56 = .ok (.aload_n 0, 1) := by decide +kernel
theorem dX0_runTicks_57 : decode cX0_runTicks 57 = .ok (.getfield 36, 3) := by decide +kernel
theorem dX0_runTicks_60 : decode cX0_runTicks 60 = .ok (.getfield 63, 3) := by decide +kernel
theorem dX0_runTicks_63 : decode cX0_runTicks 63 = .ok (.iconst 0, 1) := by decide +kernel
theorem dX0_runTicks_64 : decode cX0_runTicks 64 = .ok (.iconst 4, 1) := by decide +kernel
theorem dX0_runTicks_65 : decode cX0_runTicks 65 = .ok (.invokevirtual 69, 3) := by decide +kernel
theorem dX0_runTicks_68 : decode cX0_runTicks 68 = .ok (.iload_n 2, 1) := by decide +kernel
theorem dX0_runTicks_69 : decode cX0_runTicks 69 = .ok (.iadd, 1) := by decide +kernel
theorem dX0_runTicks_70 : decode cX0_runTicks 70 = .ok (.invokevirtual 75, 3) := by decide +kernel
theorem dX0_runTicks_73 : decode cX0_runTicks 73 = .ok (.iload_n 2, 1) := by decide +kernel
theorem dX0_runTicks_74 : decode cX0_runTicks 74 = .ok (.ireturn, 1) := by decide +kernel
theorem w_X0_runTicks_j11 {z : (Int32 × VT × JT)} {Γ : Gam} {cy : Nat → ClassId} {a : Nat → Nat} {V : VT} {J : JT} {K : Nat → Option Nat} {X : va_W}  (C0 : CXg Γ cX0_runTicks 4 5 RX0 cy) (hD : DC Γ cy a X) (h : f_X0_runTicks_j11 V J = some z) (hz : (fun y : Int32 × VT × JT => FinI Γ cX0_runTicks (WC cy a y.2.1 y.2.2 K X) y.1) z) : Wp Γ 0 0 11 [(0, .ref (a 8))] [] (WC cy a V J K X) := by
  unfold f_X0_runTicks_j11 at h
  refine r_aload_n C0 dX0_runTicks_11 rfl 0 rfl ?_
  refine wcg_8_3 C0 tf_X0_48 dX0_runTicks_12 ?_
  refine r_bipush C0 dX0_runTicks_15 kb_7 ?_
  refine callV1 C0 h (hD _ _ _) mw_X9_refuse rv_2 tm_X0_59 (fun y hy => c_X9_refuse hy) (Nat.le_of_ble_eq_true rfl) (Nat.le_of_ble_eq_true rfl) dX0_runTicks_17 (fun r1 h => ?_)
  cases h
  exact hz _ _ dX0_runTicks_20
theorem w_X0_runTicks_B29 {x : Int32 × Int32 × VT} {z : ((Int32 × Int32 × VT) ⊕ (Int32 × VT × JT))} {Γ : Gam} {cy : Nat → ClassId} {a : Nat → Nat} {J : JT} {K : Nat → Option Nat} {X : va_W} {v1 : Int32}  (C0 : CXg Γ cX0_runTicks 4 5 RX0 cy) (hD : DC Γ cy a X) (h : f_X0_runTicks_B29 v1 J x = some z) (hz : (Sum.elim (fun x : Int32 × Int32 × VT => Wp Γ 0 0 29 [(0, .ref (a 8)), (1, .int v1), (2, .int x.1), (3, .int x.2.1)] [] (WC cy a x.2.2 J K X)) (fun y : Int32 × VT × JT => FinI Γ cX0_runTicks (WC cy a y.2.1 y.2.2 K X) y.1)) z) : Wp Γ 0 0 29 [(0, .ref (a 8)), (1, .int v1), (2, .int x.1), (3, .int x.2.1)] [] (WC cy a x.2.2 J K X) := by
  unfold f_X0_runTicks_B29 at h
  refine r_iload_n C0 dX0_runTicks_29 rfl 3 rfl ?_
  refine r_iload_n C0 dX0_runTicks_30 rfl 1 rfl ?_
  refine r_icmp_ge C0 47 dX0_runTicks_31 rfl h (fun _ h => ?_) (fun _ h => ?_)
  · obtain ⟨y5, h5, h9⟩ := op_bind h
    clear h
    cases h9
    have hz := (el_inr hz)
    have h := h5
    refine r_aload_n C0 dX0_runTicks_47 rfl 0 rfl ?_
    refine wcg_8_0 C0 tf_X0_36 dX0_runTicks_48 ?_
    refine wcg_3_7 C0 tf_X0_63 dX0_runTicks_51 ?_
    refine r_iconst C0 dX0_runTicks_54 ki_0 ?_
    refine r_iconst C0 dX0_runTicks_55 ki_4 ?_
    refine r_aload_n C0 dX0_runTicks_56 rfl 0 rfl ?_
    refine wcg_8_0 C0 tf_X0_36 dX0_runTicks_57 ?_
    refine wcg_3_7 C0 tf_X0_63 dX0_runTicks_60 ?_
    refine r_iconst C0 dX0_runTicks_63 ki_0 ?_
    refine r_iconst C0 dX0_runTicks_64 ki_4 ?_
    refine callV2 C0 h (hD _ _ _) mw_X7_get (rv_t tb_17) tm_X0_69 (fun y hy => c_X7_get tb_17 hy) (Nat.le_of_ble_eq_true rfl) (Nat.le_of_ble_eq_true rfl) dX0_runTicks_65 (fun r6 h => ?_)
    refine r_iload_n C0 dX0_runTicks_68 rfl 2 rfl ?_
    refine r_iadd C0 dX0_runTicks_69 ?_
    refine callVv3 C0 h (hD _ _ _) mw_X7_set (rv_t tb_17) tm_X0_75 (fun y hy => c_X7_set tb_17 hy) (Nat.le_of_ble_eq_true rfl) (Nat.le_of_ble_eq_true rfl) dX0_runTicks_70 (fun r7 h => ?_)
    refine r_iload_n C0 dX0_runTicks_73 rfl 2 rfl ?_
    cases h
    exact hz _ _ dX0_runTicks_74
  · refine r_iload_n C0 dX0_runTicks_34 rfl 2 rfl ?_
    refine r_aload_n C0 dX0_runTicks_35 rfl 0 rfl ?_
    refine callV0 C0 h (hD _ _ _) mw_X0_runTick rv_8 tm_X0_89 (fun y hy => c_X0_runTick hy) (Nat.le_of_ble_eq_true rfl) (Nat.le_of_ble_eq_true rfl) dX0_runTicks_36 (fun r8 h => ?_)
    refine r_iadd C0 dX0_runTicks_39 ?_
    obtain ⟨a9, h8, h⟩ := op_bind h
    have e8 := Option.some.inj h8
    refine r_istore_n (lv2 := [(2, .int a9), (0, .ref (a 8)), (1, .int v1), (3, .int x.2.1)]) C0 dX0_runTicks_40 rfl e8 (Nat.le_of_ble_eq_true rfl) rfl ?_
    obtain ⟨a10, h8, h⟩ := op_bind h
    have e8 := Option.some.inj h8
    refine r_iinc (lv2 := [(3, .int a10), (2, .int a9), (0, .ref (a 8)), (1, .int v1)]) C0 dX0_runTicks_41 3 rfl ki_1 e8 (Nat.le_of_ble_eq_true rfl) rfl ?_
    refine r_goto C0 29 dX0_runTicks_44 rfl ?_
    cases h
    have hz := el_inl hz
    exact r_sub [2, 3, 1, 0] rfl hz
theorem w_X0_runTicks_B29_lp {x : Int32 × Int32 × VT} {z : (Int32 × VT × JT)} {Γ : Gam} {cy : Nat → ClassId} {a : Nat → Nat} {J : JT} {K : Nat → Option Nat} {X : va_W} {v1 : Int32}  (C0 : CXg Γ cX0_runTicks 4 5 RX0 cy) (hD : DC Γ cy a X) (h : lp (f_X0_runTicks_B29 v1 J) fuel x = some z) (hz : (fun y : Int32 × VT × JT => FinI Γ cX0_runTicks (WC cy a y.2.1 y.2.2 K X) y.1) z) : Wp Γ 0 0 29 [(0, .ref (a 8)), (1, .int v1), (2, .int x.1), (3, .int x.2.1)] [] (WC cy a x.2.2 J K X) :=
  lp_rule (hd := (fun x : Int32 × Int32 × VT => Wp Γ 0 0 29 [(0, .ref (a 8)), (1, .int v1), (2, .int x.1), (3, .int x.2.1)] [] (WC cy a x.2.2 J K X))) (C := (fun y : Int32 × VT × JT => FinI Γ cX0_runTicks (WC cy a y.2.1 y.2.2 K X) y.1)) (fun x z h hz => w_X0_runTicks_B29 C0 hD h hz) _ _ _ h hz
theorem w_X0_runTicks {z : Int32 × VT × JT} {Γ : Gam} {cy : Nat → ClassId} {a : Nat → Nat} {V : VT} {J : JT} {K : Nat → Option Nat} {X : va_W} {v1 : Int32}  (C0 : CXg Γ cX0_runTicks 4 5 RX0 cy) (hD : DC Γ cy a X) (h : f_X0_runTicks v1 V J = some z) (hz : (fun y : Int32 × VT × JT => FinI Γ cX0_runTicks (WC cy a y.2.1 y.2.2 K X) y.1) z) : Wp Γ 0 0 0 [(0, .ref (a 8)), (1, .int v1)] [] (WC cy a V J K X) := by
  unfold f_X0_runTicks at h
  refine r_iload_n C0 dX0_runTicks_0 rfl 1 rfl ?_
  refine r_iconst C0 dX0_runTicks_1 ki_1 ?_
  refine r_icmp_lt C0 11 dX0_runTicks_2 rfl h (fun _ h => ?_) (fun _ h => ?_)
  · exact r_sub [0] rfl (w_X0_runTicks_j11 C0 hD h hz)
  · refine r_iload_n C0 dX0_runTicks_5 rfl 1 rfl ?_
    refine r_bipush C0 dX0_runTicks_6 kb_100 ?_
    refine r_icmp_le C0 21 dX0_runTicks_8 rfl h (fun _ h => ?_) (fun _ h => ?_)
    · refine r_aload_n C0 dX0_runTicks_21 rfl 0 rfl ?_
      refine callVv0 C0 h (hD _ _ _) mw_X0_lookAtBars rv_8 tm_X0_86 (fun y hy => c_X0_lookAtBars hy) (Nat.le_of_ble_eq_true rfl) (Nat.le_of_ble_eq_true rfl) dX0_runTicks_22 (fun r2 h => ?_)
      refine r_iconst C0 dX0_runTicks_25 ki_0 ?_
      obtain ⟨a3, h8, h⟩ := op_bind h
      have e8 := Option.some.inj h8
      refine r_istore_n (lv2 := [(2, .int a3), (0, .ref (a 8)), (1, .int v1)]) C0 dX0_runTicks_26 rfl e8 (Nat.le_of_ble_eq_true rfl) rfl ?_
      refine r_iconst C0 dX0_runTicks_27 ki_0 ?_
      obtain ⟨a4, h8, h⟩ := op_bind h
      have e8 := Option.some.inj h8
      refine r_istore_n (lv2 := [(3, .int a4), (2, .int a3), (0, .ref (a 8)), (1, .int v1)]) C0 dX0_runTicks_28 rfl e8 (Nat.le_of_ble_eq_true rfl) rfl ?_
      exact r_sub [2, 3, 1, 0] rfl (w_X0_runTicks_B29_lp C0 hD h hz)
    · exact r_sub [0] rfl (w_X0_runTicks_j11 C0 hD h hz)
theorem c_X0_runTicks {l : Launch} {D : va_G} {cy : Nat → ClassId} {a : Nat → Nat} {V : VT} {J : JT} {K : Nat → Option Nat} {X : va_W} {v1 : Int32} {y : Int32 × VT × JT} (h : f_X0_runTicks v1 V J = some y) : CT l D cy yX0_runTicks cX0_runTicks 4 (some .int) 5 [.ref (a 8), .int v1] (WC cy a V J K X) (WC cy a y.2.1 y.2.2 K X) (some (.int y.1)) :=
  mkI (by decide) (Nat.le_of_ble_eq_true rfl) (fun Γ _ _ C0 hD hF => w_X0_runTicks C0 (dc_of hD) h hF)
theorem dX3_isBarCued_0 : decode cX3_isBarCued 0 = .ok (.aload_n 0, 1) := by decide +kernel
theorem dX3_isBarCued_1 : decode cX3_isBarCued 1 = .ok (.getfield 39, 3) := by decide +kernel
theorem dX3_isBarCued_4 : decode cX3_isBarCued 4 = .ok (.iconst 0, 1) := by decide +kernel
theorem dX3_isBarCued_5 : decode cX3_isBarCued 5 = .ok (.iconst 2, 1) := by decide +kernel
theorem dX3_isBarCued_6 : decode cX3_isBarCued 6 = .ok (.invokevirtual 42, 3) := by decide +kernel
theorem dX3_isBarCued_9 : decode cX3_isBarCued 9 = .ok (.istore_n 2, 1) := by decide +kernel
theorem dX3_isBarCued_10 : decode cX3_isBarCued 10 = .ok (.iconst 0, 1) := by decide +kernel
theorem dX3_isBarCued_11 : decode cX3_isBarCued 11 = .ok (.istore_n 3, 1) := by decide +kernel
theorem dX3_isBarCued_12 : decode cX3_isBarCued 12 = .ok (.iload_n 3, 1) := by decide +kernel
theorem dX3_isBarCued_13 : decode cX3_isBarCued 13 = .ok (.iload_n 2, 1) := by decide +kernel
theorem dX3_isBarCued_14 : decode cX3_isBarCued 14 = .ok (.if_icmp .ge 20, 3) := by decide +kernel
theorem dX3_isBarCued_17 : decode cX3_isBarCued 17 = .ok (.aload_n 0, 1) := by decide +kernel
theorem dX3_isBarCued_18 : decode cX3_isBarCued 18 = .ok (.iload_n 3, 1) := by decide +kernel
theorem dX3_isBarCued_19 : decode cX3_isBarCued 19 = .ok (.iload_n 1, 1) := by decide +kernel
theorem dX3_isBarCued_20 : decode cX3_isBarCued 20 = .ok (.invokevirtual 66, 3) := by decide +kernel
theorem dX3_isBarCued_23 : decode cX3_isBarCued 23 = .ok (.ifCond .eq 5, 3) := by decide +kernel
theorem dX3_isBarCued_26 : decode cX3_isBarCued 26 = .ok (.iconst 1, 1) := by decide +kernel
theorem dX3_isBarCued_27 : decode cX3_isBarCued 27 = .ok (.ireturn, 1) := by decide +kernel
theorem dX3_isBarCued_28 : decode cX3_isBarCued 28 = .ok (.iinc 3 1, 3) := by decide +kernel
theorem dX3_isBarCued_31 : decode cX3_isBarCued 31 = .ok (.goto (-19), 3) := by decide +kernel
theorem dX3_isBarCued_34 : decode cX3_isBarCued 34 = .ok (.iconst 0, 1) := by decide +kernel
theorem dX3_isBarCued_35 : decode cX3_isBarCued 35 = .ok (.ireturn, 1) := by decide +kernel
theorem w_X3_isBarCued_B12 {x : Int32} {z : ((Int32) ⊕ (Int32))} {Γ : Gam} {cy : Nat → ClassId} {a : Nat → Nat} {V : VT} {J : JT} {K : Nat → Option Nat} {X : va_W} {v1 : Int32} {v2 : Int32}  (C0 : CXg Γ cX3_isBarCued 4 3 RX3 cy) (hD : DC Γ cy a X) (h : f_X3_isBarCued_B12 v1 v2 V x = some z) (hz : (Sum.elim (fun x : Int32 => Wp Γ 0 0 12 [(0, .ref (a 3)), (1, .int v1), (2, .int v2), (3, .int x)] [] (WC cy a V J K X)) (fun y : Int32 => FinZ Γ cX3_isBarCued (WC cy a V J K X) y)) z) : Wp Γ 0 0 12 [(0, .ref (a 3)), (1, .int v1), (2, .int v2), (3, .int x)] [] (WC cy a V J K X) := by
  unfold f_X3_isBarCued_B12 at h
  refine r_iload_n C0 dX3_isBarCued_12 rfl 3 rfl ?_
  refine r_iload_n C0 dX3_isBarCued_13 rfl 2 rfl ?_
  refine r_icmp_ge C0 34 dX3_isBarCued_14 rfl h (fun _ h => ?_) (fun _ h => ?_)
  · obtain ⟨y3, h5, h9⟩ := op_bind h
    clear h
    cases h9
    have hz := (el_inr hz)
    have h := h5
    refine r_iconst C0 dX3_isBarCued_34 ki_0 ?_
    cases h
    exact hz _ _ nz_0 dX3_isBarCued_35
  · refine r_aload_n C0 dX3_isBarCued_17 rfl 0 rfl ?_
    refine r_iload_n C0 dX3_isBarCued_18 rfl 3 rfl ?_
    refine r_iload_n C0 dX3_isBarCued_19 rfl 1 rfl ?_
    refine callV2 C0 h (hD _ _ _) mw_X3_isPendingCue rv_3 tm_X3_66 (fun y hy => c_X3_isPendingCue hy) (Nat.le_of_ble_eq_true rfl) (Nat.le_of_ble_eq_true rfl) dX3_isBarCued_20 (fun r4 h => ?_)
    refine r_if_eq C0 28 dX3_isBarCued_23 rfl h (fun _ h => ?_) (fun _ h => ?_)
    · obtain ⟨a5, h8, h⟩ := op_bind h
      have e8 := Option.some.inj h8
      refine r_iinc (lv2 := [(3, .int a5), (0, .ref (a 3)), (1, .int v1), (2, .int v2)]) C0 dX3_isBarCued_28 3 rfl ki_1 e8 (Nat.le_of_ble_eq_true rfl) rfl ?_
      refine r_goto C0 12 dX3_isBarCued_31 rfl ?_
      cases h
      have hz := el_inl hz
      exact r_sub [1, 2, 3, 0] rfl hz
    · obtain ⟨y6, h5, h9⟩ := op_bind h
      clear h
      cases h9
      have hz := (el_inr hz)
      have h := h5
      refine r_iconst C0 dX3_isBarCued_26 ki_1 ?_
      cases h
      exact hz _ _ nz_1 dX3_isBarCued_27
theorem w_X3_isBarCued_B12_lp {x : Int32} {z : (Int32)} {Γ : Gam} {cy : Nat → ClassId} {a : Nat → Nat} {V : VT} {J : JT} {K : Nat → Option Nat} {X : va_W} {v1 : Int32} {v2 : Int32}  (C0 : CXg Γ cX3_isBarCued 4 3 RX3 cy) (hD : DC Γ cy a X) (h : lp (f_X3_isBarCued_B12 v1 v2 V) fuel x = some z) (hz : (fun y : Int32 => FinZ Γ cX3_isBarCued (WC cy a V J K X) y) z) : Wp Γ 0 0 12 [(0, .ref (a 3)), (1, .int v1), (2, .int v2), (3, .int x)] [] (WC cy a V J K X) :=
  lp_rule (hd := (fun x : Int32 => Wp Γ 0 0 12 [(0, .ref (a 3)), (1, .int v1), (2, .int v2), (3, .int x)] [] (WC cy a V J K X))) (C := (fun y : Int32 => FinZ Γ cX3_isBarCued (WC cy a V J K X) y)) (fun x z h hz => w_X3_isBarCued_B12 C0 hD h hz) _ _ _ h hz
theorem w_X3_isBarCued {z : Int32} {Γ : Gam} {cy : Nat → ClassId} {a : Nat → Nat} {V : VT} {J : JT} {K : Nat → Option Nat} {X : va_W} {v1 : Int32}  (C0 : CXg Γ cX3_isBarCued 4 3 RX3 cy) (hD : DC Γ cy a X) (h : f_X3_isBarCued v1 V = some z) (hz : (fun y : Int32 => FinZ Γ cX3_isBarCued (WC cy a V J K X) y) z) : Wp Γ 0 0 0 [(0, .ref (a 3)), (1, .int v1)] [] (WC cy a V J K X) := by
  unfold f_X3_isBarCued at h
  refine r_aload_n C0 dX3_isBarCued_0 rfl 0 rfl ?_
  refine wcg_3_7 C0 tf_X3_39 dX3_isBarCued_1 ?_
  refine r_iconst C0 dX3_isBarCued_4 ki_0 ?_
  refine r_iconst C0 dX3_isBarCued_5 ki_2 ?_
  refine callV2 C0 h (hD _ _ _) mw_X7_get (rv_t tb_17) tm_X3_42 (fun y hy => c_X7_get tb_17 hy) (Nat.le_of_ble_eq_true rfl) (Nat.le_of_ble_eq_true rfl) dX3_isBarCued_6 (fun r1 h => ?_)
  refine r_istore_n (lv2 := [(2, .int r1), (0, .ref (a 3)), (1, .int v1)]) C0 dX3_isBarCued_9 rfl rfl (Nat.le_of_ble_eq_true rfl) rfl ?_
  refine r_iconst C0 dX3_isBarCued_10 ki_0 ?_
  obtain ⟨a2, h8, h⟩ := op_bind h
  have e8 := Option.some.inj h8
  refine r_istore_n (lv2 := [(3, .int a2), (2, .int r1), (0, .ref (a 3)), (1, .int v1)]) C0 dX3_isBarCued_11 rfl e8 (Nat.le_of_ble_eq_true rfl) rfl ?_
  exact r_sub [2, 3, 1, 0] rfl (w_X3_isBarCued_B12_lp C0 hD h hz)
theorem c_X3_isBarCued {l : Launch} {D : va_G} {cy : Nat → ClassId} {a : Nat → Nat} {V : VT} {J : JT} {K : Nat → Option Nat} {X : va_W} {v1 : Int32} {y : Int32} (h : f_X3_isBarCued v1 V = some y) : CT l D cy yX3_isBarCued cX3_isBarCued 4 (some .boolean) 3 [.ref (a 3), .int v1] (WC cy a V J K X) (WC cy a V J K X) (some (.int y)) :=
  mkZ (by decide) (Nat.le_of_ble_eq_true rfl) (fun Γ _ _ C0 hD hF => w_X3_isBarCued C0 (dc_of hD) h hF)
theorem dX5_lastOfGroup_0 : decode cX5_lastOfGroup 0 = .ok (.iload_n 1, 1) := by decide +kernel
theorem dX5_lastOfGroup_1 : decode cX5_lastOfGroup 1 = .ok (.istore_n 2, 1) := by decide +kernel
theorem dX5_lastOfGroup_2 : decode cX5_lastOfGroup 2 = .ok (.iload_n 2, 1) := by decide +kernel
theorem dX5_lastOfGroup_3 : decode cX5_lastOfGroup 3 = .ok (.bipush 11, 2) := by decide +kernel
theorem dX5_lastOfGroup_5 : decode cX5_lastOfGroup 5 = .ok (.if_icmp .ge 19, 3) := by decide +kernel
theorem dX5_lastOfGroup_8 : decode cX5_lastOfGroup 8 = .ok (.aload_n 0, 1) := by decide +kernel
theorem dX5_lastOfGroup_9 : decode cX5_lastOfGroup 9 = .ok (.iload_n 2, 1) := by decide +kernel
theorem dX5_lastOfGroup_10 : decode cX5_lastOfGroup 10 = .ok (.iconst 1, 1) := by decide +kernel
theorem dX5_lastOfGroup_11 : decode cX5_lastOfGroup 11 = .ok (.iadd, 1) := by decide +kernel
theorem dX5_lastOfGroup_12 : decode cX5_lastOfGroup 12 = .ok (.invokevirtual 59, 3) := by decide +kernel
theorem dX5_lastOfGroup_15 : decode cX5_lastOfGroup 15 = .ok (.ifCond .eq 9, 3) := by decide +kernel
theorem dX5_lastOfGroup_18 : decode cX5_lastOfGroup 18 = .ok (.iinc 2 1, 3) := by decide +kernel
theorem dX5_lastOfGroup_21 : decode cX5_lastOfGroup 21 = .ok (.goto (-19), 3) := by decide +kernel
theorem dX5_lastOfGroup_24 : decode cX5_lastOfGroup 24 = .ok (.iload_n 2, 1) := by decide +kernel
theorem dX5_lastOfGroup_25 : decode cX5_lastOfGroup 25 = .ok (.ireturn, 1) := by decide +kernel
theorem w_X5_lastOfGroup_B2 {x : Int32} {z : ((Int32) ⊕ (Int32))} {Γ : Gam} {cy : Nat → ClassId} {a : Nat → Nat} {V : VT} {J : JT} {K : Nat → Option Nat} {X : va_W}  (C0 : CXg Γ cX5_lastOfGroup 3 2 RX5 cy) (hD : DC Γ cy a X) (h : f_X5_lastOfGroup_B2 V x = some z) (hz : (Sum.elim (fun x : Int32 => Wp Γ 0 0 2 [(0, .ref (a 5)), (2, .int x)] [] (WC cy a V J K X)) (fun y : Int32 => FinI Γ cX5_lastOfGroup (WC cy a V J K X) y)) z) : Wp Γ 0 0 2 [(0, .ref (a 5)), (2, .int x)] [] (WC cy a V J K X) := by
  unfold f_X5_lastOfGroup_B2 at h
  refine r_iload_n C0 dX5_lastOfGroup_2 rfl 1 rfl ?_
  refine r_bipush C0 dX5_lastOfGroup_3 kb_11 ?_
  refine r_icmp_ge C0 24 dX5_lastOfGroup_5 rfl h (fun _ h => ?_) (fun _ h => ?_)
  · obtain ⟨y1, h5, h9⟩ := op_bind h
    clear h
    cases h9
    have hz := (el_inr hz)
    have h := h5
    refine r_iload_n C0 dX5_lastOfGroup_24 rfl 1 rfl ?_
    cases h
    exact hz _ _ dX5_lastOfGroup_25
  · refine r_aload_n C0 dX5_lastOfGroup_8 rfl 0 rfl ?_
    refine r_iload_n C0 dX5_lastOfGroup_9 rfl 1 rfl ?_
    refine r_iconst C0 dX5_lastOfGroup_10 ki_1 ?_
    refine r_iadd C0 dX5_lastOfGroup_11 ?_
    refine callV1 C0 h (hD _ _ _) mw_X5_isTiedDown rv_5 tm_X5_59 (fun y hy => c_X5_isTiedDown hy) (Nat.le_of_ble_eq_true rfl) (Nat.le_of_ble_eq_true rfl) dX5_lastOfGroup_12 (fun r2 h => ?_)
    refine r_if_eq C0 24 dX5_lastOfGroup_15 rfl h (fun _ h => ?_) (fun _ h => ?_)
    · obtain ⟨y3, h5, h9⟩ := op_bind h
      clear h
      cases h9
      have hz := (el_inr hz)
      have h := h5
      refine r_iload_n C0 dX5_lastOfGroup_24 rfl 1 rfl ?_
      cases h
      exact hz _ _ dX5_lastOfGroup_25
    · obtain ⟨a4, h8, h⟩ := op_bind h
      have e8 := Option.some.inj h8
      refine r_iinc (lv2 := [(2, .int a4), (0, .ref (a 5))]) C0 dX5_lastOfGroup_18 1 rfl ki_1 e8 (Nat.le_of_ble_eq_true rfl) rfl ?_
      refine r_goto C0 2 dX5_lastOfGroup_21 rfl ?_
      cases h
      have hz := el_inl hz
      exact r_sub [1, 0] rfl hz
theorem w_X5_lastOfGroup_B2_lp {x : Int32} {z : (Int32)} {Γ : Gam} {cy : Nat → ClassId} {a : Nat → Nat} {V : VT} {J : JT} {K : Nat → Option Nat} {X : va_W}  (C0 : CXg Γ cX5_lastOfGroup 3 2 RX5 cy) (hD : DC Γ cy a X) (h : lp (f_X5_lastOfGroup_B2 V) fuel x = some z) (hz : (fun y : Int32 => FinI Γ cX5_lastOfGroup (WC cy a V J K X) y) z) : Wp Γ 0 0 2 [(0, .ref (a 5)), (2, .int x)] [] (WC cy a V J K X) :=
  lp_rule (hd := (fun x : Int32 => Wp Γ 0 0 2 [(0, .ref (a 5)), (2, .int x)] [] (WC cy a V J K X))) (C := (fun y : Int32 => FinI Γ cX5_lastOfGroup (WC cy a V J K X) y)) (fun x z h hz => w_X5_lastOfGroup_B2 C0 hD h hz) _ _ _ h hz
theorem w_X5_lastOfGroup {z : Int32} {Γ : Gam} {cy : Nat → ClassId} {a : Nat → Nat} {V : VT} {J : JT} {K : Nat → Option Nat} {X : va_W} {v1 : Int32}  (C0 : CXg Γ cX5_lastOfGroup 3 2 RX5 cy) (hD : DC Γ cy a X) (h : f_X5_lastOfGroup v1 V = some z) (hz : (fun y : Int32 => FinI Γ cX5_lastOfGroup (WC cy a V J K X) y) z) : Wp Γ 0 0 0 [(0, .ref (a 5)), (1, .int v1)] [] (WC cy a V J K X) := by
  unfold f_X5_lastOfGroup at h
  refine r_iload_n C0 dX5_lastOfGroup_0 rfl 1 rfl ?_
  refine r_istore_n (lv2 := [(2, .int v1), (0, .ref (a 5)), (1, .int v1)]) C0 dX5_lastOfGroup_1 rfl rfl (Nat.le_of_ble_eq_true rfl) rfl ?_
  exact r_sub [1, 0] rfl (w_X5_lastOfGroup_B2_lp C0 hD h hz)
theorem c_X5_lastOfGroup {l : Launch} {D : va_G} {cy : Nat → ClassId} {a : Nat → Nat} {V : VT} {J : JT} {K : Nat → Option Nat} {X : va_W} {v1 : Int32} {y : Int32} (h : f_X5_lastOfGroup v1 V = some y) : CT l D cy yX5_lastOfGroup cX5_lastOfGroup 3 (some .int) 2 [.ref (a 5), .int v1] (WC cy a V J K X) (WC cy a V J K X) (some (.int y)) :=
  mkI (by decide) (Nat.le_of_ble_eq_true rfl) (fun Γ _ _ C0 hD hF => w_X5_lastOfGroup C0 (dc_of hD) h hF)
theorem dX5_leastOfGroup_0 : decode cX5_leastOfGroup 0 = .ok (.iload_n 1, 1) := by decide +kernel
theorem dX5_leastOfGroup_1 : decode cX5_leastOfGroup 1 = .ok (.istore_n 2, 1) := by decide +kernel
theorem dX5_leastOfGroup_2 : decode cX5_leastOfGroup 2 = .ok (.iload_n 2, 1) := by decide +kernel
theorem dX5_leastOfGroup_3 : decode cX5_leastOfGroup 3 = .ok (.ifCond .le 17, 3) := by decide +kernel
theorem dX5_leastOfGroup_6 : decode cX5_leastOfGroup 6 = .ok (.aload_n 0, 1) := by decide +kernel
theorem dX5_leastOfGroup_7 : decode cX5_leastOfGroup 7 = .ok (.iload_n 2, 1) := by decide +kernel
theorem dX5_leastOfGroup_8 : decode cX5_leastOfGroup 8 = .ok (.invokevirtual 59, 3) := by decide +kernel
theorem dX5_leastOfGroup_11 : decode cX5_leastOfGroup 11 = .ok (.ifCond .eq 9, 3) := by decide +kernel
theorem dX5_leastOfGroup_14 : decode cX5_leastOfGroup 14 = .ok (.iinc 2 (-1), 3) := by decide +kernel
theorem dX5_leastOfGroup_17 : decode cX5_leastOfGroup 17 = .ok (.goto (-15), 3) := by decide +kernel
theorem dX5_leastOfGroup_20 : decode cX5_leastOfGroup 20 = .ok (.iload_n 2, 1) := by decide +kernel
theorem dX5_leastOfGroup_21 : decode cX5_leastOfGroup 21 = .ok (.ireturn, 1) := by decide +kernel
theorem w_X5_leastOfGroup_B2 {x : Int32} {z : ((Int32) ⊕ (Int32))} {Γ : Gam} {cy : Nat → ClassId} {a : Nat → Nat} {V : VT} {J : JT} {K : Nat → Option Nat} {X : va_W}  (C0 : CXg Γ cX5_leastOfGroup 3 2 RX5 cy) (hD : DC Γ cy a X) (h : f_X5_leastOfGroup_B2 V x = some z) (hz : (Sum.elim (fun x : Int32 => Wp Γ 0 0 2 [(0, .ref (a 5)), (2, .int x)] [] (WC cy a V J K X)) (fun y : Int32 => FinI Γ cX5_leastOfGroup (WC cy a V J K X) y)) z) : Wp Γ 0 0 2 [(0, .ref (a 5)), (2, .int x)] [] (WC cy a V J K X) := by
  unfold f_X5_leastOfGroup_B2 at h
  refine r_iload_n C0 dX5_leastOfGroup_2 rfl 1 rfl ?_
  refine r_if_le C0 20 dX5_leastOfGroup_3 rfl h (fun _ h => ?_) (fun _ h => ?_)
  · obtain ⟨y1, h5, h9⟩ := op_bind h
    clear h
    cases h9
    have hz := (el_inr hz)
    have h := h5
    refine r_iload_n C0 dX5_leastOfGroup_20 rfl 1 rfl ?_
    cases h
    exact hz _ _ dX5_leastOfGroup_21
  · refine r_aload_n C0 dX5_leastOfGroup_6 rfl 0 rfl ?_
    refine r_iload_n C0 dX5_leastOfGroup_7 rfl 1 rfl ?_
    refine callV1 C0 h (hD _ _ _) mw_X5_isTiedDown rv_5 tm_X5_59 (fun y hy => c_X5_isTiedDown hy) (Nat.le_of_ble_eq_true rfl) (Nat.le_of_ble_eq_true rfl) dX5_leastOfGroup_8 (fun r2 h => ?_)
    refine r_if_eq C0 20 dX5_leastOfGroup_11 rfl h (fun _ h => ?_) (fun _ h => ?_)
    · obtain ⟨y3, h5, h9⟩ := op_bind h
      clear h
      cases h9
      have hz := (el_inr hz)
      have h := h5
      refine r_iload_n C0 dX5_leastOfGroup_20 rfl 1 rfl ?_
      cases h
      exact hz _ _ dX5_leastOfGroup_21
    · obtain ⟨a4, h8, h⟩ := op_bind h
      have e8 := Option.some.inj h8
      refine r_iinc (lv2 := [(2, .int a4), (0, .ref (a 5))]) C0 dX5_leastOfGroup_14 1 rfl ki_m1 e8 (Nat.le_of_ble_eq_true rfl) rfl ?_
      refine r_goto C0 2 dX5_leastOfGroup_17 rfl ?_
      cases h
      have hz := el_inl hz
      exact r_sub [1, 0] rfl hz
theorem w_X5_leastOfGroup_B2_lp {x : Int32} {z : (Int32)} {Γ : Gam} {cy : Nat → ClassId} {a : Nat → Nat} {V : VT} {J : JT} {K : Nat → Option Nat} {X : va_W}  (C0 : CXg Γ cX5_leastOfGroup 3 2 RX5 cy) (hD : DC Γ cy a X) (h : lp (f_X5_leastOfGroup_B2 V) fuel x = some z) (hz : (fun y : Int32 => FinI Γ cX5_leastOfGroup (WC cy a V J K X) y) z) : Wp Γ 0 0 2 [(0, .ref (a 5)), (2, .int x)] [] (WC cy a V J K X) :=
  lp_rule (hd := (fun x : Int32 => Wp Γ 0 0 2 [(0, .ref (a 5)), (2, .int x)] [] (WC cy a V J K X))) (C := (fun y : Int32 => FinI Γ cX5_leastOfGroup (WC cy a V J K X) y)) (fun x z h hz => w_X5_leastOfGroup_B2 C0 hD h hz) _ _ _ h hz
theorem w_X5_leastOfGroup {z : Int32} {Γ : Gam} {cy : Nat → ClassId} {a : Nat → Nat} {V : VT} {J : JT} {K : Nat → Option Nat} {X : va_W} {v1 : Int32}  (C0 : CXg Γ cX5_leastOfGroup 3 2 RX5 cy) (hD : DC Γ cy a X) (h : f_X5_leastOfGroup v1 V = some z) (hz : (fun y : Int32 => FinI Γ cX5_leastOfGroup (WC cy a V J K X) y) z) : Wp Γ 0 0 0 [(0, .ref (a 5)), (1, .int v1)] [] (WC cy a V J K X) := by
  unfold f_X5_leastOfGroup at h
  refine r_iload_n C0 dX5_leastOfGroup_0 rfl 1 rfl ?_
  refine r_istore_n (lv2 := [(2, .int v1), (0, .ref (a 5)), (1, .int v1)]) C0 dX5_leastOfGroup_1 rfl rfl (Nat.le_of_ble_eq_true rfl) rfl ?_
  exact r_sub [1, 0] rfl (w_X5_leastOfGroup_B2_lp C0 hD h hz)
theorem c_X5_leastOfGroup {l : Launch} {D : va_G} {cy : Nat → ClassId} {a : Nat → Nat} {V : VT} {J : JT} {K : Nat → Option Nat} {X : va_W} {v1 : Int32} {y : Int32} (h : f_X5_leastOfGroup v1 V = some y) : CT l D cy yX5_leastOfGroup cX5_leastOfGroup 3 (some .int) 2 [.ref (a 5), .int v1] (WC cy a V J K X) (WC cy a V J K X) (some (.int y)) :=
  mkI (by decide) (Nat.le_of_ble_eq_true rfl) (fun Γ _ _ C0 hD hF => w_X5_leastOfGroup C0 (dc_of hD) h hF)
theorem dX0_isGroupCued_0 : decode cX0_isGroupCued 0 = .ok (.aload_n 0, 1) := by decide +kernel
theorem dX0_isGroupCued_1 : decode cX0_isGroupCued 1 = .ok (.getfield 44, 3) := by decide +kernel
theorem dX0_isGroupCued_4 : decode cX0_isGroupCued 4 = .ok (.iload_n 1, 1) := by decide +kernel
theorem dX0_isGroupCued_5 : decode cX0_isGroupCued 5 = .ok (.invokevirtual 93, 3) := by decide +kernel
theorem dX0_isGroupCued_8 : decode cX0_isGroupCued 8 = .ok (.istore_n 2, 1) := by decide +kernel
theorem dX0_isGroupCued_9 : decode cX0_isGroupCued 9 = .ok (.aload_n 0, 1) := by decide +kernel
theorem dX0_isGroupCued_10 : decode cX0_isGroupCued 10 = .ok (.getfield 44, 3) := by decide +kernel
theorem dX0_isGroupCued_13 : decode cX0_isGroupCued 13 = .ok (.iload_n 1, 1) := by decide +kernel
theorem dX0_isGroupCued_14 : decode cX0_isGroupCued 14 = .ok (.invokevirtual 98, 3) := by decide +kernel
theorem dX0_isGroupCued_17 : decode cX0_isGroupCued 17 = .ok (.istore_n 3, 1) := by decide +kernel
theorem dX0_isGroupCued_18 : decode cX0_isGroupCued 18 = .ok (.iload_n 3, 1) := by decide +kernel
theorem dX0_isGroupCued_19 : decode cX0_isGroupCued 19 = .ok (.iload_n 2, 1) := by decide +kernel
theorem dX0_isGroupCued_20 : decode cX0_isGroupCued 20 = .ok (.if_icmp .gt 22, 3) := by decide +kernel
theorem dX0_isGroupCued_23 : decode cX0_isGroupCued 23 = .ok (.aload_n 0, 1) := by decide +kernel
theorem dX0_isGroupCued_24 : decode cX0_isGroupCued 24 = .ok (.getfield 36, 3) := by decide +kernel
theorem dX0_isGroupCued_27 : decode cX0_isGroupCued 27 = .ok (.iload_n 3, 1) := by decide +kernel
theorem dX0_isGroupCued_28 : decode cX0_isGroupCued 28 = .ok (.invokevirtual 101, 3) := by decide +kernel
theorem dX0_isGroupCued_31 : decode cX0_isGroupCued 31 = .ok (.ifCond .eq 5, 3) := by decide +kernel
theorem dX0_isGroupCued_34 : decode cX0_isGroupCued 34 = .ok (.iconst 1, 1) := by decide +kernel
theorem dX0_isGroupCued_35 : decode cX0_isGroupCued 35 = .ok (.ireturn, 1) := by decide +kernel
theorem dX0_isGroupCued_36 : decode cX0_isGroupCued 36 = .ok (.iinc 3 1, 3) := by decide +kernel
theorem dX0_isGroupCued_39 : decode cX0_isGroupCued 39 = .ok (.goto (-21), 3) := by decide +kernel
theorem dX0_isGroupCued_42 : decode cX0_isGroupCued 42 = .ok (.iconst 0, 1) := by decide +kernel
theorem dX0_isGroupCued_43 : decode cX0_isGroupCued 43 = .ok (.ireturn, 1) := by decide +kernel
theorem w_X0_isGroupCued_B18 {x : Int32} {z : ((Int32) ⊕ (Int32))} {Γ : Gam} {cy : Nat → ClassId} {a : Nat → Nat} {V : VT} {J : JT} {K : Nat → Option Nat} {X : va_W} {v2 : Int32}  (C0 : CXg Γ cX0_isGroupCued 4 4 RX0 cy) (hD : DC Γ cy a X) (h : f_X0_isGroupCued_B18 v2 V x = some z) (hz : (Sum.elim (fun x : Int32 => Wp Γ 0 0 18 [(0, .ref (a 8)), (2, .int v2), (3, .int x)] [] (WC cy a V J K X)) (fun y : Int32 => FinZ Γ cX0_isGroupCued (WC cy a V J K X) y)) z) : Wp Γ 0 0 18 [(0, .ref (a 8)), (2, .int v2), (3, .int x)] [] (WC cy a V J K X) := by
  unfold f_X0_isGroupCued_B18 at h
  refine r_iload_n C0 dX0_isGroupCued_18 rfl 2 rfl ?_
  refine r_iload_n C0 dX0_isGroupCued_19 rfl 1 rfl ?_
  refine r_icmp_gt C0 42 dX0_isGroupCued_20 rfl h (fun _ h => ?_) (fun _ h => ?_)
  · obtain ⟨y3, h5, h9⟩ := op_bind h
    clear h
    cases h9
    have hz := (el_inr hz)
    have h := h5
    refine r_iconst C0 dX0_isGroupCued_42 ki_0 ?_
    cases h
    exact hz _ _ nz_0 dX0_isGroupCued_43
  · refine r_aload_n C0 dX0_isGroupCued_23 rfl 0 rfl ?_
    refine wcg_8_0 C0 tf_X0_36 dX0_isGroupCued_24 ?_
    refine r_iload_n C0 dX0_isGroupCued_27 rfl 2 rfl ?_
    refine callV1 C0 h (hD _ _ _) mw_X3_isBarCued rv_3 tm_X0_101 (fun y hy => c_X3_isBarCued hy) (Nat.le_of_ble_eq_true rfl) (Nat.le_of_ble_eq_true rfl) dX0_isGroupCued_28 (fun r4 h => ?_)
    refine r_if_eq C0 36 dX0_isGroupCued_31 rfl h (fun _ h => ?_) (fun _ h => ?_)
    · obtain ⟨a5, h8, h⟩ := op_bind h
      have e8 := Option.some.inj h8
      refine r_iinc (lv2 := [(3, .int a5), (0, .ref (a 8)), (2, .int v2)]) C0 dX0_isGroupCued_36 2 rfl ki_1 e8 (Nat.le_of_ble_eq_true rfl) rfl ?_
      refine r_goto C0 18 dX0_isGroupCued_39 rfl ?_
      cases h
      have hz := el_inl hz
      exact r_sub [1, 2, 0] rfl hz
    · obtain ⟨y6, h5, h9⟩ := op_bind h
      clear h
      cases h9
      have hz := (el_inr hz)
      have h := h5
      refine r_iconst C0 dX0_isGroupCued_34 ki_1 ?_
      cases h
      exact hz _ _ nz_1 dX0_isGroupCued_35
theorem w_X0_isGroupCued_B18_lp {x : Int32} {z : (Int32)} {Γ : Gam} {cy : Nat → ClassId} {a : Nat → Nat} {V : VT} {J : JT} {K : Nat → Option Nat} {X : va_W} {v2 : Int32}  (C0 : CXg Γ cX0_isGroupCued 4 4 RX0 cy) (hD : DC Γ cy a X) (h : lp (f_X0_isGroupCued_B18 v2 V) fuel x = some z) (hz : (fun y : Int32 => FinZ Γ cX0_isGroupCued (WC cy a V J K X) y) z) : Wp Γ 0 0 18 [(0, .ref (a 8)), (2, .int v2), (3, .int x)] [] (WC cy a V J K X) :=
  lp_rule (hd := (fun x : Int32 => Wp Γ 0 0 18 [(0, .ref (a 8)), (2, .int v2), (3, .int x)] [] (WC cy a V J K X))) (C := (fun y : Int32 => FinZ Γ cX0_isGroupCued (WC cy a V J K X) y)) (fun x z h hz => w_X0_isGroupCued_B18 C0 hD h hz) _ _ _ h hz
theorem w_X0_isGroupCued {z : Int32} {Γ : Gam} {cy : Nat → ClassId} {a : Nat → Nat} {V : VT} {J : JT} {K : Nat → Option Nat} {X : va_W} {v1 : Int32}  (C0 : CXg Γ cX0_isGroupCued 4 4 RX0 cy) (hD : DC Γ cy a X) (h : f_X0_isGroupCued v1 V = some z) (hz : (fun y : Int32 => FinZ Γ cX0_isGroupCued (WC cy a V J K X) y) z) : Wp Γ 0 0 0 [(0, .ref (a 8)), (1, .int v1)] [] (WC cy a V J K X) := by
  unfold f_X0_isGroupCued at h
  refine r_aload_n C0 dX0_isGroupCued_0 rfl 0 rfl ?_
  refine wcg_8_2 C0 tf_X0_44 dX0_isGroupCued_1 ?_
  refine r_iload_n C0 dX0_isGroupCued_4 rfl 1 rfl ?_
  refine callV1 C0 h (hD _ _ _) mw_X5_lastOfGroup rv_5 tm_X0_93 (fun y hy => c_X5_lastOfGroup hy) (Nat.le_of_ble_eq_true rfl) (Nat.le_of_ble_eq_true rfl) dX0_isGroupCued_5 (fun r1 h => ?_)
  refine r_istore_n (lv2 := [(2, .int r1), (0, .ref (a 8)), (1, .int v1)]) C0 dX0_isGroupCued_8 rfl rfl (Nat.le_of_ble_eq_true rfl) rfl ?_
  refine r_aload_n C0 dX0_isGroupCued_9 rfl 1 rfl ?_
  refine wcg_8_2 C0 tf_X0_44 dX0_isGroupCued_10 ?_
  refine r_iload_n C0 dX0_isGroupCued_13 rfl 2 rfl ?_
  refine callV1 C0 h (hD _ _ _) mw_X5_leastOfGroup rv_5 tm_X0_98 (fun y hy => c_X5_leastOfGroup hy) (Nat.le_of_ble_eq_true rfl) (Nat.le_of_ble_eq_true rfl) dX0_isGroupCued_14 (fun r2 h => ?_)
  refine r_istore_n (lv2 := [(3, .int r2), (2, .int r1), (0, .ref (a 8)), (1, .int v1)]) C0 dX0_isGroupCued_17 rfl rfl (Nat.le_of_ble_eq_true rfl) rfl ?_
  exact r_sub [2, 1, 0] rfl (w_X0_isGroupCued_B18_lp C0 hD h hz)
theorem c_X0_isGroupCued {l : Launch} {D : va_G} {cy : Nat → ClassId} {a : Nat → Nat} {V : VT} {J : JT} {K : Nat → Option Nat} {X : va_W} {v1 : Int32} {y : Int32} (h : f_X0_isGroupCued v1 V = some y) : CT l D cy yX0_isGroupCued cX0_isGroupCued 4 (some .boolean) 4 [.ref (a 8), .int v1] (WC cy a V J K X) (WC cy a V J K X) (some (.int y)) :=
  mkZ (by decide) (Nat.le_of_ble_eq_true rfl) (fun Γ _ _ C0 hD hF => w_X0_isGroupCued C0 (dc_of hD) h hF)
theorem dX2_addThing_0 : decode cX2_addThing 0 = .ok (.iload_n 1, 1) := by decide +kernel
theorem dX2_addThing_1 : decode cX2_addThing 1 = .ok (.iconst 1, 1) := by decide +kernel
theorem dX2_addThing_2 : decode cX2_addThing 2 = .ok (.if_icmp .ne 8, 3) := by decide +kernel
theorem dX2_addThing_5 : decode cX2_addThing 5 = .ok (.bipush 6, 2) := by decide +kernel
theorem dX2_addThing_7 : decode cX2_addThing 7 = .ok (.goto 5, 3) := by decide +kernel
theorem dX2_addThing_10 : decode cX2_addThing 10 = .ok (.bipush 40, 2) := by decide +kernel
theorem dX2_addThing_12 : decode cX2_addThing 12 = .ok (.istore 5, 2) := by decide +kernel
theorem dX2_addThing_14 : decode cX2_addThing 14 = .ok (.iload_n 1, 1) := by decide +kernel
theorem dX2_addThing_15 : decode cX2_addThing 15 = .ok (.ifCond .lt 42, 3) := by decide +kernel
theorem dX2_addThing_18 : decode cX2_addThing 18 = .ok (.iload_n 1, 1) := by decide +kernel
theorem dX2_addThing_19 : decode cX2_addThing 19 = .ok (.iconst 4, 1) := by decide +kernel
theorem dX2_addThing_20 : decode cX2_addThing 20 = .ok (.if_icmp .gt 37, 3) := by decide +kernel
theorem dX2_addThing_23 : decode cX2_addThing 23 = .ok (.iload_n 2, 1) := by decide +kernel
theorem dX2_addThing_24 : decode cX2_addThing 24 = .ok (.iconst 1, 1) := by decide +kernel
theorem dX2_addThing_25 : decode cX2_addThing 25 = .ok (.if_icmp .lt 32, 3) := by decide +kernel
theorem dX2_addThing_28 : decode cX2_addThing 28 = .ok (.iload_n 2, 1) := by decide +kernel
theorem dX2_addThing_29 : decode cX2_addThing 29 = .ok (.bipush 15, 2) := by decide +kernel
theorem dX2_addThing_31 : decode cX2_addThing 31 = .ok (.if_icmp .gt 26, 3) := by decide +kernel
theorem dX2_addThing_34 : decode cX2_addThing 34 = .ok (.iload_n 3, 1) := by decide +kernel
theorem dX2_addThing_35 : decode cX2_addThing 35 = .ok (.iconst 1, 1) := by decide +kernel
theorem dX2_addThing_36 : decode cX2_addThing 36 = .ok (.if_icmp .lt 21, 3) := by decide +kernel
theorem dX2_addThing_39 : decode cX2_addThing 39 = .ok (.iload_n 3, 1) := by decide +kernel
theorem dX2_addThing_40 : decode cX2_addThing 40 = .ok (.iload 5, 2) := by decide +kernel
theorem dX2_addThing_42 : decode cX2_addThing 42 = .ok (.if_icmp .gt 15, 3) := by decide +kernel
theorem dX2_addThing_45 : decode cX2_addThing 45 = .ok (.iload 4, 2) := by decide +kernel
theorem dX2_addThing_47 : decode cX2_addThing 47 = .ok (.ifCond .lt 10, 3) := by decide +kernel
theorem dX2_addThing_50 : decode cX2_addThing 50 = .ok (.iload 4, 2) := by decide +kernel
theorem dX2_addThing_52 : decode cX2_addThing 52 = .ok (.ldc 31, 2) := by decide +kernel
theorem dX2_addThing_54 : decode cX2_addThing 54 = .ok (.if_icmp .le 13, 3) := by decide +kernel
theorem dX2_addThing_57 : decode cX2_addThing 57 = .ok (.aload_n 0, 1) := by decide +kernel
theorem dX2_addThing_58 : decode cX2_addThing 58 = .ok (.getfield 27, 3) := by decide +kernel
theorem dX2_addThing_61 : decode cX2_addThing 61 = .ok (.bipush 7, 2) := by decide +kernel
theorem dX2_addThing_63 : decode cX2_addThing 63 = .ok (.invokevirtual 32, 3) := by decide +kernel
theorem dX2_addThing_66 : decode cX2_addThing 66 = .ok (.ireturn, 1) := by decide +kernel
theorem dX2_addThing_67 : decode cX2_addThing 67 = .ok (.aload_n 0, 1) := by decide +kernel
theorem dX2_addThing_68 : decode cX2_addThing 68 = .ok (.getfield 15, 3) := by decide +kernel
theorem dX2_addThing_71 : decode cX2_addThing 71 = .ok (.getfield 38, 3) := by decide +kernel
theorem dX2_addThing_74 : decode cX2_addThing 74 = .ok (.iconst 0, 1) := by decide +kernel
theorem dX2_addThing_75 : decode cX2_addThing 75 = .ok (.iconst 1, 1) := by decide +kernel
theorem dX2_addThing_76 : decode cX2_addThing 76 = .ok (.invokevirtual 44, 3) := by decide +kernel
theorem dX2_addThing_79 : decode cX2_addThing 79 = .ok (.istore 6, 2) := by decide +kernel
theorem dX2_addThing_81 : decode cX2_addThing 81 = .ok (.iload 6, 2) := by decide +kernel
theorem dX2_addThing_83 : decode cX2_addThing 83 = .ok (.bipush 80, 2) := by decide +kernel
theorem dX2_addThing_85 : decode cX2_addThing 85 = .ok (.if_icmp .lt 13, 3) := by decide +kernel
theorem dX2_addThing_88 : decode cX2_addThing 88 = .ok (.aload_n 0, 1) := by decide +kernel
theorem dX2_addThing_89 : decode cX2_addThing 89 = .ok (.getfield 27, 3) := by decide +kernel
theorem dX2_addThing_92 : decode cX2_addThing 92 = .ok (.bipush 11, 2) := by decide +kernel
theorem dX2_addThing_94 : decode cX2_addThing 94 = .ok (.invokevirtual 32, 3) := by decide +kernel
theorem dX2_addThing_97 : decode cX2_addThing 97 = .ok (.ireturn, 1) := by decide +kernel
theorem dX2_addThing_98 : decode cX2_addThing 98 = .ok (.aload_n 0, 1) := by decide +kernel
theorem dX2_addThing_99 : decode cX2_addThing 99 = .ok (.getfield 15, 3) := by decide +kernel
theorem dX2_addThing_102 : decode cX2_addThing 102 = .ok (.getfield 38, 3) := by decide +kernel
theorem dX2_addThing_105 : decode cX2_addThing 105 = .ok (.iconst 0, 1) := by decide +kernel
theorem dX2_addThing_106 : decode cX2_addThing 106 = .ok (.iconst 1, 1) := by decide +kernel
theorem dX2_addThing_107 : decode cX2_addThing 107 = .ok (.iload 6, 2) := by decide +kernel
theorem dX2_addThing_109 : decode cX2_addThing 109 = .ok (.iconst 1, 1) := by decide +kernel
theorem dX2_addThing_110 : decode cX2_addThing 110 = .ok (.iadd, 1) := by decide +kernel
theorem dX2_addThing_111 : decode cX2_addThing 111 = .ok (.invokevirtual 50, 3) := by decide +kernel
theorem dX2_addThing_114 : decode cX2_addThing 114 = .ok (.aload_n 0, 1) := by decide +kernel
theorem dX2_addThing_115 : decode cX2_addThing 115 = .ok (.getfield 15, 3) := by decide +kernel
theorem dX2_addThing_118 : decode cX2_addThing 118 = .ok (.getfield 54, 3) := by decide +kernel
theorem dX2_addThing_121 : decode cX2_addThing 121 = .ok (.iload 6, 2) := by decide +kernel
theorem dX2_addThing_123 : decode cX2_addThing 123 = .ok (.iconst 0, 1) := by decide +kernel
theorem dX2_addThing_124 : decode cX2_addThing 124 = .ok (.iload_n 1, 1) := by decide +kernel
theorem dX2_addThing_125 : decode cX2_addThing 125 = .ok (.invokevirtual 50, 3) := by decide +kernel
theorem dX2_addThing_128 : decode cX2_addThing 128 = .ok (.aload_n 0, 1) := by decide +kernel
theorem dX2_addThing_129 : decode cX2_addThing 129 = .ok (.getfield 15, 3) := by decide +kernel
theorem dX2_addThing_132 : decode cX2_addThing 132 = .ok (.getfield 54, 3) := by decide +kernel
theorem dX2_addThing_135 : decode cX2_addThing 135 = .ok (.iload 6, 2) := by decide +kernel
theorem dX2_addThing_137 : decode cX2_addThing 137 = .ok (.iconst 1, 1) := by decide +kernel
theorem dX2_addThing_138 : decode cX2_addThing 138 = .ok (.iload_n 2, 1) := by decide +kernel
theorem dX2_addThing_139 : decode cX2_addThing 139 = .ok (.invokevirtual 50, 3) := by decide +kernel
theorem dX2_addThing_142 : decode cX2_addThing 142 = .ok (.aload_n 0, 1) := by decide +kernel
theorem dX2_addThing_143 : decode cX2_addThing 143 = .ok (.getfield 15, 3) := by decide +kernel
theorem dX2_addThing_146 : decode cX2_addThing 146 = .ok (.getfield 54, 3) := by decide +kernel
theorem dX2_addThing_149 : decode cX2_addThing 149 = .ok (.iload 6, 2) := by decide +kernel
theorem dX2_addThing_151 : decode cX2_addThing 151 = .ok (.iconst 2, 1) := by decide +kernel
theorem dX2_addThing_152 : decode cX2_addThing 152 = .ok (.iload_n 3, 1) := by decide +kernel
theorem dX2_addThing_153 : decode cX2_addThing 153 = .ok (.invokevirtual 50, 3) := by decide +kernel
theorem dX2_addThing_156 : decode cX2_addThing 156 = .ok (.aload_n 0, 1) := by decide +kernel
theorem dX2_addThing_157 : decode cX2_addThing 157 = .ok (.getfield 15, 3) := by decide +kernel
theorem dX2_addThing_160 : decode cX2_addThing 160 = .ok (.getfield 54, 3) := by decide +kernel
theorem dX2_addThing_163 : decode cX2_addThing 163 = .ok (.iload 6, 2) := by decide +kernel
theorem dX2_addThing_165 : decode cX2_addThing 165 = .ok (.iconst 3, 1) := by decide +kernel
theorem dX2_addThing_166 : decode cX2_addThing 166 = .ok (.iload 4, 2) := by decide +kernel
theorem dX2_addThing_168 : decode cX2_addThing 168 = .ok (.invokevirtual 50, 3) := by decide +kernel
theorem dX2_addThing_171 : decode cX2_addThing 171 = .ok (.aload_n 0, 1) := by decide +kernel
theorem dX2_addThing_172 : decode cX2_addThing 172 = .ok (.getfield 15, 3) := by decide +kernel
theorem dX2_addThing_175 : decode cX2_addThing 175 = .ok (.getfield 54, 3) := by decide +kernel
theorem dX2_addThing_178 : decode cX2_addThing 178 = .ok (.iload 6, 2) := by decide +kernel
theorem dX2_addThing_180 : decode cX2_addThing 180 = .ok (.iconst 4, 1) := by decide +kernel
theorem dX2_addThing_181 : decode cX2_addThing 181 = .ok (.aload_n 0, 1) := by decide +kernel
theorem dX2_addThing_182 : decode cX2_addThing 182 = .ok (.getfield 19, 3) := by decide +kernel
theorem dX2_addThing_185 : decode cX2_addThing 185 = .ok (.iload 6, 2) := by decide +kernel
theorem dX2_addThing_187 : decode cX2_addThing 187 = .ok (.invokevirtual 57, 3) := by decide +kernel
theorem dX2_addThing_190 : decode cX2_addThing 190 = .ok (.f2i, 1) := by decide +kernel
theorem dX2_addThing_191 : decode cX2_addThing 191 = .ok (.invokevirtual 50, 3) := by decide +kernel
theorem dX2_addThing_194 : decode cX2_addThing 194 = .ok (.aload_n 0, 1) := by decide +kernel
theorem dX2_addThing_195 : decode cX2_addThing 195 = .ok (.getfield 15, 3) := by decide +kernel
theorem dX2_addThing_198 : decode cX2_addThing 198 = .ok (.getfield 54, 3) := by decide +kernel
theorem dX2_addThing_201 : decode cX2_addThing 201 = .ok (.iload 6, 2) := by decide +kernel
theorem dX2_addThing_203 : decode cX2_addThing 203 = .ok (.iconst 5, 1) := by decide +kernel
theorem dX2_addThing_204 : decode cX2_addThing 204 = .ok (.iconst 0, 1) := by decide +kernel
theorem dX2_addThing_205 : decode cX2_addThing 205 = .ok (.invokevirtual 50, 3) := by decide +kernel
theorem dX2_addThing_208 : decode cX2_addThing 208 = .ok (.aload_n 0, 1) := by decide +kernel
theorem dX2_addThing_209 : decode cX2_addThing 209 = .ok (.getfield 15, 3) := by decide +kernel
theorem dX2_addThing_212 : decode cX2_addThing 212 = .ok (.getfield 54, 3) := by decide +kernel
theorem dX2_addThing_215 : decode cX2_addThing 215 = .ok (.iload 6, 2) := by decide +kernel
theorem dX2_addThing_217 : decode cX2_addThing 217 = .ok (.bipush 6, 2) := by decide +kernel
theorem dX2_addThing_219 : decode cX2_addThing 219 = .ok (.ldc 63, 2) := by decide +kernel
theorem dX2_addThing_221 : decode cX2_addThing 221 = .ok (.invokevirtual 50, 3) := by decide +kernel
theorem dX2_addThing_224 : decode cX2_addThing 224 = .ok (.aload_n 0, 1) := by decide +kernel
theorem dX2_addThing_225 : decode cX2_addThing 225 = .ok (.getfield 15, 3) := by decide +kernel
theorem dX2_addThing_228 : decode cX2_addThing 228 = .ok (.getfield 54, 3) := by decide +kernel
theorem dX2_addThing_231 : decode cX2_addThing 231 = .ok (.iload 6, 2) := by decide +kernel
theorem dX2_addThing_233 : decode cX2_addThing 233 = .ok (.bipush 7, 2) := by decide +kernel
theorem dX2_addThing_235 : decode cX2_addThing 235 = .ok (.ldc 63, 2) := by decide +kernel
theorem dX2_addThing_237 : decode cX2_addThing 237 = .ok (.invokevirtual 50, 3) := by decide +kernel
theorem dX2_addThing_240 : decode cX2_addThing 240 = .ok (.iload 6, 2) := by decide +kernel
theorem dX2_addThing_242 : decode cX2_addThing 242 = .ok (.ireturn, 1) := by decide +kernel
theorem w_X2_addThing_j57 {z : (Int32 × VT)} {Γ : Gam} {cy : Nat → ClassId} {a : Nat → Nat} {V : VT} {J : JT} {K : Nat → Option Nat} {X : va_W}  (C0 : CXg Γ cX2_addThing 7 2 RX2 cy) (hD : DC Γ cy a X) (h : f_X2_addThing_j57 V = some z) (hz : (fun y : Int32 × VT => FinI Γ cX2_addThing (WC cy a y.2 J K X) y.1) z) : Wp Γ 0 0 57 [(0, .ref (a 7))] [] (WC cy a V J K X) := by
  unfold f_X2_addThing_j57 at h
  refine r_aload_n C0 dX2_addThing_57 rfl 0 rfl ?_
  refine wcg_7_3 C0 tf_X2_27 dX2_addThing_58 ?_
  refine r_bipush C0 dX2_addThing_61 kb_7 ?_
  refine callV1 C0 h (hD _ _ _) mw_X9_refuse rv_2 tm_X2_32 (fun y hy => c_X9_refuse hy) (Nat.le_of_ble_eq_true rfl) (Nat.le_of_ble_eq_true rfl) dX2_addThing_63 (fun r1 h => ?_)
  cases h
  exact hz _ _ dX2_addThing_66
theorem w_X2_addThing_j12 {z : (Int32 × VT)} {Γ : Gam} {cy : Nat → ClassId} {a : Nat → Nat} {V : VT} {J : JT} {K : Nat → Option Nat} {X : va_W} {v1 : Int32} {v2 : Int32} {v3 : Int32} {v4 : Int32} {s0 : Int32}  (C0 : CXg Γ cX2_addThing 7 2 RX2 cy) (hD : DC Γ cy a X) (h : f_X2_addThing_j12 v1 v2 v3 v4 s0 V = some z) (hz : (fun y : Int32 × VT => FinI Γ cX2_addThing (WC cy a y.2 J K X) y.1) z) : Wp Γ 0 0 12 [(0, .ref (a 7)), (1, .int v1), (2, .int v2), (3, .int v3), (4, .int v4)] [.int s0] (WC cy a V J K X) := by
  unfold f_X2_addThing_j12 at h
  refine r_istore (lv2 := [(5, .int s0), (0, .ref (a 7)), (1, .int v1), (2, .int v2), (3, .int v3), (4, .int v4)]) C0 dX2_addThing_12 rfl (Nat.le_of_ble_eq_true rfl) rfl ?_
  refine r_iload_n C0 dX2_addThing_14 rfl 2 rfl ?_
  refine r_if_lt C0 57 dX2_addThing_15 rfl h (fun _ h => ?_) (fun _ h => ?_)
  · exact r_sub [1] rfl (w_X2_addThing_j57 C0 hD h hz)
  · refine r_iload_n C0 dX2_addThing_18 rfl 2 rfl ?_
    refine r_iconst C0 dX2_addThing_19 ki_4 ?_
    refine r_icmp_gt C0 57 dX2_addThing_20 rfl h (fun _ h => ?_) (fun _ h => ?_)
    · exact r_sub [1] rfl (w_X2_addThing_j57 C0 hD h hz)
    · refine r_iload_n C0 dX2_addThing_23 rfl 3 rfl ?_
      refine r_iconst C0 dX2_addThing_24 ki_1 ?_
      refine r_icmp_lt C0 57 dX2_addThing_25 rfl h (fun _ h => ?_) (fun _ h => ?_)
      · exact r_sub [1] rfl (w_X2_addThing_j57 C0 hD h hz)
      · refine r_iload_n C0 dX2_addThing_28 rfl 3 rfl ?_
        refine r_bipush C0 dX2_addThing_29 kb_15 ?_
        refine r_icmp_gt C0 57 dX2_addThing_31 rfl h (fun _ h => ?_) (fun _ h => ?_)
        · exact r_sub [1] rfl (w_X2_addThing_j57 C0 hD h hz)
        · refine r_iload_n C0 dX2_addThing_34 rfl 4 rfl ?_
          refine r_iconst C0 dX2_addThing_35 ki_1 ?_
          refine r_icmp_lt C0 57 dX2_addThing_36 rfl h (fun _ h => ?_) (fun _ h => ?_)
          · exact r_sub [1] rfl (w_X2_addThing_j57 C0 hD h hz)
          · refine r_iload_n C0 dX2_addThing_39 rfl 4 rfl ?_
            refine r_iload C0 dX2_addThing_40 0 rfl ?_
            refine r_icmp_gt C0 57 dX2_addThing_42 rfl h (fun _ h => ?_) (fun _ h => ?_)
            · exact r_sub [1] rfl (w_X2_addThing_j57 C0 hD h hz)
            · refine r_iload C0 dX2_addThing_45 5 rfl ?_
              refine r_if_lt C0 57 dX2_addThing_47 rfl h (fun _ h => ?_) (fun _ h => ?_)
              · exact r_sub [1] rfl (w_X2_addThing_j57 C0 hD h hz)
              · refine r_iload C0 dX2_addThing_50 5 rfl ?_
                refine r_ldc C0 tk_X2_31 dX2_addThing_52 ?_
                refine r_icmp_le C0 67 dX2_addThing_54 rfl h (fun _ h => ?_) (fun _ h => ?_)
                · refine r_aload_n C0 dX2_addThing_67 rfl 1 rfl ?_
                  refine wcg_7_0 C0 tf_X2_15 dX2_addThing_68 ?_
                  refine wcg_3_7 C0 tf_X2_38 dX2_addThing_71 ?_
                  refine r_iconst C0 dX2_addThing_74 ki_0 ?_
                  refine r_iconst C0 dX2_addThing_75 ki_1 ?_
                  refine callV2 C0 h (hD _ _ _) mw_X7_get (rv_t tb_17) tm_X2_44 (fun y hy => c_X7_get tb_17 hy) (Nat.le_of_ble_eq_true rfl) (Nat.le_of_ble_eq_true rfl) dX2_addThing_76 (fun r2 h => ?_)
                  refine r_istore (lv2 := [(6, .int r2), (5, .int s0), (0, .ref (a 7)), (1, .int v1), (2, .int v2), (3, .int v3), (4, .int v4)]) C0 dX2_addThing_79 rfl (Nat.le_of_ble_eq_true rfl) rfl ?_
                  refine r_iload C0 dX2_addThing_81 0 rfl ?_
                  refine r_bipush C0 dX2_addThing_83 kb_80 ?_
                  refine r_icmp_lt C0 98 dX2_addThing_85 rfl h (fun _ h => ?_) (fun _ h => ?_)
                  · refine r_aload_n C0 dX2_addThing_98 rfl 2 rfl ?_
                    refine wcg_7_0 C0 tf_X2_15 dX2_addThing_99 ?_
                    refine wcg_3_7 C0 tf_X2_38 dX2_addThing_102 ?_
                    refine r_iconst C0 dX2_addThing_105 ki_0 ?_
                    refine r_iconst C0 dX2_addThing_106 ki_1 ?_
                    refine r_iload C0 dX2_addThing_107 0 rfl ?_
                    refine r_iconst C0 dX2_addThing_109 ki_1 ?_
                    refine r_iadd C0 dX2_addThing_110 ?_
                    refine callVv3 C0 h (hD _ _ _) mw_X7_set (rv_t tb_17) tm_X2_50 (fun y hy => c_X7_set tb_17 hy) (Nat.le_of_ble_eq_true rfl) (Nat.le_of_ble_eq_true rfl) dX2_addThing_111 (fun r3 h => ?_)
                    refine r_aload_n C0 dX2_addThing_114 rfl 2 rfl ?_
                    refine wcg_7_0 C0 tf_X2_15 dX2_addThing_115 ?_
                    refine wcg_3_3 C0 tf_X2_54 dX2_addThing_118 ?_
                    refine r_iload C0 dX2_addThing_121 0 rfl ?_
                    refine r_iconst C0 dX2_addThing_123 ki_0 ?_
                    refine r_iload_n C0 dX2_addThing_124 rfl 3 rfl ?_
                    refine callVv3 C0 h (hD _ _ _) mw_X7_set (rv_t tb_13) tm_X2_50 (fun y hy => c_X7_set tb_13 hy) (Nat.le_of_ble_eq_true rfl) (Nat.le_of_ble_eq_true rfl) dX2_addThing_125 (fun r4 h => ?_)
                    refine r_aload_n C0 dX2_addThing_128 rfl 2 rfl ?_
                    refine wcg_7_0 C0 tf_X2_15 dX2_addThing_129 ?_
                    refine wcg_3_3 C0 tf_X2_54 dX2_addThing_132 ?_
                    refine r_iload C0 dX2_addThing_135 0 rfl ?_
                    refine r_iconst C0 dX2_addThing_137 ki_1 ?_
                    refine r_iload_n C0 dX2_addThing_138 rfl 4 rfl ?_
                    refine callVv3 C0 h (hD _ _ _) mw_X7_set (rv_t tb_13) tm_X2_50 (fun y hy => c_X7_set tb_13 hy) (Nat.le_of_ble_eq_true rfl) (Nat.le_of_ble_eq_true rfl) dX2_addThing_139 (fun r5 h => ?_)
                    refine r_aload_n C0 dX2_addThing_142 rfl 2 rfl ?_
                    refine wcg_7_0 C0 tf_X2_15 dX2_addThing_143 ?_
                    refine wcg_3_3 C0 tf_X2_54 dX2_addThing_146 ?_
                    refine r_iload C0 dX2_addThing_149 0 rfl ?_
                    refine r_iconst C0 dX2_addThing_151 ki_2 ?_
                    refine r_iload_n C0 dX2_addThing_152 rfl 5 rfl ?_
                    refine callVv3 C0 h (hD _ _ _) mw_X7_set (rv_t tb_13) tm_X2_50 (fun y hy => c_X7_set tb_13 hy) (Nat.le_of_ble_eq_true rfl) (Nat.le_of_ble_eq_true rfl) dX2_addThing_153 (fun r6 h => ?_)
                    refine r_aload_n C0 dX2_addThing_156 rfl 2 rfl ?_
                    refine wcg_7_0 C0 tf_X2_15 dX2_addThing_157 ?_
                    refine wcg_3_3 C0 tf_X2_54 dX2_addThing_160 ?_
                    refine r_iload C0 dX2_addThing_163 0 rfl ?_
                    refine r_iconst C0 dX2_addThing_165 ki_3 ?_
                    refine r_iload C0 dX2_addThing_166 6 rfl ?_
                    refine callVv3 C0 h (hD _ _ _) mw_X7_set (rv_t tb_13) tm_X2_50 (fun y hy => c_X7_set tb_13 hy) (Nat.le_of_ble_eq_true rfl) (Nat.le_of_ble_eq_true rfl) dX2_addThing_168 (fun r7 h => ?_)
                    refine r_aload_n C0 dX2_addThing_171 rfl 2 rfl ?_
                    refine wcg_7_0 C0 tf_X2_15 dX2_addThing_172 ?_
                    refine wcg_3_3 C0 tf_X2_54 dX2_addThing_175 ?_
                    refine r_iload C0 dX2_addThing_178 0 rfl ?_
                    refine r_iconst C0 dX2_addThing_180 ki_4 ?_
                    refine r_aload_n C0 dX2_addThing_181 rfl 2 rfl ?_
                    refine wcg_7_1 C0 tf_X2_19 dX2_addThing_182 ?_
                    refine r_iload C0 dX2_addThing_185 0 rfl ?_
                    refine callV1 C0 h (hD _ _ _) mw_X10_burden rv_4 tm_X2_57 (fun y hy => c_X10_burden hy) (Nat.le_of_ble_eq_true rfl) (Nat.le_of_ble_eq_true rfl) dX2_addThing_187 (fun r8 h => ?_)
                    refine r_f2i C0 dX2_addThing_190 ?_
                    refine callVv3 C0 h (hD _ _ _) mw_X7_set (rv_t tb_13) tm_X2_50 (fun y hy => c_X7_set tb_13 hy) (Nat.le_of_ble_eq_true rfl) (Nat.le_of_ble_eq_true rfl) dX2_addThing_191 (fun r9 h => ?_)
                    refine r_aload_n C0 dX2_addThing_194 rfl 2 rfl ?_
                    refine wcg_7_0 C0 tf_X2_15 dX2_addThing_195 ?_
                    refine wcg_3_3 C0 tf_X2_54 dX2_addThing_198 ?_
                    refine r_iload C0 dX2_addThing_201 0 rfl ?_
                    refine r_iconst C0 dX2_addThing_203 ki_5 ?_
                    refine r_iconst C0 dX2_addThing_204 ki_0 ?_
                    refine callVv3 C0 h (hD _ _ _) mw_X7_set (rv_t tb_13) tm_X2_50 (fun y hy => c_X7_set tb_13 hy) (Nat.le_of_ble_eq_true rfl) (Nat.le_of_ble_eq_true rfl) dX2_addThing_205 (fun r10 h => ?_)
                    refine r_aload_n C0 dX2_addThing_208 rfl 2 rfl ?_
                    refine wcg_7_0 C0 tf_X2_15 dX2_addThing_209 ?_
                    refine wcg_3_3 C0 tf_X2_54 dX2_addThing_212 ?_
                    refine r_iload C0 dX2_addThing_215 0 rfl ?_
                    refine r_bipush C0 dX2_addThing_217 kb_6 ?_
                    refine r_ldc C0 tk_X2_63 dX2_addThing_219 ?_
                    refine callVv3 C0 h (hD _ _ _) mw_X7_set (rv_t tb_13) tm_X2_50 (fun y hy => c_X7_set tb_13 hy) (Nat.le_of_ble_eq_true rfl) (Nat.le_of_ble_eq_true rfl) dX2_addThing_221 (fun r11 h => ?_)
                    refine r_aload_n C0 dX2_addThing_224 rfl 2 rfl ?_
                    refine wcg_7_0 C0 tf_X2_15 dX2_addThing_225 ?_
                    refine wcg_3_3 C0 tf_X2_54 dX2_addThing_228 ?_
                    refine r_iload C0 dX2_addThing_231 0 rfl ?_
                    refine r_bipush C0 dX2_addThing_233 kb_7 ?_
                    refine r_ldc C0 tk_X2_63 dX2_addThing_235 ?_
                    refine callVv3 C0 h (hD _ _ _) mw_X7_set (rv_t tb_13) tm_X2_50 (fun y hy => c_X7_set tb_13 hy) (Nat.le_of_ble_eq_true rfl) (Nat.le_of_ble_eq_true rfl) dX2_addThing_237 (fun r12 h => ?_)
                    refine r_iload C0 dX2_addThing_240 0 rfl ?_
                    cases h
                    exact hz _ _ dX2_addThing_242
                  · refine r_aload_n C0 dX2_addThing_88 rfl 2 rfl ?_
                    refine wcg_7_3 C0 tf_X2_27 dX2_addThing_89 ?_
                    refine r_bipush C0 dX2_addThing_92 kb_11 ?_
                    refine callV1 C0 h (hD _ _ _) mw_X9_refuse rv_2 tm_X2_32 (fun y hy => c_X9_refuse hy) (Nat.le_of_ble_eq_true rfl) (Nat.le_of_ble_eq_true rfl) dX2_addThing_94 (fun r13 h => ?_)
                    cases h
                    exact hz _ _ dX2_addThing_97
                · exact r_sub [1] rfl (w_X2_addThing_j57 C0 hD h hz)
theorem w_X2_addThing {z : Int32 × VT} {Γ : Gam} {cy : Nat → ClassId} {a : Nat → Nat} {V : VT} {J : JT} {K : Nat → Option Nat} {X : va_W} {v1 : Int32} {v2 : Int32} {v3 : Int32} {v4 : Int32}  (C0 : CXg Γ cX2_addThing 7 2 RX2 cy) (hD : DC Γ cy a X) (h : f_X2_addThing v1 v2 v3 v4 V = some z) (hz : (fun y : Int32 × VT => FinI Γ cX2_addThing (WC cy a y.2 J K X) y.1) z) : Wp Γ 0 0 0 [(0, .ref (a 7)), (1, .int v1), (2, .int v2), (3, .int v3), (4, .int v4)] [] (WC cy a V J K X) := by
  unfold f_X2_addThing at h
  refine r_iload_n C0 dX2_addThing_0 rfl 1 rfl ?_
  refine r_iconst C0 dX2_addThing_1 ki_1 ?_
  refine r_icmp_ne C0 10 dX2_addThing_2 rfl h (fun _ h => ?_) (fun _ h => ?_)
  · refine r_bipush C0 dX2_addThing_10 kb_40 ?_
    exact r_sub [0, 1, 2, 3, 4] rfl (w_X2_addThing_j12 C0 hD h hz)
  · refine r_bipush C0 dX2_addThing_5 kb_6 ?_
    refine r_goto C0 12 dX2_addThing_7 rfl ?_
    exact r_sub [0, 1, 2, 3, 4] rfl (w_X2_addThing_j12 C0 hD h hz)
theorem c_X2_addThing {l : Launch} {D : va_G} {cy : Nat → ClassId} {a : Nat → Nat} {V : VT} {J : JT} {K : Nat → Option Nat} {X : va_W} {v1 : Int32} {v2 : Int32} {v3 : Int32} {v4 : Int32} {y : Int32 × VT} (h : f_X2_addThing v1 v2 v3 v4 V = some y) : CT l D cy yX2_addThing cX2_addThing 7 (some .int) 2 [.ref (a 7), .int v1, .int v2, .int v3, .int v4] (WC cy a V J K X) (WC cy a y.2 J K X) (some (.int y.1)) :=
  mkI (by decide) (Nat.le_of_ble_eq_true rfl) (fun Γ _ _ C0 hD hF => w_X2_addThing C0 (dc_of hD) h hF)
theorem dX3_isKind_0 : decode cX3_isKind 0 = .ok (.aload_n 0, 1) := by decide +kernel
theorem dX3_isKind_1 : decode cX3_isKind 1 = .ok (.getfield 27, 3) := by decide +kernel
theorem dX3_isKind_4 : decode cX3_isKind 4 = .ok (.iload_n 1, 1) := by decide +kernel
theorem dX3_isKind_5 : decode cX3_isKind 5 = .ok (.iconst 0, 1) := by decide +kernel
theorem dX3_isKind_6 : decode cX3_isKind 6 = .ok (.invokevirtual 42, 3) := by decide +kernel
theorem dX3_isKind_9 : decode cX3_isKind 9 = .ok (.iload_n 2, 1) := by decide +kernel
theorem dX3_isKind_10 : decode cX3_isKind 10 = .ok (.if_icmp .ne 7, 3) := by decide +kernel
theorem dX3_isKind_13 : decode cX3_isKind 13 = .ok (.iconst 1, 1) := by decide +kernel
theorem dX3_isKind_14 : decode cX3_isKind 14 = .ok (.goto 4, 3) := by decide +kernel
theorem dX3_isKind_17 : decode cX3_isKind 17 = .ok (.iconst 0, 1) := by decide +kernel
theorem dX3_isKind_18 : decode cX3_isKind 18 = .ok (.ireturn, 1) := by decide +kernel
theorem w_X3_isKind {z : Int32} {Γ : Gam} {cy : Nat → ClassId} {a : Nat → Nat} {V : VT} {J : JT} {K : Nat → Option Nat} {X : va_W} {v1 : Int32} {v2 : Int32}  (C0 : CXg Γ cX3_isKind 3 1 RX3 cy) (hD : DC Γ cy a X) (h : f_X3_isKind v1 v2 V = some z) (hz : (fun y : Int32 => FinZ Γ cX3_isKind (WC cy a V J K X) y) z) : Wp Γ 0 0 0 [(0, .ref (a 3)), (1, .int v1), (2, .int v2)] [] (WC cy a V J K X) := by
  unfold f_X3_isKind at h
  refine r_aload_n C0 dX3_isKind_0 rfl 0 rfl ?_
  refine wcg_3_3 C0 tf_X3_27 dX3_isKind_1 ?_
  refine r_iload_n C0 dX3_isKind_4 rfl 1 rfl ?_
  refine r_iconst C0 dX3_isKind_5 ki_0 ?_
  refine callV2 C0 h (hD _ _ _) mw_X7_get (rv_t tb_13) tm_X3_42 (fun y hy => c_X7_get tb_13 hy) (Nat.le_of_ble_eq_true rfl) (Nat.le_of_ble_eq_true rfl) dX3_isKind_6 (fun r1 h => ?_)
  refine r_iload_n C0 dX3_isKind_9 rfl 2 rfl ?_
  refine r_icmp_ne C0 17 dX3_isKind_10 rfl h (fun _ h => ?_) (fun _ h => ?_)
  · refine r_iconst C0 dX3_isKind_17 ki_0 ?_
    cases h
    exact hz _ _ nz_0 dX3_isKind_18
  · refine r_iconst C0 dX3_isKind_13 ki_1 ?_
    refine r_goto C0 18 dX3_isKind_14 rfl ?_
    cases h
    exact hz _ _ nz_1 dX3_isKind_18
theorem c_X3_isKind {l : Launch} {D : va_G} {cy : Nat → ClassId} {a : Nat → Nat} {V : VT} {J : JT} {K : Nat → Option Nat} {X : va_W} {v1 : Int32} {v2 : Int32} {y : Int32} (h : f_X3_isKind v1 v2 V = some y) : CT l D cy yX3_isKind cX3_isKind 3 (some .boolean) 1 [.ref (a 3), .int v1, .int v2] (WC cy a V J K X) (WC cy a V J K X) (some (.int y)) :=
  mkZ (by decide) (Nat.le_of_ble_eq_true rfl) (fun Γ _ _ C0 hD hF => w_X3_isKind C0 (dc_of hD) h hF)
theorem dX3_isThing_0 : decode cX3_isThing 0 = .ok (.iload_n 1, 1) := by decide +kernel
theorem dX3_isThing_1 : decode cX3_isThing 1 = .ok (.ifCond .lt 20, 3) := by decide +kernel
theorem dX3_isThing_4 : decode cX3_isThing 4 = .ok (.iload_n 1, 1) := by decide +kernel
theorem dX3_isThing_5 : decode cX3_isThing 5 = .ok (.aload_n 0, 1) := by decide +kernel
theorem dX3_isThing_6 : decode cX3_isThing 6 = .ok (.getfield 39, 3) := by decide +kernel
theorem dX3_isThing_9 : decode cX3_isThing 9 = .ok (.iconst 0, 1) := by decide +kernel
theorem dX3_isThing_10 : decode cX3_isThing 10 = .ok (.iconst 1, 1) := by decide +kernel
theorem dX3_isThing_11 : decode cX3_isThing 11 = .ok (.invokevirtual 42, 3) := by decide +kernel
theorem dX3_isThing_14 : decode cX3_isThing 14 = .ok (.if_icmp .ge 7, 3) := by decide +kernel
theorem dX3_isThing_17 : decode cX3_isThing 17 = .ok (.iconst 1, 1) := by decide +kernel
theorem dX3_isThing_18 : decode cX3_isThing 18 = .ok (.goto 4, 3) := by decide +kernel
theorem dX3_isThing_21 : decode cX3_isThing 21 = .ok (.iconst 0, 1) := by decide +kernel
theorem dX3_isThing_22 : decode cX3_isThing 22 = .ok (.ireturn, 1) := by decide +kernel
theorem w_X3_isThing_j21 {z : (Int32)} {Γ : Gam} {cy : Nat → ClassId} {a : Nat → Nat} {V : VT} {J : JT} {K : Nat → Option Nat} {X : va_W}  (C0 : CXg Γ cX3_isThing 2 1 RX3 cy) (hD : DC Γ cy a X) (h : f_X3_isThing_j21 V = some z) (hz : (fun y : Int32 => FinZ Γ cX3_isThing (WC cy a V J K X) y) z) : Wp Γ 0 0 21 [] [] (WC cy a V J K X) := by
  unfold f_X3_isThing_j21 at h
  refine r_iconst C0 dX3_isThing_21 ki_0 ?_
  cases h
  exact hz _ _ nz_0 dX3_isThing_22
theorem w_X3_isThing {z : Int32} {Γ : Gam} {cy : Nat → ClassId} {a : Nat → Nat} {V : VT} {J : JT} {K : Nat → Option Nat} {X : va_W} {v1 : Int32}  (C0 : CXg Γ cX3_isThing 2 1 RX3 cy) (hD : DC Γ cy a X) (h : f_X3_isThing v1 V = some z) (hz : (fun y : Int32 => FinZ Γ cX3_isThing (WC cy a V J K X) y) z) : Wp Γ 0 0 0 [(0, .ref (a 3)), (1, .int v1)] [] (WC cy a V J K X) := by
  unfold f_X3_isThing at h
  refine r_iload_n C0 dX3_isThing_0 rfl 1 rfl ?_
  refine r_if_lt C0 21 dX3_isThing_1 rfl h (fun _ h => ?_) (fun _ h => ?_)
  · exact r_sub [] rfl (w_X3_isThing_j21 C0 hD h hz)
  · refine r_iload_n C0 dX3_isThing_4 rfl 1 rfl ?_
    refine r_aload_n C0 dX3_isThing_5 rfl 0 rfl ?_
    refine wcg_3_7 C0 tf_X3_39 dX3_isThing_6 ?_
    refine r_iconst C0 dX3_isThing_9 ki_0 ?_
    refine r_iconst C0 dX3_isThing_10 ki_1 ?_
    refine callV2 C0 h (hD _ _ _) mw_X7_get (rv_t tb_17) tm_X3_42 (fun y hy => c_X7_get tb_17 hy) (Nat.le_of_ble_eq_true rfl) (Nat.le_of_ble_eq_true rfl) dX3_isThing_11 (fun r1 h => ?_)
    refine r_icmp_ge C0 21 dX3_isThing_14 rfl h (fun _ h => ?_) (fun _ h => ?_)
    · exact r_sub [] rfl (w_X3_isThing_j21 C0 hD h hz)
    · refine r_iconst C0 dX3_isThing_17 ki_1 ?_
      refine r_goto C0 22 dX3_isThing_18 rfl ?_
      cases h
      exact hz _ _ nz_1 dX3_isThing_22
theorem c_X3_isThing {l : Launch} {D : va_G} {cy : Nat → ClassId} {a : Nat → Nat} {V : VT} {J : JT} {K : Nat → Option Nat} {X : va_W} {v1 : Int32} {y : Int32} (h : f_X3_isThing v1 V = some y) : CT l D cy yX3_isThing cX3_isThing 2 (some .boolean) 1 [.ref (a 3), .int v1] (WC cy a V J K X) (WC cy a V J K X) (some (.int y)) :=
  mkZ (by decide) (Nat.le_of_ble_eq_true rfl) (fun Γ _ _ C0 hD hF => w_X3_isThing C0 (dc_of hD) h hF)
theorem dX5_isHotAt_0 : decode cX5_isHotAt 0 = .ok (.iload_n 2, 1) := by decide +kernel
theorem dX5_isHotAt_1 : decode cX5_isHotAt 1 = .ok (.iconst 2, 1) := by decide +kernel
theorem dX5_isHotAt_2 : decode cX5_isHotAt 2 = .ok (.isub, 1) := by decide +kernel
theorem dX5_isHotAt_3 : decode cX5_isHotAt 3 = .ok (.istore_n 3, 1) := by decide +kernel
theorem dX5_isHotAt_4 : decode cX5_isHotAt 4 = .ok (.iload_n 3, 1) := by decide +kernel
theorem dX5_isHotAt_5 : decode cX5_isHotAt 5 = .ok (.iload_n 2, 1) := by decide +kernel
theorem dX5_isHotAt_6 : decode cX5_isHotAt 6 = .ok (.iconst 2, 1) := by decide +kernel
theorem dX5_isHotAt_7 : decode cX5_isHotAt 7 = .ok (.iadd, 1) := by decide +kernel
theorem dX5_isHotAt_8 : decode cX5_isHotAt 8 = .ok (.if_icmp .gt 43, 3) := by decide +kernel
theorem dX5_isHotAt_11 : decode cX5_isHotAt 11 = .ok (.aload_n 0, 1) := by decide +kernel
theorem dX5_isHotAt_12 : decode cX5_isHotAt 12 = .ok (.getfield 9, 3) := by decide +kernel
theorem dX5_isHotAt_15 : decode cX5_isHotAt 15 = .ok (.iload_n 1, 1) := by decide +kernel
theorem dX5_isHotAt_16 : decode cX5_isHotAt 16 = .ok (.iload_n 3, 1) := by decide +kernel
theorem dX5_isHotAt_17 : decode cX5_isHotAt 17 = .ok (.invokevirtual 46, 3) := by decide +kernel
theorem dX5_isHotAt_20 : decode cX5_isHotAt 20 = .ok (.istore 4, 2) := by decide +kernel
theorem dX5_isHotAt_22 : decode cX5_isHotAt 22 = .ok (.iload 4, 2) := by decide +kernel
theorem dX5_isHotAt_24 : decode cX5_isHotAt 24 = .ok (.ifCond .lt 21, 3) := by decide +kernel
theorem dX5_isHotAt_27 : decode cX5_isHotAt 27 = .ok (.aload_n 0, 1) := by decide +kernel
theorem dX5_isHotAt_28 : decode cX5_isHotAt 28 = .ok (.getfield 9, 3) := by decide +kernel
theorem dX5_isHotAt_31 : decode cX5_isHotAt 31 = .ok (.getfield 35, 3) := by decide +kernel
theorem dX5_isHotAt_34 : decode cX5_isHotAt 34 = .ok (.iload 4, 2) := by decide +kernel
theorem dX5_isHotAt_36 : decode cX5_isHotAt 36 = .ok (.iconst 5, 1) := by decide +kernel
theorem dX5_isHotAt_37 : decode cX5_isHotAt 37 = .ok (.invokevirtual 21, 3) := by decide +kernel
theorem dX5_isHotAt_40 : decode cX5_isHotAt 40 = .ok (.ifCond .le 5, 3) := by decide +kernel
theorem dX5_isHotAt_43 : decode cX5_isHotAt 43 = .ok (.iconst 1, 1) := by decide +kernel
theorem dX5_isHotAt_44 : decode cX5_isHotAt 44 = .ok (.ireturn, 1) := by decide +kernel
theorem dX5_isHotAt_45 : decode cX5_isHotAt 45 = .ok (.iinc 3 1, 3) := by decide +kernel
theorem dX5_isHotAt_48 : decode cX5_isHotAt 48 = .ok (.goto (-44), 3) := by decide +kernel
theorem dX5_isHotAt_51 : decode cX5_isHotAt 51 = .ok (.iconst 0, 1) := by decide +kernel
theorem dX5_isHotAt_52 : decode cX5_isHotAt 52 = .ok (.ireturn, 1) := by decide +kernel
theorem w_X5_isHotAt_j45 {z : ((Int32) ⊕ (Int32))} {Γ : Gam} {cy : Nat → ClassId} {a : Nat → Nat} {V : VT} {J : JT} {K : Nat → Option Nat} {X : va_W} {v1 : Int32} {v2 : Int32} {v3 : Int32}  (C0 : CXg Γ cX5_isHotAt 5 2 RX5 cy) (hD : DC Γ cy a X) (h : f_X5_isHotAt_j45 v1 v2 v3 V = some z) (hz : (Sum.elim (fun x : Int32 => Wp Γ 0 0 4 [(0, .ref (a 5)), (1, .int v1), (2, .int v2), (3, .int x)] [] (WC cy a V J K X)) (fun y : Int32 => FinZ Γ cX5_isHotAt (WC cy a V J K X) y)) z) : Wp Γ 0 0 45 [(0, .ref (a 5)), (1, .int v1), (2, .int v2), (3, .int v3)] [] (WC cy a V J K X) := by
  unfold f_X5_isHotAt_j45 at h
  obtain ⟨a4, h8, h⟩ := op_bind h
  have e8 := Option.some.inj h8
  refine r_iinc (lv2 := [(3, .int a4), (0, .ref (a 5)), (1, .int v1), (2, .int v2)]) C0 dX5_isHotAt_45 3 rfl ki_1 e8 (Nat.le_of_ble_eq_true rfl) rfl ?_
  refine r_goto C0 4 dX5_isHotAt_48 rfl ?_
  cases h
  have hz := el_inl hz
  exact r_sub [1, 2, 3, 0] rfl hz
theorem w_X5_isHotAt_B4 {x : Int32} {z : ((Int32) ⊕ (Int32))} {Γ : Gam} {cy : Nat → ClassId} {a : Nat → Nat} {V : VT} {J : JT} {K : Nat → Option Nat} {X : va_W} {v1 : Int32} {v2 : Int32}  (C0 : CXg Γ cX5_isHotAt 5 2 RX5 cy) (hD : DC Γ cy a X) (h : f_X5_isHotAt_B4 v1 v2 V x = some z) (hz : (Sum.elim (fun x : Int32 => Wp Γ 0 0 4 [(0, .ref (a 5)), (1, .int v1), (2, .int v2), (3, .int x)] [] (WC cy a V J K X)) (fun y : Int32 => FinZ Γ cX5_isHotAt (WC cy a V J K X) y)) z) : Wp Γ 0 0 4 [(0, .ref (a 5)), (1, .int v1), (2, .int v2), (3, .int x)] [] (WC cy a V J K X) := by
  unfold f_X5_isHotAt_B4 at h
  refine r_iload_n C0 dX5_isHotAt_4 rfl 3 rfl ?_
  refine r_iload_n C0 dX5_isHotAt_5 rfl 2 rfl ?_
  refine r_iconst C0 dX5_isHotAt_6 ki_2 ?_
  refine r_iadd C0 dX5_isHotAt_7 ?_
  refine r_icmp_gt C0 51 dX5_isHotAt_8 rfl h (fun _ h => ?_) (fun _ h => ?_)
  · obtain ⟨y2, h5, h9⟩ := op_bind h
    clear h
    cases h9
    have hz := (el_inr hz)
    have h := h5
    refine r_iconst C0 dX5_isHotAt_51 ki_0 ?_
    cases h
    exact hz _ _ nz_0 dX5_isHotAt_52
  · refine r_aload_n C0 dX5_isHotAt_11 rfl 0 rfl ?_
    refine wcg_5_0 C0 tf_X5_9 dX5_isHotAt_12 ?_
    refine r_iload_n C0 dX5_isHotAt_15 rfl 1 rfl ?_
    refine r_iload_n C0 dX5_isHotAt_16 rfl 3 rfl ?_
    refine callV2 C0 h (hD _ _ _) mw_X3_thingIn rv_3 tm_X5_46 (fun y hy => c_X3_thingIn hy) (Nat.le_of_ble_eq_true rfl) (Nat.le_of_ble_eq_true rfl) dX5_isHotAt_17 (fun r3 h => ?_)
    refine r_istore (lv2 := [(4, .int r3), (0, .ref (a 5)), (1, .int v1), (2, .int v2), (3, .int x)]) C0 dX5_isHotAt_20 rfl (Nat.le_of_ble_eq_true rfl) rfl ?_
    refine r_iload C0 dX5_isHotAt_22 0 rfl ?_
    refine r_if_lt C0 45 dX5_isHotAt_24 rfl h (fun _ h => ?_) (fun _ h => ?_)
    · exact r_sub [1, 2, 3, 4] rfl (w_X5_isHotAt_j45 C0 hD h hz)
    · refine r_aload_n C0 dX5_isHotAt_27 rfl 1 rfl ?_
      refine wcg_5_0 C0 tf_X5_9 dX5_isHotAt_28 ?_
      refine wcg_3_3 C0 tf_X5_35 dX5_isHotAt_31 ?_
      refine r_iload C0 dX5_isHotAt_34 0 rfl ?_
      refine r_iconst C0 dX5_isHotAt_36 ki_5 ?_
      refine callV2 C0 h (hD _ _ _) mw_X7_get (rv_t tb_13) tm_X5_21 (fun y hy => c_X7_get tb_13 hy) (Nat.le_of_ble_eq_true rfl) (Nat.le_of_ble_eq_true rfl) dX5_isHotAt_37 (fun r5 h => ?_)
      refine r_if_le C0 45 dX5_isHotAt_40 rfl h (fun _ h => ?_) (fun _ h => ?_)
      · exact r_sub [1, 2, 3, 4] rfl (w_X5_isHotAt_j45 C0 hD h hz)
      · obtain ⟨y6, h5, h9⟩ := op_bind h
        clear h
        cases h9
        have hz := (el_inr hz)
        have h := h5
        refine r_iconst C0 dX5_isHotAt_43 ki_1 ?_
        cases h
        exact hz _ _ nz_1 dX5_isHotAt_44
theorem w_X5_isHotAt_B4_lp {x : Int32} {z : (Int32)} {Γ : Gam} {cy : Nat → ClassId} {a : Nat → Nat} {V : VT} {J : JT} {K : Nat → Option Nat} {X : va_W} {v1 : Int32} {v2 : Int32}  (C0 : CXg Γ cX5_isHotAt 5 2 RX5 cy) (hD : DC Γ cy a X) (h : lp (f_X5_isHotAt_B4 v1 v2 V) fuel x = some z) (hz : (fun y : Int32 => FinZ Γ cX5_isHotAt (WC cy a V J K X) y) z) : Wp Γ 0 0 4 [(0, .ref (a 5)), (1, .int v1), (2, .int v2), (3, .int x)] [] (WC cy a V J K X) :=
  lp_rule (hd := (fun x : Int32 => Wp Γ 0 0 4 [(0, .ref (a 5)), (1, .int v1), (2, .int v2), (3, .int x)] [] (WC cy a V J K X))) (C := (fun y : Int32 => FinZ Γ cX5_isHotAt (WC cy a V J K X) y)) (fun x z h hz => w_X5_isHotAt_B4 C0 hD h hz) _ _ _ h hz
theorem w_X5_isHotAt {z : Int32} {Γ : Gam} {cy : Nat → ClassId} {a : Nat → Nat} {V : VT} {J : JT} {K : Nat → Option Nat} {X : va_W} {v1 : Int32} {v2 : Int32}  (C0 : CXg Γ cX5_isHotAt 5 2 RX5 cy) (hD : DC Γ cy a X) (h : f_X5_isHotAt v1 v2 V = some z) (hz : (fun y : Int32 => FinZ Γ cX5_isHotAt (WC cy a V J K X) y) z) : Wp Γ 0 0 0 [(0, .ref (a 5)), (1, .int v1), (2, .int v2)] [] (WC cy a V J K X) := by
  unfold f_X5_isHotAt at h
  refine r_iload_n C0 dX5_isHotAt_0 rfl 2 rfl ?_
  refine r_iconst C0 dX5_isHotAt_1 ki_2 ?_
  refine r_isub C0 dX5_isHotAt_2 ?_
  obtain ⟨a1, h8, h⟩ := op_bind h
  have e8 := Option.some.inj h8
  refine r_istore_n (lv2 := [(3, .int a1), (0, .ref (a 5)), (1, .int v1), (2, .int v2)]) C0 dX5_isHotAt_3 rfl e8 (Nat.le_of_ble_eq_true rfl) rfl ?_
  exact r_sub [1, 2, 3, 0] rfl (w_X5_isHotAt_B4_lp C0 hD h hz)
theorem c_X5_isHotAt {l : Launch} {D : va_G} {cy : Nat → ClassId} {a : Nat → Nat} {V : VT} {J : JT} {K : Nat → Option Nat} {X : va_W} {v1 : Int32} {v2 : Int32} {y : Int32} (h : f_X5_isHotAt v1 v2 V = some y) : CT l D cy yX5_isHotAt cX5_isHotAt 5 (some .boolean) 2 [.ref (a 5), .int v1, .int v2] (WC cy a V J K X) (WC cy a V J K X) (some (.int y)) :=
  mkZ (by decide) (Nat.le_of_ble_eq_true rfl) (fun Γ _ _ C0 hD hF => w_X5_isHotAt C0 (dc_of hD) h hF)
theorem dX5_lesser_0 : decode cX5_lesser 0 = .ok (.iload_n 0, 1) := by decide +kernel
theorem dX5_lesser_1 : decode cX5_lesser 1 = .ok (.ldc 41, 2) := by decide +kernel
theorem dX5_lesser_3 : decode cX5_lesser 3 = .ok (.if_icmp .ne 7, 3) := by decide +kernel
theorem dX5_lesser_6 : decode cX5_lesser 6 = .ok (.iload_n 1, 1) := by decide +kernel
theorem dX5_lesser_7 : decode cX5_lesser 7 = .ok (.goto 8, 3) := by decide +kernel
theorem dX5_lesser_10 : decode cX5_lesser 10 = .ok (.iload_n 0, 1) := by decide +kernel
theorem dX5_lesser_11 : decode cX5_lesser 11 = .ok (.iload_n 1, 1) := by decide +kernel
theorem dX5_lesser_12 : decode cX5_lesser 12 = .ok (.invokestatic 30, 3) := by decide +kernel
theorem dX5_lesser_15 : decode cX5_lesser 15 = .ok (.ireturn, 1) := by decide +kernel
theorem w_X5_lesser {z : Int32} {Γ : Gam} {cy : Nat → ClassId} {a : Nat → Nat} {V : VT} {J : JT} {K : Nat → Option Nat} {X : va_W} {v0 : Int32} {v1 : Int32}  (C0 : CXg Γ cX5_lesser 2 1 RX5 cy) (hD : DC Γ cy a X) (h : f_X5_lesser v0 v1 V = some z) (hz : (fun y : Int32 => FinI Γ cX5_lesser (WC cy a V J K X) y) z) : Wp Γ 0 0 0 [(0, .int v0), (1, .int v1)] [] (WC cy a V J K X) := by
  unfold f_X5_lesser at h
  refine r_iload_n C0 dX5_lesser_0 rfl 0 rfl ?_
  refine r_ldc C0 tk_X5_41 dX5_lesser_1 ?_
  refine r_icmp_ne C0 10 dX5_lesser_3 rfl h (fun _ h => ?_) (fun _ h => ?_)
  · refine r_iload_n C0 dX5_lesser_10 rfl 0 rfl ?_
    refine r_iload_n C0 dX5_lesser_11 rfl 1 rfl ?_
    refine r_mmin C0 dX5_lesser_12 tm_X5_30 (Nat.le_of_ble_eq_true rfl) (Nat.le_of_ble_eq_true rfl) ?_
    cases h
    exact hz _ _ dX5_lesser_15
  · refine r_iload_n C0 dX5_lesser_6 rfl 1 rfl ?_
    refine r_goto C0 15 dX5_lesser_7 rfl ?_
    cases h
    exact hz _ _ dX5_lesser_15
theorem c_X5_lesser {l : Launch} {D : va_G} {cy : Nat → ClassId} {a : Nat → Nat} {V : VT} {J : JT} {K : Nat → Option Nat} {X : va_W} {v0 : Int32} {v1 : Int32} {y : Int32} (h : f_X5_lesser v0 v1 V = some y) : CT l D cy yX5_lesser cX5_lesser 2 (some .int) 1 [.int v0, .int v1] (WC cy a V J K X) (WC cy a V J K X) (some (.int y)) :=
  mkI (by decide) (Nat.le_of_ble_eq_true rfl) (fun Γ _ _ C0 hD hF => w_X5_lesser C0 (dc_of hD) h hF)
theorem dX5_leastTooHot_0 : decode cX5_leastTooHot 0 = .ok (.ldc 41, 2) := by decide +kernel
theorem dX5_leastTooHot_2 : decode cX5_leastTooHot 2 = .ok (.istore_n 2, 1) := by decide +kernel
theorem dX5_leastTooHot_3 : decode cX5_leastTooHot 3 = .ok (.iconst 0, 1) := by decide +kernel
theorem dX5_leastTooHot_4 : decode cX5_leastTooHot 4 = .ok (.istore_n 3, 1) := by decide +kernel
theorem dX5_leastTooHot_5 : decode cX5_leastTooHot 5 = .ok (.iload_n 3, 1) := by decide +kernel
theorem dX5_leastTooHot_6 : decode cX5_leastTooHot 6 = .ok (.bipush 16, 2) := by decide +kernel
theorem dX5_leastTooHot_8 : decode cX5_leastTooHot 8 = .ok (.if_icmp .ge 67, 3) := by decide +kernel
theorem dX5_leastTooHot_11 : decode cX5_leastTooHot 11 = .ok (.aload_n 0, 1) := by decide +kernel
theorem dX5_leastTooHot_12 : decode cX5_leastTooHot 12 = .ok (.getfield 9, 3) := by decide +kernel
theorem dX5_leastTooHot_15 : decode cX5_leastTooHot 15 = .ok (.iload_n 1, 1) := by decide +kernel
theorem dX5_leastTooHot_16 : decode cX5_leastTooHot 16 = .ok (.iload_n 3, 1) := by decide +kernel
theorem dX5_leastTooHot_17 : decode cX5_leastTooHot 17 = .ok (.invokevirtual 46, 3) := by decide +kernel
theorem dX5_leastTooHot_20 : decode cX5_leastTooHot 20 = .ok (.istore 4, 2) := by decide +kernel
theorem dX5_leastTooHot_22 : decode cX5_leastTooHot 22 = .ok (.iload 4, 2) := by decide +kernel
theorem dX5_leastTooHot_24 : decode cX5_leastTooHot 24 = .ok (.ifCond .lt 45, 3) := by decide +kernel
theorem dX5_leastTooHot_27 : decode cX5_leastTooHot 27 = .ok (.aload_n 0, 1) := by decide +kernel
theorem dX5_leastTooHot_28 : decode cX5_leastTooHot 28 = .ok (.getfield 9, 3) := by decide +kernel
theorem dX5_leastTooHot_31 : decode cX5_leastTooHot 31 = .ok (.iload 4, 2) := by decide +kernel
theorem dX5_leastTooHot_33 : decode cX5_leastTooHot 33 = .ok (.iconst 0, 1) := by decide +kernel
theorem dX5_leastTooHot_34 : decode cX5_leastTooHot 34 = .ok (.invokevirtual 52, 3) := by decide +kernel
theorem dX5_leastTooHot_37 : decode cX5_leastTooHot 37 = .ok (.ifCond .ne 16, 3) := by decide +kernel
theorem dX5_leastTooHot_40 : decode cX5_leastTooHot 40 = .ok (.aload_n 0, 1) := by decide +kernel
theorem dX5_leastTooHot_41 : decode cX5_leastTooHot 41 = .ok (.getfield 9, 3) := by decide +kernel
theorem dX5_leastTooHot_44 : decode cX5_leastTooHot 44 = .ok (.iload 4, 2) := by decide +kernel
theorem dX5_leastTooHot_46 : decode cX5_leastTooHot 46 = .ok (.iconst 1, 1) := by decide +kernel
theorem dX5_leastTooHot_47 : decode cX5_leastTooHot 47 = .ok (.invokevirtual 52, 3) := by decide +kernel
theorem dX5_leastTooHot_50 : decode cX5_leastTooHot 50 = .ok (.ifCond .eq 19, 3) := by decide +kernel
theorem dX5_leastTooHot_53 : decode cX5_leastTooHot 53 = .ok (.aload_n 0, 1) := by decide +kernel
theorem dX5_leastTooHot_54 : decode cX5_leastTooHot 54 = .ok (.iload_n 1, 1) := by decide +kernel
theorem dX5_leastTooHot_55 : decode cX5_leastTooHot 55 = .ok (.iload_n 3, 1) := by decide +kernel
theorem dX5_leastTooHot_56 : decode cX5_leastTooHot 56 = .ok (.invokevirtual 56, 3) := by decide +kernel
theorem dX5_leastTooHot_59 : decode cX5_leastTooHot 59 = .ok (.ifCond .eq 10, 3) := by decide +kernel
theorem dX5_leastTooHot_62 : decode cX5_leastTooHot 62 = .ok (.iload_n 2, 1) := by decide +kernel
theorem dX5_leastTooHot_63 : decode cX5_leastTooHot 63 = .ok (.iload 4, 2) := by decide +kernel
theorem dX5_leastTooHot_65 : decode cX5_leastTooHot 65 = .ok (.invokestatic 49, 3) := by decide +kernel
theorem dX5_leastTooHot_68 : decode cX5_leastTooHot 68 = .ok (.istore_n 2, 1) := by decide +kernel
theorem dX5_leastTooHot_69 : decode cX5_leastTooHot 69 = .ok (.iinc 3 1, 3) := by decide +kernel
theorem dX5_leastTooHot_72 : decode cX5_leastTooHot 72 = .ok (.goto (-67), 3) := by decide +kernel
theorem dX5_leastTooHot_75 : decode cX5_leastTooHot 75 = .ok (.iload_n 2, 1) := by decide +kernel
theorem dX5_leastTooHot_76 : decode cX5_leastTooHot 76 = .ok (.ireturn, 1) := by decide +kernel
theorem w_X5_leastTooHot_j69 {z : ((Int32 × Int32) ⊕ (Int32))} {Γ : Gam} {cy : Nat → ClassId} {a : Nat → Nat} {V : VT} {J : JT} {K : Nat → Option Nat} {X : va_W} {v1 : Int32} {v2 : Int32} {v3 : Int32}  (C0 : CXg Γ cX5_leastTooHot 5 3 RX5 cy) (hD : DC Γ cy a X) (h : f_X5_leastTooHot_j69 v1 v2 v3 V = some z) (hz : (Sum.elim (fun x : Int32 × Int32 => Wp Γ 0 0 5 [(0, .ref (a 5)), (1, .int v1), (2, .int x.1), (3, .int x.2)] [] (WC cy a V J K X)) (fun y : Int32 => FinI Γ cX5_leastTooHot (WC cy a V J K X) y)) z) : Wp Γ 0 0 69 [(0, .ref (a 5)), (1, .int v1), (2, .int v2), (3, .int v3)] [] (WC cy a V J K X) := by
  unfold f_X5_leastTooHot_j69 at h
  obtain ⟨a5, h8, h⟩ := op_bind h
  have e8 := Option.some.inj h8
  refine r_iinc (lv2 := [(3, .int a5), (0, .ref (a 5)), (1, .int v1), (2, .int v2)]) C0 dX5_leastTooHot_69 3 rfl ki_1 e8 (Nat.le_of_ble_eq_true rfl) rfl ?_
  refine r_goto C0 5 dX5_leastTooHot_72 rfl ?_
  cases h
  have hz := el_inl hz
  exact r_sub [1, 2, 3, 0] rfl hz
theorem w_X5_leastTooHot_j53 {z : ((Int32 × Int32) ⊕ (Int32))} {Γ : Gam} {cy : Nat → ClassId} {a : Nat → Nat} {V : VT} {J : JT} {K : Nat → Option Nat} {X : va_W} {v1 : Int32} {v2 : Int32} {v3 : Int32} {v4 : Int32}  (C0 : CXg Γ cX5_leastTooHot 5 3 RX5 cy) (hD : DC Γ cy a X) (h : f_X5_leastTooHot_j53 v1 v2 v3 v4 V = some z) (hz : (Sum.elim (fun x : Int32 × Int32 => Wp Γ 0 0 5 [(0, .ref (a 5)), (1, .int v1), (2, .int x.1), (3, .int x.2)] [] (WC cy a V J K X)) (fun y : Int32 => FinI Γ cX5_leastTooHot (WC cy a V J K X) y)) z) : Wp Γ 0 0 53 [(0, .ref (a 5)), (1, .int v1), (2, .int v2), (3, .int v3), (4, .int v4)] [] (WC cy a V J K X) := by
  unfold f_X5_leastTooHot_j53 at h
  refine r_aload_n C0 dX5_leastTooHot_53 rfl 0 rfl ?_
  refine r_iload_n C0 dX5_leastTooHot_54 rfl 1 rfl ?_
  refine r_iload_n C0 dX5_leastTooHot_55 rfl 3 rfl ?_
  refine callV2 C0 h (hD _ _ _) mw_X5_isHotAt rv_5 tm_X5_56 (fun y hy => c_X5_isHotAt hy) (Nat.le_of_ble_eq_true rfl) (Nat.le_of_ble_eq_true rfl) dX5_leastTooHot_56 (fun r7 h => ?_)
  refine r_if_eq C0 69 dX5_leastTooHot_59 rfl h (fun _ h => ?_) (fun _ h => ?_)
  · exact r_sub [0, 1, 2, 3] rfl (w_X5_leastTooHot_j69 C0 hD h hz)
  · refine r_iload_n C0 dX5_leastTooHot_62 rfl 2 rfl ?_
    refine r_iload C0 dX5_leastTooHot_63 4 rfl ?_
    refine callS2 C0 h (hD _ _ _) ms_X5_lesser tm_X5_49 (fun y hy => c_X5_lesser hy) (Nat.le_of_ble_eq_true rfl) (Nat.le_of_ble_eq_true rfl) dX5_leastTooHot_65 (fun r8 h => ?_)
    refine r_istore_n (lv2 := [(2, .int r8), (0, .ref (a 5)), (1, .int v1), (3, .int v3), (4, .int v4)]) C0 dX5_leastTooHot_68 rfl rfl (Nat.le_of_ble_eq_true rfl) rfl ?_
    exact r_sub [1, 2, 0, 3] rfl (w_X5_leastTooHot_j69 C0 hD h hz)
theorem w_X5_leastTooHot_B5 {x : Int32 × Int32} {z : ((Int32 × Int32) ⊕ (Int32))} {Γ : Gam} {cy : Nat → ClassId} {a : Nat → Nat} {V : VT} {J : JT} {K : Nat → Option Nat} {X : va_W} {v1 : Int32}  (C0 : CXg Γ cX5_leastTooHot 5 3 RX5 cy) (hD : DC Γ cy a X) (h : f_X5_leastTooHot_B5 v1 V x = some z) (hz : (Sum.elim (fun x : Int32 × Int32 => Wp Γ 0 0 5 [(0, .ref (a 5)), (1, .int v1), (2, .int x.1), (3, .int x.2)] [] (WC cy a V J K X)) (fun y : Int32 => FinI Γ cX5_leastTooHot (WC cy a V J K X) y)) z) : Wp Γ 0 0 5 [(0, .ref (a 5)), (1, .int v1), (2, .int x.1), (3, .int x.2)] [] (WC cy a V J K X) := by
  unfold f_X5_leastTooHot_B5 at h
  refine r_iload_n C0 dX5_leastTooHot_5 rfl 3 rfl ?_
  refine r_bipush C0 dX5_leastTooHot_6 kb_16 ?_
  refine r_icmp_ge C0 75 dX5_leastTooHot_8 rfl h (fun _ h => ?_) (fun _ h => ?_)
  · obtain ⟨y3, h5, h9⟩ := op_bind h
    clear h
    cases h9
    have hz := (el_inr hz)
    have h := h5
    refine r_iload_n C0 dX5_leastTooHot_75 rfl 2 rfl ?_
    cases h
    exact hz _ _ dX5_leastTooHot_76
  · refine r_aload_n C0 dX5_leastTooHot_11 rfl 0 rfl ?_
    refine wcg_5_0 C0 tf_X5_9 dX5_leastTooHot_12 ?_
    refine r_iload_n C0 dX5_leastTooHot_15 rfl 1 rfl ?_
    refine r_iload_n C0 dX5_leastTooHot_16 rfl 3 rfl ?_
    refine callV2 C0 h (hD _ _ _) mw_X3_thingIn rv_3 tm_X5_46 (fun y hy => c_X3_thingIn hy) (Nat.le_of_ble_eq_true rfl) (Nat.le_of_ble_eq_true rfl) dX5_leastTooHot_17 (fun r4 h => ?_)
    refine r_istore (lv2 := [(4, .int r4), (0, .ref (a 5)), (1, .int v1), (2, .int x.1), (3, .int x.2)]) C0 dX5_leastTooHot_20 rfl (Nat.le_of_ble_eq_true rfl) rfl ?_
    refine r_iload C0 dX5_leastTooHot_22 0 rfl ?_
    refine r_if_lt C0 69 dX5_leastTooHot_24 rfl h (fun _ h => ?_) (fun _ h => ?_)
    · exact r_sub [1, 2, 3, 4] rfl (w_X5_leastTooHot_j69 C0 hD h hz)
    · refine r_aload_n C0 dX5_leastTooHot_27 rfl 1 rfl ?_
      refine wcg_5_0 C0 tf_X5_9 dX5_leastTooHot_28 ?_
      refine r_iload C0 dX5_leastTooHot_31 0 rfl ?_
      refine r_iconst C0 dX5_leastTooHot_33 ki_0 ?_
      refine callV2 C0 h (hD _ _ _) mw_X3_isKind rv_3 tm_X5_52 (fun y hy => c_X3_isKind hy) (Nat.le_of_ble_eq_true rfl) (Nat.le_of_ble_eq_true rfl) dX5_leastTooHot_34 (fun r6 h => ?_)
      refine r_if_ne C0 53 dX5_leastTooHot_37 rfl h (fun _ h => ?_) (fun _ h => ?_)
      · exact r_sub [1, 2, 3, 4, 0] rfl (w_X5_leastTooHot_j53 C0 hD h hz)
      · refine r_aload_n C0 dX5_leastTooHot_40 rfl 1 rfl ?_
        refine wcg_5_0 C0 tf_X5_9 dX5_leastTooHot_41 ?_
        refine r_iload C0 dX5_leastTooHot_44 0 rfl ?_
        refine r_iconst C0 dX5_leastTooHot_46 ki_1 ?_
        refine callV2 C0 h (hD _ _ _) mw_X3_isKind rv_3 tm_X5_52 (fun y hy => c_X3_isKind hy) (Nat.le_of_ble_eq_true rfl) (Nat.le_of_ble_eq_true rfl) dX5_leastTooHot_47 (fun r9 h => ?_)
        refine r_if_eq C0 69 dX5_leastTooHot_50 rfl h (fun _ h => ?_) (fun _ h => ?_)
        · exact r_sub [1, 2, 3, 4] rfl (w_X5_leastTooHot_j69 C0 hD h hz)
        · exact r_sub [1, 2, 3, 4, 0] rfl (w_X5_leastTooHot_j53 C0 hD h hz)
theorem w_X5_leastTooHot_B5_lp {x : Int32 × Int32} {z : (Int32)} {Γ : Gam} {cy : Nat → ClassId} {a : Nat → Nat} {V : VT} {J : JT} {K : Nat → Option Nat} {X : va_W} {v1 : Int32}  (C0 : CXg Γ cX5_leastTooHot 5 3 RX5 cy) (hD : DC Γ cy a X) (h : lp (f_X5_leastTooHot_B5 v1 V) fuel x = some z) (hz : (fun y : Int32 => FinI Γ cX5_leastTooHot (WC cy a V J K X) y) z) : Wp Γ 0 0 5 [(0, .ref (a 5)), (1, .int v1), (2, .int x.1), (3, .int x.2)] [] (WC cy a V J K X) :=
  lp_rule (hd := (fun x : Int32 × Int32 => Wp Γ 0 0 5 [(0, .ref (a 5)), (1, .int v1), (2, .int x.1), (3, .int x.2)] [] (WC cy a V J K X))) (C := (fun y : Int32 => FinI Γ cX5_leastTooHot (WC cy a V J K X) y)) (fun x z h hz => w_X5_leastTooHot_B5 C0 hD h hz) _ _ _ h hz
theorem w_X5_leastTooHot {z : Int32} {Γ : Gam} {cy : Nat → ClassId} {a : Nat → Nat} {V : VT} {J : JT} {K : Nat → Option Nat} {X : va_W} {v1 : Int32}  (C0 : CXg Γ cX5_leastTooHot 5 3 RX5 cy) (hD : DC Γ cy a X) (h : f_X5_leastTooHot v1 V = some z) (hz : (fun y : Int32 => FinI Γ cX5_leastTooHot (WC cy a V J K X) y) z) : Wp Γ 0 0 0 [(0, .ref (a 5)), (1, .int v1)] [] (WC cy a V J K X) := by
  unfold f_X5_leastTooHot at h
  refine r_ldc C0 tk_X5_41 dX5_leastTooHot_0 ?_
  obtain ⟨a1, h8, h⟩ := op_bind h
  have e8 := Option.some.inj h8
  refine r_istore_n (lv2 := [(2, .int a1), (0, .ref (a 5)), (1, .int v1)]) C0 dX5_leastTooHot_2 rfl e8 (Nat.le_of_ble_eq_true rfl) rfl ?_
  refine r_iconst C0 dX5_leastTooHot_3 ki_0 ?_
  obtain ⟨a2, h8, h⟩ := op_bind h
  have e8 := Option.some.inj h8
  refine r_istore_n (lv2 := [(3, .int a2), (2, .int a1), (0, .ref (a 5)), (1, .int v1)]) C0 dX5_leastTooHot_4 rfl e8 (Nat.le_of_ble_eq_true rfl) rfl ?_
  exact r_sub [2, 3, 1, 0] rfl (w_X5_leastTooHot_B5_lp C0 hD h hz)
theorem c_X5_leastTooHot {l : Launch} {D : va_G} {cy : Nat → ClassId} {a : Nat → Nat} {V : VT} {J : JT} {K : Nat → Option Nat} {X : va_W} {v1 : Int32} {y : Int32} (h : f_X5_leastTooHot v1 V = some y) : CT l D cy yX5_leastTooHot cX5_leastTooHot 5 (some .int) 3 [.ref (a 5), .int v1] (WC cy a V J K X) (WC cy a V J K X) (some (.int y)) :=
  mkI (by decide) (Nat.le_of_ble_eq_true rfl) (fun Γ _ _ C0 hD hF => w_X5_leastTooHot C0 (dc_of hD) h hF)
theorem dX2_heatLamp_0 : decode cX2_heatLamp 0 = .ok (.aload_n 0, 1) := by decide +kernel
theorem dX2_heatLamp_1 : decode cX2_heatLamp 1 = .ok (.getfield 15, 3) := by decide +kernel
theorem dX2_heatLamp_4 : decode cX2_heatLamp 4 = .ok (.iload_n 1, 1) := by decide +kernel
theorem dX2_heatLamp_5 : decode cX2_heatLamp 5 = .ok (.invokevirtual 64, 3) := by decide +kernel
theorem dX2_heatLamp_8 : decode cX2_heatLamp 8 = .ok (.ifCond .ne 12, 3) := by decide +kernel
theorem dX2_heatLamp_11 : decode cX2_heatLamp 11 = .ok (.aload_n 0, 1) := by decide +kernel
theorem dX2_heatLamp_12 : decode cX2_heatLamp 12 = .ok (.getfield 27, 3) := by decide +kernel
theorem dX2_heatLamp_15 : decode cX2_heatLamp 15 = .ok (.iconst 2, 1) := by decide +kernel
theorem dX2_heatLamp_16 : decode cX2_heatLamp 16 = .ok (.invokevirtual 32, 3) := by decide +kernel
theorem dX2_heatLamp_19 : decode cX2_heatLamp 19 = .ok (.ireturn, 1) := by decide +kernel
theorem dX2_heatLamp_20 : decode cX2_heatLamp 20 = .ok (.aload_n 0, 1) := by decide +kernel
theorem dX2_heatLamp_21 : decode cX2_heatLamp 21 = .ok (.getfield 15, 3) := by decide +kernel
theorem dX2_heatLamp_24 : decode cX2_heatLamp 24 = .ok (.iload_n 1, 1) := by decide +kernel
theorem dX2_heatLamp_25 : decode cX2_heatLamp 25 = .ok (.iconst 2, 1) := by decide +kernel
theorem dX2_heatLamp_26 : decode cX2_heatLamp 26 = .ok (.invokevirtual 68, 3) := by decide +kernel
theorem dX2_heatLamp_29 : decode cX2_heatLamp 29 = .ok (.ifCond .ne 12, 3) := by decide +kernel
theorem dX2_heatLamp_32 : decode cX2_heatLamp 32 = .ok (.aload_n 0, 1) := by decide +kernel
theorem dX2_heatLamp_33 : decode cX2_heatLamp 33 = .ok (.getfield 27, 3) := by decide +kernel
theorem dX2_heatLamp_36 : decode cX2_heatLamp 36 = .ok (.iconst 4, 1) := by decide +kernel
theorem dX2_heatLamp_37 : decode cX2_heatLamp 37 = .ok (.invokevirtual 32, 3) := by decide +kernel
theorem dX2_heatLamp_40 : decode cX2_heatLamp 40 = .ok (.ireturn, 1) := by decide +kernel
theorem dX2_heatLamp_41 : decode cX2_heatLamp 41 = .ok (.iload_n 2, 1) := by decide +kernel
theorem dX2_heatLamp_42 : decode cX2_heatLamp 42 = .ok (.ifCond .lt 9, 3) := by decide +kernel
theorem dX2_heatLamp_45 : decode cX2_heatLamp 45 = .ok (.iload_n 2, 1) := by decide +kernel
theorem dX2_heatLamp_46 : decode cX2_heatLamp 46 = .ok (.ldc 72, 2) := by decide +kernel
theorem dX2_heatLamp_48 : decode cX2_heatLamp 48 = .ok (.if_icmp .le 13, 3) := by decide +kernel
theorem dX2_heatLamp_51 : decode cX2_heatLamp 51 = .ok (.aload_n 0, 1) := by decide +kernel
theorem dX2_heatLamp_52 : decode cX2_heatLamp 52 = .ok (.getfield 27, 3) := by decide +kernel
theorem dX2_heatLamp_55 : decode cX2_heatLamp 55 = .ok (.bipush 7, 2) := by decide +kernel
theorem dX2_heatLamp_57 : decode cX2_heatLamp 57 = .ok (.invokevirtual 32, 3) := by decide +kernel
theorem dX2_heatLamp_60 : decode cX2_heatLamp 60 = .ok (.ireturn, 1) := by decide +kernel
theorem dX2_heatLamp_61 : decode cX2_heatLamp 61 = .ok (.aload_n 0, 1) := by decide +kernel
theorem dX2_heatLamp_62 : decode cX2_heatLamp 62 = .ok (.getfield 15, 3) := by decide +kernel
theorem dX2_heatLamp_65 : decode cX2_heatLamp 65 = .ok (.getfield 54, 3) := by decide +kernel
theorem dX2_heatLamp_68 : decode cX2_heatLamp 68 = .ok (.iload_n 1, 1) := by decide +kernel
theorem dX2_heatLamp_69 : decode cX2_heatLamp 69 = .ok (.iconst 5, 1) := by decide +kernel
theorem dX2_heatLamp_70 : decode cX2_heatLamp 70 = .ok (.invokevirtual 44, 3) := by decide +kernel
theorem dX2_heatLamp_73 : decode cX2_heatLamp 73 = .ok (.istore_n 3, 1) := by decide +kernel
theorem dX2_heatLamp_74 : decode cX2_heatLamp 74 = .ok (.aload_n 0, 1) := by decide +kernel
theorem dX2_heatLamp_75 : decode cX2_heatLamp 75 = .ok (.getfield 15, 3) := by decide +kernel
theorem dX2_heatLamp_78 : decode cX2_heatLamp 78 = .ok (.getfield 54, 3) := by decide +kernel
theorem dX2_heatLamp_81 : decode cX2_heatLamp 81 = .ok (.iload_n 1, 1) := by decide +kernel
theorem dX2_heatLamp_82 : decode cX2_heatLamp 82 = .ok (.iconst 5, 1) := by decide +kernel
theorem dX2_heatLamp_83 : decode cX2_heatLamp 83 = .ok (.iload_n 2, 1) := by decide +kernel
theorem dX2_heatLamp_84 : decode cX2_heatLamp 84 = .ok (.invokevirtual 50, 3) := by decide +kernel
theorem dX2_heatLamp_87 : decode cX2_heatLamp 87 = .ok (.aload_n 0, 1) := by decide +kernel
theorem dX2_heatLamp_88 : decode cX2_heatLamp 88 = .ok (.getfield 23, 3) := by decide +kernel
theorem dX2_heatLamp_91 : decode cX2_heatLamp 91 = .ok (.aload_n 0, 1) := by decide +kernel
theorem dX2_heatLamp_92 : decode cX2_heatLamp 92 = .ok (.getfield 15, 3) := by decide +kernel
theorem dX2_heatLamp_95 : decode cX2_heatLamp 95 = .ok (.getfield 54, 3) := by decide +kernel
theorem dX2_heatLamp_98 : decode cX2_heatLamp 98 = .ok (.iload_n 1, 1) := by decide +kernel
theorem dX2_heatLamp_99 : decode cX2_heatLamp 99 = .ok (.bipush 6, 2) := by decide +kernel
theorem dX2_heatLamp_101 : decode cX2_heatLamp 101 = .ok (.invokevirtual 44, 3) := by decide +kernel
theorem dX2_heatLamp_104 : decode cX2_heatLamp 104 = .ok (.invokevirtual 73, 3) := by decide +kernel
theorem dX2_heatLamp_107 : decode cX2_heatLamp 107 = .ok (.istore 4, 2) := by decide +kernel
theorem dX2_heatLamp_109 : decode cX2_heatLamp 109 = .ok (.iload 4, 2) := by decide +kernel
theorem dX2_heatLamp_111 : decode cX2_heatLamp 111 = .ok (.ldc 63, 2) := by decide +kernel
theorem dX2_heatLamp_113 : decode cX2_heatLamp 113 = .ok (.if_icmp .ne 7, 3) := by decide +kernel
theorem dX2_heatLamp_116 : decode cX2_heatLamp 116 = .ok (.iload_n 3, 1) := by decide +kernel
theorem dX2_heatLamp_117 : decode cX2_heatLamp 117 = .ok (.goto 14, 3) := by decide +kernel
theorem dX2_heatLamp_120 : decode cX2_heatLamp 120 = .ok (.aload_n 0, 1) := by decide +kernel
theorem dX2_heatLamp_121 : decode cX2_heatLamp 121 = .ok (.getfield 27, 3) := by decide +kernel
theorem dX2_heatLamp_124 : decode cX2_heatLamp 124 = .ok (.bipush 14, 2) := by decide +kernel
theorem dX2_heatLamp_126 : decode cX2_heatLamp 126 = .ok (.iload 4, 2) := by decide +kernel
theorem dX2_heatLamp_128 : decode cX2_heatLamp 128 = .ok (.invokevirtual 78, 3) := by decide +kernel
theorem dX2_heatLamp_131 : decode cX2_heatLamp 131 = .ok (.ireturn, 1) := by decide +kernel
theorem w_X2_heatLamp_j51 {z : (Int32 × VT)} {Γ : Gam} {cy : Nat → ClassId} {a : Nat → Nat} {V : VT} {J : JT} {K : Nat → Option Nat} {X : va_W}  (C0 : CXg Γ cX2_heatLamp 5 4 RX2 cy) (hD : DC Γ cy a X) (h : f_X2_heatLamp_j51 V = some z) (hz : (fun y : Int32 × VT => FinI Γ cX2_heatLamp (WC cy a y.2 J K X) y.1) z) : Wp Γ 0 0 51 [(0, .ref (a 7))] [] (WC cy a V J K X) := by
  unfold f_X2_heatLamp_j51 at h
  refine r_aload_n C0 dX2_heatLamp_51 rfl 0 rfl ?_
  refine wcg_7_3 C0 tf_X2_27 dX2_heatLamp_52 ?_
  refine r_bipush C0 dX2_heatLamp_55 kb_7 ?_
  refine callV1 C0 h (hD _ _ _) mw_X9_refuse rv_2 tm_X2_32 (fun y hy => c_X9_refuse hy) (Nat.le_of_ble_eq_true rfl) (Nat.le_of_ble_eq_true rfl) dX2_heatLamp_57 (fun r3 h => ?_)
  cases h
  exact hz _ _ dX2_heatLamp_60
theorem w_X2_heatLamp {z : Int32 × VT} {Γ : Gam} {cy : Nat → ClassId} {a : Nat → Nat} {V : VT} {J : JT} {K : Nat → Option Nat} {X : va_W} {v1 : Int32} {v2 : Int32}  (C0 : CXg Γ cX2_heatLamp 5 4 RX2 cy) (hD : DC Γ cy a X) (h : f_X2_heatLamp v1 v2 V = some z) (hz : (fun y : Int32 × VT => FinI Γ cX2_heatLamp (WC cy a y.2 J K X) y.1) z) : Wp Γ 0 0 0 [(0, .ref (a 7)), (1, .int v1), (2, .int v2)] [] (WC cy a V J K X) := by
  unfold f_X2_heatLamp at h
  refine r_aload_n C0 dX2_heatLamp_0 rfl 0 rfl ?_
  refine wcg_7_0 C0 tf_X2_15 dX2_heatLamp_1 ?_
  refine r_iload_n C0 dX2_heatLamp_4 rfl 1 rfl ?_
  refine callV1 C0 h (hD _ _ _) mw_X3_isThing rv_3 tm_X2_64 (fun y hy => c_X3_isThing hy) (Nat.le_of_ble_eq_true rfl) (Nat.le_of_ble_eq_true rfl) dX2_heatLamp_5 (fun r1 h => ?_)
  refine r_if_ne C0 20 dX2_heatLamp_8 rfl h (fun _ h => ?_) (fun _ h => ?_)
  · refine r_aload_n C0 dX2_heatLamp_20 rfl 0 rfl ?_
    refine wcg_7_0 C0 tf_X2_15 dX2_heatLamp_21 ?_
    refine r_iload_n C0 dX2_heatLamp_24 rfl 1 rfl ?_
    refine r_iconst C0 dX2_heatLamp_25 ki_2 ?_
    refine callV2 C0 h (hD _ _ _) mw_X3_isKind rv_3 tm_X2_68 (fun y hy => c_X3_isKind hy) (Nat.le_of_ble_eq_true rfl) (Nat.le_of_ble_eq_true rfl) dX2_heatLamp_26 (fun r2 h => ?_)
    refine r_if_ne C0 41 dX2_heatLamp_29 rfl h (fun _ h => ?_) (fun _ h => ?_)
    · refine r_iload_n C0 dX2_heatLamp_41 rfl 2 rfl ?_
      refine r_if_lt C0 51 dX2_heatLamp_42 rfl h (fun _ h => ?_) (fun _ h => ?_)
      · exact r_sub [0] rfl (w_X2_heatLamp_j51 C0 hD h hz)
      · refine r_iload_n C0 dX2_heatLamp_45 rfl 2 rfl ?_
        refine r_ldc C0 tk_X2_72 dX2_heatLamp_46 ?_
        refine r_icmp_le C0 61 dX2_heatLamp_48 rfl h (fun _ h => ?_) (fun _ h => ?_)
        · refine r_aload_n C0 dX2_heatLamp_61 rfl 0 rfl ?_
          refine wcg_7_0 C0 tf_X2_15 dX2_heatLamp_62 ?_
          refine wcg_3_3 C0 tf_X2_54 dX2_heatLamp_65 ?_
          refine r_iload_n C0 dX2_heatLamp_68 rfl 1 rfl ?_
          refine r_iconst C0 dX2_heatLamp_69 ki_5 ?_
          refine callV2 C0 h (hD _ _ _) mw_X7_get (rv_t tb_13) tm_X2_44 (fun y hy => c_X7_get tb_13 hy) (Nat.le_of_ble_eq_true rfl) (Nat.le_of_ble_eq_true rfl) dX2_heatLamp_70 (fun r4 h => ?_)
          refine r_istore_n (lv2 := [(3, .int r4), (0, .ref (a 7)), (1, .int v1), (2, .int v2)]) C0 dX2_heatLamp_73 rfl rfl (Nat.le_of_ble_eq_true rfl) rfl ?_
          refine r_aload_n C0 dX2_heatLamp_74 rfl 1 rfl ?_
          refine wcg_7_0 C0 tf_X2_15 dX2_heatLamp_75 ?_
          refine wcg_3_3 C0 tf_X2_54 dX2_heatLamp_78 ?_
          refine r_iload_n C0 dX2_heatLamp_81 rfl 2 rfl ?_
          refine r_iconst C0 dX2_heatLamp_82 ki_5 ?_
          refine r_iload_n C0 dX2_heatLamp_83 rfl 3 rfl ?_
          refine callVv3 C0 h (hD _ _ _) mw_X7_set (rv_t tb_13) tm_X2_50 (fun y hy => c_X7_set tb_13 hy) (Nat.le_of_ble_eq_true rfl) (Nat.le_of_ble_eq_true rfl) dX2_heatLamp_84 (fun r5 h => ?_)
          refine r_aload_n C0 dX2_heatLamp_87 rfl 1 rfl ?_
          refine wcg_7_2 C0 tf_X2_23 dX2_heatLamp_88 ?_
          refine r_aload_n C0 dX2_heatLamp_91 rfl 1 rfl ?_
          refine wcg_7_0 C0 tf_X2_15 dX2_heatLamp_92 ?_
          refine wcg_3_3 C0 tf_X2_54 dX2_heatLamp_95 ?_
          refine r_iload_n C0 dX2_heatLamp_98 rfl 2 rfl ?_
          refine r_bipush C0 dX2_heatLamp_99 kb_6 ?_
          refine callV2 C0 h (hD _ _ _) mw_X7_get (rv_t tb_13) tm_X2_44 (fun y hy => c_X7_get tb_13 hy) (Nat.le_of_ble_eq_true rfl) (Nat.le_of_ble_eq_true rfl) dX2_heatLamp_101 (fun r6 h => ?_)
          refine callV1 C0 h (hD _ _ _) mw_X5_leastTooHot rv_5 tm_X2_73 (fun y hy => c_X5_leastTooHot hy) (Nat.le_of_ble_eq_true rfl) (Nat.le_of_ble_eq_true rfl) dX2_heatLamp_104 (fun r7 h => ?_)
          refine r_istore (lv2 := [(4, .int r7), (3, .int r4), (0, .ref (a 7)), (1, .int v1), (2, .int v2)]) C0 dX2_heatLamp_107 rfl (Nat.le_of_ble_eq_true rfl) rfl ?_
          refine r_iload C0 dX2_heatLamp_109 0 rfl ?_
          refine r_ldc C0 tk_X2_63 dX2_heatLamp_111 ?_
          refine r_icmp_ne C0 120 dX2_heatLamp_113 rfl h (fun _ h => ?_) (fun _ h => ?_)
          · refine r_aload_n C0 dX2_heatLamp_120 rfl 2 rfl ?_
            refine wcg_7_3 C0 tf_X2_27 dX2_heatLamp_121 ?_
            refine r_bipush C0 dX2_heatLamp_124 kb_14 ?_
            refine r_iload C0 dX2_heatLamp_126 0 rfl ?_
            refine callV2 C0 h (hD _ _ _) mw_X9_refuseOver rv_2 tm_X2_78 (fun y hy => c_X9_refuseOver hy) (Nat.le_of_ble_eq_true rfl) (Nat.le_of_ble_eq_true rfl) dX2_heatLamp_128 (fun r8 h => ?_)
            cases h
            exact hz _ _ dX2_heatLamp_131
          · refine r_iload_n C0 dX2_heatLamp_116 rfl 1 rfl ?_
            refine r_goto C0 131 dX2_heatLamp_117 rfl ?_
            cases h
            exact hz _ _ dX2_heatLamp_131
        · exact r_sub [0] rfl (w_X2_heatLamp_j51 C0 hD h hz)
    · refine r_aload_n C0 dX2_heatLamp_32 rfl 0 rfl ?_
      refine wcg_7_3 C0 tf_X2_27 dX2_heatLamp_33 ?_
      refine r_iconst C0 dX2_heatLamp_36 ki_4 ?_
      refine callV1 C0 h (hD _ _ _) mw_X9_refuse rv_2 tm_X2_32 (fun y hy => c_X9_refuse hy) (Nat.le_of_ble_eq_true rfl) (Nat.le_of_ble_eq_true rfl) dX2_heatLamp_37 (fun r9 h => ?_)
      cases h
      exact hz _ _ dX2_heatLamp_40
  · refine r_aload_n C0 dX2_heatLamp_11 rfl 0 rfl ?_
    refine wcg_7_3 C0 tf_X2_27 dX2_heatLamp_12 ?_
    refine r_iconst C0 dX2_heatLamp_15 ki_2 ?_
    refine callV1 C0 h (hD _ _ _) mw_X9_refuse rv_2 tm_X2_32 (fun y hy => c_X9_refuse hy) (Nat.le_of_ble_eq_true rfl) (Nat.le_of_ble_eq_true rfl) dX2_heatLamp_16 (fun r10 h => ?_)
    cases h
    exact hz _ _ dX2_heatLamp_19
theorem c_X2_heatLamp {l : Launch} {D : va_G} {cy : Nat → ClassId} {a : Nat → Nat} {V : VT} {J : JT} {K : Nat → Option Nat} {X : va_W} {v1 : Int32} {v2 : Int32} {y : Int32 × VT} (h : f_X2_heatLamp v1 v2 V = some y) : CT l D cy yX2_heatLamp cX2_heatLamp 5 (some .int) 4 [.ref (a 7), .int v1, .int v2] (WC cy a V J K X) (WC cy a y.2 J K X) (some (.int y.1)) :=
  mkI (by decide) (Nat.le_of_ble_eq_true rfl) (fun Γ _ _ C0 hD hF => w_X2_heatLamp C0 (dc_of hD) h hF)
theorem dX5_leastClash_0 : decode cX5_leastClash 0 = .ok (.ldc 41, 2) := by decide +kernel
theorem dX5_leastClash_2 : decode cX5_leastClash 2 = .ok (.istore 5, 2) := by decide +kernel
theorem dX5_leastClash_4 : decode cX5_leastClash 4 = .ok (.iload_n 1, 1) := by decide +kernel
theorem dX5_leastClash_5 : decode cX5_leastClash 5 = .ok (.istore 6, 2) := by decide +kernel
theorem dX5_leastClash_7 : decode cX5_leastClash 7 = .ok (.iload 6, 2) := by decide +kernel
theorem dX5_leastClash_9 : decode cX5_leastClash 9 = .ok (.iload_n 2, 1) := by decide +kernel
theorem dX5_leastClash_10 : decode cX5_leastClash 10 = .ok (.if_icmp .gt 116, 3) := by decide +kernel
theorem dX5_leastClash_13 : decode cX5_leastClash 13 = .ok (.aload_n 0, 1) := by decide +kernel
theorem dX5_leastClash_14 : decode cX5_leastClash 14 = .ok (.getfield 9, 3) := by decide +kernel
theorem dX5_leastClash_17 : decode cX5_leastClash 17 = .ok (.getfield 27, 3) := by decide +kernel
theorem dX5_leastClash_20 : decode cX5_leastClash 20 = .ok (.iload 6, 2) := by decide +kernel
theorem dX5_leastClash_22 : decode cX5_leastClash 22 = .ok (.iconst 2, 1) := by decide +kernel
theorem dX5_leastClash_23 : decode cX5_leastClash 23 = .ok (.invokevirtual 21, 3) := by decide +kernel
theorem dX5_leastClash_26 : decode cX5_leastClash 26 = .ok (.istore 7, 2) := by decide +kernel
theorem dX5_leastClash_28 : decode cX5_leastClash 28 = .ok (.iload_n 3, 1) := by decide +kernel
theorem dX5_leastClash_29 : decode cX5_leastClash 29 = .ok (.istore 8, 2) := by decide +kernel
theorem dX5_leastClash_31 : decode cX5_leastClash 31 = .ok (.iload 8, 2) := by decide +kernel
theorem dX5_leastClash_33 : decode cX5_leastClash 33 = .ok (.iload_n 3, 1) := by decide +kernel
theorem dX5_leastClash_34 : decode cX5_leastClash 34 = .ok (.iload 4, 2) := by decide +kernel
theorem dX5_leastClash_36 : decode cX5_leastClash 36 = .ok (.iadd, 1) := by decide +kernel
theorem dX5_leastClash_37 : decode cX5_leastClash 37 = .ok (.if_icmp .ge 83, 3) := by decide +kernel
theorem dX5_leastClash_40 : decode cX5_leastClash 40 = .ok (.aload_n 0, 1) := by decide +kernel
theorem dX5_leastClash_41 : decode cX5_leastClash 41 = .ok (.iload 6, 2) := by decide +kernel
theorem dX5_leastClash_43 : decode cX5_leastClash 43 = .ok (.iload 7, 2) := by decide +kernel
theorem dX5_leastClash_45 : decode cX5_leastClash 45 = .ok (.iload 6, 2) := by decide +kernel
theorem dX5_leastClash_47 : decode cX5_leastClash 47 = .ok (.iconst 1, 1) := by decide +kernel
theorem dX5_leastClash_48 : decode cX5_leastClash 48 = .ok (.isub, 1) := by decide +kernel
theorem dX5_leastClash_49 : decode cX5_leastClash 49 = .ok (.iload 8, 2) := by decide +kernel
theorem dX5_leastClash_51 : decode cX5_leastClash 51 = .ok (.invokevirtual 42, 3) := by decide +kernel
theorem dX5_leastClash_54 : decode cX5_leastClash 54 = .ok (.ifCond .eq 23, 3) := by decide +kernel
theorem dX5_leastClash_57 : decode cX5_leastClash 57 = .ok (.iload 5, 2) := by decide +kernel
theorem dX5_leastClash_59 : decode cX5_leastClash 59 = .ok (.aload_n 0, 1) := by decide +kernel
theorem dX5_leastClash_60 : decode cX5_leastClash 60 = .ok (.getfield 9, 3) := by decide +kernel
theorem dX5_leastClash_63 : decode cX5_leastClash 63 = .ok (.iload 6, 2) := by decide +kernel
theorem dX5_leastClash_65 : decode cX5_leastClash 65 = .ok (.iconst 1, 1) := by decide +kernel
theorem dX5_leastClash_66 : decode cX5_leastClash 66 = .ok (.isub, 1) := by decide +kernel
theorem dX5_leastClash_67 : decode cX5_leastClash 67 = .ok (.iload 8, 2) := by decide +kernel
theorem dX5_leastClash_69 : decode cX5_leastClash 69 = .ok (.invokevirtual 46, 3) := by decide +kernel
theorem dX5_leastClash_72 : decode cX5_leastClash 72 = .ok (.invokestatic 49, 3) := by decide +kernel
theorem dX5_leastClash_75 : decode cX5_leastClash 75 = .ok (.istore 5, 2) := by decide +kernel
theorem dX5_leastClash_77 : decode cX5_leastClash 77 = .ok (.aload_n 0, 1) := by decide +kernel
theorem dX5_leastClash_78 : decode cX5_leastClash 78 = .ok (.iload 6, 2) := by decide +kernel
theorem dX5_leastClash_80 : decode cX5_leastClash 80 = .ok (.iload 7, 2) := by decide +kernel
theorem dX5_leastClash_82 : decode cX5_leastClash 82 = .ok (.iload 6, 2) := by decide +kernel
theorem dX5_leastClash_84 : decode cX5_leastClash 84 = .ok (.iconst 1, 1) := by decide +kernel
theorem dX5_leastClash_85 : decode cX5_leastClash 85 = .ok (.iadd, 1) := by decide +kernel
theorem dX5_leastClash_86 : decode cX5_leastClash 86 = .ok (.iload 8, 2) := by decide +kernel
theorem dX5_leastClash_88 : decode cX5_leastClash 88 = .ok (.invokevirtual 42, 3) := by decide +kernel
theorem dX5_leastClash_91 : decode cX5_leastClash 91 = .ok (.ifCond .eq 23, 3) := by decide +kernel
theorem dX5_leastClash_94 : decode cX5_leastClash 94 = .ok (.iload 5, 2) := by decide +kernel
theorem dX5_leastClash_96 : decode cX5_leastClash 96 = .ok (.aload_n 0, 1) := by decide +kernel
theorem dX5_leastClash_97 : decode cX5_leastClash 97 = .ok (.getfield 9, 3) := by decide +kernel
theorem dX5_leastClash_100 : decode cX5_leastClash 100 = .ok (.iload 6, 2) := by decide +kernel
theorem dX5_leastClash_102 : decode cX5_leastClash 102 = .ok (.iconst 1, 1) := by decide +kernel
theorem dX5_leastClash_103 : decode cX5_leastClash 103 = .ok (.iadd, 1) := by decide +kernel
theorem dX5_leastClash_104 : decode cX5_leastClash 104 = .ok (.iload 8, 2) := by decide +kernel
theorem dX5_leastClash_106 : decode cX5_leastClash 106 = .ok (.invokevirtual 46, 3) := by decide +kernel
theorem dX5_leastClash_109 : decode cX5_leastClash 109 = .ok (.invokestatic 49, 3) := by decide +kernel
theorem dX5_leastClash_112 : decode cX5_leastClash 112 = .ok (.istore 5, 2) := by decide +kernel
theorem dX5_leastClash_114 : decode cX5_leastClash 114 = .ok (.iinc 8 1, 3) := by decide +kernel
theorem dX5_leastClash_117 : decode cX5_leastClash 117 = .ok (.goto (-86), 3) := by decide +kernel
theorem dX5_leastClash_120 : decode cX5_leastClash 120 = .ok (.iinc 6 1, 3) := by decide +kernel
theorem dX5_leastClash_123 : decode cX5_leastClash 123 = .ok (.goto (-116), 3) := by decide +kernel
theorem dX5_leastClash_126 : decode cX5_leastClash 126 = .ok (.iload 5, 2) := by decide +kernel
theorem dX5_leastClash_128 : decode cX5_leastClash 128 = .ok (.ireturn, 1) := by decide +kernel
theorem w_X5_leastClash_j114 {z : ((Int32 × Int32) ⊕ ((Int32 × Int32) ⊕ (Int32)))} {Γ : Gam} {cy : Nat → ClassId} {a : Nat → Nat} {V : VT} {J : JT} {K : Nat → Option Nat} {X : va_W} {v2 : Int32} {v3 : Int32} {v4 : Int32} {v5 : Int32} {v6 : Int32} {v7 : Int32} {v8 : Int32}  (C0 : CXg Γ cX5_leastClash 9 2 RX5 cy) (hD : DC Γ cy a X) (h : f_X5_leastClash_j114 v2 v3 v4 v5 v6 v7 v8 V = some z) (hz : (Sum.elim (fun x : Int32 × Int32 => Wp Γ 0 0 31 [(0, .ref (a 5)), (2, .int v2), (3, .int v3), (4, .int v4), (5, .int x.1), (6, .int v6), (7, .int v7), (8, .int x.2)] [] (WC cy a V J K X)) (Sum.elim (fun x : Int32 × Int32 => Wp Γ 0 0 7 [(0, .ref (a 5)), (2, .int v2), (3, .int v3), (4, .int v4), (5, .int x.1), (6, .int x.2)] [] (WC cy a V J K X)) (fun y : Int32 => FinI Γ cX5_leastClash (WC cy a V J K X) y))) z) : Wp Γ 0 0 114 [(0, .ref (a 5)), (2, .int v2), (3, .int v3), (4, .int v4), (5, .int v5), (6, .int v6), (7, .int v7), (8, .int v8)] [] (WC cy a V J K X) := by
  unfold f_X5_leastClash_j114 at h
  obtain ⟨a8, h8, h⟩ := op_bind h
  have e8 := Option.some.inj h8
  refine r_iinc (lv2 := [(8, .int a8), (0, .ref (a 5)), (2, .int v2), (3, .int v3), (4, .int v4), (5, .int v5), (6, .int v6), (7, .int v7)]) C0 dX5_leastClash_114 7 rfl ki_1 e8 (Nat.le_of_ble_eq_true rfl) rfl ?_
  refine r_goto C0 31 dX5_leastClash_117 rfl ?_
  cases h
  have hz := el_inl hz
  exact r_sub [1, 2, 3, 4, 5, 6, 7, 0] rfl hz
theorem w_X5_leastClash_j77 {z : ((Int32 × Int32) ⊕ ((Int32 × Int32) ⊕ (Int32)))} {Γ : Gam} {cy : Nat → ClassId} {a : Nat → Nat} {V : VT} {J : JT} {K : Nat → Option Nat} {X : va_W} {v2 : Int32} {v3 : Int32} {v4 : Int32} {v5 : Int32} {v6 : Int32} {v7 : Int32} {v8 : Int32}  (C0 : CXg Γ cX5_leastClash 9 2 RX5 cy) (hD : DC Γ cy a X) (h : f_X5_leastClash_j77 v2 v3 v4 v5 v6 v7 v8 V = some z) (hz : (Sum.elim (fun x : Int32 × Int32 => Wp Γ 0 0 31 [(0, .ref (a 5)), (2, .int v2), (3, .int v3), (4, .int v4), (5, .int x.1), (6, .int v6), (7, .int v7), (8, .int x.2)] [] (WC cy a V J K X)) (Sum.elim (fun x : Int32 × Int32 => Wp Γ 0 0 7 [(0, .ref (a 5)), (2, .int v2), (3, .int v3), (4, .int v4), (5, .int x.1), (6, .int x.2)] [] (WC cy a V J K X)) (fun y : Int32 => FinI Γ cX5_leastClash (WC cy a V J K X) y))) z) : Wp Γ 0 0 77 [(0, .ref (a 5)), (2, .int v2), (3, .int v3), (4, .int v4), (5, .int v5), (6, .int v6), (7, .int v7), (8, .int v8)] [] (WC cy a V J K X) := by
  unfold f_X5_leastClash_j77 at h
  refine r_aload_n C0 dX5_leastClash_77 rfl 0 rfl ?_
  refine r_iload C0 dX5_leastClash_78 5 rfl ?_
  refine r_iload C0 dX5_leastClash_80 6 rfl ?_
  refine r_iload C0 dX5_leastClash_82 5 rfl ?_
  refine r_iconst C0 dX5_leastClash_84 ki_1 ?_
  refine r_iadd C0 dX5_leastClash_85 ?_
  refine r_iload C0 dX5_leastClash_86 7 rfl ?_
  refine callV4 C0 h (hD _ _ _) mw_X5_wouldClash rv_5 tm_X5_42 (fun y hy => c_X5_wouldClash hy) (Nat.le_of_ble_eq_true rfl) (Nat.le_of_ble_eq_true rfl) dX5_leastClash_88 (fun r7 h => ?_)
  refine r_if_eq C0 114 dX5_leastClash_91 rfl h (fun _ h => ?_) (fun _ h => ?_)
  · exact r_sub [0, 1, 2, 3, 4, 5, 6, 7] rfl (w_X5_leastClash_j114 C0 hD h hz)
  · refine r_iload C0 dX5_leastClash_94 4 rfl ?_
    refine r_aload_n C0 dX5_leastClash_96 rfl 0 rfl ?_
    refine wcg_5_0 C0 tf_X5_9 dX5_leastClash_97 ?_
    refine r_iload C0 dX5_leastClash_100 5 rfl ?_
    refine r_iconst C0 dX5_leastClash_102 ki_1 ?_
    refine r_iadd C0 dX5_leastClash_103 ?_
    refine r_iload C0 dX5_leastClash_104 7 rfl ?_
    refine callV2 C0 h (hD _ _ _) mw_X3_thingIn rv_3 tm_X5_46 (fun y hy => c_X3_thingIn hy) (Nat.le_of_ble_eq_true rfl) (Nat.le_of_ble_eq_true rfl) dX5_leastClash_106 (fun r9 h => ?_)
    refine callS2 C0 h (hD _ _ _) ms_X5_lesser tm_X5_49 (fun y hy => c_X5_lesser hy) (Nat.le_of_ble_eq_true rfl) (Nat.le_of_ble_eq_true rfl) dX5_leastClash_109 (fun r10 h => ?_)
    refine r_istore (lv2 := [(5, .int r10), (0, .ref (a 5)), (2, .int v2), (3, .int v3), (4, .int v4), (6, .int v6), (7, .int v7), (8, .int v8)]) C0 dX5_leastClash_112 rfl (Nat.le_of_ble_eq_true rfl) rfl ?_
    exact r_sub [1, 2, 3, 4, 0, 5, 6, 7] rfl (w_X5_leastClash_j114 C0 hD h hz)
theorem w_X5_leastClash_B31 {x : Int32 × Int32} {z : ((Int32 × Int32) ⊕ ((Int32 × Int32) ⊕ (Int32)))} {Γ : Gam} {cy : Nat → ClassId} {a : Nat → Nat} {V : VT} {J : JT} {K : Nat → Option Nat} {X : va_W} {v2 : Int32} {v3 : Int32} {v4 : Int32} {v6 : Int32} {v7 : Int32}  (C0 : CXg Γ cX5_leastClash 9 2 RX5 cy) (hD : DC Γ cy a X) (h : f_X5_leastClash_B31 v2 v3 v4 v6 v7 V x = some z) (hz : (Sum.elim (fun x : Int32 × Int32 => Wp Γ 0 0 31 [(0, .ref (a 5)), (2, .int v2), (3, .int v3), (4, .int v4), (5, .int x.1), (6, .int v6), (7, .int v7), (8, .int x.2)] [] (WC cy a V J K X)) (Sum.elim (fun x : Int32 × Int32 => Wp Γ 0 0 7 [(0, .ref (a 5)), (2, .int v2), (3, .int v3), (4, .int v4), (5, .int x.1), (6, .int x.2)] [] (WC cy a V J K X)) (fun y : Int32 => FinI Γ cX5_leastClash (WC cy a V J K X) y))) z) : Wp Γ 0 0 31 [(0, .ref (a 5)), (2, .int v2), (3, .int v3), (4, .int v4), (5, .int x.1), (6, .int v6), (7, .int v7), (8, .int x.2)] [] (WC cy a V J K X) := by
  unfold f_X5_leastClash_B31 at h
  refine r_iload C0 dX5_leastClash_31 7 rfl ?_
  refine r_iload_n C0 dX5_leastClash_33 rfl 2 rfl ?_
  refine r_iload C0 dX5_leastClash_34 3 rfl ?_
  refine r_iadd C0 dX5_leastClash_36 ?_
  refine r_icmp_ge C0 120 dX5_leastClash_37 rfl h (fun _ h => ?_) (fun _ h => ?_)
  · obtain ⟨y4, h5, h9⟩ := op_bind h
    clear h
    cases h9
    have hz := (el_inr hz)
    have h := h5
    obtain ⟨a5, h8, h⟩ := op_bind h
    have e8 := Option.some.inj h8
    refine r_iinc (lv2 := [(6, .int a5), (0, .ref (a 5)), (2, .int v2), (3, .int v3), (4, .int v4), (5, .int x.1), (7, .int v7), (8, .int x.2)]) C0 dX5_leastClash_120 5 rfl ki_1 e8 (Nat.le_of_ble_eq_true rfl) rfl ?_
    refine r_goto C0 7 dX5_leastClash_123 rfl ?_
    cases h
    have hz := el_inl hz
    exact r_sub [1, 2, 3, 4, 5, 0] rfl hz
  · refine r_aload_n C0 dX5_leastClash_40 rfl 0 rfl ?_
    refine r_iload C0 dX5_leastClash_41 5 rfl ?_
    refine r_iload C0 dX5_leastClash_43 6 rfl ?_
    refine r_iload C0 dX5_leastClash_45 5 rfl ?_
    refine r_iconst C0 dX5_leastClash_47 ki_1 ?_
    refine r_isub C0 dX5_leastClash_48 ?_
    refine r_iload C0 dX5_leastClash_49 7 rfl ?_
    refine callV4 C0 h (hD _ _ _) mw_X5_wouldClash rv_5 tm_X5_42 (fun y hy => c_X5_wouldClash hy) (Nat.le_of_ble_eq_true rfl) (Nat.le_of_ble_eq_true rfl) dX5_leastClash_51 (fun r6 h => ?_)
    refine r_if_eq C0 77 dX5_leastClash_54 rfl h (fun _ h => ?_) (fun _ h => ?_)
    · exact r_sub [0, 1, 2, 3, 4, 5, 6, 7] rfl (w_X5_leastClash_j77 C0 hD h hz)
    · refine r_iload C0 dX5_leastClash_57 4 rfl ?_
      refine r_aload_n C0 dX5_leastClash_59 rfl 0 rfl ?_
      refine wcg_5_0 C0 tf_X5_9 dX5_leastClash_60 ?_
      refine r_iload C0 dX5_leastClash_63 5 rfl ?_
      refine r_iconst C0 dX5_leastClash_65 ki_1 ?_
      refine r_isub C0 dX5_leastClash_66 ?_
      refine r_iload C0 dX5_leastClash_67 7 rfl ?_
      refine callV2 C0 h (hD _ _ _) mw_X3_thingIn rv_3 tm_X5_46 (fun y hy => c_X3_thingIn hy) (Nat.le_of_ble_eq_true rfl) (Nat.le_of_ble_eq_true rfl) dX5_leastClash_69 (fun r11 h => ?_)
      refine callS2 C0 h (hD _ _ _) ms_X5_lesser tm_X5_49 (fun y hy => c_X5_lesser hy) (Nat.le_of_ble_eq_true rfl) (Nat.le_of_ble_eq_true rfl) dX5_leastClash_72 (fun r12 h => ?_)
      refine r_istore (lv2 := [(5, .int r12), (0, .ref (a 5)), (2, .int v2), (3, .int v3), (4, .int v4), (6, .int v6), (7, .int v7), (8, .int x.2)]) C0 dX5_leastClash_75 rfl (Nat.le_of_ble_eq_true rfl) rfl ?_
      exact r_sub [1, 2, 3, 4, 0, 5, 6, 7] rfl (w_X5_leastClash_j77 C0 hD h hz)
theorem w_X5_leastClash_B31_lp {x : Int32 × Int32} {z : ((Int32 × Int32) ⊕ (Int32))} {Γ : Gam} {cy : Nat → ClassId} {a : Nat → Nat} {V : VT} {J : JT} {K : Nat → Option Nat} {X : va_W} {v2 : Int32} {v3 : Int32} {v4 : Int32} {v6 : Int32} {v7 : Int32}  (C0 : CXg Γ cX5_leastClash 9 2 RX5 cy) (hD : DC Γ cy a X) (h : lp (f_X5_leastClash_B31 v2 v3 v4 v6 v7 V) fuel x = some z) (hz : (Sum.elim (fun x : Int32 × Int32 => Wp Γ 0 0 7 [(0, .ref (a 5)), (2, .int v2), (3, .int v3), (4, .int v4), (5, .int x.1), (6, .int x.2)] [] (WC cy a V J K X)) (fun y : Int32 => FinI Γ cX5_leastClash (WC cy a V J K X) y)) z) : Wp Γ 0 0 31 [(0, .ref (a 5)), (2, .int v2), (3, .int v3), (4, .int v4), (5, .int x.1), (6, .int v6), (7, .int v7), (8, .int x.2)] [] (WC cy a V J K X) :=
  lp_rule (hd := (fun x : Int32 × Int32 => Wp Γ 0 0 31 [(0, .ref (a 5)), (2, .int v2), (3, .int v3), (4, .int v4), (5, .int x.1), (6, .int v6), (7, .int v7), (8, .int x.2)] [] (WC cy a V J K X))) (C := (Sum.elim (fun x : Int32 × Int32 => Wp Γ 0 0 7 [(0, .ref (a 5)), (2, .int v2), (3, .int v3), (4, .int v4), (5, .int x.1), (6, .int x.2)] [] (WC cy a V J K X)) (fun y : Int32 => FinI Γ cX5_leastClash (WC cy a V J K X) y))) (fun x z h hz => w_X5_leastClash_B31 C0 hD h hz) _ _ _ h hz
theorem w_X5_leastClash_B7 {x : Int32 × Int32} {z : ((Int32 × Int32) ⊕ (Int32))} {Γ : Gam} {cy : Nat → ClassId} {a : Nat → Nat} {V : VT} {J : JT} {K : Nat → Option Nat} {X : va_W} {v2 : Int32} {v3 : Int32} {v4 : Int32}  (C0 : CXg Γ cX5_leastClash 9 2 RX5 cy) (hD : DC Γ cy a X) (h : f_X5_leastClash_B7 v2 v3 v4 V x = some z) (hz : (Sum.elim (fun x : Int32 × Int32 => Wp Γ 0 0 7 [(0, .ref (a 5)), (2, .int v2), (3, .int v3), (4, .int v4), (5, .int x.1), (6, .int x.2)] [] (WC cy a V J K X)) (fun y : Int32 => FinI Γ cX5_leastClash (WC cy a V J K X) y)) z) : Wp Γ 0 0 7 [(0, .ref (a 5)), (2, .int v2), (3, .int v3), (4, .int v4), (5, .int x.1), (6, .int x.2)] [] (WC cy a V J K X) := by
  unfold f_X5_leastClash_B7 at h
  refine r_iload C0 dX5_leastClash_7 5 rfl ?_
  refine r_iload_n C0 dX5_leastClash_9 rfl 1 rfl ?_
  refine r_icmp_gt C0 126 dX5_leastClash_10 rfl h (fun _ h => ?_) (fun _ h => ?_)
  · obtain ⟨y2, h5, h9⟩ := op_bind h
    clear h
    cases h9
    have hz := (el_inr hz)
    have h := h5
    refine r_iload C0 dX5_leastClash_126 4 rfl ?_
    cases h
    exact hz _ _ dX5_leastClash_128
  · refine r_aload_n C0 dX5_leastClash_13 rfl 0 rfl ?_
    refine wcg_5_0 C0 tf_X5_9 dX5_leastClash_14 ?_
    refine wcg_3_0 C0 tf_X5_27 dX5_leastClash_17 ?_
    refine r_iload C0 dX5_leastClash_20 5 rfl ?_
    refine r_iconst C0 dX5_leastClash_22 ki_2 ?_
    refine callV2 C0 h (hD _ _ _) mw_X7_get (rv_t tb_10) tm_X5_21 (fun y hy => c_X7_get tb_10 hy) (Nat.le_of_ble_eq_true rfl) (Nat.le_of_ble_eq_true rfl) dX5_leastClash_23 (fun r3 h => ?_)
    refine r_istore (lv2 := [(7, .int r3), (0, .ref (a 5)), (2, .int v2), (3, .int v3), (4, .int v4), (5, .int x.1), (6, .int x.2)]) C0 dX5_leastClash_26 rfl (Nat.le_of_ble_eq_true rfl) rfl ?_
    refine r_iload_n C0 dX5_leastClash_28 rfl 3 rfl ?_
    refine r_istore (lv2 := [(8, .int v3), (7, .int r3), (0, .ref (a 5)), (2, .int v2), (3, .int v3), (4, .int v4), (5, .int x.1), (6, .int x.2)]) C0 dX5_leastClash_29 rfl (Nat.le_of_ble_eq_true rfl) rfl ?_
    exact r_sub [2, 3, 4, 5, 6, 7, 1, 0] rfl (w_X5_leastClash_B31_lp C0 hD h hz)
theorem w_X5_leastClash_B7_lp {x : Int32 × Int32} {z : (Int32)} {Γ : Gam} {cy : Nat → ClassId} {a : Nat → Nat} {V : VT} {J : JT} {K : Nat → Option Nat} {X : va_W} {v2 : Int32} {v3 : Int32} {v4 : Int32}  (C0 : CXg Γ cX5_leastClash 9 2 RX5 cy) (hD : DC Γ cy a X) (h : lp (f_X5_leastClash_B7 v2 v3 v4 V) fuel x = some z) (hz : (fun y : Int32 => FinI Γ cX5_leastClash (WC cy a V J K X) y) z) : Wp Γ 0 0 7 [(0, .ref (a 5)), (2, .int v2), (3, .int v3), (4, .int v4), (5, .int x.1), (6, .int x.2)] [] (WC cy a V J K X) :=
  lp_rule (hd := (fun x : Int32 × Int32 => Wp Γ 0 0 7 [(0, .ref (a 5)), (2, .int v2), (3, .int v3), (4, .int v4), (5, .int x.1), (6, .int x.2)] [] (WC cy a V J K X))) (C := (fun y : Int32 => FinI Γ cX5_leastClash (WC cy a V J K X) y)) (fun x z h hz => w_X5_leastClash_B7 C0 hD h hz) _ _ _ h hz
theorem w_X5_leastClash {z : Int32} {Γ : Gam} {cy : Nat → ClassId} {a : Nat → Nat} {V : VT} {J : JT} {K : Nat → Option Nat} {X : va_W} {v1 : Int32} {v2 : Int32} {v3 : Int32} {v4 : Int32}  (C0 : CXg Γ cX5_leastClash 9 2 RX5 cy) (hD : DC Γ cy a X) (h : f_X5_leastClash v1 v2 v3 v4 V = some z) (hz : (fun y : Int32 => FinI Γ cX5_leastClash (WC cy a V J K X) y) z) : Wp Γ 0 0 0 [(0, .ref (a 5)), (1, .int v1), (2, .int v2), (3, .int v3), (4, .int v4)] [] (WC cy a V J K X) := by
  unfold f_X5_leastClash at h
  refine r_ldc C0 tk_X5_41 dX5_leastClash_0 ?_
  obtain ⟨a1, h8, h⟩ := op_bind h
  have e8 := Option.some.inj h8
  refine r_istore (lv2 := [(5, .int a1), (0, .ref (a 5)), (1, .int v1), (2, .int v2), (3, .int v3), (4, .int v4)]) C0 dX5_leastClash_2 e8 (Nat.le_of_ble_eq_true rfl) rfl ?_
  refine r_iload_n C0 dX5_leastClash_4 rfl 2 rfl ?_
  refine r_istore (lv2 := [(6, .int v1), (5, .int a1), (0, .ref (a 5)), (1, .int v1), (2, .int v2), (3, .int v3), (4, .int v4)]) C0 dX5_leastClash_5 rfl (Nat.le_of_ble_eq_true rfl) rfl ?_
  exact r_sub [2, 4, 5, 6, 1, 0] rfl (w_X5_leastClash_B7_lp C0 hD h hz)
theorem c_X5_leastClash {l : Launch} {D : va_G} {cy : Nat → ClassId} {a : Nat → Nat} {V : VT} {J : JT} {K : Nat → Option Nat} {X : va_W} {v1 : Int32} {v2 : Int32} {v3 : Int32} {v4 : Int32} {y : Int32} (h : f_X5_leastClash v1 v2 v3 v4 V = some y) : CT l D cy yX5_leastClash cX5_leastClash 9 (some .int) 2 [.ref (a 5), .int v1, .int v2, .int v3, .int v4] (WC cy a V J K X) (WC cy a V J K X) (some (.int y)) :=
  mkI (by decide) (Nat.le_of_ble_eq_true rfl) (fun Γ _ _ C0 hD hF => w_X5_leastClash C0 (dc_of hD) h hF)
theorem dX2_judge_0 : decode cX2_judge 0 = .ok (.aload_n 0, 1) := by decide +kernel
theorem dX2_judge_1 : decode cX2_judge 1 = .ok (.getfield 23, 3) := by decide +kernel
theorem dX2_judge_4 : decode cX2_judge 4 = .ok (.iload_n 1, 1) := by decide +kernel
theorem dX2_judge_5 : decode cX2_judge 5 = .ok (.iload_n 2, 1) := by decide +kernel
theorem dX2_judge_6 : decode cX2_judge 6 = .ok (.iload_n 3, 1) := by decide +kernel
theorem dX2_judge_7 : decode cX2_judge 7 = .ok (.iload 4, 2) := by decide +kernel
theorem dX2_judge_9 : decode cX2_judge 9 = .ok (.invokevirtual 135, 3) := by decide +kernel
theorem dX2_judge_12 : decode cX2_judge 12 = .ok (.istore 5, 2) := by decide +kernel
theorem dX2_judge_14 : decode cX2_judge 14 = .ok (.iload 5, 2) := by decide +kernel
theorem dX2_judge_16 : decode cX2_judge 16 = .ok (.ldc 63, 2) := by decide +kernel
theorem dX2_judge_18 : decode cX2_judge 18 = .ok (.if_icmp .eq 16, 3) := by decide +kernel
theorem dX2_judge_21 : decode cX2_judge 21 = .ok (.aload_n 0, 1) := by decide +kernel
theorem dX2_judge_22 : decode cX2_judge 22 = .ok (.getfield 27, 3) := by decide +kernel
theorem dX2_judge_25 : decode cX2_judge 25 = .ok (.bipush 13, 2) := by decide +kernel
theorem dX2_judge_27 : decode cX2_judge 27 = .ok (.iload 5, 2) := by decide +kernel
theorem dX2_judge_29 : decode cX2_judge 29 = .ok (.invokevirtual 78, 3) := by decide +kernel
theorem dX2_judge_32 : decode cX2_judge 32 = .ok (.pop, 1) := by decide +kernel
theorem dX2_judge_33 : decode cX2_judge 33 = .ok (.return_, 1) := by decide +kernel
theorem dX2_judge_34 : decode cX2_judge 34 = .ok (.aload_n 0, 1) := by decide +kernel
theorem dX2_judge_35 : decode cX2_judge 35 = .ok (.getfield 23, 3) := by decide +kernel
theorem dX2_judge_38 : decode cX2_judge 38 = .ok (.iload_n 1, 1) := by decide +kernel
theorem dX2_judge_39 : decode cX2_judge 39 = .ok (.invokevirtual 73, 3) := by decide +kernel
theorem dX2_judge_42 : decode cX2_judge 42 = .ok (.istore 6, 2) := by decide +kernel
theorem dX2_judge_44 : decode cX2_judge 44 = .ok (.iload 6, 2) := by decide +kernel
theorem dX2_judge_46 : decode cX2_judge 46 = .ok (.ldc 63, 2) := by decide +kernel
theorem dX2_judge_48 : decode cX2_judge 48 = .ok (.if_icmp .eq 16, 3) := by decide +kernel
theorem dX2_judge_51 : decode cX2_judge 51 = .ok (.aload_n 0, 1) := by decide +kernel
theorem dX2_judge_52 : decode cX2_judge 52 = .ok (.getfield 27, 3) := by decide +kernel
theorem dX2_judge_55 : decode cX2_judge 55 = .ok (.bipush 14, 2) := by decide +kernel
theorem dX2_judge_57 : decode cX2_judge 57 = .ok (.iload 6, 2) := by decide +kernel
theorem dX2_judge_59 : decode cX2_judge 59 = .ok (.invokevirtual 78, 3) := by decide +kernel
theorem dX2_judge_62 : decode cX2_judge 62 = .ok (.pop, 1) := by decide +kernel
theorem dX2_judge_63 : decode cX2_judge 63 = .ok (.return_, 1) := by decide +kernel
theorem dX2_judge_64 : decode cX2_judge 64 = .ok (.iload_n 1, 1) := by decide +kernel
theorem dX2_judge_65 : decode cX2_judge 65 = .ok (.istore 7, 2) := by decide +kernel
theorem dX2_judge_67 : decode cX2_judge 67 = .ok (.iload 7, 2) := by decide +kernel
theorem dX2_judge_69 : decode cX2_judge 69 = .ok (.iload_n 2, 1) := by decide +kernel
theorem dX2_judge_70 : decode cX2_judge 70 = .ok (.if_icmp .gt 34, 3) := by decide +kernel
theorem dX2_judge_73 : decode cX2_judge 73 = .ok (.aload_n 0, 1) := by decide +kernel
theorem dX2_judge_74 : decode cX2_judge 74 = .ok (.getfield 19, 3) := by decide +kernel
theorem dX2_judge_77 : decode cX2_judge 77 = .ok (.iload 7, 2) := by decide +kernel
theorem dX2_judge_79 : decode cX2_judge 79 = .ok (.invokevirtual 138, 3) := by decide +kernel
theorem dX2_judge_82 : decode cX2_judge 82 = .ok (.ifCond .ne 16, 3) := by decide +kernel
theorem dX2_judge_85 : decode cX2_judge 85 = .ok (.aload_n 0, 1) := by decide +kernel
theorem dX2_judge_86 : decode cX2_judge 86 = .ok (.getfield 27, 3) := by decide +kernel
theorem dX2_judge_89 : decode cX2_judge 89 = .ok (.bipush 15, 2) := by decide +kernel
theorem dX2_judge_91 : decode cX2_judge 91 = .ok (.iload 7, 2) := by decide +kernel
theorem dX2_judge_93 : decode cX2_judge 93 = .ok (.invokevirtual 78, 3) := by decide +kernel
theorem dX2_judge_96 : decode cX2_judge 96 = .ok (.pop, 1) := by decide +kernel
theorem dX2_judge_97 : decode cX2_judge 97 = .ok (.return_, 1) := by decide +kernel
theorem dX2_judge_98 : decode cX2_judge 98 = .ok (.iinc 7 1, 3) := by decide +kernel
theorem dX2_judge_101 : decode cX2_judge 101 = .ok (.goto (-34), 3) := by decide +kernel
theorem dX2_judge_104 : decode cX2_judge 104 = .ok (.return_, 1) := by decide +kernel
theorem w_X2_judge_B67 {x : Int32 × VT × JT} {z : ((Int32 × VT × JT) ⊕ (VT × JT))} {Γ : Gam} {cy : Nat → ClassId} {a : Nat → Nat} {K : Nat → Option Nat} {X : va_W} {v2 : Int32}  (C0 : CXg Γ cX2_judge 8 4 RX2 cy) (hD : DC Γ cy a X) (h : f_X2_judge_B67 v2 x = some z) (hz : (Sum.elim (fun x : Int32 × VT × JT => Wp Γ 0 0 67 [(0, .ref (a 7)), (2, .int v2), (7, .int x.1)] [] (WC cy a x.2.1 x.2.2 K X)) (fun y : VT × JT => FinV Γ cX2_judge (WC cy a y.1 y.2 K X))) z) : Wp Γ 0 0 67 [(0, .ref (a 7)), (2, .int v2), (7, .int x.1)] [] (WC cy a x.2.1 x.2.2 K X) := by
  unfold f_X2_judge_B67 at h
  refine r_iload C0 dX2_judge_67 2 rfl ?_
  refine r_iload_n C0 dX2_judge_69 rfl 1 rfl ?_
  refine r_icmp_gt C0 104 dX2_judge_70 rfl h (fun _ h => ?_) (fun _ h => ?_)
  · obtain ⟨y3, h5, h9⟩ := op_bind h
    clear h
    cases h9
    have hz := (el_inr hz)
    have h := h5
    cases h
    exact hz _ _ dX2_judge_104
  · refine r_aload_n C0 dX2_judge_73 rfl 0 rfl ?_
    refine wcg_7_1 C0 tf_X2_19 dX2_judge_74 ?_
    refine r_iload C0 dX2_judge_77 2 rfl ?_
    refine callV1 C0 h (hD _ _ _) mw_X10_isHeld rv_4 tm_X2_138 (fun y hy => c_X10_isHeld hy) (Nat.le_of_ble_eq_true rfl) (Nat.le_of_ble_eq_true rfl) dX2_judge_79 (fun r4 h => ?_)
    refine r_if_ne C0 98 dX2_judge_82 rfl h (fun _ h => ?_) (fun _ h => ?_)
    · obtain ⟨a5, h8, h⟩ := op_bind h
      have e8 := Option.some.inj h8
      refine r_iinc (lv2 := [(7, .int a5), (0, .ref (a 7)), (2, .int v2)]) C0 dX2_judge_98 2 rfl ki_1 e8 (Nat.le_of_ble_eq_true rfl) rfl ?_
      refine r_goto C0 67 dX2_judge_101 rfl ?_
      cases h
      have hz := el_inl hz
      exact r_sub [1, 2, 0] rfl hz
    · obtain ⟨y6, h5, h9⟩ := op_bind h
      clear h
      cases h9
      have hz := (el_inr hz)
      have h := h5
      refine r_aload_n C0 dX2_judge_85 rfl 0 rfl ?_
      refine wcg_7_3 C0 tf_X2_27 dX2_judge_86 ?_
      refine r_bipush C0 dX2_judge_89 kb_15 ?_
      refine r_iload C0 dX2_judge_91 2 rfl ?_
      refine callV2 C0 h (hD _ _ _) mw_X9_refuseOver rv_2 tm_X2_78 (fun y hy => c_X9_refuseOver hy) (Nat.le_of_ble_eq_true rfl) (Nat.le_of_ble_eq_true rfl) dX2_judge_93 (fun r7 h => ?_)
      refine r_pop C0 dX2_judge_96 rfl ?_
      cases h
      exact hz _ _ dX2_judge_97
theorem w_X2_judge_B67_lp {x : Int32 × VT × JT} {z : (VT × JT)} {Γ : Gam} {cy : Nat → ClassId} {a : Nat → Nat} {K : Nat → Option Nat} {X : va_W} {v2 : Int32}  (C0 : CXg Γ cX2_judge 8 4 RX2 cy) (hD : DC Γ cy a X) (h : lp (f_X2_judge_B67 v2) fuel x = some z) (hz : (fun y : VT × JT => FinV Γ cX2_judge (WC cy a y.1 y.2 K X)) z) : Wp Γ 0 0 67 [(0, .ref (a 7)), (2, .int v2), (7, .int x.1)] [] (WC cy a x.2.1 x.2.2 K X) :=
  lp_rule (hd := (fun x : Int32 × VT × JT => Wp Γ 0 0 67 [(0, .ref (a 7)), (2, .int v2), (7, .int x.1)] [] (WC cy a x.2.1 x.2.2 K X))) (C := (fun y : VT × JT => FinV Γ cX2_judge (WC cy a y.1 y.2 K X))) (fun x z h hz => w_X2_judge_B67 C0 hD h hz) _ _ _ h hz
theorem w_X2_judge {z : VT × JT} {Γ : Gam} {cy : Nat → ClassId} {a : Nat → Nat} {V : VT} {J : JT} {K : Nat → Option Nat} {X : va_W} {v1 : Int32} {v2 : Int32} {v3 : Int32} {v4 : Int32}  (C0 : CXg Γ cX2_judge 8 4 RX2 cy) (hD : DC Γ cy a X) (h : f_X2_judge v1 v2 v3 v4 V J = some z) (hz : (fun y : VT × JT => FinV Γ cX2_judge (WC cy a y.1 y.2 K X)) z) : Wp Γ 0 0 0 [(0, .ref (a 7)), (1, .int v1), (2, .int v2), (3, .int v3), (4, .int v4)] [] (WC cy a V J K X) := by
  unfold f_X2_judge at h
  refine r_aload_n C0 dX2_judge_0 rfl 0 rfl ?_
  refine wcg_7_2 C0 tf_X2_23 dX2_judge_1 ?_
  refine r_iload_n C0 dX2_judge_4 rfl 1 rfl ?_
  refine r_iload_n C0 dX2_judge_5 rfl 2 rfl ?_
  refine r_iload_n C0 dX2_judge_6 rfl 3 rfl ?_
  refine r_iload C0 dX2_judge_7 4 rfl ?_
  refine callV4 C0 h (hD _ _ _) mw_X5_leastClash rv_5 tm_X2_135 (fun y hy => c_X5_leastClash hy) (Nat.le_of_ble_eq_true rfl) (Nat.le_of_ble_eq_true rfl) dX2_judge_9 (fun r1 h => ?_)
  refine r_istore (lv2 := [(5, .int r1), (0, .ref (a 7)), (1, .int v1), (2, .int v2), (3, .int v3), (4, .int v4)]) C0 dX2_judge_12 rfl (Nat.le_of_ble_eq_true rfl) rfl ?_
  refine r_iload C0 dX2_judge_14 0 rfl ?_
  refine r_ldc C0 tk_X2_63 dX2_judge_16 ?_
  refine r_icmp_eq C0 34 dX2_judge_18 rfl h (fun _ h => ?_) (fun _ h => ?_)
  · refine r_aload_n C0 dX2_judge_34 rfl 1 rfl ?_
    refine wcg_7_2 C0 tf_X2_23 dX2_judge_35 ?_
    refine r_iload_n C0 dX2_judge_38 rfl 2 rfl ?_
    refine callV1 C0 h (hD _ _ _) mw_X5_leastTooHot rv_5 tm_X2_73 (fun y hy => c_X5_leastTooHot hy) (Nat.le_of_ble_eq_true rfl) (Nat.le_of_ble_eq_true rfl) dX2_judge_39 (fun r2 h => ?_)
    refine r_istore (lv2 := [(6, .int r2), (5, .int r1), (0, .ref (a 7)), (1, .int v1), (2, .int v2), (3, .int v3), (4, .int v4)]) C0 dX2_judge_42 rfl (Nat.le_of_ble_eq_true rfl) rfl ?_
    refine r_iload C0 dX2_judge_44 0 rfl ?_
    refine r_ldc C0 tk_X2_63 dX2_judge_46 ?_
    refine r_icmp_eq C0 64 dX2_judge_48 rfl h (fun _ h => ?_) (fun _ h => ?_)
    · refine r_iload_n C0 dX2_judge_64 rfl 3 rfl ?_
      refine r_istore (lv2 := [(7, .int v1), (6, .int r2), (5, .int r1), (0, .ref (a 7)), (1, .int v1), (2, .int v2), (3, .int v3), (4, .int v4)]) C0 dX2_judge_65 rfl (Nat.le_of_ble_eq_true rfl) rfl ?_
      exact r_sub [3, 5, 0] rfl (w_X2_judge_B67_lp C0 hD h hz)
    · refine r_aload_n C0 dX2_judge_51 rfl 2 rfl ?_
      refine wcg_7_3 C0 tf_X2_27 dX2_judge_52 ?_
      refine r_bipush C0 dX2_judge_55 kb_14 ?_
      refine r_iload C0 dX2_judge_57 0 rfl ?_
      refine callV2 C0 h (hD _ _ _) mw_X9_refuseOver rv_2 tm_X2_78 (fun y hy => c_X9_refuseOver hy) (Nat.le_of_ble_eq_true rfl) (Nat.le_of_ble_eq_true rfl) dX2_judge_59 (fun r8 h => ?_)
      refine r_pop C0 dX2_judge_62 rfl ?_
      cases h
      exact hz _ _ dX2_judge_63
  · refine r_aload_n C0 dX2_judge_21 rfl 1 rfl ?_
    refine wcg_7_3 C0 tf_X2_27 dX2_judge_22 ?_
    refine r_bipush C0 dX2_judge_25 kb_13 ?_
    refine r_iload C0 dX2_judge_27 0 rfl ?_
    refine callV2 C0 h (hD _ _ _) mw_X9_refuseOver rv_2 tm_X2_78 (fun y hy => c_X9_refuseOver hy) (Nat.le_of_ble_eq_true rfl) (Nat.le_of_ble_eq_true rfl) dX2_judge_29 (fun r9 h => ?_)
    refine r_pop C0 dX2_judge_32 rfl ?_
    cases h
    exact hz _ _ dX2_judge_33
theorem c_X2_judge {l : Launch} {D : va_G} {cy : Nat → ClassId} {a : Nat → Nat} {V : VT} {J : JT} {K : Nat → Option Nat} {X : va_W} {v1 : Int32} {v2 : Int32} {v3 : Int32} {v4 : Int32} {y : VT × JT} (h : f_X2_judge v1 v2 v3 v4 V J = some y) : CT l D cy yX2_judge cX2_judge 8 none 4 [.ref (a 7), .int v1, .int v2, .int v3, .int v4] (WC cy a V J K X) (WC cy a y.1 y.2 K X) none :=
  mkV (by decide) (Nat.le_of_ble_eq_true rfl) (fun Γ _ _ C0 hD hF => w_X2_judge C0 (dc_of hD) h hF)
theorem dX3_hasPlace_0 : decode cX3_hasPlace 0 = .ok (.iload_n 2, 1) := by decide +kernel
theorem dX3_hasPlace_1 : decode cX3_hasPlace 1 = .ok (.ifCond .lt 20, 3) := by decide +kernel
theorem dX3_hasPlace_4 : decode cX3_hasPlace 4 = .ok (.iload_n 2, 1) := by decide +kernel
theorem dX3_hasPlace_5 : decode cX3_hasPlace 5 = .ok (.aload_n 0, 1) := by decide +kernel
theorem dX3_hasPlace_6 : decode cX3_hasPlace 6 = .ok (.getfield 15, 3) := by decide +kernel
theorem dX3_hasPlace_9 : decode cX3_hasPlace 9 = .ok (.iload_n 1, 1) := by decide +kernel
theorem dX3_hasPlace_10 : decode cX3_hasPlace 10 = .ok (.iconst 0, 1) := by decide +kernel
theorem dX3_hasPlace_11 : decode cX3_hasPlace 11 = .ok (.invokevirtual 42, 3) := by decide +kernel
theorem dX3_hasPlace_14 : decode cX3_hasPlace 14 = .ok (.if_icmp .ge 7, 3) := by decide +kernel
theorem dX3_hasPlace_17 : decode cX3_hasPlace 17 = .ok (.iconst 1, 1) := by decide +kernel
theorem dX3_hasPlace_18 : decode cX3_hasPlace 18 = .ok (.goto 4, 3) := by decide +kernel
theorem dX3_hasPlace_21 : decode cX3_hasPlace 21 = .ok (.iconst 0, 1) := by decide +kernel
theorem dX3_hasPlace_22 : decode cX3_hasPlace 22 = .ok (.ireturn, 1) := by decide +kernel
theorem w_X3_hasPlace_j21 {z : (Int32)} {Γ : Gam} {cy : Nat → ClassId} {a : Nat → Nat} {V : VT} {J : JT} {K : Nat → Option Nat} {X : va_W}  (C0 : CXg Γ cX3_hasPlace 3 1 RX3 cy) (hD : DC Γ cy a X) (h : f_X3_hasPlace_j21 V = some z) (hz : (fun y : Int32 => FinZ Γ cX3_hasPlace (WC cy a V J K X) y) z) : Wp Γ 0 0 21 [] [] (WC cy a V J K X) := by
  unfold f_X3_hasPlace_j21 at h
  refine r_iconst C0 dX3_hasPlace_21 ki_0 ?_
  cases h
  exact hz _ _ nz_0 dX3_hasPlace_22
theorem w_X3_hasPlace {z : Int32} {Γ : Gam} {cy : Nat → ClassId} {a : Nat → Nat} {V : VT} {J : JT} {K : Nat → Option Nat} {X : va_W} {v1 : Int32} {v2 : Int32}  (C0 : CXg Γ cX3_hasPlace 3 1 RX3 cy) (hD : DC Γ cy a X) (h : f_X3_hasPlace v1 v2 V = some z) (hz : (fun y : Int32 => FinZ Γ cX3_hasPlace (WC cy a V J K X) y) z) : Wp Γ 0 0 0 [(0, .ref (a 3)), (1, .int v1), (2, .int v2)] [] (WC cy a V J K X) := by
  unfold f_X3_hasPlace at h
  refine r_iload_n C0 dX3_hasPlace_0 rfl 2 rfl ?_
  refine r_if_lt C0 21 dX3_hasPlace_1 rfl h (fun _ h => ?_) (fun _ h => ?_)
  · exact r_sub [] rfl (w_X3_hasPlace_j21 C0 hD h hz)
  · refine r_iload_n C0 dX3_hasPlace_4 rfl 2 rfl ?_
    refine r_aload_n C0 dX3_hasPlace_5 rfl 0 rfl ?_
    refine wcg_3_0 C0 tf_X3_15 dX3_hasPlace_6 ?_
    refine r_iload_n C0 dX3_hasPlace_9 rfl 1 rfl ?_
    refine r_iconst C0 dX3_hasPlace_10 ki_0 ?_
    refine callV2 C0 h (hD _ _ _) mw_X7_get (rv_t tb_10) tm_X3_42 (fun y hy => c_X7_get tb_10 hy) (Nat.le_of_ble_eq_true rfl) (Nat.le_of_ble_eq_true rfl) dX3_hasPlace_11 (fun r1 h => ?_)
    refine r_icmp_ge C0 21 dX3_hasPlace_14 rfl h (fun _ h => ?_) (fun _ h => ?_)
    · exact r_sub [] rfl (w_X3_hasPlace_j21 C0 hD h hz)
    · refine r_iconst C0 dX3_hasPlace_17 ki_1 ?_
      refine r_goto C0 22 dX3_hasPlace_18 rfl ?_
      cases h
      exact hz _ _ nz_1 dX3_hasPlace_22
theorem c_X3_hasPlace {l : Launch} {D : va_G} {cy : Nat → ClassId} {a : Nat → Nat} {V : VT} {J : JT} {K : Nat → Option Nat} {X : va_W} {v1 : Int32} {v2 : Int32} {y : Int32} (h : f_X3_hasPlace v1 v2 V = some y) : CT l D cy yX3_hasPlace cX3_hasPlace 3 (some .boolean) 1 [.ref (a 3), .int v1, .int v2] (WC cy a V J K X) (WC cy a V J K X) (some (.int y)) :=
  mkZ (by decide) (Nat.le_of_ble_eq_true rfl) (fun Γ _ _ C0 hD hF => w_X3_hasPlace C0 (dc_of hD) h hF)
theorem dX3_isFree_0 : decode cX3_isFree 0 = .ok (.aload_n 0, 1) := by decide +kernel
theorem dX3_isFree_1 : decode cX3_isFree 1 = .ok (.getfield 21, 3) := by decide +kernel
theorem dX3_isFree_4 : decode cX3_isFree 4 = .ok (.iload_n 1, 1) := by decide +kernel
theorem dX3_isFree_5 : decode cX3_isFree 5 = .ok (.iload_n 2, 1) := by decide +kernel
theorem dX3_isFree_6 : decode cX3_isFree 6 = .ok (.invokevirtual 42, 3) := by decide +kernel
theorem dX3_isFree_9 : decode cX3_isFree 9 = .ok (.ifCond .ne 7, 3) := by decide +kernel
theorem dX3_isFree_12 : decode cX3_isFree 12 = .ok (.iconst 1, 1) := by decide +kernel
theorem dX3_isFree_13 : decode cX3_isFree 13 = .ok (.goto 4, 3) := by decide +kernel
theorem dX3_isFree_16 : decode cX3_isFree 16 = .ok (.iconst 0, 1) := by decide +kernel
theorem dX3_isFree_17 : decode cX3_isFree 17 = .ok (.ireturn, 1) := by decide +kernel
theorem w_X3_isFree {z : Int32} {Γ : Gam} {cy : Nat → ClassId} {a : Nat → Nat} {V : VT} {J : JT} {K : Nat → Option Nat} {X : va_W} {v1 : Int32} {v2 : Int32}  (C0 : CXg Γ cX3_isFree 3 1 RX3 cy) (hD : DC Γ cy a X) (h : f_X3_isFree v1 v2 V = some z) (hz : (fun y : Int32 => FinZ Γ cX3_isFree (WC cy a V J K X) y) z) : Wp Γ 0 0 0 [(0, .ref (a 3)), (1, .int v1), (2, .int v2)] [] (WC cy a V J K X) := by
  unfold f_X3_isFree at h
  refine r_aload_n C0 dX3_isFree_0 rfl 0 rfl ?_
  refine wcg_3_1 C0 tf_X3_21 dX3_isFree_1 ?_
  refine r_iload_n C0 dX3_isFree_4 rfl 1 rfl ?_
  refine r_iload_n C0 dX3_isFree_5 rfl 2 rfl ?_
  refine callV2 C0 h (hD _ _ _) mw_X7_get (rv_t tb_11) tm_X3_42 (fun y hy => c_X7_get tb_11 hy) (Nat.le_of_ble_eq_true rfl) (Nat.le_of_ble_eq_true rfl) dX3_isFree_6 (fun r1 h => ?_)
  refine r_if_ne C0 16 dX3_isFree_9 rfl h (fun _ h => ?_) (fun _ h => ?_)
  · refine r_iconst C0 dX3_isFree_16 ki_0 ?_
    cases h
    exact hz _ _ nz_0 dX3_isFree_17
  · refine r_iconst C0 dX3_isFree_12 ki_1 ?_
    refine r_goto C0 17 dX3_isFree_13 rfl ?_
    cases h
    exact hz _ _ nz_1 dX3_isFree_17
theorem c_X3_isFree {l : Launch} {D : va_G} {cy : Nat → ClassId} {a : Nat → Nat} {V : VT} {J : JT} {K : Nat → Option Nat} {X : va_W} {v1 : Int32} {v2 : Int32} {y : Int32} (h : f_X3_isFree v1 v2 V = some y) : CT l D cy yX3_isFree cX3_isFree 3 (some .boolean) 1 [.ref (a 3), .int v1, .int v2] (WC cy a V J K X) (WC cy a V J K X) (some (.int y)) :=
  mkZ (by decide) (Nat.le_of_ble_eq_true rfl) (fun Γ _ _ C0 hD hF => w_X3_isFree C0 (dc_of hD) h hF)
theorem dX3_isHigh_0 : decode cX3_isHigh 0 = .ok (.aload_n 0, 1) := by decide +kernel
theorem dX3_isHigh_1 : decode cX3_isHigh 1 = .ok (.getfield 15, 3) := by decide +kernel
theorem dX3_isHigh_4 : decode cX3_isHigh 4 = .ok (.iload_n 1, 1) := by decide +kernel
theorem dX3_isHigh_5 : decode cX3_isHigh 5 = .ok (.iconst 2, 1) := by decide +kernel
theorem dX3_isHigh_6 : decode cX3_isHigh 6 = .ok (.invokevirtual 42, 3) := by decide +kernel
theorem dX3_isHigh_9 : decode cX3_isHigh 9 = .ok (.ifCond .eq 7, 3) := by decide +kernel
theorem dX3_isHigh_12 : decode cX3_isHigh 12 = .ok (.iconst 1, 1) := by decide +kernel
theorem dX3_isHigh_13 : decode cX3_isHigh 13 = .ok (.goto 4, 3) := by decide +kernel
theorem dX3_isHigh_16 : decode cX3_isHigh 16 = .ok (.iconst 0, 1) := by decide +kernel
theorem dX3_isHigh_17 : decode cX3_isHigh 17 = .ok (.ireturn, 1) := by decide +kernel
theorem w_X3_isHigh {z : Int32} {Γ : Gam} {cy : Nat → ClassId} {a : Nat → Nat} {V : VT} {J : JT} {K : Nat → Option Nat} {X : va_W} {v1 : Int32}  (C0 : CXg Γ cX3_isHigh 2 1 RX3 cy) (hD : DC Γ cy a X) (h : f_X3_isHigh v1 V = some z) (hz : (fun y : Int32 => FinZ Γ cX3_isHigh (WC cy a V J K X) y) z) : Wp Γ 0 0 0 [(0, .ref (a 3)), (1, .int v1)] [] (WC cy a V J K X) := by
  unfold f_X3_isHigh at h
  refine r_aload_n C0 dX3_isHigh_0 rfl 0 rfl ?_
  refine wcg_3_0 C0 tf_X3_15 dX3_isHigh_1 ?_
  refine r_iload_n C0 dX3_isHigh_4 rfl 1 rfl ?_
  refine r_iconst C0 dX3_isHigh_5 ki_2 ?_
  refine callV2 C0 h (hD _ _ _) mw_X7_get (rv_t tb_10) tm_X3_42 (fun y hy => c_X7_get tb_10 hy) (Nat.le_of_ble_eq_true rfl) (Nat.le_of_ble_eq_true rfl) dX3_isHigh_6 (fun r1 h => ?_)
  refine r_if_eq C0 16 dX3_isHigh_9 rfl h (fun _ h => ?_) (fun _ h => ?_)
  · refine r_iconst C0 dX3_isHigh_16 ki_0 ?_
    cases h
    exact hz _ _ nz_0 dX3_isHigh_17
  · refine r_iconst C0 dX3_isHigh_12 ki_1 ?_
    refine r_goto C0 17 dX3_isHigh_13 rfl ?_
    cases h
    exact hz _ _ nz_1 dX3_isHigh_17
theorem c_X3_isHigh {l : Launch} {D : va_G} {cy : Nat → ClassId} {a : Nat → Nat} {V : VT} {J : JT} {K : Nat → Option Nat} {X : va_W} {v1 : Int32} {y : Int32} (h : f_X3_isHigh v1 V = some y) : CT l D cy yX3_isHigh cX3_isHigh 2 (some .boolean) 1 [.ref (a 3), .int v1] (WC cy a V J K X) (WC cy a V J K X) (some (.int y)) :=
  mkZ (by decide) (Nat.le_of_ble_eq_true rfl) (fun Γ _ _ C0 hD hF => w_X3_isHigh C0 (dc_of hD) h hF)
theorem dX2_whyNoRoom_0 : decode cX2_whyNoRoom 0 = .ok (.aload_n 0, 1) := by decide +kernel
theorem dX2_whyNoRoom_1 : decode cX2_whyNoRoom 1 = .ok (.getfield 15, 3) := by decide +kernel
theorem dX2_whyNoRoom_4 : decode cX2_whyNoRoom 4 = .ok (.iload_n 1, 1) := by decide +kernel
theorem dX2_whyNoRoom_5 : decode cX2_whyNoRoom 5 = .ok (.invokevirtual 123, 3) := by decide +kernel
theorem dX2_whyNoRoom_8 : decode cX2_whyNoRoom 8 = .ok (.ifCond .eq 14, 3) := by decide +kernel
theorem dX2_whyNoRoom_11 : decode cX2_whyNoRoom 11 = .ok (.aload_n 0, 1) := by decide +kernel
theorem dX2_whyNoRoom_12 : decode cX2_whyNoRoom 12 = .ok (.getfield 15, 3) := by decide +kernel
theorem dX2_whyNoRoom_15 : decode cX2_whyNoRoom 15 = .ok (.iload_n 2, 1) := by decide +kernel
theorem dX2_whyNoRoom_16 : decode cX2_whyNoRoom 16 = .ok (.invokevirtual 123, 3) := by decide +kernel
theorem dX2_whyNoRoom_19 : decode cX2_whyNoRoom 19 = .ok (.ifCond .ne 5, 3) := by decide +kernel
theorem dX2_whyNoRoom_22 : decode cX2_whyNoRoom 22 = .ok (.iconst 2, 1) := by decide +kernel
theorem dX2_whyNoRoom_23 : decode cX2_whyNoRoom 23 = .ok (.ireturn, 1) := by decide +kernel
theorem dX2_whyNoRoom_24 : decode cX2_whyNoRoom 24 = .ok (.aload_n 0, 1) := by decide +kernel
theorem dX2_whyNoRoom_25 : decode cX2_whyNoRoom 25 = .ok (.getfield 15, 3) := by decide +kernel
theorem dX2_whyNoRoom_28 : decode cX2_whyNoRoom 28 = .ok (.iload_n 1, 1) := by decide +kernel
theorem dX2_whyNoRoom_29 : decode cX2_whyNoRoom 29 = .ok (.invokevirtual 126, 3) := by decide +kernel
theorem dX2_whyNoRoom_32 : decode cX2_whyNoRoom 32 = .ok (.ifCond .eq 14, 3) := by decide +kernel
theorem dX2_whyNoRoom_35 : decode cX2_whyNoRoom 35 = .ok (.aload_n 0, 1) := by decide +kernel
theorem dX2_whyNoRoom_36 : decode cX2_whyNoRoom 36 = .ok (.getfield 15, 3) := by decide +kernel
theorem dX2_whyNoRoom_39 : decode cX2_whyNoRoom 39 = .ok (.iload_n 2, 1) := by decide +kernel
theorem dX2_whyNoRoom_40 : decode cX2_whyNoRoom 40 = .ok (.invokevirtual 126, 3) := by decide +kernel
theorem dX2_whyNoRoom_43 : decode cX2_whyNoRoom 43 = .ok (.ifCond .ne 5, 3) := by decide +kernel
theorem dX2_whyNoRoom_46 : decode cX2_whyNoRoom 46 = .ok (.iconst 1, 1) := by decide +kernel
theorem dX2_whyNoRoom_47 : decode cX2_whyNoRoom 47 = .ok (.ireturn, 1) := by decide +kernel
theorem dX2_whyNoRoom_48 : decode cX2_whyNoRoom 48 = .ok (.aload_n 0, 1) := by decide +kernel
theorem dX2_whyNoRoom_49 : decode cX2_whyNoRoom 49 = .ok (.getfield 15, 3) := by decide +kernel
theorem dX2_whyNoRoom_52 : decode cX2_whyNoRoom 52 = .ok (.iload_n 1, 1) := by decide +kernel
theorem dX2_whyNoRoom_53 : decode cX2_whyNoRoom 53 = .ok (.iload_n 3, 1) := by decide +kernel
theorem dX2_whyNoRoom_54 : decode cX2_whyNoRoom 54 = .ok (.invokevirtual 129, 3) := by decide +kernel
theorem dX2_whyNoRoom_57 : decode cX2_whyNoRoom 57 = .ok (.ifCond .eq 15, 3) := by decide +kernel
theorem dX2_whyNoRoom_60 : decode cX2_whyNoRoom 60 = .ok (.aload_n 0, 1) := by decide +kernel
theorem dX2_whyNoRoom_61 : decode cX2_whyNoRoom 61 = .ok (.getfield 15, 3) := by decide +kernel
theorem dX2_whyNoRoom_64 : decode cX2_whyNoRoom 64 = .ok (.iload_n 2, 1) := by decide +kernel
theorem dX2_whyNoRoom_65 : decode cX2_whyNoRoom 65 = .ok (.iload_n 3, 1) := by decide +kernel
theorem dX2_whyNoRoom_66 : decode cX2_whyNoRoom 66 = .ok (.invokevirtual 129, 3) := by decide +kernel
theorem dX2_whyNoRoom_69 : decode cX2_whyNoRoom 69 = .ok (.ifCond .ne 5, 3) := by decide +kernel
theorem dX2_whyNoRoom_72 : decode cX2_whyNoRoom 72 = .ok (.iconst 2, 1) := by decide +kernel
theorem dX2_whyNoRoom_73 : decode cX2_whyNoRoom 73 = .ok (.ireturn, 1) := by decide +kernel
theorem dX2_whyNoRoom_74 : decode cX2_whyNoRoom 74 = .ok (.aload_n 0, 1) := by decide +kernel
theorem dX2_whyNoRoom_75 : decode cX2_whyNoRoom 75 = .ok (.getfield 15, 3) := by decide +kernel
theorem dX2_whyNoRoom_78 : decode cX2_whyNoRoom 78 = .ok (.iload_n 1, 1) := by decide +kernel
theorem dX2_whyNoRoom_79 : decode cX2_whyNoRoom 79 = .ok (.invokevirtual 98, 3) := by decide +kernel
theorem dX2_whyNoRoom_82 : decode cX2_whyNoRoom 82 = .ok (.ifCond .ne 14, 3) := by decide +kernel
theorem dX2_whyNoRoom_85 : decode cX2_whyNoRoom 85 = .ok (.aload_n 0, 1) := by decide +kernel
theorem dX2_whyNoRoom_86 : decode cX2_whyNoRoom 86 = .ok (.getfield 15, 3) := by decide +kernel
theorem dX2_whyNoRoom_89 : decode cX2_whyNoRoom 89 = .ok (.iload_n 2, 1) := by decide +kernel
theorem dX2_whyNoRoom_90 : decode cX2_whyNoRoom 90 = .ok (.invokevirtual 98, 3) := by decide +kernel
theorem dX2_whyNoRoom_93 : decode cX2_whyNoRoom 93 = .ok (.ifCond .eq 6, 3) := by decide +kernel
theorem dX2_whyNoRoom_96 : decode cX2_whyNoRoom 96 = .ok (.bipush 10, 2) := by decide +kernel
theorem dX2_whyNoRoom_98 : decode cX2_whyNoRoom 98 = .ok (.ireturn, 1) := by decide +kernel
theorem dX2_whyNoRoom_99 : decode cX2_whyNoRoom 99 = .ok (.aload_n 0, 1) := by decide +kernel
theorem dX2_whyNoRoom_100 : decode cX2_whyNoRoom 100 = .ok (.getfield 15, 3) := by decide +kernel
theorem dX2_whyNoRoom_103 : decode cX2_whyNoRoom 103 = .ok (.iload_n 1, 1) := by decide +kernel
theorem dX2_whyNoRoom_104 : decode cX2_whyNoRoom 104 = .ok (.iload_n 3, 1) := by decide +kernel
theorem dX2_whyNoRoom_105 : decode cX2_whyNoRoom 105 = .ok (.invokevirtual 132, 3) := by decide +kernel
theorem dX2_whyNoRoom_108 : decode cX2_whyNoRoom 108 = .ok (.ifCond .eq 19, 3) := by decide +kernel
theorem dX2_whyNoRoom_111 : decode cX2_whyNoRoom 111 = .ok (.aload_n 0, 1) := by decide +kernel
theorem dX2_whyNoRoom_112 : decode cX2_whyNoRoom 112 = .ok (.getfield 15, 3) := by decide +kernel
theorem dX2_whyNoRoom_115 : decode cX2_whyNoRoom 115 = .ok (.iload_n 2, 1) := by decide +kernel
theorem dX2_whyNoRoom_116 : decode cX2_whyNoRoom 116 = .ok (.iload_n 3, 1) := by decide +kernel
theorem dX2_whyNoRoom_117 : decode cX2_whyNoRoom 117 = .ok (.invokevirtual 132, 3) := by decide +kernel
theorem dX2_whyNoRoom_120 : decode cX2_whyNoRoom 120 = .ok (.ifCond .eq 7, 3) := by decide +kernel
theorem dX2_whyNoRoom_123 : decode cX2_whyNoRoom 123 = .ok (.iconst 0, 1) := by decide +kernel
theorem dX2_whyNoRoom_124 : decode cX2_whyNoRoom 124 = .ok (.goto 5, 3) := by decide +kernel
theorem dX2_whyNoRoom_127 : decode cX2_whyNoRoom 127 = .ok (.bipush 12, 2) := by decide +kernel
theorem dX2_whyNoRoom_129 : decode cX2_whyNoRoom 129 = .ok (.ireturn, 1) := by decide +kernel
theorem w_X2_whyNoRoom_j127 {z : (Int32)} {Γ : Gam} {cy : Nat → ClassId} {a : Nat → Nat} {V : VT} {J : JT} {K : Nat → Option Nat} {X : va_W}  (C0 : CXg Γ cX2_whyNoRoom 4 2 RX2 cy) (hD : DC Γ cy a X) (h : f_X2_whyNoRoom_j127 V = some z) (hz : (fun y : Int32 => FinI Γ cX2_whyNoRoom (WC cy a V J K X) y) z) : Wp Γ 0 0 127 [] [] (WC cy a V J K X) := by
  unfold f_X2_whyNoRoom_j127 at h
  refine r_bipush C0 dX2_whyNoRoom_127 kb_12 ?_
  cases h
  exact hz _ _ dX2_whyNoRoom_129
theorem w_X2_whyNoRoom {z : Int32} {Γ : Gam} {cy : Nat → ClassId} {a : Nat → Nat} {V : VT} {J : JT} {K : Nat → Option Nat} {X : va_W} {v1 : Int32} {v2 : Int32} {v3 : Int32}  (C0 : CXg Γ cX2_whyNoRoom 4 2 RX2 cy) (hD : DC Γ cy a X) (h : f_X2_whyNoRoom v1 v2 v3 V = some z) (hz : (fun y : Int32 => FinI Γ cX2_whyNoRoom (WC cy a V J K X) y) z) : Wp Γ 0 0 0 [(0, .ref (a 7)), (1, .int v1), (2, .int v2), (3, .int v3)] [] (WC cy a V J K X) := by
  unfold f_X2_whyNoRoom at h
  refine r_aload_n C0 dX2_whyNoRoom_0 rfl 0 rfl ?_
  refine wcg_7_0 C0 tf_X2_15 dX2_whyNoRoom_1 ?_
  refine r_iload_n C0 dX2_whyNoRoom_4 rfl 1 rfl ?_
  refine callV1 C0 h (hD _ _ _) mw_X3_isBar rv_3 tm_X2_123 (fun y hy => c_X3_isBar hy) (Nat.le_of_ble_eq_true rfl) (Nat.le_of_ble_eq_true rfl) dX2_whyNoRoom_5 (fun r1 h => ?_)
  refine r_if_eq C0 22 dX2_whyNoRoom_8 rfl h (fun _ h => ?_) (fun _ h => ?_)
  · refine r_iconst C0 dX2_whyNoRoom_22 ki_2 ?_
    cases h
    exact hz _ _ dX2_whyNoRoom_23
  · refine r_aload_n C0 dX2_whyNoRoom_11 rfl 0 rfl ?_
    refine wcg_7_0 C0 tf_X2_15 dX2_whyNoRoom_12 ?_
    refine r_iload_n C0 dX2_whyNoRoom_15 rfl 2 rfl ?_
    refine callV1 C0 h (hD _ _ _) mw_X3_isBar rv_3 tm_X2_123 (fun y hy => c_X3_isBar hy) (Nat.le_of_ble_eq_true rfl) (Nat.le_of_ble_eq_true rfl) dX2_whyNoRoom_16 (fun r2 h => ?_)
    refine r_if_ne C0 24 dX2_whyNoRoom_19 rfl h (fun _ h => ?_) (fun _ h => ?_)
    · refine r_aload_n C0 dX2_whyNoRoom_24 rfl 0 rfl ?_
      refine wcg_7_0 C0 tf_X2_15 dX2_whyNoRoom_25 ?_
      refine r_iload_n C0 dX2_whyNoRoom_28 rfl 1 rfl ?_
      refine callV1 C0 h (hD _ _ _) mw_X3_isRigged rv_3 tm_X2_126 (fun y hy => c_X3_isRigged hy) (Nat.le_of_ble_eq_true rfl) (Nat.le_of_ble_eq_true rfl) dX2_whyNoRoom_29 (fun r3 h => ?_)
      refine r_if_eq C0 46 dX2_whyNoRoom_32 rfl h (fun _ h => ?_) (fun _ h => ?_)
      · refine r_iconst C0 dX2_whyNoRoom_46 ki_1 ?_
        cases h
        exact hz _ _ dX2_whyNoRoom_47
      · refine r_aload_n C0 dX2_whyNoRoom_35 rfl 0 rfl ?_
        refine wcg_7_0 C0 tf_X2_15 dX2_whyNoRoom_36 ?_
        refine r_iload_n C0 dX2_whyNoRoom_39 rfl 2 rfl ?_
        refine callV1 C0 h (hD _ _ _) mw_X3_isRigged rv_3 tm_X2_126 (fun y hy => c_X3_isRigged hy) (Nat.le_of_ble_eq_true rfl) (Nat.le_of_ble_eq_true rfl) dX2_whyNoRoom_40 (fun r4 h => ?_)
        refine r_if_ne C0 48 dX2_whyNoRoom_43 rfl h (fun _ h => ?_) (fun _ h => ?_)
        · refine r_aload_n C0 dX2_whyNoRoom_48 rfl 0 rfl ?_
          refine wcg_7_0 C0 tf_X2_15 dX2_whyNoRoom_49 ?_
          refine r_iload_n C0 dX2_whyNoRoom_52 rfl 1 rfl ?_
          refine r_iload_n C0 dX2_whyNoRoom_53 rfl 3 rfl ?_
          refine callV2 C0 h (hD _ _ _) mw_X3_hasPlace rv_3 tm_X2_129 (fun y hy => c_X3_hasPlace hy) (Nat.le_of_ble_eq_true rfl) (Nat.le_of_ble_eq_true rfl) dX2_whyNoRoom_54 (fun r5 h => ?_)
          refine r_if_eq C0 72 dX2_whyNoRoom_57 rfl h (fun _ h => ?_) (fun _ h => ?_)
          · refine r_iconst C0 dX2_whyNoRoom_72 ki_2 ?_
            cases h
            exact hz _ _ dX2_whyNoRoom_73
          · refine r_aload_n C0 dX2_whyNoRoom_60 rfl 0 rfl ?_
            refine wcg_7_0 C0 tf_X2_15 dX2_whyNoRoom_61 ?_
            refine r_iload_n C0 dX2_whyNoRoom_64 rfl 2 rfl ?_
            refine r_iload_n C0 dX2_whyNoRoom_65 rfl 3 rfl ?_
            refine callV2 C0 h (hD _ _ _) mw_X3_hasPlace rv_3 tm_X2_129 (fun y hy => c_X3_hasPlace hy) (Nat.le_of_ble_eq_true rfl) (Nat.le_of_ble_eq_true rfl) dX2_whyNoRoom_66 (fun r6 h => ?_)
            refine r_if_ne C0 74 dX2_whyNoRoom_69 rfl h (fun _ h => ?_) (fun _ h => ?_)
            · refine r_aload_n C0 dX2_whyNoRoom_74 rfl 0 rfl ?_
              refine wcg_7_0 C0 tf_X2_15 dX2_whyNoRoom_75 ?_
              refine r_iload_n C0 dX2_whyNoRoom_78 rfl 1 rfl ?_
              refine callV1 C0 h (hD _ _ _) mw_X3_isHigh rv_3 tm_X2_98 (fun y hy => c_X3_isHigh hy) (Nat.le_of_ble_eq_true rfl) (Nat.le_of_ble_eq_true rfl) dX2_whyNoRoom_79 (fun r7 h => ?_)
              refine r_if_ne C0 96 dX2_whyNoRoom_82 rfl h (fun _ h => ?_) (fun _ h => ?_)
              · refine r_bipush C0 dX2_whyNoRoom_96 kb_10 ?_
                cases h
                exact hz _ _ dX2_whyNoRoom_98
              · refine r_aload_n C0 dX2_whyNoRoom_85 rfl 0 rfl ?_
                refine wcg_7_0 C0 tf_X2_15 dX2_whyNoRoom_86 ?_
                refine r_iload_n C0 dX2_whyNoRoom_89 rfl 2 rfl ?_
                refine callV1 C0 h (hD _ _ _) mw_X3_isHigh rv_3 tm_X2_98 (fun y hy => c_X3_isHigh hy) (Nat.le_of_ble_eq_true rfl) (Nat.le_of_ble_eq_true rfl) dX2_whyNoRoom_90 (fun r8 h => ?_)
                refine r_if_eq C0 99 dX2_whyNoRoom_93 rfl h (fun _ h => ?_) (fun _ h => ?_)
                · refine r_aload_n C0 dX2_whyNoRoom_99 rfl 0 rfl ?_
                  refine wcg_7_0 C0 tf_X2_15 dX2_whyNoRoom_100 ?_
                  refine r_iload_n C0 dX2_whyNoRoom_103 rfl 1 rfl ?_
                  refine r_iload_n C0 dX2_whyNoRoom_104 rfl 3 rfl ?_
                  refine callV2 C0 h (hD _ _ _) mw_X3_isFree rv_3 tm_X2_132 (fun y hy => c_X3_isFree hy) (Nat.le_of_ble_eq_true rfl) (Nat.le_of_ble_eq_true rfl) dX2_whyNoRoom_105 (fun r9 h => ?_)
                  refine r_if_eq C0 127 dX2_whyNoRoom_108 rfl h (fun _ h => ?_) (fun _ h => ?_)
                  · exact r_sub [] rfl (w_X2_whyNoRoom_j127 C0 hD h hz)
                  · refine r_aload_n C0 dX2_whyNoRoom_111 rfl 0 rfl ?_
                    refine wcg_7_0 C0 tf_X2_15 dX2_whyNoRoom_112 ?_
                    refine r_iload_n C0 dX2_whyNoRoom_115 rfl 2 rfl ?_
                    refine r_iload_n C0 dX2_whyNoRoom_116 rfl 3 rfl ?_
                    refine callV2 C0 h (hD _ _ _) mw_X3_isFree rv_3 tm_X2_132 (fun y hy => c_X3_isFree hy) (Nat.le_of_ble_eq_true rfl) (Nat.le_of_ble_eq_true rfl) dX2_whyNoRoom_117 (fun r10 h => ?_)
                    refine r_if_eq C0 127 dX2_whyNoRoom_120 rfl h (fun _ h => ?_) (fun _ h => ?_)
                    · exact r_sub [] rfl (w_X2_whyNoRoom_j127 C0 hD h hz)
                    · refine r_iconst C0 dX2_whyNoRoom_123 ki_0 ?_
                      refine r_goto C0 129 dX2_whyNoRoom_124 rfl ?_
                      cases h
                      exact hz _ _ dX2_whyNoRoom_129
                · refine r_bipush C0 dX2_whyNoRoom_96 kb_10 ?_
                  cases h
                  exact hz _ _ dX2_whyNoRoom_98
            · refine r_iconst C0 dX2_whyNoRoom_72 ki_2 ?_
              cases h
              exact hz _ _ dX2_whyNoRoom_73
        · refine r_iconst C0 dX2_whyNoRoom_46 ki_1 ?_
          cases h
          exact hz _ _ dX2_whyNoRoom_47
    · refine r_iconst C0 dX2_whyNoRoom_22 ki_2 ?_
      cases h
      exact hz _ _ dX2_whyNoRoom_23
theorem c_X2_whyNoRoom {l : Launch} {D : va_G} {cy : Nat → ClassId} {a : Nat → Nat} {V : VT} {J : JT} {K : Nat → Option Nat} {X : va_W} {v1 : Int32} {v2 : Int32} {v3 : Int32} {y : Int32} (h : f_X2_whyNoRoom v1 v2 v3 V = some y) : CT l D cy yX2_whyNoRoom cX2_whyNoRoom 4 (some .int) 2 [.ref (a 7), .int v1, .int v2, .int v3] (WC cy a V J K X) (WC cy a V J K X) (some (.int y)) :=
  mkI (by decide) (Nat.le_of_ble_eq_true rfl) (fun Γ _ _ C0 hD hF => w_X2_whyNoRoom C0 (dc_of hD) h hF)
theorem dX3_hangs_0 : decode cX3_hangs 0 = .ok (.aload_n 0, 1) := by decide +kernel
theorem dX3_hangs_1 : decode cX3_hangs 1 = .ok (.getfield 27, 3) := by decide +kernel
theorem dX3_hangs_4 : decode cX3_hangs 4 = .ok (.iload_n 1, 1) := by decide +kernel
theorem dX3_hangs_5 : decode cX3_hangs 5 = .ok (.bipush 6, 2) := by decide +kernel
theorem dX3_hangs_7 : decode cX3_hangs 7 = .ok (.invokevirtual 42, 3) := by decide +kernel
theorem dX3_hangs_10 : decode cX3_hangs 10 = .ok (.ldc 48, 2) := by decide +kernel
theorem dX3_hangs_12 : decode cX3_hangs 12 = .ok (.if_icmp .eq 7, 3) := by decide +kernel
theorem dX3_hangs_15 : decode cX3_hangs 15 = .ok (.iconst 1, 1) := by decide +kernel
theorem dX3_hangs_16 : decode cX3_hangs 16 = .ok (.goto 4, 3) := by decide +kernel
theorem dX3_hangs_19 : decode cX3_hangs 19 = .ok (.iconst 0, 1) := by decide +kernel
theorem dX3_hangs_20 : decode cX3_hangs 20 = .ok (.ireturn, 1) := by decide +kernel
theorem w_X3_hangs {z : Int32} {Γ : Gam} {cy : Nat → ClassId} {a : Nat → Nat} {V : VT} {J : JT} {K : Nat → Option Nat} {X : va_W} {v1 : Int32}  (C0 : CXg Γ cX3_hangs 2 1 RX3 cy) (hD : DC Γ cy a X) (h : f_X3_hangs v1 V = some z) (hz : (fun y : Int32 => FinZ Γ cX3_hangs (WC cy a V J K X) y) z) : Wp Γ 0 0 0 [(0, .ref (a 3)), (1, .int v1)] [] (WC cy a V J K X) := by
  unfold f_X3_hangs at h
  refine r_aload_n C0 dX3_hangs_0 rfl 0 rfl ?_
  refine wcg_3_3 C0 tf_X3_27 dX3_hangs_1 ?_
  refine r_iload_n C0 dX3_hangs_4 rfl 1 rfl ?_
  refine r_bipush C0 dX3_hangs_5 kb_6 ?_
  refine callV2 C0 h (hD _ _ _) mw_X7_get (rv_t tb_13) tm_X3_42 (fun y hy => c_X7_get tb_13 hy) (Nat.le_of_ble_eq_true rfl) (Nat.le_of_ble_eq_true rfl) dX3_hangs_7 (fun r1 h => ?_)
  refine r_ldc C0 tk_X3_48 dX3_hangs_10 ?_
  refine r_icmp_eq C0 19 dX3_hangs_12 rfl h (fun _ h => ?_) (fun _ h => ?_)
  · refine r_iconst C0 dX3_hangs_19 ki_0 ?_
    cases h
    exact hz _ _ nz_0 dX3_hangs_20
  · refine r_iconst C0 dX3_hangs_15 ki_1 ?_
    refine r_goto C0 20 dX3_hangs_16 rfl ?_
    cases h
    exact hz _ _ nz_1 dX3_hangs_20
theorem c_X3_hangs {l : Launch} {D : va_G} {cy : Nat → ClassId} {a : Nat → Nat} {V : VT} {J : JT} {K : Nat → Option Nat} {X : va_W} {v1 : Int32} {y : Int32} (h : f_X3_hangs v1 V = some y) : CT l D cy yX3_hangs cX3_hangs 2 (some .boolean) 1 [.ref (a 3), .int v1] (WC cy a V J K X) (WC cy a V J K X) (some (.int y)) :=
  mkZ (by decide) (Nat.le_of_ble_eq_true rfl) (fun Γ _ _ C0 hD hF => w_X3_hangs C0 (dc_of hD) h hF)
theorem dX2_hangThing_0 : decode cX2_hangThing 0 = .ok (.aload_n 0, 1) := by decide +kernel
theorem dX2_hangThing_1 : decode cX2_hangThing 1 = .ok (.getfield 15, 3) := by decide +kernel
theorem dX2_hangThing_4 : decode cX2_hangThing 4 = .ok (.iload_n 1, 1) := by decide +kernel
theorem dX2_hangThing_5 : decode cX2_hangThing 5 = .ok (.invokevirtual 64, 3) := by decide +kernel
theorem dX2_hangThing_8 : decode cX2_hangThing 8 = .ok (.ifCond .ne 12, 3) := by decide +kernel
theorem dX2_hangThing_11 : decode cX2_hangThing 11 = .ok (.aload_n 0, 1) := by decide +kernel
theorem dX2_hangThing_12 : decode cX2_hangThing 12 = .ok (.getfield 27, 3) := by decide +kernel
theorem dX2_hangThing_15 : decode cX2_hangThing 15 = .ok (.iconst 2, 1) := by decide +kernel
theorem dX2_hangThing_16 : decode cX2_hangThing 16 = .ok (.invokevirtual 32, 3) := by decide +kernel
theorem dX2_hangThing_19 : decode cX2_hangThing 19 = .ok (.ireturn, 1) := by decide +kernel
theorem dX2_hangThing_20 : decode cX2_hangThing 20 = .ok (.aload_n 0, 1) := by decide +kernel
theorem dX2_hangThing_21 : decode cX2_hangThing 21 = .ok (.getfield 15, 3) := by decide +kernel
theorem dX2_hangThing_24 : decode cX2_hangThing 24 = .ok (.iload_n 1, 1) := by decide +kernel
theorem dX2_hangThing_25 : decode cX2_hangThing 25 = .ok (.invokevirtual 81, 3) := by decide +kernel
theorem dX2_hangThing_28 : decode cX2_hangThing 28 = .ok (.ifCond .eq 13, 3) := by decide +kernel
theorem dX2_hangThing_31 : decode cX2_hangThing 31 = .ok (.aload_n 0, 1) := by decide +kernel
theorem dX2_hangThing_32 : decode cX2_hangThing 32 = .ok (.getfield 27, 3) := by decide +kernel
theorem dX2_hangThing_35 : decode cX2_hangThing 35 = .ok (.bipush 8, 2) := by decide +kernel
theorem dX2_hangThing_37 : decode cX2_hangThing 37 = .ok (.invokevirtual 32, 3) := by decide +kernel
theorem dX2_hangThing_40 : decode cX2_hangThing 40 = .ok (.ireturn, 1) := by decide +kernel
theorem dX2_hangThing_41 : decode cX2_hangThing 41 = .ok (.aload_n 0, 1) := by decide +kernel
theorem dX2_hangThing_42 : decode cX2_hangThing 42 = .ok (.getfield 15, 3) := by decide +kernel
theorem dX2_hangThing_45 : decode cX2_hangThing 45 = .ok (.iload_n 1, 1) := by decide +kernel
theorem dX2_hangThing_46 : decode cX2_hangThing 46 = .ok (.iconst 4, 1) := by decide +kernel
theorem dX2_hangThing_47 : decode cX2_hangThing 47 = .ok (.invokevirtual 68, 3) := by decide +kernel
theorem dX2_hangThing_50 : decode cX2_hangThing 50 = .ok (.ifCond .eq 9, 3) := by decide +kernel
theorem dX2_hangThing_53 : decode cX2_hangThing 53 = .ok (.iload_n 2, 1) := by decide +kernel
theorem dX2_hangThing_54 : decode cX2_hangThing 54 = .ok (.iconst 1, 1) := by decide +kernel
theorem dX2_hangThing_55 : decode cX2_hangThing 55 = .ok (.iadd, 1) := by decide +kernel
theorem dX2_hangThing_56 : decode cX2_hangThing 56 = .ok (.goto 4, 3) := by decide +kernel
theorem dX2_hangThing_59 : decode cX2_hangThing 59 = .ok (.iload_n 2, 1) := by decide +kernel
theorem dX2_hangThing_60 : decode cX2_hangThing 60 = .ok (.istore 4, 2) := by decide +kernel
theorem dX2_hangThing_62 : decode cX2_hangThing 62 = .ok (.aload_n 0, 1) := by decide +kernel
theorem dX2_hangThing_63 : decode cX2_hangThing 63 = .ok (.iload_n 2, 1) := by decide +kernel
theorem dX2_hangThing_64 : decode cX2_hangThing 64 = .ok (.iload 4, 2) := by decide +kernel
theorem dX2_hangThing_66 : decode cX2_hangThing 66 = .ok (.iload_n 3, 1) := by decide +kernel
theorem dX2_hangThing_67 : decode cX2_hangThing 67 = .ok (.invokevirtual 84, 3) := by decide +kernel
theorem dX2_hangThing_70 : decode cX2_hangThing 70 = .ok (.istore 5, 2) := by decide +kernel
theorem dX2_hangThing_72 : decode cX2_hangThing 72 = .ok (.iload 5, 2) := by decide +kernel
theorem dX2_hangThing_74 : decode cX2_hangThing 74 = .ok (.ifCond .eq 13, 3) := by decide +kernel
theorem dX2_hangThing_77 : decode cX2_hangThing 77 = .ok (.aload_n 0, 1) := by decide +kernel
theorem dX2_hangThing_78 : decode cX2_hangThing 78 = .ok (.getfield 27, 3) := by decide +kernel
theorem dX2_hangThing_81 : decode cX2_hangThing 81 = .ok (.iload 5, 2) := by decide +kernel
theorem dX2_hangThing_83 : decode cX2_hangThing 83 = .ok (.invokevirtual 32, 3) := by decide +kernel
theorem dX2_hangThing_86 : decode cX2_hangThing 86 = .ok (.ireturn, 1) := by decide +kernel
theorem dX2_hangThing_87 : decode cX2_hangThing 87 = .ok (.iload_n 2, 1) := by decide +kernel
theorem dX2_hangThing_88 : decode cX2_hangThing 88 = .ok (.istore 6, 2) := by decide +kernel
theorem dX2_hangThing_90 : decode cX2_hangThing 90 = .ok (.iload 6, 2) := by decide +kernel
theorem dX2_hangThing_92 : decode cX2_hangThing 92 = .ok (.iload 4, 2) := by decide +kernel
theorem dX2_hangThing_94 : decode cX2_hangThing 94 = .ok (.if_icmp .gt 25, 3) := by decide +kernel
theorem dX2_hangThing_97 : decode cX2_hangThing 97 = .ok (.aload_n 0, 1) := by decide +kernel
theorem dX2_hangThing_98 : decode cX2_hangThing 98 = .ok (.getfield 15, 3) := by decide +kernel
theorem dX2_hangThing_101 : decode cX2_hangThing 101 = .ok (.getfield 88, 3) := by decide +kernel
theorem dX2_hangThing_104 : decode cX2_hangThing 104 = .ok (.iload 6, 2) := by decide +kernel
theorem dX2_hangThing_106 : decode cX2_hangThing 106 = .ok (.iload_n 3, 1) := by decide +kernel
theorem dX2_hangThing_107 : decode cX2_hangThing 107 = .ok (.iconst 2, 1) := by decide +kernel
theorem dX2_hangThing_108 : decode cX2_hangThing 108 = .ok (.iload_n 1, 1) := by decide +kernel
theorem dX2_hangThing_109 : decode cX2_hangThing 109 = .ok (.iadd, 1) := by decide +kernel
theorem dX2_hangThing_110 : decode cX2_hangThing 110 = .ok (.invokevirtual 50, 3) := by decide +kernel
theorem dX2_hangThing_113 : decode cX2_hangThing 113 = .ok (.iinc 6 1, 3) := by decide +kernel
theorem dX2_hangThing_116 : decode cX2_hangThing 116 = .ok (.goto (-26), 3) := by decide +kernel
theorem dX2_hangThing_119 : decode cX2_hangThing 119 = .ok (.aload_n 0, 1) := by decide +kernel
theorem dX2_hangThing_120 : decode cX2_hangThing 120 = .ok (.getfield 15, 3) := by decide +kernel
theorem dX2_hangThing_123 : decode cX2_hangThing 123 = .ok (.getfield 54, 3) := by decide +kernel
theorem dX2_hangThing_126 : decode cX2_hangThing 126 = .ok (.iload_n 1, 1) := by decide +kernel
theorem dX2_hangThing_127 : decode cX2_hangThing 127 = .ok (.bipush 6, 2) := by decide +kernel
theorem dX2_hangThing_129 : decode cX2_hangThing 129 = .ok (.iload_n 2, 1) := by decide +kernel
theorem dX2_hangThing_130 : decode cX2_hangThing 130 = .ok (.invokevirtual 50, 3) := by decide +kernel
theorem dX2_hangThing_133 : decode cX2_hangThing 133 = .ok (.aload_n 0, 1) := by decide +kernel
theorem dX2_hangThing_134 : decode cX2_hangThing 134 = .ok (.getfield 15, 3) := by decide +kernel
theorem dX2_hangThing_137 : decode cX2_hangThing 137 = .ok (.getfield 54, 3) := by decide +kernel
theorem dX2_hangThing_140 : decode cX2_hangThing 140 = .ok (.iload_n 1, 1) := by decide +kernel
theorem dX2_hangThing_141 : decode cX2_hangThing 141 = .ok (.bipush 7, 2) := by decide +kernel
theorem dX2_hangThing_143 : decode cX2_hangThing 143 = .ok (.iload_n 3, 1) := by decide +kernel
theorem dX2_hangThing_144 : decode cX2_hangThing 144 = .ok (.invokevirtual 50, 3) := by decide +kernel
theorem dX2_hangThing_147 : decode cX2_hangThing 147 = .ok (.aload_n 0, 1) := by decide +kernel
theorem dX2_hangThing_148 : decode cX2_hangThing 148 = .ok (.iload_n 2, 1) := by decide +kernel
theorem dX2_hangThing_149 : decode cX2_hangThing 149 = .ok (.iload 4, 2) := by decide +kernel
theorem dX2_hangThing_151 : decode cX2_hangThing 151 = .ok (.iload_n 3, 1) := by decide +kernel
theorem dX2_hangThing_152 : decode cX2_hangThing 152 = .ok (.iconst 1, 1) := by decide +kernel
theorem dX2_hangThing_153 : decode cX2_hangThing 153 = .ok (.invokevirtual 91, 3) := by decide +kernel
theorem dX2_hangThing_156 : decode cX2_hangThing 156 = .ok (.aload_n 0, 1) := by decide +kernel
theorem dX2_hangThing_157 : decode cX2_hangThing 157 = .ok (.getfield 15, 3) := by decide +kernel
theorem dX2_hangThing_160 : decode cX2_hangThing 160 = .ok (.iload_n 2, 1) := by decide +kernel
theorem dX2_hangThing_161 : decode cX2_hangThing 161 = .ok (.invokevirtual 95, 3) := by decide +kernel
theorem dX2_hangThing_164 : decode cX2_hangThing 164 = .ok (.ireturn, 1) := by decide +kernel
theorem w_X2_hangThing_B90 {x : Int32 × VT} {z : ((Int32 × VT) ⊕ (Int32 × VT × JT))} {Γ : Gam} {cy : Nat → ClassId} {a : Nat → Nat} {J : JT} {K : Nat → Option Nat} {X : va_W} {v1 : Int32} {v2 : Int32} {v3 : Int32} {v4 : Int32}  (C0 : CXg Γ cX2_hangThing 7 5 RX2 cy) (hD : DC Γ cy a X) (h : f_X2_hangThing_B90 v1 v2 v3 v4 J x = some z) (hz : (Sum.elim (fun x : Int32 × VT => Wp Γ 0 0 90 [(0, .ref (a 7)), (1, .int v1), (2, .int v2), (3, .int v3), (4, .int v4), (6, .int x.1)] [] (WC cy a x.2 J K X)) (fun y : Int32 × VT × JT => FinI Γ cX2_hangThing (WC cy a y.2.1 y.2.2 K X) y.1)) z) : Wp Γ 0 0 90 [(0, .ref (a 7)), (1, .int v1), (2, .int v2), (3, .int v3), (4, .int v4), (6, .int x.1)] [] (WC cy a x.2 J K X) := by
  unfold f_X2_hangThing_B90 at h
  refine r_iload C0 dX2_hangThing_90 5 rfl ?_
  refine r_iload C0 dX2_hangThing_92 4 rfl ?_
  refine r_icmp_gt C0 119 dX2_hangThing_94 rfl h (fun _ h => ?_) (fun _ h => ?_)
  · obtain ⟨y5, h5, h9⟩ := op_bind h
    clear h
    cases h9
    have hz := (el_inr hz)
    have h := h5
    refine r_aload_n C0 dX2_hangThing_119 rfl 0 rfl ?_
    refine wcg_7_0 C0 tf_X2_15 dX2_hangThing_120 ?_
    refine wcg_3_3 C0 tf_X2_54 dX2_hangThing_123 ?_
    refine r_iload_n C0 dX2_hangThing_126 rfl 1 rfl ?_
    refine r_bipush C0 dX2_hangThing_127 kb_6 ?_
    refine r_iload_n C0 dX2_hangThing_129 rfl 2 rfl ?_
    refine callVv3 C0 h (hD _ _ _) mw_X7_set (rv_t tb_13) tm_X2_50 (fun y hy => c_X7_set tb_13 hy) (Nat.le_of_ble_eq_true rfl) (Nat.le_of_ble_eq_true rfl) dX2_hangThing_130 (fun r6 h => ?_)
    refine r_aload_n C0 dX2_hangThing_133 rfl 0 rfl ?_
    refine wcg_7_0 C0 tf_X2_15 dX2_hangThing_134 ?_
    refine wcg_3_3 C0 tf_X2_54 dX2_hangThing_137 ?_
    refine r_iload_n C0 dX2_hangThing_140 rfl 1 rfl ?_
    refine r_bipush C0 dX2_hangThing_141 kb_7 ?_
    refine r_iload_n C0 dX2_hangThing_143 rfl 3 rfl ?_
    refine callVv3 C0 h (hD _ _ _) mw_X7_set (rv_t tb_13) tm_X2_50 (fun y hy => c_X7_set tb_13 hy) (Nat.le_of_ble_eq_true rfl) (Nat.le_of_ble_eq_true rfl) dX2_hangThing_144 (fun r7 h => ?_)
    refine r_aload_n C0 dX2_hangThing_147 rfl 0 rfl ?_
    refine r_iload_n C0 dX2_hangThing_148 rfl 2 rfl ?_
    refine r_iload C0 dX2_hangThing_149 4 rfl ?_
    refine r_iload_n C0 dX2_hangThing_151 rfl 3 rfl ?_
    refine r_iconst C0 dX2_hangThing_152 ki_1 ?_
    refine callVv4 C0 h (hD _ _ _) mw_X2_judge rv_7 tm_X2_91 (fun y hy => c_X2_judge hy) (Nat.le_of_ble_eq_true rfl) (Nat.le_of_ble_eq_true rfl) dX2_hangThing_153 (fun r8 h => ?_)
    refine r_aload_n C0 dX2_hangThing_156 rfl 0 rfl ?_
    refine wcg_7_0 C0 tf_X2_15 dX2_hangThing_157 ?_
    refine r_iload_n C0 dX2_hangThing_160 rfl 2 rfl ?_
    refine callV1 C0 h (hD _ _ _) mw_X3_thingsOn rv_3 tm_X2_95 (fun y hy => c_X3_thingsOn hy) (Nat.le_of_ble_eq_true rfl) (Nat.le_of_ble_eq_true rfl) dX2_hangThing_161 (fun r9 h => ?_)
    cases h
    exact hz _ _ dX2_hangThing_164
  · refine r_aload_n C0 dX2_hangThing_97 rfl 0 rfl ?_
    refine wcg_7_0 C0 tf_X2_15 dX2_hangThing_98 ?_
    refine wcg_3_1 C0 tf_X2_88 dX2_hangThing_101 ?_
    refine r_iload C0 dX2_hangThing_104 5 rfl ?_
    refine r_iload_n C0 dX2_hangThing_106 rfl 3 rfl ?_
    refine r_iconst C0 dX2_hangThing_107 ki_2 ?_
    refine r_iload_n C0 dX2_hangThing_108 rfl 1 rfl ?_
    refine r_iadd C0 dX2_hangThing_109 ?_
    refine callVv3 C0 h (hD _ _ _) mw_X7_set (rv_t tb_11) tm_X2_50 (fun y hy => c_X7_set tb_11 hy) (Nat.le_of_ble_eq_true rfl) (Nat.le_of_ble_eq_true rfl) dX2_hangThing_110 (fun r10 h => ?_)
    obtain ⟨a11, h8, h⟩ := op_bind h
    have e8 := Option.some.inj h8
    refine r_iinc (lv2 := [(6, .int a11), (0, .ref (a 7)), (1, .int v1), (2, .int v2), (3, .int v3), (4, .int v4)]) C0 dX2_hangThing_113 5 rfl ki_1 e8 (Nat.le_of_ble_eq_true rfl) rfl ?_
    refine r_goto C0 90 dX2_hangThing_116 rfl ?_
    cases h
    have hz := el_inl hz
    exact r_sub [1, 2, 3, 4, 5, 0] rfl hz
theorem w_X2_hangThing_B90_lp {x : Int32 × VT} {z : (Int32 × VT × JT)} {Γ : Gam} {cy : Nat → ClassId} {a : Nat → Nat} {J : JT} {K : Nat → Option Nat} {X : va_W} {v1 : Int32} {v2 : Int32} {v3 : Int32} {v4 : Int32}  (C0 : CXg Γ cX2_hangThing 7 5 RX2 cy) (hD : DC Γ cy a X) (h : lp (f_X2_hangThing_B90 v1 v2 v3 v4 J) fuel x = some z) (hz : (fun y : Int32 × VT × JT => FinI Γ cX2_hangThing (WC cy a y.2.1 y.2.2 K X) y.1) z) : Wp Γ 0 0 90 [(0, .ref (a 7)), (1, .int v1), (2, .int v2), (3, .int v3), (4, .int v4), (6, .int x.1)] [] (WC cy a x.2 J K X) :=
  lp_rule (hd := (fun x : Int32 × VT => Wp Γ 0 0 90 [(0, .ref (a 7)), (1, .int v1), (2, .int v2), (3, .int v3), (4, .int v4), (6, .int x.1)] [] (WC cy a x.2 J K X))) (C := (fun y : Int32 × VT × JT => FinI Γ cX2_hangThing (WC cy a y.2.1 y.2.2 K X) y.1)) (fun x z h hz => w_X2_hangThing_B90 C0 hD h hz) _ _ _ h hz
theorem w_X2_hangThing_j60 {z : (Int32 × VT × JT)} {Γ : Gam} {cy : Nat → ClassId} {a : Nat → Nat} {V : VT} {J : JT} {K : Nat → Option Nat} {X : va_W} {v1 : Int32} {v2 : Int32} {v3 : Int32} {s0 : Int32}  (C0 : CXg Γ cX2_hangThing 7 5 RX2 cy) (hD : DC Γ cy a X) (h : f_X2_hangThing_j60 v1 v2 v3 s0 V J = some z) (hz : (fun y : Int32 × VT × JT => FinI Γ cX2_hangThing (WC cy a y.2.1 y.2.2 K X) y.1) z) : Wp Γ 0 0 60 [(0, .ref (a 7)), (1, .int v1), (2, .int v2), (3, .int v3)] [.int s0] (WC cy a V J K X) := by
  unfold f_X2_hangThing_j60 at h
  refine r_istore (lv2 := [(4, .int s0), (0, .ref (a 7)), (1, .int v1), (2, .int v2), (3, .int v3)]) C0 dX2_hangThing_60 rfl (Nat.le_of_ble_eq_true rfl) rfl ?_
  refine r_aload_n C0 dX2_hangThing_62 rfl 1 rfl ?_
  refine r_iload_n C0 dX2_hangThing_63 rfl 3 rfl ?_
  refine r_iload C0 dX2_hangThing_64 0 rfl ?_
  refine r_iload_n C0 dX2_hangThing_66 rfl 4 rfl ?_
  refine callV3 C0 h (hD _ _ _) mw_X2_whyNoRoom rv_7 tm_X2_84 (fun y hy => c_X2_whyNoRoom hy) (Nat.le_of_ble_eq_true rfl) (Nat.le_of_ble_eq_true rfl) dX2_hangThing_67 (fun r4 h => ?_)
  refine r_istore (lv2 := [(5, .int r4), (4, .int s0), (0, .ref (a 7)), (1, .int v1), (2, .int v2), (3, .int v3)]) C0 dX2_hangThing_70 rfl (Nat.le_of_ble_eq_true rfl) rfl ?_
  refine r_iload C0 dX2_hangThing_72 0 rfl ?_
  refine r_if_eq C0 87 dX2_hangThing_74 rfl h (fun _ h => ?_) (fun _ h => ?_)
  · refine r_iload_n C0 dX2_hangThing_87 rfl 4 rfl ?_
    refine r_istore (lv2 := [(6, .int v2), (5, .int r4), (4, .int s0), (0, .ref (a 7)), (1, .int v1), (2, .int v2), (3, .int v3)]) C0 dX2_hangThing_88 rfl (Nat.le_of_ble_eq_true rfl) rfl ?_
    exact r_sub [3, 4, 5, 6, 2, 0] rfl (w_X2_hangThing_B90_lp C0 hD h hz)
  · refine r_aload_n C0 dX2_hangThing_77 rfl 2 rfl ?_
    refine wcg_7_3 C0 tf_X2_27 dX2_hangThing_78 ?_
    refine r_iload C0 dX2_hangThing_81 0 rfl ?_
    refine callV1 C0 h (hD _ _ _) mw_X9_refuse rv_2 tm_X2_32 (fun y hy => c_X9_refuse hy) (Nat.le_of_ble_eq_true rfl) (Nat.le_of_ble_eq_true rfl) dX2_hangThing_83 (fun r12 h => ?_)
    cases h
    exact hz _ _ dX2_hangThing_86
theorem w_X2_hangThing {z : Int32 × VT × JT} {Γ : Gam} {cy : Nat → ClassId} {a : Nat → Nat} {V : VT} {J : JT} {K : Nat → Option Nat} {X : va_W} {v1 : Int32} {v2 : Int32} {v3 : Int32}  (C0 : CXg Γ cX2_hangThing 7 5 RX2 cy) (hD : DC Γ cy a X) (h : f_X2_hangThing v1 v2 v3 V J = some z) (hz : (fun y : Int32 × VT × JT => FinI Γ cX2_hangThing (WC cy a y.2.1 y.2.2 K X) y.1) z) : Wp Γ 0 0 0 [(0, .ref (a 7)), (1, .int v1), (2, .int v2), (3, .int v3)] [] (WC cy a V J K X) := by
  unfold f_X2_hangThing at h
  refine r_aload_n C0 dX2_hangThing_0 rfl 0 rfl ?_
  refine wcg_7_0 C0 tf_X2_15 dX2_hangThing_1 ?_
  refine r_iload_n C0 dX2_hangThing_4 rfl 1 rfl ?_
  refine callV1 C0 h (hD _ _ _) mw_X3_isThing rv_3 tm_X2_64 (fun y hy => c_X3_isThing hy) (Nat.le_of_ble_eq_true rfl) (Nat.le_of_ble_eq_true rfl) dX2_hangThing_5 (fun r1 h => ?_)
  refine r_if_ne C0 20 dX2_hangThing_8 rfl h (fun _ h => ?_) (fun _ h => ?_)
  · refine r_aload_n C0 dX2_hangThing_20 rfl 0 rfl ?_
    refine wcg_7_0 C0 tf_X2_15 dX2_hangThing_21 ?_
    refine r_iload_n C0 dX2_hangThing_24 rfl 1 rfl ?_
    refine callV1 C0 h (hD _ _ _) mw_X3_hangs rv_3 tm_X2_81 (fun y hy => c_X3_hangs hy) (Nat.le_of_ble_eq_true rfl) (Nat.le_of_ble_eq_true rfl) dX2_hangThing_25 (fun r2 h => ?_)
    refine r_if_eq C0 41 dX2_hangThing_28 rfl h (fun _ h => ?_) (fun _ h => ?_)
    · refine r_aload_n C0 dX2_hangThing_41 rfl 0 rfl ?_
      refine wcg_7_0 C0 tf_X2_15 dX2_hangThing_42 ?_
      refine r_iload_n C0 dX2_hangThing_45 rfl 1 rfl ?_
      refine r_iconst C0 dX2_hangThing_46 ki_4 ?_
      refine callV2 C0 h (hD _ _ _) mw_X3_isKind rv_3 tm_X2_68 (fun y hy => c_X3_isKind hy) (Nat.le_of_ble_eq_true rfl) (Nat.le_of_ble_eq_true rfl) dX2_hangThing_47 (fun r3 h => ?_)
      refine r_if_eq C0 59 dX2_hangThing_50 rfl h (fun _ h => ?_) (fun _ h => ?_)
      · refine r_iload_n C0 dX2_hangThing_59 rfl 2 rfl ?_
        exact r_sub [0, 1, 2, 3] rfl (w_X2_hangThing_j60 C0 hD h hz)
      · refine r_iload_n C0 dX2_hangThing_53 rfl 2 rfl ?_
        refine r_iconst C0 dX2_hangThing_54 ki_1 ?_
        refine r_iadd C0 dX2_hangThing_55 ?_
        refine r_goto C0 60 dX2_hangThing_56 rfl ?_
        exact r_sub [0, 1, 2, 3] rfl (w_X2_hangThing_j60 C0 hD h hz)
    · refine r_aload_n C0 dX2_hangThing_31 rfl 0 rfl ?_
      refine wcg_7_3 C0 tf_X2_27 dX2_hangThing_32 ?_
      refine r_bipush C0 dX2_hangThing_35 kb_8 ?_
      refine callV1 C0 h (hD _ _ _) mw_X9_refuse rv_2 tm_X2_32 (fun y hy => c_X9_refuse hy) (Nat.le_of_ble_eq_true rfl) (Nat.le_of_ble_eq_true rfl) dX2_hangThing_37 (fun r13 h => ?_)
      cases h
      exact hz _ _ dX2_hangThing_40
  · refine r_aload_n C0 dX2_hangThing_11 rfl 0 rfl ?_
    refine wcg_7_3 C0 tf_X2_27 dX2_hangThing_12 ?_
    refine r_iconst C0 dX2_hangThing_15 ki_2 ?_
    refine callV1 C0 h (hD _ _ _) mw_X9_refuse rv_2 tm_X2_32 (fun y hy => c_X9_refuse hy) (Nat.le_of_ble_eq_true rfl) (Nat.le_of_ble_eq_true rfl) dX2_hangThing_16 (fun r14 h => ?_)
    cases h
    exact hz _ _ dX2_hangThing_19
theorem c_X2_hangThing {l : Launch} {D : va_G} {cy : Nat → ClassId} {a : Nat → Nat} {V : VT} {J : JT} {K : Nat → Option Nat} {X : va_W} {v1 : Int32} {v2 : Int32} {v3 : Int32} {y : Int32 × VT × JT} (h : f_X2_hangThing v1 v2 v3 V J = some y) : CT l D cy yX2_hangThing cX2_hangThing 7 (some .int) 5 [.ref (a 7), .int v1, .int v2, .int v3] (WC cy a V J K X) (WC cy a y.2.1 y.2.2 K X) (some (.int y.1)) :=
  mkI (by decide) (Nat.le_of_ble_eq_true rfl) (fun Γ _ _ C0 hD hF => w_X2_hangThing C0 (dc_of hD) h hF)
theorem dX2_takeDown_0 : decode cX2_takeDown 0 = .ok (.aload_n 0, 1) := by decide +kernel
theorem dX2_takeDown_1 : decode cX2_takeDown 1 = .ok (.getfield 15, 3) := by decide +kernel
theorem dX2_takeDown_4 : decode cX2_takeDown 4 = .ok (.iload_n 1, 1) := by decide +kernel
theorem dX2_takeDown_5 : decode cX2_takeDown 5 = .ok (.invokevirtual 64, 3) := by decide +kernel
theorem dX2_takeDown_8 : decode cX2_takeDown 8 = .ok (.ifCond .ne 12, 3) := by decide +kernel
theorem dX2_takeDown_11 : decode cX2_takeDown 11 = .ok (.aload_n 0, 1) := by decide +kernel
theorem dX2_takeDown_12 : decode cX2_takeDown 12 = .ok (.getfield 27, 3) := by decide +kernel
theorem dX2_takeDown_15 : decode cX2_takeDown 15 = .ok (.iconst 2, 1) := by decide +kernel
theorem dX2_takeDown_16 : decode cX2_takeDown 16 = .ok (.invokevirtual 32, 3) := by decide +kernel
theorem dX2_takeDown_19 : decode cX2_takeDown 19 = .ok (.ireturn, 1) := by decide +kernel
theorem dX2_takeDown_20 : decode cX2_takeDown 20 = .ok (.aload_n 0, 1) := by decide +kernel
theorem dX2_takeDown_21 : decode cX2_takeDown 21 = .ok (.getfield 15, 3) := by decide +kernel
theorem dX2_takeDown_24 : decode cX2_takeDown 24 = .ok (.iload_n 1, 1) := by decide +kernel
theorem dX2_takeDown_25 : decode cX2_takeDown 25 = .ok (.invokevirtual 81, 3) := by decide +kernel
theorem dX2_takeDown_28 : decode cX2_takeDown 28 = .ok (.ifCond .ne 13, 3) := by decide +kernel
theorem dX2_takeDown_31 : decode cX2_takeDown 31 = .ok (.aload_n 0, 1) := by decide +kernel
theorem dX2_takeDown_32 : decode cX2_takeDown 32 = .ok (.getfield 27, 3) := by decide +kernel
theorem dX2_takeDown_35 : decode cX2_takeDown 35 = .ok (.bipush 9, 2) := by decide +kernel
theorem dX2_takeDown_37 : decode cX2_takeDown 37 = .ok (.invokevirtual 32, 3) := by decide +kernel
theorem dX2_takeDown_40 : decode cX2_takeDown 40 = .ok (.ireturn, 1) := by decide +kernel
theorem dX2_takeDown_41 : decode cX2_takeDown 41 = .ok (.aload_n 0, 1) := by decide +kernel
theorem dX2_takeDown_42 : decode cX2_takeDown 42 = .ok (.getfield 15, 3) := by decide +kernel
theorem dX2_takeDown_45 : decode cX2_takeDown 45 = .ok (.getfield 54, 3) := by decide +kernel
theorem dX2_takeDown_48 : decode cX2_takeDown 48 = .ok (.iload_n 1, 1) := by decide +kernel
theorem dX2_takeDown_49 : decode cX2_takeDown 49 = .ok (.bipush 6, 2) := by decide +kernel
theorem dX2_takeDown_51 : decode cX2_takeDown 51 = .ok (.invokevirtual 44, 3) := by decide +kernel
theorem dX2_takeDown_54 : decode cX2_takeDown 54 = .ok (.istore_n 2, 1) := by decide +kernel
theorem dX2_takeDown_55 : decode cX2_takeDown 55 = .ok (.aload_n 0, 1) := by decide +kernel
theorem dX2_takeDown_56 : decode cX2_takeDown 56 = .ok (.getfield 15, 3) := by decide +kernel
theorem dX2_takeDown_59 : decode cX2_takeDown 59 = .ok (.iload_n 1, 1) := by decide +kernel
theorem dX2_takeDown_60 : decode cX2_takeDown 60 = .ok (.iconst 4, 1) := by decide +kernel
theorem dX2_takeDown_61 : decode cX2_takeDown 61 = .ok (.invokevirtual 68, 3) := by decide +kernel
theorem dX2_takeDown_64 : decode cX2_takeDown 64 = .ok (.ifCond .eq 9, 3) := by decide +kernel
theorem dX2_takeDown_67 : decode cX2_takeDown 67 = .ok (.iload_n 2, 1) := by decide +kernel
theorem dX2_takeDown_68 : decode cX2_takeDown 68 = .ok (.iconst 1, 1) := by decide +kernel
theorem dX2_takeDown_69 : decode cX2_takeDown 69 = .ok (.iadd, 1) := by decide +kernel
theorem dX2_takeDown_70 : decode cX2_takeDown 70 = .ok (.goto 4, 3) := by decide +kernel
theorem dX2_takeDown_73 : decode cX2_takeDown 73 = .ok (.iload_n 2, 1) := by decide +kernel
theorem dX2_takeDown_74 : decode cX2_takeDown 74 = .ok (.istore_n 3, 1) := by decide +kernel
theorem dX2_takeDown_75 : decode cX2_takeDown 75 = .ok (.aload_n 0, 1) := by decide +kernel
theorem dX2_takeDown_76 : decode cX2_takeDown 76 = .ok (.getfield 15, 3) := by decide +kernel
theorem dX2_takeDown_79 : decode cX2_takeDown 79 = .ok (.iload_n 2, 1) := by decide +kernel
theorem dX2_takeDown_80 : decode cX2_takeDown 80 = .ok (.invokevirtual 98, 3) := by decide +kernel
theorem dX2_takeDown_83 : decode cX2_takeDown 83 = .ok (.ifCond .ne 14, 3) := by decide +kernel
theorem dX2_takeDown_86 : decode cX2_takeDown 86 = .ok (.aload_n 0, 1) := by decide +kernel
theorem dX2_takeDown_87 : decode cX2_takeDown 87 = .ok (.getfield 15, 3) := by decide +kernel
theorem dX2_takeDown_90 : decode cX2_takeDown 90 = .ok (.iload_n 3, 1) := by decide +kernel
theorem dX2_takeDown_91 : decode cX2_takeDown 91 = .ok (.invokevirtual 98, 3) := by decide +kernel
theorem dX2_takeDown_94 : decode cX2_takeDown 94 = .ok (.ifCond .eq 13, 3) := by decide +kernel
theorem dX2_takeDown_97 : decode cX2_takeDown 97 = .ok (.aload_n 0, 1) := by decide +kernel
theorem dX2_takeDown_98 : decode cX2_takeDown 98 = .ok (.getfield 27, 3) := by decide +kernel
theorem dX2_takeDown_101 : decode cX2_takeDown 101 = .ok (.bipush 10, 2) := by decide +kernel
theorem dX2_takeDown_103 : decode cX2_takeDown 103 = .ok (.invokevirtual 32, 3) := by decide +kernel
theorem dX2_takeDown_106 : decode cX2_takeDown 106 = .ok (.ireturn, 1) := by decide +kernel
theorem dX2_takeDown_107 : decode cX2_takeDown 107 = .ok (.aload_n 0, 1) := by decide +kernel
theorem dX2_takeDown_108 : decode cX2_takeDown 108 = .ok (.getfield 15, 3) := by decide +kernel
theorem dX2_takeDown_111 : decode cX2_takeDown 111 = .ok (.getfield 54, 3) := by decide +kernel
theorem dX2_takeDown_114 : decode cX2_takeDown 114 = .ok (.iload_n 1, 1) := by decide +kernel
theorem dX2_takeDown_115 : decode cX2_takeDown 115 = .ok (.bipush 7, 2) := by decide +kernel
theorem dX2_takeDown_117 : decode cX2_takeDown 117 = .ok (.invokevirtual 44, 3) := by decide +kernel
theorem dX2_takeDown_120 : decode cX2_takeDown 120 = .ok (.istore 4, 2) := by decide +kernel
theorem dX2_takeDown_122 : decode cX2_takeDown 122 = .ok (.aload_n 0, 1) := by decide +kernel
theorem dX2_takeDown_123 : decode cX2_takeDown 123 = .ok (.getfield 15, 3) := by decide +kernel
theorem dX2_takeDown_126 : decode cX2_takeDown 126 = .ok (.getfield 88, 3) := by decide +kernel
theorem dX2_takeDown_129 : decode cX2_takeDown 129 = .ok (.iload_n 2, 1) := by decide +kernel
theorem dX2_takeDown_130 : decode cX2_takeDown 130 = .ok (.iload 4, 2) := by decide +kernel
theorem dX2_takeDown_132 : decode cX2_takeDown 132 = .ok (.iconst 0, 1) := by decide +kernel
theorem dX2_takeDown_133 : decode cX2_takeDown 133 = .ok (.invokevirtual 50, 3) := by decide +kernel
theorem dX2_takeDown_136 : decode cX2_takeDown 136 = .ok (.aload_n 0, 1) := by decide +kernel
theorem dX2_takeDown_137 : decode cX2_takeDown 137 = .ok (.getfield 15, 3) := by decide +kernel
theorem dX2_takeDown_140 : decode cX2_takeDown 140 = .ok (.getfield 88, 3) := by decide +kernel
theorem dX2_takeDown_143 : decode cX2_takeDown 143 = .ok (.iload_n 3, 1) := by decide +kernel
theorem dX2_takeDown_144 : decode cX2_takeDown 144 = .ok (.iload 4, 2) := by decide +kernel
theorem dX2_takeDown_146 : decode cX2_takeDown 146 = .ok (.iconst 0, 1) := by decide +kernel
theorem dX2_takeDown_147 : decode cX2_takeDown 147 = .ok (.invokevirtual 50, 3) := by decide +kernel
theorem dX2_takeDown_150 : decode cX2_takeDown 150 = .ok (.aload_n 0, 1) := by decide +kernel
theorem dX2_takeDown_151 : decode cX2_takeDown 151 = .ok (.getfield 15, 3) := by decide +kernel
theorem dX2_takeDown_154 : decode cX2_takeDown 154 = .ok (.getfield 54, 3) := by decide +kernel
theorem dX2_takeDown_157 : decode cX2_takeDown 157 = .ok (.iload_n 1, 1) := by decide +kernel
theorem dX2_takeDown_158 : decode cX2_takeDown 158 = .ok (.bipush 6, 2) := by decide +kernel
theorem dX2_takeDown_160 : decode cX2_takeDown 160 = .ok (.ldc 63, 2) := by decide +kernel
theorem dX2_takeDown_162 : decode cX2_takeDown 162 = .ok (.invokevirtual 50, 3) := by decide +kernel
theorem dX2_takeDown_165 : decode cX2_takeDown 165 = .ok (.aload_n 0, 1) := by decide +kernel
theorem dX2_takeDown_166 : decode cX2_takeDown 166 = .ok (.getfield 15, 3) := by decide +kernel
theorem dX2_takeDown_169 : decode cX2_takeDown 169 = .ok (.getfield 54, 3) := by decide +kernel
theorem dX2_takeDown_172 : decode cX2_takeDown 172 = .ok (.iload_n 1, 1) := by decide +kernel
theorem dX2_takeDown_173 : decode cX2_takeDown 173 = .ok (.bipush 7, 2) := by decide +kernel
theorem dX2_takeDown_175 : decode cX2_takeDown 175 = .ok (.ldc 63, 2) := by decide +kernel
theorem dX2_takeDown_177 : decode cX2_takeDown 177 = .ok (.invokevirtual 50, 3) := by decide +kernel
theorem dX2_takeDown_180 : decode cX2_takeDown 180 = .ok (.iload 4, 2) := by decide +kernel
theorem dX2_takeDown_182 : decode cX2_takeDown 182 = .ok (.ireturn, 1) := by decide +kernel
theorem w_X2_takeDown_j97 {z : (Int32 × VT)} {Γ : Gam} {cy : Nat → ClassId} {a : Nat → Nat} {V : VT} {J : JT} {K : Nat → Option Nat} {X : va_W}  (C0 : CXg Γ cX2_takeDown 5 2 RX2 cy) (hD : DC Γ cy a X) (h : f_X2_takeDown_j97 V = some z) (hz : (fun y : Int32 × VT => FinI Γ cX2_takeDown (WC cy a y.2 J K X) y.1) z) : Wp Γ 0 0 97 [(0, .ref (a 7))] [] (WC cy a V J K X) := by
  unfold f_X2_takeDown_j97 at h
  refine r_aload_n C0 dX2_takeDown_97 rfl 0 rfl ?_
  refine wcg_7_3 C0 tf_X2_27 dX2_takeDown_98 ?_
  refine r_bipush C0 dX2_takeDown_101 kb_10 ?_
  refine callV1 C0 h (hD _ _ _) mw_X9_refuse rv_2 tm_X2_32 (fun y hy => c_X9_refuse hy) (Nat.le_of_ble_eq_true rfl) (Nat.le_of_ble_eq_true rfl) dX2_takeDown_103 (fun r6 h => ?_)
  cases h
  exact hz _ _ dX2_takeDown_106
theorem w_X2_takeDown_j74 {z : (Int32 × VT)} {Γ : Gam} {cy : Nat → ClassId} {a : Nat → Nat} {V : VT} {J : JT} {K : Nat → Option Nat} {X : va_W} {v1 : Int32} {v2 : Int32} {s0 : Int32}  (C0 : CXg Γ cX2_takeDown 5 2 RX2 cy) (hD : DC Γ cy a X) (h : f_X2_takeDown_j74 v1 v2 s0 V = some z) (hz : (fun y : Int32 × VT => FinI Γ cX2_takeDown (WC cy a y.2 J K X) y.1) z) : Wp Γ 0 0 74 [(0, .ref (a 7)), (1, .int v1), (2, .int v2)] [.int s0] (WC cy a V J K X) := by
  unfold f_X2_takeDown_j74 at h
  refine r_istore_n (lv2 := [(3, .int s0), (0, .ref (a 7)), (1, .int v1), (2, .int v2)]) C0 dX2_takeDown_74 rfl rfl (Nat.le_of_ble_eq_true rfl) rfl ?_
  refine r_aload_n C0 dX2_takeDown_75 rfl 1 rfl ?_
  refine wcg_7_0 C0 tf_X2_15 dX2_takeDown_76 ?_
  refine r_iload_n C0 dX2_takeDown_79 rfl 3 rfl ?_
  refine callV1 C0 h (hD _ _ _) mw_X3_isHigh rv_3 tm_X2_98 (fun y hy => c_X3_isHigh hy) (Nat.le_of_ble_eq_true rfl) (Nat.le_of_ble_eq_true rfl) dX2_takeDown_80 (fun r5 h => ?_)
  refine r_if_ne C0 97 dX2_takeDown_83 rfl h (fun _ h => ?_) (fun _ h => ?_)
  · exact r_sub [1] rfl (w_X2_takeDown_j97 C0 hD h hz)
  · refine r_aload_n C0 dX2_takeDown_86 rfl 1 rfl ?_
    refine wcg_7_0 C0 tf_X2_15 dX2_takeDown_87 ?_
    refine r_iload_n C0 dX2_takeDown_90 rfl 0 rfl ?_
    refine callV1 C0 h (hD _ _ _) mw_X3_isHigh rv_3 tm_X2_98 (fun y hy => c_X3_isHigh hy) (Nat.le_of_ble_eq_true rfl) (Nat.le_of_ble_eq_true rfl) dX2_takeDown_91 (fun r7 h => ?_)
    refine r_if_eq C0 107 dX2_takeDown_94 rfl h (fun _ h => ?_) (fun _ h => ?_)
    · refine r_aload_n C0 dX2_takeDown_107 rfl 1 rfl ?_
      refine wcg_7_0 C0 tf_X2_15 dX2_takeDown_108 ?_
      refine wcg_3_3 C0 tf_X2_54 dX2_takeDown_111 ?_
      refine r_iload_n C0 dX2_takeDown_114 rfl 2 rfl ?_
      refine r_bipush C0 dX2_takeDown_115 kb_7 ?_
      refine callV2 C0 h (hD _ _ _) mw_X7_get (rv_t tb_13) tm_X2_44 (fun y hy => c_X7_get tb_13 hy) (Nat.le_of_ble_eq_true rfl) (Nat.le_of_ble_eq_true rfl) dX2_takeDown_117 (fun r8 h => ?_)
      refine r_istore (lv2 := [(4, .int r8), (3, .int s0), (0, .ref (a 7)), (1, .int v1), (2, .int v2)]) C0 dX2_takeDown_120 rfl (Nat.le_of_ble_eq_true rfl) rfl ?_
      refine r_aload_n C0 dX2_takeDown_122 rfl 2 rfl ?_
      refine wcg_7_0 C0 tf_X2_15 dX2_takeDown_123 ?_
      refine wcg_3_1 C0 tf_X2_88 dX2_takeDown_126 ?_
      refine r_iload_n C0 dX2_takeDown_129 rfl 4 rfl ?_
      refine r_iload C0 dX2_takeDown_130 0 rfl ?_
      refine r_iconst C0 dX2_takeDown_132 ki_0 ?_
      refine callVv3 C0 h (hD _ _ _) mw_X7_set (rv_t tb_11) tm_X2_50 (fun y hy => c_X7_set tb_11 hy) (Nat.le_of_ble_eq_true rfl) (Nat.le_of_ble_eq_true rfl) dX2_takeDown_133 (fun r9 h => ?_)
      refine r_aload_n C0 dX2_takeDown_136 rfl 2 rfl ?_
      refine wcg_7_0 C0 tf_X2_15 dX2_takeDown_137 ?_
      refine wcg_3_1 C0 tf_X2_88 dX2_takeDown_140 ?_
      refine r_iload_n C0 dX2_takeDown_143 rfl 1 rfl ?_
      refine r_iload C0 dX2_takeDown_144 0 rfl ?_
      refine r_iconst C0 dX2_takeDown_146 ki_0 ?_
      refine callVv3 C0 h (hD _ _ _) mw_X7_set (rv_t tb_11) tm_X2_50 (fun y hy => c_X7_set tb_11 hy) (Nat.le_of_ble_eq_true rfl) (Nat.le_of_ble_eq_true rfl) dX2_takeDown_147 (fun r10 h => ?_)
      refine r_aload_n C0 dX2_takeDown_150 rfl 2 rfl ?_
      refine wcg_7_0 C0 tf_X2_15 dX2_takeDown_151 ?_
      refine wcg_3_3 C0 tf_X2_54 dX2_takeDown_154 ?_
      refine r_iload_n C0 dX2_takeDown_157 rfl 3 rfl ?_
      refine r_bipush C0 dX2_takeDown_158 kb_6 ?_
      refine r_ldc C0 tk_X2_63 dX2_takeDown_160 ?_
      refine callVv3 C0 h (hD _ _ _) mw_X7_set (rv_t tb_13) tm_X2_50 (fun y hy => c_X7_set tb_13 hy) (Nat.le_of_ble_eq_true rfl) (Nat.le_of_ble_eq_true rfl) dX2_takeDown_162 (fun r11 h => ?_)
      refine r_aload_n C0 dX2_takeDown_165 rfl 2 rfl ?_
      refine wcg_7_0 C0 tf_X2_15 dX2_takeDown_166 ?_
      refine wcg_3_3 C0 tf_X2_54 dX2_takeDown_169 ?_
      refine r_iload_n C0 dX2_takeDown_172 rfl 3 rfl ?_
      refine r_bipush C0 dX2_takeDown_173 kb_7 ?_
      refine r_ldc C0 tk_X2_63 dX2_takeDown_175 ?_
      refine callVv3 C0 h (hD _ _ _) mw_X7_set (rv_t tb_13) tm_X2_50 (fun y hy => c_X7_set tb_13 hy) (Nat.le_of_ble_eq_true rfl) (Nat.le_of_ble_eq_true rfl) dX2_takeDown_177 (fun r12 h => ?_)
      refine r_iload C0 dX2_takeDown_180 0 rfl ?_
      cases h
      exact hz _ _ dX2_takeDown_182
    · exact r_sub [1] rfl (w_X2_takeDown_j97 C0 hD h hz)
theorem w_X2_takeDown {z : Int32 × VT} {Γ : Gam} {cy : Nat → ClassId} {a : Nat → Nat} {V : VT} {J : JT} {K : Nat → Option Nat} {X : va_W} {v1 : Int32}  (C0 : CXg Γ cX2_takeDown 5 2 RX2 cy) (hD : DC Γ cy a X) (h : f_X2_takeDown v1 V = some z) (hz : (fun y : Int32 × VT => FinI Γ cX2_takeDown (WC cy a y.2 J K X) y.1) z) : Wp Γ 0 0 0 [(0, .ref (a 7)), (1, .int v1)] [] (WC cy a V J K X) := by
  unfold f_X2_takeDown at h
  refine r_aload_n C0 dX2_takeDown_0 rfl 0 rfl ?_
  refine wcg_7_0 C0 tf_X2_15 dX2_takeDown_1 ?_
  refine r_iload_n C0 dX2_takeDown_4 rfl 1 rfl ?_
  refine callV1 C0 h (hD _ _ _) mw_X3_isThing rv_3 tm_X2_64 (fun y hy => c_X3_isThing hy) (Nat.le_of_ble_eq_true rfl) (Nat.le_of_ble_eq_true rfl) dX2_takeDown_5 (fun r1 h => ?_)
  refine r_if_ne C0 20 dX2_takeDown_8 rfl h (fun _ h => ?_) (fun _ h => ?_)
  · refine r_aload_n C0 dX2_takeDown_20 rfl 0 rfl ?_
    refine wcg_7_0 C0 tf_X2_15 dX2_takeDown_21 ?_
    refine r_iload_n C0 dX2_takeDown_24 rfl 1 rfl ?_
    refine callV1 C0 h (hD _ _ _) mw_X3_hangs rv_3 tm_X2_81 (fun y hy => c_X3_hangs hy) (Nat.le_of_ble_eq_true rfl) (Nat.le_of_ble_eq_true rfl) dX2_takeDown_25 (fun r2 h => ?_)
    refine r_if_ne C0 41 dX2_takeDown_28 rfl h (fun _ h => ?_) (fun _ h => ?_)
    · refine r_aload_n C0 dX2_takeDown_41 rfl 0 rfl ?_
      refine wcg_7_0 C0 tf_X2_15 dX2_takeDown_42 ?_
      refine wcg_3_3 C0 tf_X2_54 dX2_takeDown_45 ?_
      refine r_iload_n C0 dX2_takeDown_48 rfl 1 rfl ?_
      refine r_bipush C0 dX2_takeDown_49 kb_6 ?_
      refine callV2 C0 h (hD _ _ _) mw_X7_get (rv_t tb_13) tm_X2_44 (fun y hy => c_X7_get tb_13 hy) (Nat.le_of_ble_eq_true rfl) (Nat.le_of_ble_eq_true rfl) dX2_takeDown_51 (fun r3 h => ?_)
      refine r_istore_n (lv2 := [(2, .int r3), (0, .ref (a 7)), (1, .int v1)]) C0 dX2_takeDown_54 rfl rfl (Nat.le_of_ble_eq_true rfl) rfl ?_
      refine r_aload_n C0 dX2_takeDown_55 rfl 1 rfl ?_
      refine wcg_7_0 C0 tf_X2_15 dX2_takeDown_56 ?_
      refine r_iload_n C0 dX2_takeDown_59 rfl 2 rfl ?_
      refine r_iconst C0 dX2_takeDown_60 ki_4 ?_
      refine callV2 C0 h (hD _ _ _) mw_X3_isKind rv_3 tm_X2_68 (fun y hy => c_X3_isKind hy) (Nat.le_of_ble_eq_true rfl) (Nat.le_of_ble_eq_true rfl) dX2_takeDown_61 (fun r4 h => ?_)
      refine r_if_eq C0 73 dX2_takeDown_64 rfl h (fun _ h => ?_) (fun _ h => ?_)
      · refine r_iload_n C0 dX2_takeDown_73 rfl 0 rfl ?_
        exact r_sub [1, 2, 0] rfl (w_X2_takeDown_j74 C0 hD h hz)
      · refine r_iload_n C0 dX2_takeDown_67 rfl 0 rfl ?_
        refine r_iconst C0 dX2_takeDown_68 ki_1 ?_
        refine r_iadd C0 dX2_takeDown_69 ?_
        refine r_goto C0 74 dX2_takeDown_70 rfl ?_
        exact r_sub [1, 2, 0] rfl (w_X2_takeDown_j74 C0 hD h hz)
    · refine r_aload_n C0 dX2_takeDown_31 rfl 0 rfl ?_
      refine wcg_7_3 C0 tf_X2_27 dX2_takeDown_32 ?_
      refine r_bipush C0 dX2_takeDown_35 kb_9 ?_
      refine callV1 C0 h (hD _ _ _) mw_X9_refuse rv_2 tm_X2_32 (fun y hy => c_X9_refuse hy) (Nat.le_of_ble_eq_true rfl) (Nat.le_of_ble_eq_true rfl) dX2_takeDown_37 (fun r13 h => ?_)
      cases h
      exact hz _ _ dX2_takeDown_40
  · refine r_aload_n C0 dX2_takeDown_11 rfl 0 rfl ?_
    refine wcg_7_3 C0 tf_X2_27 dX2_takeDown_12 ?_
    refine r_iconst C0 dX2_takeDown_15 ki_2 ?_
    refine callV1 C0 h (hD _ _ _) mw_X9_refuse rv_2 tm_X2_32 (fun y hy => c_X9_refuse hy) (Nat.le_of_ble_eq_true rfl) (Nat.le_of_ble_eq_true rfl) dX2_takeDown_16 (fun r14 h => ?_)
    cases h
    exact hz _ _ dX2_takeDown_19
theorem c_X2_takeDown {l : Launch} {D : va_G} {cy : Nat → ClassId} {a : Nat → Nat} {V : VT} {J : JT} {K : Nat → Option Nat} {X : va_W} {v1 : Int32} {y : Int32 × VT} (h : f_X2_takeDown v1 V = some y) : CT l D cy yX2_takeDown cX2_takeDown 5 (some .int) 2 [.ref (a 7), .int v1] (WC cy a V J K X) (WC cy a y.2 J K X) (some (.int y.1)) :=
  mkI (by decide) (Nat.le_of_ble_eq_true rfl) (fun Γ _ _ C0 hD hF => w_X2_takeDown C0 (dc_of hD) h hF)
theorem dX2_isInTheWay_0 : decode cX2_isInTheWay 0 = .ok (.iconst 0, 1) := by decide +kernel
theorem dX2_isInTheWay_1 : decode cX2_isInTheWay 1 = .ok (.istore 5, 2) := by decide +kernel
theorem dX2_isInTheWay_3 : decode cX2_isInTheWay 3 = .ok (.iload 5, 2) := by decide +kernel
theorem dX2_isInTheWay_5 : decode cX2_isInTheWay 5 = .ok (.iload 4, 2) := by decide +kernel
theorem dX2_isInTheWay_7 : decode cX2_isInTheWay 7 = .ok (.if_icmp .ge 57, 3) := by decide +kernel
theorem dX2_isInTheWay_10 : decode cX2_isInTheWay 10 = .ok (.iload_n 3, 1) := by decide +kernel
theorem dX2_isInTheWay_11 : decode cX2_isInTheWay 11 = .ok (.iload 5, 2) := by decide +kernel
theorem dX2_isInTheWay_13 : decode cX2_isInTheWay 13 = .ok (.iadd, 1) := by decide +kernel
theorem dX2_isInTheWay_14 : decode cX2_isInTheWay 14 = .ok (.istore 6, 2) := by decide +kernel
theorem dX2_isInTheWay_16 : decode cX2_isInTheWay 16 = .ok (.iload 6, 2) := by decide +kernel
theorem dX2_isInTheWay_18 : decode cX2_isInTheWay 18 = .ok (.iload_n 2, 1) := by decide +kernel
theorem dX2_isInTheWay_19 : decode cX2_isInTheWay 19 = .ok (.if_icmp .lt 16, 3) := by decide +kernel
theorem dX2_isInTheWay_22 : decode cX2_isInTheWay 22 = .ok (.iload 6, 2) := by decide +kernel
theorem dX2_isInTheWay_24 : decode cX2_isInTheWay 24 = .ok (.iload_n 2, 1) := by decide +kernel
theorem dX2_isInTheWay_25 : decode cX2_isInTheWay 25 = .ok (.iload 4, 2) := by decide +kernel
theorem dX2_isInTheWay_27 : decode cX2_isInTheWay 27 = .ok (.iadd, 1) := by decide +kernel
theorem dX2_isInTheWay_28 : decode cX2_isInTheWay 28 = .ok (.if_icmp .ge 7, 3) := by decide +kernel
theorem dX2_isInTheWay_31 : decode cX2_isInTheWay 31 = .ok (.iconst 1, 1) := by decide +kernel
theorem dX2_isInTheWay_32 : decode cX2_isInTheWay 32 = .ok (.goto 4, 3) := by decide +kernel
theorem dX2_isInTheWay_35 : decode cX2_isInTheWay 35 = .ok (.iconst 0, 1) := by decide +kernel
theorem dX2_isInTheWay_36 : decode cX2_isInTheWay 36 = .ok (.istore 7, 2) := by decide +kernel
theorem dX2_isInTheWay_38 : decode cX2_isInTheWay 38 = .ok (.iload 7, 2) := by decide +kernel
theorem dX2_isInTheWay_40 : decode cX2_isInTheWay 40 = .ok (.ifCond .ne 18, 3) := by decide +kernel
theorem dX2_isInTheWay_43 : decode cX2_isInTheWay 43 = .ok (.aload_n 0, 1) := by decide +kernel
theorem dX2_isInTheWay_44 : decode cX2_isInTheWay 44 = .ok (.getfield 15, 3) := by decide +kernel
theorem dX2_isInTheWay_47 : decode cX2_isInTheWay 47 = .ok (.iload_n 1, 1) := by decide +kernel
theorem dX2_isInTheWay_48 : decode cX2_isInTheWay 48 = .ok (.iload 6, 2) := by decide +kernel
theorem dX2_isInTheWay_50 : decode cX2_isInTheWay 50 = .ok (.invokevirtual 132, 3) := by decide +kernel
theorem dX2_isInTheWay_53 : decode cX2_isInTheWay 53 = .ok (.ifCond .ne 5, 3) := by decide +kernel
theorem dX2_isInTheWay_56 : decode cX2_isInTheWay 56 = .ok (.iconst 1, 1) := by decide +kernel
theorem dX2_isInTheWay_57 : decode cX2_isInTheWay 57 = .ok (.ireturn, 1) := by decide +kernel
theorem dX2_isInTheWay_58 : decode cX2_isInTheWay 58 = .ok (.iinc 5 1, 3) := by decide +kernel
theorem dX2_isInTheWay_61 : decode cX2_isInTheWay 61 = .ok (.goto (-58), 3) := by decide +kernel
theorem dX2_isInTheWay_64 : decode cX2_isInTheWay 64 = .ok (.iconst 0, 1) := by decide +kernel
theorem dX2_isInTheWay_65 : decode cX2_isInTheWay 65 = .ok (.ireturn, 1) := by decide +kernel
theorem w_X2_isInTheWay_j58 {z : ((Int32) ⊕ (Int32))} {Γ : Gam} {cy : Nat → ClassId} {a : Nat → Nat} {V : VT} {J : JT} {K : Nat → Option Nat} {X : va_W} {v1 : Int32} {v2 : Int32} {v3 : Int32} {v4 : Int32} {v5 : Int32}  (C0 : CXg Γ cX2_isInTheWay 8 2 RX2 cy) (hD : DC Γ cy a X) (h : f_X2_isInTheWay_j58 v1 v2 v3 v4 v5 V = some z) (hz : (Sum.elim (fun x : Int32 => Wp Γ 0 0 3 [(0, .ref (a 7)), (1, .int v1), (2, .int v2), (3, .int v3), (4, .int v4), (5, .int x)] [] (WC cy a V J K X)) (fun y : Int32 => FinZ Γ cX2_isInTheWay (WC cy a V J K X) y)) z) : Wp Γ 0 0 58 [(0, .ref (a 7)), (1, .int v1), (2, .int v2), (3, .int v3), (4, .int v4), (5, .int v5)] [] (WC cy a V J K X) := by
  unfold f_X2_isInTheWay_j58 at h
  obtain ⟨a4, h8, h⟩ := op_bind h
  have e8 := Option.some.inj h8
  refine r_iinc (lv2 := [(5, .int a4), (0, .ref (a 7)), (1, .int v1), (2, .int v2), (3, .int v3), (4, .int v4)]) C0 dX2_isInTheWay_58 5 rfl ki_1 e8 (Nat.le_of_ble_eq_true rfl) rfl ?_
  refine r_goto C0 3 dX2_isInTheWay_61 rfl ?_
  cases h
  have hz := el_inl hz
  exact r_sub [1, 2, 3, 4, 5, 0] rfl hz
theorem w_X2_isInTheWay_j36 {z : ((Int32) ⊕ (Int32))} {Γ : Gam} {cy : Nat → ClassId} {a : Nat → Nat} {V : VT} {J : JT} {K : Nat → Option Nat} {X : va_W} {v1 : Int32} {v2 : Int32} {v3 : Int32} {v4 : Int32} {v5 : Int32} {v6 : Int32} {s0 : Int32}  (C0 : CXg Γ cX2_isInTheWay 8 2 RX2 cy) (hD : DC Γ cy a X) (h : f_X2_isInTheWay_j36 v1 v2 v3 v4 v5 v6 s0 V = some z) (hz : (Sum.elim (fun x : Int32 => Wp Γ 0 0 3 [(0, .ref (a 7)), (1, .int v1), (2, .int v2), (3, .int v3), (4, .int v4), (5, .int x)] [] (WC cy a V J K X)) (fun y : Int32 => FinZ Γ cX2_isInTheWay (WC cy a V J K X) y)) z) : Wp Γ 0 0 36 [(0, .ref (a 7)), (1, .int v1), (2, .int v2), (3, .int v3), (4, .int v4), (5, .int v5), (6, .int v6)] [.int s0] (WC cy a V J K X) := by
  unfold f_X2_isInTheWay_j36 at h
  refine r_istore (lv2 := [(7, .int s0), (0, .ref (a 7)), (1, .int v1), (2, .int v2), (3, .int v3), (4, .int v4), (5, .int v5), (6, .int v6)]) C0 dX2_isInTheWay_36 rfl (Nat.le_of_ble_eq_true rfl) rfl ?_
  refine r_iload C0 dX2_isInTheWay_38 0 rfl ?_
  refine r_if_ne C0 58 dX2_isInTheWay_40 rfl h (fun _ h => ?_) (fun _ h => ?_)
  · exact r_sub [1, 2, 3, 4, 5, 6] rfl (w_X2_isInTheWay_j58 C0 hD h hz)
  · refine r_aload_n C0 dX2_isInTheWay_43 rfl 1 rfl ?_
    refine wcg_7_0 C0 tf_X2_15 dX2_isInTheWay_44 ?_
    refine r_iload_n C0 dX2_isInTheWay_47 rfl 2 rfl ?_
    refine r_iload C0 dX2_isInTheWay_48 7 rfl ?_
    refine callV2 C0 h (hD _ _ _) mw_X3_isFree rv_3 tm_X2_132 (fun y hy => c_X3_isFree hy) (Nat.le_of_ble_eq_true rfl) (Nat.le_of_ble_eq_true rfl) dX2_isInTheWay_50 (fun r5 h => ?_)
    refine r_if_ne C0 58 dX2_isInTheWay_53 rfl h (fun _ h => ?_) (fun _ h => ?_)
    · exact r_sub [1, 2, 3, 4, 5, 6] rfl (w_X2_isInTheWay_j58 C0 hD h hz)
    · obtain ⟨y6, h5, h9⟩ := op_bind h
      clear h
      cases h9
      have hz := (el_inr hz)
      have h := h5
      refine r_iconst C0 dX2_isInTheWay_56 ki_1 ?_
      cases h
      exact hz _ _ nz_1 dX2_isInTheWay_57
theorem w_X2_isInTheWay_j35 {z : ((Int32) ⊕ (Int32))} {Γ : Gam} {cy : Nat → ClassId} {a : Nat → Nat} {V : VT} {J : JT} {K : Nat → Option Nat} {X : va_W} {v1 : Int32} {v2 : Int32} {v3 : Int32} {v4 : Int32} {v5 : Int32} {v6 : Int32}  (C0 : CXg Γ cX2_isInTheWay 8 2 RX2 cy) (hD : DC Γ cy a X) (h : f_X2_isInTheWay_j35 v1 v2 v3 v4 v5 v6 V = some z) (hz : (Sum.elim (fun x : Int32 => Wp Γ 0 0 3 [(0, .ref (a 7)), (1, .int v1), (2, .int v2), (3, .int v3), (4, .int v4), (5, .int x)] [] (WC cy a V J K X)) (fun y : Int32 => FinZ Γ cX2_isInTheWay (WC cy a V J K X) y)) z) : Wp Γ 0 0 35 [(0, .ref (a 7)), (1, .int v1), (2, .int v2), (3, .int v3), (4, .int v4), (5, .int v5), (6, .int v6)] [] (WC cy a V J K X) := by
  unfold f_X2_isInTheWay_j35 at h
  refine r_iconst C0 dX2_isInTheWay_35 ki_0 ?_
  exact r_sub [0, 1, 2, 3, 4, 5, 6] rfl (w_X2_isInTheWay_j36 C0 hD h hz)
theorem w_X2_isInTheWay_B3 {x : Int32} {z : ((Int32) ⊕ (Int32))} {Γ : Gam} {cy : Nat → ClassId} {a : Nat → Nat} {V : VT} {J : JT} {K : Nat → Option Nat} {X : va_W} {v1 : Int32} {v2 : Int32} {v3 : Int32} {v4 : Int32}  (C0 : CXg Γ cX2_isInTheWay 8 2 RX2 cy) (hD : DC Γ cy a X) (h : f_X2_isInTheWay_B3 v1 v2 v3 v4 V x = some z) (hz : (Sum.elim (fun x : Int32 => Wp Γ 0 0 3 [(0, .ref (a 7)), (1, .int v1), (2, .int v2), (3, .int v3), (4, .int v4), (5, .int x)] [] (WC cy a V J K X)) (fun y : Int32 => FinZ Γ cX2_isInTheWay (WC cy a V J K X) y)) z) : Wp Γ 0 0 3 [(0, .ref (a 7)), (1, .int v1), (2, .int v2), (3, .int v3), (4, .int v4), (5, .int x)] [] (WC cy a V J K X) := by
  unfold f_X2_isInTheWay_B3 at h
  refine r_iload C0 dX2_isInTheWay_3 5 rfl ?_
  refine r_iload C0 dX2_isInTheWay_5 4 rfl ?_
  refine r_icmp_ge C0 64 dX2_isInTheWay_7 rfl h (fun _ h => ?_) (fun _ h => ?_)
  · obtain ⟨y2, h5, h9⟩ := op_bind h
    clear h
    cases h9
    have hz := (el_inr hz)
    have h := h5
    refine r_iconst C0 dX2_isInTheWay_64 ki_0 ?_
    cases h
    exact hz _ _ nz_0 dX2_isInTheWay_65
  · refine r_iload_n C0 dX2_isInTheWay_10 rfl 3 rfl ?_
    refine r_iload C0 dX2_isInTheWay_11 5 rfl ?_
    refine r_iadd C0 dX2_isInTheWay_13 ?_
    obtain ⟨a3, h8, h⟩ := op_bind h
    have e8 := Option.some.inj h8
    refine r_istore (lv2 := [(6, .int a3), (0, .ref (a 7)), (1, .int v1), (2, .int v2), (3, .int v3), (4, .int v4), (5, .int x)]) C0 dX2_isInTheWay_14 e8 (Nat.le_of_ble_eq_true rfl) rfl ?_
    refine r_iload C0 dX2_isInTheWay_16 0 rfl ?_
    refine r_iload_n C0 dX2_isInTheWay_18 rfl 3 rfl ?_
    refine r_icmp_lt C0 35 dX2_isInTheWay_19 rfl h (fun _ h => ?_) (fun _ h => ?_)
    · exact r_sub [1, 2, 3, 4, 5, 6, 0] rfl (w_X2_isInTheWay_j35 C0 hD h hz)
    · refine r_iload C0 dX2_isInTheWay_22 0 rfl ?_
      refine r_iload_n C0 dX2_isInTheWay_24 rfl 3 rfl ?_
      refine r_iload C0 dX2_isInTheWay_25 5 rfl ?_
      refine r_iadd C0 dX2_isInTheWay_27 ?_
      refine r_icmp_ge C0 35 dX2_isInTheWay_28 rfl h (fun _ h => ?_) (fun _ h => ?_)
      · exact r_sub [1, 2, 3, 4, 5, 6, 0] rfl (w_X2_isInTheWay_j35 C0 hD h hz)
      · refine r_iconst C0 dX2_isInTheWay_31 ki_1 ?_
        refine r_goto C0 36 dX2_isInTheWay_32 rfl ?_
        exact r_sub [1, 2, 3, 4, 5, 6, 0] rfl (w_X2_isInTheWay_j36 C0 hD h hz)
theorem w_X2_isInTheWay_B3_lp {x : Int32} {z : (Int32)} {Γ : Gam} {cy : Nat → ClassId} {a : Nat → Nat} {V : VT} {J : JT} {K : Nat → Option Nat} {X : va_W} {v1 : Int32} {v2 : Int32} {v3 : Int32} {v4 : Int32}  (C0 : CXg Γ cX2_isInTheWay 8 2 RX2 cy) (hD : DC Γ cy a X) (h : lp (f_X2_isInTheWay_B3 v1 v2 v3 v4 V) fuel x = some z) (hz : (fun y : Int32 => FinZ Γ cX2_isInTheWay (WC cy a V J K X) y) z) : Wp Γ 0 0 3 [(0, .ref (a 7)), (1, .int v1), (2, .int v2), (3, .int v3), (4, .int v4), (5, .int x)] [] (WC cy a V J K X) :=
  lp_rule (hd := (fun x : Int32 => Wp Γ 0 0 3 [(0, .ref (a 7)), (1, .int v1), (2, .int v2), (3, .int v3), (4, .int v4), (5, .int x)] [] (WC cy a V J K X))) (C := (fun y : Int32 => FinZ Γ cX2_isInTheWay (WC cy a V J K X) y)) (fun x z h hz => w_X2_isInTheWay_B3 C0 hD h hz) _ _ _ h hz
theorem w_X2_isInTheWay {z : Int32} {Γ : Gam} {cy : Nat → ClassId} {a : Nat → Nat} {V : VT} {J : JT} {K : Nat → Option Nat} {X : va_W} {v1 : Int32} {v2 : Int32} {v3 : Int32} {v4 : Int32}  (C0 : CXg Γ cX2_isInTheWay 8 2 RX2 cy) (hD : DC Γ cy a X) (h : f_X2_isInTheWay v1 v2 v3 v4 V = some z) (hz : (fun y : Int32 => FinZ Γ cX2_isInTheWay (WC cy a V J K X) y) z) : Wp Γ 0 0 0 [(0, .ref (a 7)), (1, .int v1), (2, .int v2), (3, .int v3), (4, .int v4)] [] (WC cy a V J K X) := by
  unfold f_X2_isInTheWay at h
  refine r_iconst C0 dX2_isInTheWay_0 ki_0 ?_
  obtain ⟨a1, h8, h⟩ := op_bind h
  have e8 := Option.some.inj h8
  refine r_istore (lv2 := [(5, .int a1), (0, .ref (a 7)), (1, .int v1), (2, .int v2), (3, .int v3), (4, .int v4)]) C0 dX2_isInTheWay_1 e8 (Nat.le_of_ble_eq_true rfl) rfl ?_
  exact r_sub [1, 2, 3, 4, 5, 0] rfl (w_X2_isInTheWay_B3_lp C0 hD h hz)
theorem c_X2_isInTheWay {l : Launch} {D : va_G} {cy : Nat → ClassId} {a : Nat → Nat} {V : VT} {J : JT} {K : Nat → Option Nat} {X : va_W} {v1 : Int32} {v2 : Int32} {v3 : Int32} {v4 : Int32} {y : Int32} (h : f_X2_isInTheWay v1 v2 v3 v4 V = some y) : CT l D cy yX2_isInTheWay cX2_isInTheWay 8 (some .boolean) 2 [.ref (a 7), .int v1, .int v2, .int v3, .int v4] (WC cy a V J K X) (WC cy a V J K X) (some (.int y)) :=
  mkZ (by decide) (Nat.le_of_ble_eq_true rfl) (fun Γ _ _ C0 hD hF => w_X2_isInTheWay C0 (dc_of hD) h hF)
theorem dX2_isRange_0 : decode cX2_isRange 0 = .ok (.iload_n 0, 1) := by decide +kernel
theorem dX2_isRange_1 : decode cX2_isRange 1 = .ok (.ifCond .lt 23, 3) := by decide +kernel
theorem dX2_isRange_4 : decode cX2_isRange 4 = .ok (.iload_n 1, 1) := by decide +kernel
theorem dX2_isRange_5 : decode cX2_isRange 5 = .ok (.ifCond .lt 19, 3) := by decide +kernel
theorem dX2_isRange_8 : decode cX2_isRange 8 = .ok (.iload_n 0, 1) := by decide +kernel
theorem dX2_isRange_9 : decode cX2_isRange 9 = .ok (.iload_n 2, 1) := by decide +kernel
theorem dX2_isRange_10 : decode cX2_isRange 10 = .ok (.if_icmp .gt 14, 3) := by decide +kernel
theorem dX2_isRange_13 : decode cX2_isRange 13 = .ok (.iload_n 1, 1) := by decide +kernel
theorem dX2_isRange_14 : decode cX2_isRange 14 = .ok (.iload_n 2, 1) := by decide +kernel
theorem dX2_isRange_15 : decode cX2_isRange 15 = .ok (.iload_n 0, 1) := by decide +kernel
theorem dX2_isRange_16 : decode cX2_isRange 16 = .ok (.isub, 1) := by decide +kernel
theorem dX2_isRange_17 : decode cX2_isRange 17 = .ok (.if_icmp .gt 7, 3) := by decide +kernel
theorem dX2_isRange_20 : decode cX2_isRange 20 = .ok (.iconst 1, 1) := by decide +kernel
theorem dX2_isRange_21 : decode cX2_isRange 21 = .ok (.goto 4, 3) := by decide +kernel
theorem dX2_isRange_24 : decode cX2_isRange 24 = .ok (.iconst 0, 1) := by decide +kernel
theorem dX2_isRange_25 : decode cX2_isRange 25 = .ok (.ireturn, 1) := by decide +kernel
theorem w_X2_isRange_j24 {z : (Int32)} {Γ : Gam} {cy : Nat → ClassId} {a : Nat → Nat} {V : VT} {J : JT} {K : Nat → Option Nat} {X : va_W}  (C0 : CXg Γ cX2_isRange 3 0 RX2 cy) (hD : DC Γ cy a X) (h : f_X2_isRange_j24 V = some z) (hz : (fun y : Int32 => FinZ Γ cX2_isRange (WC cy a V J K X) y) z) : Wp Γ 0 0 24 [] [] (WC cy a V J K X) := by
  unfold f_X2_isRange_j24 at h
  refine r_iconst C0 dX2_isRange_24 ki_0 ?_
  cases h
  exact hz _ _ nz_0 dX2_isRange_25
theorem w_X2_isRange {z : Int32} {Γ : Gam} {cy : Nat → ClassId} {a : Nat → Nat} {V : VT} {J : JT} {K : Nat → Option Nat} {X : va_W} {v0 : Int32} {v1 : Int32} {v2 : Int32}  (C0 : CXg Γ cX2_isRange 3 0 RX2 cy) (hD : DC Γ cy a X) (h : f_X2_isRange v0 v1 v2 V = some z) (hz : (fun y : Int32 => FinZ Γ cX2_isRange (WC cy a V J K X) y) z) : Wp Γ 0 0 0 [(0, .int v0), (1, .int v1), (2, .int v2)] [] (WC cy a V J K X) := by
  unfold f_X2_isRange at h
  refine r_iload_n C0 dX2_isRange_0 rfl 0 rfl ?_
  refine r_if_lt C0 24 dX2_isRange_1 rfl h (fun _ h => ?_) (fun _ h => ?_)
  · exact r_sub [] rfl (w_X2_isRange_j24 C0 hD h hz)
  · refine r_iload_n C0 dX2_isRange_4 rfl 1 rfl ?_
    refine r_if_lt C0 24 dX2_isRange_5 rfl h (fun _ h => ?_) (fun _ h => ?_)
    · exact r_sub [] rfl (w_X2_isRange_j24 C0 hD h hz)
    · refine r_iload_n C0 dX2_isRange_8 rfl 0 rfl ?_
      refine r_iload_n C0 dX2_isRange_9 rfl 2 rfl ?_
      refine r_icmp_gt C0 24 dX2_isRange_10 rfl h (fun _ h => ?_) (fun _ h => ?_)
      · exact r_sub [] rfl (w_X2_isRange_j24 C0 hD h hz)
      · refine r_iload_n C0 dX2_isRange_13 rfl 1 rfl ?_
        refine r_iload_n C0 dX2_isRange_14 rfl 2 rfl ?_
        refine r_iload_n C0 dX2_isRange_15 rfl 0 rfl ?_
        refine r_isub C0 dX2_isRange_16 ?_
        refine r_icmp_gt C0 24 dX2_isRange_17 rfl h (fun _ h => ?_) (fun _ h => ?_)
        · exact r_sub [] rfl (w_X2_isRange_j24 C0 hD h hz)
        · refine r_iconst C0 dX2_isRange_20 ki_1 ?_
          refine r_goto C0 25 dX2_isRange_21 rfl ?_
          cases h
          exact hz _ _ nz_1 dX2_isRange_25
theorem c_X2_isRange {l : Launch} {D : va_G} {cy : Nat → ClassId} {a : Nat → Nat} {V : VT} {J : JT} {K : Nat → Option Nat} {X : va_W} {v0 : Int32} {v1 : Int32} {v2 : Int32} {y : Int32} (h : f_X2_isRange v0 v1 v2 V = some y) : CT l D cy yX2_isRange cX2_isRange 3 (some .boolean) 0 [.int v0, .int v1, .int v2] (WC cy a V J K X) (WC cy a V J K X) (some (.int y)) :=
  mkZ (by decide) (Nat.le_of_ble_eq_true rfl) (fun Γ _ _ C0 hD hF => w_X2_isRange C0 (dc_of hD) h hF)
theorem dX2_isStuck_0 : decode cX2_isStuck 0 = .ok (.iconst 0, 1) := by decide +kernel
theorem dX2_isStuck_1 : decode cX2_isStuck 1 = .ok (.istore 4, 2) := by decide +kernel
theorem dX2_isStuck_3 : decode cX2_isStuck 3 = .ok (.iload 4, 2) := by decide +kernel
theorem dX2_isStuck_5 : decode cX2_isStuck 5 = .ok (.iload_n 3, 1) := by decide +kernel
theorem dX2_isStuck_6 : decode cX2_isStuck 6 = .ok (.if_icmp .ge 55, 3) := by decide +kernel
theorem dX2_isStuck_9 : decode cX2_isStuck 9 = .ok (.aload_n 0, 1) := by decide +kernel
theorem dX2_isStuck_10 : decode cX2_isStuck 10 = .ok (.getfield 15, 3) := by decide +kernel
theorem dX2_isStuck_13 : decode cX2_isStuck 13 = .ok (.getfield 88, 3) := by decide +kernel
theorem dX2_isStuck_16 : decode cX2_isStuck 16 = .ok (.iload_n 1, 1) := by decide +kernel
theorem dX2_isStuck_17 : decode cX2_isStuck 17 = .ok (.iload_n 2, 1) := by decide +kernel
theorem dX2_isStuck_18 : decode cX2_isStuck 18 = .ok (.iload 4, 2) := by decide +kernel
theorem dX2_isStuck_20 : decode cX2_isStuck 20 = .ok (.iadd, 1) := by decide +kernel
theorem dX2_isStuck_21 : decode cX2_isStuck 21 = .ok (.invokevirtual 44, 3) := by decide +kernel
theorem dX2_isStuck_24 : decode cX2_isStuck 24 = .ok (.istore 5, 2) := by decide +kernel
theorem dX2_isStuck_26 : decode cX2_isStuck 26 = .ok (.iload 5, 2) := by decide +kernel
theorem dX2_isStuck_28 : decode cX2_isStuck 28 = .ok (.iconst 1, 1) := by decide +kernel
theorem dX2_isStuck_29 : decode cX2_isStuck 29 = .ok (.if_icmp .eq 24, 3) := by decide +kernel
theorem dX2_isStuck_32 : decode cX2_isStuck 32 = .ok (.iload 5, 2) := by decide +kernel
theorem dX2_isStuck_34 : decode cX2_isStuck 34 = .ok (.iconst 2, 1) := by decide +kernel
theorem dX2_isStuck_35 : decode cX2_isStuck 35 = .ok (.if_icmp .lt 20, 3) := by decide +kernel
theorem dX2_isStuck_38 : decode cX2_isStuck 38 = .ok (.aload_n 0, 1) := by decide +kernel
theorem dX2_isStuck_39 : decode cX2_isStuck 39 = .ok (.getfield 15, 3) := by decide +kernel
theorem dX2_isStuck_42 : decode cX2_isStuck 42 = .ok (.iload 5, 2) := by decide +kernel
theorem dX2_isStuck_44 : decode cX2_isStuck 44 = .ok (.iconst 2, 1) := by decide +kernel
theorem dX2_isStuck_45 : decode cX2_isStuck 45 = .ok (.isub, 1) := by decide +kernel
theorem dX2_isStuck_46 : decode cX2_isStuck 46 = .ok (.iconst 4, 1) := by decide +kernel
theorem dX2_isStuck_47 : decode cX2_isStuck 47 = .ok (.invokevirtual 68, 3) := by decide +kernel
theorem dX2_isStuck_50 : decode cX2_isStuck 50 = .ok (.ifCond .eq 5, 3) := by decide +kernel
theorem dX2_isStuck_53 : decode cX2_isStuck 53 = .ok (.iconst 1, 1) := by decide +kernel
theorem dX2_isStuck_54 : decode cX2_isStuck 54 = .ok (.ireturn, 1) := by decide +kernel
theorem dX2_isStuck_55 : decode cX2_isStuck 55 = .ok (.iinc 4 1, 3) := by decide +kernel
theorem dX2_isStuck_58 : decode cX2_isStuck 58 = .ok (.goto (-55), 3) := by decide +kernel
theorem dX2_isStuck_61 : decode cX2_isStuck 61 = .ok (.iconst 0, 1) := by decide +kernel
theorem dX2_isStuck_62 : decode cX2_isStuck 62 = .ok (.ireturn, 1) := by decide +kernel
theorem w_X2_isStuck_j55 {z : ((Int32) ⊕ (Int32))} {Γ : Gam} {cy : Nat → ClassId} {a : Nat → Nat} {V : VT} {J : JT} {K : Nat → Option Nat} {X : va_W} {v1 : Int32} {v2 : Int32} {v3 : Int32} {v4 : Int32}  (C0 : CXg Γ cX2_isStuck 6 2 RX2 cy) (hD : DC Γ cy a X) (h : f_X2_isStuck_j55 v1 v2 v3 v4 V = some z) (hz : (Sum.elim (fun x : Int32 => Wp Γ 0 0 3 [(0, .ref (a 7)), (1, .int v1), (2, .int v2), (3, .int v3), (4, .int x)] [] (WC cy a V J K X)) (fun y : Int32 => FinZ Γ cX2_isStuck (WC cy a V J K X) y)) z) : Wp Γ 0 0 55 [(0, .ref (a 7)), (1, .int v1), (2, .int v2), (3, .int v3), (4, .int v4)] [] (WC cy a V J K X) := by
  unfold f_X2_isStuck_j55 at h
  obtain ⟨a5, h8, h⟩ := op_bind h
  have e8 := Option.some.inj h8
  refine r_iinc (lv2 := [(4, .int a5), (0, .ref (a 7)), (1, .int v1), (2, .int v2), (3, .int v3)]) C0 dX2_isStuck_55 4 rfl ki_1 e8 (Nat.le_of_ble_eq_true rfl) rfl ?_
  refine r_goto C0 3 dX2_isStuck_58 rfl ?_
  cases h
  have hz := el_inl hz
  exact r_sub [1, 2, 3, 4, 0] rfl hz
theorem w_X2_isStuck_B3 {x : Int32} {z : ((Int32) ⊕ (Int32))} {Γ : Gam} {cy : Nat → ClassId} {a : Nat → Nat} {V : VT} {J : JT} {K : Nat → Option Nat} {X : va_W} {v1 : Int32} {v2 : Int32} {v3 : Int32}  (C0 : CXg Γ cX2_isStuck 6 2 RX2 cy) (hD : DC Γ cy a X) (h : f_X2_isStuck_B3 v1 v2 v3 V x = some z) (hz : (Sum.elim (fun x : Int32 => Wp Γ 0 0 3 [(0, .ref (a 7)), (1, .int v1), (2, .int v2), (3, .int v3), (4, .int x)] [] (WC cy a V J K X)) (fun y : Int32 => FinZ Γ cX2_isStuck (WC cy a V J K X) y)) z) : Wp Γ 0 0 3 [(0, .ref (a 7)), (1, .int v1), (2, .int v2), (3, .int v3), (4, .int x)] [] (WC cy a V J K X) := by
  unfold f_X2_isStuck_B3 at h
  refine r_iload C0 dX2_isStuck_3 4 rfl ?_
  refine r_iload_n C0 dX2_isStuck_5 rfl 3 rfl ?_
  refine r_icmp_ge C0 61 dX2_isStuck_6 rfl h (fun _ h => ?_) (fun _ h => ?_)
  · obtain ⟨y2, h5, h9⟩ := op_bind h
    clear h
    cases h9
    have hz := (el_inr hz)
    have h := h5
    refine r_iconst C0 dX2_isStuck_61 ki_0 ?_
    cases h
    exact hz _ _ nz_0 dX2_isStuck_62
  · refine r_aload_n C0 dX2_isStuck_9 rfl 0 rfl ?_
    refine wcg_7_0 C0 tf_X2_15 dX2_isStuck_10 ?_
    refine wcg_3_1 C0 tf_X2_88 dX2_isStuck_13 ?_
    refine r_iload_n C0 dX2_isStuck_16 rfl 1 rfl ?_
    refine r_iload_n C0 dX2_isStuck_17 rfl 2 rfl ?_
    refine r_iload C0 dX2_isStuck_18 4 rfl ?_
    refine r_iadd C0 dX2_isStuck_20 ?_
    refine callV2 C0 h (hD _ _ _) mw_X7_get (rv_t tb_11) tm_X2_44 (fun y hy => c_X7_get tb_11 hy) (Nat.le_of_ble_eq_true rfl) (Nat.le_of_ble_eq_true rfl) dX2_isStuck_21 (fun r3 h => ?_)
    refine r_istore (lv2 := [(5, .int r3), (0, .ref (a 7)), (1, .int v1), (2, .int v2), (3, .int v3), (4, .int x)]) C0 dX2_isStuck_24 rfl (Nat.le_of_ble_eq_true rfl) rfl ?_
    refine r_iload C0 dX2_isStuck_26 0 rfl ?_
    refine r_iconst C0 dX2_isStuck_28 ki_1 ?_
    refine r_icmp_eq C0 53 dX2_isStuck_29 rfl h (fun _ h => ?_) (fun _ h => ?_)
    · obtain ⟨y4, h5, h9⟩ := op_bind h
      clear h
      cases h9
      have hz := (el_inr hz)
      have h := h5
      refine r_iconst C0 dX2_isStuck_53 ki_1 ?_
      cases h
      exact hz _ _ nz_1 dX2_isStuck_54
    · refine r_iload C0 dX2_isStuck_32 0 rfl ?_
      refine r_iconst C0 dX2_isStuck_34 ki_2 ?_
      refine r_icmp_lt C0 55 dX2_isStuck_35 rfl h (fun _ h => ?_) (fun _ h => ?_)
      · exact r_sub [1, 2, 3, 4, 5] rfl (w_X2_isStuck_j55 C0 hD h hz)
      · refine r_aload_n C0 dX2_isStuck_38 rfl 1 rfl ?_
        refine wcg_7_0 C0 tf_X2_15 dX2_isStuck_39 ?_
        refine r_iload C0 dX2_isStuck_42 0 rfl ?_
        refine r_iconst C0 dX2_isStuck_44 ki_2 ?_
        refine r_isub C0 dX2_isStuck_45 ?_
        refine r_iconst C0 dX2_isStuck_46 ki_4 ?_
        refine callV2 C0 h (hD _ _ _) mw_X3_isKind rv_3 tm_X2_68 (fun y hy => c_X3_isKind hy) (Nat.le_of_ble_eq_true rfl) (Nat.le_of_ble_eq_true rfl) dX2_isStuck_47 (fun r6 h => ?_)
        refine r_if_eq C0 55 dX2_isStuck_50 rfl h (fun _ h => ?_) (fun _ h => ?_)
        · exact r_sub [1, 2, 3, 4, 5] rfl (w_X2_isStuck_j55 C0 hD h hz)
        · obtain ⟨y7, h5, h9⟩ := op_bind h
          clear h
          cases h9
          have hz := (el_inr hz)
          have h := h5
          refine r_iconst C0 dX2_isStuck_53 ki_1 ?_
          cases h
          exact hz _ _ nz_1 dX2_isStuck_54
theorem w_X2_isStuck_B3_lp {x : Int32} {z : (Int32)} {Γ : Gam} {cy : Nat → ClassId} {a : Nat → Nat} {V : VT} {J : JT} {K : Nat → Option Nat} {X : va_W} {v1 : Int32} {v2 : Int32} {v3 : Int32}  (C0 : CXg Γ cX2_isStuck 6 2 RX2 cy) (hD : DC Γ cy a X) (h : lp (f_X2_isStuck_B3 v1 v2 v3 V) fuel x = some z) (hz : (fun y : Int32 => FinZ Γ cX2_isStuck (WC cy a V J K X) y) z) : Wp Γ 0 0 3 [(0, .ref (a 7)), (1, .int v1), (2, .int v2), (3, .int v3), (4, .int x)] [] (WC cy a V J K X) :=
  lp_rule (hd := (fun x : Int32 => Wp Γ 0 0 3 [(0, .ref (a 7)), (1, .int v1), (2, .int v2), (3, .int v3), (4, .int x)] [] (WC cy a V J K X))) (C := (fun y : Int32 => FinZ Γ cX2_isStuck (WC cy a V J K X) y)) (fun x z h hz => w_X2_isStuck_B3 C0 hD h hz) _ _ _ h hz
theorem w_X2_isStuck {z : Int32} {Γ : Gam} {cy : Nat → ClassId} {a : Nat → Nat} {V : VT} {J : JT} {K : Nat → Option Nat} {X : va_W} {v1 : Int32} {v2 : Int32} {v3 : Int32}  (C0 : CXg Γ cX2_isStuck 6 2 RX2 cy) (hD : DC Γ cy a X) (h : f_X2_isStuck v1 v2 v3 V = some z) (hz : (fun y : Int32 => FinZ Γ cX2_isStuck (WC cy a V J K X) y) z) : Wp Γ 0 0 0 [(0, .ref (a 7)), (1, .int v1), (2, .int v2), (3, .int v3)] [] (WC cy a V J K X) := by
  unfold f_X2_isStuck at h
  refine r_iconst C0 dX2_isStuck_0 ki_0 ?_
  obtain ⟨a1, h8, h⟩ := op_bind h
  have e8 := Option.some.inj h8
  refine r_istore (lv2 := [(4, .int a1), (0, .ref (a 7)), (1, .int v1), (2, .int v2), (3, .int v3)]) C0 dX2_isStuck_1 e8 (Nat.le_of_ble_eq_true rfl) rfl ?_
  exact r_sub [1, 2, 3, 4, 0] rfl (w_X2_isStuck_B3_lp C0 hD h hz)
theorem c_X2_isStuck {l : Launch} {D : va_G} {cy : Nat → ClassId} {a : Nat → Nat} {V : VT} {J : JT} {K : Nat → Option Nat} {X : va_W} {v1 : Int32} {v2 : Int32} {v3 : Int32} {y : Int32} (h : f_X2_isStuck v1 v2 v3 V = some y) : CT l D cy yX2_isStuck cX2_isStuck 6 (some .boolean) 2 [.ref (a 7), .int v1, .int v2, .int v3] (WC cy a V J K X) (WC cy a V J K X) (some (.int y)) :=
  mkZ (by decide) (Nat.le_of_ble_eq_true rfl) (fun Γ _ _ C0 hD hF => w_X2_isStuck C0 (dc_of hD) h hF)
theorem dX2_moveAll_0 : decode cX2_moveAll 0 = .ok (.iconst 0, 1) := by decide +kernel
theorem dX2_moveAll_1 : decode cX2_moveAll 1 = .ok (.istore 5, 2) := by decide +kernel
theorem dX2_moveAll_3 : decode cX2_moveAll 3 = .ok (.iconst 0, 1) := by decide +kernel
theorem dX2_moveAll_4 : decode cX2_moveAll 4 = .ok (.istore 6, 2) := by decide +kernel
theorem dX2_moveAll_6 : decode cX2_moveAll 6 = .ok (.iload 6, 2) := by decide +kernel
theorem dX2_moveAll_8 : decode cX2_moveAll 8 = .ok (.iload 4, 2) := by decide +kernel
theorem dX2_moveAll_10 : decode cX2_moveAll 10 = .ok (.if_icmp .ge 57, 3) := by decide +kernel
theorem dX2_moveAll_13 : decode cX2_moveAll 13 = .ok (.iload 6, 2) := by decide +kernel
theorem dX2_moveAll_15 : decode cX2_moveAll 15 = .ok (.aload_n 0, 1) := by decide +kernel
theorem dX2_moveAll_16 : decode cX2_moveAll 16 = .ok (.getfield 9, 3) := by decide +kernel
theorem dX2_moveAll_19 : decode cX2_moveAll 19 = .ok (.arraylength, 1) := by decide +kernel
theorem dX2_moveAll_20 : decode cX2_moveAll 20 = .ok (.if_icmp .ge 47, 3) := by decide +kernel
theorem dX2_moveAll_23 : decode cX2_moveAll 23 = .ok (.aload_n 0, 1) := by decide +kernel
theorem dX2_moveAll_24 : decode cX2_moveAll 24 = .ok (.getfield 9, 3) := by decide +kernel
theorem dX2_moveAll_27 : decode cX2_moveAll 27 = .ok (.iload 6, 2) := by decide +kernel
theorem dX2_moveAll_29 : decode cX2_moveAll 29 = .ok (.aload_n 0, 1) := by decide +kernel
theorem dX2_moveAll_30 : decode cX2_moveAll 30 = .ok (.getfield 15, 3) := by decide +kernel
theorem dX2_moveAll_33 : decode cX2_moveAll 33 = .ok (.getfield 88, 3) := by decide +kernel
theorem dX2_moveAll_36 : decode cX2_moveAll 36 = .ok (.iload_n 1, 1) := by decide +kernel
theorem dX2_moveAll_37 : decode cX2_moveAll 37 = .ok (.iload_n 2, 1) := by decide +kernel
theorem dX2_moveAll_38 : decode cX2_moveAll 38 = .ok (.iload 6, 2) := by decide +kernel
theorem dX2_moveAll_40 : decode cX2_moveAll 40 = .ok (.iadd, 1) := by decide +kernel
theorem dX2_moveAll_41 : decode cX2_moveAll 41 = .ok (.invokevirtual 44, 3) := by decide +kernel
theorem dX2_moveAll_44 : decode cX2_moveAll 44 = .ok (.iastore, 1) := by decide +kernel
theorem dX2_moveAll_45 : decode cX2_moveAll 45 = .ok (.aload_n 0, 1) := by decide +kernel
theorem dX2_moveAll_46 : decode cX2_moveAll 46 = .ok (.getfield 15, 3) := by decide +kernel
theorem dX2_moveAll_49 : decode cX2_moveAll 49 = .ok (.getfield 88, 3) := by decide +kernel
theorem dX2_moveAll_52 : decode cX2_moveAll 52 = .ok (.iload_n 1, 1) := by decide +kernel
theorem dX2_moveAll_53 : decode cX2_moveAll 53 = .ok (.iload_n 2, 1) := by decide +kernel
theorem dX2_moveAll_54 : decode cX2_moveAll 54 = .ok (.iload 6, 2) := by decide +kernel
theorem dX2_moveAll_56 : decode cX2_moveAll 56 = .ok (.iadd, 1) := by decide +kernel
theorem dX2_moveAll_57 : decode cX2_moveAll 57 = .ok (.iconst 0, 1) := by decide +kernel
theorem dX2_moveAll_58 : decode cX2_moveAll 58 = .ok (.invokevirtual 50, 3) := by decide +kernel
theorem dX2_moveAll_61 : decode cX2_moveAll 61 = .ok (.iinc 6 1, 3) := by decide +kernel
theorem dX2_moveAll_64 : decode cX2_moveAll 64 = .ok (.goto (-58), 3) := by decide +kernel
theorem dX2_moveAll_67 : decode cX2_moveAll 67 = .ok (.iconst 0, 1) := by decide +kernel
theorem dX2_moveAll_68 : decode cX2_moveAll 68 = .ok (.istore 6, 2) := by decide +kernel
theorem dX2_moveAll_70 : decode cX2_moveAll 70 = .ok (.iload 6, 2) := by decide +kernel
theorem dX2_moveAll_72 : decode cX2_moveAll 72 = .ok (.iload 4, 2) := by decide +kernel
theorem dX2_moveAll_74 : decode cX2_moveAll 74 = .ok (.if_icmp .ge 80, 3) := by decide +kernel
theorem dX2_moveAll_77 : decode cX2_moveAll 77 = .ok (.iload 6, 2) := by decide +kernel
theorem dX2_moveAll_79 : decode cX2_moveAll 79 = .ok (.aload_n 0, 1) := by decide +kernel
theorem dX2_moveAll_80 : decode cX2_moveAll 80 = .ok (.getfield 9, 3) := by decide +kernel
theorem dX2_moveAll_83 : decode cX2_moveAll 83 = .ok (.arraylength, 1) := by decide +kernel
theorem dX2_moveAll_84 : decode cX2_moveAll 84 = .ok (.if_icmp .ge 70, 3) := by decide +kernel
theorem dX2_moveAll_87 : decode cX2_moveAll 87 = .ok (.aload_n 0, 1) := by decide +kernel
theorem dX2_moveAll_88 : decode cX2_moveAll 88 = .ok (.getfield 9, 3) := by decide +kernel
theorem dX2_moveAll_91 : decode cX2_moveAll 91 = .ok (.iload 6, 2) := by decide +kernel
theorem dX2_moveAll_93 : decode cX2_moveAll 93 = .ok (.iaload, 1) := by decide +kernel
theorem dX2_moveAll_94 : decode cX2_moveAll 94 = .ok (.iconst 2, 1) := by decide +kernel
theorem dX2_moveAll_95 : decode cX2_moveAll 95 = .ok (.if_icmp .lt 53, 3) := by decide +kernel
theorem dX2_moveAll_98 : decode cX2_moveAll 98 = .ok (.aload_n 0, 1) := by decide +kernel
theorem dX2_moveAll_99 : decode cX2_moveAll 99 = .ok (.getfield 15, 3) := by decide +kernel
theorem dX2_moveAll_102 : decode cX2_moveAll 102 = .ok (.getfield 88, 3) := by decide +kernel
theorem dX2_moveAll_105 : decode cX2_moveAll 105 = .ok (.iload_n 1, 1) := by decide +kernel
theorem dX2_moveAll_106 : decode cX2_moveAll 106 = .ok (.iload_n 3, 1) := by decide +kernel
theorem dX2_moveAll_107 : decode cX2_moveAll 107 = .ok (.iload 6, 2) := by decide +kernel
theorem dX2_moveAll_109 : decode cX2_moveAll 109 = .ok (.iadd, 1) := by decide +kernel
theorem dX2_moveAll_110 : decode cX2_moveAll 110 = .ok (.aload_n 0, 1) := by decide +kernel
theorem dX2_moveAll_111 : decode cX2_moveAll 111 = .ok (.getfield 9, 3) := by decide +kernel
theorem dX2_moveAll_114 : decode cX2_moveAll 114 = .ok (.iload 6, 2) := by decide +kernel
theorem dX2_moveAll_116 : decode cX2_moveAll 116 = .ok (.iaload, 1) := by decide +kernel
theorem dX2_moveAll_117 : decode cX2_moveAll 117 = .ok (.invokevirtual 50, 3) := by decide +kernel
theorem dX2_moveAll_120 : decode cX2_moveAll 120 = .ok (.aload_n 0, 1) := by decide +kernel
theorem dX2_moveAll_121 : decode cX2_moveAll 121 = .ok (.getfield 15, 3) := by decide +kernel
theorem dX2_moveAll_124 : decode cX2_moveAll 124 = .ok (.getfield 54, 3) := by decide +kernel
theorem dX2_moveAll_127 : decode cX2_moveAll 127 = .ok (.aload_n 0, 1) := by decide +kernel
theorem dX2_moveAll_128 : decode cX2_moveAll 128 = .ok (.getfield 9, 3) := by decide +kernel
theorem dX2_moveAll_131 : decode cX2_moveAll 131 = .ok (.iload 6, 2) := by decide +kernel
theorem dX2_moveAll_133 : decode cX2_moveAll 133 = .ok (.iaload, 1) := by decide +kernel
theorem dX2_moveAll_134 : decode cX2_moveAll 134 = .ok (.iconst 2, 1) := by decide +kernel
theorem dX2_moveAll_135 : decode cX2_moveAll 135 = .ok (.isub, 1) := by decide +kernel
theorem dX2_moveAll_136 : decode cX2_moveAll 136 = .ok (.bipush 7, 2) := by decide +kernel
theorem dX2_moveAll_138 : decode cX2_moveAll 138 = .ok (.iload_n 3, 1) := by decide +kernel
theorem dX2_moveAll_139 : decode cX2_moveAll 139 = .ok (.iload 6, 2) := by decide +kernel
theorem dX2_moveAll_141 : decode cX2_moveAll 141 = .ok (.iadd, 1) := by decide +kernel
theorem dX2_moveAll_142 : decode cX2_moveAll 142 = .ok (.invokevirtual 50, 3) := by decide +kernel
theorem dX2_moveAll_145 : decode cX2_moveAll 145 = .ok (.iinc 5 1, 3) := by decide +kernel
theorem dX2_moveAll_148 : decode cX2_moveAll 148 = .ok (.iinc 6 1, 3) := by decide +kernel
theorem dX2_moveAll_151 : decode cX2_moveAll 151 = .ok (.goto (-81), 3) := by decide +kernel
theorem dX2_moveAll_154 : decode cX2_moveAll 154 = .ok (.iload 5, 2) := by decide +kernel
theorem dX2_moveAll_156 : decode cX2_moveAll 156 = .ok (.ireturn, 1) := by decide +kernel
theorem w_X2_moveAll_j148 {z : ((Int32 × Int32 × VT) ⊕ (Int32 × VT))} {Γ : Gam} {cy : Nat → ClassId} {a : Nat → Nat} {V : VT} {J : JT} {K : Nat → Option Nat} {X : va_W} {v1 : Int32} {v3 : Int32} {v4 : Int32} {v5 : Int32} {v6 : Int32}  (C0 : CXg Γ cX2_moveAll 7 2 RX2 cy) (hD : DC Γ cy a X) (h : f_X2_moveAll_j148 v1 v3 v4 v5 v6 V = some z) (hz : (Sum.elim (fun x : Int32 × Int32 × VT => Wp Γ 0 0 70 [(0, .ref (a 7)), (1, .int v1), (3, .int v3), (4, .int v4), (5, .int x.1), (6, .int x.2.1)] [] (WC cy a x.2.2 J K X)) (fun y : Int32 × VT => FinI Γ cX2_moveAll (WC cy a y.2 J K X) y.1)) z) : Wp Γ 0 0 148 [(0, .ref (a 7)), (1, .int v1), (3, .int v3), (4, .int v4), (5, .int v5), (6, .int v6)] [] (WC cy a V J K X) := by
  unfold f_X2_moveAll_j148 at h
  obtain ⟨a8, h8, h⟩ := op_bind h
  have e8 := Option.some.inj h8
  refine r_iinc (lv2 := [(6, .int a8), (0, .ref (a 7)), (1, .int v1), (3, .int v3), (4, .int v4), (5, .int v5)]) C0 dX2_moveAll_148 5 rfl ki_1 e8 (Nat.le_of_ble_eq_true rfl) rfl ?_
  refine r_goto C0 70 dX2_moveAll_151 rfl ?_
  cases h
  have hz := el_inl hz
  exact r_sub [1, 2, 3, 4, 5, 0] rfl hz
theorem w_X2_moveAll_B70 {x : Int32 × Int32 × VT} {z : ((Int32 × Int32 × VT) ⊕ (Int32 × VT))} {Γ : Gam} {cy : Nat → ClassId} {a : Nat → Nat} {J : JT} {K : Nat → Option Nat} {X : va_W} {v1 : Int32} {v3 : Int32} {v4 : Int32}  (C0 : CXg Γ cX2_moveAll 7 2 RX2 cy) (hD : DC Γ cy a X) (h : f_X2_moveAll_B70 v1 v3 v4 x = some z) (hz : (Sum.elim (fun x : Int32 × Int32 × VT => Wp Γ 0 0 70 [(0, .ref (a 7)), (1, .int v1), (3, .int v3), (4, .int v4), (5, .int x.1), (6, .int x.2.1)] [] (WC cy a x.2.2 J K X)) (fun y : Int32 × VT => FinI Γ cX2_moveAll (WC cy a y.2 J K X) y.1)) z) : Wp Γ 0 0 70 [(0, .ref (a 7)), (1, .int v1), (3, .int v3), (4, .int v4), (5, .int x.1), (6, .int x.2.1)] [] (WC cy a x.2.2 J K X) := by
  unfold f_X2_moveAll_B70 at h
  refine r_iload C0 dX2_moveAll_70 5 rfl ?_
  refine r_iload C0 dX2_moveAll_72 3 rfl ?_
  refine r_icmp_ge C0 154 dX2_moveAll_74 rfl h (fun _ h => ?_) (fun _ h => ?_)
  · obtain ⟨y5, h5, h9⟩ := op_bind h
    clear h
    cases h9
    have hz := (el_inr hz)
    have h := h5
    refine r_iload C0 dX2_moveAll_154 4 rfl ?_
    cases h
    exact hz _ _ dX2_moveAll_156
  · refine r_iload C0 dX2_moveAll_77 5 rfl ?_
    refine r_aload_n C0 dX2_moveAll_79 rfl 0 rfl ?_
    refine wcg_7_4 C0 tf_X2_9 dX2_moveAll_80 ?_
    refine wcln_25 C0 dX2_moveAll_83 ?_
    refine r_icmp_ge C0 154 dX2_moveAll_84 rfl h (fun _ h => ?_) (fun _ h => ?_)
    · obtain ⟨y6, h5, h9⟩ := op_bind h
      clear h
      cases h9
      have hz := (el_inr hz)
      have h := h5
      refine r_iload C0 dX2_moveAll_154 4 rfl ?_
      cases h
      exact hz _ _ dX2_moveAll_156
    · refine r_aload_n C0 dX2_moveAll_87 rfl 0 rfl ?_
      refine wcg_7_4 C0 tf_X2_9 dX2_moveAll_88 ?_
      refine r_iload C0 dX2_moveAll_91 5 rfl ?_
      refine wcal_25 C0 h dX2_moveAll_93 (fun k7 h => ?_)
      refine r_iconst C0 dX2_moveAll_94 ki_2 ?_
      refine r_icmp_lt C0 148 dX2_moveAll_95 rfl h (fun _ h => ?_) (fun _ h => ?_)
      · exact r_sub [0, 1, 2, 3, 4, 5] rfl (w_X2_moveAll_j148 C0 hD h hz)
      · refine r_aload_n C0 dX2_moveAll_98 rfl 0 rfl ?_
        refine wcg_7_0 C0 tf_X2_15 dX2_moveAll_99 ?_
        refine wcg_3_1 C0 tf_X2_88 dX2_moveAll_102 ?_
        refine r_iload_n C0 dX2_moveAll_105 rfl 1 rfl ?_
        refine r_iload_n C0 dX2_moveAll_106 rfl 2 rfl ?_
        refine r_iload C0 dX2_moveAll_107 5 rfl ?_
        refine r_iadd C0 dX2_moveAll_109 ?_
        refine r_aload_n C0 dX2_moveAll_110 rfl 0 rfl ?_
        refine wcg_7_4 C0 tf_X2_9 dX2_moveAll_111 ?_
        refine r_iload C0 dX2_moveAll_114 5 rfl ?_
        refine wcal_25 C0 h dX2_moveAll_116 (fun k9 h => ?_)
        refine callVv3 C0 h (hD _ _ _) mw_X7_set (rv_t tb_11) tm_X2_50 (fun y hy => c_X7_set tb_11 hy) (Nat.le_of_ble_eq_true rfl) (Nat.le_of_ble_eq_true rfl) dX2_moveAll_117 (fun r10 h => ?_)
        refine r_aload_n C0 dX2_moveAll_120 rfl 0 rfl ?_
        refine wcg_7_0 C0 tf_X2_15 dX2_moveAll_121 ?_
        refine wcg_3_3 C0 tf_X2_54 dX2_moveAll_124 ?_
        refine r_aload_n C0 dX2_moveAll_127 rfl 0 rfl ?_
        refine wcg_7_4 C0 tf_X2_9 dX2_moveAll_128 ?_
        refine r_iload C0 dX2_moveAll_131 5 rfl ?_
        refine wcal_25 C0 h dX2_moveAll_133 (fun k11 h => ?_)
        refine r_iconst C0 dX2_moveAll_134 ki_2 ?_
        refine r_isub C0 dX2_moveAll_135 ?_
        refine r_bipush C0 dX2_moveAll_136 kb_7 ?_
        refine r_iload_n C0 dX2_moveAll_138 rfl 2 rfl ?_
        refine r_iload C0 dX2_moveAll_139 5 rfl ?_
        refine r_iadd C0 dX2_moveAll_141 ?_
        refine callVv3 C0 h (hD _ _ _) mw_X7_set (rv_t tb_13) tm_X2_50 (fun y hy => c_X7_set tb_13 hy) (Nat.le_of_ble_eq_true rfl) (Nat.le_of_ble_eq_true rfl) dX2_moveAll_142 (fun r12 h => ?_)
        obtain ⟨a13, h8, h⟩ := op_bind h
        have e8 := Option.some.inj h8
        refine r_iinc (lv2 := [(5, .int a13), (0, .ref (a 7)), (1, .int v1), (3, .int v3), (4, .int v4), (6, .int x.2.1)]) C0 dX2_moveAll_145 4 rfl ki_1 e8 (Nat.le_of_ble_eq_true rfl) rfl ?_
        exact r_sub [1, 2, 3, 4, 0, 5] rfl (w_X2_moveAll_j148 C0 hD h hz)
theorem w_X2_moveAll_B70_lp {x : Int32 × Int32 × VT} {z : (Int32 × VT)} {Γ : Gam} {cy : Nat → ClassId} {a : Nat → Nat} {J : JT} {K : Nat → Option Nat} {X : va_W} {v1 : Int32} {v3 : Int32} {v4 : Int32}  (C0 : CXg Γ cX2_moveAll 7 2 RX2 cy) (hD : DC Γ cy a X) (h : lp (f_X2_moveAll_B70 v1 v3 v4) fuel x = some z) (hz : (fun y : Int32 × VT => FinI Γ cX2_moveAll (WC cy a y.2 J K X) y.1) z) : Wp Γ 0 0 70 [(0, .ref (a 7)), (1, .int v1), (3, .int v3), (4, .int v4), (5, .int x.1), (6, .int x.2.1)] [] (WC cy a x.2.2 J K X) :=
  lp_rule (hd := (fun x : Int32 × Int32 × VT => Wp Γ 0 0 70 [(0, .ref (a 7)), (1, .int v1), (3, .int v3), (4, .int v4), (5, .int x.1), (6, .int x.2.1)] [] (WC cy a x.2.2 J K X))) (C := (fun y : Int32 × VT => FinI Γ cX2_moveAll (WC cy a y.2 J K X) y.1)) (fun x z h hz => w_X2_moveAll_B70 C0 hD h hz) _ _ _ h hz
theorem w_X2_moveAll_j67 {z : (Int32 × VT)} {Γ : Gam} {cy : Nat → ClassId} {a : Nat → Nat} {V : VT} {J : JT} {K : Nat → Option Nat} {X : va_W} {v1 : Int32} {v3 : Int32} {v4 : Int32} {v5 : Int32}  (C0 : CXg Γ cX2_moveAll 7 2 RX2 cy) (hD : DC Γ cy a X) (h : f_X2_moveAll_j67 v1 v3 v4 v5 V = some z) (hz : (fun y : Int32 × VT => FinI Γ cX2_moveAll (WC cy a y.2 J K X) y.1) z) : Wp Γ 0 0 67 [(0, .ref (a 7)), (1, .int v1), (3, .int v3), (4, .int v4), (5, .int v5)] [] (WC cy a V J K X) := by
  unfold f_X2_moveAll_j67 at h
  refine r_iconst C0 dX2_moveAll_67 ki_0 ?_
  obtain ⟨a4, h8, h⟩ := op_bind h
  have e8 := Option.some.inj h8
  refine r_istore (lv2 := [(6, .int a4), (0, .ref (a 7)), (1, .int v1), (3, .int v3), (4, .int v4), (5, .int v5)]) C0 dX2_moveAll_68 e8 (Nat.le_of_ble_eq_true rfl) rfl ?_
  exact r_sub [1, 2, 3, 4, 5, 0] rfl (w_X2_moveAll_B70_lp C0 hD h hz)
theorem w_X2_moveAll_B6 {x : Int32 × VT} {z : ((Int32 × VT) ⊕ (Int32 × VT))} {Γ : Gam} {cy : Nat → ClassId} {a : Nat → Nat} {J : JT} {K : Nat → Option Nat} {X : va_W} {v1 : Int32} {v2 : Int32} {v3 : Int32} {v4 : Int32} {v5 : Int32}  (C0 : CXg Γ cX2_moveAll 7 2 RX2 cy) (hD : DC Γ cy a X) (h : f_X2_moveAll_B6 v1 v2 v3 v4 v5 x = some z) (hz : (Sum.elim (fun x : Int32 × VT => Wp Γ 0 0 6 [(0, .ref (a 7)), (1, .int v1), (2, .int v2), (3, .int v3), (4, .int v4), (5, .int v5), (6, .int x.1)] [] (WC cy a x.2 J K X)) (fun y : Int32 × VT => FinI Γ cX2_moveAll (WC cy a y.2 J K X) y.1)) z) : Wp Γ 0 0 6 [(0, .ref (a 7)), (1, .int v1), (2, .int v2), (3, .int v3), (4, .int v4), (5, .int v5), (6, .int x.1)] [] (WC cy a x.2 J K X) := by
  unfold f_X2_moveAll_B6 at h
  refine r_iload C0 dX2_moveAll_6 6 rfl ?_
  refine r_iload C0 dX2_moveAll_8 4 rfl ?_
  refine r_icmp_ge C0 67 dX2_moveAll_10 rfl h (fun _ h => ?_) (fun _ h => ?_)
  · obtain ⟨y3, h5, h9⟩ := op_bind h
    clear h
    cases h9
    have hz := (el_inr hz)
    have h := h5
    exact r_sub [0, 1, 3, 4, 5] rfl (w_X2_moveAll_j67 C0 hD h hz)
  · refine r_iload C0 dX2_moveAll_13 6 rfl ?_
    refine r_aload_n C0 dX2_moveAll_15 rfl 0 rfl ?_
    refine wcg_7_4 C0 tf_X2_9 dX2_moveAll_16 ?_
    refine wcln_25 C0 dX2_moveAll_19 ?_
    refine r_icmp_ge C0 67 dX2_moveAll_20 rfl h (fun _ h => ?_) (fun _ h => ?_)
    · obtain ⟨y14, h5, h9⟩ := op_bind h
      clear h
      cases h9
      have hz := (el_inr hz)
      have h := h5
      exact r_sub [0, 1, 3, 4, 5] rfl (w_X2_moveAll_j67 C0 hD h hz)
    · refine r_aload_n C0 dX2_moveAll_23 rfl 0 rfl ?_
      refine wcg_7_4 C0 tf_X2_9 dX2_moveAll_24 ?_
      refine r_iload C0 dX2_moveAll_27 6 rfl ?_
      refine r_aload_n C0 dX2_moveAll_29 rfl 0 rfl ?_
      refine wcg_7_0 C0 tf_X2_15 dX2_moveAll_30 ?_
      refine wcg_3_1 C0 tf_X2_88 dX2_moveAll_33 ?_
      refine r_iload_n C0 dX2_moveAll_36 rfl 1 rfl ?_
      refine r_iload_n C0 dX2_moveAll_37 rfl 2 rfl ?_
      refine r_iload C0 dX2_moveAll_38 6 rfl ?_
      refine r_iadd C0 dX2_moveAll_40 ?_
      refine callV2 C0 h (hD _ _ _) mw_X7_get (rv_t tb_11) tm_X2_44 (fun y hy => c_X7_get tb_11 hy) (Nat.le_of_ble_eq_true rfl) (Nat.le_of_ble_eq_true rfl) dX2_moveAll_41 (fun r15 h => ?_)
      refine wcas_25 C0 hD h dX2_moveAll_44 (fun k16 h => ?_)
      refine r_aload_n C0 dX2_moveAll_45 rfl 0 rfl ?_
      refine wcg_7_0 C0 tf_X2_15 dX2_moveAll_46 ?_
      refine wcg_3_1 C0 tf_X2_88 dX2_moveAll_49 ?_
      refine r_iload_n C0 dX2_moveAll_52 rfl 1 rfl ?_
      refine r_iload_n C0 dX2_moveAll_53 rfl 2 rfl ?_
      refine r_iload C0 dX2_moveAll_54 6 rfl ?_
      refine r_iadd C0 dX2_moveAll_56 ?_
      refine r_iconst C0 dX2_moveAll_57 ki_0 ?_
      refine callVv3 C0 h (hD _ _ _) mw_X7_set (rv_t tb_11) tm_X2_50 (fun y hy => c_X7_set tb_11 hy) (Nat.le_of_ble_eq_true rfl) (Nat.le_of_ble_eq_true rfl) dX2_moveAll_58 (fun r17 h => ?_)
      obtain ⟨a18, h8, h⟩ := op_bind h
      have e8 := Option.some.inj h8
      refine r_iinc (lv2 := [(6, .int a18), (0, .ref (a 7)), (1, .int v1), (2, .int v2), (3, .int v3), (4, .int v4), (5, .int v5)]) C0 dX2_moveAll_61 6 rfl ki_1 e8 (Nat.le_of_ble_eq_true rfl) rfl ?_
      refine r_goto C0 6 dX2_moveAll_64 rfl ?_
      cases h
      have hz := el_inl hz
      exact r_sub [1, 2, 3, 4, 5, 6, 0] rfl hz
theorem w_X2_moveAll_B6_lp {x : Int32 × VT} {z : (Int32 × VT)} {Γ : Gam} {cy : Nat → ClassId} {a : Nat → Nat} {J : JT} {K : Nat → Option Nat} {X : va_W} {v1 : Int32} {v2 : Int32} {v3 : Int32} {v4 : Int32} {v5 : Int32}  (C0 : CXg Γ cX2_moveAll 7 2 RX2 cy) (hD : DC Γ cy a X) (h : lp (f_X2_moveAll_B6 v1 v2 v3 v4 v5) fuel x = some z) (hz : (fun y : Int32 × VT => FinI Γ cX2_moveAll (WC cy a y.2 J K X) y.1) z) : Wp Γ 0 0 6 [(0, .ref (a 7)), (1, .int v1), (2, .int v2), (3, .int v3), (4, .int v4), (5, .int v5), (6, .int x.1)] [] (WC cy a x.2 J K X) :=
  lp_rule (hd := (fun x : Int32 × VT => Wp Γ 0 0 6 [(0, .ref (a 7)), (1, .int v1), (2, .int v2), (3, .int v3), (4, .int v4), (5, .int v5), (6, .int x.1)] [] (WC cy a x.2 J K X))) (C := (fun y : Int32 × VT => FinI Γ cX2_moveAll (WC cy a y.2 J K X) y.1)) (fun x z h hz => w_X2_moveAll_B6 C0 hD h hz) _ _ _ h hz
theorem w_X2_moveAll {z : Int32 × VT} {Γ : Gam} {cy : Nat → ClassId} {a : Nat → Nat} {V : VT} {J : JT} {K : Nat → Option Nat} {X : va_W} {v1 : Int32} {v2 : Int32} {v3 : Int32} {v4 : Int32}  (C0 : CXg Γ cX2_moveAll 7 2 RX2 cy) (hD : DC Γ cy a X) (h : f_X2_moveAll v1 v2 v3 v4 V = some z) (hz : (fun y : Int32 × VT => FinI Γ cX2_moveAll (WC cy a y.2 J K X) y.1) z) : Wp Γ 0 0 0 [(0, .ref (a 7)), (1, .int v1), (2, .int v2), (3, .int v3), (4, .int v4)] [] (WC cy a V J K X) := by
  unfold f_X2_moveAll at h
  refine r_iconst C0 dX2_moveAll_0 ki_0 ?_
  obtain ⟨a1, h8, h⟩ := op_bind h
  have e8 := Option.some.inj h8
  refine r_istore (lv2 := [(5, .int a1), (0, .ref (a 7)), (1, .int v1), (2, .int v2), (3, .int v3), (4, .int v4)]) C0 dX2_moveAll_1 e8 (Nat.le_of_ble_eq_true rfl) rfl ?_
  refine r_iconst C0 dX2_moveAll_3 ki_0 ?_
  obtain ⟨a2, h8, h⟩ := op_bind h
  have e8 := Option.some.inj h8
  refine r_istore (lv2 := [(6, .int a2), (5, .int a1), (0, .ref (a 7)), (1, .int v1), (2, .int v2), (3, .int v3), (4, .int v4)]) C0 dX2_moveAll_4 e8 (Nat.le_of_ble_eq_true rfl) rfl ?_
  exact r_sub [2, 3, 4, 5, 6, 1, 0] rfl (w_X2_moveAll_B6_lp C0 hD h hz)
theorem c_X2_moveAll {l : Launch} {D : va_G} {cy : Nat → ClassId} {a : Nat → Nat} {V : VT} {J : JT} {K : Nat → Option Nat} {X : va_W} {v1 : Int32} {v2 : Int32} {v3 : Int32} {v4 : Int32} {y : Int32 × VT} (h : f_X2_moveAll v1 v2 v3 v4 V = some y) : CT l D cy yX2_moveAll cX2_moveAll 7 (some .int) 2 [.ref (a 7), .int v1, .int v2, .int v3, .int v4] (WC cy a V J K X) (WC cy a y.2 J K X) (some (.int y.1)) :=
  mkI (by decide) (Nat.le_of_ble_eq_true rfl) (fun Γ _ _ C0 hD hF => w_X2_moveAll C0 (dc_of hD) h hF)
