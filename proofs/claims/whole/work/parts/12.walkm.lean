theorem dX12_begin_0 : decode cX12_begin 0 = .ok (.aload_n 0, 1) := by decide +kernel
theorem dX12_begin_1 : decode cX12_begin 1 = .ok (.iconst 0, 1) := by decide +kernel
theorem dX12_begin_2 : decode cX12_begin 2 = .ok (.putfield 32, 3) := by decide +kernel
theorem dX12_begin_5 : decode cX12_begin 5 = .ok (.aload_n 0, 1) := by decide +kernel
theorem dX12_begin_6 : decode cX12_begin 6 = .ok (.iconst 0, 1) := by decide +kernel
theorem dX12_begin_7 : decode cX12_begin 7 = .ok (.putfield 36, 3) := by decide +kernel
theorem dX12_begin_10 : decode cX12_begin 10 = .ok (.iconst 0, 1) := by decide +kernel
theorem dX12_begin_11 : decode cX12_begin 11 = .ok (.istore_n 1, 1) := by decide +kernel
theorem dX12_begin_12 : decode cX12_begin 12 = .ok (.iload_n 1, 1) := by decide +kernel
theorem dX12_begin_13 : decode cX12_begin 13 = .ok (.sipush 1646, 3) := by decide +kernel
theorem dX12_begin_16 : decode cX12_begin 16 = .ok (.if_icmp .ge 21, 3) := by decide +kernel
theorem dX12_begin_19 : decode cX12_begin 19 = .ok (.aload_n 0, 1) := by decide +kernel
theorem dX12_begin_20 : decode cX12_begin 20 = .ok (.getfield 17, 3) := by decide +kernel
theorem dX12_begin_23 : decode cX12_begin 23 = .ok (.iload_n 1, 1) := by decide +kernel
theorem dX12_begin_24 : decode cX12_begin 24 = .ok (.aload_n 0, 1) := by decide +kernel
theorem dX12_begin_25 : decode cX12_begin 25 = .ok (.getfield 7, 3) := by decide +kernel
theorem dX12_begin_28 : decode cX12_begin 28 = .ok (.iload_n 1, 1) := by decide +kernel
theorem dX12_begin_29 : decode cX12_begin 29 = .ok (.iaload, 1) := by decide +kernel
theorem dX12_begin_30 : decode cX12_begin 30 = .ok (.iastore, 1) := by decide +kernel
theorem dX12_begin_31 : decode cX12_begin 31 = .ok (.iinc 1 1, 3) := by decide +kernel
theorem dX12_begin_34 : decode cX12_begin 34 = .ok (.goto (-22), 3) := by decide +kernel
theorem dX12_begin_37 : decode cX12_begin 37 = .ok (.return_, 1) := by decide +kernel
theorem w_X12_begin_B12 {x : Int32 × VT} {z : ((Int32 × VT) ⊕ (VT))} {Γ : Gam} {cy : Nat → ClassId} {a : Nat → Nat} {X : va_W}  (C0 : CXg Γ cX12_begin 2 0 RX12 cy) (hD : DM Γ cy a X) (h : f_X12_begin_B12 x = some z) (hz : (Sum.elim (fun x : Int32 × VT => Wp Γ 0 0 12 [(0, .ref (a 0)), (1, .int x.1)] [] (WM cy a x.2 X)) (fun y : VT => FinV Γ cX12_begin (WM cy a y X))) z) : Wp Γ 0 0 12 [(0, .ref (a 0)), (1, .int x.1)] [] (WM cy a x.2 X) := by
  unfold f_X12_begin_B12 at h
  refine r_iload_n C0 dX12_begin_12 rfl 1 rfl ?_
  refine r_sipush C0 dX12_begin_13 ks_1646 ?_
  refine r_icmp_ge C0 37 dX12_begin_16 rfl h (fun _ h => ?_) (fun _ h => ?_)
  · obtain ⟨y2, h5, h9⟩ := op_bind h
    clear h
    cases h9
    have hz := (el_inr hz)
    have h := h5
    cases h
    exact hz _ _ dX12_begin_37
  · refine r_aload_n C0 dX12_begin_19 rfl 0 rfl ?_
    refine wmg_0_3 C0 tf_X12_17 dX12_begin_20 ?_
    refine r_iload_n C0 dX12_begin_23 rfl 1 rfl ?_
    refine r_aload_n C0 dX12_begin_24 rfl 0 rfl ?_
    refine wmg_0_0 C0 tf_X12_7 dX12_begin_25 ?_
    refine r_iload_n C0 dX12_begin_28 rfl 1 rfl ?_
    refine wmal_1 C0 h dX12_begin_29 (fun k3 h => ?_)
    refine wmas_3 C0 hD h dX12_begin_30 (fun k4 h => ?_)
    obtain ⟨a5, h8, h⟩ := op_bind h
    have e8 := Option.some.inj h8
    refine r_iinc (lv2 := [(1, .int a5), (0, .ref (a 0))]) C0 dX12_begin_31 1 rfl ki_1 e8 (Nat.le_of_ble_eq_true rfl) rfl ?_
    refine r_goto C0 12 dX12_begin_34 rfl ?_
    cases h
    have hz := el_inl hz
    exact r_sub [1, 0] rfl hz
theorem w_X12_begin_B12_lp {x : Int32 × VT} {z : (VT)} {Γ : Gam} {cy : Nat → ClassId} {a : Nat → Nat} {X : va_W}  (C0 : CXg Γ cX12_begin 2 0 RX12 cy) (hD : DM Γ cy a X) (h : lp (f_X12_begin_B12) fuel x = some z) (hz : (fun y : VT => FinV Γ cX12_begin (WM cy a y X)) z) : Wp Γ 0 0 12 [(0, .ref (a 0)), (1, .int x.1)] [] (WM cy a x.2 X) :=
  lp_rule (hd := (fun x : Int32 × VT => Wp Γ 0 0 12 [(0, .ref (a 0)), (1, .int x.1)] [] (WM cy a x.2 X))) (C := (fun y : VT => FinV Γ cX12_begin (WM cy a y X))) (fun x z h hz => w_X12_begin_B12 C0 hD h hz) _ _ _ h hz
theorem w_X12_begin {z : VT} {Γ : Gam} {cy : Nat → ClassId} {a : Nat → Nat} {V : VT} {X : va_W}  (C0 : CXg Γ cX12_begin 2 0 RX12 cy) (hD : DM Γ cy a X) (h : f_X12_begin V = some z) (hz : (fun y : VT => FinV Γ cX12_begin (WM cy a y X)) z) : Wp Γ 0 0 0 [(0, .ref (a 0))] [] (WM cy a V X) := by
  unfold f_X12_begin at h
  refine r_aload_n C0 dX12_begin_0 rfl 0 rfl ?_
  refine r_iconst C0 dX12_begin_1 ki_0 ?_
  refine wmp_0_7 C0 hD tf_X12_32 dX12_begin_2 ?_
  refine r_aload_n C0 dX12_begin_5 rfl 0 rfl ?_
  refine r_iconst C0 dX12_begin_6 ki_0 ?_
  refine wmp_0_8 C0 hD tf_X12_36 dX12_begin_7 ?_
  refine r_iconst C0 dX12_begin_10 ki_0 ?_
  obtain ⟨a1, h8, h⟩ := op_bind h
  have e8 := Option.some.inj h8
  refine r_istore_n (lv2 := [(1, .int a1), (0, .ref (a 0))]) C0 dX12_begin_11 rfl e8 (Nat.le_of_ble_eq_true rfl) rfl ?_
  exact r_sub [1, 0] rfl (w_X12_begin_B12_lp C0 hD h hz)
theorem c_X12_begin {l : Launch} {D : va_G} {cy : Nat → ClassId} {a : Nat → Nat} {V : VT} {X : va_W} {y : VT} (h : f_X12_begin V = some y) : CT l D cy yX12_begin cX12_begin 2 none 0 [.ref (a 0)] (WM cy a V X) (WM cy a y X) none :=
  mkV (by decide) (Nat.le_of_ble_eq_true rfl) (fun Γ _ _ C0 hD hF => w_X12_begin C0 (dm_of hD) h hF)
theorem dX12_is_0 : decode cX12_is 0 = .ok (.iload_n 1, 1) := by decide +kernel
theorem dX12_is_1 : decode cX12_is 1 = .ok (.ifCond .eq 15, 3) := by decide +kernel
theorem dX12_is_4 : decode cX12_is 4 = .ok (.aload_n 0, 1) := by decide +kernel
theorem dX12_is_5 : decode cX12_is 5 = .ok (.getfield 32, 3) := by decide +kernel
theorem dX12_is_8 : decode cX12_is 8 = .ok (.ifCond .ne 8, 3) := by decide +kernel
theorem dX12_is_11 : decode cX12_is 11 = .ok (.aload_n 0, 1) := by decide +kernel
theorem dX12_is_12 : decode cX12_is 12 = .ok (.iload_n 2, 1) := by decide +kernel
theorem dX12_is_13 : decode cX12_is 13 = .ok (.putfield 32, 3) := by decide +kernel
theorem dX12_is_16 : decode cX12_is 16 = .ok (.aload_n 0, 1) := by decide +kernel
theorem dX12_is_17 : decode cX12_is 17 = .ok (.getfield 32, 3) := by decide +kernel
theorem dX12_is_20 : decode cX12_is 20 = .ok (.ifCond .eq 7, 3) := by decide +kernel
theorem dX12_is_23 : decode cX12_is 23 = .ok (.iconst 1, 1) := by decide +kernel
theorem dX12_is_24 : decode cX12_is 24 = .ok (.goto 4, 3) := by decide +kernel
theorem dX12_is_27 : decode cX12_is 27 = .ok (.iconst 0, 1) := by decide +kernel
theorem dX12_is_28 : decode cX12_is 28 = .ok (.ireturn, 1) := by decide +kernel
theorem w_X12_is_j16 {z : (Int32 × VT)} {Γ : Gam} {cy : Nat → ClassId} {a : Nat → Nat} {V : VT} {X : va_W}  (C0 : CXg Γ cX12_is 3 0 RX12 cy) (hD : DM Γ cy a X) (h : f_X12_is_j16 V = some z) (hz : (fun y : Int32 × VT => FinZ Γ cX12_is (WM cy a y.2 X) y.1) z) : Wp Γ 0 0 16 [(0, .ref (a 0))] [] (WM cy a V X) := by
  unfold f_X12_is_j16 at h
  refine r_aload_n C0 dX12_is_16 rfl 0 rfl ?_
  refine wmg_0_7 C0 tf_X12_32 dX12_is_17 ?_
  refine r_if_eq C0 27 dX12_is_20 rfl h (fun _ h => ?_) (fun _ h => ?_)
  · refine r_iconst C0 dX12_is_27 ki_0 ?_
    cases h
    exact hz _ _ nz_0 dX12_is_28
  · refine r_iconst C0 dX12_is_23 ki_1 ?_
    refine r_goto C0 28 dX12_is_24 rfl ?_
    cases h
    exact hz _ _ nz_1 dX12_is_28
theorem w_X12_is {z : Int32 × VT} {Γ : Gam} {cy : Nat → ClassId} {a : Nat → Nat} {V : VT} {X : va_W} {v1 : Int32} {v2 : Int32}  (C0 : CXg Γ cX12_is 3 0 RX12 cy) (hD : DM Γ cy a X) (h : f_X12_is v1 v2 V = some z) (hz : (fun y : Int32 × VT => FinZ Γ cX12_is (WM cy a y.2 X) y.1) z) : Wp Γ 0 0 0 [(0, .ref (a 0)), (1, .int v1), (2, .int v2)] [] (WM cy a V X) := by
  unfold f_X12_is at h
  refine r_iload_n C0 dX12_is_0 rfl 1 rfl ?_
  refine r_if_eq C0 16 dX12_is_1 rfl h (fun _ h => ?_) (fun _ h => ?_)
  · exact r_sub [0] rfl (w_X12_is_j16 C0 hD h hz)
  · refine r_aload_n C0 dX12_is_4 rfl 0 rfl ?_
    refine wmg_0_7 C0 tf_X12_32 dX12_is_5 ?_
    refine r_if_ne C0 16 dX12_is_8 rfl h (fun _ h => ?_) (fun _ h => ?_)
    · exact r_sub [0] rfl (w_X12_is_j16 C0 hD h hz)
    · refine r_aload_n C0 dX12_is_11 rfl 0 rfl ?_
      refine r_iload_n C0 dX12_is_12 rfl 2 rfl ?_
      refine wmp_0_7 C0 hD tf_X12_32 dX12_is_13 ?_
      exact r_sub [0] rfl (w_X12_is_j16 C0 hD h hz)
theorem c_X12_is {l : Launch} {D : va_G} {cy : Nat → ClassId} {a : Nat → Nat} {V : VT} {X : va_W} {v1 : Int32} {v2 : Int32} {y : Int32 × VT} (h : f_X12_is v1 v2 V = some y) : CT l D cy yX12_is cX12_is 3 (some .boolean) 0 [.ref (a 0), .int v1, .int v2] (WM cy a V X) (WM cy a y.2 X) (some (.int y.1)) :=
  mkZ (by decide) (Nat.le_of_ble_eq_true rfl) (fun Γ _ _ C0 hD hF => w_X12_is C0 (dm_of hD) h hF)
theorem dX12_refused_0 : decode cX12_refused 0 = .ok (.aload_n 0, 1) := by decide +kernel
theorem dX12_refused_1 : decode cX12_refused 1 = .ok (.dup, 1) := by decide +kernel
theorem dX12_refused_2 : decode cX12_refused 2 = .ok (.getfield 39, 3) := by decide +kernel
theorem dX12_refused_5 : decode cX12_refused 5 = .ok (.iconst 1, 1) := by decide +kernel
theorem dX12_refused_6 : decode cX12_refused 6 = .ok (.iadd, 1) := by decide +kernel
theorem dX12_refused_7 : decode cX12_refused 7 = .ok (.putfield 39, 3) := by decide +kernel
theorem dX12_refused_10 : decode cX12_refused 10 = .ok (.ldc 42, 2) := by decide +kernel
theorem dX12_refused_12 : decode cX12_refused 12 = .ok (.ireturn, 1) := by decide +kernel
theorem w_X12_refused {z : Int32 × VT} {Γ : Gam} {cy : Nat → ClassId} {a : Nat → Nat} {V : VT} {X : va_W}  (C0 : CXg Γ cX12_refused 1 0 RX12 cy) (hD : DM Γ cy a X) (h : f_X12_refused V = some z) (hz : (fun y : Int32 × VT => FinI Γ cX12_refused (WM cy a y.2 X) y.1) z) : Wp Γ 0 0 0 [(0, .ref (a 0))] [] (WM cy a V X) := by
  unfold f_X12_refused at h
  refine r_aload_n C0 dX12_refused_0 rfl 0 rfl ?_
  refine r_dup C0 dX12_refused_1 rfl ?_
  refine wmg_0_9 C0 tf_X12_39 dX12_refused_2 ?_
  refine r_iconst C0 dX12_refused_5 ki_1 ?_
  refine r_iadd C0 dX12_refused_6 ?_
  refine wmp_0_9 C0 hD tf_X12_39 dX12_refused_7 ?_
  refine r_ldc C0 tk_X12_42 dX12_refused_10 ?_
  cases h
  exact hz _ _ dX12_refused_12
theorem c_X12_refused {l : Launch} {D : va_G} {cy : Nat → ClassId} {a : Nat → Nat} {V : VT} {X : va_W} {y : Int32 × VT} (h : f_X12_refused V = some y) : CT l D cy yX12_refused cX12_refused 1 (some .int) 0 [.ref (a 0)] (WM cy a V X) (WM cy a y.2 X) (some (.int y.1)) :=
  mkI (by decide) (Nat.le_of_ble_eq_true rfl) (fun Γ _ _ C0 hD hF => w_X12_refused C0 (dm_of hD) h hF)
theorem dX12_keep_0 : decode cX12_keep 0 = .ok (.aload_n 0, 1) := by decide +kernel
theorem dX12_keep_1 : decode cX12_keep 1 = .ok (.getfield 43, 3) := by decide +kernel
theorem dX12_keep_4 : decode cX12_keep 4 = .ok (.bipush 60, 2) := by decide +kernel
theorem dX12_keep_6 : decode cX12_keep 6 = .ok (.if_icmp .ne 39, 3) := by decide +kernel
theorem dX12_keep_9 : decode cX12_keep 9 = .ok (.iconst 0, 1) := by decide +kernel
theorem dX12_keep_10 : decode cX12_keep 10 = .ok (.istore_n 2, 1) := by decide +kernel
theorem dX12_keep_11 : decode cX12_keep 11 = .ok (.iload_n 2, 1) := by decide +kernel
theorem dX12_keep_12 : decode cX12_keep 12 = .ok (.ldc 46, 2) := by decide +kernel
theorem dX12_keep_14 : decode cX12_keep 14 = .ok (.if_icmp .ge 25, 3) := by decide +kernel
theorem dX12_keep_17 : decode cX12_keep 17 = .ok (.aload_n 0, 1) := by decide +kernel
theorem dX12_keep_18 : decode cX12_keep 18 = .ok (.getfield 14, 3) := by decide +kernel
theorem dX12_keep_21 : decode cX12_keep 21 = .ok (.iload_n 2, 1) := by decide +kernel
theorem dX12_keep_22 : decode cX12_keep 22 = .ok (.aload_n 0, 1) := by decide +kernel
theorem dX12_keep_23 : decode cX12_keep 23 = .ok (.getfield 14, 3) := by decide +kernel
theorem dX12_keep_26 : decode cX12_keep 26 = .ok (.iload_n 2, 1) := by decide +kernel
theorem dX12_keep_27 : decode cX12_keep 27 = .ok (.sipush 1646, 3) := by decide +kernel
theorem dX12_keep_30 : decode cX12_keep 30 = .ok (.iadd, 1) := by decide +kernel
theorem dX12_keep_31 : decode cX12_keep 31 = .ok (.iaload, 1) := by decide +kernel
theorem dX12_keep_32 : decode cX12_keep 32 = .ok (.iastore, 1) := by decide +kernel
theorem dX12_keep_33 : decode cX12_keep 33 = .ok (.iinc 2 1, 3) := by decide +kernel
theorem dX12_keep_36 : decode cX12_keep 36 = .ok (.goto (-25), 3) := by decide +kernel
theorem dX12_keep_39 : decode cX12_keep 39 = .ok (.aload_n 0, 1) := by decide +kernel
theorem dX12_keep_40 : decode cX12_keep 40 = .ok (.bipush 59, 2) := by decide +kernel
theorem dX12_keep_42 : decode cX12_keep 42 = .ok (.putfield 43, 3) := by decide +kernel
theorem dX12_keep_45 : decode cX12_keep 45 = .ok (.iconst 0, 1) := by decide +kernel
theorem dX12_keep_46 : decode cX12_keep 46 = .ok (.istore_n 2, 1) := by decide +kernel
theorem dX12_keep_47 : decode cX12_keep 47 = .ok (.iload_n 2, 1) := by decide +kernel
theorem dX12_keep_48 : decode cX12_keep 48 = .ok (.sipush 1646, 3) := by decide +kernel
theorem dX12_keep_51 : decode cX12_keep 51 = .ok (.if_icmp .ge 30, 3) := by decide +kernel
theorem dX12_keep_54 : decode cX12_keep 54 = .ok (.aload_n 0, 1) := by decide +kernel
theorem dX12_keep_55 : decode cX12_keep 55 = .ok (.getfield 14, 3) := by decide +kernel
theorem dX12_keep_58 : decode cX12_keep 58 = .ok (.sipush 1646, 3) := by decide +kernel
theorem dX12_keep_61 : decode cX12_keep 61 = .ok (.aload_n 0, 1) := by decide +kernel
theorem dX12_keep_62 : decode cX12_keep 62 = .ok (.getfield 43, 3) := by decide +kernel
theorem dX12_keep_65 : decode cX12_keep 65 = .ok (.imul, 1) := by decide +kernel
theorem dX12_keep_66 : decode cX12_keep 66 = .ok (.iload_n 2, 1) := by decide +kernel
theorem dX12_keep_67 : decode cX12_keep 67 = .ok (.iadd, 1) := by decide +kernel
theorem dX12_keep_68 : decode cX12_keep 68 = .ok (.aload_n 0, 1) := by decide +kernel
theorem dX12_keep_69 : decode cX12_keep 69 = .ok (.getfield 17, 3) := by decide +kernel
theorem dX12_keep_72 : decode cX12_keep 72 = .ok (.iload_n 2, 1) := by decide +kernel
theorem dX12_keep_73 : decode cX12_keep 73 = .ok (.iaload, 1) := by decide +kernel
theorem dX12_keep_74 : decode cX12_keep 74 = .ok (.iastore, 1) := by decide +kernel
theorem dX12_keep_75 : decode cX12_keep 75 = .ok (.iinc 2 1, 3) := by decide +kernel
theorem dX12_keep_78 : decode cX12_keep 78 = .ok (.goto (-31), 3) := by decide +kernel
theorem dX12_keep_81 : decode cX12_keep 81 = .ok (.aload_n 0, 1) := by decide +kernel
theorem dX12_keep_82 : decode cX12_keep 82 = .ok (.dup, 1) := by decide +kernel
theorem dX12_keep_83 : decode cX12_keep 83 = .ok (.getfield 43, 3) := by decide +kernel
theorem dX12_keep_86 : decode cX12_keep 86 = .ok (.iconst 1, 1) := by decide +kernel
theorem dX12_keep_87 : decode cX12_keep 87 = .ok (.iadd, 1) := by decide +kernel
theorem dX12_keep_88 : decode cX12_keep 88 = .ok (.putfield 43, 3) := by decide +kernel
theorem dX12_keep_91 : decode cX12_keep 91 = .ok (.iload_n 1, 1) := by decide +kernel
theorem dX12_keep_92 : decode cX12_keep 92 = .ok (.ireturn, 1) := by decide +kernel
theorem w_X12_keep_B47 {x : Int32 × VT} {z : ((Int32 × VT) ⊕ (Int32 × VT))} {Γ : Gam} {cy : Nat → ClassId} {a : Nat → Nat} {X : va_W} {v1 : Int32}  (C0 : CXg Γ cX12_keep 3 0 RX12 cy) (hD : DM Γ cy a X) (h : f_X12_keep_B47 v1 x = some z) (hz : (Sum.elim (fun x : Int32 × VT => Wp Γ 0 0 47 [(0, .ref (a 0)), (1, .int v1), (2, .int x.1)] [] (WM cy a x.2 X)) (fun y : Int32 × VT => FinI Γ cX12_keep (WM cy a y.2 X) y.1)) z) : Wp Γ 0 0 47 [(0, .ref (a 0)), (1, .int v1), (2, .int x.1)] [] (WM cy a x.2 X) := by
  unfold f_X12_keep_B47 at h
  refine r_iload_n C0 dX12_keep_47 rfl 2 rfl ?_
  refine r_sipush C0 dX12_keep_48 ks_1646 ?_
  refine r_icmp_ge C0 81 dX12_keep_51 rfl h (fun _ h => ?_) (fun _ h => ?_)
  · obtain ⟨y2, h5, h9⟩ := op_bind h
    clear h
    cases h9
    have hz := (el_inr hz)
    have h := h5
    refine r_aload_n C0 dX12_keep_81 rfl 0 rfl ?_
    refine r_dup C0 dX12_keep_82 rfl ?_
    refine wmg_0_2 C0 tf_X12_43 dX12_keep_83 ?_
    refine r_iconst C0 dX12_keep_86 ki_1 ?_
    refine r_iadd C0 dX12_keep_87 ?_
    refine wmp_0_2 C0 hD tf_X12_43 dX12_keep_88 ?_
    refine r_iload_n C0 dX12_keep_91 rfl 1 rfl ?_
    cases h
    exact hz _ _ dX12_keep_92
  · refine r_aload_n C0 dX12_keep_54 rfl 0 rfl ?_
    refine wmg_0_1 C0 tf_X12_14 dX12_keep_55 ?_
    refine r_sipush C0 dX12_keep_58 ks_1646 ?_
    refine r_aload_n C0 dX12_keep_61 rfl 0 rfl ?_
    refine wmg_0_2 C0 tf_X12_43 dX12_keep_62 ?_
    refine r_imul C0 dX12_keep_65 ?_
    refine r_iload_n C0 dX12_keep_66 rfl 2 rfl ?_
    refine r_iadd C0 dX12_keep_67 ?_
    refine r_aload_n C0 dX12_keep_68 rfl 0 rfl ?_
    refine wmg_0_3 C0 tf_X12_17 dX12_keep_69 ?_
    refine r_iload_n C0 dX12_keep_72 rfl 2 rfl ?_
    refine wmal_3 C0 h dX12_keep_73 (fun k3 h => ?_)
    refine wmas_2 C0 hD h dX12_keep_74 (fun k4 h => ?_)
    obtain ⟨a5, h8, h⟩ := op_bind h
    have e8 := Option.some.inj h8
    refine r_iinc (lv2 := [(2, .int a5), (0, .ref (a 0)), (1, .int v1)]) C0 dX12_keep_75 2 rfl ki_1 e8 (Nat.le_of_ble_eq_true rfl) rfl ?_
    refine r_goto C0 47 dX12_keep_78 rfl ?_
    cases h
    have hz := el_inl hz
    exact r_sub [1, 2, 0] rfl hz
theorem w_X12_keep_B47_lp {x : Int32 × VT} {z : (Int32 × VT)} {Γ : Gam} {cy : Nat → ClassId} {a : Nat → Nat} {X : va_W} {v1 : Int32}  (C0 : CXg Γ cX12_keep 3 0 RX12 cy) (hD : DM Γ cy a X) (h : lp (f_X12_keep_B47 v1) fuel x = some z) (hz : (fun y : Int32 × VT => FinI Γ cX12_keep (WM cy a y.2 X) y.1) z) : Wp Γ 0 0 47 [(0, .ref (a 0)), (1, .int v1), (2, .int x.1)] [] (WM cy a x.2 X) :=
  lp_rule (hd := (fun x : Int32 × VT => Wp Γ 0 0 47 [(0, .ref (a 0)), (1, .int v1), (2, .int x.1)] [] (WM cy a x.2 X))) (C := (fun y : Int32 × VT => FinI Γ cX12_keep (WM cy a y.2 X) y.1)) (fun x z h hz => w_X12_keep_B47 C0 hD h hz) _ _ _ h hz
theorem w_X12_keep_j45 {z : (Int32 × VT)} {Γ : Gam} {cy : Nat → ClassId} {a : Nat → Nat} {V : VT} {X : va_W} {v1 : Int32}  (C0 : CXg Γ cX12_keep 3 0 RX12 cy) (hD : DM Γ cy a X) (h : f_X12_keep_j45 v1 V = some z) (hz : (fun y : Int32 × VT => FinI Γ cX12_keep (WM cy a y.2 X) y.1) z) : Wp Γ 0 0 45 [(0, .ref (a 0)), (1, .int v1)] [] (WM cy a V X) := by
  unfold f_X12_keep_j45 at h
  refine r_iconst C0 dX12_keep_45 ki_0 ?_
  obtain ⟨a1, h8, h⟩ := op_bind h
  have e8 := Option.some.inj h8
  refine r_istore_n (lv2 := [(2, .int a1), (0, .ref (a 0)), (1, .int v1)]) C0 dX12_keep_46 rfl e8 (Nat.le_of_ble_eq_true rfl) rfl ?_
  exact r_sub [1, 2, 0] rfl (w_X12_keep_B47_lp C0 hD h hz)
theorem w_X12_keep_B11 {x : Int32 × VT} {z : ((Int32 × VT) ⊕ (Int32 × VT))} {Γ : Gam} {cy : Nat → ClassId} {a : Nat → Nat} {X : va_W} {v1 : Int32}  (C0 : CXg Γ cX12_keep 3 0 RX12 cy) (hD : DM Γ cy a X) (h : f_X12_keep_B11 v1 x = some z) (hz : (Sum.elim (fun x : Int32 × VT => Wp Γ 0 0 11 [(0, .ref (a 0)), (1, .int v1), (2, .int x.1)] [] (WM cy a x.2 X)) (fun y : Int32 × VT => FinI Γ cX12_keep (WM cy a y.2 X) y.1)) z) : Wp Γ 0 0 11 [(0, .ref (a 0)), (1, .int v1), (2, .int x.1)] [] (WM cy a x.2 X) := by
  unfold f_X12_keep_B11 at h
  refine r_iload_n C0 dX12_keep_11 rfl 2 rfl ?_
  refine r_ldc C0 tk_X12_46 dX12_keep_12 ?_
  refine r_icmp_ge C0 39 dX12_keep_14 rfl h (fun _ h => ?_) (fun _ h => ?_)
  · obtain ⟨y7, h5, h9⟩ := op_bind h
    clear h
    cases h9
    have hz := (el_inr hz)
    have h := h5
    refine r_aload_n C0 dX12_keep_39 rfl 0 rfl ?_
    refine r_bipush C0 dX12_keep_40 kb_59 ?_
    refine wmp_0_2 C0 hD tf_X12_43 dX12_keep_42 ?_
    exact r_sub [0, 1] rfl (w_X12_keep_j45 C0 hD h hz)
  · refine r_aload_n C0 dX12_keep_17 rfl 0 rfl ?_
    refine wmg_0_1 C0 tf_X12_14 dX12_keep_18 ?_
    refine r_iload_n C0 dX12_keep_21 rfl 2 rfl ?_
    refine r_aload_n C0 dX12_keep_22 rfl 0 rfl ?_
    refine wmg_0_1 C0 tf_X12_14 dX12_keep_23 ?_
    refine r_iload_n C0 dX12_keep_26 rfl 2 rfl ?_
    refine r_sipush C0 dX12_keep_27 ks_1646 ?_
    refine r_iadd C0 dX12_keep_30 ?_
    refine wmal_2 C0 h dX12_keep_31 (fun k8 h => ?_)
    refine wmas_2 C0 hD h dX12_keep_32 (fun k9 h => ?_)
    obtain ⟨a10, h8, h⟩ := op_bind h
    have e8 := Option.some.inj h8
    refine r_iinc (lv2 := [(2, .int a10), (0, .ref (a 0)), (1, .int v1)]) C0 dX12_keep_33 2 rfl ki_1 e8 (Nat.le_of_ble_eq_true rfl) rfl ?_
    refine r_goto C0 11 dX12_keep_36 rfl ?_
    cases h
    have hz := el_inl hz
    exact r_sub [1, 2, 0] rfl hz
theorem w_X12_keep_B11_lp {x : Int32 × VT} {z : (Int32 × VT)} {Γ : Gam} {cy : Nat → ClassId} {a : Nat → Nat} {X : va_W} {v1 : Int32}  (C0 : CXg Γ cX12_keep 3 0 RX12 cy) (hD : DM Γ cy a X) (h : lp (f_X12_keep_B11 v1) fuel x = some z) (hz : (fun y : Int32 × VT => FinI Γ cX12_keep (WM cy a y.2 X) y.1) z) : Wp Γ 0 0 11 [(0, .ref (a 0)), (1, .int v1), (2, .int x.1)] [] (WM cy a x.2 X) :=
  lp_rule (hd := (fun x : Int32 × VT => Wp Γ 0 0 11 [(0, .ref (a 0)), (1, .int v1), (2, .int x.1)] [] (WM cy a x.2 X))) (C := (fun y : Int32 × VT => FinI Γ cX12_keep (WM cy a y.2 X) y.1)) (fun x z h hz => w_X12_keep_B11 C0 hD h hz) _ _ _ h hz
theorem w_X12_keep {z : Int32 × VT} {Γ : Gam} {cy : Nat → ClassId} {a : Nat → Nat} {V : VT} {X : va_W} {v1 : Int32}  (C0 : CXg Γ cX12_keep 3 0 RX12 cy) (hD : DM Γ cy a X) (h : f_X12_keep v1 V = some z) (hz : (fun y : Int32 × VT => FinI Γ cX12_keep (WM cy a y.2 X) y.1) z) : Wp Γ 0 0 0 [(0, .ref (a 0)), (1, .int v1)] [] (WM cy a V X) := by
  unfold f_X12_keep at h
  refine r_aload_n C0 dX12_keep_0 rfl 0 rfl ?_
  refine wmg_0_2 C0 tf_X12_43 dX12_keep_1 ?_
  refine r_bipush C0 dX12_keep_4 kb_60 ?_
  refine r_icmp_ne C0 45 dX12_keep_6 rfl h (fun _ h => ?_) (fun _ h => ?_)
  · exact r_sub [0, 1] rfl (w_X12_keep_j45 C0 hD h hz)
  · refine r_iconst C0 dX12_keep_9 ki_0 ?_
    obtain ⟨a6, h8, h⟩ := op_bind h
    have e8 := Option.some.inj h8
    refine r_istore_n (lv2 := [(2, .int a6), (0, .ref (a 0)), (1, .int v1)]) C0 dX12_keep_10 rfl e8 (Nat.le_of_ble_eq_true rfl) rfl ?_
    exact r_sub [1, 2, 0] rfl (w_X12_keep_B11_lp C0 hD h hz)
theorem c_X12_keep {l : Launch} {D : va_G} {cy : Nat → ClassId} {a : Nat → Nat} {V : VT} {X : va_W} {v1 : Int32} {y : Int32 × VT} (h : f_X12_keep v1 V = some y) : CT l D cy yX12_keep cX12_keep 3 (some .int) 0 [.ref (a 0), .int v1] (WM cy a V X) (WM cy a y.2 X) (some (.int y.1)) :=
  mkI (by decide) (Nat.le_of_ble_eq_true rfl) (fun Γ _ _ C0 hD hF => w_X12_keep C0 (dm_of hD) h hF)
theorem dX12_in_0 : decode cX12_in 0 = .ok (.iload_n 0, 1) := by decide +kernel
theorem dX12_in_1 : decode cX12_in 1 = .ok (.iload_n 1, 1) := by decide +kernel
theorem dX12_in_2 : decode cX12_in 2 = .ok (.if_icmp .lt 12, 3) := by decide +kernel
theorem dX12_in_5 : decode cX12_in 5 = .ok (.iload_n 0, 1) := by decide +kernel
theorem dX12_in_6 : decode cX12_in 6 = .ok (.iload_n 2, 1) := by decide +kernel
theorem dX12_in_7 : decode cX12_in 7 = .ok (.if_icmp .gt 7, 3) := by decide +kernel
theorem dX12_in_10 : decode cX12_in 10 = .ok (.iconst 1, 1) := by decide +kernel
theorem dX12_in_11 : decode cX12_in 11 = .ok (.goto 4, 3) := by decide +kernel
theorem dX12_in_14 : decode cX12_in 14 = .ok (.iconst 0, 1) := by decide +kernel
theorem dX12_in_15 : decode cX12_in 15 = .ok (.ireturn, 1) := by decide +kernel
theorem w_X12_in_j14 {z : (Int32)} {Γ : Gam} {cy : Nat → ClassId} {a : Nat → Nat} {V : VT} {X : va_W}  (C0 : CXg Γ cX12_in 3 0 RX12 cy) (hD : DM Γ cy a X) (h : f_X12_in_j14 V = some z) (hz : (fun y : Int32 => FinZ Γ cX12_in (WM cy a V X) y) z) : Wp Γ 0 0 14 [] [] (WM cy a V X) := by
  unfold f_X12_in_j14 at h
  refine r_iconst C0 dX12_in_14 ki_0 ?_
  cases h
  exact hz _ _ nz_0 dX12_in_15
theorem w_X12_in {z : Int32} {Γ : Gam} {cy : Nat → ClassId} {a : Nat → Nat} {V : VT} {X : va_W} {v0 : Int32} {v1 : Int32} {v2 : Int32}  (C0 : CXg Γ cX12_in 3 0 RX12 cy) (hD : DM Γ cy a X) (h : f_X12_in v0 v1 v2 V = some z) (hz : (fun y : Int32 => FinZ Γ cX12_in (WM cy a V X) y) z) : Wp Γ 0 0 0 [(0, .int v0), (1, .int v1), (2, .int v2)] [] (WM cy a V X) := by
  unfold f_X12_in at h
  refine r_iload_n C0 dX12_in_0 rfl 0 rfl ?_
  refine r_iload_n C0 dX12_in_1 rfl 1 rfl ?_
  refine r_icmp_lt C0 14 dX12_in_2 rfl h (fun _ h => ?_) (fun _ h => ?_)
  · exact r_sub [] rfl (w_X12_in_j14 C0 hD h hz)
  · refine r_iload_n C0 dX12_in_5 rfl 0 rfl ?_
    refine r_iload_n C0 dX12_in_6 rfl 2 rfl ?_
    refine r_icmp_gt C0 14 dX12_in_7 rfl h (fun _ h => ?_) (fun _ h => ?_)
    · exact r_sub [] rfl (w_X12_in_j14 C0 hD h hz)
    · refine r_iconst C0 dX12_in_10 ki_1 ?_
      refine r_goto C0 15 dX12_in_11 rfl ?_
      cases h
      exact hz _ _ nz_1 dX12_in_15
theorem c_X12_in {l : Launch} {D : va_G} {cy : Nat → ClassId} {a : Nat → Nat} {V : VT} {X : va_W} {v0 : Int32} {v1 : Int32} {v2 : Int32} {y : Int32} (h : f_X12_in v0 v1 v2 V = some y) : CT l D cy yX12_in cX12_in 3 (some .boolean) 0 [.int v0, .int v1, .int v2] (WM cy a V X) (WM cy a V X) (some (.int y)) :=
  mkZ (by decide) (Nat.le_of_ble_eq_true rfl) (fun Γ _ _ C0 hD hF => w_X12_in C0 (dm_of hD) h hF)
theorem dX12_bar0_0 : decode cX12_bar0 0 = .ok (.iconst 0, 1) := by decide +kernel
theorem dX12_bar0_1 : decode cX12_bar0 1 = .ok (.bipush 21, 2) := by decide +kernel
theorem dX12_bar0_3 : decode cX12_bar0 3 = .ok (.iload_n 0, 1) := by decide +kernel
theorem dX12_bar0_4 : decode cX12_bar0 4 = .ok (.imul, 1) := by decide +kernel
theorem dX12_bar0_5 : decode cX12_bar0 5 = .ok (.iadd, 1) := by decide +kernel
theorem dX12_bar0_6 : decode cX12_bar0 6 = .ok (.ireturn, 1) := by decide +kernel
theorem w_X12_bar0 {z : Int32} {Γ : Gam} {cy : Nat → ClassId} {a : Nat → Nat} {V : VT} {X : va_W} {v0 : Int32}  (C0 : CXg Γ cX12_bar0 1 0 RX12 cy) (hD : DM Γ cy a X) (h : f_X12_bar0 v0 V = some z) (hz : (fun y : Int32 => FinI Γ cX12_bar0 (WM cy a V X) y) z) : Wp Γ 0 0 0 [(0, .int v0)] [] (WM cy a V X) := by
  unfold f_X12_bar0 at h
  refine r_iconst C0 dX12_bar0_0 ki_0 ?_
  refine r_bipush C0 dX12_bar0_1 kb_21 ?_
  refine r_iload_n C0 dX12_bar0_3 rfl 0 rfl ?_
  refine r_imul C0 dX12_bar0_4 ?_
  refine r_iadd C0 dX12_bar0_5 ?_
  cases h
  exact hz _ _ dX12_bar0_6
theorem c_X12_bar0 {l : Launch} {D : va_G} {cy : Nat → ClassId} {a : Nat → Nat} {V : VT} {X : va_W} {v0 : Int32} {y : Int32} (h : f_X12_bar0 v0 V = some y) : CT l D cy yX12_bar0 cX12_bar0 1 (some .int) 0 [.int v0] (WM cy a V X) (WM cy a V X) (some (.int y)) :=
  mkI (by decide) (Nat.le_of_ble_eq_true rfl) (fun Γ _ _ C0 hD hF => w_X12_bar0 C0 (dm_of hD) h hF)
theorem dX12_isBar_0 : decode cX12_isBar 0 = .ok (.iload_n 0, 1) := by decide +kernel
theorem dX12_isBar_1 : decode cX12_isBar 1 = .ok (.iconst 0, 1) := by decide +kernel
theorem dX12_isBar_2 : decode cX12_isBar 2 = .ok (.bipush 11, 2) := by decide +kernel
theorem dX12_isBar_4 : decode cX12_isBar 4 = .ok (.invokestatic 47, 3) := by decide +kernel
theorem dX12_isBar_7 : decode cX12_isBar 7 = .ok (.ireturn, 1) := by decide +kernel
theorem w_X12_isBar {z : Int32} {Γ : Gam} {cy : Nat → ClassId} {a : Nat → Nat} {V : VT} {X : va_W} {v0 : Int32}  (C0 : CXg Γ cX12_isBar 1 1 RX12 cy) (hD : DM Γ cy a X) (h : f_X12_isBar v0 V = some z) (hz : (fun y : Int32 => FinZ Γ cX12_isBar (WM cy a V X) y) z) : Wp Γ 0 0 0 [(0, .int v0)] [] (WM cy a V X) := by
  unfold f_X12_isBar at h
  refine r_iload_n C0 dX12_isBar_0 rfl 0 rfl ?_
  refine r_iconst C0 dX12_isBar_1 ki_0 ?_
  refine r_bipush C0 dX12_isBar_2 kb_11 ?_
  refine callS3 C0 h (hD _) ms_X12_in tm_X12_47 (fun y hy => c_X12_in hy) (Nat.le_of_ble_eq_true rfl) (Nat.le_of_ble_eq_true rfl) dX12_isBar_4 (fun r1 h => ?_)
  obtain ⟨q2, h7, h6⟩ := op_bind h
  obtain ⟨rfl, hn⟩ := ckZ_spec h7
  cases h6
  exact hz _ _ hn dX12_isBar_7
theorem c_X12_isBar {l : Launch} {D : va_G} {cy : Nat → ClassId} {a : Nat → Nat} {V : VT} {X : va_W} {v0 : Int32} {y : Int32} (h : f_X12_isBar v0 V = some y) : CT l D cy yX12_isBar cX12_isBar 1 (some .boolean) 1 [.int v0] (WM cy a V X) (WM cy a V X) (some (.int y)) :=
  mkZ (by decide) (Nat.le_of_ble_eq_true rfl) (fun Γ _ _ C0 hD hF => w_X12_isBar C0 (dm_of hD) h hF)
theorem dX12_isRigged_0 : decode cX12_isRigged 0 = .ok (.aload_n 0, 1) := by decide +kernel
theorem dX12_isRigged_1 : decode cX12_isRigged 1 = .ok (.getfield 7, 3) := by decide +kernel
theorem dX12_isRigged_4 : decode cX12_isRigged 4 = .ok (.iload_n 1, 1) := by decide +kernel
theorem dX12_isRigged_5 : decode cX12_isRigged 5 = .ok (.invokestatic 51, 3) := by decide +kernel
theorem dX12_isRigged_8 : decode cX12_isRigged 8 = .ok (.iaload, 1) := by decide +kernel
theorem dX12_isRigged_9 : decode cX12_isRigged 9 = .ok (.iconst 1, 1) := by decide +kernel
theorem dX12_isRigged_10 : decode cX12_isRigged 10 = .ok (.if_icmp .ne 7, 3) := by decide +kernel
theorem dX12_isRigged_13 : decode cX12_isRigged 13 = .ok (.iconst 1, 1) := by decide +kernel
theorem dX12_isRigged_14 : decode cX12_isRigged 14 = .ok (.goto 4, 3) := by decide +kernel
theorem dX12_isRigged_17 : decode cX12_isRigged 17 = .ok (.iconst 0, 1) := by decide +kernel
theorem dX12_isRigged_18 : decode cX12_isRigged 18 = .ok (.ireturn, 1) := by decide +kernel
theorem w_X12_isRigged {z : Int32} {Γ : Gam} {cy : Nat → ClassId} {a : Nat → Nat} {V : VT} {X : va_W} {v1 : Int32}  (C0 : CXg Γ cX12_isRigged 2 1 RX12 cy) (hD : DM Γ cy a X) (h : f_X12_isRigged v1 V = some z) (hz : (fun y : Int32 => FinZ Γ cX12_isRigged (WM cy a V X) y) z) : Wp Γ 0 0 0 [(0, .ref (a 0)), (1, .int v1)] [] (WM cy a V X) := by
  unfold f_X12_isRigged at h
  refine r_aload_n C0 dX12_isRigged_0 rfl 0 rfl ?_
  refine wmg_0_0 C0 tf_X12_7 dX12_isRigged_1 ?_
  refine r_iload_n C0 dX12_isRigged_4 rfl 1 rfl ?_
  refine callS1 C0 h (hD _) ms_X12_bar0 tm_X12_51 (fun y hy => c_X12_bar0 hy) (Nat.le_of_ble_eq_true rfl) (Nat.le_of_ble_eq_true rfl) dX12_isRigged_5 (fun r1 h => ?_)
  refine wmal_1 C0 h dX12_isRigged_8 (fun k2 h => ?_)
  refine r_iconst C0 dX12_isRigged_9 ki_1 ?_
  refine r_icmp_ne C0 17 dX12_isRigged_10 rfl h (fun _ h => ?_) (fun _ h => ?_)
  · refine r_iconst C0 dX12_isRigged_17 ki_0 ?_
    cases h
    exact hz _ _ nz_0 dX12_isRigged_18
  · refine r_iconst C0 dX12_isRigged_13 ki_1 ?_
    refine r_goto C0 18 dX12_isRigged_14 rfl ?_
    cases h
    exact hz _ _ nz_1 dX12_isRigged_18
theorem c_X12_isRigged {l : Launch} {D : va_G} {cy : Nat → ClassId} {a : Nat → Nat} {V : VT} {X : va_W} {v1 : Int32} {y : Int32} (h : f_X12_isRigged v1 V = some y) : CT l D cy yX12_isRigged cX12_isRigged 2 (some .boolean) 1 [.ref (a 0), .int v1] (WM cy a V X) (WM cy a V X) (some (.int y)) :=
  mkZ (by decide) (Nat.le_of_ble_eq_true rfl) (fun Γ _ _ C0 hD hF => w_X12_isRigged C0 (dm_of hD) h hF)
theorem dX12_places_0 : decode cX12_places 0 = .ok (.aload_n 0, 1) := by decide +kernel
theorem dX12_places_1 : decode cX12_places 1 = .ok (.getfield 7, 3) := by decide +kernel
theorem dX12_places_4 : decode cX12_places 4 = .ok (.iload_n 1, 1) := by decide +kernel
theorem dX12_places_5 : decode cX12_places 5 = .ok (.invokestatic 51, 3) := by decide +kernel
theorem dX12_places_8 : decode cX12_places 8 = .ok (.iconst 1, 1) := by decide +kernel
theorem dX12_places_9 : decode cX12_places 9 = .ok (.iadd, 1) := by decide +kernel
theorem dX12_places_10 : decode cX12_places 10 = .ok (.iaload, 1) := by decide +kernel
theorem dX12_places_11 : decode cX12_places 11 = .ok (.ireturn, 1) := by decide +kernel
theorem w_X12_places {z : Int32} {Γ : Gam} {cy : Nat → ClassId} {a : Nat → Nat} {V : VT} {X : va_W} {v1 : Int32}  (C0 : CXg Γ cX12_places 2 1 RX12 cy) (hD : DM Γ cy a X) (h : f_X12_places v1 V = some z) (hz : (fun y : Int32 => FinI Γ cX12_places (WM cy a V X) y) z) : Wp Γ 0 0 0 [(0, .ref (a 0)), (1, .int v1)] [] (WM cy a V X) := by
  unfold f_X12_places at h
  refine r_aload_n C0 dX12_places_0 rfl 0 rfl ?_
  refine wmg_0_0 C0 tf_X12_7 dX12_places_1 ?_
  refine r_iload_n C0 dX12_places_4 rfl 1 rfl ?_
  refine callS1 C0 h (hD _) ms_X12_bar0 tm_X12_51 (fun y hy => c_X12_bar0 hy) (Nat.le_of_ble_eq_true rfl) (Nat.le_of_ble_eq_true rfl) dX12_places_5 (fun r1 h => ?_)
  refine r_iconst C0 dX12_places_8 ki_1 ?_
  refine r_iadd C0 dX12_places_9 ?_
  refine wmal_1 C0 h dX12_places_10 (fun k2 h => ?_)
  cases h
  exact hz _ _ dX12_places_11
theorem c_X12_places {l : Launch} {D : va_G} {cy : Nat → ClassId} {a : Nat → Nat} {V : VT} {X : va_W} {v1 : Int32} {y : Int32} (h : f_X12_places v1 V = some y) : CT l D cy yX12_places cX12_places 2 (some .int) 1 [.ref (a 0), .int v1] (WM cy a V X) (WM cy a V X) (some (.int y)) :=
  mkI (by decide) (Nat.le_of_ble_eq_true rfl) (fun Γ _ _ C0 hD hF => w_X12_places C0 (dm_of hD) h hF)
theorem dX12_gap_0 : decode cX12_gap 0 = .ok (.aload_n 0, 1) := by decide +kernel
theorem dX12_gap_1 : decode cX12_gap 1 = .ok (.getfield 7, 3) := by decide +kernel
theorem dX12_gap_4 : decode cX12_gap 4 = .ok (.iload_n 1, 1) := by decide +kernel
theorem dX12_gap_5 : decode cX12_gap 5 = .ok (.invokestatic 51, 3) := by decide +kernel
theorem dX12_gap_8 : decode cX12_gap 8 = .ok (.iconst 2, 1) := by decide +kernel
theorem dX12_gap_9 : decode cX12_gap 9 = .ok (.iadd, 1) := by decide +kernel
theorem dX12_gap_10 : decode cX12_gap 10 = .ok (.iaload, 1) := by decide +kernel
theorem dX12_gap_11 : decode cX12_gap 11 = .ok (.ireturn, 1) := by decide +kernel
theorem w_X12_gap {z : Int32} {Γ : Gam} {cy : Nat → ClassId} {a : Nat → Nat} {V : VT} {X : va_W} {v1 : Int32}  (C0 : CXg Γ cX12_gap 2 1 RX12 cy) (hD : DM Γ cy a X) (h : f_X12_gap v1 V = some z) (hz : (fun y : Int32 => FinI Γ cX12_gap (WM cy a V X) y) z) : Wp Γ 0 0 0 [(0, .ref (a 0)), (1, .int v1)] [] (WM cy a V X) := by
  unfold f_X12_gap at h
  refine r_aload_n C0 dX12_gap_0 rfl 0 rfl ?_
  refine wmg_0_0 C0 tf_X12_7 dX12_gap_1 ?_
  refine r_iload_n C0 dX12_gap_4 rfl 1 rfl ?_
  refine callS1 C0 h (hD _) ms_X12_bar0 tm_X12_51 (fun y hy => c_X12_bar0 hy) (Nat.le_of_ble_eq_true rfl) (Nat.le_of_ble_eq_true rfl) dX12_gap_5 (fun r1 h => ?_)
  refine r_iconst C0 dX12_gap_8 ki_2 ?_
  refine r_iadd C0 dX12_gap_9 ?_
  refine wmal_1 C0 h dX12_gap_10 (fun k2 h => ?_)
  cases h
  exact hz _ _ dX12_gap_11
theorem c_X12_gap {l : Launch} {D : va_G} {cy : Nat → ClassId} {a : Nat → Nat} {V : VT} {X : va_W} {v1 : Int32} {y : Int32} (h : f_X12_gap v1 V = some y) : CT l D cy yX12_gap cX12_gap 2 (some .int) 1 [.ref (a 0), .int v1] (WM cy a V X) (WM cy a V X) (some (.int y)) :=
  mkI (by decide) (Nat.le_of_ble_eq_true rfl) (fun Γ _ _ C0 hD hF => w_X12_gap C0 (dm_of hD) h hF)
theorem dX12_height_0 : decode cX12_height 0 = .ok (.aload_n 0, 1) := by decide +kernel
theorem dX12_height_1 : decode cX12_height 1 = .ok (.getfield 7, 3) := by decide +kernel
theorem dX12_height_4 : decode cX12_height 4 = .ok (.iload_n 1, 1) := by decide +kernel
theorem dX12_height_5 : decode cX12_height 5 = .ok (.invokestatic 51, 3) := by decide +kernel
theorem dX12_height_8 : decode cX12_height 8 = .ok (.iconst 3, 1) := by decide +kernel
theorem dX12_height_9 : decode cX12_height 9 = .ok (.iadd, 1) := by decide +kernel
theorem dX12_height_10 : decode cX12_height 10 = .ok (.iaload, 1) := by decide +kernel
theorem dX12_height_11 : decode cX12_height 11 = .ok (.ireturn, 1) := by decide +kernel
theorem w_X12_height {z : Int32} {Γ : Gam} {cy : Nat → ClassId} {a : Nat → Nat} {V : VT} {X : va_W} {v1 : Int32}  (C0 : CXg Γ cX12_height 2 1 RX12 cy) (hD : DM Γ cy a X) (h : f_X12_height v1 V = some z) (hz : (fun y : Int32 => FinI Γ cX12_height (WM cy a V X) y) z) : Wp Γ 0 0 0 [(0, .ref (a 0)), (1, .int v1)] [] (WM cy a V X) := by
  unfold f_X12_height at h
  refine r_aload_n C0 dX12_height_0 rfl 0 rfl ?_
  refine wmg_0_0 C0 tf_X12_7 dX12_height_1 ?_
  refine r_iload_n C0 dX12_height_4 rfl 1 rfl ?_
  refine callS1 C0 h (hD _) ms_X12_bar0 tm_X12_51 (fun y hy => c_X12_bar0 hy) (Nat.le_of_ble_eq_true rfl) (Nat.le_of_ble_eq_true rfl) dX12_height_5 (fun r1 h => ?_)
  refine r_iconst C0 dX12_height_8 ki_3 ?_
  refine r_iadd C0 dX12_height_9 ?_
  refine wmal_1 C0 h dX12_height_10 (fun k2 h => ?_)
  cases h
  exact hz _ _ dX12_height_11
theorem c_X12_height {l : Launch} {D : va_G} {cy : Nat → ClassId} {a : Nat → Nat} {V : VT} {X : va_W} {v1 : Int32} {y : Int32} (h : f_X12_height v1 V = some y) : CT l D cy yX12_height cX12_height 2 (some .int) 1 [.ref (a 0), .int v1] (WM cy a V X) (WM cy a V X) (some (.int y)) :=
  mkI (by decide) (Nat.le_of_ble_eq_true rfl) (fun Γ _ _ C0 hD hF => w_X12_height C0 (dm_of hD) h hF)
theorem dX12_held_0 : decode cX12_held 0 = .ok (.aload_n 0, 1) := by decide +kernel
theorem dX12_held_1 : decode cX12_held 1 = .ok (.getfield 7, 3) := by decide +kernel
theorem dX12_held_4 : decode cX12_held 4 = .ok (.iload_n 1, 1) := by decide +kernel
theorem dX12_held_5 : decode cX12_held 5 = .ok (.invokestatic 51, 3) := by decide +kernel
theorem dX12_held_8 : decode cX12_held 8 = .ok (.iconst 5, 1) := by decide +kernel
theorem dX12_held_9 : decode cX12_held 9 = .ok (.iadd, 1) := by decide +kernel
theorem dX12_held_10 : decode cX12_held 10 = .ok (.iload_n 2, 1) := by decide +kernel
theorem dX12_held_11 : decode cX12_held 11 = .ok (.iadd, 1) := by decide +kernel
theorem dX12_held_12 : decode cX12_held 12 = .ok (.iaload, 1) := by decide +kernel
theorem dX12_held_13 : decode cX12_held 13 = .ok (.ireturn, 1) := by decide +kernel
theorem w_X12_held {z : Int32} {Γ : Gam} {cy : Nat → ClassId} {a : Nat → Nat} {V : VT} {X : va_W} {v1 : Int32} {v2 : Int32}  (C0 : CXg Γ cX12_held 3 1 RX12 cy) (hD : DM Γ cy a X) (h : f_X12_held v1 v2 V = some z) (hz : (fun y : Int32 => FinI Γ cX12_held (WM cy a V X) y) z) : Wp Γ 0 0 0 [(0, .ref (a 0)), (1, .int v1), (2, .int v2)] [] (WM cy a V X) := by
  unfold f_X12_held at h
  refine r_aload_n C0 dX12_held_0 rfl 0 rfl ?_
  refine wmg_0_0 C0 tf_X12_7 dX12_held_1 ?_
  refine r_iload_n C0 dX12_held_4 rfl 1 rfl ?_
  refine callS1 C0 h (hD _) ms_X12_bar0 tm_X12_51 (fun y hy => c_X12_bar0 hy) (Nat.le_of_ble_eq_true rfl) (Nat.le_of_ble_eq_true rfl) dX12_held_5 (fun r1 h => ?_)
  refine r_iconst C0 dX12_held_8 ki_5 ?_
  refine r_iadd C0 dX12_held_9 ?_
  refine r_iload_n C0 dX12_held_10 rfl 2 rfl ?_
  refine r_iadd C0 dX12_held_11 ?_
  refine wmal_1 C0 h dX12_held_12 (fun k2 h => ?_)
  cases h
  exact hz _ _ dX12_held_13
theorem c_X12_held {l : Launch} {D : va_G} {cy : Nat → ClassId} {a : Nat → Nat} {V : VT} {X : va_W} {v1 : Int32} {v2 : Int32} {y : Int32} (h : f_X12_held v1 v2 V = some y) : CT l D cy yX12_held cX12_held 3 (some .int) 1 [.ref (a 0), .int v1, .int v2] (WM cy a V X) (WM cy a V X) (some (.int y)) :=
  mkI (by decide) (Nat.le_of_ble_eq_true rfl) (fun Γ _ _ C0 hD hF => w_X12_held C0 (dm_of hD) h hF)
theorem dX12_put_0 : decode cX12_put 0 = .ok (.aload_n 0, 1) := by decide +kernel
theorem dX12_put_1 : decode cX12_put 1 = .ok (.getfield 7, 3) := by decide +kernel
theorem dX12_put_4 : decode cX12_put 4 = .ok (.iload_n 1, 1) := by decide +kernel
theorem dX12_put_5 : decode cX12_put 5 = .ok (.invokestatic 51, 3) := by decide +kernel
theorem dX12_put_8 : decode cX12_put 8 = .ok (.iconst 5, 1) := by decide +kernel
theorem dX12_put_9 : decode cX12_put 9 = .ok (.iadd, 1) := by decide +kernel
theorem dX12_put_10 : decode cX12_put 10 = .ok (.iload_n 2, 1) := by decide +kernel
theorem dX12_put_11 : decode cX12_put 11 = .ok (.iadd, 1) := by decide +kernel
theorem dX12_put_12 : decode cX12_put 12 = .ok (.iload_n 3, 1) := by decide +kernel
theorem dX12_put_13 : decode cX12_put 13 = .ok (.iastore, 1) := by decide +kernel
theorem dX12_put_14 : decode cX12_put 14 = .ok (.return_, 1) := by decide +kernel
theorem w_X12_put {z : VT} {Γ : Gam} {cy : Nat → ClassId} {a : Nat → Nat} {V : VT} {X : va_W} {v1 : Int32} {v2 : Int32} {v3 : Int32}  (C0 : CXg Γ cX12_put 4 1 RX12 cy) (hD : DM Γ cy a X) (h : f_X12_put v1 v2 v3 V = some z) (hz : (fun y : VT => FinV Γ cX12_put (WM cy a y X)) z) : Wp Γ 0 0 0 [(0, .ref (a 0)), (1, .int v1), (2, .int v2), (3, .int v3)] [] (WM cy a V X) := by
  unfold f_X12_put at h
  refine r_aload_n C0 dX12_put_0 rfl 0 rfl ?_
  refine wmg_0_0 C0 tf_X12_7 dX12_put_1 ?_
  refine r_iload_n C0 dX12_put_4 rfl 1 rfl ?_
  refine callS1 C0 h (hD _) ms_X12_bar0 tm_X12_51 (fun y hy => c_X12_bar0 hy) (Nat.le_of_ble_eq_true rfl) (Nat.le_of_ble_eq_true rfl) dX12_put_5 (fun r1 h => ?_)
  refine r_iconst C0 dX12_put_8 ki_5 ?_
  refine r_iadd C0 dX12_put_9 ?_
  refine r_iload_n C0 dX12_put_10 rfl 2 rfl ?_
  refine r_iadd C0 dX12_put_11 ?_
  refine r_iload_n C0 dX12_put_12 rfl 3 rfl ?_
  refine wmas_1 C0 hD h dX12_put_13 (fun k2 h => ?_)
  cases h
  exact hz _ _ dX12_put_14
theorem c_X12_put {l : Launch} {D : va_G} {cy : Nat → ClassId} {a : Nat → Nat} {V : VT} {X : va_W} {v1 : Int32} {v2 : Int32} {v3 : Int32} {y : VT} (h : f_X12_put v1 v2 v3 V = some y) : CT l D cy yX12_put cX12_put 4 none 1 [.ref (a 0), .int v1, .int v2, .int v3] (WM cy a V X) (WM cy a y X) none :=
  mkV (by decide) (Nat.le_of_ble_eq_true rfl) (fun Γ _ _ C0 hD hF => w_X12_put C0 (dm_of hD) h hF)
theorem dX12_isPlace_0 : decode cX12_isPlace 0 = .ok (.iload_n 2, 1) := by decide +kernel
theorem dX12_isPlace_1 : decode cX12_isPlace 1 = .ok (.ifCond .lt 16, 3) := by decide +kernel
theorem dX12_isPlace_4 : decode cX12_isPlace 4 = .ok (.iload_n 2, 1) := by decide +kernel
theorem dX12_isPlace_5 : decode cX12_isPlace 5 = .ok (.aload_n 0, 1) := by decide +kernel
theorem dX12_isPlace_6 : decode cX12_isPlace 6 = .ok (.iload_n 1, 1) := by decide +kernel
theorem dX12_isPlace_7 : decode cX12_isPlace 7 = .ok (.invokevirtual 55, 3) := by decide +kernel
theorem dX12_isPlace_10 : decode cX12_isPlace 10 = .ok (.if_icmp .ge 7, 3) := by decide +kernel
theorem dX12_isPlace_13 : decode cX12_isPlace 13 = .ok (.iconst 1, 1) := by decide +kernel
theorem dX12_isPlace_14 : decode cX12_isPlace 14 = .ok (.goto 4, 3) := by decide +kernel
theorem dX12_isPlace_17 : decode cX12_isPlace 17 = .ok (.iconst 0, 1) := by decide +kernel
theorem dX12_isPlace_18 : decode cX12_isPlace 18 = .ok (.ireturn, 1) := by decide +kernel
theorem w_X12_isPlace_j17 {z : (Int32)} {Γ : Gam} {cy : Nat → ClassId} {a : Nat → Nat} {V : VT} {X : va_W}  (C0 : CXg Γ cX12_isPlace 3 2 RX12 cy) (hD : DM Γ cy a X) (h : f_X12_isPlace_j17 V = some z) (hz : (fun y : Int32 => FinZ Γ cX12_isPlace (WM cy a V X) y) z) : Wp Γ 0 0 17 [] [] (WM cy a V X) := by
  unfold f_X12_isPlace_j17 at h
  refine r_iconst C0 dX12_isPlace_17 ki_0 ?_
  cases h
  exact hz _ _ nz_0 dX12_isPlace_18
theorem w_X12_isPlace {z : Int32} {Γ : Gam} {cy : Nat → ClassId} {a : Nat → Nat} {V : VT} {X : va_W} {v1 : Int32} {v2 : Int32}  (C0 : CXg Γ cX12_isPlace 3 2 RX12 cy) (hD : DM Γ cy a X) (h : f_X12_isPlace v1 v2 V = some z) (hz : (fun y : Int32 => FinZ Γ cX12_isPlace (WM cy a V X) y) z) : Wp Γ 0 0 0 [(0, .ref (a 0)), (1, .int v1), (2, .int v2)] [] (WM cy a V X) := by
  unfold f_X12_isPlace at h
  refine r_iload_n C0 dX12_isPlace_0 rfl 2 rfl ?_
  refine r_if_lt C0 17 dX12_isPlace_1 rfl h (fun _ h => ?_) (fun _ h => ?_)
  · exact r_sub [] rfl (w_X12_isPlace_j17 C0 hD h hz)
  · refine r_iload_n C0 dX12_isPlace_4 rfl 2 rfl ?_
    refine r_aload_n C0 dX12_isPlace_5 rfl 0 rfl ?_
    refine r_iload_n C0 dX12_isPlace_6 rfl 1 rfl ?_
    refine callV1 C0 h (hD _) mw_X12_places rv_m tm_X12_55 (fun y hy => c_X12_places hy) (Nat.le_of_ble_eq_true rfl) (Nat.le_of_ble_eq_true rfl) dX12_isPlace_7 (fun r1 h => ?_)
    refine r_icmp_ge C0 17 dX12_isPlace_10 rfl h (fun _ h => ?_) (fun _ h => ?_)
    · exact r_sub [] rfl (w_X12_isPlace_j17 C0 hD h hz)
    · refine r_iconst C0 dX12_isPlace_13 ki_1 ?_
      refine r_goto C0 18 dX12_isPlace_14 rfl ?_
      cases h
      exact hz _ _ nz_1 dX12_isPlace_18
theorem c_X12_isPlace {l : Launch} {D : va_G} {cy : Nat → ClassId} {a : Nat → Nat} {V : VT} {X : va_W} {v1 : Int32} {v2 : Int32} {y : Int32} (h : f_X12_isPlace v1 v2 V = some y) : CT l D cy yX12_isPlace cX12_isPlace 3 (some .boolean) 2 [.ref (a 0), .int v1, .int v2] (WM cy a V X) (WM cy a V X) (some (.int y)) :=
  mkZ (by decide) (Nat.le_of_ble_eq_true rfl) (fun Γ _ _ C0 hD hF => w_X12_isPlace C0 (dm_of hD) h hF)
theorem dX12_isTold_0 : decode cX12_isTold 0 = .ok (.iload_n 1, 1) := by decide +kernel
theorem dX12_isTold_1 : decode cX12_isTold 1 = .ok (.ifCond .lt 19, 3) := by decide +kernel
theorem dX12_isTold_4 : decode cX12_isTold 4 = .ok (.iload_n 1, 1) := by decide +kernel
theorem dX12_isTold_5 : decode cX12_isTold 5 = .ok (.aload_n 0, 1) := by decide +kernel
theorem dX12_isTold_6 : decode cX12_isTold 6 = .ok (.getfield 7, 3) := by decide +kernel
theorem dX12_isTold_9 : decode cX12_isTold 9 = .ok (.sipush 1641, 3) := by decide +kernel
theorem dX12_isTold_12 : decode cX12_isTold 12 = .ok (.iaload, 1) := by decide +kernel
theorem dX12_isTold_13 : decode cX12_isTold 13 = .ok (.if_icmp .ge 7, 3) := by decide +kernel
theorem dX12_isTold_16 : decode cX12_isTold 16 = .ok (.iconst 1, 1) := by decide +kernel
theorem dX12_isTold_17 : decode cX12_isTold 17 = .ok (.goto 4, 3) := by decide +kernel
theorem dX12_isTold_20 : decode cX12_isTold 20 = .ok (.iconst 0, 1) := by decide +kernel
theorem dX12_isTold_21 : decode cX12_isTold 21 = .ok (.ireturn, 1) := by decide +kernel
theorem w_X12_isTold_j20 {z : (Int32)} {Γ : Gam} {cy : Nat → ClassId} {a : Nat → Nat} {V : VT} {X : va_W}  (C0 : CXg Γ cX12_isTold 2 0 RX12 cy) (hD : DM Γ cy a X) (h : f_X12_isTold_j20 V = some z) (hz : (fun y : Int32 => FinZ Γ cX12_isTold (WM cy a V X) y) z) : Wp Γ 0 0 20 [] [] (WM cy a V X) := by
  unfold f_X12_isTold_j20 at h
  refine r_iconst C0 dX12_isTold_20 ki_0 ?_
  cases h
  exact hz _ _ nz_0 dX12_isTold_21
theorem w_X12_isTold {z : Int32} {Γ : Gam} {cy : Nat → ClassId} {a : Nat → Nat} {V : VT} {X : va_W} {v1 : Int32}  (C0 : CXg Γ cX12_isTold 2 0 RX12 cy) (hD : DM Γ cy a X) (h : f_X12_isTold v1 V = some z) (hz : (fun y : Int32 => FinZ Γ cX12_isTold (WM cy a V X) y) z) : Wp Γ 0 0 0 [(0, .ref (a 0)), (1, .int v1)] [] (WM cy a V X) := by
  unfold f_X12_isTold at h
  refine r_iload_n C0 dX12_isTold_0 rfl 1 rfl ?_
  refine r_if_lt C0 20 dX12_isTold_1 rfl h (fun _ h => ?_) (fun _ h => ?_)
  · exact r_sub [] rfl (w_X12_isTold_j20 C0 hD h hz)
  · refine r_iload_n C0 dX12_isTold_4 rfl 1 rfl ?_
    refine r_aload_n C0 dX12_isTold_5 rfl 0 rfl ?_
    refine wmg_0_0 C0 tf_X12_7 dX12_isTold_6 ?_
    refine r_sipush C0 dX12_isTold_9 ks_1641 ?_
    refine wmal_1 C0 h dX12_isTold_12 (fun k1 h => ?_)
    refine r_icmp_ge C0 20 dX12_isTold_13 rfl h (fun _ h => ?_) (fun _ h => ?_)
    · exact r_sub [] rfl (w_X12_isTold_j20 C0 hD h hz)
    · refine r_iconst C0 dX12_isTold_16 ki_1 ?_
      refine r_goto C0 21 dX12_isTold_17 rfl ?_
      cases h
      exact hz _ _ nz_1 dX12_isTold_21
theorem c_X12_isTold {l : Launch} {D : va_G} {cy : Nat → ClassId} {a : Nat → Nat} {V : VT} {X : va_W} {v1 : Int32} {y : Int32} (h : f_X12_isTold v1 V = some y) : CT l D cy yX12_isTold cX12_isTold 2 (some .boolean) 0 [.ref (a 0), .int v1] (WM cy a V X) (WM cy a V X) (some (.int y)) :=
  mkZ (by decide) (Nat.le_of_ble_eq_true rfl) (fun Γ _ _ C0 hD hF => w_X12_isTold C0 (dm_of hD) h hF)
theorem dX12_thingIs_0 : decode cX12_thingIs 0 = .ok (.aload_n 0, 1) := by decide +kernel
theorem dX12_thingIs_1 : decode cX12_thingIs 1 = .ok (.getfield 7, 3) := by decide +kernel
theorem dX12_thingIs_4 : decode cX12_thingIs 4 = .ok (.sipush 732, 3) := by decide +kernel
theorem dX12_thingIs_7 : decode cX12_thingIs 7 = .ok (.iconst 5, 1) := by decide +kernel
theorem dX12_thingIs_8 : decode cX12_thingIs 8 = .ok (.iload_n 1, 1) := by decide +kernel
theorem dX12_thingIs_9 : decode cX12_thingIs 9 = .ok (.imul, 1) := by decide +kernel
theorem dX12_thingIs_10 : decode cX12_thingIs 10 = .ok (.iadd, 1) := by decide +kernel
theorem dX12_thingIs_11 : decode cX12_thingIs 11 = .ok (.iload_n 2, 1) := by decide +kernel
theorem dX12_thingIs_12 : decode cX12_thingIs 12 = .ok (.iadd, 1) := by decide +kernel
theorem dX12_thingIs_13 : decode cX12_thingIs 13 = .ok (.iaload, 1) := by decide +kernel
theorem dX12_thingIs_14 : decode cX12_thingIs 14 = .ok (.ireturn, 1) := by decide +kernel
theorem w_X12_thingIs {z : Int32} {Γ : Gam} {cy : Nat → ClassId} {a : Nat → Nat} {V : VT} {X : va_W} {v1 : Int32} {v2 : Int32}  (C0 : CXg Γ cX12_thingIs 3 0 RX12 cy) (hD : DM Γ cy a X) (h : f_X12_thingIs v1 v2 V = some z) (hz : (fun y : Int32 => FinI Γ cX12_thingIs (WM cy a V X) y) z) : Wp Γ 0 0 0 [(0, .ref (a 0)), (1, .int v1), (2, .int v2)] [] (WM cy a V X) := by
  unfold f_X12_thingIs at h
  refine r_aload_n C0 dX12_thingIs_0 rfl 0 rfl ?_
  refine wmg_0_0 C0 tf_X12_7 dX12_thingIs_1 ?_
  refine r_sipush C0 dX12_thingIs_4 ks_732 ?_
  refine r_iconst C0 dX12_thingIs_7 ki_5 ?_
  refine r_iload_n C0 dX12_thingIs_8 rfl 1 rfl ?_
  refine r_imul C0 dX12_thingIs_9 ?_
  refine r_iadd C0 dX12_thingIs_10 ?_
  refine r_iload_n C0 dX12_thingIs_11 rfl 2 rfl ?_
  refine r_iadd C0 dX12_thingIs_12 ?_
  refine wmal_1 C0 h dX12_thingIs_13 (fun k1 h => ?_)
  cases h
  exact hz _ _ dX12_thingIs_14
theorem c_X12_thingIs {l : Launch} {D : va_G} {cy : Nat → ClassId} {a : Nat → Nat} {V : VT} {X : va_W} {v1 : Int32} {v2 : Int32} {y : Int32} (h : f_X12_thingIs v1 v2 V = some y) : CT l D cy yX12_thingIs cX12_thingIs 3 (some .int) 0 [.ref (a 0), .int v1, .int v2] (WM cy a V X) (WM cy a V X) (some (.int y)) :=
  mkI (by decide) (Nat.le_of_ble_eq_true rfl) (fun Γ _ _ C0 hD hF => w_X12_thingIs C0 (dm_of hD) h hF)
theorem dX12_isLineTold_0 : decode cX12_isLineTold 0 = .ok (.iload_n 1, 1) := by decide +kernel
theorem dX12_isLineTold_1 : decode cX12_isLineTold 1 = .ok (.ifCond .lt 19, 3) := by decide +kernel
theorem dX12_isLineTold_4 : decode cX12_isLineTold 4 = .ok (.iload_n 1, 1) := by decide +kernel
theorem dX12_isLineTold_5 : decode cX12_isLineTold 5 = .ok (.aload_n 0, 1) := by decide +kernel
theorem dX12_isLineTold_6 : decode cX12_isLineTold 6 = .ok (.getfield 7, 3) := by decide +kernel
theorem dX12_isLineTold_9 : decode cX12_isLineTold 9 = .ok (.sipush 1640, 3) := by decide +kernel
theorem dX12_isLineTold_12 : decode cX12_isLineTold 12 = .ok (.iaload, 1) := by decide +kernel
theorem dX12_isLineTold_13 : decode cX12_isLineTold 13 = .ok (.if_icmp .ge 7, 3) := by decide +kernel
theorem dX12_isLineTold_16 : decode cX12_isLineTold 16 = .ok (.iconst 1, 1) := by decide +kernel
theorem dX12_isLineTold_17 : decode cX12_isLineTold 17 = .ok (.goto 4, 3) := by decide +kernel
theorem dX12_isLineTold_20 : decode cX12_isLineTold 20 = .ok (.iconst 0, 1) := by decide +kernel
theorem dX12_isLineTold_21 : decode cX12_isLineTold 21 = .ok (.ireturn, 1) := by decide +kernel
theorem w_X12_isLineTold_j20 {z : (Int32)} {Γ : Gam} {cy : Nat → ClassId} {a : Nat → Nat} {V : VT} {X : va_W}  (C0 : CXg Γ cX12_isLineTold 2 0 RX12 cy) (hD : DM Γ cy a X) (h : f_X12_isLineTold_j20 V = some z) (hz : (fun y : Int32 => FinZ Γ cX12_isLineTold (WM cy a V X) y) z) : Wp Γ 0 0 20 [] [] (WM cy a V X) := by
  unfold f_X12_isLineTold_j20 at h
  refine r_iconst C0 dX12_isLineTold_20 ki_0 ?_
  cases h
  exact hz _ _ nz_0 dX12_isLineTold_21
theorem w_X12_isLineTold {z : Int32} {Γ : Gam} {cy : Nat → ClassId} {a : Nat → Nat} {V : VT} {X : va_W} {v1 : Int32}  (C0 : CXg Γ cX12_isLineTold 2 0 RX12 cy) (hD : DM Γ cy a X) (h : f_X12_isLineTold v1 V = some z) (hz : (fun y : Int32 => FinZ Γ cX12_isLineTold (WM cy a V X) y) z) : Wp Γ 0 0 0 [(0, .ref (a 0)), (1, .int v1)] [] (WM cy a V X) := by
  unfold f_X12_isLineTold at h
  refine r_iload_n C0 dX12_isLineTold_0 rfl 1 rfl ?_
  refine r_if_lt C0 20 dX12_isLineTold_1 rfl h (fun _ h => ?_) (fun _ h => ?_)
  · exact r_sub [] rfl (w_X12_isLineTold_j20 C0 hD h hz)
  · refine r_iload_n C0 dX12_isLineTold_4 rfl 1 rfl ?_
    refine r_aload_n C0 dX12_isLineTold_5 rfl 0 rfl ?_
    refine wmg_0_0 C0 tf_X12_7 dX12_isLineTold_6 ?_
    refine r_sipush C0 dX12_isLineTold_9 ks_1640 ?_
    refine wmal_1 C0 h dX12_isLineTold_12 (fun k1 h => ?_)
    refine r_icmp_ge C0 20 dX12_isLineTold_13 rfl h (fun _ h => ?_) (fun _ h => ?_)
    · exact r_sub [] rfl (w_X12_isLineTold_j20 C0 hD h hz)
    · refine r_iconst C0 dX12_isLineTold_16 ki_1 ?_
      refine r_goto C0 21 dX12_isLineTold_17 rfl ?_
      cases h
      exact hz _ _ nz_1 dX12_isLineTold_21
theorem c_X12_isLineTold {l : Launch} {D : va_G} {cy : Nat → ClassId} {a : Nat → Nat} {V : VT} {X : va_W} {v1 : Int32} {y : Int32} (h : f_X12_isLineTold v1 V = some y) : CT l D cy yX12_isLineTold cX12_isLineTold 2 (some .boolean) 0 [.ref (a 0), .int v1] (WM cy a V X) (WM cy a V X) (some (.int y)) :=
  mkZ (by decide) (Nat.le_of_ble_eq_true rfl) (fun Γ _ _ C0 hD hF => w_X12_isLineTold C0 (dm_of hD) h hF)
theorem dX12_lineIs_0 : decode cX12_lineIs 0 = .ok (.aload_n 0, 1) := by decide +kernel
theorem dX12_lineIs_1 : decode cX12_lineIs 1 = .ok (.getfield 7, 3) := by decide +kernel
theorem dX12_lineIs_4 : decode cX12_lineIs 4 = .ok (.sipush 252, 3) := by decide +kernel
theorem dX12_lineIs_7 : decode cX12_lineIs 7 = .ok (.bipush 12, 2) := by decide +kernel
theorem dX12_lineIs_9 : decode cX12_lineIs 9 = .ok (.iload_n 1, 1) := by decide +kernel
theorem dX12_lineIs_10 : decode cX12_lineIs 10 = .ok (.imul, 1) := by decide +kernel
theorem dX12_lineIs_11 : decode cX12_lineIs 11 = .ok (.iadd, 1) := by decide +kernel
theorem dX12_lineIs_12 : decode cX12_lineIs 12 = .ok (.iload_n 2, 1) := by decide +kernel
theorem dX12_lineIs_13 : decode cX12_lineIs 13 = .ok (.iadd, 1) := by decide +kernel
theorem dX12_lineIs_14 : decode cX12_lineIs 14 = .ok (.iaload, 1) := by decide +kernel
theorem dX12_lineIs_15 : decode cX12_lineIs 15 = .ok (.ireturn, 1) := by decide +kernel
theorem w_X12_lineIs {z : Int32} {Γ : Gam} {cy : Nat → ClassId} {a : Nat → Nat} {V : VT} {X : va_W} {v1 : Int32} {v2 : Int32}  (C0 : CXg Γ cX12_lineIs 3 0 RX12 cy) (hD : DM Γ cy a X) (h : f_X12_lineIs v1 v2 V = some z) (hz : (fun y : Int32 => FinI Γ cX12_lineIs (WM cy a V X) y) z) : Wp Γ 0 0 0 [(0, .ref (a 0)), (1, .int v1), (2, .int v2)] [] (WM cy a V X) := by
  unfold f_X12_lineIs at h
  refine r_aload_n C0 dX12_lineIs_0 rfl 0 rfl ?_
  refine wmg_0_0 C0 tf_X12_7 dX12_lineIs_1 ?_
  refine r_sipush C0 dX12_lineIs_4 ks_252 ?_
  refine r_bipush C0 dX12_lineIs_7 kb_12 ?_
  refine r_iload_n C0 dX12_lineIs_9 rfl 1 rfl ?_
  refine r_imul C0 dX12_lineIs_10 ?_
  refine r_iadd C0 dX12_lineIs_11 ?_
  refine r_iload_n C0 dX12_lineIs_12 rfl 2 rfl ?_
  refine r_iadd C0 dX12_lineIs_13 ?_
  refine wmal_1 C0 h dX12_lineIs_14 (fun k1 h => ?_)
  cases h
  exact hz _ _ dX12_lineIs_15
theorem c_X12_lineIs {l : Launch} {D : va_G} {cy : Nat → ClassId} {a : Nat → Nat} {V : VT} {X : va_W} {v1 : Int32} {v2 : Int32} {y : Int32} (h : f_X12_lineIs v1 v2 V = some y) : CT l D cy yX12_lineIs cX12_lineIs 3 (some .int) 0 [.ref (a 0), .int v1, .int v2] (WM cy a V X) (WM cy a V X) (some (.int y)) :=
  mkI (by decide) (Nat.le_of_ble_eq_true rfl) (fun Γ _ _ C0 hD hF => w_X12_lineIs C0 (dm_of hD) h hF)
theorem dX12_isLineThere_0 : decode cX12_isLineThere 0 = .ok (.aload_n 0, 1) := by decide +kernel
theorem dX12_isLineThere_1 : decode cX12_isLineThere 1 = .ok (.iload_n 1, 1) := by decide +kernel
theorem dX12_isLineThere_2 : decode cX12_isLineThere 2 = .ok (.iconst 3, 1) := by decide +kernel
theorem dX12_isLineThere_3 : decode cX12_isLineThere 3 = .ok (.invokevirtual 58, 3) := by decide +kernel
theorem dX12_isLineThere_6 : decode cX12_isLineThere 6 = .ok (.iconst 1, 1) := by decide +kernel
theorem dX12_isLineThere_7 : decode cX12_isLineThere 7 = .ok (.if_icmp .ne 7, 3) := by decide +kernel
theorem dX12_isLineThere_10 : decode cX12_isLineThere 10 = .ok (.iconst 1, 1) := by decide +kernel
theorem dX12_isLineThere_11 : decode cX12_isLineThere 11 = .ok (.goto 4, 3) := by decide +kernel
theorem dX12_isLineThere_14 : decode cX12_isLineThere 14 = .ok (.iconst 0, 1) := by decide +kernel
theorem dX12_isLineThere_15 : decode cX12_isLineThere 15 = .ok (.ireturn, 1) := by decide +kernel
theorem w_X12_isLineThere {z : Int32} {Γ : Gam} {cy : Nat → ClassId} {a : Nat → Nat} {V : VT} {X : va_W} {v1 : Int32}  (C0 : CXg Γ cX12_isLineThere 2 1 RX12 cy) (hD : DM Γ cy a X) (h : f_X12_isLineThere v1 V = some z) (hz : (fun y : Int32 => FinZ Γ cX12_isLineThere (WM cy a V X) y) z) : Wp Γ 0 0 0 [(0, .ref (a 0)), (1, .int v1)] [] (WM cy a V X) := by
  unfold f_X12_isLineThere at h
  refine r_aload_n C0 dX12_isLineThere_0 rfl 0 rfl ?_
  refine r_iload_n C0 dX12_isLineThere_1 rfl 1 rfl ?_
  refine r_iconst C0 dX12_isLineThere_2 ki_3 ?_
  refine callV2 C0 h (hD _) mw_X12_lineIs rv_m tm_X12_58 (fun y hy => c_X12_lineIs hy) (Nat.le_of_ble_eq_true rfl) (Nat.le_of_ble_eq_true rfl) dX12_isLineThere_3 (fun r1 h => ?_)
  refine r_iconst C0 dX12_isLineThere_6 ki_1 ?_
  refine r_icmp_ne C0 14 dX12_isLineThere_7 rfl h (fun _ h => ?_) (fun _ h => ?_)
  · refine r_iconst C0 dX12_isLineThere_14 ki_0 ?_
    cases h
    exact hz _ _ nz_0 dX12_isLineThere_15
  · refine r_iconst C0 dX12_isLineThere_10 ki_1 ?_
    refine r_goto C0 15 dX12_isLineThere_11 rfl ?_
    cases h
    exact hz _ _ nz_1 dX12_isLineThere_15
theorem c_X12_isLineThere {l : Launch} {D : va_G} {cy : Nat → ClassId} {a : Nat → Nat} {V : VT} {X : va_W} {v1 : Int32} {y : Int32} (h : f_X12_isLineThere v1 V = some y) : CT l D cy yX12_isLineThere cX12_isLineThere 2 (some .boolean) 1 [.ref (a 0), .int v1] (WM cy a V X) (WM cy a V X) (some (.int y)) :=
  mkZ (by decide) (Nat.le_of_ble_eq_true rfl) (fun Γ _ _ C0 hD hF => w_X12_isLineThere C0 (dm_of hD) h hF)
theorem dX12_holds_0 : decode cX12_holds 0 = .ok (.aload_n 0, 1) := by decide +kernel
theorem dX12_holds_1 : decode cX12_holds 1 = .ok (.iload_n 1, 1) := by decide +kernel
theorem dX12_holds_2 : decode cX12_holds 2 = .ok (.invokevirtual 62, 3) := by decide +kernel
theorem dX12_holds_5 : decode cX12_holds 5 = .ok (.ifCond .eq 17, 3) := by decide +kernel
theorem dX12_holds_8 : decode cX12_holds 8 = .ok (.aload_n 0, 1) := by decide +kernel
theorem dX12_holds_9 : decode cX12_holds 9 = .ok (.iload_n 1, 1) := by decide +kernel
theorem dX12_holds_10 : decode cX12_holds 10 = .ok (.iconst 0, 1) := by decide +kernel
theorem dX12_holds_11 : decode cX12_holds 11 = .ok (.invokevirtual 58, 3) := by decide +kernel
theorem dX12_holds_14 : decode cX12_holds 14 = .ok (.iload_n 2, 1) := by decide +kernel
theorem dX12_holds_15 : decode cX12_holds 15 = .ok (.if_icmp .ne 7, 3) := by decide +kernel
theorem dX12_holds_18 : decode cX12_holds 18 = .ok (.iconst 1, 1) := by decide +kernel
theorem dX12_holds_19 : decode cX12_holds 19 = .ok (.goto 4, 3) := by decide +kernel
theorem dX12_holds_22 : decode cX12_holds 22 = .ok (.iconst 0, 1) := by decide +kernel
theorem dX12_holds_23 : decode cX12_holds 23 = .ok (.ireturn, 1) := by decide +kernel
theorem w_X12_holds_j22 {z : (Int32)} {Γ : Gam} {cy : Nat → ClassId} {a : Nat → Nat} {V : VT} {X : va_W}  (C0 : CXg Γ cX12_holds 3 2 RX12 cy) (hD : DM Γ cy a X) (h : f_X12_holds_j22 V = some z) (hz : (fun y : Int32 => FinZ Γ cX12_holds (WM cy a V X) y) z) : Wp Γ 0 0 22 [] [] (WM cy a V X) := by
  unfold f_X12_holds_j22 at h
  refine r_iconst C0 dX12_holds_22 ki_0 ?_
  cases h
  exact hz _ _ nz_0 dX12_holds_23
theorem w_X12_holds {z : Int32} {Γ : Gam} {cy : Nat → ClassId} {a : Nat → Nat} {V : VT} {X : va_W} {v1 : Int32} {v2 : Int32}  (C0 : CXg Γ cX12_holds 3 2 RX12 cy) (hD : DM Γ cy a X) (h : f_X12_holds v1 v2 V = some z) (hz : (fun y : Int32 => FinZ Γ cX12_holds (WM cy a V X) y) z) : Wp Γ 0 0 0 [(0, .ref (a 0)), (1, .int v1), (2, .int v2)] [] (WM cy a V X) := by
  unfold f_X12_holds at h
  refine r_aload_n C0 dX12_holds_0 rfl 0 rfl ?_
  refine r_iload_n C0 dX12_holds_1 rfl 1 rfl ?_
  refine callV1 C0 h (hD _) mw_X12_isLineThere rv_m tm_X12_62 (fun y hy => c_X12_isLineThere hy) (Nat.le_of_ble_eq_true rfl) (Nat.le_of_ble_eq_true rfl) dX12_holds_2 (fun r1 h => ?_)
  refine r_if_eq C0 22 dX12_holds_5 rfl h (fun _ h => ?_) (fun _ h => ?_)
  · exact r_sub [] rfl (w_X12_holds_j22 C0 hD h hz)
  · refine r_aload_n C0 dX12_holds_8 rfl 0 rfl ?_
    refine r_iload_n C0 dX12_holds_9 rfl 1 rfl ?_
    refine r_iconst C0 dX12_holds_10 ki_0 ?_
    refine callV2 C0 h (hD _) mw_X12_lineIs rv_m tm_X12_58 (fun y hy => c_X12_lineIs hy) (Nat.le_of_ble_eq_true rfl) (Nat.le_of_ble_eq_true rfl) dX12_holds_11 (fun r2 h => ?_)
    refine r_iload_n C0 dX12_holds_14 rfl 2 rfl ?_
    refine r_icmp_ne C0 22 dX12_holds_15 rfl h (fun _ h => ?_) (fun _ h => ?_)
    · exact r_sub [] rfl (w_X12_holds_j22 C0 hD h hz)
    · refine r_iconst C0 dX12_holds_18 ki_1 ?_
      refine r_goto C0 23 dX12_holds_19 rfl ?_
      cases h
      exact hz _ _ nz_1 dX12_holds_23
theorem c_X12_holds {l : Launch} {D : va_G} {cy : Nat → ClassId} {a : Nat → Nat} {V : VT} {X : va_W} {v1 : Int32} {v2 : Int32} {y : Int32} (h : f_X12_holds v1 v2 V = some y) : CT l D cy yX12_holds cX12_holds 3 (some .boolean) 2 [.ref (a 0), .int v1, .int v2] (WM cy a V X) (WM cy a V X) (some (.int y)) :=
  mkZ (by decide) (Nat.le_of_ble_eq_true rfl) (fun Γ _ _ C0 hD hF => w_X12_holds C0 (dm_of hD) h hF)
theorem dX12_weakest_0 : decode cX12_weakest 0 = .ok (.aload_n 0, 1) := by decide +kernel
theorem dX12_weakest_1 : decode cX12_weakest 1 = .ok (.iload_n 1, 1) := by decide +kernel
theorem dX12_weakest_2 : decode cX12_weakest 2 = .ok (.iconst 4, 1) := by decide +kernel
theorem dX12_weakest_3 : decode cX12_weakest 3 = .ok (.invokevirtual 58, 3) := by decide +kernel
theorem dX12_weakest_6 : decode cX12_weakest 6 = .ok (.istore_n 2, 1) := by decide +kernel
theorem dX12_weakest_7 : decode cX12_weakest 7 = .ok (.iconst 1, 1) := by decide +kernel
theorem dX12_weakest_8 : decode cX12_weakest 8 = .ok (.istore_n 3, 1) := by decide +kernel
theorem dX12_weakest_9 : decode cX12_weakest 9 = .ok (.iload_n 3, 1) := by decide +kernel
theorem dX12_weakest_10 : decode cX12_weakest 10 = .ok (.aload_n 0, 1) := by decide +kernel
theorem dX12_weakest_11 : decode cX12_weakest 11 = .ok (.iload_n 1, 1) := by decide +kernel
theorem dX12_weakest_12 : decode cX12_weakest 12 = .ok (.iconst 2, 1) := by decide +kernel
theorem dX12_weakest_13 : decode cX12_weakest 13 = .ok (.invokevirtual 58, 3) := by decide +kernel
theorem dX12_weakest_16 : decode cX12_weakest 16 = .ok (.if_icmp .ge 30, 3) := by decide +kernel
theorem dX12_weakest_19 : decode cX12_weakest 19 = .ok (.aload_n 0, 1) := by decide +kernel
theorem dX12_weakest_20 : decode cX12_weakest 20 = .ok (.iload_n 1, 1) := by decide +kernel
theorem dX12_weakest_21 : decode cX12_weakest 21 = .ok (.iconst 4, 1) := by decide +kernel
theorem dX12_weakest_22 : decode cX12_weakest 22 = .ok (.iload_n 3, 1) := by decide +kernel
theorem dX12_weakest_23 : decode cX12_weakest 23 = .ok (.iadd, 1) := by decide +kernel
theorem dX12_weakest_24 : decode cX12_weakest 24 = .ok (.invokevirtual 58, 3) := by decide +kernel
theorem dX12_weakest_27 : decode cX12_weakest 27 = .ok (.iload_n 2, 1) := by decide +kernel
theorem dX12_weakest_28 : decode cX12_weakest 28 = .ok (.if_icmp .ge 12, 3) := by decide +kernel
theorem dX12_weakest_31 : decode cX12_weakest 31 = .ok (.aload_n 0, 1) := by decide +kernel
theorem dX12_weakest_32 : decode cX12_weakest 32 = .ok (.iload_n 1, 1) := by decide +kernel
theorem dX12_weakest_33 : decode cX12_weakest 33 = .ok (.iconst 4, 1) := by decide +kernel
theorem dX12_weakest_34 : decode cX12_weakest 34 = .ok (.iload_n 3, 1) := by decide +kernel
theorem dX12_weakest_35 : decode cX12_weakest 35 = .ok (.iadd, 1) := by decide +kernel
theorem dX12_weakest_36 : decode cX12_weakest 36 = .ok (.invokevirtual 58, 3) := by decide +kernel
theorem dX12_weakest_39 : decode cX12_weakest 39 = .ok (.istore_n 2, 1) := by decide +kernel
theorem dX12_weakest_40 : decode cX12_weakest 40 = .ok (.iinc 3 1, 3) := by decide +kernel
theorem dX12_weakest_43 : decode cX12_weakest 43 = .ok (.goto (-34), 3) := by decide +kernel
theorem dX12_weakest_46 : decode cX12_weakest 46 = .ok (.iload_n 2, 1) := by decide +kernel
theorem dX12_weakest_47 : decode cX12_weakest 47 = .ok (.ireturn, 1) := by decide +kernel
theorem w_X12_weakest_j40 {z : ((Int32 × Int32) ⊕ (Int32))} {Γ : Gam} {cy : Nat → ClassId} {a : Nat → Nat} {V : VT} {X : va_W} {v1 : Int32} {v2 : Int32} {v3 : Int32}  (C0 : CXg Γ cX12_weakest 4 1 RX12 cy) (hD : DM Γ cy a X) (h : f_X12_weakest_j40 v1 v2 v3 V = some z) (hz : (Sum.elim (fun x : Int32 × Int32 => Wp Γ 0 0 9 [(0, .ref (a 0)), (1, .int v1), (2, .int x.1), (3, .int x.2)] [] (WM cy a V X)) (fun y : Int32 => FinI Γ cX12_weakest (WM cy a V X) y)) z) : Wp Γ 0 0 40 [(0, .ref (a 0)), (1, .int v1), (2, .int v2), (3, .int v3)] [] (WM cy a V X) := by
  unfold f_X12_weakest_j40 at h
  obtain ⟨a6, h8, h⟩ := op_bind h
  have e8 := Option.some.inj h8
  refine r_iinc (lv2 := [(3, .int a6), (0, .ref (a 0)), (1, .int v1), (2, .int v2)]) C0 dX12_weakest_40 3 rfl ki_1 e8 (Nat.le_of_ble_eq_true rfl) rfl ?_
  refine r_goto C0 9 dX12_weakest_43 rfl ?_
  cases h
  have hz := el_inl hz
  exact r_sub [1, 2, 3, 0] rfl hz
theorem w_X12_weakest_B9 {x : Int32 × Int32} {z : ((Int32 × Int32) ⊕ (Int32))} {Γ : Gam} {cy : Nat → ClassId} {a : Nat → Nat} {V : VT} {X : va_W} {v1 : Int32}  (C0 : CXg Γ cX12_weakest 4 1 RX12 cy) (hD : DM Γ cy a X) (h : f_X12_weakest_B9 v1 V x = some z) (hz : (Sum.elim (fun x : Int32 × Int32 => Wp Γ 0 0 9 [(0, .ref (a 0)), (1, .int v1), (2, .int x.1), (3, .int x.2)] [] (WM cy a V X)) (fun y : Int32 => FinI Γ cX12_weakest (WM cy a V X) y)) z) : Wp Γ 0 0 9 [(0, .ref (a 0)), (1, .int v1), (2, .int x.1), (3, .int x.2)] [] (WM cy a V X) := by
  unfold f_X12_weakest_B9 at h
  refine r_iload_n C0 dX12_weakest_9 rfl 3 rfl ?_
  refine r_aload_n C0 dX12_weakest_10 rfl 0 rfl ?_
  refine r_iload_n C0 dX12_weakest_11 rfl 1 rfl ?_
  refine r_iconst C0 dX12_weakest_12 ki_2 ?_
  refine callV2 C0 h (hD _) mw_X12_lineIs rv_m tm_X12_58 (fun y hy => c_X12_lineIs hy) (Nat.le_of_ble_eq_true rfl) (Nat.le_of_ble_eq_true rfl) dX12_weakest_13 (fun r3 h => ?_)
  refine r_icmp_ge C0 46 dX12_weakest_16 rfl h (fun _ h => ?_) (fun _ h => ?_)
  · obtain ⟨y4, h5, h9⟩ := op_bind h
    clear h
    cases h9
    have hz := (el_inr hz)
    have h := h5
    refine r_iload_n C0 dX12_weakest_46 rfl 2 rfl ?_
    cases h
    exact hz _ _ dX12_weakest_47
  · refine r_aload_n C0 dX12_weakest_19 rfl 0 rfl ?_
    refine r_iload_n C0 dX12_weakest_20 rfl 1 rfl ?_
    refine r_iconst C0 dX12_weakest_21 ki_4 ?_
    refine r_iload_n C0 dX12_weakest_22 rfl 3 rfl ?_
    refine r_iadd C0 dX12_weakest_23 ?_
    refine callV2 C0 h (hD _) mw_X12_lineIs rv_m tm_X12_58 (fun y hy => c_X12_lineIs hy) (Nat.le_of_ble_eq_true rfl) (Nat.le_of_ble_eq_true rfl) dX12_weakest_24 (fun r5 h => ?_)
    refine r_iload_n C0 dX12_weakest_27 rfl 2 rfl ?_
    refine r_icmp_ge C0 40 dX12_weakest_28 rfl h (fun _ h => ?_) (fun _ h => ?_)
    · exact r_sub [0, 1, 2, 3] rfl (w_X12_weakest_j40 C0 hD h hz)
    · refine r_aload_n C0 dX12_weakest_31 rfl 0 rfl ?_
      refine r_iload_n C0 dX12_weakest_32 rfl 1 rfl ?_
      refine r_iconst C0 dX12_weakest_33 ki_4 ?_
      refine r_iload_n C0 dX12_weakest_34 rfl 3 rfl ?_
      refine r_iadd C0 dX12_weakest_35 ?_
      refine callV2 C0 h (hD _) mw_X12_lineIs rv_m tm_X12_58 (fun y hy => c_X12_lineIs hy) (Nat.le_of_ble_eq_true rfl) (Nat.le_of_ble_eq_true rfl) dX12_weakest_36 (fun r7 h => ?_)
      refine r_istore_n (lv2 := [(2, .int r7), (0, .ref (a 0)), (1, .int v1), (3, .int x.2)]) C0 dX12_weakest_39 rfl rfl (Nat.le_of_ble_eq_true rfl) rfl ?_
      exact r_sub [1, 2, 0, 3] rfl (w_X12_weakest_j40 C0 hD h hz)
theorem w_X12_weakest_B9_lp {x : Int32 × Int32} {z : (Int32)} {Γ : Gam} {cy : Nat → ClassId} {a : Nat → Nat} {V : VT} {X : va_W} {v1 : Int32}  (C0 : CXg Γ cX12_weakest 4 1 RX12 cy) (hD : DM Γ cy a X) (h : lp (f_X12_weakest_B9 v1 V) fuel x = some z) (hz : (fun y : Int32 => FinI Γ cX12_weakest (WM cy a V X) y) z) : Wp Γ 0 0 9 [(0, .ref (a 0)), (1, .int v1), (2, .int x.1), (3, .int x.2)] [] (WM cy a V X) :=
  lp_rule (hd := (fun x : Int32 × Int32 => Wp Γ 0 0 9 [(0, .ref (a 0)), (1, .int v1), (2, .int x.1), (3, .int x.2)] [] (WM cy a V X))) (C := (fun y : Int32 => FinI Γ cX12_weakest (WM cy a V X) y)) (fun x z h hz => w_X12_weakest_B9 C0 hD h hz) _ _ _ h hz
theorem w_X12_weakest {z : Int32} {Γ : Gam} {cy : Nat → ClassId} {a : Nat → Nat} {V : VT} {X : va_W} {v1 : Int32}  (C0 : CXg Γ cX12_weakest 4 1 RX12 cy) (hD : DM Γ cy a X) (h : f_X12_weakest v1 V = some z) (hz : (fun y : Int32 => FinI Γ cX12_weakest (WM cy a V X) y) z) : Wp Γ 0 0 0 [(0, .ref (a 0)), (1, .int v1)] [] (WM cy a V X) := by
  unfold f_X12_weakest at h
  refine r_aload_n C0 dX12_weakest_0 rfl 0 rfl ?_
  refine r_iload_n C0 dX12_weakest_1 rfl 1 rfl ?_
  refine r_iconst C0 dX12_weakest_2 ki_4 ?_
  refine callV2 C0 h (hD _) mw_X12_lineIs rv_m tm_X12_58 (fun y hy => c_X12_lineIs hy) (Nat.le_of_ble_eq_true rfl) (Nat.le_of_ble_eq_true rfl) dX12_weakest_3 (fun r1 h => ?_)
  refine r_istore_n (lv2 := [(2, .int r1), (0, .ref (a 0)), (1, .int v1)]) C0 dX12_weakest_6 rfl rfl (Nat.le_of_ble_eq_true rfl) rfl ?_
  refine r_iconst C0 dX12_weakest_7 ki_1 ?_
  obtain ⟨a2, h8, h⟩ := op_bind h
  have e8 := Option.some.inj h8
  refine r_istore_n (lv2 := [(3, .int a2), (2, .int r1), (0, .ref (a 0)), (1, .int v1)]) C0 dX12_weakest_8 rfl e8 (Nat.le_of_ble_eq_true rfl) rfl ?_
  exact r_sub [2, 3, 1, 0] rfl (w_X12_weakest_B9_lp C0 hD h hz)
theorem c_X12_weakest {l : Launch} {D : va_G} {cy : Nat → ClassId} {a : Nat → Nat} {V : VT} {X : va_W} {v1 : Int32} {y : Int32} (h : f_X12_weakest v1 V = some y) : CT l D cy yX12_weakest cX12_weakest 4 (some .int) 1 [.ref (a 0), .int v1] (WM cy a V X) (WM cy a V X) (some (.int y)) :=
  mkI (by decide) (Nat.le_of_ble_eq_true rfl) (fun Γ _ _ C0 hD hF => w_X12_weakest C0 (dm_of hD) h hF)
theorem dX12_placeOn_0 : decode cX12_placeOn 0 = .ok (.iconst 0, 1) := by decide +kernel
theorem dX12_placeOn_1 : decode cX12_placeOn 1 = .ok (.istore_n 3, 1) := by decide +kernel
theorem dX12_placeOn_2 : decode cX12_placeOn 2 = .ok (.iload_n 3, 1) := by decide +kernel
theorem dX12_placeOn_3 : decode cX12_placeOn 3 = .ok (.aload_n 0, 1) := by decide +kernel
theorem dX12_placeOn_4 : decode cX12_placeOn 4 = .ok (.iload_n 1, 1) := by decide +kernel
theorem dX12_placeOn_5 : decode cX12_placeOn 5 = .ok (.invokevirtual 55, 3) := by decide +kernel
theorem dX12_placeOn_8 : decode cX12_placeOn 8 = .ok (.if_icmp .ge 23, 3) := by decide +kernel
theorem dX12_placeOn_11 : decode cX12_placeOn 11 = .ok (.aload_n 0, 1) := by decide +kernel
theorem dX12_placeOn_12 : decode cX12_placeOn 12 = .ok (.iload_n 1, 1) := by decide +kernel
theorem dX12_placeOn_13 : decode cX12_placeOn 13 = .ok (.iload_n 3, 1) := by decide +kernel
theorem dX12_placeOn_14 : decode cX12_placeOn 14 = .ok (.invokevirtual 72, 3) := by decide +kernel
theorem dX12_placeOn_17 : decode cX12_placeOn 17 = .ok (.iconst 2, 1) := by decide +kernel
theorem dX12_placeOn_18 : decode cX12_placeOn 18 = .ok (.iload_n 2, 1) := by decide +kernel
theorem dX12_placeOn_19 : decode cX12_placeOn 19 = .ok (.iadd, 1) := by decide +kernel
theorem dX12_placeOn_20 : decode cX12_placeOn 20 = .ok (.if_icmp .ne 5, 3) := by decide +kernel
theorem dX12_placeOn_23 : decode cX12_placeOn 23 = .ok (.iload_n 3, 1) := by decide +kernel
theorem dX12_placeOn_24 : decode cX12_placeOn 24 = .ok (.ireturn, 1) := by decide +kernel
theorem dX12_placeOn_25 : decode cX12_placeOn 25 = .ok (.iinc 3 1, 3) := by decide +kernel
theorem dX12_placeOn_28 : decode cX12_placeOn 28 = .ok (.goto (-26), 3) := by decide +kernel
theorem dX12_placeOn_31 : decode cX12_placeOn 31 = .ok (.iconst (-1), 1) := by decide +kernel
theorem dX12_placeOn_32 : decode cX12_placeOn 32 = .ok (.ireturn, 1) := by decide +kernel
theorem w_X12_placeOn_B2 {x : Int32} {z : ((Int32) ⊕ (Int32))} {Γ : Gam} {cy : Nat → ClassId} {a : Nat → Nat} {V : VT} {X : va_W} {v1 : Int32} {v2 : Int32}  (C0 : CXg Γ cX12_placeOn 4 2 RX12 cy) (hD : DM Γ cy a X) (h : f_X12_placeOn_B2 v1 v2 V x = some z) (hz : (Sum.elim (fun x : Int32 => Wp Γ 0 0 2 [(0, .ref (a 0)), (1, .int v1), (2, .int v2), (3, .int x)] [] (WM cy a V X)) (fun y : Int32 => FinI Γ cX12_placeOn (WM cy a V X) y)) z) : Wp Γ 0 0 2 [(0, .ref (a 0)), (1, .int v1), (2, .int v2), (3, .int x)] [] (WM cy a V X) := by
  unfold f_X12_placeOn_B2 at h
  refine r_iload_n C0 dX12_placeOn_2 rfl 3 rfl ?_
  refine r_aload_n C0 dX12_placeOn_3 rfl 0 rfl ?_
  refine r_iload_n C0 dX12_placeOn_4 rfl 1 rfl ?_
  refine callV1 C0 h (hD _) mw_X12_places rv_m tm_X12_55 (fun y hy => c_X12_places hy) (Nat.le_of_ble_eq_true rfl) (Nat.le_of_ble_eq_true rfl) dX12_placeOn_5 (fun r2 h => ?_)
  refine r_icmp_ge C0 31 dX12_placeOn_8 rfl h (fun _ h => ?_) (fun _ h => ?_)
  · obtain ⟨y3, h5, h9⟩ := op_bind h
    clear h
    cases h9
    have hz := (el_inr hz)
    have h := h5
    refine r_iconst C0 dX12_placeOn_31 ki_m1 ?_
    cases h
    exact hz _ _ dX12_placeOn_32
  · refine r_aload_n C0 dX12_placeOn_11 rfl 0 rfl ?_
    refine r_iload_n C0 dX12_placeOn_12 rfl 1 rfl ?_
    refine r_iload_n C0 dX12_placeOn_13 rfl 3 rfl ?_
    refine callV2 C0 h (hD _) mw_X12_held rv_m tm_X12_72 (fun y hy => c_X12_held hy) (Nat.le_of_ble_eq_true rfl) (Nat.le_of_ble_eq_true rfl) dX12_placeOn_14 (fun r4 h => ?_)
    refine r_iconst C0 dX12_placeOn_17 ki_2 ?_
    refine r_iload_n C0 dX12_placeOn_18 rfl 2 rfl ?_
    refine r_iadd C0 dX12_placeOn_19 ?_
    refine r_icmp_ne C0 25 dX12_placeOn_20 rfl h (fun _ h => ?_) (fun _ h => ?_)
    · obtain ⟨a5, h8, h⟩ := op_bind h
      have e8 := Option.some.inj h8
      refine r_iinc (lv2 := [(3, .int a5), (0, .ref (a 0)), (1, .int v1), (2, .int v2)]) C0 dX12_placeOn_25 3 rfl ki_1 e8 (Nat.le_of_ble_eq_true rfl) rfl ?_
      refine r_goto C0 2 dX12_placeOn_28 rfl ?_
      cases h
      have hz := el_inl hz
      exact r_sub [1, 2, 3, 0] rfl hz
    · obtain ⟨y6, h5, h9⟩ := op_bind h
      clear h
      cases h9
      have hz := (el_inr hz)
      have h := h5
      refine r_iload_n C0 dX12_placeOn_23 rfl 3 rfl ?_
      cases h
      exact hz _ _ dX12_placeOn_24
theorem w_X12_placeOn_B2_lp {x : Int32} {z : (Int32)} {Γ : Gam} {cy : Nat → ClassId} {a : Nat → Nat} {V : VT} {X : va_W} {v1 : Int32} {v2 : Int32}  (C0 : CXg Γ cX12_placeOn 4 2 RX12 cy) (hD : DM Γ cy a X) (h : lp (f_X12_placeOn_B2 v1 v2 V) fuel x = some z) (hz : (fun y : Int32 => FinI Γ cX12_placeOn (WM cy a V X) y) z) : Wp Γ 0 0 2 [(0, .ref (a 0)), (1, .int v1), (2, .int v2), (3, .int x)] [] (WM cy a V X) :=
  lp_rule (hd := (fun x : Int32 => Wp Γ 0 0 2 [(0, .ref (a 0)), (1, .int v1), (2, .int v2), (3, .int x)] [] (WM cy a V X))) (C := (fun y : Int32 => FinI Γ cX12_placeOn (WM cy a V X) y)) (fun x z h hz => w_X12_placeOn_B2 C0 hD h hz) _ _ _ h hz
theorem w_X12_placeOn {z : Int32} {Γ : Gam} {cy : Nat → ClassId} {a : Nat → Nat} {V : VT} {X : va_W} {v1 : Int32} {v2 : Int32}  (C0 : CXg Γ cX12_placeOn 4 2 RX12 cy) (hD : DM Γ cy a X) (h : f_X12_placeOn v1 v2 V = some z) (hz : (fun y : Int32 => FinI Γ cX12_placeOn (WM cy a V X) y) z) : Wp Γ 0 0 0 [(0, .ref (a 0)), (1, .int v1), (2, .int v2)] [] (WM cy a V X) := by
  unfold f_X12_placeOn at h
  refine r_iconst C0 dX12_placeOn_0 ki_0 ?_
  obtain ⟨a1, h8, h⟩ := op_bind h
  have e8 := Option.some.inj h8
  refine r_istore_n (lv2 := [(3, .int a1), (0, .ref (a 0)), (1, .int v1), (2, .int v2)]) C0 dX12_placeOn_1 rfl e8 (Nat.le_of_ble_eq_true rfl) rfl ?_
  exact r_sub [1, 2, 3, 0] rfl (w_X12_placeOn_B2_lp C0 hD h hz)
theorem c_X12_placeOn {l : Launch} {D : va_G} {cy : Nat → ClassId} {a : Nat → Nat} {V : VT} {X : va_W} {v1 : Int32} {v2 : Int32} {y : Int32} (h : f_X12_placeOn v1 v2 V = some y) : CT l D cy yX12_placeOn cX12_placeOn 4 (some .int) 2 [.ref (a 0), .int v1, .int v2] (WM cy a V X) (WM cy a V X) (some (.int y)) :=
  mkI (by decide) (Nat.le_of_ble_eq_true rfl) (fun Γ _ _ C0 hD hF => w_X12_placeOn C0 (dm_of hD) h hF)
theorem dX12_barWith_0 : decode cX12_barWith 0 = .ok (.iconst 0, 1) := by decide +kernel
theorem dX12_barWith_1 : decode cX12_barWith 1 = .ok (.istore_n 2, 1) := by decide +kernel
theorem dX12_barWith_2 : decode cX12_barWith 2 = .ok (.iload_n 2, 1) := by decide +kernel
theorem dX12_barWith_3 : decode cX12_barWith 3 = .ok (.bipush 12, 2) := by decide +kernel
theorem dX12_barWith_5 : decode cX12_barWith 5 = .ok (.if_icmp .ge 28, 3) := by decide +kernel
theorem dX12_barWith_8 : decode cX12_barWith 8 = .ok (.aload_n 0, 1) := by decide +kernel
theorem dX12_barWith_9 : decode cX12_barWith 9 = .ok (.iload_n 2, 1) := by decide +kernel
theorem dX12_barWith_10 : decode cX12_barWith 10 = .ok (.invokevirtual 66, 3) := by decide +kernel
theorem dX12_barWith_13 : decode cX12_barWith 13 = .ok (.ifCond .eq 14, 3) := by decide +kernel
theorem dX12_barWith_16 : decode cX12_barWith 16 = .ok (.aload_n 0, 1) := by decide +kernel
theorem dX12_barWith_17 : decode cX12_barWith 17 = .ok (.iload_n 2, 1) := by decide +kernel
theorem dX12_barWith_18 : decode cX12_barWith 18 = .ok (.iload_n 1, 1) := by decide +kernel
theorem dX12_barWith_19 : decode cX12_barWith 19 = .ok (.invokevirtual 69, 3) := by decide +kernel
theorem dX12_barWith_22 : decode cX12_barWith 22 = .ok (.ifCond .lt 5, 3) := by decide +kernel
theorem dX12_barWith_25 : decode cX12_barWith 25 = .ok (.iload_n 2, 1) := by decide +kernel
theorem dX12_barWith_26 : decode cX12_barWith 26 = .ok (.ireturn, 1) := by decide +kernel
theorem dX12_barWith_27 : decode cX12_barWith 27 = .ok (.iinc 2 1, 3) := by decide +kernel
theorem dX12_barWith_30 : decode cX12_barWith 30 = .ok (.goto (-28), 3) := by decide +kernel
theorem dX12_barWith_33 : decode cX12_barWith 33 = .ok (.ldc 42, 2) := by decide +kernel
theorem dX12_barWith_35 : decode cX12_barWith 35 = .ok (.ireturn, 1) := by decide +kernel
theorem w_X12_barWith_j27 {z : ((Int32) ⊕ (Int32))} {Γ : Gam} {cy : Nat → ClassId} {a : Nat → Nat} {V : VT} {X : va_W} {v1 : Int32} {v2 : Int32}  (C0 : CXg Γ cX12_barWith 3 3 RX12 cy) (hD : DM Γ cy a X) (h : f_X12_barWith_j27 v1 v2 V = some z) (hz : (Sum.elim (fun x : Int32 => Wp Γ 0 0 2 [(0, .ref (a 0)), (1, .int v1), (2, .int x)] [] (WM cy a V X)) (fun y : Int32 => FinI Γ cX12_barWith (WM cy a V X) y)) z) : Wp Γ 0 0 27 [(0, .ref (a 0)), (1, .int v1), (2, .int v2)] [] (WM cy a V X) := by
  unfold f_X12_barWith_j27 at h
  obtain ⟨a4, h8, h⟩ := op_bind h
  have e8 := Option.some.inj h8
  refine r_iinc (lv2 := [(2, .int a4), (0, .ref (a 0)), (1, .int v1)]) C0 dX12_barWith_27 2 rfl ki_1 e8 (Nat.le_of_ble_eq_true rfl) rfl ?_
  refine r_goto C0 2 dX12_barWith_30 rfl ?_
  cases h
  have hz := el_inl hz
  exact r_sub [1, 2, 0] rfl hz
theorem w_X12_barWith_B2 {x : Int32} {z : ((Int32) ⊕ (Int32))} {Γ : Gam} {cy : Nat → ClassId} {a : Nat → Nat} {V : VT} {X : va_W} {v1 : Int32}  (C0 : CXg Γ cX12_barWith 3 3 RX12 cy) (hD : DM Γ cy a X) (h : f_X12_barWith_B2 v1 V x = some z) (hz : (Sum.elim (fun x : Int32 => Wp Γ 0 0 2 [(0, .ref (a 0)), (1, .int v1), (2, .int x)] [] (WM cy a V X)) (fun y : Int32 => FinI Γ cX12_barWith (WM cy a V X) y)) z) : Wp Γ 0 0 2 [(0, .ref (a 0)), (1, .int v1), (2, .int x)] [] (WM cy a V X) := by
  unfold f_X12_barWith_B2 at h
  refine r_iload_n C0 dX12_barWith_2 rfl 2 rfl ?_
  refine r_bipush C0 dX12_barWith_3 kb_12 ?_
  refine r_icmp_ge C0 33 dX12_barWith_5 rfl h (fun _ h => ?_) (fun _ h => ?_)
  · obtain ⟨y2, h5, h9⟩ := op_bind h
    clear h
    cases h9
    have hz := (el_inr hz)
    have h := h5
    refine r_ldc C0 tk_X12_42 dX12_barWith_33 ?_
    cases h
    exact hz _ _ dX12_barWith_35
  · refine r_aload_n C0 dX12_barWith_8 rfl 0 rfl ?_
    refine r_iload_n C0 dX12_barWith_9 rfl 2 rfl ?_
    refine callV1 C0 h (hD _) mw_X12_isRigged rv_m tm_X12_66 (fun y hy => c_X12_isRigged hy) (Nat.le_of_ble_eq_true rfl) (Nat.le_of_ble_eq_true rfl) dX12_barWith_10 (fun r3 h => ?_)
    refine r_if_eq C0 27 dX12_barWith_13 rfl h (fun _ h => ?_) (fun _ h => ?_)
    · exact r_sub [0, 1, 2] rfl (w_X12_barWith_j27 C0 hD h hz)
    · refine r_aload_n C0 dX12_barWith_16 rfl 0 rfl ?_
      refine r_iload_n C0 dX12_barWith_17 rfl 2 rfl ?_
      refine r_iload_n C0 dX12_barWith_18 rfl 1 rfl ?_
      refine callV2 C0 h (hD _) mw_X12_placeOn rv_m tm_X12_69 (fun y hy => c_X12_placeOn hy) (Nat.le_of_ble_eq_true rfl) (Nat.le_of_ble_eq_true rfl) dX12_barWith_19 (fun r5 h => ?_)
      refine r_if_lt C0 27 dX12_barWith_22 rfl h (fun _ h => ?_) (fun _ h => ?_)
      · exact r_sub [0, 1, 2] rfl (w_X12_barWith_j27 C0 hD h hz)
      · obtain ⟨y6, h5, h9⟩ := op_bind h
        clear h
        cases h9
        have hz := (el_inr hz)
        have h := h5
        refine r_iload_n C0 dX12_barWith_25 rfl 2 rfl ?_
        cases h
        exact hz _ _ dX12_barWith_26
theorem w_X12_barWith_B2_lp {x : Int32} {z : (Int32)} {Γ : Gam} {cy : Nat → ClassId} {a : Nat → Nat} {V : VT} {X : va_W} {v1 : Int32}  (C0 : CXg Γ cX12_barWith 3 3 RX12 cy) (hD : DM Γ cy a X) (h : lp (f_X12_barWith_B2 v1 V) fuel x = some z) (hz : (fun y : Int32 => FinI Γ cX12_barWith (WM cy a V X) y) z) : Wp Γ 0 0 2 [(0, .ref (a 0)), (1, .int v1), (2, .int x)] [] (WM cy a V X) :=
  lp_rule (hd := (fun x : Int32 => Wp Γ 0 0 2 [(0, .ref (a 0)), (1, .int v1), (2, .int x)] [] (WM cy a V X))) (C := (fun y : Int32 => FinI Γ cX12_barWith (WM cy a V X) y)) (fun x z h hz => w_X12_barWith_B2 C0 hD h hz) _ _ _ h hz
theorem w_X12_barWith {z : Int32} {Γ : Gam} {cy : Nat → ClassId} {a : Nat → Nat} {V : VT} {X : va_W} {v1 : Int32}  (C0 : CXg Γ cX12_barWith 3 3 RX12 cy) (hD : DM Γ cy a X) (h : f_X12_barWith v1 V = some z) (hz : (fun y : Int32 => FinI Γ cX12_barWith (WM cy a V X) y) z) : Wp Γ 0 0 0 [(0, .ref (a 0)), (1, .int v1)] [] (WM cy a V X) := by
  unfold f_X12_barWith at h
  refine r_iconst C0 dX12_barWith_0 ki_0 ?_
  obtain ⟨a1, h8, h⟩ := op_bind h
  have e8 := Option.some.inj h8
  refine r_istore_n (lv2 := [(2, .int a1), (0, .ref (a 0)), (1, .int v1)]) C0 dX12_barWith_1 rfl e8 (Nat.le_of_ble_eq_true rfl) rfl ?_
  exact r_sub [1, 2, 0] rfl (w_X12_barWith_B2_lp C0 hD h hz)
theorem c_X12_barWith {l : Launch} {D : va_G} {cy : Nat → ClassId} {a : Nat → Nat} {V : VT} {X : va_W} {v1 : Int32} {y : Int32} (h : f_X12_barWith v1 V = some y) : CT l D cy yX12_barWith cX12_barWith 3 (some .int) 3 [.ref (a 0), .int v1] (WM cy a V X) (WM cy a V X) (some (.int y)) :=
  mkI (by decide) (Nat.le_of_ble_eq_true rfl) (fun Γ _ _ C0 hD hF => w_X12_barWith C0 (dm_of hD) h hF)
theorem dX12_burden_0 : decode cX12_burden 0 = .ok (.aload_n 0, 1) := by decide +kernel
theorem dX12_burden_1 : decode cX12_burden 1 = .ok (.iload_n 1, 1) := by decide +kernel
theorem dX12_burden_2 : decode cX12_burden 2 = .ok (.iconst 3, 1) := by decide +kernel
theorem dX12_burden_3 : decode cX12_burden 3 = .ok (.invokevirtual 75, 3) := by decide +kernel
theorem dX12_burden_6 : decode cX12_burden 6 = .ok (.i2f, 1) := by decide +kernel
theorem dX12_burden_7 : decode cX12_burden 7 = .ok (.ldc 78, 2) := by decide +kernel
theorem dX12_burden_9 : decode cX12_burden 9 = .ok (.fmul, 1) := by decide +kernel
theorem dX12_burden_10 : decode cX12_burden 10 = .ok (.fstore_n 2, 1) := by decide +kernel
theorem dX12_burden_11 : decode cX12_burden 11 = .ok (.aload_n 0, 1) := by decide +kernel
theorem dX12_burden_12 : decode cX12_burden 12 = .ok (.iload_n 1, 1) := by decide +kernel
theorem dX12_burden_13 : decode cX12_burden 13 = .ok (.iconst 0, 1) := by decide +kernel
theorem dX12_burden_14 : decode cX12_burden 14 = .ok (.invokevirtual 75, 3) := by decide +kernel
theorem dX12_burden_17 : decode cX12_burden 17 = .ok (.iconst 4, 1) := by decide +kernel
theorem dX12_burden_18 : decode cX12_burden 18 = .ok (.if_icmp .ne 10, 3) := by decide +kernel
theorem dX12_burden_21 : decode cX12_burden 21 = .ok (.fload_n 2, 1) := by decide +kernel
theorem dX12_burden_22 : decode cX12_burden 22 = .ok (.ldc 79, 2) := by decide +kernel
theorem dX12_burden_24 : decode cX12_burden 24 = .ok (.fmul, 1) := by decide +kernel
theorem dX12_burden_25 : decode cX12_burden 25 = .ok (.goto 4, 3) := by decide +kernel
theorem dX12_burden_28 : decode cX12_burden 28 = .ok (.fload_n 2, 1) := by decide +kernel
theorem dX12_burden_29 : decode cX12_burden 29 = .ok (.freturn, 1) := by decide +kernel
theorem w_X12_burden {z : UInt32} {Γ : Gam} {cy : Nat → ClassId} {a : Nat → Nat} {V : VT} {X : va_W} {v1 : Int32}  (C0 : CXg Γ cX12_burden 3 1 RX12 cy) (hD : DM Γ cy a X) (h : f_X12_burden v1 V = some z) (hz : (fun y : UInt32 => FinF Γ cX12_burden (WM cy a V X) y) z) : Wp Γ 0 0 0 [(0, .ref (a 0)), (1, .int v1)] [] (WM cy a V X) := by
  unfold f_X12_burden at h
  refine r_aload_n C0 dX12_burden_0 rfl 0 rfl ?_
  refine r_iload_n C0 dX12_burden_1 rfl 1 rfl ?_
  refine r_iconst C0 dX12_burden_2 ki_3 ?_
  refine callV2 C0 h (hD _) mw_X12_thingIs rv_m tm_X12_75 (fun y hy => c_X12_thingIs hy) (Nat.le_of_ble_eq_true rfl) (Nat.le_of_ble_eq_true rfl) dX12_burden_3 (fun r1 h => ?_)
  refine r_i2f C0 dX12_burden_6 ?_
  refine r_ldcf C0 tk_X12_78 dX12_burden_7 ?_
  refine r_fmul C0 dX12_burden_9 h (fun w2 h => ?_)
  refine r_fstore_n (lv2 := [(2, .float w2), (0, .ref (a 0)), (1, .int v1)]) C0 dX12_burden_10 rfl rfl (Nat.le_of_ble_eq_true rfl) rfl ?_
  refine r_aload_n C0 dX12_burden_11 rfl 1 rfl ?_
  refine r_iload_n C0 dX12_burden_12 rfl 2 rfl ?_
  refine r_iconst C0 dX12_burden_13 ki_0 ?_
  refine callV2 C0 h (hD _) mw_X12_thingIs rv_m tm_X12_75 (fun y hy => c_X12_thingIs hy) (Nat.le_of_ble_eq_true rfl) (Nat.le_of_ble_eq_true rfl) dX12_burden_14 (fun r3 h => ?_)
  refine r_iconst C0 dX12_burden_17 ki_4 ?_
  refine r_icmp_ne C0 28 dX12_burden_18 rfl h (fun _ h => ?_) (fun _ h => ?_)
  · refine r_fload_n C0 dX12_burden_28 rfl 0 rfl ?_
    cases h
    exact hz _ _ dX12_burden_29
  · refine r_fload_n C0 dX12_burden_21 rfl 0 rfl ?_
    refine r_ldcf C0 tk_X12_79 dX12_burden_22 ?_
    refine r_fmul C0 dX12_burden_24 h (fun w4 h => ?_)
    refine r_goto C0 29 dX12_burden_25 rfl ?_
    cases h
    exact hz _ _ dX12_burden_29
theorem c_X12_burden {l : Launch} {D : va_G} {cy : Nat → ClassId} {a : Nat → Nat} {V : VT} {X : va_W} {v1 : Int32} {y : UInt32} (h : f_X12_burden v1 V = some y) : CT l D cy yX12_burden cX12_burden 3 (some .float) 1 [.ref (a 0), .int v1] (WM cy a V X) (WM cy a V X) (some (.float y)) :=
  mkF (by decide) (Nat.le_of_ble_eq_true rfl) (fun Γ _ _ C0 hD hF => w_X12_burden C0 (dm_of hD) h hF)
theorem dX12_grams_0 : decode cX12_grams 0 = .ok (.aload_n 0, 1) := by decide +kernel
theorem dX12_grams_1 : decode cX12_grams 1 = .ok (.iload_n 1, 1) := by decide +kernel
theorem dX12_grams_2 : decode cX12_grams 2 = .ok (.invokevirtual 80, 3) := by decide +kernel
theorem dX12_grams_5 : decode cX12_grams 5 = .ok (.f2i, 1) := by decide +kernel
theorem dX12_grams_6 : decode cX12_grams 6 = .ok (.ireturn, 1) := by decide +kernel
theorem w_X12_grams {z : Int32} {Γ : Gam} {cy : Nat → ClassId} {a : Nat → Nat} {V : VT} {X : va_W} {v1 : Int32}  (C0 : CXg Γ cX12_grams 2 2 RX12 cy) (hD : DM Γ cy a X) (h : f_X12_grams v1 V = some z) (hz : (fun y : Int32 => FinI Γ cX12_grams (WM cy a V X) y) z) : Wp Γ 0 0 0 [(0, .ref (a 0)), (1, .int v1)] [] (WM cy a V X) := by
  unfold f_X12_grams at h
  refine r_aload_n C0 dX12_grams_0 rfl 0 rfl ?_
  refine r_iload_n C0 dX12_grams_1 rfl 1 rfl ?_
  refine callV1 C0 h (hD _) mw_X12_burden rv_m tm_X12_80 (fun y hy => c_X12_burden hy) (Nat.le_of_ble_eq_true rfl) (Nat.le_of_ble_eq_true rfl) dX12_grams_2 (fun r1 h => ?_)
  refine r_f2i C0 dX12_grams_5 ?_
  cases h
  exact hz _ _ dX12_grams_6
theorem c_X12_grams {l : Launch} {D : va_G} {cy : Nat → ClassId} {a : Nat → Nat} {V : VT} {X : va_W} {v1 : Int32} {y : Int32} (h : f_X12_grams v1 V = some y) : CT l D cy yX12_grams cX12_grams 2 (some .int) 2 [.ref (a 0), .int v1] (WM cy a V X) (WM cy a V X) (some (.int y)) :=
  mkI (by decide) (Nat.le_of_ble_eq_true rfl) (fun Γ _ _ C0 hD hF => w_X12_grams C0 (dm_of hD) h hF)
theorem dX12_loadOf_0 : decode cX12_loadOf 0 = .ok (.fconst 0, 1) := by decide +kernel
theorem dX12_loadOf_1 : decode cX12_loadOf 1 = .ok (.fstore_n 2, 1) := by decide +kernel
theorem dX12_loadOf_2 : decode cX12_loadOf 2 = .ok (.iconst 0, 1) := by decide +kernel
theorem dX12_loadOf_3 : decode cX12_loadOf 3 = .ok (.istore_n 3, 1) := by decide +kernel
theorem dX12_loadOf_4 : decode cX12_loadOf 4 = .ok (.iload_n 3, 1) := by decide +kernel
theorem dX12_loadOf_5 : decode cX12_loadOf 5 = .ok (.aload_n 0, 1) := by decide +kernel
theorem dX12_loadOf_6 : decode cX12_loadOf 6 = .ok (.iload_n 1, 1) := by decide +kernel
theorem dX12_loadOf_7 : decode cX12_loadOf 7 = .ok (.invokevirtual 55, 3) := by decide +kernel
theorem dX12_loadOf_10 : decode cX12_loadOf 10 = .ok (.if_icmp .ge 34, 3) := by decide +kernel
theorem dX12_loadOf_13 : decode cX12_loadOf 13 = .ok (.aload_n 0, 1) := by decide +kernel
theorem dX12_loadOf_14 : decode cX12_loadOf 14 = .ok (.iload_n 1, 1) := by decide +kernel
theorem dX12_loadOf_15 : decode cX12_loadOf 15 = .ok (.iload_n 3, 1) := by decide +kernel
theorem dX12_loadOf_16 : decode cX12_loadOf 16 = .ok (.invokevirtual 72, 3) := by decide +kernel
theorem dX12_loadOf_19 : decode cX12_loadOf 19 = .ok (.iconst 2, 1) := by decide +kernel
theorem dX12_loadOf_20 : decode cX12_loadOf 20 = .ok (.if_icmp .lt 18, 3) := by decide +kernel
theorem dX12_loadOf_23 : decode cX12_loadOf 23 = .ok (.fload_n 2, 1) := by decide +kernel
theorem dX12_loadOf_24 : decode cX12_loadOf 24 = .ok (.aload_n 0, 1) := by decide +kernel
theorem dX12_loadOf_25 : decode cX12_loadOf 25 = .ok (.aload_n 0, 1) := by decide +kernel
theorem dX12_loadOf_26 : decode cX12_loadOf 26 = .ok (.iload_n 1, 1) := by decide +kernel
theorem dX12_loadOf_27 : decode cX12_loadOf 27 = .ok (.iload_n 3, 1) := by decide +kernel
theorem dX12_loadOf_28 : decode cX12_loadOf 28 = .ok (.invokevirtual 72, 3) := by decide +kernel
theorem dX12_loadOf_31 : decode cX12_loadOf 31 = .ok (.iconst 2, 1) := by decide +kernel
theorem dX12_loadOf_32 : decode cX12_loadOf 32 = .ok (.isub, 1) := by decide +kernel
theorem dX12_loadOf_33 : decode cX12_loadOf 33 = .ok (.invokevirtual 80, 3) := by decide +kernel
theorem dX12_loadOf_36 : decode cX12_loadOf 36 = .ok (.fadd, 1) := by decide +kernel
theorem dX12_loadOf_37 : decode cX12_loadOf 37 = .ok (.fstore_n 2, 1) := by decide +kernel
theorem dX12_loadOf_38 : decode cX12_loadOf 38 = .ok (.iinc 3 1, 3) := by decide +kernel
theorem dX12_loadOf_41 : decode cX12_loadOf 41 = .ok (.goto (-37), 3) := by decide +kernel
theorem dX12_loadOf_44 : decode cX12_loadOf 44 = .ok (.fload_n 2, 1) := by decide +kernel
theorem dX12_loadOf_45 : decode cX12_loadOf 45 = .ok (.freturn, 1) := by decide +kernel
theorem w_X12_loadOf_j38 {z : ((UInt32 × Int32) ⊕ (UInt32))} {Γ : Gam} {cy : Nat → ClassId} {a : Nat → Nat} {V : VT} {X : va_W} {v1 : Int32} {v2 : UInt32} {v3 : Int32}  (C0 : CXg Γ cX12_loadOf 4 2 RX12 cy) (hD : DM Γ cy a X) (h : f_X12_loadOf_j38 v1 v2 v3 V = some z) (hz : (Sum.elim (fun x : UInt32 × Int32 => Wp Γ 0 0 4 [(0, .ref (a 0)), (1, .int v1), (2, .float x.1), (3, .int x.2)] [] (WM cy a V X)) (fun y : UInt32 => FinF Γ cX12_loadOf (WM cy a V X) y)) z) : Wp Γ 0 0 38 [(0, .ref (a 0)), (1, .int v1), (2, .float v2), (3, .int v3)] [] (WM cy a V X) := by
  unfold f_X12_loadOf_j38 at h
  obtain ⟨a6, h8, h⟩ := op_bind h
  have e8 := Option.some.inj h8
  refine r_iinc (lv2 := [(3, .int a6), (0, .ref (a 0)), (1, .int v1), (2, .float v2)]) C0 dX12_loadOf_38 3 rfl ki_1 e8 (Nat.le_of_ble_eq_true rfl) rfl ?_
  refine r_goto C0 4 dX12_loadOf_41 rfl ?_
  cases h
  have hz := el_inl hz
  exact r_sub [1, 2, 3, 0] rfl hz
theorem w_X12_loadOf_B4 {x : UInt32 × Int32} {z : ((UInt32 × Int32) ⊕ (UInt32))} {Γ : Gam} {cy : Nat → ClassId} {a : Nat → Nat} {V : VT} {X : va_W} {v1 : Int32}  (C0 : CXg Γ cX12_loadOf 4 2 RX12 cy) (hD : DM Γ cy a X) (h : f_X12_loadOf_B4 v1 V x = some z) (hz : (Sum.elim (fun x : UInt32 × Int32 => Wp Γ 0 0 4 [(0, .ref (a 0)), (1, .int v1), (2, .float x.1), (3, .int x.2)] [] (WM cy a V X)) (fun y : UInt32 => FinF Γ cX12_loadOf (WM cy a V X) y)) z) : Wp Γ 0 0 4 [(0, .ref (a 0)), (1, .int v1), (2, .float x.1), (3, .int x.2)] [] (WM cy a V X) := by
  unfold f_X12_loadOf_B4 at h
  refine r_iload_n C0 dX12_loadOf_4 rfl 3 rfl ?_
  refine r_aload_n C0 dX12_loadOf_5 rfl 0 rfl ?_
  refine r_iload_n C0 dX12_loadOf_6 rfl 1 rfl ?_
  refine callV1 C0 h (hD _) mw_X12_places rv_m tm_X12_55 (fun y hy => c_X12_places hy) (Nat.le_of_ble_eq_true rfl) (Nat.le_of_ble_eq_true rfl) dX12_loadOf_7 (fun r3 h => ?_)
  refine r_icmp_ge C0 44 dX12_loadOf_10 rfl h (fun _ h => ?_) (fun _ h => ?_)
  · obtain ⟨y4, h5, h9⟩ := op_bind h
    clear h
    cases h9
    have hz := (el_inr hz)
    have h := h5
    refine r_fload_n C0 dX12_loadOf_44 rfl 2 rfl ?_
    cases h
    exact hz _ _ dX12_loadOf_45
  · refine r_aload_n C0 dX12_loadOf_13 rfl 0 rfl ?_
    refine r_iload_n C0 dX12_loadOf_14 rfl 1 rfl ?_
    refine r_iload_n C0 dX12_loadOf_15 rfl 3 rfl ?_
    refine callV2 C0 h (hD _) mw_X12_held rv_m tm_X12_72 (fun y hy => c_X12_held hy) (Nat.le_of_ble_eq_true rfl) (Nat.le_of_ble_eq_true rfl) dX12_loadOf_16 (fun r5 h => ?_)
    refine r_iconst C0 dX12_loadOf_19 ki_2 ?_
    refine r_icmp_lt C0 38 dX12_loadOf_20 rfl h (fun _ h => ?_) (fun _ h => ?_)
    · exact r_sub [0, 1, 2, 3] rfl (w_X12_loadOf_j38 C0 hD h hz)
    · refine r_fload_n C0 dX12_loadOf_23 rfl 2 rfl ?_
      refine r_aload_n C0 dX12_loadOf_24 rfl 0 rfl ?_
      refine r_aload_n C0 dX12_loadOf_25 rfl 0 rfl ?_
      refine r_iload_n C0 dX12_loadOf_26 rfl 1 rfl ?_
      refine r_iload_n C0 dX12_loadOf_27 rfl 3 rfl ?_
      refine callV2 C0 h (hD _) mw_X12_held rv_m tm_X12_72 (fun y hy => c_X12_held hy) (Nat.le_of_ble_eq_true rfl) (Nat.le_of_ble_eq_true rfl) dX12_loadOf_28 (fun r7 h => ?_)
      refine r_iconst C0 dX12_loadOf_31 ki_2 ?_
      refine r_isub C0 dX12_loadOf_32 ?_
      refine callV1 C0 h (hD _) mw_X12_burden rv_m tm_X12_80 (fun y hy => c_X12_burden hy) (Nat.le_of_ble_eq_true rfl) (Nat.le_of_ble_eq_true rfl) dX12_loadOf_33 (fun r8 h => ?_)
      refine r_fadd C0 dX12_loadOf_36 h (fun w9 h => ?_)
      refine r_fstore_n (lv2 := [(2, .float w9), (0, .ref (a 0)), (1, .int v1), (3, .int x.2)]) C0 dX12_loadOf_37 rfl rfl (Nat.le_of_ble_eq_true rfl) rfl ?_
      exact r_sub [1, 2, 0, 3] rfl (w_X12_loadOf_j38 C0 hD h hz)
theorem w_X12_loadOf_B4_lp {x : UInt32 × Int32} {z : (UInt32)} {Γ : Gam} {cy : Nat → ClassId} {a : Nat → Nat} {V : VT} {X : va_W} {v1 : Int32}  (C0 : CXg Γ cX12_loadOf 4 2 RX12 cy) (hD : DM Γ cy a X) (h : lp (f_X12_loadOf_B4 v1 V) fuel x = some z) (hz : (fun y : UInt32 => FinF Γ cX12_loadOf (WM cy a V X) y) z) : Wp Γ 0 0 4 [(0, .ref (a 0)), (1, .int v1), (2, .float x.1), (3, .int x.2)] [] (WM cy a V X) :=
  lp_rule (hd := (fun x : UInt32 × Int32 => Wp Γ 0 0 4 [(0, .ref (a 0)), (1, .int v1), (2, .float x.1), (3, .int x.2)] [] (WM cy a V X))) (C := (fun y : UInt32 => FinF Γ cX12_loadOf (WM cy a V X) y)) (fun x z h hz => w_X12_loadOf_B4 C0 hD h hz) _ _ _ h hz
theorem w_X12_loadOf {z : UInt32} {Γ : Gam} {cy : Nat → ClassId} {a : Nat → Nat} {V : VT} {X : va_W} {v1 : Int32}  (C0 : CXg Γ cX12_loadOf 4 2 RX12 cy) (hD : DM Γ cy a X) (h : f_X12_loadOf v1 V = some z) (hz : (fun y : UInt32 => FinF Γ cX12_loadOf (WM cy a V X) y) z) : Wp Γ 0 0 0 [(0, .ref (a 0)), (1, .int v1)] [] (WM cy a V X) := by
  unfold f_X12_loadOf at h
  refine r_fconst C0 dX12_loadOf_0 ?_
  obtain ⟨a1, h8, h⟩ := op_bind h
  have e8 := Option.some.inj h8
  refine r_fstore_n (lv2 := [(2, .float a1), (0, .ref (a 0)), (1, .int v1)]) C0 dX12_loadOf_1 rfl e8 (Nat.le_of_ble_eq_true rfl) rfl ?_
  refine r_iconst C0 dX12_loadOf_2 ki_0 ?_
  obtain ⟨a2, h8, h⟩ := op_bind h
  have e8 := Option.some.inj h8
  refine r_istore_n (lv2 := [(3, .int a2), (2, .float a1), (0, .ref (a 0)), (1, .int v1)]) C0 dX12_loadOf_3 rfl e8 (Nat.le_of_ble_eq_true rfl) rfl ?_
  exact r_sub [2, 3, 1, 0] rfl (w_X12_loadOf_B4_lp C0 hD h hz)
theorem c_X12_loadOf {l : Launch} {D : va_G} {cy : Nat → ClassId} {a : Nat → Nat} {V : VT} {X : va_W} {v1 : Int32} {y : UInt32} (h : f_X12_loadOf v1 V = some y) : CT l D cy yX12_loadOf cX12_loadOf 4 (some .float) 2 [.ref (a 0), .int v1] (WM cy a V X) (WM cy a V X) (some (.float y)) :=
  mkF (by decide) (Nat.le_of_ble_eq_true rfl) (fun Γ _ _ C0 hD hF => w_X12_loadOf C0 (dm_of hD) h hF)
theorem dX12_isBalanced_0 : decode cX12_isBalanced 0 = .ok (.aload_n 0, 1) := by decide +kernel
theorem dX12_isBalanced_1 : decode cX12_isBalanced 1 = .ok (.iload_n 1, 1) := by decide +kernel
theorem dX12_isBalanced_2 : decode cX12_isBalanced 2 = .ok (.invokevirtual 84, 3) := by decide +kernel
theorem dX12_isBalanced_5 : decode cX12_isBalanced 5 = .ok (.ldc 87, 2) := by decide +kernel
theorem dX12_isBalanced_7 : decode cX12_isBalanced 7 = .ok (.iload_n 2, 1) := by decide +kernel
theorem dX12_isBalanced_8 : decode cX12_isBalanced 8 = .ok (.i2f, 1) := by decide +kernel
theorem dX12_isBalanced_9 : decode cX12_isBalanced 9 = .ok (.fmul, 1) := by decide +kernel
theorem dX12_isBalanced_10 : decode cX12_isBalanced 10 = .ok (.fsub, 1) := by decide +kernel
theorem dX12_isBalanced_11 : decode cX12_isBalanced 11 = .ok (.fstore_n 3, 1) := by decide +kernel
theorem dX12_isBalanced_12 : decode cX12_isBalanced 12 = .ok (.fload_n 3, 1) := by decide +kernel
theorem dX12_isBalanced_13 : decode cX12_isBalanced 13 = .ok (.ldc 88, 2) := by decide +kernel
theorem dX12_isBalanced_15 : decode cX12_isBalanced 15 = .ok (.fcmp .l, 1) := by decide +kernel
theorem dX12_isBalanced_16 : decode cX12_isBalanced 16 = .ok (.ifCond .le 14, 3) := by decide +kernel
theorem dX12_isBalanced_19 : decode cX12_isBalanced 19 = .ok (.fload_n 3, 1) := by decide +kernel
theorem dX12_isBalanced_20 : decode cX12_isBalanced 20 = .ok (.ldc 87, 2) := by decide +kernel
theorem dX12_isBalanced_22 : decode cX12_isBalanced 22 = .ok (.fcmp .g, 1) := by decide +kernel
theorem dX12_isBalanced_23 : decode cX12_isBalanced 23 = .ok (.ifCond .ge 7, 3) := by decide +kernel
theorem dX12_isBalanced_26 : decode cX12_isBalanced 26 = .ok (.iconst 1, 1) := by decide +kernel
theorem dX12_isBalanced_27 : decode cX12_isBalanced 27 = .ok (.goto 4, 3) := by decide +kernel
theorem dX12_isBalanced_30 : decode cX12_isBalanced 30 = .ok (.iconst 0, 1) := by decide +kernel
theorem dX12_isBalanced_31 : decode cX12_isBalanced 31 = .ok (.ireturn, 1) := by decide +kernel
theorem w_X12_isBalanced_j30 {z : (Int32)} {Γ : Gam} {cy : Nat → ClassId} {a : Nat → Nat} {V : VT} {X : va_W}  (C0 : CXg Γ cX12_isBalanced 4 3 RX12 cy) (hD : DM Γ cy a X) (h : f_X12_isBalanced_j30 V = some z) (hz : (fun y : Int32 => FinZ Γ cX12_isBalanced (WM cy a V X) y) z) : Wp Γ 0 0 30 [] [] (WM cy a V X) := by
  unfold f_X12_isBalanced_j30 at h
  refine r_iconst C0 dX12_isBalanced_30 ki_0 ?_
  cases h
  exact hz _ _ nz_0 dX12_isBalanced_31
theorem w_X12_isBalanced {z : Int32} {Γ : Gam} {cy : Nat → ClassId} {a : Nat → Nat} {V : VT} {X : va_W} {v1 : Int32} {v2 : Int32}  (C0 : CXg Γ cX12_isBalanced 4 3 RX12 cy) (hD : DM Γ cy a X) (h : f_X12_isBalanced v1 v2 V = some z) (hz : (fun y : Int32 => FinZ Γ cX12_isBalanced (WM cy a V X) y) z) : Wp Γ 0 0 0 [(0, .ref (a 0)), (1, .int v1), (2, .int v2)] [] (WM cy a V X) := by
  unfold f_X12_isBalanced at h
  refine r_aload_n C0 dX12_isBalanced_0 rfl 0 rfl ?_
  refine r_iload_n C0 dX12_isBalanced_1 rfl 1 rfl ?_
  refine callV1 C0 h (hD _) mw_X12_loadOf rv_m tm_X12_84 (fun y hy => c_X12_loadOf hy) (Nat.le_of_ble_eq_true rfl) (Nat.le_of_ble_eq_true rfl) dX12_isBalanced_2 (fun r1 h => ?_)
  refine r_ldcf C0 tk_X12_87 dX12_isBalanced_5 ?_
  refine r_iload_n C0 dX12_isBalanced_7 rfl 2 rfl ?_
  refine r_i2f C0 dX12_isBalanced_8 ?_
  refine r_fmul C0 dX12_isBalanced_9 h (fun w2 h => ?_)
  refine r_fsub C0 dX12_isBalanced_10 h (fun w3 h => ?_)
  refine r_fstore_n (lv2 := [(3, .float w3), (0, .ref (a 0)), (1, .int v1), (2, .int v2)]) C0 dX12_isBalanced_11 rfl rfl (Nat.le_of_ble_eq_true rfl) rfl ?_
  refine r_fload_n C0 dX12_isBalanced_12 rfl 0 rfl ?_
  refine r_ldcf C0 tk_X12_88 dX12_isBalanced_13 ?_
  refine r_fcmp C0 dX12_isBalanced_15 ?_
  refine r_if_le C0 30 dX12_isBalanced_16 rfl h (fun _ h => ?_) (fun _ h => ?_)
  · exact r_sub [] rfl (w_X12_isBalanced_j30 C0 hD h hz)
  · refine r_fload_n C0 dX12_isBalanced_19 rfl 0 rfl ?_
    refine r_ldcf C0 tk_X12_87 dX12_isBalanced_20 ?_
    refine r_fcmp C0 dX12_isBalanced_22 ?_
    refine r_if_ge C0 30 dX12_isBalanced_23 rfl h (fun _ h => ?_) (fun _ h => ?_)
    · exact r_sub [] rfl (w_X12_isBalanced_j30 C0 hD h hz)
    · refine r_iconst C0 dX12_isBalanced_26 ki_1 ?_
      refine r_goto C0 31 dX12_isBalanced_27 rfl ?_
      cases h
      exact hz _ _ nz_1 dX12_isBalanced_31
theorem c_X12_isBalanced {l : Launch} {D : va_G} {cy : Nat → ClassId} {a : Nat → Nat} {V : VT} {X : va_W} {v1 : Int32} {v2 : Int32} {y : Int32} (h : f_X12_isBalanced v1 v2 V = some y) : CT l D cy yX12_isBalanced cX12_isBalanced 4 (some .boolean) 3 [.ref (a 0), .int v1, .int v2] (WM cy a V X) (WM cy a V X) (some (.int y)) :=
  mkZ (by decide) (Nat.le_of_ble_eq_true rfl) (fun Γ _ _ C0 hD hF => w_X12_isBalanced C0 (dm_of hD) h hF)
theorem dX12_things_0 : decode cX12_things 0 = .ok (.iconst 0, 1) := by decide +kernel
theorem dX12_things_1 : decode cX12_things 1 = .ok (.istore_n 2, 1) := by decide +kernel
theorem dX12_things_2 : decode cX12_things 2 = .ok (.iconst 0, 1) := by decide +kernel
theorem dX12_things_3 : decode cX12_things 3 = .ok (.istore_n 3, 1) := by decide +kernel
theorem dX12_things_4 : decode cX12_things 4 = .ok (.iload_n 3, 1) := by decide +kernel
theorem dX12_things_5 : decode cX12_things 5 = .ok (.aload_n 0, 1) := by decide +kernel
theorem dX12_things_6 : decode cX12_things 6 = .ok (.iload_n 1, 1) := by decide +kernel
theorem dX12_things_7 : decode cX12_things 7 = .ok (.invokevirtual 55, 3) := by decide +kernel
theorem dX12_things_10 : decode cX12_things 10 = .ok (.if_icmp .ge 27, 3) := by decide +kernel
theorem dX12_things_13 : decode cX12_things 13 = .ok (.iload_n 2, 1) := by decide +kernel
theorem dX12_things_14 : decode cX12_things 14 = .ok (.aload_n 0, 1) := by decide +kernel
theorem dX12_things_15 : decode cX12_things 15 = .ok (.iload_n 1, 1) := by decide +kernel
theorem dX12_things_16 : decode cX12_things 16 = .ok (.iload_n 3, 1) := by decide +kernel
theorem dX12_things_17 : decode cX12_things 17 = .ok (.invokevirtual 72, 3) := by decide +kernel
theorem dX12_things_20 : decode cX12_things 20 = .ok (.iconst 2, 1) := by decide +kernel
theorem dX12_things_21 : decode cX12_things 21 = .ok (.if_icmp .lt 7, 3) := by decide +kernel
theorem dX12_things_24 : decode cX12_things 24 = .ok (.iconst 1, 1) := by decide +kernel
theorem dX12_things_25 : decode cX12_things 25 = .ok (.goto 4, 3) := by decide +kernel
theorem dX12_things_28 : decode cX12_things 28 = .ok (.iconst 0, 1) := by decide +kernel
theorem dX12_things_29 : decode cX12_things 29 = .ok (.iadd, 1) := by decide +kernel
theorem dX12_things_30 : decode cX12_things 30 = .ok (.istore_n 2, 1) := by decide +kernel
theorem dX12_things_31 : decode cX12_things 31 = .ok (.iinc 3 1, 3) := by decide +kernel
theorem dX12_things_34 : decode cX12_things 34 = .ok (.goto (-30), 3) := by decide +kernel
theorem dX12_things_37 : decode cX12_things 37 = .ok (.iload_n 2, 1) := by decide +kernel
theorem dX12_things_38 : decode cX12_things 38 = .ok (.ireturn, 1) := by decide +kernel
theorem w_X12_things_j29 {z : ((Int32 × Int32) ⊕ (Int32))} {Γ : Gam} {cy : Nat → ClassId} {a : Nat → Nat} {V : VT} {X : va_W} {v1 : Int32} {v3 : Int32} {s0 : Int32} {s1 : Int32}  (C0 : CXg Γ cX12_things 4 2 RX12 cy) (hD : DM Γ cy a X) (h : f_X12_things_j29 v1 v3 s0 s1 V = some z) (hz : (Sum.elim (fun x : Int32 × Int32 => Wp Γ 0 0 4 [(0, .ref (a 0)), (1, .int v1), (2, .int x.1), (3, .int x.2)] [] (WM cy a V X)) (fun y : Int32 => FinI Γ cX12_things (WM cy a V X) y)) z) : Wp Γ 0 0 29 [(0, .ref (a 0)), (1, .int v1), (3, .int v3)] [.int s1, .int s0] (WM cy a V X) := by
  unfold f_X12_things_j29 at h
  refine r_iadd C0 dX12_things_29 ?_
  obtain ⟨a6, h8, h⟩ := op_bind h
  have e8 := Option.some.inj h8
  refine r_istore_n (lv2 := [(2, .int a6), (0, .ref (a 0)), (1, .int v1), (3, .int v3)]) C0 dX12_things_30 rfl e8 (Nat.le_of_ble_eq_true rfl) rfl ?_
  obtain ⟨a7, h8, h⟩ := op_bind h
  have e8 := Option.some.inj h8
  refine r_iinc (lv2 := [(3, .int a7), (2, .int a6), (0, .ref (a 0)), (1, .int v1)]) C0 dX12_things_31 3 rfl ki_1 e8 (Nat.le_of_ble_eq_true rfl) rfl ?_
  refine r_goto C0 4 dX12_things_34 rfl ?_
  cases h
  have hz := el_inl hz
  exact r_sub [2, 3, 1, 0] rfl hz
theorem w_X12_things_B4 {x : Int32 × Int32} {z : ((Int32 × Int32) ⊕ (Int32))} {Γ : Gam} {cy : Nat → ClassId} {a : Nat → Nat} {V : VT} {X : va_W} {v1 : Int32}  (C0 : CXg Γ cX12_things 4 2 RX12 cy) (hD : DM Γ cy a X) (h : f_X12_things_B4 v1 V x = some z) (hz : (Sum.elim (fun x : Int32 × Int32 => Wp Γ 0 0 4 [(0, .ref (a 0)), (1, .int v1), (2, .int x.1), (3, .int x.2)] [] (WM cy a V X)) (fun y : Int32 => FinI Γ cX12_things (WM cy a V X) y)) z) : Wp Γ 0 0 4 [(0, .ref (a 0)), (1, .int v1), (2, .int x.1), (3, .int x.2)] [] (WM cy a V X) := by
  unfold f_X12_things_B4 at h
  refine r_iload_n C0 dX12_things_4 rfl 3 rfl ?_
  refine r_aload_n C0 dX12_things_5 rfl 0 rfl ?_
  refine r_iload_n C0 dX12_things_6 rfl 1 rfl ?_
  refine callV1 C0 h (hD _) mw_X12_places rv_m tm_X12_55 (fun y hy => c_X12_places hy) (Nat.le_of_ble_eq_true rfl) (Nat.le_of_ble_eq_true rfl) dX12_things_7 (fun r3 h => ?_)
  refine r_icmp_ge C0 37 dX12_things_10 rfl h (fun _ h => ?_) (fun _ h => ?_)
  · obtain ⟨y4, h5, h9⟩ := op_bind h
    clear h
    cases h9
    have hz := (el_inr hz)
    have h := h5
    refine r_iload_n C0 dX12_things_37 rfl 2 rfl ?_
    cases h
    exact hz _ _ dX12_things_38
  · refine r_iload_n C0 dX12_things_13 rfl 2 rfl ?_
    refine r_aload_n C0 dX12_things_14 rfl 0 rfl ?_
    refine r_iload_n C0 dX12_things_15 rfl 1 rfl ?_
    refine r_iload_n C0 dX12_things_16 rfl 3 rfl ?_
    refine callV2 C0 h (hD _) mw_X12_held rv_m tm_X12_72 (fun y hy => c_X12_held hy) (Nat.le_of_ble_eq_true rfl) (Nat.le_of_ble_eq_true rfl) dX12_things_17 (fun r5 h => ?_)
    refine r_iconst C0 dX12_things_20 ki_2 ?_
    refine r_icmp_lt C0 28 dX12_things_21 rfl h (fun _ h => ?_) (fun _ h => ?_)
    · refine r_iconst C0 dX12_things_28 ki_0 ?_
      exact r_sub [0, 1, 3] rfl (w_X12_things_j29 C0 hD h hz)
    · refine r_iconst C0 dX12_things_24 ki_1 ?_
      refine r_goto C0 29 dX12_things_25 rfl ?_
      exact r_sub [0, 1, 3] rfl (w_X12_things_j29 C0 hD h hz)
theorem w_X12_things_B4_lp {x : Int32 × Int32} {z : (Int32)} {Γ : Gam} {cy : Nat → ClassId} {a : Nat → Nat} {V : VT} {X : va_W} {v1 : Int32}  (C0 : CXg Γ cX12_things 4 2 RX12 cy) (hD : DM Γ cy a X) (h : lp (f_X12_things_B4 v1 V) fuel x = some z) (hz : (fun y : Int32 => FinI Γ cX12_things (WM cy a V X) y) z) : Wp Γ 0 0 4 [(0, .ref (a 0)), (1, .int v1), (2, .int x.1), (3, .int x.2)] [] (WM cy a V X) :=
  lp_rule (hd := (fun x : Int32 × Int32 => Wp Γ 0 0 4 [(0, .ref (a 0)), (1, .int v1), (2, .int x.1), (3, .int x.2)] [] (WM cy a V X))) (C := (fun y : Int32 => FinI Γ cX12_things (WM cy a V X) y)) (fun x z h hz => w_X12_things_B4 C0 hD h hz) _ _ _ h hz
theorem w_X12_things {z : Int32} {Γ : Gam} {cy : Nat → ClassId} {a : Nat → Nat} {V : VT} {X : va_W} {v1 : Int32}  (C0 : CXg Γ cX12_things 4 2 RX12 cy) (hD : DM Γ cy a X) (h : f_X12_things v1 V = some z) (hz : (fun y : Int32 => FinI Γ cX12_things (WM cy a V X) y) z) : Wp Γ 0 0 0 [(0, .ref (a 0)), (1, .int v1)] [] (WM cy a V X) := by
  unfold f_X12_things at h
  refine r_iconst C0 dX12_things_0 ki_0 ?_
  obtain ⟨a1, h8, h⟩ := op_bind h
  have e8 := Option.some.inj h8
  refine r_istore_n (lv2 := [(2, .int a1), (0, .ref (a 0)), (1, .int v1)]) C0 dX12_things_1 rfl e8 (Nat.le_of_ble_eq_true rfl) rfl ?_
  refine r_iconst C0 dX12_things_2 ki_0 ?_
  obtain ⟨a2, h8, h⟩ := op_bind h
  have e8 := Option.some.inj h8
  refine r_istore_n (lv2 := [(3, .int a2), (2, .int a1), (0, .ref (a 0)), (1, .int v1)]) C0 dX12_things_3 rfl e8 (Nat.le_of_ble_eq_true rfl) rfl ?_
  exact r_sub [2, 3, 1, 0] rfl (w_X12_things_B4_lp C0 hD h hz)
theorem c_X12_things {l : Launch} {D : va_G} {cy : Nat → ClassId} {a : Nat → Nat} {V : VT} {X : va_W} {v1 : Int32} {y : Int32} (h : f_X12_things v1 V = some y) : CT l D cy yX12_things cX12_things 4 (some .int) 2 [.ref (a 0), .int v1] (WM cy a V X) (WM cy a V X) (some (.int y)) :=
  mkI (by decide) (Nat.le_of_ble_eq_true rfl) (fun Γ _ _ C0 hD hF => w_X12_things C0 (dm_of hD) h hF)
theorem dX12_lines_0 : decode cX12_lines 0 = .ok (.iconst 0, 1) := by decide +kernel
theorem dX12_lines_1 : decode cX12_lines 1 = .ok (.istore_n 2, 1) := by decide +kernel
theorem dX12_lines_2 : decode cX12_lines 2 = .ok (.iconst 0, 1) := by decide +kernel
theorem dX12_lines_3 : decode cX12_lines 3 = .ok (.istore_n 3, 1) := by decide +kernel
theorem dX12_lines_4 : decode cX12_lines 4 = .ok (.iload_n 3, 1) := by decide +kernel
theorem dX12_lines_5 : decode cX12_lines 5 = .ok (.aload_n 0, 1) := by decide +kernel
theorem dX12_lines_6 : decode cX12_lines 6 = .ok (.getfield 7, 3) := by decide +kernel
theorem dX12_lines_9 : decode cX12_lines 9 = .ok (.sipush 1640, 3) := by decide +kernel
theorem dX12_lines_12 : decode cX12_lines 12 = .ok (.iaload, 1) := by decide +kernel
theorem dX12_lines_13 : decode cX12_lines 13 = .ok (.if_icmp .ge 26, 3) := by decide +kernel
theorem dX12_lines_16 : decode cX12_lines 16 = .ok (.iload_n 2, 1) := by decide +kernel
theorem dX12_lines_17 : decode cX12_lines 17 = .ok (.aload_n 0, 1) := by decide +kernel
theorem dX12_lines_18 : decode cX12_lines 18 = .ok (.iload_n 3, 1) := by decide +kernel
theorem dX12_lines_19 : decode cX12_lines 19 = .ok (.iload_n 1, 1) := by decide +kernel
theorem dX12_lines_20 : decode cX12_lines 20 = .ok (.invokevirtual 89, 3) := by decide +kernel
theorem dX12_lines_23 : decode cX12_lines 23 = .ok (.ifCond .eq 7, 3) := by decide +kernel
theorem dX12_lines_26 : decode cX12_lines 26 = .ok (.iconst 1, 1) := by decide +kernel
theorem dX12_lines_27 : decode cX12_lines 27 = .ok (.goto 4, 3) := by decide +kernel
theorem dX12_lines_30 : decode cX12_lines 30 = .ok (.iconst 0, 1) := by decide +kernel
theorem dX12_lines_31 : decode cX12_lines 31 = .ok (.iadd, 1) := by decide +kernel
theorem dX12_lines_32 : decode cX12_lines 32 = .ok (.istore_n 2, 1) := by decide +kernel
theorem dX12_lines_33 : decode cX12_lines 33 = .ok (.iinc 3 1, 3) := by decide +kernel
theorem dX12_lines_36 : decode cX12_lines 36 = .ok (.goto (-32), 3) := by decide +kernel
theorem dX12_lines_39 : decode cX12_lines 39 = .ok (.iload_n 2, 1) := by decide +kernel
theorem dX12_lines_40 : decode cX12_lines 40 = .ok (.ireturn, 1) := by decide +kernel
theorem w_X12_lines_j31 {z : ((Int32 × Int32) ⊕ (Int32))} {Γ : Gam} {cy : Nat → ClassId} {a : Nat → Nat} {V : VT} {X : va_W} {v1 : Int32} {v3 : Int32} {s0 : Int32} {s1 : Int32}  (C0 : CXg Γ cX12_lines 4 3 RX12 cy) (hD : DM Γ cy a X) (h : f_X12_lines_j31 v1 v3 s0 s1 V = some z) (hz : (Sum.elim (fun x : Int32 × Int32 => Wp Γ 0 0 4 [(0, .ref (a 0)), (1, .int v1), (2, .int x.1), (3, .int x.2)] [] (WM cy a V X)) (fun y : Int32 => FinI Γ cX12_lines (WM cy a V X) y)) z) : Wp Γ 0 0 31 [(0, .ref (a 0)), (1, .int v1), (3, .int v3)] [.int s1, .int s0] (WM cy a V X) := by
  unfold f_X12_lines_j31 at h
  refine r_iadd C0 dX12_lines_31 ?_
  obtain ⟨a6, h8, h⟩ := op_bind h
  have e8 := Option.some.inj h8
  refine r_istore_n (lv2 := [(2, .int a6), (0, .ref (a 0)), (1, .int v1), (3, .int v3)]) C0 dX12_lines_32 rfl e8 (Nat.le_of_ble_eq_true rfl) rfl ?_
  obtain ⟨a7, h8, h⟩ := op_bind h
  have e8 := Option.some.inj h8
  refine r_iinc (lv2 := [(3, .int a7), (2, .int a6), (0, .ref (a 0)), (1, .int v1)]) C0 dX12_lines_33 3 rfl ki_1 e8 (Nat.le_of_ble_eq_true rfl) rfl ?_
  refine r_goto C0 4 dX12_lines_36 rfl ?_
  cases h
  have hz := el_inl hz
  exact r_sub [2, 3, 1, 0] rfl hz
theorem w_X12_lines_B4 {x : Int32 × Int32} {z : ((Int32 × Int32) ⊕ (Int32))} {Γ : Gam} {cy : Nat → ClassId} {a : Nat → Nat} {V : VT} {X : va_W} {v1 : Int32}  (C0 : CXg Γ cX12_lines 4 3 RX12 cy) (hD : DM Γ cy a X) (h : f_X12_lines_B4 v1 V x = some z) (hz : (Sum.elim (fun x : Int32 × Int32 => Wp Γ 0 0 4 [(0, .ref (a 0)), (1, .int v1), (2, .int x.1), (3, .int x.2)] [] (WM cy a V X)) (fun y : Int32 => FinI Γ cX12_lines (WM cy a V X) y)) z) : Wp Γ 0 0 4 [(0, .ref (a 0)), (1, .int v1), (2, .int x.1), (3, .int x.2)] [] (WM cy a V X) := by
  unfold f_X12_lines_B4 at h
  refine r_iload_n C0 dX12_lines_4 rfl 3 rfl ?_
  refine r_aload_n C0 dX12_lines_5 rfl 0 rfl ?_
  refine wmg_0_0 C0 tf_X12_7 dX12_lines_6 ?_
  refine r_sipush C0 dX12_lines_9 ks_1640 ?_
  refine wmal_1 C0 h dX12_lines_12 (fun k3 h => ?_)
  refine r_icmp_ge C0 39 dX12_lines_13 rfl h (fun _ h => ?_) (fun _ h => ?_)
  · obtain ⟨y4, h5, h9⟩ := op_bind h
    clear h
    cases h9
    have hz := (el_inr hz)
    have h := h5
    refine r_iload_n C0 dX12_lines_39 rfl 2 rfl ?_
    cases h
    exact hz _ _ dX12_lines_40
  · refine r_iload_n C0 dX12_lines_16 rfl 2 rfl ?_
    refine r_aload_n C0 dX12_lines_17 rfl 0 rfl ?_
    refine r_iload_n C0 dX12_lines_18 rfl 3 rfl ?_
    refine r_iload_n C0 dX12_lines_19 rfl 1 rfl ?_
    refine callV2 C0 h (hD _) mw_X12_holds rv_m tm_X12_89 (fun y hy => c_X12_holds hy) (Nat.le_of_ble_eq_true rfl) (Nat.le_of_ble_eq_true rfl) dX12_lines_20 (fun r5 h => ?_)
    refine r_if_eq C0 30 dX12_lines_23 rfl h (fun _ h => ?_) (fun _ h => ?_)
    · refine r_iconst C0 dX12_lines_30 ki_0 ?_
      exact r_sub [0, 1, 3] rfl (w_X12_lines_j31 C0 hD h hz)
    · refine r_iconst C0 dX12_lines_26 ki_1 ?_
      refine r_goto C0 31 dX12_lines_27 rfl ?_
      exact r_sub [0, 1, 3] rfl (w_X12_lines_j31 C0 hD h hz)
theorem w_X12_lines_B4_lp {x : Int32 × Int32} {z : (Int32)} {Γ : Gam} {cy : Nat → ClassId} {a : Nat → Nat} {V : VT} {X : va_W} {v1 : Int32}  (C0 : CXg Γ cX12_lines 4 3 RX12 cy) (hD : DM Γ cy a X) (h : lp (f_X12_lines_B4 v1 V) fuel x = some z) (hz : (fun y : Int32 => FinI Γ cX12_lines (WM cy a V X) y) z) : Wp Γ 0 0 4 [(0, .ref (a 0)), (1, .int v1), (2, .int x.1), (3, .int x.2)] [] (WM cy a V X) :=
  lp_rule (hd := (fun x : Int32 × Int32 => Wp Γ 0 0 4 [(0, .ref (a 0)), (1, .int v1), (2, .int x.1), (3, .int x.2)] [] (WM cy a V X))) (C := (fun y : Int32 => FinI Γ cX12_lines (WM cy a V X) y)) (fun x z h hz => w_X12_lines_B4 C0 hD h hz) _ _ _ h hz
theorem w_X12_lines {z : Int32} {Γ : Gam} {cy : Nat → ClassId} {a : Nat → Nat} {V : VT} {X : va_W} {v1 : Int32}  (C0 : CXg Γ cX12_lines 4 3 RX12 cy) (hD : DM Γ cy a X) (h : f_X12_lines v1 V = some z) (hz : (fun y : Int32 => FinI Γ cX12_lines (WM cy a V X) y) z) : Wp Γ 0 0 0 [(0, .ref (a 0)), (1, .int v1)] [] (WM cy a V X) := by
  unfold f_X12_lines at h
  refine r_iconst C0 dX12_lines_0 ki_0 ?_
  obtain ⟨a1, h8, h⟩ := op_bind h
  have e8 := Option.some.inj h8
  refine r_istore_n (lv2 := [(2, .int a1), (0, .ref (a 0)), (1, .int v1)]) C0 dX12_lines_1 rfl e8 (Nat.le_of_ble_eq_true rfl) rfl ?_
  refine r_iconst C0 dX12_lines_2 ki_0 ?_
  obtain ⟨a2, h8, h⟩ := op_bind h
  have e8 := Option.some.inj h8
  refine r_istore_n (lv2 := [(3, .int a2), (2, .int a1), (0, .ref (a 0)), (1, .int v1)]) C0 dX12_lines_3 rfl e8 (Nat.le_of_ble_eq_true rfl) rfl ?_
  exact r_sub [2, 3, 1, 0] rfl (w_X12_lines_B4_lp C0 hD h hz)
theorem c_X12_lines {l : Launch} {D : va_G} {cy : Nat → ClassId} {a : Nat → Nat} {V : VT} {X : va_W} {v1 : Int32} {y : Int32} (h : f_X12_lines v1 V = some y) : CT l D cy yX12_lines cX12_lines 4 (some .int) 3 [.ref (a 0), .int v1] (WM cy a V X) (WM cy a V X) (some (.int y)) :=
  mkI (by decide) (Nat.le_of_ble_eq_true rfl) (fun Γ _ _ C0 hD hF => w_X12_lines C0 (dm_of hD) h hF)
theorem dX12_nearest_0 : decode cX12_nearest 0 = .ok (.iload_n 2, 1) := by decide +kernel
theorem dX12_nearest_1 : decode cX12_nearest 1 = .ok (.istore 4, 2) := by decide +kernel
theorem dX12_nearest_3 : decode cX12_nearest 3 = .ok (.iload 4, 2) := by decide +kernel
theorem dX12_nearest_5 : decode cX12_nearest 5 = .ok (.ifCond .lt 66, 3) := by decide +kernel
theorem dX12_nearest_8 : decode cX12_nearest 8 = .ok (.iload 4, 2) := by decide +kernel
theorem dX12_nearest_10 : decode cX12_nearest 10 = .ok (.bipush 16, 2) := by decide +kernel
theorem dX12_nearest_12 : decode cX12_nearest 12 = .ok (.if_icmp .ge 59, 3) := by decide +kernel
theorem dX12_nearest_15 : decode cX12_nearest 15 = .ok (.iconst 0, 1) := by decide +kernel
theorem dX12_nearest_16 : decode cX12_nearest 16 = .ok (.istore 5, 2) := by decide +kernel
theorem dX12_nearest_18 : decode cX12_nearest 18 = .ok (.iload 5, 2) := by decide +kernel
theorem dX12_nearest_20 : decode cX12_nearest 20 = .ok (.aload_n 0, 1) := by decide +kernel
theorem dX12_nearest_21 : decode cX12_nearest 21 = .ok (.getfield 7, 3) := by decide +kernel
theorem dX12_nearest_24 : decode cX12_nearest 24 = .ok (.sipush 1640, 3) := by decide +kernel
theorem dX12_nearest_27 : decode cX12_nearest 27 = .ok (.iaload, 1) := by decide +kernel
theorem dX12_nearest_28 : decode cX12_nearest 28 = .ok (.if_icmp .ge 34, 3) := by decide +kernel
theorem dX12_nearest_31 : decode cX12_nearest 31 = .ok (.aload_n 0, 1) := by decide +kernel
theorem dX12_nearest_32 : decode cX12_nearest 32 = .ok (.iload 5, 2) := by decide +kernel
theorem dX12_nearest_34 : decode cX12_nearest 34 = .ok (.iload_n 1, 1) := by decide +kernel
theorem dX12_nearest_35 : decode cX12_nearest 35 = .ok (.invokevirtual 89, 3) := by decide +kernel
theorem dX12_nearest_38 : decode cX12_nearest 38 = .ok (.ifCond .eq 18, 3) := by decide +kernel
theorem dX12_nearest_41 : decode cX12_nearest 41 = .ok (.aload_n 0, 1) := by decide +kernel
theorem dX12_nearest_42 : decode cX12_nearest 42 = .ok (.iload 5, 2) := by decide +kernel
theorem dX12_nearest_44 : decode cX12_nearest 44 = .ok (.iconst 1, 1) := by decide +kernel
theorem dX12_nearest_45 : decode cX12_nearest 45 = .ok (.invokevirtual 58, 3) := by decide +kernel
theorem dX12_nearest_48 : decode cX12_nearest 48 = .ok (.iload 4, 2) := by decide +kernel
theorem dX12_nearest_50 : decode cX12_nearest 50 = .ok (.if_icmp .ne 6, 3) := by decide +kernel
theorem dX12_nearest_53 : decode cX12_nearest 53 = .ok (.iload 4, 2) := by decide +kernel
theorem dX12_nearest_55 : decode cX12_nearest 55 = .ok (.ireturn, 1) := by decide +kernel
theorem dX12_nearest_56 : decode cX12_nearest 56 = .ok (.iinc 5 1, 3) := by decide +kernel
theorem dX12_nearest_59 : decode cX12_nearest 59 = .ok (.goto (-41), 3) := by decide +kernel
theorem dX12_nearest_62 : decode cX12_nearest 62 = .ok (.iload 4, 2) := by decide +kernel
theorem dX12_nearest_64 : decode cX12_nearest 64 = .ok (.iload_n 3, 1) := by decide +kernel
theorem dX12_nearest_65 : decode cX12_nearest 65 = .ok (.iadd, 1) := by decide +kernel
theorem dX12_nearest_66 : decode cX12_nearest 66 = .ok (.istore 4, 2) := by decide +kernel
theorem dX12_nearest_68 : decode cX12_nearest 68 = .ok (.goto (-65), 3) := by decide +kernel
theorem dX12_nearest_71 : decode cX12_nearest 71 = .ok (.iconst (-1), 1) := by decide +kernel
theorem dX12_nearest_72 : decode cX12_nearest 72 = .ok (.ireturn, 1) := by decide +kernel
theorem w_X12_nearest_j56 {z : ((Int32) ⊕ ((Int32) ⊕ (Int32)))} {Γ : Gam} {cy : Nat → ClassId} {a : Nat → Nat} {V : VT} {X : va_W} {v1 : Int32} {v3 : Int32} {v4 : Int32} {v5 : Int32}  (C0 : CXg Γ cX12_nearest 6 3 RX12 cy) (hD : DM Γ cy a X) (h : f_X12_nearest_j56 v1 v3 v4 v5 V = some z) (hz : (Sum.elim (fun x : Int32 => Wp Γ 0 0 18 [(0, .ref (a 0)), (1, .int v1), (3, .int v3), (4, .int v4), (5, .int x)] [] (WM cy a V X)) (Sum.elim (fun x : Int32 => Wp Γ 0 0 3 [(0, .ref (a 0)), (1, .int v1), (3, .int v3), (4, .int x)] [] (WM cy a V X)) (fun y : Int32 => FinI Γ cX12_nearest (WM cy a V X) y))) z) : Wp Γ 0 0 56 [(0, .ref (a 0)), (1, .int v1), (3, .int v3), (4, .int v4), (5, .int v5)] [] (WM cy a V X) := by
  unfold f_X12_nearest_j56 at h
  obtain ⟨a8, h8, h⟩ := op_bind h
  have e8 := Option.some.inj h8
  refine r_iinc (lv2 := [(5, .int a8), (0, .ref (a 0)), (1, .int v1), (3, .int v3), (4, .int v4)]) C0 dX12_nearest_56 4 rfl ki_1 e8 (Nat.le_of_ble_eq_true rfl) rfl ?_
  refine r_goto C0 18 dX12_nearest_59 rfl ?_
  cases h
  have hz := el_inl hz
  exact r_sub [1, 2, 3, 4, 0] rfl hz
theorem w_X12_nearest_B18 {x : Int32} {z : ((Int32) ⊕ ((Int32) ⊕ (Int32)))} {Γ : Gam} {cy : Nat → ClassId} {a : Nat → Nat} {V : VT} {X : va_W} {v1 : Int32} {v3 : Int32} {v4 : Int32}  (C0 : CXg Γ cX12_nearest 6 3 RX12 cy) (hD : DM Γ cy a X) (h : f_X12_nearest_B18 v1 v3 v4 V x = some z) (hz : (Sum.elim (fun x : Int32 => Wp Γ 0 0 18 [(0, .ref (a 0)), (1, .int v1), (3, .int v3), (4, .int v4), (5, .int x)] [] (WM cy a V X)) (Sum.elim (fun x : Int32 => Wp Γ 0 0 3 [(0, .ref (a 0)), (1, .int v1), (3, .int v3), (4, .int x)] [] (WM cy a V X)) (fun y : Int32 => FinI Γ cX12_nearest (WM cy a V X) y))) z) : Wp Γ 0 0 18 [(0, .ref (a 0)), (1, .int v1), (3, .int v3), (4, .int v4), (5, .int x)] [] (WM cy a V X) := by
  unfold f_X12_nearest_B18 at h
  refine r_iload C0 dX12_nearest_18 4 rfl ?_
  refine r_aload_n C0 dX12_nearest_20 rfl 0 rfl ?_
  refine wmg_0_0 C0 tf_X12_7 dX12_nearest_21 ?_
  refine r_sipush C0 dX12_nearest_24 ks_1640 ?_
  refine wmal_1 C0 h dX12_nearest_27 (fun k4 h => ?_)
  refine r_icmp_ge C0 62 dX12_nearest_28 rfl h (fun _ h => ?_) (fun _ h => ?_)
  · obtain ⟨y5, h5, h9⟩ := op_bind h
    clear h
    cases h9
    have hz := (el_inr hz)
    have h := h5
    refine r_iload C0 dX12_nearest_62 3 rfl ?_
    refine r_iload_n C0 dX12_nearest_64 rfl 2 rfl ?_
    refine r_iadd C0 dX12_nearest_65 ?_
    obtain ⟨a6, h8, h⟩ := op_bind h
    have e8 := Option.some.inj h8
    refine r_istore (lv2 := [(4, .int a6), (0, .ref (a 0)), (1, .int v1), (3, .int v3), (5, .int x)]) C0 dX12_nearest_66 e8 (Nat.le_of_ble_eq_true rfl) rfl ?_
    refine r_goto C0 3 dX12_nearest_68 rfl ?_
    cases h
    have hz := el_inl hz
    exact r_sub [1, 2, 3, 0] rfl hz
  · refine r_aload_n C0 dX12_nearest_31 rfl 0 rfl ?_
    refine r_iload C0 dX12_nearest_32 4 rfl ?_
    refine r_iload_n C0 dX12_nearest_34 rfl 1 rfl ?_
    refine callV2 C0 h (hD _) mw_X12_holds rv_m tm_X12_89 (fun y hy => c_X12_holds hy) (Nat.le_of_ble_eq_true rfl) (Nat.le_of_ble_eq_true rfl) dX12_nearest_35 (fun r7 h => ?_)
    refine r_if_eq C0 56 dX12_nearest_38 rfl h (fun _ h => ?_) (fun _ h => ?_)
    · exact r_sub [0, 1, 2, 3, 4] rfl (w_X12_nearest_j56 C0 hD h hz)
    · refine r_aload_n C0 dX12_nearest_41 rfl 0 rfl ?_
      refine r_iload C0 dX12_nearest_42 4 rfl ?_
      refine r_iconst C0 dX12_nearest_44 ki_1 ?_
      refine callV2 C0 h (hD _) mw_X12_lineIs rv_m tm_X12_58 (fun y hy => c_X12_lineIs hy) (Nat.le_of_ble_eq_true rfl) (Nat.le_of_ble_eq_true rfl) dX12_nearest_45 (fun r9 h => ?_)
      refine r_iload C0 dX12_nearest_48 3 rfl ?_
      refine r_icmp_ne C0 56 dX12_nearest_50 rfl h (fun _ h => ?_) (fun _ h => ?_)
      · exact r_sub [0, 1, 2, 3, 4] rfl (w_X12_nearest_j56 C0 hD h hz)
      · obtain ⟨y10, h5, h9⟩ := op_bind h
        clear h
        cases h9
        have hz := (el_inr (el_inr hz))
        have h := h5
        refine r_iload C0 dX12_nearest_53 3 rfl ?_
        cases h
        exact hz _ _ dX12_nearest_55
theorem w_X12_nearest_B18_lp {x : Int32} {z : ((Int32) ⊕ (Int32))} {Γ : Gam} {cy : Nat → ClassId} {a : Nat → Nat} {V : VT} {X : va_W} {v1 : Int32} {v3 : Int32} {v4 : Int32}  (C0 : CXg Γ cX12_nearest 6 3 RX12 cy) (hD : DM Γ cy a X) (h : lp (f_X12_nearest_B18 v1 v3 v4 V) fuel x = some z) (hz : (Sum.elim (fun x : Int32 => Wp Γ 0 0 3 [(0, .ref (a 0)), (1, .int v1), (3, .int v3), (4, .int x)] [] (WM cy a V X)) (fun y : Int32 => FinI Γ cX12_nearest (WM cy a V X) y)) z) : Wp Γ 0 0 18 [(0, .ref (a 0)), (1, .int v1), (3, .int v3), (4, .int v4), (5, .int x)] [] (WM cy a V X) :=
  lp_rule (hd := (fun x : Int32 => Wp Γ 0 0 18 [(0, .ref (a 0)), (1, .int v1), (3, .int v3), (4, .int v4), (5, .int x)] [] (WM cy a V X))) (C := (Sum.elim (fun x : Int32 => Wp Γ 0 0 3 [(0, .ref (a 0)), (1, .int v1), (3, .int v3), (4, .int x)] [] (WM cy a V X)) (fun y : Int32 => FinI Γ cX12_nearest (WM cy a V X) y))) (fun x z h hz => w_X12_nearest_B18 C0 hD h hz) _ _ _ h hz
theorem w_X12_nearest_B3 {x : Int32} {z : ((Int32) ⊕ (Int32))} {Γ : Gam} {cy : Nat → ClassId} {a : Nat → Nat} {V : VT} {X : va_W} {v1 : Int32} {v3 : Int32}  (C0 : CXg Γ cX12_nearest 6 3 RX12 cy) (hD : DM Γ cy a X) (h : f_X12_nearest_B3 v1 v3 V x = some z) (hz : (Sum.elim (fun x : Int32 => Wp Γ 0 0 3 [(0, .ref (a 0)), (1, .int v1), (3, .int v3), (4, .int x)] [] (WM cy a V X)) (fun y : Int32 => FinI Γ cX12_nearest (WM cy a V X) y)) z) : Wp Γ 0 0 3 [(0, .ref (a 0)), (1, .int v1), (3, .int v3), (4, .int x)] [] (WM cy a V X) := by
  unfold f_X12_nearest_B3 at h
  refine r_iload C0 dX12_nearest_3 3 rfl ?_
  refine r_if_lt C0 71 dX12_nearest_5 rfl h (fun _ h => ?_) (fun _ h => ?_)
  · obtain ⟨y1, h5, h9⟩ := op_bind h
    clear h
    cases h9
    have hz := (el_inr hz)
    have h := h5
    refine r_iconst C0 dX12_nearest_71 ki_m1 ?_
    cases h
    exact hz _ _ dX12_nearest_72
  · refine r_iload C0 dX12_nearest_8 3 rfl ?_
    refine r_bipush C0 dX12_nearest_10 kb_16 ?_
    refine r_icmp_ge C0 71 dX12_nearest_12 rfl h (fun _ h => ?_) (fun _ h => ?_)
    · obtain ⟨y2, h5, h9⟩ := op_bind h
      clear h
      cases h9
      have hz := (el_inr hz)
      have h := h5
      refine r_iconst C0 dX12_nearest_71 ki_m1 ?_
      cases h
      exact hz _ _ dX12_nearest_72
    · refine r_iconst C0 dX12_nearest_15 ki_0 ?_
      obtain ⟨a3, h8, h⟩ := op_bind h
      have e8 := Option.some.inj h8
      refine r_istore (lv2 := [(5, .int a3), (0, .ref (a 0)), (1, .int v1), (3, .int v3), (4, .int x)]) C0 dX12_nearest_16 e8 (Nat.le_of_ble_eq_true rfl) rfl ?_
      exact r_sub [1, 2, 3, 4, 0] rfl (w_X12_nearest_B18_lp C0 hD h hz)
theorem w_X12_nearest_B3_lp {x : Int32} {z : (Int32)} {Γ : Gam} {cy : Nat → ClassId} {a : Nat → Nat} {V : VT} {X : va_W} {v1 : Int32} {v3 : Int32}  (C0 : CXg Γ cX12_nearest 6 3 RX12 cy) (hD : DM Γ cy a X) (h : lp (f_X12_nearest_B3 v1 v3 V) fuel x = some z) (hz : (fun y : Int32 => FinI Γ cX12_nearest (WM cy a V X) y) z) : Wp Γ 0 0 3 [(0, .ref (a 0)), (1, .int v1), (3, .int v3), (4, .int x)] [] (WM cy a V X) :=
  lp_rule (hd := (fun x : Int32 => Wp Γ 0 0 3 [(0, .ref (a 0)), (1, .int v1), (3, .int v3), (4, .int x)] [] (WM cy a V X))) (C := (fun y : Int32 => FinI Γ cX12_nearest (WM cy a V X) y)) (fun x z h hz => w_X12_nearest_B3 C0 hD h hz) _ _ _ h hz
theorem w_X12_nearest {z : Int32} {Γ : Gam} {cy : Nat → ClassId} {a : Nat → Nat} {V : VT} {X : va_W} {v1 : Int32} {v2 : Int32} {v3 : Int32}  (C0 : CXg Γ cX12_nearest 6 3 RX12 cy) (hD : DM Γ cy a X) (h : f_X12_nearest v1 v2 v3 V = some z) (hz : (fun y : Int32 => FinI Γ cX12_nearest (WM cy a V X) y) z) : Wp Γ 0 0 0 [(0, .ref (a 0)), (1, .int v1), (2, .int v2), (3, .int v3)] [] (WM cy a V X) := by
  unfold f_X12_nearest at h
  refine r_iload_n C0 dX12_nearest_0 rfl 2 rfl ?_
  refine r_istore (lv2 := [(4, .int v2), (0, .ref (a 0)), (1, .int v1), (2, .int v2), (3, .int v3)]) C0 dX12_nearest_1 rfl (Nat.le_of_ble_eq_true rfl) rfl ?_
  exact r_sub [1, 2, 4, 0] rfl (w_X12_nearest_B3_lp C0 hD h hz)
theorem c_X12_nearest {l : Launch} {D : va_G} {cy : Nat → ClassId} {a : Nat → Nat} {V : VT} {X : va_W} {v1 : Int32} {v2 : Int32} {v3 : Int32} {y : Int32} (h : f_X12_nearest v1 v2 v3 V = some y) : CT l D cy yX12_nearest cX12_nearest 6 (some .int) 3 [.ref (a 0), .int v1, .int v2, .int v3] (WM cy a V X) (WM cy a V X) (some (.int y)) :=
  mkI (by decide) (Nat.le_of_ble_eq_true rfl) (fun Γ _ _ C0 hD hF => w_X12_nearest C0 (dm_of hD) h hF)
theorem dX12_shareOf_0 : decode cX12_shareOf 0 = .ok (.aload_n 0, 1) := by decide +kernel
theorem dX12_shareOf_1 : decode cX12_shareOf 1 = .ok (.iload_n 1, 1) := by decide +kernel
theorem dX12_shareOf_2 : decode cX12_shareOf 2 = .ok (.iconst 0, 1) := by decide +kernel
theorem dX12_shareOf_3 : decode cX12_shareOf 3 = .ok (.invokevirtual 58, 3) := by decide +kernel
theorem dX12_shareOf_6 : decode cX12_shareOf 6 = .ok (.istore_n 2, 1) := by decide +kernel
theorem dX12_shareOf_7 : decode cX12_shareOf 7 = .ok (.aload_n 0, 1) := by decide +kernel
theorem dX12_shareOf_8 : decode cX12_shareOf 8 = .ok (.iload_n 1, 1) := by decide +kernel
theorem dX12_shareOf_9 : decode cX12_shareOf 9 = .ok (.iconst 1, 1) := by decide +kernel
theorem dX12_shareOf_10 : decode cX12_shareOf 10 = .ok (.invokevirtual 58, 3) := by decide +kernel
theorem dX12_shareOf_13 : decode cX12_shareOf 13 = .ok (.istore_n 3, 1) := by decide +kernel
theorem dX12_shareOf_14 : decode cX12_shareOf 14 = .ok (.lconst 0, 1) := by decide +kernel
theorem dX12_shareOf_15 : decode cX12_shareOf 15 = .ok (.lstore 4, 2) := by decide +kernel
theorem dX12_shareOf_17 : decode cX12_shareOf 17 = .ok (.iconst 0, 1) := by decide +kernel
theorem dX12_shareOf_18 : decode cX12_shareOf 18 = .ok (.istore 6, 2) := by decide +kernel
theorem dX12_shareOf_20 : decode cX12_shareOf 20 = .ok (.iload 6, 2) := by decide +kernel
theorem dX12_shareOf_22 : decode cX12_shareOf 22 = .ok (.aload_n 0, 1) := by decide +kernel
theorem dX12_shareOf_23 : decode cX12_shareOf 23 = .ok (.iload_n 2, 1) := by decide +kernel
theorem dX12_shareOf_24 : decode cX12_shareOf 24 = .ok (.invokevirtual 55, 3) := by decide +kernel
theorem dX12_shareOf_27 : decode cX12_shareOf 27 = .ok (.if_icmp .ge 165, 3) := by decide +kernel
theorem dX12_shareOf_30 : decode cX12_shareOf 30 = .ok (.aload_n 0, 1) := by decide +kernel
theorem dX12_shareOf_31 : decode cX12_shareOf 31 = .ok (.iload_n 2, 1) := by decide +kernel
theorem dX12_shareOf_32 : decode cX12_shareOf 32 = .ok (.iload 6, 2) := by decide +kernel
theorem dX12_shareOf_34 : decode cX12_shareOf 34 = .ok (.invokevirtual 72, 3) := by decide +kernel
theorem dX12_shareOf_37 : decode cX12_shareOf 37 = .ok (.iconst 2, 1) := by decide +kernel
theorem dX12_shareOf_38 : decode cX12_shareOf 38 = .ok (.if_icmp .ge 6, 3) := by decide +kernel
theorem dX12_shareOf_41 : decode cX12_shareOf 41 = .ok (.goto 145, 3) := by decide +kernel
theorem dX12_shareOf_44 : decode cX12_shareOf 44 = .ok (.ldc2_w 93, 3) := by decide +kernel
theorem dX12_shareOf_47 : decode cX12_shareOf 47 = .ok (.aload_n 0, 1) := by decide +kernel
theorem dX12_shareOf_48 : decode cX12_shareOf 48 = .ok (.aload_n 0, 1) := by decide +kernel
theorem dX12_shareOf_49 : decode cX12_shareOf 49 = .ok (.iload_n 2, 1) := by decide +kernel
theorem dX12_shareOf_50 : decode cX12_shareOf 50 = .ok (.iload 6, 2) := by decide +kernel
theorem dX12_shareOf_52 : decode cX12_shareOf 52 = .ok (.invokevirtual 72, 3) := by decide +kernel
theorem dX12_shareOf_55 : decode cX12_shareOf 55 = .ok (.iconst 2, 1) := by decide +kernel
theorem dX12_shareOf_56 : decode cX12_shareOf 56 = .ok (.isub, 1) := by decide +kernel
theorem dX12_shareOf_57 : decode cX12_shareOf 57 = .ok (.invokevirtual 95, 3) := by decide +kernel
theorem dX12_shareOf_60 : decode cX12_shareOf 60 = .ok (.i2l, 1) := by decide +kernel
theorem dX12_shareOf_61 : decode cX12_shareOf 61 = .ok (.lmul, 1) := by decide +kernel
theorem dX12_shareOf_62 : decode cX12_shareOf 62 = .ok (.lstore 7, 2) := by decide +kernel
theorem dX12_shareOf_64 : decode cX12_shareOf 64 = .ok (.aload_n 0, 1) := by decide +kernel
theorem dX12_shareOf_65 : decode cX12_shareOf 65 = .ok (.iload_n 2, 1) := by decide +kernel
theorem dX12_shareOf_66 : decode cX12_shareOf 66 = .ok (.iload 6, 2) := by decide +kernel
theorem dX12_shareOf_68 : decode cX12_shareOf 68 = .ok (.iconst (-1), 1) := by decide +kernel
theorem dX12_shareOf_69 : decode cX12_shareOf 69 = .ok (.invokevirtual 98, 3) := by decide +kernel
theorem dX12_shareOf_72 : decode cX12_shareOf 72 = .ok (.istore 9, 2) := by decide +kernel
theorem dX12_shareOf_74 : decode cX12_shareOf 74 = .ok (.aload_n 0, 1) := by decide +kernel
theorem dX12_shareOf_75 : decode cX12_shareOf 75 = .ok (.iload_n 2, 1) := by decide +kernel
theorem dX12_shareOf_76 : decode cX12_shareOf 76 = .ok (.iload 6, 2) := by decide +kernel
theorem dX12_shareOf_78 : decode cX12_shareOf 78 = .ok (.iconst 1, 1) := by decide +kernel
theorem dX12_shareOf_79 : decode cX12_shareOf 79 = .ok (.invokevirtual 98, 3) := by decide +kernel
theorem dX12_shareOf_82 : decode cX12_shareOf 82 = .ok (.istore 10, 2) := by decide +kernel
theorem dX12_shareOf_84 : decode cX12_shareOf 84 = .ok (.iload 9, 2) := by decide +kernel
theorem dX12_shareOf_86 : decode cX12_shareOf 86 = .ok (.ifCond .ge 7, 3) := by decide +kernel
theorem dX12_shareOf_89 : decode cX12_shareOf 89 = .ok (.iload 10, 2) := by decide +kernel
theorem dX12_shareOf_91 : decode cX12_shareOf 91 = .ok (.istore 9, 2) := by decide +kernel
theorem dX12_shareOf_93 : decode cX12_shareOf 93 = .ok (.iload 10, 2) := by decide +kernel
theorem dX12_shareOf_95 : decode cX12_shareOf 95 = .ok (.ifCond .ge 7, 3) := by decide +kernel
theorem dX12_shareOf_98 : decode cX12_shareOf 98 = .ok (.iload 9, 2) := by decide +kernel
theorem dX12_shareOf_100 : decode cX12_shareOf 100 = .ok (.istore 10, 2) := by decide +kernel
theorem dX12_shareOf_102 : decode cX12_shareOf 102 = .ok (.iload 9, 2) := by decide +kernel
theorem dX12_shareOf_104 : decode cX12_shareOf 104 = .ok (.iload 10, 2) := by decide +kernel
theorem dX12_shareOf_106 : decode cX12_shareOf 106 = .ok (.if_icmp .ne 23, 3) := by decide +kernel
theorem dX12_shareOf_109 : decode cX12_shareOf 109 = .ok (.lload 4, 2) := by decide +kernel
theorem dX12_shareOf_111 : decode cX12_shareOf 111 = .ok (.iload_n 3, 1) := by decide +kernel
theorem dX12_shareOf_112 : decode cX12_shareOf 112 = .ok (.iload 9, 2) := by decide +kernel
theorem dX12_shareOf_114 : decode cX12_shareOf 114 = .ok (.if_icmp .ne 8, 3) := by decide +kernel
theorem dX12_shareOf_117 : decode cX12_shareOf 117 = .ok (.lload 7, 2) := by decide +kernel
theorem dX12_shareOf_119 : decode cX12_shareOf 119 = .ok (.goto 4, 3) := by decide +kernel
theorem dX12_shareOf_122 : decode cX12_shareOf 122 = .ok (.lconst 0, 1) := by decide +kernel
theorem dX12_shareOf_123 : decode cX12_shareOf 123 = .ok (.ladd, 1) := by decide +kernel
theorem dX12_shareOf_124 : decode cX12_shareOf 124 = .ok (.lstore 4, 2) := by decide +kernel
theorem dX12_shareOf_126 : decode cX12_shareOf 126 = .ok (.goto 60, 3) := by decide +kernel
theorem dX12_shareOf_129 : decode cX12_shareOf 129 = .ok (.iload_n 3, 1) := by decide +kernel
theorem dX12_shareOf_130 : decode cX12_shareOf 130 = .ok (.iload 9, 2) := by decide +kernel
theorem dX12_shareOf_132 : decode cX12_shareOf 132 = .ok (.if_icmp .ne 27, 3) := by decide +kernel
theorem dX12_shareOf_135 : decode cX12_shareOf 135 = .ok (.lload 4, 2) := by decide +kernel
theorem dX12_shareOf_137 : decode cX12_shareOf 137 = .ok (.lload 7, 2) := by decide +kernel
theorem dX12_shareOf_139 : decode cX12_shareOf 139 = .ok (.iload 10, 2) := by decide +kernel
theorem dX12_shareOf_141 : decode cX12_shareOf 141 = .ok (.iload 9, 2) := by decide +kernel
theorem dX12_shareOf_143 : decode cX12_shareOf 143 = .ok (.isub, 1) := by decide +kernel
theorem dX12_shareOf_144 : decode cX12_shareOf 144 = .ok (.i2l, 1) := by decide +kernel
theorem dX12_shareOf_145 : decode cX12_shareOf 145 = .ok (.ldiv, 1) := by decide +kernel
theorem dX12_shareOf_146 : decode cX12_shareOf 146 = .ok (.iload 10, 2) := by decide +kernel
theorem dX12_shareOf_148 : decode cX12_shareOf 148 = .ok (.iload 6, 2) := by decide +kernel
theorem dX12_shareOf_150 : decode cX12_shareOf 150 = .ok (.isub, 1) := by decide +kernel
theorem dX12_shareOf_151 : decode cX12_shareOf 151 = .ok (.i2l, 1) := by decide +kernel
theorem dX12_shareOf_152 : decode cX12_shareOf 152 = .ok (.lmul, 1) := by decide +kernel
theorem dX12_shareOf_153 : decode cX12_shareOf 153 = .ok (.ladd, 1) := by decide +kernel
theorem dX12_shareOf_154 : decode cX12_shareOf 154 = .ok (.lstore 4, 2) := by decide +kernel
theorem dX12_shareOf_156 : decode cX12_shareOf 156 = .ok (.goto 30, 3) := by decide +kernel
theorem dX12_shareOf_159 : decode cX12_shareOf 159 = .ok (.iload_n 3, 1) := by decide +kernel
theorem dX12_shareOf_160 : decode cX12_shareOf 160 = .ok (.iload 10, 2) := by decide +kernel
theorem dX12_shareOf_162 : decode cX12_shareOf 162 = .ok (.if_icmp .ne 24, 3) := by decide +kernel
theorem dX12_shareOf_165 : decode cX12_shareOf 165 = .ok (.lload 4, 2) := by decide +kernel
theorem dX12_shareOf_167 : decode cX12_shareOf 167 = .ok (.lload 7, 2) := by decide +kernel
theorem dX12_shareOf_169 : decode cX12_shareOf 169 = .ok (.iload 10, 2) := by decide +kernel
theorem dX12_shareOf_171 : decode cX12_shareOf 171 = .ok (.iload 9, 2) := by decide +kernel
theorem dX12_shareOf_173 : decode cX12_shareOf 173 = .ok (.isub, 1) := by decide +kernel
theorem dX12_shareOf_174 : decode cX12_shareOf 174 = .ok (.i2l, 1) := by decide +kernel
theorem dX12_shareOf_175 : decode cX12_shareOf 175 = .ok (.ldiv, 1) := by decide +kernel
theorem dX12_shareOf_176 : decode cX12_shareOf 176 = .ok (.iload 6, 2) := by decide +kernel
theorem dX12_shareOf_178 : decode cX12_shareOf 178 = .ok (.iload 9, 2) := by decide +kernel
theorem dX12_shareOf_180 : decode cX12_shareOf 180 = .ok (.isub, 1) := by decide +kernel
theorem dX12_shareOf_181 : decode cX12_shareOf 181 = .ok (.i2l, 1) := by decide +kernel
theorem dX12_shareOf_182 : decode cX12_shareOf 182 = .ok (.lmul, 1) := by decide +kernel
theorem dX12_shareOf_183 : decode cX12_shareOf 183 = .ok (.ladd, 1) := by decide +kernel
theorem dX12_shareOf_184 : decode cX12_shareOf 184 = .ok (.lstore 4, 2) := by decide +kernel
theorem dX12_shareOf_186 : decode cX12_shareOf 186 = .ok (.iinc 6 1, 3) := by decide +kernel
theorem dX12_shareOf_189 : decode cX12_shareOf 189 = .ok (.goto (-169), 3) := by decide +kernel
theorem dX12_shareOf_192 : decode cX12_shareOf 192 = .ok (.lload 4, 2) := by decide +kernel
theorem dX12_shareOf_194 : decode cX12_shareOf 194 = .ok (.lreturn, 1) := by decide +kernel
theorem w_X12_shareOf_j186 {z : ((Int64 × Int32) ⊕ (Int64))} {Γ : Gam} {cy : Nat → ClassId} {a : Nat → Nat} {V : VT} {X : va_W} {v2 : Int32} {v3 : Int32} {v4 : Int64} {v6 : Int32}  (C0 : CXg Γ cX12_shareOf 11 4 RX12 cy) (hD : DM Γ cy a X) (h : f_X12_shareOf_j186 v2 v3 v4 v6 V = some z) (hz : (Sum.elim (fun x : Int64 × Int32 => Wp Γ 0 0 20 [(0, .ref (a 0)), (2, .int v2), (3, .int v3), (4, .long x.1), (6, .int x.2)] [] (WM cy a V X)) (fun y : Int64 => FinL Γ cX12_shareOf (WM cy a V X) y)) z) : Wp Γ 0 0 186 [(0, .ref (a 0)), (2, .int v2), (3, .int v3), (4, .long v4), (6, .int v6)] [] (WM cy a V X) := by
  unfold f_X12_shareOf_j186 at h
  obtain ⟨a13, h8, h⟩ := op_bind h
  have e8 := Option.some.inj h8
  refine r_iinc (lv2 := [(6, .int a13), (0, .ref (a 0)), (2, .int v2), (3, .int v3), (4, .long v4)]) C0 dX12_shareOf_186 4 rfl ki_1 e8 (Nat.le_of_ble_eq_true rfl) rfl ?_
  refine r_goto C0 20 dX12_shareOf_189 rfl ?_
  cases h
  have hz := el_inl hz
  exact r_sub [1, 2, 3, 4, 0] rfl hz
theorem w_X12_shareOf_j123 {z : ((Int64 × Int32) ⊕ (Int64))} {Γ : Gam} {cy : Nat → ClassId} {a : Nat → Nat} {V : VT} {X : va_W} {v2 : Int32} {v3 : Int32} {v6 : Int32} {s0 : Int64} {s1 : Int64}  (C0 : CXg Γ cX12_shareOf 11 4 RX12 cy) (hD : DM Γ cy a X) (h : f_X12_shareOf_j123 v2 v3 v6 s0 s1 V = some z) (hz : (Sum.elim (fun x : Int64 × Int32 => Wp Γ 0 0 20 [(0, .ref (a 0)), (2, .int v2), (3, .int v3), (4, .long x.1), (6, .int x.2)] [] (WM cy a V X)) (fun y : Int64 => FinL Γ cX12_shareOf (WM cy a V X) y)) z) : Wp Γ 0 0 123 [(0, .ref (a 0)), (2, .int v2), (3, .int v3), (6, .int v6)] [.long s1, .long s0] (WM cy a V X) := by
  unfold f_X12_shareOf_j123 at h
  refine r_ladd C0 dX12_shareOf_123 ?_
  obtain ⟨a18, h8, h⟩ := op_bind h
  have e8 := Option.some.inj h8
  refine r_lstore (lv2 := [(4, .long a18), (0, .ref (a 0)), (2, .int v2), (3, .int v3), (6, .int v6)]) C0 dX12_shareOf_124 e8 (Nat.le_of_ble_eq_true rfl) rfl ?_
  refine r_goto C0 186 dX12_shareOf_126 rfl ?_
  exact r_sub [1, 2, 3, 0, 4] rfl (w_X12_shareOf_j186 C0 hD h hz)
theorem w_X12_shareOf_j102 {z : ((Int64 × Int32) ⊕ (Int64))} {Γ : Gam} {cy : Nat → ClassId} {a : Nat → Nat} {V : VT} {X : va_W} {v2 : Int32} {v3 : Int32} {v4 : Int64} {v6 : Int32} {v7 : Int64} {v9 : Int32} {v10 : Int32}  (C0 : CXg Γ cX12_shareOf 11 4 RX12 cy) (hD : DM Γ cy a X) (h : f_X12_shareOf_j102 v2 v3 v4 v6 v7 v9 v10 V = some z) (hz : (Sum.elim (fun x : Int64 × Int32 => Wp Γ 0 0 20 [(0, .ref (a 0)), (2, .int v2), (3, .int v3), (4, .long x.1), (6, .int x.2)] [] (WM cy a V X)) (fun y : Int64 => FinL Γ cX12_shareOf (WM cy a V X) y)) z) : Wp Γ 0 0 102 [(0, .ref (a 0)), (2, .int v2), (3, .int v3), (4, .long v4), (6, .int v6), (7, .long v7), (9, .int v9), (10, .int v10)] [] (WM cy a V X) := by
  unfold f_X12_shareOf_j102 at h
  refine r_iload C0 dX12_shareOf_102 6 rfl ?_
  refine r_iload C0 dX12_shareOf_104 7 rfl ?_
  refine r_icmp_ne C0 129 dX12_shareOf_106 rfl h (fun _ h => ?_) (fun _ h => ?_)
  · refine r_iload_n C0 dX12_shareOf_129 rfl 2 rfl ?_
    refine r_iload C0 dX12_shareOf_130 6 rfl ?_
    refine r_icmp_ne C0 159 dX12_shareOf_132 rfl h (fun _ h => ?_) (fun _ h => ?_)
    · refine r_iload_n C0 dX12_shareOf_159 rfl 2 rfl ?_
      refine r_iload C0 dX12_shareOf_160 7 rfl ?_
      refine r_icmp_ne C0 186 dX12_shareOf_162 rfl h (fun _ h => ?_) (fun _ h => ?_)
      · exact r_sub [0, 1, 2, 3, 4] rfl (w_X12_shareOf_j186 C0 hD h hz)
      · refine r_lload C0 dX12_shareOf_165 3 rfl ?_
        refine r_lload C0 dX12_shareOf_167 5 rfl ?_
        refine r_iload C0 dX12_shareOf_169 7 rfl ?_
        refine r_iload C0 dX12_shareOf_171 6 rfl ?_
        refine r_isub C0 dX12_shareOf_173 ?_
        refine r_i2l C0 dX12_shareOf_174 ?_
        refine r_ldiv C0 dX12_shareOf_175 h (fun u14 h => ?_)
        refine r_iload C0 dX12_shareOf_176 4 rfl ?_
        refine r_iload C0 dX12_shareOf_178 6 rfl ?_
        refine r_isub C0 dX12_shareOf_180 ?_
        refine r_i2l C0 dX12_shareOf_181 ?_
        refine r_lmul C0 dX12_shareOf_182 ?_
        refine r_ladd C0 dX12_shareOf_183 ?_
        obtain ⟨a15, h8, h⟩ := op_bind h
        have e8 := Option.some.inj h8
        refine r_lstore (lv2 := [(4, .long a15), (0, .ref (a 0)), (2, .int v2), (3, .int v3), (6, .int v6), (7, .long v7), (9, .int v9), (10, .int v10)]) C0 dX12_shareOf_184 e8 (Nat.le_of_ble_eq_true rfl) rfl ?_
        exact r_sub [1, 2, 3, 0, 4] rfl (w_X12_shareOf_j186 C0 hD h hz)
    · refine r_lload C0 dX12_shareOf_135 3 rfl ?_
      refine r_lload C0 dX12_shareOf_137 5 rfl ?_
      refine r_iload C0 dX12_shareOf_139 7 rfl ?_
      refine r_iload C0 dX12_shareOf_141 6 rfl ?_
      refine r_isub C0 dX12_shareOf_143 ?_
      refine r_i2l C0 dX12_shareOf_144 ?_
      refine r_ldiv C0 dX12_shareOf_145 h (fun u16 h => ?_)
      refine r_iload C0 dX12_shareOf_146 7 rfl ?_
      refine r_iload C0 dX12_shareOf_148 4 rfl ?_
      refine r_isub C0 dX12_shareOf_150 ?_
      refine r_i2l C0 dX12_shareOf_151 ?_
      refine r_lmul C0 dX12_shareOf_152 ?_
      refine r_ladd C0 dX12_shareOf_153 ?_
      obtain ⟨a17, h8, h⟩ := op_bind h
      have e8 := Option.some.inj h8
      refine r_lstore (lv2 := [(4, .long a17), (0, .ref (a 0)), (2, .int v2), (3, .int v3), (6, .int v6), (7, .long v7), (9, .int v9), (10, .int v10)]) C0 dX12_shareOf_154 e8 (Nat.le_of_ble_eq_true rfl) rfl ?_
      refine r_goto C0 186 dX12_shareOf_156 rfl ?_
      exact r_sub [1, 2, 3, 0, 4] rfl (w_X12_shareOf_j186 C0 hD h hz)
  · refine r_lload C0 dX12_shareOf_109 3 rfl ?_
    refine r_iload_n C0 dX12_shareOf_111 rfl 2 rfl ?_
    refine r_iload C0 dX12_shareOf_112 6 rfl ?_
    refine r_icmp_ne C0 122 dX12_shareOf_114 rfl h (fun _ h => ?_) (fun _ h => ?_)
    · refine r_lconst (v := 0) C0 dX12_shareOf_122 (by decide) ?_
      exact r_sub [0, 1, 2, 4] rfl (w_X12_shareOf_j123 C0 hD h hz)
    · refine r_lload C0 dX12_shareOf_117 5 rfl ?_
      refine r_goto C0 123 dX12_shareOf_119 rfl ?_
      exact r_sub [0, 1, 2, 4] rfl (w_X12_shareOf_j123 C0 hD h hz)
theorem w_X12_shareOf_j93 {z : ((Int64 × Int32) ⊕ (Int64))} {Γ : Gam} {cy : Nat → ClassId} {a : Nat → Nat} {V : VT} {X : va_W} {v2 : Int32} {v3 : Int32} {v4 : Int64} {v6 : Int32} {v7 : Int64} {v9 : Int32} {v10 : Int32}  (C0 : CXg Γ cX12_shareOf 11 4 RX12 cy) (hD : DM Γ cy a X) (h : f_X12_shareOf_j93 v2 v3 v4 v6 v7 v9 v10 V = some z) (hz : (Sum.elim (fun x : Int64 × Int32 => Wp Γ 0 0 20 [(0, .ref (a 0)), (2, .int v2), (3, .int v3), (4, .long x.1), (6, .int x.2)] [] (WM cy a V X)) (fun y : Int64 => FinL Γ cX12_shareOf (WM cy a V X) y)) z) : Wp Γ 0 0 93 [(0, .ref (a 0)), (2, .int v2), (3, .int v3), (4, .long v4), (6, .int v6), (7, .long v7), (9, .int v9), (10, .int v10)] [] (WM cy a V X) := by
  unfold f_X12_shareOf_j93 at h
  refine r_iload C0 dX12_shareOf_93 7 rfl ?_
  refine r_if_ge C0 102 dX12_shareOf_95 rfl h (fun _ h => ?_) (fun _ h => ?_)
  · exact r_sub [0, 1, 2, 3, 4, 5, 6, 7] rfl (w_X12_shareOf_j102 C0 hD h hz)
  · refine r_iload C0 dX12_shareOf_98 6 rfl ?_
    refine r_istore (lv2 := [(10, .int v9), (0, .ref (a 0)), (2, .int v2), (3, .int v3), (4, .long v4), (6, .int v6), (7, .long v7), (9, .int v9)]) C0 dX12_shareOf_100 rfl (Nat.le_of_ble_eq_true rfl) rfl ?_
    exact r_sub [1, 2, 3, 4, 5, 6, 7, 0] rfl (w_X12_shareOf_j102 C0 hD h hz)
theorem w_X12_shareOf_B20 {x : Int64 × Int32} {z : ((Int64 × Int32) ⊕ (Int64))} {Γ : Gam} {cy : Nat → ClassId} {a : Nat → Nat} {V : VT} {X : va_W} {v2 : Int32} {v3 : Int32}  (C0 : CXg Γ cX12_shareOf 11 4 RX12 cy) (hD : DM Γ cy a X) (h : f_X12_shareOf_B20 v2 v3 V x = some z) (hz : (Sum.elim (fun x : Int64 × Int32 => Wp Γ 0 0 20 [(0, .ref (a 0)), (2, .int v2), (3, .int v3), (4, .long x.1), (6, .int x.2)] [] (WM cy a V X)) (fun y : Int64 => FinL Γ cX12_shareOf (WM cy a V X) y)) z) : Wp Γ 0 0 20 [(0, .ref (a 0)), (2, .int v2), (3, .int v3), (4, .long x.1), (6, .int x.2)] [] (WM cy a V X) := by
  unfold f_X12_shareOf_B20 at h
  refine r_iload C0 dX12_shareOf_20 4 rfl ?_
  refine r_aload_n C0 dX12_shareOf_22 rfl 0 rfl ?_
  refine r_iload_n C0 dX12_shareOf_23 rfl 1 rfl ?_
  refine callV1 C0 h (hD _) mw_X12_places rv_m tm_X12_55 (fun y hy => c_X12_places hy) (Nat.le_of_ble_eq_true rfl) (Nat.le_of_ble_eq_true rfl) dX12_shareOf_24 (fun r5 h => ?_)
  refine r_icmp_ge C0 192 dX12_shareOf_27 rfl h (fun _ h => ?_) (fun _ h => ?_)
  · obtain ⟨y6, h5, h9⟩ := op_bind h
    clear h
    cases h9
    have hz := (el_inr hz)
    have h := h5
    refine r_lload C0 dX12_shareOf_192 3 rfl ?_
    cases h
    exact hz _ _ dX12_shareOf_194
  · refine r_aload_n C0 dX12_shareOf_30 rfl 0 rfl ?_
    refine r_iload_n C0 dX12_shareOf_31 rfl 1 rfl ?_
    refine r_iload C0 dX12_shareOf_32 4 rfl ?_
    refine callV2 C0 h (hD _) mw_X12_held rv_m tm_X12_72 (fun y hy => c_X12_held hy) (Nat.le_of_ble_eq_true rfl) (Nat.le_of_ble_eq_true rfl) dX12_shareOf_34 (fun r7 h => ?_)
    refine r_iconst C0 dX12_shareOf_37 ki_2 ?_
    refine r_icmp_ge C0 44 dX12_shareOf_38 rfl h (fun _ h => ?_) (fun _ h => ?_)
    · refine r_ldc2 C0 tk_X12_93 dX12_shareOf_44 ?_
      refine r_aload_n C0 dX12_shareOf_47 rfl 0 rfl ?_
      refine r_aload_n C0 dX12_shareOf_48 rfl 0 rfl ?_
      refine r_iload_n C0 dX12_shareOf_49 rfl 1 rfl ?_
      refine r_iload C0 dX12_shareOf_50 4 rfl ?_
      refine callV2 C0 h (hD _) mw_X12_held rv_m tm_X12_72 (fun y hy => c_X12_held hy) (Nat.le_of_ble_eq_true rfl) (Nat.le_of_ble_eq_true rfl) dX12_shareOf_52 (fun r8 h => ?_)
      refine r_iconst C0 dX12_shareOf_55 ki_2 ?_
      refine r_isub C0 dX12_shareOf_56 ?_
      refine callV1 C0 h (hD _) mw_X12_grams rv_m tm_X12_95 (fun y hy => c_X12_grams hy) (Nat.le_of_ble_eq_true rfl) (Nat.le_of_ble_eq_true rfl) dX12_shareOf_57 (fun r9 h => ?_)
      refine r_i2l C0 dX12_shareOf_60 ?_
      refine r_lmul C0 dX12_shareOf_61 ?_
      obtain ⟨a10, h8, h⟩ := op_bind h
      have e8 := Option.some.inj h8
      refine r_lstore (lv2 := [(7, .long a10), (0, .ref (a 0)), (2, .int v2), (3, .int v3), (4, .long x.1), (6, .int x.2)]) C0 dX12_shareOf_62 e8 (Nat.le_of_ble_eq_true rfl) rfl ?_
      refine r_aload_n C0 dX12_shareOf_64 rfl 1 rfl ?_
      refine r_iload_n C0 dX12_shareOf_65 rfl 2 rfl ?_
      refine r_iload C0 dX12_shareOf_66 5 rfl ?_
      refine r_iconst C0 dX12_shareOf_68 ki_m1 ?_
      refine callV3 C0 h (hD _) mw_X12_nearest rv_m tm_X12_98 (fun y hy => c_X12_nearest hy) (Nat.le_of_ble_eq_true rfl) (Nat.le_of_ble_eq_true rfl) dX12_shareOf_69 (fun r11 h => ?_)
      refine r_istore (lv2 := [(9, .int r11), (7, .long a10), (0, .ref (a 0)), (2, .int v2), (3, .int v3), (4, .long x.1), (6, .int x.2)]) C0 dX12_shareOf_72 rfl (Nat.le_of_ble_eq_true rfl) rfl ?_
      refine r_aload_n C0 dX12_shareOf_74 rfl 2 rfl ?_
      refine r_iload_n C0 dX12_shareOf_75 rfl 3 rfl ?_
      refine r_iload C0 dX12_shareOf_76 6 rfl ?_
      refine r_iconst C0 dX12_shareOf_78 ki_1 ?_
      refine callV3 C0 h (hD _) mw_X12_nearest rv_m tm_X12_98 (fun y hy => c_X12_nearest hy) (Nat.le_of_ble_eq_true rfl) (Nat.le_of_ble_eq_true rfl) dX12_shareOf_79 (fun r12 h => ?_)
      refine r_istore (lv2 := [(10, .int r12), (9, .int r11), (7, .long a10), (0, .ref (a 0)), (2, .int v2), (3, .int v3), (4, .long x.1), (6, .int x.2)]) C0 dX12_shareOf_82 rfl (Nat.le_of_ble_eq_true rfl) rfl ?_
      refine r_iload C0 dX12_shareOf_84 1 rfl ?_
      refine r_if_ge C0 93 dX12_shareOf_86 rfl h (fun _ h => ?_) (fun _ h => ?_)
      · exact r_sub [3, 4, 5, 6, 7, 2, 1, 0] rfl (w_X12_shareOf_j93 C0 hD h hz)
      · refine r_iload C0 dX12_shareOf_89 0 rfl ?_
        refine r_istore (lv2 := [(9, .int r12), (10, .int r12), (7, .long a10), (0, .ref (a 0)), (2, .int v2), (3, .int v3), (4, .long x.1), (6, .int x.2)]) C0 dX12_shareOf_91 rfl (Nat.le_of_ble_eq_true rfl) rfl ?_
        exact r_sub [3, 4, 5, 6, 7, 2, 0, 1] rfl (w_X12_shareOf_j93 C0 hD h hz)
    · refine r_goto C0 186 dX12_shareOf_41 rfl ?_
      exact r_sub [0, 1, 2, 3, 4] rfl (w_X12_shareOf_j186 C0 hD h hz)
theorem w_X12_shareOf_B20_lp {x : Int64 × Int32} {z : (Int64)} {Γ : Gam} {cy : Nat → ClassId} {a : Nat → Nat} {V : VT} {X : va_W} {v2 : Int32} {v3 : Int32}  (C0 : CXg Γ cX12_shareOf 11 4 RX12 cy) (hD : DM Γ cy a X) (h : lp (f_X12_shareOf_B20 v2 v3 V) fuel x = some z) (hz : (fun y : Int64 => FinL Γ cX12_shareOf (WM cy a V X) y) z) : Wp Γ 0 0 20 [(0, .ref (a 0)), (2, .int v2), (3, .int v3), (4, .long x.1), (6, .int x.2)] [] (WM cy a V X) :=
  lp_rule (hd := (fun x : Int64 × Int32 => Wp Γ 0 0 20 [(0, .ref (a 0)), (2, .int v2), (3, .int v3), (4, .long x.1), (6, .int x.2)] [] (WM cy a V X))) (C := (fun y : Int64 => FinL Γ cX12_shareOf (WM cy a V X) y)) (fun x z h hz => w_X12_shareOf_B20 C0 hD h hz) _ _ _ h hz
theorem w_X12_shareOf {z : Int64} {Γ : Gam} {cy : Nat → ClassId} {a : Nat → Nat} {V : VT} {X : va_W} {v1 : Int32}  (C0 : CXg Γ cX12_shareOf 11 4 RX12 cy) (hD : DM Γ cy a X) (h : f_X12_shareOf v1 V = some z) (hz : (fun y : Int64 => FinL Γ cX12_shareOf (WM cy a V X) y) z) : Wp Γ 0 0 0 [(0, .ref (a 0)), (1, .int v1)] [] (WM cy a V X) := by
  unfold f_X12_shareOf at h
  refine r_aload_n C0 dX12_shareOf_0 rfl 0 rfl ?_
  refine r_iload_n C0 dX12_shareOf_1 rfl 1 rfl ?_
  refine r_iconst C0 dX12_shareOf_2 ki_0 ?_
  refine callV2 C0 h (hD _) mw_X12_lineIs rv_m tm_X12_58 (fun y hy => c_X12_lineIs hy) (Nat.le_of_ble_eq_true rfl) (Nat.le_of_ble_eq_true rfl) dX12_shareOf_3 (fun r1 h => ?_)
  refine r_istore_n (lv2 := [(2, .int r1), (0, .ref (a 0)), (1, .int v1)]) C0 dX12_shareOf_6 rfl rfl (Nat.le_of_ble_eq_true rfl) rfl ?_
  refine r_aload_n C0 dX12_shareOf_7 rfl 1 rfl ?_
  refine r_iload_n C0 dX12_shareOf_8 rfl 2 rfl ?_
  refine r_iconst C0 dX12_shareOf_9 ki_1 ?_
  refine callV2 C0 h (hD _) mw_X12_lineIs rv_m tm_X12_58 (fun y hy => c_X12_lineIs hy) (Nat.le_of_ble_eq_true rfl) (Nat.le_of_ble_eq_true rfl) dX12_shareOf_10 (fun r2 h => ?_)
  refine r_istore_n (lv2 := [(3, .int r2), (2, .int r1), (0, .ref (a 0)), (1, .int v1)]) C0 dX12_shareOf_13 rfl rfl (Nat.le_of_ble_eq_true rfl) rfl ?_
  refine r_lconst (v := 0) C0 dX12_shareOf_14 (by decide) ?_
  obtain ⟨a3, h8, h⟩ := op_bind h
  have e8 := Option.some.inj h8
  refine r_lstore (lv2 := [(4, .long a3), (3, .int r2), (2, .int r1), (0, .ref (a 0)), (1, .int v1)]) C0 dX12_shareOf_15 e8 (Nat.le_of_ble_eq_true rfl) rfl ?_
  refine r_iconst C0 dX12_shareOf_17 ki_0 ?_
  obtain ⟨a4, h8, h⟩ := op_bind h
  have e8 := Option.some.inj h8
  refine r_istore (lv2 := [(6, .int a4), (4, .long a3), (3, .int r2), (2, .int r1), (0, .ref (a 0)), (1, .int v1)]) C0 dX12_shareOf_18 e8 (Nat.le_of_ble_eq_true rfl) rfl ?_
  exact r_sub [4, 3, 2, 1, 0] rfl (w_X12_shareOf_B20_lp C0 hD h hz)
theorem c_X12_shareOf {l : Launch} {D : va_G} {cy : Nat → ClassId} {a : Nat → Nat} {V : VT} {X : va_W} {v1 : Int32} {y : Int64} (h : f_X12_shareOf v1 V = some y) : CT l D cy yX12_shareOf cX12_shareOf 11 (some .long) 4 [.ref (a 0), .int v1] (WM cy a V X) (WM cy a V X) (some (.long y)) :=
  mkL (by decide) (Nat.le_of_ble_eq_true rfl) (fun Γ _ _ C0 hD hF => w_X12_shareOf C0 (dm_of hD) h hF)
theorem dX12_isHeld_0 : decode cX12_isHeld 0 = .ok (.aload_n 0, 1) := by decide +kernel
theorem dX12_isHeld_1 : decode cX12_isHeld 1 = .ok (.iload_n 1, 1) := by decide +kernel
theorem dX12_isHeld_2 : decode cX12_isHeld 2 = .ok (.invokevirtual 102, 3) := by decide +kernel
theorem dX12_isHeld_5 : decode cX12_isHeld 5 = .ok (.ifCond .ne 5, 3) := by decide +kernel
theorem dX12_isHeld_8 : decode cX12_isHeld 8 = .ok (.iconst 1, 1) := by decide +kernel
theorem dX12_isHeld_9 : decode cX12_isHeld 9 = .ok (.ireturn, 1) := by decide +kernel
theorem dX12_isHeld_10 : decode cX12_isHeld 10 = .ok (.aload_n 0, 1) := by decide +kernel
theorem dX12_isHeld_11 : decode cX12_isHeld 11 = .ok (.iload_n 1, 1) := by decide +kernel
theorem dX12_isHeld_12 : decode cX12_isHeld 12 = .ok (.invokevirtual 105, 3) := by decide +kernel
theorem dX12_isHeld_15 : decode cX12_isHeld 15 = .ok (.istore_n 2, 1) := by decide +kernel
theorem dX12_isHeld_16 : decode cX12_isHeld 16 = .ok (.iload_n 2, 1) := by decide +kernel
theorem dX12_isHeld_17 : decode cX12_isHeld 17 = .ok (.ifCond .ne 5, 3) := by decide +kernel
theorem dX12_isHeld_20 : decode cX12_isHeld 20 = .ok (.iconst 0, 1) := by decide +kernel
theorem dX12_isHeld_21 : decode cX12_isHeld 21 = .ok (.ireturn, 1) := by decide +kernel
theorem dX12_isHeld_22 : decode cX12_isHeld 22 = .ok (.iload_n 2, 1) := by decide +kernel
theorem dX12_isHeld_23 : decode cX12_isHeld 23 = .ok (.iconst 1, 1) := by decide +kernel
theorem dX12_isHeld_24 : decode cX12_isHeld 24 = .ok (.if_icmp .le 55, 3) := by decide +kernel
theorem dX12_isHeld_27 : decode cX12_isHeld 27 = .ok (.iconst 0, 1) := by decide +kernel
theorem dX12_isHeld_28 : decode cX12_isHeld 28 = .ok (.istore_n 3, 1) := by decide +kernel
theorem dX12_isHeld_29 : decode cX12_isHeld 29 = .ok (.iload_n 3, 1) := by decide +kernel
theorem dX12_isHeld_30 : decode cX12_isHeld 30 = .ok (.aload_n 0, 1) := by decide +kernel
theorem dX12_isHeld_31 : decode cX12_isHeld 31 = .ok (.getfield 7, 3) := by decide +kernel
theorem dX12_isHeld_34 : decode cX12_isHeld 34 = .ok (.sipush 1640, 3) := by decide +kernel
theorem dX12_isHeld_37 : decode cX12_isHeld 37 = .ok (.iaload, 1) := by decide +kernel
theorem dX12_isHeld_38 : decode cX12_isHeld 38 = .ok (.if_icmp .ge 39, 3) := by decide +kernel
theorem dX12_isHeld_41 : decode cX12_isHeld 41 = .ok (.aload_n 0, 1) := by decide +kernel
theorem dX12_isHeld_42 : decode cX12_isHeld 42 = .ok (.iload_n 3, 1) := by decide +kernel
theorem dX12_isHeld_43 : decode cX12_isHeld 43 = .ok (.iload_n 1, 1) := by decide +kernel
theorem dX12_isHeld_44 : decode cX12_isHeld 44 = .ok (.invokevirtual 89, 3) := by decide +kernel
theorem dX12_isHeld_47 : decode cX12_isHeld 47 = .ok (.ifCond .eq 24, 3) := by decide +kernel
theorem dX12_isHeld_50 : decode cX12_isHeld 50 = .ok (.aload_n 0, 1) := by decide +kernel
theorem dX12_isHeld_51 : decode cX12_isHeld 51 = .ok (.iload_n 3, 1) := by decide +kernel
theorem dX12_isHeld_52 : decode cX12_isHeld 52 = .ok (.invokevirtual 108, 3) := by decide +kernel
theorem dX12_isHeld_55 : decode cX12_isHeld 55 = .ok (.ldc2_w 93, 3) := by decide +kernel
theorem dX12_isHeld_58 : decode cX12_isHeld 58 = .ok (.aload_n 0, 1) := by decide +kernel
theorem dX12_isHeld_59 : decode cX12_isHeld 59 = .ok (.iload_n 3, 1) := by decide +kernel
theorem dX12_isHeld_60 : decode cX12_isHeld 60 = .ok (.invokevirtual 112, 3) := by decide +kernel
theorem dX12_isHeld_63 : decode cX12_isHeld 63 = .ok (.i2l, 1) := by decide +kernel
theorem dX12_isHeld_64 : decode cX12_isHeld 64 = .ok (.lmul, 1) := by decide +kernel
theorem dX12_isHeld_65 : decode cX12_isHeld 65 = .ok (.lcmp, 1) := by decide +kernel
theorem dX12_isHeld_66 : decode cX12_isHeld 66 = .ok (.ifCond .le 5, 3) := by decide +kernel
theorem dX12_isHeld_69 : decode cX12_isHeld 69 = .ok (.iconst 0, 1) := by decide +kernel
theorem dX12_isHeld_70 : decode cX12_isHeld 70 = .ok (.ireturn, 1) := by decide +kernel
theorem dX12_isHeld_71 : decode cX12_isHeld 71 = .ok (.iinc 3 1, 3) := by decide +kernel
theorem dX12_isHeld_74 : decode cX12_isHeld 74 = .ok (.goto (-45), 3) := by decide +kernel
theorem dX12_isHeld_77 : decode cX12_isHeld 77 = .ok (.iconst 1, 1) := by decide +kernel
theorem dX12_isHeld_78 : decode cX12_isHeld 78 = .ok (.ireturn, 1) := by decide +kernel
theorem dX12_isHeld_79 : decode cX12_isHeld 79 = .ok (.lconst 0, 1) := by decide +kernel
theorem dX12_isHeld_80 : decode cX12_isHeld 80 = .ok (.lstore_n 3, 1) := by decide +kernel
theorem dX12_isHeld_81 : decode cX12_isHeld 81 = .ok (.lconst 0, 1) := by decide +kernel
theorem dX12_isHeld_82 : decode cX12_isHeld 82 = .ok (.lstore 5, 2) := by decide +kernel
theorem dX12_isHeld_84 : decode cX12_isHeld 84 = .ok (.iconst 0, 1) := by decide +kernel
theorem dX12_isHeld_85 : decode cX12_isHeld 85 = .ok (.istore 7, 2) := by decide +kernel
theorem dX12_isHeld_87 : decode cX12_isHeld 87 = .ok (.aload_n 0, 1) := by decide +kernel
theorem dX12_isHeld_88 : decode cX12_isHeld 88 = .ok (.iload 7, 2) := by decide +kernel
theorem dX12_isHeld_90 : decode cX12_isHeld 90 = .ok (.iload_n 1, 1) := by decide +kernel
theorem dX12_isHeld_91 : decode cX12_isHeld 91 = .ok (.invokevirtual 89, 3) := by decide +kernel
theorem dX12_isHeld_94 : decode cX12_isHeld 94 = .ok (.ifCond .ne 9, 3) := by decide +kernel
theorem dX12_isHeld_97 : decode cX12_isHeld 97 = .ok (.iinc 7 1, 3) := by decide +kernel
theorem dX12_isHeld_100 : decode cX12_isHeld 100 = .ok (.goto (-13), 3) := by decide +kernel
theorem dX12_isHeld_103 : decode cX12_isHeld 103 = .ok (.iconst 0, 1) := by decide +kernel
theorem dX12_isHeld_104 : decode cX12_isHeld 104 = .ok (.istore 8, 2) := by decide +kernel
theorem dX12_isHeld_106 : decode cX12_isHeld 106 = .ok (.iload 8, 2) := by decide +kernel
theorem dX12_isHeld_108 : decode cX12_isHeld 108 = .ok (.aload_n 0, 1) := by decide +kernel
theorem dX12_isHeld_109 : decode cX12_isHeld 109 = .ok (.iload_n 1, 1) := by decide +kernel
theorem dX12_isHeld_110 : decode cX12_isHeld 110 = .ok (.invokevirtual 55, 3) := by decide +kernel
theorem dX12_isHeld_113 : decode cX12_isHeld 113 = .ok (.if_icmp .ge 71, 3) := by decide +kernel
theorem dX12_isHeld_116 : decode cX12_isHeld 116 = .ok (.aload_n 0, 1) := by decide +kernel
theorem dX12_isHeld_117 : decode cX12_isHeld 117 = .ok (.iload_n 1, 1) := by decide +kernel
theorem dX12_isHeld_118 : decode cX12_isHeld 118 = .ok (.iload 8, 2) := by decide +kernel
theorem dX12_isHeld_120 : decode cX12_isHeld 120 = .ok (.invokevirtual 72, 3) := by decide +kernel
theorem dX12_isHeld_123 : decode cX12_isHeld 123 = .ok (.iconst 2, 1) := by decide +kernel
theorem dX12_isHeld_124 : decode cX12_isHeld 124 = .ok (.if_icmp .ge 6, 3) := by decide +kernel
theorem dX12_isHeld_127 : decode cX12_isHeld 127 = .ok (.goto 51, 3) := by decide +kernel
theorem dX12_isHeld_130 : decode cX12_isHeld 130 = .ok (.lload_n 3, 1) := by decide +kernel
theorem dX12_isHeld_131 : decode cX12_isHeld 131 = .ok (.aload_n 0, 1) := by decide +kernel
theorem dX12_isHeld_132 : decode cX12_isHeld 132 = .ok (.aload_n 0, 1) := by decide +kernel
theorem dX12_isHeld_133 : decode cX12_isHeld 133 = .ok (.iload_n 1, 1) := by decide +kernel
theorem dX12_isHeld_134 : decode cX12_isHeld 134 = .ok (.iload 8, 2) := by decide +kernel
theorem dX12_isHeld_136 : decode cX12_isHeld 136 = .ok (.invokevirtual 72, 3) := by decide +kernel
theorem dX12_isHeld_139 : decode cX12_isHeld 139 = .ok (.iconst 2, 1) := by decide +kernel
theorem dX12_isHeld_140 : decode cX12_isHeld 140 = .ok (.isub, 1) := by decide +kernel
theorem dX12_isHeld_141 : decode cX12_isHeld 141 = .ok (.invokevirtual 95, 3) := by decide +kernel
theorem dX12_isHeld_144 : decode cX12_isHeld 144 = .ok (.i2l, 1) := by decide +kernel
theorem dX12_isHeld_145 : decode cX12_isHeld 145 = .ok (.ladd, 1) := by decide +kernel
theorem dX12_isHeld_146 : decode cX12_isHeld 146 = .ok (.lstore_n 3, 1) := by decide +kernel
theorem dX12_isHeld_147 : decode cX12_isHeld 147 = .ok (.lload 5, 2) := by decide +kernel
theorem dX12_isHeld_149 : decode cX12_isHeld 149 = .ok (.aload_n 0, 1) := by decide +kernel
theorem dX12_isHeld_150 : decode cX12_isHeld 150 = .ok (.aload_n 0, 1) := by decide +kernel
theorem dX12_isHeld_151 : decode cX12_isHeld 151 = .ok (.iload_n 1, 1) := by decide +kernel
theorem dX12_isHeld_152 : decode cX12_isHeld 152 = .ok (.iload 8, 2) := by decide +kernel
theorem dX12_isHeld_154 : decode cX12_isHeld 154 = .ok (.invokevirtual 72, 3) := by decide +kernel
theorem dX12_isHeld_157 : decode cX12_isHeld 157 = .ok (.iconst 2, 1) := by decide +kernel
theorem dX12_isHeld_158 : decode cX12_isHeld 158 = .ok (.isub, 1) := by decide +kernel
theorem dX12_isHeld_159 : decode cX12_isHeld 159 = .ok (.invokevirtual 95, 3) := by decide +kernel
theorem dX12_isHeld_162 : decode cX12_isHeld 162 = .ok (.i2l, 1) := by decide +kernel
theorem dX12_isHeld_163 : decode cX12_isHeld 163 = .ok (.iload 8, 2) := by decide +kernel
theorem dX12_isHeld_165 : decode cX12_isHeld 165 = .ok (.aload_n 0, 1) := by decide +kernel
theorem dX12_isHeld_166 : decode cX12_isHeld 166 = .ok (.iload 7, 2) := by decide +kernel
theorem dX12_isHeld_168 : decode cX12_isHeld 168 = .ok (.iconst 1, 1) := by decide +kernel
theorem dX12_isHeld_169 : decode cX12_isHeld 169 = .ok (.invokevirtual 58, 3) := by decide +kernel
theorem dX12_isHeld_172 : decode cX12_isHeld 172 = .ok (.isub, 1) := by decide +kernel
theorem dX12_isHeld_173 : decode cX12_isHeld 173 = .ok (.i2l, 1) := by decide +kernel
theorem dX12_isHeld_174 : decode cX12_isHeld 174 = .ok (.lmul, 1) := by decide +kernel
theorem dX12_isHeld_175 : decode cX12_isHeld 175 = .ok (.ladd, 1) := by decide +kernel
theorem dX12_isHeld_176 : decode cX12_isHeld 176 = .ok (.lstore 5, 2) := by decide +kernel
theorem dX12_isHeld_178 : decode cX12_isHeld 178 = .ok (.iinc 8 1, 3) := by decide +kernel
theorem dX12_isHeld_181 : decode cX12_isHeld 181 = .ok (.goto (-75), 3) := by decide +kernel
theorem dX12_isHeld_184 : decode cX12_isHeld 184 = .ok (.lload_n 3, 1) := by decide +kernel
theorem dX12_isHeld_185 : decode cX12_isHeld 185 = .ok (.aload_n 0, 1) := by decide +kernel
theorem dX12_isHeld_186 : decode cX12_isHeld 186 = .ok (.iload 7, 2) := by decide +kernel
theorem dX12_isHeld_188 : decode cX12_isHeld 188 = .ok (.invokevirtual 112, 3) := by decide +kernel
theorem dX12_isHeld_191 : decode cX12_isHeld 191 = .ok (.i2l, 1) := by decide +kernel
theorem dX12_isHeld_192 : decode cX12_isHeld 192 = .ok (.lcmp, 1) := by decide +kernel
theorem dX12_isHeld_193 : decode cX12_isHeld 193 = .ok (.ifCond .gt 14, 3) := by decide +kernel
theorem dX12_isHeld_196 : decode cX12_isHeld 196 = .ok (.lload 5, 2) := by decide +kernel
theorem dX12_isHeld_198 : decode cX12_isHeld 198 = .ok (.lconst 0, 1) := by decide +kernel
theorem dX12_isHeld_199 : decode cX12_isHeld 199 = .ok (.lcmp, 1) := by decide +kernel
theorem dX12_isHeld_200 : decode cX12_isHeld 200 = .ok (.ifCond .ne 7, 3) := by decide +kernel
theorem dX12_isHeld_203 : decode cX12_isHeld 203 = .ok (.iconst 1, 1) := by decide +kernel
theorem dX12_isHeld_204 : decode cX12_isHeld 204 = .ok (.goto 4, 3) := by decide +kernel
theorem dX12_isHeld_207 : decode cX12_isHeld 207 = .ok (.iconst 0, 1) := by decide +kernel
theorem dX12_isHeld_208 : decode cX12_isHeld 208 = .ok (.ireturn, 1) := by decide +kernel
theorem w_X12_isHeld_j207 {z : (Int32)} {Γ : Gam} {cy : Nat → ClassId} {a : Nat → Nat} {V : VT} {X : va_W}  (C0 : CXg Γ cX12_isHeld 9 5 RX12 cy) (hD : DM Γ cy a X) (h : f_X12_isHeld_j207 V = some z) (hz : (fun y : Int32 => FinZ Γ cX12_isHeld (WM cy a V X) y) z) : Wp Γ 0 0 207 [] [] (WM cy a V X) := by
  unfold f_X12_isHeld_j207 at h
  refine r_iconst C0 dX12_isHeld_207 ki_0 ?_
  cases h
  exact hz _ _ nz_0 dX12_isHeld_208
theorem w_X12_isHeld_j178 {z : ((Int64 × Int64 × Int32) ⊕ (Int32))} {Γ : Gam} {cy : Nat → ClassId} {a : Nat → Nat} {V : VT} {X : va_W} {v1 : Int32} {v3 : Int64} {v5 : Int64} {v7 : Int32} {v8 : Int32}  (C0 : CXg Γ cX12_isHeld 9 5 RX12 cy) (hD : DM Γ cy a X) (h : f_X12_isHeld_j178 v1 v3 v5 v7 v8 V = some z) (hz : (Sum.elim (fun x : Int64 × Int64 × Int32 => Wp Γ 0 0 106 [(0, .ref (a 0)), (1, .int v1), (3, .long x.1), (5, .long x.2.1), (7, .int v7), (8, .int x.2.2)] [] (WM cy a V X)) (fun y : Int32 => FinZ Γ cX12_isHeld (WM cy a V X) y)) z) : Wp Γ 0 0 178 [(0, .ref (a 0)), (1, .int v1), (3, .long v3), (5, .long v5), (7, .int v7), (8, .int v8)] [] (WM cy a V X) := by
  unfold f_X12_isHeld_j178 at h
  obtain ⟨a20, h8, h⟩ := op_bind h
  have e8 := Option.some.inj h8
  refine r_iinc (lv2 := [(8, .int a20), (0, .ref (a 0)), (1, .int v1), (3, .long v3), (5, .long v5), (7, .int v7)]) C0 dX12_isHeld_178 5 rfl ki_1 e8 (Nat.le_of_ble_eq_true rfl) rfl ?_
  refine r_goto C0 106 dX12_isHeld_181 rfl ?_
  cases h
  have hz := el_inl hz
  exact r_sub [1, 2, 3, 4, 5, 0] rfl hz
theorem w_X12_isHeld_B106 {x : Int64 × Int64 × Int32} {z : ((Int64 × Int64 × Int32) ⊕ (Int32))} {Γ : Gam} {cy : Nat → ClassId} {a : Nat → Nat} {V : VT} {X : va_W} {v1 : Int32} {v7 : Int32}  (C0 : CXg Γ cX12_isHeld 9 5 RX12 cy) (hD : DM Γ cy a X) (h : f_X12_isHeld_B106 v1 v7 V x = some z) (hz : (Sum.elim (fun x : Int64 × Int64 × Int32 => Wp Γ 0 0 106 [(0, .ref (a 0)), (1, .int v1), (3, .long x.1), (5, .long x.2.1), (7, .int v7), (8, .int x.2.2)] [] (WM cy a V X)) (fun y : Int32 => FinZ Γ cX12_isHeld (WM cy a V X) y)) z) : Wp Γ 0 0 106 [(0, .ref (a 0)), (1, .int v1), (3, .long x.1), (5, .long x.2.1), (7, .int v7), (8, .int x.2.2)] [] (WM cy a V X) := by
  unfold f_X12_isHeld_B106 at h
  refine r_iload C0 dX12_isHeld_106 5 rfl ?_
  refine r_aload_n C0 dX12_isHeld_108 rfl 0 rfl ?_
  refine r_iload_n C0 dX12_isHeld_109 rfl 1 rfl ?_
  refine callV1 C0 h (hD _) mw_X12_places rv_m tm_X12_55 (fun y hy => c_X12_places hy) (Nat.le_of_ble_eq_true rfl) (Nat.le_of_ble_eq_true rfl) dX12_isHeld_110 (fun r9 h => ?_)
  refine r_icmp_ge C0 184 dX12_isHeld_113 rfl h (fun _ h => ?_) (fun _ h => ?_)
  · obtain ⟨y10, h5, h9⟩ := op_bind h
    clear h
    cases h9
    have hz := (el_inr hz)
    have h := h5
    refine r_lload_n C0 dX12_isHeld_184 rfl 2 rfl ?_
    refine r_aload_n C0 dX12_isHeld_185 rfl 0 rfl ?_
    refine r_iload C0 dX12_isHeld_186 4 rfl ?_
    refine callV1 C0 h (hD _) mw_X12_weakest rv_m tm_X12_112 (fun y hy => c_X12_weakest hy) (Nat.le_of_ble_eq_true rfl) (Nat.le_of_ble_eq_true rfl) dX12_isHeld_188 (fun r11 h => ?_)
    refine r_i2l C0 dX12_isHeld_191 ?_
    refine r_lcmp C0 dX12_isHeld_192 ?_
    refine r_if_gt C0 207 dX12_isHeld_193 rfl h (fun _ h => ?_) (fun _ h => ?_)
    · exact r_sub [] rfl (w_X12_isHeld_j207 C0 hD h hz)
    · refine r_lload C0 dX12_isHeld_196 3 rfl ?_
      refine r_lconst (v := 0) C0 dX12_isHeld_198 (by decide) ?_
      refine r_lcmp C0 dX12_isHeld_199 ?_
      refine r_if_ne C0 207 dX12_isHeld_200 rfl h (fun _ h => ?_) (fun _ h => ?_)
      · exact r_sub [] rfl (w_X12_isHeld_j207 C0 hD h hz)
      · refine r_iconst C0 dX12_isHeld_203 ki_1 ?_
        refine r_goto C0 208 dX12_isHeld_204 rfl ?_
        cases h
        exact hz _ _ nz_1 dX12_isHeld_208
  · refine r_aload_n C0 dX12_isHeld_116 rfl 0 rfl ?_
    refine r_iload_n C0 dX12_isHeld_117 rfl 1 rfl ?_
    refine r_iload C0 dX12_isHeld_118 5 rfl ?_
    refine callV2 C0 h (hD _) mw_X12_held rv_m tm_X12_72 (fun y hy => c_X12_held hy) (Nat.le_of_ble_eq_true rfl) (Nat.le_of_ble_eq_true rfl) dX12_isHeld_120 (fun r12 h => ?_)
    refine r_iconst C0 dX12_isHeld_123 ki_2 ?_
    refine r_icmp_ge C0 130 dX12_isHeld_124 rfl h (fun _ h => ?_) (fun _ h => ?_)
    · refine r_lload_n C0 dX12_isHeld_130 rfl 2 rfl ?_
      refine r_aload_n C0 dX12_isHeld_131 rfl 0 rfl ?_
      refine r_aload_n C0 dX12_isHeld_132 rfl 0 rfl ?_
      refine r_iload_n C0 dX12_isHeld_133 rfl 1 rfl ?_
      refine r_iload C0 dX12_isHeld_134 5 rfl ?_
      refine callV2 C0 h (hD _) mw_X12_held rv_m tm_X12_72 (fun y hy => c_X12_held hy) (Nat.le_of_ble_eq_true rfl) (Nat.le_of_ble_eq_true rfl) dX12_isHeld_136 (fun r13 h => ?_)
      refine r_iconst C0 dX12_isHeld_139 ki_2 ?_
      refine r_isub C0 dX12_isHeld_140 ?_
      refine callV1 C0 h (hD _) mw_X12_grams rv_m tm_X12_95 (fun y hy => c_X12_grams hy) (Nat.le_of_ble_eq_true rfl) (Nat.le_of_ble_eq_true rfl) dX12_isHeld_141 (fun r14 h => ?_)
      refine r_i2l C0 dX12_isHeld_144 ?_
      refine r_ladd C0 dX12_isHeld_145 ?_
      obtain ⟨a15, h8, h⟩ := op_bind h
      have e8 := Option.some.inj h8
      refine r_lstore_n (lv2 := [(3, .long a15), (0, .ref (a 0)), (1, .int v1), (5, .long x.2.1), (7, .int v7), (8, .int x.2.2)]) C0 dX12_isHeld_146 rfl e8 (Nat.le_of_ble_eq_true rfl) rfl ?_
      refine r_lload C0 dX12_isHeld_147 3 rfl ?_
      refine r_aload_n C0 dX12_isHeld_149 rfl 1 rfl ?_
      refine r_aload_n C0 dX12_isHeld_150 rfl 1 rfl ?_
      refine r_iload_n C0 dX12_isHeld_151 rfl 2 rfl ?_
      refine r_iload C0 dX12_isHeld_152 5 rfl ?_
      refine callV2 C0 h (hD _) mw_X12_held rv_m tm_X12_72 (fun y hy => c_X12_held hy) (Nat.le_of_ble_eq_true rfl) (Nat.le_of_ble_eq_true rfl) dX12_isHeld_154 (fun r16 h => ?_)
      refine r_iconst C0 dX12_isHeld_157 ki_2 ?_
      refine r_isub C0 dX12_isHeld_158 ?_
      refine callV1 C0 h (hD _) mw_X12_grams rv_m tm_X12_95 (fun y hy => c_X12_grams hy) (Nat.le_of_ble_eq_true rfl) (Nat.le_of_ble_eq_true rfl) dX12_isHeld_159 (fun r17 h => ?_)
      refine r_i2l C0 dX12_isHeld_162 ?_
      refine r_iload C0 dX12_isHeld_163 5 rfl ?_
      refine r_aload_n C0 dX12_isHeld_165 rfl 1 rfl ?_
      refine r_iload C0 dX12_isHeld_166 4 rfl ?_
      refine r_iconst C0 dX12_isHeld_168 ki_1 ?_
      refine callV2 C0 h (hD _) mw_X12_lineIs rv_m tm_X12_58 (fun y hy => c_X12_lineIs hy) (Nat.le_of_ble_eq_true rfl) (Nat.le_of_ble_eq_true rfl) dX12_isHeld_169 (fun r18 h => ?_)
      refine r_isub C0 dX12_isHeld_172 ?_
      refine r_i2l C0 dX12_isHeld_173 ?_
      refine r_lmul C0 dX12_isHeld_174 ?_
      refine r_ladd C0 dX12_isHeld_175 ?_
      obtain ⟨a19, h8, h⟩ := op_bind h
      have e8 := Option.some.inj h8
      refine r_lstore (lv2 := [(5, .long a19), (3, .long a15), (0, .ref (a 0)), (1, .int v1), (7, .int v7), (8, .int x.2.2)]) C0 dX12_isHeld_176 e8 (Nat.le_of_ble_eq_true rfl) rfl ?_
      exact r_sub [2, 3, 1, 0, 4, 5] rfl (w_X12_isHeld_j178 C0 hD h hz)
    · refine r_goto C0 178 dX12_isHeld_127 rfl ?_
      exact r_sub [0, 1, 2, 3, 4, 5] rfl (w_X12_isHeld_j178 C0 hD h hz)
theorem w_X12_isHeld_B106_lp {x : Int64 × Int64 × Int32} {z : (Int32)} {Γ : Gam} {cy : Nat → ClassId} {a : Nat → Nat} {V : VT} {X : va_W} {v1 : Int32} {v7 : Int32}  (C0 : CXg Γ cX12_isHeld 9 5 RX12 cy) (hD : DM Γ cy a X) (h : lp (f_X12_isHeld_B106 v1 v7 V) fuel x = some z) (hz : (fun y : Int32 => FinZ Γ cX12_isHeld (WM cy a V X) y) z) : Wp Γ 0 0 106 [(0, .ref (a 0)), (1, .int v1), (3, .long x.1), (5, .long x.2.1), (7, .int v7), (8, .int x.2.2)] [] (WM cy a V X) :=
  lp_rule (hd := (fun x : Int64 × Int64 × Int32 => Wp Γ 0 0 106 [(0, .ref (a 0)), (1, .int v1), (3, .long x.1), (5, .long x.2.1), (7, .int v7), (8, .int x.2.2)] [] (WM cy a V X))) (C := (fun y : Int32 => FinZ Γ cX12_isHeld (WM cy a V X) y)) (fun x z h hz => w_X12_isHeld_B106 C0 hD h hz) _ _ _ h hz
theorem w_X12_isHeld_B87 {x : Int32} {z : ((Int32) ⊕ (Int32))} {Γ : Gam} {cy : Nat → ClassId} {a : Nat → Nat} {V : VT} {X : va_W} {v1 : Int32} {v3 : Int64} {v5 : Int64}  (C0 : CXg Γ cX12_isHeld 9 5 RX12 cy) (hD : DM Γ cy a X) (h : f_X12_isHeld_B87 v1 v3 v5 V x = some z) (hz : (Sum.elim (fun x : Int32 => Wp Γ 0 0 87 [(0, .ref (a 0)), (1, .int v1), (3, .long v3), (5, .long v5), (7, .int x)] [] (WM cy a V X)) (fun y : Int32 => FinZ Γ cX12_isHeld (WM cy a V X) y)) z) : Wp Γ 0 0 87 [(0, .ref (a 0)), (1, .int v1), (3, .long v3), (5, .long v5), (7, .int x)] [] (WM cy a V X) := by
  unfold f_X12_isHeld_B87 at h
  refine r_aload_n C0 dX12_isHeld_87 rfl 0 rfl ?_
  refine r_iload C0 dX12_isHeld_88 4 rfl ?_
  refine r_iload_n C0 dX12_isHeld_90 rfl 1 rfl ?_
  refine callV2 C0 h (hD _) mw_X12_holds rv_m tm_X12_89 (fun y hy => c_X12_holds hy) (Nat.le_of_ble_eq_true rfl) (Nat.le_of_ble_eq_true rfl) dX12_isHeld_91 (fun r6 h => ?_)
  refine r_if_ne C0 103 dX12_isHeld_94 rfl h (fun _ h => ?_) (fun _ h => ?_)
  · obtain ⟨y7, h5, h9⟩ := op_bind h
    clear h
    cases h9
    have hz := (el_inr hz)
    have h := h5
    refine r_iconst C0 dX12_isHeld_103 ki_0 ?_
    obtain ⟨a8, h8, h⟩ := op_bind h
    have e8 := Option.some.inj h8
    refine r_istore (lv2 := [(8, .int a8), (0, .ref (a 0)), (1, .int v1), (3, .long v3), (5, .long v5), (7, .int x)]) C0 dX12_isHeld_104 e8 (Nat.le_of_ble_eq_true rfl) rfl ?_
    exact r_sub [1, 2, 3, 4, 5, 0] rfl (w_X12_isHeld_B106_lp C0 hD h hz)
  · obtain ⟨a21, h8, h⟩ := op_bind h
    have e8 := Option.some.inj h8
    refine r_iinc (lv2 := [(7, .int a21), (0, .ref (a 0)), (1, .int v1), (3, .long v3), (5, .long v5)]) C0 dX12_isHeld_97 4 rfl ki_1 e8 (Nat.le_of_ble_eq_true rfl) rfl ?_
    refine r_goto C0 87 dX12_isHeld_100 rfl ?_
    cases h
    have hz := el_inl hz
    exact r_sub [1, 2, 3, 4, 0] rfl hz
theorem w_X12_isHeld_B87_lp {x : Int32} {z : (Int32)} {Γ : Gam} {cy : Nat → ClassId} {a : Nat → Nat} {V : VT} {X : va_W} {v1 : Int32} {v3 : Int64} {v5 : Int64}  (C0 : CXg Γ cX12_isHeld 9 5 RX12 cy) (hD : DM Γ cy a X) (h : lp (f_X12_isHeld_B87 v1 v3 v5 V) fuel x = some z) (hz : (fun y : Int32 => FinZ Γ cX12_isHeld (WM cy a V X) y) z) : Wp Γ 0 0 87 [(0, .ref (a 0)), (1, .int v1), (3, .long v3), (5, .long v5), (7, .int x)] [] (WM cy a V X) :=
  lp_rule (hd := (fun x : Int32 => Wp Γ 0 0 87 [(0, .ref (a 0)), (1, .int v1), (3, .long v3), (5, .long v5), (7, .int x)] [] (WM cy a V X))) (C := (fun y : Int32 => FinZ Γ cX12_isHeld (WM cy a V X) y)) (fun x z h hz => w_X12_isHeld_B87 C0 hD h hz) _ _ _ h hz
theorem w_X12_isHeld_j71 {z : ((Int32) ⊕ (Int32))} {Γ : Gam} {cy : Nat → ClassId} {a : Nat → Nat} {V : VT} {X : va_W} {v1 : Int32} {v3 : Int32}  (C0 : CXg Γ cX12_isHeld 9 5 RX12 cy) (hD : DM Γ cy a X) (h : f_X12_isHeld_j71 v1 v3 V = some z) (hz : (Sum.elim (fun x : Int32 => Wp Γ 0 0 29 [(0, .ref (a 0)), (1, .int v1), (3, .int x)] [] (WM cy a V X)) (fun y : Int32 => FinZ Γ cX12_isHeld (WM cy a V X) y)) z) : Wp Γ 0 0 71 [(0, .ref (a 0)), (1, .int v1), (3, .int v3)] [] (WM cy a V X) := by
  unfold f_X12_isHeld_j71 at h
  obtain ⟨a26, h8, h⟩ := op_bind h
  have e8 := Option.some.inj h8
  refine r_iinc (lv2 := [(3, .int a26), (0, .ref (a 0)), (1, .int v1)]) C0 dX12_isHeld_71 2 rfl ki_1 e8 (Nat.le_of_ble_eq_true rfl) rfl ?_
  refine r_goto C0 29 dX12_isHeld_74 rfl ?_
  cases h
  have hz := el_inl hz
  exact r_sub [1, 2, 0] rfl hz
theorem w_X12_isHeld_B29 {x : Int32} {z : ((Int32) ⊕ (Int32))} {Γ : Gam} {cy : Nat → ClassId} {a : Nat → Nat} {V : VT} {X : va_W} {v1 : Int32}  (C0 : CXg Γ cX12_isHeld 9 5 RX12 cy) (hD : DM Γ cy a X) (h : f_X12_isHeld_B29 v1 V x = some z) (hz : (Sum.elim (fun x : Int32 => Wp Γ 0 0 29 [(0, .ref (a 0)), (1, .int v1), (3, .int x)] [] (WM cy a V X)) (fun y : Int32 => FinZ Γ cX12_isHeld (WM cy a V X) y)) z) : Wp Γ 0 0 29 [(0, .ref (a 0)), (1, .int v1), (3, .int x)] [] (WM cy a V X) := by
  unfold f_X12_isHeld_B29 at h
  refine r_iload_n C0 dX12_isHeld_29 rfl 2 rfl ?_
  refine r_aload_n C0 dX12_isHeld_30 rfl 0 rfl ?_
  refine wmg_0_0 C0 tf_X12_7 dX12_isHeld_31 ?_
  refine r_sipush C0 dX12_isHeld_34 ks_1640 ?_
  refine wmal_1 C0 h dX12_isHeld_37 (fun k23 h => ?_)
  refine r_icmp_ge C0 77 dX12_isHeld_38 rfl h (fun _ h => ?_) (fun _ h => ?_)
  · obtain ⟨y24, h5, h9⟩ := op_bind h
    clear h
    cases h9
    have hz := (el_inr hz)
    have h := h5
    refine r_iconst C0 dX12_isHeld_77 ki_1 ?_
    cases h
    exact hz _ _ nz_1 dX12_isHeld_78
  · refine r_aload_n C0 dX12_isHeld_41 rfl 0 rfl ?_
    refine r_iload_n C0 dX12_isHeld_42 rfl 2 rfl ?_
    refine r_iload_n C0 dX12_isHeld_43 rfl 1 rfl ?_
    refine callV2 C0 h (hD _) mw_X12_holds rv_m tm_X12_89 (fun y hy => c_X12_holds hy) (Nat.le_of_ble_eq_true rfl) (Nat.le_of_ble_eq_true rfl) dX12_isHeld_44 (fun r25 h => ?_)
    refine r_if_eq C0 71 dX12_isHeld_47 rfl h (fun _ h => ?_) (fun _ h => ?_)
    · exact r_sub [0, 1, 2] rfl (w_X12_isHeld_j71 C0 hD h hz)
    · refine r_aload_n C0 dX12_isHeld_50 rfl 0 rfl ?_
      refine r_iload_n C0 dX12_isHeld_51 rfl 2 rfl ?_
      refine callV1 C0 h (hD _) mw_X12_shareOf rv_m tm_X12_108 (fun y hy => c_X12_shareOf hy) (Nat.le_of_ble_eq_true rfl) (Nat.le_of_ble_eq_true rfl) dX12_isHeld_52 (fun r27 h => ?_)
      refine r_ldc2 C0 tk_X12_93 dX12_isHeld_55 ?_
      refine r_aload_n C0 dX12_isHeld_58 rfl 0 rfl ?_
      refine r_iload_n C0 dX12_isHeld_59 rfl 2 rfl ?_
      refine callV1 C0 h (hD _) mw_X12_weakest rv_m tm_X12_112 (fun y hy => c_X12_weakest hy) (Nat.le_of_ble_eq_true rfl) (Nat.le_of_ble_eq_true rfl) dX12_isHeld_60 (fun r28 h => ?_)
      refine r_i2l C0 dX12_isHeld_63 ?_
      refine r_lmul C0 dX12_isHeld_64 ?_
      refine r_lcmp C0 dX12_isHeld_65 ?_
      refine r_if_le C0 71 dX12_isHeld_66 rfl h (fun _ h => ?_) (fun _ h => ?_)
      · exact r_sub [0, 1, 2] rfl (w_X12_isHeld_j71 C0 hD h hz)
      · obtain ⟨y29, h5, h9⟩ := op_bind h
        clear h
        cases h9
        have hz := (el_inr hz)
        have h := h5
        refine r_iconst C0 dX12_isHeld_69 ki_0 ?_
        cases h
        exact hz _ _ nz_0 dX12_isHeld_70
theorem w_X12_isHeld_B29_lp {x : Int32} {z : (Int32)} {Γ : Gam} {cy : Nat → ClassId} {a : Nat → Nat} {V : VT} {X : va_W} {v1 : Int32}  (C0 : CXg Γ cX12_isHeld 9 5 RX12 cy) (hD : DM Γ cy a X) (h : lp (f_X12_isHeld_B29 v1 V) fuel x = some z) (hz : (fun y : Int32 => FinZ Γ cX12_isHeld (WM cy a V X) y) z) : Wp Γ 0 0 29 [(0, .ref (a 0)), (1, .int v1), (3, .int x)] [] (WM cy a V X) :=
  lp_rule (hd := (fun x : Int32 => Wp Γ 0 0 29 [(0, .ref (a 0)), (1, .int v1), (3, .int x)] [] (WM cy a V X))) (C := (fun y : Int32 => FinZ Γ cX12_isHeld (WM cy a V X) y)) (fun x z h hz => w_X12_isHeld_B29 C0 hD h hz) _ _ _ h hz
theorem w_X12_isHeld {z : Int32} {Γ : Gam} {cy : Nat → ClassId} {a : Nat → Nat} {V : VT} {X : va_W} {v1 : Int32}  (C0 : CXg Γ cX12_isHeld 9 5 RX12 cy) (hD : DM Γ cy a X) (h : f_X12_isHeld v1 V = some z) (hz : (fun y : Int32 => FinZ Γ cX12_isHeld (WM cy a V X) y) z) : Wp Γ 0 0 0 [(0, .ref (a 0)), (1, .int v1)] [] (WM cy a V X) := by
  unfold f_X12_isHeld at h
  refine r_aload_n C0 dX12_isHeld_0 rfl 0 rfl ?_
  refine r_iload_n C0 dX12_isHeld_1 rfl 1 rfl ?_
  refine callV1 C0 h (hD _) mw_X12_things rv_m tm_X12_102 (fun y hy => c_X12_things hy) (Nat.le_of_ble_eq_true rfl) (Nat.le_of_ble_eq_true rfl) dX12_isHeld_2 (fun r1 h => ?_)
  refine r_if_ne C0 10 dX12_isHeld_5 rfl h (fun _ h => ?_) (fun _ h => ?_)
  · refine r_aload_n C0 dX12_isHeld_10 rfl 0 rfl ?_
    refine r_iload_n C0 dX12_isHeld_11 rfl 1 rfl ?_
    refine callV1 C0 h (hD _) mw_X12_lines rv_m tm_X12_105 (fun y hy => c_X12_lines hy) (Nat.le_of_ble_eq_true rfl) (Nat.le_of_ble_eq_true rfl) dX12_isHeld_12 (fun r2 h => ?_)
    refine r_istore_n (lv2 := [(2, .int r2), (0, .ref (a 0)), (1, .int v1)]) C0 dX12_isHeld_15 rfl rfl (Nat.le_of_ble_eq_true rfl) rfl ?_
    refine r_iload_n C0 dX12_isHeld_16 rfl 0 rfl ?_
    refine r_if_ne C0 22 dX12_isHeld_17 rfl h (fun _ h => ?_) (fun _ h => ?_)
    · refine r_iload_n C0 dX12_isHeld_22 rfl 0 rfl ?_
      refine r_iconst C0 dX12_isHeld_23 ki_1 ?_
      refine r_icmp_le C0 79 dX12_isHeld_24 rfl h (fun _ h => ?_) (fun _ h => ?_)
      · refine r_lconst (v := 0) C0 dX12_isHeld_79 (by decide) ?_
        obtain ⟨a3, h8, h⟩ := op_bind h
        have e8 := Option.some.inj h8
        refine r_lstore_n (lv2 := [(3, .long a3), (2, .int r2), (0, .ref (a 0)), (1, .int v1)]) C0 dX12_isHeld_80 rfl e8 (Nat.le_of_ble_eq_true rfl) rfl ?_
        refine r_lconst (v := 0) C0 dX12_isHeld_81 (by decide) ?_
        obtain ⟨a4, h8, h⟩ := op_bind h
        have e8 := Option.some.inj h8
        refine r_lstore (lv2 := [(5, .long a4), (3, .long a3), (2, .int r2), (0, .ref (a 0)), (1, .int v1)]) C0 dX12_isHeld_82 e8 (Nat.le_of_ble_eq_true rfl) rfl ?_
        refine r_iconst C0 dX12_isHeld_84 ki_0 ?_
        obtain ⟨a5, h8, h⟩ := op_bind h
        have e8 := Option.some.inj h8
        refine r_istore (lv2 := [(7, .int a5), (5, .long a4), (3, .long a3), (2, .int r2), (0, .ref (a 0)), (1, .int v1)]) C0 dX12_isHeld_85 e8 (Nat.le_of_ble_eq_true rfl) rfl ?_
        exact r_sub [4, 5, 2, 1, 0] rfl (w_X12_isHeld_B87_lp C0 hD h hz)
      · refine r_iconst C0 dX12_isHeld_27 ki_0 ?_
        obtain ⟨a22, h8, h⟩ := op_bind h
        have e8 := Option.some.inj h8
        refine r_istore_n (lv2 := [(3, .int a22), (2, .int r2), (0, .ref (a 0)), (1, .int v1)]) C0 dX12_isHeld_28 rfl e8 (Nat.le_of_ble_eq_true rfl) rfl ?_
        exact r_sub [2, 3, 0] rfl (w_X12_isHeld_B29_lp C0 hD h hz)
    · refine r_iconst C0 dX12_isHeld_20 ki_0 ?_
      cases h
      exact hz _ _ nz_0 dX12_isHeld_21
  · refine r_iconst C0 dX12_isHeld_8 ki_1 ?_
    cases h
    exact hz _ _ nz_1 dX12_isHeld_9
theorem c_X12_isHeld {l : Launch} {D : va_G} {cy : Nat → ClassId} {a : Nat → Nat} {V : VT} {X : va_W} {v1 : Int32} {y : Int32} (h : f_X12_isHeld v1 V = some y) : CT l D cy yX12_isHeld cX12_isHeld 9 (some .boolean) 5 [.ref (a 0), .int v1] (WM cy a V X) (WM cy a V X) (some (.int y)) :=
  mkZ (by decide) (Nat.le_of_ble_eq_true rfl) (fun Γ _ _ C0 hD hF => w_X12_isHeld C0 (dm_of hD) h hF)
theorem dX12_clash_0 : decode cX12_clash 0 = .ok (.iload_n 3, 1) := by decide +kernel
theorem dX12_clash_1 : decode cX12_clash 1 = .ok (.invokestatic 115, 3) := by decide +kernel
theorem dX12_clash_4 : decode cX12_clash 4 = .ok (.ifCond .eq 21, 3) := by decide +kernel
theorem dX12_clash_7 : decode cX12_clash 7 = .ok (.aload_n 0, 1) := by decide +kernel
theorem dX12_clash_8 : decode cX12_clash 8 = .ok (.iload_n 3, 1) := by decide +kernel
theorem dX12_clash_9 : decode cX12_clash 9 = .ok (.invokevirtual 66, 3) := by decide +kernel
theorem dX12_clash_12 : decode cX12_clash 12 = .ok (.ifCond .eq 13, 3) := by decide +kernel
theorem dX12_clash_15 : decode cX12_clash 15 = .ok (.aload_n 0, 1) := by decide +kernel
theorem dX12_clash_16 : decode cX12_clash 16 = .ok (.iload_n 3, 1) := by decide +kernel
theorem dX12_clash_17 : decode cX12_clash 17 = .ok (.iload 5, 2) := by decide +kernel
theorem dX12_clash_19 : decode cX12_clash 19 = .ok (.invokevirtual 118, 3) := by decide +kernel
theorem dX12_clash_22 : decode cX12_clash 22 = .ok (.ifCond .ne 5, 3) := by decide +kernel
theorem dX12_clash_25 : decode cX12_clash 25 = .ok (.iconst 0, 1) := by decide +kernel
theorem dX12_clash_26 : decode cX12_clash 26 = .ok (.ireturn, 1) := by decide +kernel
theorem dX12_clash_27 : decode cX12_clash 27 = .ok (.aload_n 0, 1) := by decide +kernel
theorem dX12_clash_28 : decode cX12_clash 28 = .ok (.iload_n 1, 1) := by decide +kernel
theorem dX12_clash_29 : decode cX12_clash 29 = .ok (.iload 5, 2) := by decide +kernel
theorem dX12_clash_31 : decode cX12_clash 31 = .ok (.invokevirtual 72, 3) := by decide +kernel
theorem dX12_clash_34 : decode cX12_clash 34 = .ok (.iconst 2, 1) := by decide +kernel
theorem dX12_clash_35 : decode cX12_clash 35 = .ok (.isub, 1) := by decide +kernel
theorem dX12_clash_36 : decode cX12_clash 36 = .ok (.istore 6, 2) := by decide +kernel
theorem dX12_clash_38 : decode cX12_clash 38 = .ok (.aload_n 0, 1) := by decide +kernel
theorem dX12_clash_39 : decode cX12_clash 39 = .ok (.iload_n 3, 1) := by decide +kernel
theorem dX12_clash_40 : decode cX12_clash 40 = .ok (.iload 5, 2) := by decide +kernel
theorem dX12_clash_42 : decode cX12_clash 42 = .ok (.invokevirtual 72, 3) := by decide +kernel
theorem dX12_clash_45 : decode cX12_clash 45 = .ok (.iconst 2, 1) := by decide +kernel
theorem dX12_clash_46 : decode cX12_clash 46 = .ok (.isub, 1) := by decide +kernel
theorem dX12_clash_47 : decode cX12_clash 47 = .ok (.istore 7, 2) := by decide +kernel
theorem dX12_clash_49 : decode cX12_clash 49 = .ok (.iload 6, 2) := by decide +kernel
theorem dX12_clash_51 : decode cX12_clash 51 = .ok (.ifCond .lt 15, 3) := by decide +kernel
theorem dX12_clash_54 : decode cX12_clash 54 = .ok (.iload 7, 2) := by decide +kernel
theorem dX12_clash_56 : decode cX12_clash 56 = .ok (.ifCond .lt 10, 3) := by decide +kernel
theorem dX12_clash_59 : decode cX12_clash 59 = .ok (.iload 6, 2) := by decide +kernel
theorem dX12_clash_61 : decode cX12_clash 61 = .ok (.iload 7, 2) := by decide +kernel
theorem dX12_clash_63 : decode cX12_clash 63 = .ok (.if_icmp .ne 5, 3) := by decide +kernel
theorem dX12_clash_66 : decode cX12_clash 66 = .ok (.iconst 0, 1) := by decide +kernel
theorem dX12_clash_67 : decode cX12_clash 67 = .ok (.ireturn, 1) := by decide +kernel
theorem dX12_clash_68 : decode cX12_clash 68 = .ok (.aload_n 0, 1) := by decide +kernel
theorem dX12_clash_69 : decode cX12_clash 69 = .ok (.iload 6, 2) := by decide +kernel
theorem dX12_clash_71 : decode cX12_clash 71 = .ok (.iconst 1, 1) := by decide +kernel
theorem dX12_clash_72 : decode cX12_clash 72 = .ok (.invokevirtual 75, 3) := by decide +kernel
theorem dX12_clash_75 : decode cX12_clash 75 = .ok (.aload_n 0, 1) := by decide +kernel
theorem dX12_clash_76 : decode cX12_clash 76 = .ok (.iload 7, 2) := by decide +kernel
theorem dX12_clash_78 : decode cX12_clash 78 = .ok (.iconst 1, 1) := by decide +kernel
theorem dX12_clash_79 : decode cX12_clash 79 = .ok (.invokevirtual 75, 3) := by decide +kernel
theorem dX12_clash_82 : decode cX12_clash 82 = .ok (.iadd, 1) := by decide +kernel
theorem dX12_clash_83 : decode cX12_clash 83 = .ok (.istore 8, 2) := by decide +kernel
theorem dX12_clash_85 : decode cX12_clash 85 = .ok (.aload_n 0, 1) := by decide +kernel
theorem dX12_clash_86 : decode cX12_clash 86 = .ok (.iload_n 1, 1) := by decide +kernel
theorem dX12_clash_87 : decode cX12_clash 87 = .ok (.iload_n 3, 1) := by decide +kernel
theorem dX12_clash_88 : decode cX12_clash 88 = .ok (.if_icmp .ge 7, 3) := by decide +kernel
theorem dX12_clash_91 : decode cX12_clash 91 = .ok (.iload_n 1, 1) := by decide +kernel
theorem dX12_clash_92 : decode cX12_clash 92 = .ok (.goto 4, 3) := by decide +kernel
theorem dX12_clash_95 : decode cX12_clash 95 = .ok (.iload_n 3, 1) := by decide +kernel
theorem dX12_clash_96 : decode cX12_clash 96 = .ok (.invokevirtual 121, 3) := by decide +kernel
theorem dX12_clash_99 : decode cX12_clash 99 = .ok (.istore 9, 2) := by decide +kernel
theorem dX12_clash_101 : decode cX12_clash 101 = .ok (.aload_n 0, 1) := by decide +kernel
theorem dX12_clash_102 : decode cX12_clash 102 = .ok (.iload 6, 2) := by decide +kernel
theorem dX12_clash_104 : decode cX12_clash 104 = .ok (.iconst 0, 1) := by decide +kernel
theorem dX12_clash_105 : decode cX12_clash 105 = .ok (.invokevirtual 75, 3) := by decide +kernel
theorem dX12_clash_108 : decode cX12_clash 108 = .ok (.iconst 3, 1) := by decide +kernel
theorem dX12_clash_109 : decode cX12_clash 109 = .ok (.if_icmp .ge 14, 3) := by decide +kernel
theorem dX12_clash_112 : decode cX12_clash 112 = .ok (.aload_n 0, 1) := by decide +kernel
theorem dX12_clash_113 : decode cX12_clash 113 = .ok (.iload 7, 2) := by decide +kernel
theorem dX12_clash_115 : decode cX12_clash 115 = .ok (.iconst 0, 1) := by decide +kernel
theorem dX12_clash_116 : decode cX12_clash 116 = .ok (.invokevirtual 75, 3) := by decide +kernel
theorem dX12_clash_119 : decode cX12_clash 119 = .ok (.iconst 3, 1) := by decide +kernel
theorem dX12_clash_120 : decode cX12_clash 120 = .ok (.if_icmp .lt 7, 3) := by decide +kernel
theorem dX12_clash_123 : decode cX12_clash 123 = .ok (.iconst 1, 1) := by decide +kernel
theorem dX12_clash_124 : decode cX12_clash 124 = .ok (.goto 4, 3) := by decide +kernel
theorem dX12_clash_127 : decode cX12_clash 127 = .ok (.iconst 0, 1) := by decide +kernel
theorem dX12_clash_128 : decode cX12_clash 128 = .ok (.istore 10, 2) := by decide +kernel
theorem dX12_clash_130 : decode cX12_clash 130 = .ok (.iload 8, 2) := by decide +kernel
theorem dX12_clash_132 : decode cX12_clash 132 = .ok (.iload 9, 2) := by decide +kernel
theorem dX12_clash_134 : decode cX12_clash 134 = .ok (.if_icmp .lt 15, 3) := by decide +kernel
theorem dX12_clash_137 : decode cX12_clash 137 = .ok (.iload 8, 2) := by decide +kernel
theorem dX12_clash_139 : decode cX12_clash 139 = .ok (.iload 9, 2) := by decide +kernel
theorem dX12_clash_141 : decode cX12_clash 141 = .ok (.if_icmp .ne 10, 3) := by decide +kernel
theorem dX12_clash_144 : decode cX12_clash 144 = .ok (.iload 10, 2) := by decide +kernel
theorem dX12_clash_146 : decode cX12_clash 146 = .ok (.ifCond .ne 5, 3) := by decide +kernel
theorem dX12_clash_149 : decode cX12_clash 149 = .ok (.iconst 0, 1) := by decide +kernel
theorem dX12_clash_150 : decode cX12_clash 150 = .ok (.ireturn, 1) := by decide +kernel
theorem dX12_clash_151 : decode cX12_clash 151 = .ok (.iload_n 2, 1) := by decide +kernel
theorem dX12_clash_152 : decode cX12_clash 152 = .ok (.aload_n 0, 1) := by decide +kernel
theorem dX12_clash_153 : decode cX12_clash 153 = .ok (.iload 6, 2) := by decide +kernel
theorem dX12_clash_155 : decode cX12_clash 155 = .ok (.iconst 2, 1) := by decide +kernel
theorem dX12_clash_156 : decode cX12_clash 156 = .ok (.invokevirtual 75, 3) := by decide +kernel
theorem dX12_clash_159 : decode cX12_clash 159 = .ok (.isub, 1) := by decide +kernel
theorem dX12_clash_160 : decode cX12_clash 160 = .ok (.iload 4, 2) := by decide +kernel
theorem dX12_clash_162 : decode cX12_clash 162 = .ok (.if_icmp .ge 21, 3) := by decide +kernel
theorem dX12_clash_165 : decode cX12_clash 165 = .ok (.iload 4, 2) := by decide +kernel
theorem dX12_clash_167 : decode cX12_clash 167 = .ok (.aload_n 0, 1) := by decide +kernel
theorem dX12_clash_168 : decode cX12_clash 168 = .ok (.iload 7, 2) := by decide +kernel
theorem dX12_clash_170 : decode cX12_clash 170 = .ok (.iconst 2, 1) := by decide +kernel
theorem dX12_clash_171 : decode cX12_clash 171 = .ok (.invokevirtual 75, 3) := by decide +kernel
theorem dX12_clash_174 : decode cX12_clash 174 = .ok (.isub, 1) := by decide +kernel
theorem dX12_clash_175 : decode cX12_clash 175 = .ok (.iload_n 2, 1) := by decide +kernel
theorem dX12_clash_176 : decode cX12_clash 176 = .ok (.if_icmp .ge 7, 3) := by decide +kernel
theorem dX12_clash_179 : decode cX12_clash 179 = .ok (.iconst 1, 1) := by decide +kernel
theorem dX12_clash_180 : decode cX12_clash 180 = .ok (.goto 4, 3) := by decide +kernel
theorem dX12_clash_183 : decode cX12_clash 183 = .ok (.iconst 0, 1) := by decide +kernel
theorem dX12_clash_184 : decode cX12_clash 184 = .ok (.ireturn, 1) := by decide +kernel
theorem w_X12_clash_j183 {z : (Int32)} {Γ : Gam} {cy : Nat → ClassId} {a : Nat → Nat} {V : VT} {X : va_W}  (C0 : CXg Γ cX12_clash 11 3 RX12 cy) (hD : DM Γ cy a X) (h : f_X12_clash_j183 V = some z) (hz : (fun y : Int32 => FinZ Γ cX12_clash (WM cy a V X) y) z) : Wp Γ 0 0 183 [] [] (WM cy a V X) := by
  unfold f_X12_clash_j183 at h
  refine r_iconst C0 dX12_clash_183 ki_0 ?_
  cases h
  exact hz _ _ nz_0 dX12_clash_184
theorem w_X12_clash_j151 {z : (Int32)} {Γ : Gam} {cy : Nat → ClassId} {a : Nat → Nat} {V : VT} {X : va_W} {v2 : Int32} {v4 : Int32} {v6 : Int32} {v7 : Int32}  (C0 : CXg Γ cX12_clash 11 3 RX12 cy) (hD : DM Γ cy a X) (h : f_X12_clash_j151 v2 v4 v6 v7 V = some z) (hz : (fun y : Int32 => FinZ Γ cX12_clash (WM cy a V X) y) z) : Wp Γ 0 0 151 [(0, .ref (a 0)), (2, .int v2), (4, .int v4), (6, .int v6), (7, .int v7)] [] (WM cy a V X) := by
  unfold f_X12_clash_j151 at h
  refine r_iload_n C0 dX12_clash_151 rfl 1 rfl ?_
  refine r_aload_n C0 dX12_clash_152 rfl 0 rfl ?_
  refine r_iload C0 dX12_clash_153 3 rfl ?_
  refine r_iconst C0 dX12_clash_155 ki_2 ?_
  refine callV2 C0 h (hD _) mw_X12_thingIs rv_m tm_X12_75 (fun y hy => c_X12_thingIs hy) (Nat.le_of_ble_eq_true rfl) (Nat.le_of_ble_eq_true rfl) dX12_clash_156 (fun r13 h => ?_)
  refine r_isub C0 dX12_clash_159 ?_
  refine r_iload C0 dX12_clash_160 2 rfl ?_
  refine r_icmp_ge C0 183 dX12_clash_162 rfl h (fun _ h => ?_) (fun _ h => ?_)
  · exact r_sub [] rfl (w_X12_clash_j183 C0 hD h hz)
  · refine r_iload C0 dX12_clash_165 2 rfl ?_
    refine r_aload_n C0 dX12_clash_167 rfl 0 rfl ?_
    refine r_iload C0 dX12_clash_168 4 rfl ?_
    refine r_iconst C0 dX12_clash_170 ki_2 ?_
    refine callV2 C0 h (hD _) mw_X12_thingIs rv_m tm_X12_75 (fun y hy => c_X12_thingIs hy) (Nat.le_of_ble_eq_true rfl) (Nat.le_of_ble_eq_true rfl) dX12_clash_171 (fun r14 h => ?_)
    refine r_isub C0 dX12_clash_174 ?_
    refine r_iload_n C0 dX12_clash_175 rfl 1 rfl ?_
    refine r_icmp_ge C0 183 dX12_clash_176 rfl h (fun _ h => ?_) (fun _ h => ?_)
    · exact r_sub [] rfl (w_X12_clash_j183 C0 hD h hz)
    · refine r_iconst C0 dX12_clash_179 ki_1 ?_
      refine r_goto C0 184 dX12_clash_180 rfl ?_
      cases h
      exact hz _ _ nz_1 dX12_clash_184
theorem w_X12_clash_j128 {z : (Int32)} {Γ : Gam} {cy : Nat → ClassId} {a : Nat → Nat} {V : VT} {X : va_W} {v2 : Int32} {v4 : Int32} {v6 : Int32} {v7 : Int32} {v8 : Int32} {v9 : Int32} {s0 : Int32}  (C0 : CXg Γ cX12_clash 11 3 RX12 cy) (hD : DM Γ cy a X) (h : f_X12_clash_j128 v2 v4 v6 v7 v8 v9 s0 V = some z) (hz : (fun y : Int32 => FinZ Γ cX12_clash (WM cy a V X) y) z) : Wp Γ 0 0 128 [(0, .ref (a 0)), (2, .int v2), (4, .int v4), (6, .int v6), (7, .int v7), (8, .int v8), (9, .int v9)] [.int s0] (WM cy a V X) := by
  unfold f_X12_clash_j128 at h
  refine r_istore (lv2 := [(10, .int s0), (0, .ref (a 0)), (2, .int v2), (4, .int v4), (6, .int v6), (7, .int v7), (8, .int v8), (9, .int v9)]) C0 dX12_clash_128 rfl (Nat.le_of_ble_eq_true rfl) rfl ?_
  refine r_iload C0 dX12_clash_130 6 rfl ?_
  refine r_iload C0 dX12_clash_132 7 rfl ?_
  refine r_icmp_lt C0 149 dX12_clash_134 rfl h (fun _ h => ?_) (fun _ h => ?_)
  · refine r_iconst C0 dX12_clash_149 ki_0 ?_
    cases h
    exact hz _ _ nz_0 dX12_clash_150
  · refine r_iload C0 dX12_clash_137 6 rfl ?_
    refine r_iload C0 dX12_clash_139 7 rfl ?_
    refine r_icmp_ne C0 151 dX12_clash_141 rfl h (fun _ h => ?_) (fun _ h => ?_)
    · exact r_sub [1, 2, 3, 4, 5] rfl (w_X12_clash_j151 C0 hD h hz)
    · refine r_iload C0 dX12_clash_144 0 rfl ?_
      refine r_if_ne C0 151 dX12_clash_146 rfl h (fun _ h => ?_) (fun _ h => ?_)
      · exact r_sub [1, 2, 3, 4, 5] rfl (w_X12_clash_j151 C0 hD h hz)
      · refine r_iconst C0 dX12_clash_149 ki_0 ?_
        cases h
        exact hz _ _ nz_0 dX12_clash_150
theorem w_X12_clash_j123 {z : (Int32)} {Γ : Gam} {cy : Nat → ClassId} {a : Nat → Nat} {V : VT} {X : va_W} {v2 : Int32} {v4 : Int32} {v6 : Int32} {v7 : Int32} {v8 : Int32} {v9 : Int32}  (C0 : CXg Γ cX12_clash 11 3 RX12 cy) (hD : DM Γ cy a X) (h : f_X12_clash_j123 v2 v4 v6 v7 v8 v9 V = some z) (hz : (fun y : Int32 => FinZ Γ cX12_clash (WM cy a V X) y) z) : Wp Γ 0 0 123 [(0, .ref (a 0)), (2, .int v2), (4, .int v4), (6, .int v6), (7, .int v7), (8, .int v8), (9, .int v9)] [] (WM cy a V X) := by
  unfold f_X12_clash_j123 at h
  refine r_iconst C0 dX12_clash_123 ki_1 ?_
  refine r_goto C0 128 dX12_clash_124 rfl ?_
  exact r_sub [0, 1, 2, 3, 4, 5, 6] rfl (w_X12_clash_j128 C0 hD h hz)
theorem w_X12_clash_j96 {z : (Int32)} {Γ : Gam} {cy : Nat → ClassId} {a : Nat → Nat} {V : VT} {X : va_W} {v2 : Int32} {v4 : Int32} {v6 : Int32} {v7 : Int32} {v8 : Int32} {s1 : Int32}  (C0 : CXg Γ cX12_clash 11 3 RX12 cy) (hD : DM Γ cy a X) (h : f_X12_clash_j96 v2 v4 v6 v7 v8 s1 V = some z) (hz : (fun y : Int32 => FinZ Γ cX12_clash (WM cy a V X) y) z) : Wp Γ 0 0 96 [(0, .ref (a 0)), (2, .int v2), (4, .int v4), (6, .int v6), (7, .int v7), (8, .int v8)] [.int s1, .ref (a 0)] (WM cy a V X) := by
  unfold f_X12_clash_j96 at h
  refine callV1 C0 h (hD _) mw_X12_gap rv_m tm_X12_121 (fun y hy => c_X12_gap hy) (Nat.le_of_ble_eq_true rfl) (Nat.le_of_ble_eq_true rfl) dX12_clash_96 (fun r11 h => ?_)
  refine r_istore (lv2 := [(9, .int r11), (0, .ref (a 0)), (2, .int v2), (4, .int v4), (6, .int v6), (7, .int v7), (8, .int v8)]) C0 dX12_clash_99 rfl (Nat.le_of_ble_eq_true rfl) rfl ?_
  refine r_aload_n C0 dX12_clash_101 rfl 1 rfl ?_
  refine r_iload C0 dX12_clash_102 4 rfl ?_
  refine r_iconst C0 dX12_clash_104 ki_0 ?_
  refine callV2 C0 h (hD _) mw_X12_thingIs rv_m tm_X12_75 (fun y hy => c_X12_thingIs hy) (Nat.le_of_ble_eq_true rfl) (Nat.le_of_ble_eq_true rfl) dX12_clash_105 (fun r12 h => ?_)
  refine r_iconst C0 dX12_clash_108 ki_3 ?_
  refine r_icmp_ge C0 123 dX12_clash_109 rfl h (fun _ h => ?_) (fun _ h => ?_)
  · exact r_sub [1, 2, 3, 4, 5, 6, 0] rfl (w_X12_clash_j123 C0 hD h hz)
  · refine r_aload_n C0 dX12_clash_112 rfl 1 rfl ?_
    refine r_iload C0 dX12_clash_113 5 rfl ?_
    refine r_iconst C0 dX12_clash_115 ki_0 ?_
    refine callV2 C0 h (hD _) mw_X12_thingIs rv_m tm_X12_75 (fun y hy => c_X12_thingIs hy) (Nat.le_of_ble_eq_true rfl) (Nat.le_of_ble_eq_true rfl) dX12_clash_116 (fun r15 h => ?_)
    refine r_iconst C0 dX12_clash_119 ki_3 ?_
    refine r_icmp_lt C0 127 dX12_clash_120 rfl h (fun _ h => ?_) (fun _ h => ?_)
    · refine r_iconst C0 dX12_clash_127 ki_0 ?_
      exact r_sub [1, 2, 3, 4, 5, 6, 0] rfl (w_X12_clash_j128 C0 hD h hz)
    · exact r_sub [1, 2, 3, 4, 5, 6, 0] rfl (w_X12_clash_j123 C0 hD h hz)
theorem w_X12_clash {z : Int32} {Γ : Gam} {cy : Nat → ClassId} {a : Nat → Nat} {V : VT} {X : va_W} {v1 : Int32} {v2 : Int32} {v3 : Int32} {v4 : Int32} {v5 : Int32}  (C0 : CXg Γ cX12_clash 11 3 RX12 cy) (hD : DM Γ cy a X) (h : f_X12_clash v1 v2 v3 v4 v5 V = some z) (hz : (fun y : Int32 => FinZ Γ cX12_clash (WM cy a V X) y) z) : Wp Γ 0 0 0 [(0, .ref (a 0)), (1, .int v1), (2, .int v2), (3, .int v3), (4, .int v4), (5, .int v5)] [] (WM cy a V X) := by
  unfold f_X12_clash at h
  refine r_iload_n C0 dX12_clash_0 rfl 3 rfl ?_
  refine callS1 C0 h (hD _) ms_X12_isBar tm_X12_115 (fun y hy => c_X12_isBar hy) (Nat.le_of_ble_eq_true rfl) (Nat.le_of_ble_eq_true rfl) dX12_clash_1 (fun r1 h => ?_)
  refine r_if_eq C0 25 dX12_clash_4 rfl h (fun _ h => ?_) (fun _ h => ?_)
  · refine r_iconst C0 dX12_clash_25 ki_0 ?_
    cases h
    exact hz _ _ nz_0 dX12_clash_26
  · refine r_aload_n C0 dX12_clash_7 rfl 0 rfl ?_
    refine r_iload_n C0 dX12_clash_8 rfl 3 rfl ?_
    refine callV1 C0 h (hD _) mw_X12_isRigged rv_m tm_X12_66 (fun y hy => c_X12_isRigged hy) (Nat.le_of_ble_eq_true rfl) (Nat.le_of_ble_eq_true rfl) dX12_clash_9 (fun r2 h => ?_)
    refine r_if_eq C0 25 dX12_clash_12 rfl h (fun _ h => ?_) (fun _ h => ?_)
    · refine r_iconst C0 dX12_clash_25 ki_0 ?_
      cases h
      exact hz _ _ nz_0 dX12_clash_26
    · refine r_aload_n C0 dX12_clash_15 rfl 0 rfl ?_
      refine r_iload_n C0 dX12_clash_16 rfl 3 rfl ?_
      refine r_iload C0 dX12_clash_17 5 rfl ?_
      refine callV2 C0 h (hD _) mw_X12_isPlace rv_m tm_X12_118 (fun y hy => c_X12_isPlace hy) (Nat.le_of_ble_eq_true rfl) (Nat.le_of_ble_eq_true rfl) dX12_clash_19 (fun r3 h => ?_)
      refine r_if_ne C0 27 dX12_clash_22 rfl h (fun _ h => ?_) (fun _ h => ?_)
      · refine r_aload_n C0 dX12_clash_27 rfl 0 rfl ?_
        refine r_iload_n C0 dX12_clash_28 rfl 1 rfl ?_
        refine r_iload C0 dX12_clash_29 5 rfl ?_
        refine callV2 C0 h (hD _) mw_X12_held rv_m tm_X12_72 (fun y hy => c_X12_held hy) (Nat.le_of_ble_eq_true rfl) (Nat.le_of_ble_eq_true rfl) dX12_clash_31 (fun r4 h => ?_)
        refine r_iconst C0 dX12_clash_34 ki_2 ?_
        refine r_isub C0 dX12_clash_35 ?_
        obtain ⟨a5, h8, h⟩ := op_bind h
        have e8 := Option.some.inj h8
        refine r_istore (lv2 := [(6, .int a5), (0, .ref (a 0)), (1, .int v1), (2, .int v2), (3, .int v3), (4, .int v4), (5, .int v5)]) C0 dX12_clash_36 e8 (Nat.le_of_ble_eq_true rfl) rfl ?_
        refine r_aload_n C0 dX12_clash_38 rfl 1 rfl ?_
        refine r_iload_n C0 dX12_clash_39 rfl 4 rfl ?_
        refine r_iload C0 dX12_clash_40 6 rfl ?_
        refine callV2 C0 h (hD _) mw_X12_held rv_m tm_X12_72 (fun y hy => c_X12_held hy) (Nat.le_of_ble_eq_true rfl) (Nat.le_of_ble_eq_true rfl) dX12_clash_42 (fun r6 h => ?_)
        refine r_iconst C0 dX12_clash_45 ki_2 ?_
        refine r_isub C0 dX12_clash_46 ?_
        obtain ⟨a7, h8, h⟩ := op_bind h
        have e8 := Option.some.inj h8
        refine r_istore (lv2 := [(7, .int a7), (6, .int a5), (0, .ref (a 0)), (1, .int v1), (2, .int v2), (3, .int v3), (4, .int v4), (5, .int v5)]) C0 dX12_clash_47 e8 (Nat.le_of_ble_eq_true rfl) rfl ?_
        refine r_iload C0 dX12_clash_49 1 rfl ?_
        refine r_if_lt C0 66 dX12_clash_51 rfl h (fun _ h => ?_) (fun _ h => ?_)
        · refine r_iconst C0 dX12_clash_66 ki_0 ?_
          cases h
          exact hz _ _ nz_0 dX12_clash_67
        · refine r_iload C0 dX12_clash_54 0 rfl ?_
          refine r_if_lt C0 66 dX12_clash_56 rfl h (fun _ h => ?_) (fun _ h => ?_)
          · refine r_iconst C0 dX12_clash_66 ki_0 ?_
            cases h
            exact hz _ _ nz_0 dX12_clash_67
          · refine r_iload C0 dX12_clash_59 1 rfl ?_
            refine r_iload C0 dX12_clash_61 0 rfl ?_
            refine r_icmp_ne C0 68 dX12_clash_63 rfl h (fun _ h => ?_) (fun _ h => ?_)
            · refine r_aload_n C0 dX12_clash_68 rfl 2 rfl ?_
              refine r_iload C0 dX12_clash_69 1 rfl ?_
              refine r_iconst C0 dX12_clash_71 ki_1 ?_
              refine callV2 C0 h (hD _) mw_X12_thingIs rv_m tm_X12_75 (fun y hy => c_X12_thingIs hy) (Nat.le_of_ble_eq_true rfl) (Nat.le_of_ble_eq_true rfl) dX12_clash_72 (fun r8 h => ?_)
              refine r_aload_n C0 dX12_clash_75 rfl 2 rfl ?_
              refine r_iload C0 dX12_clash_76 0 rfl ?_
              refine r_iconst C0 dX12_clash_78 ki_1 ?_
              refine callV2 C0 h (hD _) mw_X12_thingIs rv_m tm_X12_75 (fun y hy => c_X12_thingIs hy) (Nat.le_of_ble_eq_true rfl) (Nat.le_of_ble_eq_true rfl) dX12_clash_79 (fun r9 h => ?_)
              refine r_iadd C0 dX12_clash_82 ?_
              obtain ⟨a10, h8, h⟩ := op_bind h
              have e8 := Option.some.inj h8
              refine r_istore (lv2 := [(8, .int a10), (7, .int a7), (6, .int a5), (0, .ref (a 0)), (1, .int v1), (2, .int v2), (3, .int v3), (4, .int v4), (5, .int v5)]) C0 dX12_clash_83 e8 (Nat.le_of_ble_eq_true rfl) rfl ?_
              refine r_aload_n C0 dX12_clash_85 rfl 3 rfl ?_
              refine r_iload_n C0 dX12_clash_86 rfl 4 rfl ?_
              refine r_iload_n C0 dX12_clash_87 rfl 6 rfl ?_
              refine r_icmp_ge C0 95 dX12_clash_88 rfl h (fun _ h => ?_) (fun _ h => ?_)
              · refine r_iload_n C0 dX12_clash_95 rfl 6 rfl ?_
                exact r_sub [3, 5, 7, 2, 1, 0] rfl (w_X12_clash_j96 C0 hD h hz)
              · refine r_iload_n C0 dX12_clash_91 rfl 4 rfl ?_
                refine r_goto C0 96 dX12_clash_92 rfl ?_
                exact r_sub [3, 5, 7, 2, 1, 0] rfl (w_X12_clash_j96 C0 hD h hz)
            · refine r_iconst C0 dX12_clash_66 ki_0 ?_
              cases h
              exact hz _ _ nz_0 dX12_clash_67
      · refine r_iconst C0 dX12_clash_25 ki_0 ?_
        cases h
        exact hz _ _ nz_0 dX12_clash_26
theorem c_X12_clash {l : Launch} {D : va_G} {cy : Nat → ClassId} {a : Nat → Nat} {V : VT} {X : va_W} {v1 : Int32} {v2 : Int32} {v3 : Int32} {v4 : Int32} {v5 : Int32} {y : Int32} (h : f_X12_clash v1 v2 v3 v4 v5 V = some y) : CT l D cy yX12_clash cX12_clash 11 (some .boolean) 3 [.ref (a 0), .int v1, .int v2, .int v3, .int v4, .int v5] (WM cy a V X) (WM cy a V X) (some (.int y)) :=
  mkZ (by decide) (Nat.le_of_ble_eq_true rfl) (fun Γ _ _ C0 hD hF => w_X12_clash C0 (dm_of hD) h hF)
theorem dX12_clashing_0 : decode cX12_clashing 0 = .ok (.iconst (-1), 1) := by decide +kernel
theorem dX12_clashing_1 : decode cX12_clashing 1 = .ok (.istore_n 3, 1) := by decide +kernel
theorem dX12_clashing_2 : decode cX12_clashing 2 = .ok (.iload_n 1, 1) := by decide +kernel
theorem dX12_clashing_3 : decode cX12_clashing 3 = .ok (.iconst 1, 1) := by decide +kernel
theorem dX12_clashing_4 : decode cX12_clashing 4 = .ok (.isub, 1) := by decide +kernel
theorem dX12_clashing_5 : decode cX12_clashing 5 = .ok (.istore 4, 2) := by decide +kernel
theorem dX12_clashing_7 : decode cX12_clashing 7 = .ok (.iload 4, 2) := by decide +kernel
theorem dX12_clashing_9 : decode cX12_clashing 9 = .ok (.iload_n 1, 1) := by decide +kernel
theorem dX12_clashing_10 : decode cX12_clashing 10 = .ok (.iconst 1, 1) := by decide +kernel
theorem dX12_clashing_11 : decode cX12_clashing 11 = .ok (.iadd, 1) := by decide +kernel
theorem dX12_clashing_12 : decode cX12_clashing 12 = .ok (.if_icmp .gt 70, 3) := by decide +kernel
theorem dX12_clashing_15 : decode cX12_clashing 15 = .ok (.iload 4, 2) := by decide +kernel
theorem dX12_clashing_17 : decode cX12_clashing 17 = .ok (.invokestatic 115, 3) := by decide +kernel
theorem dX12_clashing_20 : decode cX12_clashing 20 = .ok (.ifCond .eq 56, 3) := by decide +kernel
theorem dX12_clashing_23 : decode cX12_clashing 23 = .ok (.aload_n 0, 1) := by decide +kernel
theorem dX12_clashing_24 : decode cX12_clashing 24 = .ok (.iload_n 1, 1) := by decide +kernel
theorem dX12_clashing_25 : decode cX12_clashing 25 = .ok (.aload_n 0, 1) := by decide +kernel
theorem dX12_clashing_26 : decode cX12_clashing 26 = .ok (.iload_n 1, 1) := by decide +kernel
theorem dX12_clashing_27 : decode cX12_clashing 27 = .ok (.invokevirtual 124, 3) := by decide +kernel
theorem dX12_clashing_30 : decode cX12_clashing 30 = .ok (.iload 4, 2) := by decide +kernel
theorem dX12_clashing_32 : decode cX12_clashing 32 = .ok (.aload_n 0, 1) := by decide +kernel
theorem dX12_clashing_33 : decode cX12_clashing 33 = .ok (.iload 4, 2) := by decide +kernel
theorem dX12_clashing_35 : decode cX12_clashing 35 = .ok (.invokevirtual 124, 3) := by decide +kernel
theorem dX12_clashing_38 : decode cX12_clashing 38 = .ok (.iload_n 2, 1) := by decide +kernel
theorem dX12_clashing_39 : decode cX12_clashing 39 = .ok (.invokevirtual 127, 3) := by decide +kernel
theorem dX12_clashing_42 : decode cX12_clashing 42 = .ok (.ifCond .ne 6, 3) := by decide +kernel
theorem dX12_clashing_45 : decode cX12_clashing 45 = .ok (.goto 31, 3) := by decide +kernel
theorem dX12_clashing_48 : decode cX12_clashing 48 = .ok (.aload_n 0, 1) := by decide +kernel
theorem dX12_clashing_49 : decode cX12_clashing 49 = .ok (.iload 4, 2) := by decide +kernel
theorem dX12_clashing_51 : decode cX12_clashing 51 = .ok (.iload_n 2, 1) := by decide +kernel
theorem dX12_clashing_52 : decode cX12_clashing 52 = .ok (.invokevirtual 72, 3) := by decide +kernel
theorem dX12_clashing_55 : decode cX12_clashing 55 = .ok (.iconst 2, 1) := by decide +kernel
theorem dX12_clashing_56 : decode cX12_clashing 56 = .ok (.isub, 1) := by decide +kernel
theorem dX12_clashing_57 : decode cX12_clashing 57 = .ok (.istore 5, 2) := by decide +kernel
theorem dX12_clashing_59 : decode cX12_clashing 59 = .ok (.iload_n 3, 1) := by decide +kernel
theorem dX12_clashing_60 : decode cX12_clashing 60 = .ok (.ifCond .lt 9, 3) := by decide +kernel
theorem dX12_clashing_63 : decode cX12_clashing 63 = .ok (.iload 5, 2) := by decide +kernel
theorem dX12_clashing_65 : decode cX12_clashing 65 = .ok (.iload_n 3, 1) := by decide +kernel
theorem dX12_clashing_66 : decode cX12_clashing 66 = .ok (.if_icmp .ge 8, 3) := by decide +kernel
theorem dX12_clashing_69 : decode cX12_clashing 69 = .ok (.iload 5, 2) := by decide +kernel
theorem dX12_clashing_71 : decode cX12_clashing 71 = .ok (.goto 4, 3) := by decide +kernel
theorem dX12_clashing_74 : decode cX12_clashing 74 = .ok (.iload_n 3, 1) := by decide +kernel
theorem dX12_clashing_75 : decode cX12_clashing 75 = .ok (.istore_n 3, 1) := by decide +kernel
theorem dX12_clashing_76 : decode cX12_clashing 76 = .ok (.iinc 4 2, 3) := by decide +kernel
theorem dX12_clashing_79 : decode cX12_clashing 79 = .ok (.goto (-72), 3) := by decide +kernel
theorem dX12_clashing_82 : decode cX12_clashing 82 = .ok (.iload_n 3, 1) := by decide +kernel
theorem dX12_clashing_83 : decode cX12_clashing 83 = .ok (.ireturn, 1) := by decide +kernel
theorem w_X12_clashing_j76 {z : ((Int32 × Int32) ⊕ (Int32))} {Γ : Gam} {cy : Nat → ClassId} {a : Nat → Nat} {V : VT} {X : va_W} {v1 : Int32} {v2 : Int32} {v3 : Int32} {v4 : Int32}  (C0 : CXg Γ cX12_clashing 6 4 RX12 cy) (hD : DM Γ cy a X) (h : f_X12_clashing_j76 v1 v2 v3 v4 V = some z) (hz : (Sum.elim (fun x : Int32 × Int32 => Wp Γ 0 0 7 [(0, .ref (a 0)), (1, .int v1), (2, .int v2), (3, .int x.1), (4, .int x.2)] [] (WM cy a V X)) (fun y : Int32 => FinI Γ cX12_clashing (WM cy a V X) y)) z) : Wp Γ 0 0 76 [(0, .ref (a 0)), (1, .int v1), (2, .int v2), (3, .int v3), (4, .int v4)] [] (WM cy a V X) := by
  unfold f_X12_clashing_j76 at h
  obtain ⟨a5, h8, h⟩ := op_bind h
  have e8 := Option.some.inj h8
  refine r_iinc (lv2 := [(4, .int a5), (0, .ref (a 0)), (1, .int v1), (2, .int v2), (3, .int v3)]) C0 dX12_clashing_76 4 rfl ki_2 e8 (Nat.le_of_ble_eq_true rfl) rfl ?_
  refine r_goto C0 7 dX12_clashing_79 rfl ?_
  cases h
  have hz := el_inl hz
  exact r_sub [1, 2, 3, 4, 0] rfl hz
theorem w_X12_clashing_j75 {z : ((Int32 × Int32) ⊕ (Int32))} {Γ : Gam} {cy : Nat → ClassId} {a : Nat → Nat} {V : VT} {X : va_W} {v1 : Int32} {v2 : Int32} {v4 : Int32} {s0 : Int32}  (C0 : CXg Γ cX12_clashing 6 4 RX12 cy) (hD : DM Γ cy a X) (h : f_X12_clashing_j75 v1 v2 v4 s0 V = some z) (hz : (Sum.elim (fun x : Int32 × Int32 => Wp Γ 0 0 7 [(0, .ref (a 0)), (1, .int v1), (2, .int v2), (3, .int x.1), (4, .int x.2)] [] (WM cy a V X)) (fun y : Int32 => FinI Γ cX12_clashing (WM cy a V X) y)) z) : Wp Γ 0 0 75 [(0, .ref (a 0)), (1, .int v1), (2, .int v2), (4, .int v4)] [.int s0] (WM cy a V X) := by
  unfold f_X12_clashing_j75 at h
  refine r_istore_n (lv2 := [(3, .int s0), (0, .ref (a 0)), (1, .int v1), (2, .int v2), (4, .int v4)]) C0 dX12_clashing_75 rfl rfl (Nat.le_of_ble_eq_true rfl) rfl ?_
  exact r_sub [1, 2, 3, 0, 4] rfl (w_X12_clashing_j76 C0 hD h hz)
theorem w_X12_clashing_j69 {z : ((Int32 × Int32) ⊕ (Int32))} {Γ : Gam} {cy : Nat → ClassId} {a : Nat → Nat} {V : VT} {X : va_W} {v1 : Int32} {v2 : Int32} {v4 : Int32} {v5 : Int32}  (C0 : CXg Γ cX12_clashing 6 4 RX12 cy) (hD : DM Γ cy a X) (h : f_X12_clashing_j69 v1 v2 v4 v5 V = some z) (hz : (Sum.elim (fun x : Int32 × Int32 => Wp Γ 0 0 7 [(0, .ref (a 0)), (1, .int v1), (2, .int v2), (3, .int x.1), (4, .int x.2)] [] (WM cy a V X)) (fun y : Int32 => FinI Γ cX12_clashing (WM cy a V X) y)) z) : Wp Γ 0 0 69 [(0, .ref (a 0)), (1, .int v1), (2, .int v2), (4, .int v4), (5, .int v5)] [] (WM cy a V X) := by
  unfold f_X12_clashing_j69 at h
  refine r_iload C0 dX12_clashing_69 4 rfl ?_
  refine r_goto C0 75 dX12_clashing_71 rfl ?_
  exact r_sub [0, 1, 2, 3] rfl (w_X12_clashing_j75 C0 hD h hz)
theorem w_X12_clashing_B7 {x : Int32 × Int32} {z : ((Int32 × Int32) ⊕ (Int32))} {Γ : Gam} {cy : Nat → ClassId} {a : Nat → Nat} {V : VT} {X : va_W} {v1 : Int32} {v2 : Int32}  (C0 : CXg Γ cX12_clashing 6 4 RX12 cy) (hD : DM Γ cy a X) (h : f_X12_clashing_B7 v1 v2 V x = some z) (hz : (Sum.elim (fun x : Int32 × Int32 => Wp Γ 0 0 7 [(0, .ref (a 0)), (1, .int v1), (2, .int v2), (3, .int x.1), (4, .int x.2)] [] (WM cy a V X)) (fun y : Int32 => FinI Γ cX12_clashing (WM cy a V X) y)) z) : Wp Γ 0 0 7 [(0, .ref (a 0)), (1, .int v1), (2, .int v2), (3, .int x.1), (4, .int x.2)] [] (WM cy a V X) := by
  unfold f_X12_clashing_B7 at h
  refine r_iload C0 dX12_clashing_7 4 rfl ?_
  refine r_iload_n C0 dX12_clashing_9 rfl 1 rfl ?_
  refine r_iconst C0 dX12_clashing_10 ki_1 ?_
  refine r_iadd C0 dX12_clashing_11 ?_
  refine r_icmp_gt C0 82 dX12_clashing_12 rfl h (fun _ h => ?_) (fun _ h => ?_)
  · obtain ⟨y3, h5, h9⟩ := op_bind h
    clear h
    cases h9
    have hz := (el_inr hz)
    have h := h5
    refine r_iload_n C0 dX12_clashing_82 rfl 3 rfl ?_
    cases h
    exact hz _ _ dX12_clashing_83
  · refine r_iload C0 dX12_clashing_15 4 rfl ?_
    refine callS1 C0 h (hD _) ms_X12_isBar tm_X12_115 (fun y hy => c_X12_isBar hy) (Nat.le_of_ble_eq_true rfl) (Nat.le_of_ble_eq_true rfl) dX12_clashing_17 (fun r4 h => ?_)
    refine r_if_eq C0 76 dX12_clashing_20 rfl h (fun _ h => ?_) (fun _ h => ?_)
    · exact r_sub [0, 1, 2, 3, 4] rfl (w_X12_clashing_j76 C0 hD h hz)
    · refine r_aload_n C0 dX12_clashing_23 rfl 0 rfl ?_
      refine r_iload_n C0 dX12_clashing_24 rfl 1 rfl ?_
      refine r_aload_n C0 dX12_clashing_25 rfl 0 rfl ?_
      refine r_iload_n C0 dX12_clashing_26 rfl 1 rfl ?_
      refine callV1 C0 h (hD _) mw_X12_height rv_m tm_X12_124 (fun y hy => c_X12_height hy) (Nat.le_of_ble_eq_true rfl) (Nat.le_of_ble_eq_true rfl) dX12_clashing_27 (fun r6 h => ?_)
      refine r_iload C0 dX12_clashing_30 4 rfl ?_
      refine r_aload_n C0 dX12_clashing_32 rfl 0 rfl ?_
      refine r_iload C0 dX12_clashing_33 4 rfl ?_
      refine callV1 C0 h (hD _) mw_X12_height rv_m tm_X12_124 (fun y hy => c_X12_height hy) (Nat.le_of_ble_eq_true rfl) (Nat.le_of_ble_eq_true rfl) dX12_clashing_35 (fun r7 h => ?_)
      refine r_iload_n C0 dX12_clashing_38 rfl 2 rfl ?_
      refine callV5 C0 h (hD _) mw_X12_clash rv_m tm_X12_127 (fun y hy => c_X12_clash hy) (Nat.le_of_ble_eq_true rfl) (Nat.le_of_ble_eq_true rfl) dX12_clashing_39 (fun r8 h => ?_)
      refine r_if_ne C0 48 dX12_clashing_42 rfl h (fun _ h => ?_) (fun _ h => ?_)
      · refine r_aload_n C0 dX12_clashing_48 rfl 0 rfl ?_
        refine r_iload C0 dX12_clashing_49 4 rfl ?_
        refine r_iload_n C0 dX12_clashing_51 rfl 2 rfl ?_
        refine callV2 C0 h (hD _) mw_X12_held rv_m tm_X12_72 (fun y hy => c_X12_held hy) (Nat.le_of_ble_eq_true rfl) (Nat.le_of_ble_eq_true rfl) dX12_clashing_52 (fun r9 h => ?_)
        refine r_iconst C0 dX12_clashing_55 ki_2 ?_
        refine r_isub C0 dX12_clashing_56 ?_
        obtain ⟨a10, h8, h⟩ := op_bind h
        have e8 := Option.some.inj h8
        refine r_istore (lv2 := [(5, .int a10), (0, .ref (a 0)), (1, .int v1), (2, .int v2), (3, .int x.1), (4, .int x.2)]) C0 dX12_clashing_57 e8 (Nat.le_of_ble_eq_true rfl) rfl ?_
        refine r_iload_n C0 dX12_clashing_59 rfl 4 rfl ?_
        refine r_if_lt C0 69 dX12_clashing_60 rfl h (fun _ h => ?_) (fun _ h => ?_)
        · exact r_sub [1, 2, 3, 5, 0] rfl (w_X12_clashing_j69 C0 hD h hz)
        · refine r_iload C0 dX12_clashing_63 0 rfl ?_
          refine r_iload_n C0 dX12_clashing_65 rfl 4 rfl ?_
          refine r_icmp_ge C0 74 dX12_clashing_66 rfl h (fun _ h => ?_) (fun _ h => ?_)
          · refine r_iload_n C0 dX12_clashing_74 rfl 4 rfl ?_
            exact r_sub [1, 2, 3, 5] rfl (w_X12_clashing_j75 C0 hD h hz)
          · exact r_sub [1, 2, 3, 5, 0] rfl (w_X12_clashing_j69 C0 hD h hz)
      · refine r_goto C0 76 dX12_clashing_45 rfl ?_
        exact r_sub [0, 1, 2, 3, 4] rfl (w_X12_clashing_j76 C0 hD h hz)
theorem w_X12_clashing_B7_lp {x : Int32 × Int32} {z : (Int32)} {Γ : Gam} {cy : Nat → ClassId} {a : Nat → Nat} {V : VT} {X : va_W} {v1 : Int32} {v2 : Int32}  (C0 : CXg Γ cX12_clashing 6 4 RX12 cy) (hD : DM Γ cy a X) (h : lp (f_X12_clashing_B7 v1 v2 V) fuel x = some z) (hz : (fun y : Int32 => FinI Γ cX12_clashing (WM cy a V X) y) z) : Wp Γ 0 0 7 [(0, .ref (a 0)), (1, .int v1), (2, .int v2), (3, .int x.1), (4, .int x.2)] [] (WM cy a V X) :=
  lp_rule (hd := (fun x : Int32 × Int32 => Wp Γ 0 0 7 [(0, .ref (a 0)), (1, .int v1), (2, .int v2), (3, .int x.1), (4, .int x.2)] [] (WM cy a V X))) (C := (fun y : Int32 => FinI Γ cX12_clashing (WM cy a V X) y)) (fun x z h hz => w_X12_clashing_B7 C0 hD h hz) _ _ _ h hz
theorem w_X12_clashing {z : Int32} {Γ : Gam} {cy : Nat → ClassId} {a : Nat → Nat} {V : VT} {X : va_W} {v1 : Int32} {v2 : Int32}  (C0 : CXg Γ cX12_clashing 6 4 RX12 cy) (hD : DM Γ cy a X) (h : f_X12_clashing v1 v2 V = some z) (hz : (fun y : Int32 => FinI Γ cX12_clashing (WM cy a V X) y) z) : Wp Γ 0 0 0 [(0, .ref (a 0)), (1, .int v1), (2, .int v2)] [] (WM cy a V X) := by
  unfold f_X12_clashing at h
  refine r_iconst C0 dX12_clashing_0 ki_m1 ?_
  obtain ⟨a1, h8, h⟩ := op_bind h
  have e8 := Option.some.inj h8
  refine r_istore_n (lv2 := [(3, .int a1), (0, .ref (a 0)), (1, .int v1), (2, .int v2)]) C0 dX12_clashing_1 rfl e8 (Nat.le_of_ble_eq_true rfl) rfl ?_
  refine r_iload_n C0 dX12_clashing_2 rfl 2 rfl ?_
  refine r_iconst C0 dX12_clashing_3 ki_1 ?_
  refine r_isub C0 dX12_clashing_4 ?_
  obtain ⟨a2, h8, h⟩ := op_bind h
  have e8 := Option.some.inj h8
  refine r_istore (lv2 := [(4, .int a2), (3, .int a1), (0, .ref (a 0)), (1, .int v1), (2, .int v2)]) C0 dX12_clashing_5 e8 (Nat.le_of_ble_eq_true rfl) rfl ?_
  exact r_sub [2, 3, 4, 1, 0] rfl (w_X12_clashing_B7_lp C0 hD h hz)
theorem c_X12_clashing {l : Launch} {D : va_G} {cy : Nat → ClassId} {a : Nat → Nat} {V : VT} {X : va_W} {v1 : Int32} {v2 : Int32} {y : Int32} (h : f_X12_clashing v1 v2 V = some y) : CT l D cy yX12_clashing cX12_clashing 6 (some .int) 4 [.ref (a 0), .int v1, .int v2] (WM cy a V X) (WM cy a V X) (some (.int y)) :=
  mkI (by decide) (Nat.le_of_ble_eq_true rfl) (fun Γ _ _ C0 hD hF => w_X12_clashing C0 (dm_of hD) h hF)
theorem dX12_lesser_0 : decode cX12_lesser 0 = .ok (.iload_n 0, 1) := by decide +kernel
theorem dX12_lesser_1 : decode cX12_lesser 1 = .ok (.ifCond .ge 7, 3) := by decide +kernel
theorem dX12_lesser_4 : decode cX12_lesser 4 = .ok (.iload_n 1, 1) := by decide +kernel
theorem dX12_lesser_5 : decode cX12_lesser 5 = .ok (.goto 21, 3) := by decide +kernel
theorem dX12_lesser_8 : decode cX12_lesser 8 = .ok (.iload_n 1, 1) := by decide +kernel
theorem dX12_lesser_9 : decode cX12_lesser 9 = .ok (.ifCond .ge 7, 3) := by decide +kernel
theorem dX12_lesser_12 : decode cX12_lesser 12 = .ok (.iload_n 0, 1) := by decide +kernel
theorem dX12_lesser_13 : decode cX12_lesser 13 = .ok (.goto 13, 3) := by decide +kernel
theorem dX12_lesser_16 : decode cX12_lesser 16 = .ok (.iload_n 0, 1) := by decide +kernel
theorem dX12_lesser_17 : decode cX12_lesser 17 = .ok (.iload_n 1, 1) := by decide +kernel
theorem dX12_lesser_18 : decode cX12_lesser 18 = .ok (.if_icmp .ge 7, 3) := by decide +kernel
theorem dX12_lesser_21 : decode cX12_lesser 21 = .ok (.iload_n 0, 1) := by decide +kernel
theorem dX12_lesser_22 : decode cX12_lesser 22 = .ok (.goto 4, 3) := by decide +kernel
theorem dX12_lesser_25 : decode cX12_lesser 25 = .ok (.iload_n 1, 1) := by decide +kernel
theorem dX12_lesser_26 : decode cX12_lesser 26 = .ok (.ireturn, 1) := by decide +kernel
theorem w_X12_lesser {z : Int32} {Γ : Gam} {cy : Nat → ClassId} {a : Nat → Nat} {V : VT} {X : va_W} {v0 : Int32} {v1 : Int32}  (C0 : CXg Γ cX12_lesser 2 0 RX12 cy) (hD : DM Γ cy a X) (h : f_X12_lesser v0 v1 V = some z) (hz : (fun y : Int32 => FinI Γ cX12_lesser (WM cy a V X) y) z) : Wp Γ 0 0 0 [(0, .int v0), (1, .int v1)] [] (WM cy a V X) := by
  unfold f_X12_lesser at h
  refine r_iload_n C0 dX12_lesser_0 rfl 0 rfl ?_
  refine r_if_ge C0 8 dX12_lesser_1 rfl h (fun _ h => ?_) (fun _ h => ?_)
  · refine r_iload_n C0 dX12_lesser_8 rfl 1 rfl ?_
    refine r_if_ge C0 16 dX12_lesser_9 rfl h (fun _ h => ?_) (fun _ h => ?_)
    · refine r_iload_n C0 dX12_lesser_16 rfl 0 rfl ?_
      refine r_iload_n C0 dX12_lesser_17 rfl 1 rfl ?_
      refine r_icmp_ge C0 25 dX12_lesser_18 rfl h (fun _ h => ?_) (fun _ h => ?_)
      · refine r_iload_n C0 dX12_lesser_25 rfl 1 rfl ?_
        cases h
        exact hz _ _ dX12_lesser_26
      · refine r_iload_n C0 dX12_lesser_21 rfl 0 rfl ?_
        refine r_goto C0 26 dX12_lesser_22 rfl ?_
        cases h
        exact hz _ _ dX12_lesser_26
    · refine r_iload_n C0 dX12_lesser_12 rfl 0 rfl ?_
      refine r_goto C0 26 dX12_lesser_13 rfl ?_
      cases h
      exact hz _ _ dX12_lesser_26
  · refine r_iload_n C0 dX12_lesser_4 rfl 1 rfl ?_
    refine r_goto C0 26 dX12_lesser_5 rfl ?_
    cases h
    exact hz _ _ dX12_lesser_26
theorem c_X12_lesser {l : Launch} {D : va_G} {cy : Nat → ClassId} {a : Nat → Nat} {V : VT} {X : va_W} {v0 : Int32} {v1 : Int32} {y : Int32} (h : f_X12_lesser v0 v1 V = some y) : CT l D cy yX12_lesser cX12_lesser 2 (some .int) 0 [.int v0, .int v1] (WM cy a V X) (WM cy a V X) (some (.int y)) :=
  mkI (by decide) (Nat.le_of_ble_eq_true rfl) (fun Γ _ _ C0 hD hF => w_X12_lesser C0 (dm_of hD) h hF)
theorem dX12_isHot_0 : decode cX12_isHot 0 = .ok (.aload_n 0, 1) := by decide +kernel
theorem dX12_isHot_1 : decode cX12_isHot 1 = .ok (.iload_n 1, 1) := by decide +kernel
theorem dX12_isHot_2 : decode cX12_isHot 2 = .ok (.iconst 0, 1) := by decide +kernel
theorem dX12_isHot_3 : decode cX12_isHot 3 = .ok (.invokevirtual 75, 3) := by decide +kernel
theorem dX12_isHot_6 : decode cX12_isHot 6 = .ok (.iconst 2, 1) := by decide +kernel
theorem dX12_isHot_7 : decode cX12_isHot 7 = .ok (.if_icmp .ne 16, 3) := by decide +kernel
theorem dX12_isHot_10 : decode cX12_isHot 10 = .ok (.aload_n 0, 1) := by decide +kernel
theorem dX12_isHot_11 : decode cX12_isHot 11 = .ok (.iload_n 1, 1) := by decide +kernel
theorem dX12_isHot_12 : decode cX12_isHot 12 = .ok (.iconst 4, 1) := by decide +kernel
theorem dX12_isHot_13 : decode cX12_isHot 13 = .ok (.invokevirtual 75, 3) := by decide +kernel
theorem dX12_isHot_16 : decode cX12_isHot 16 = .ok (.ifCond .le 7, 3) := by decide +kernel
theorem dX12_isHot_19 : decode cX12_isHot 19 = .ok (.iconst 1, 1) := by decide +kernel
theorem dX12_isHot_20 : decode cX12_isHot 20 = .ok (.goto 4, 3) := by decide +kernel
theorem dX12_isHot_23 : decode cX12_isHot 23 = .ok (.iconst 0, 1) := by decide +kernel
theorem dX12_isHot_24 : decode cX12_isHot 24 = .ok (.ireturn, 1) := by decide +kernel
theorem w_X12_isHot_j23 {z : (Int32)} {Γ : Gam} {cy : Nat → ClassId} {a : Nat → Nat} {V : VT} {X : va_W}  (C0 : CXg Γ cX12_isHot 2 1 RX12 cy) (hD : DM Γ cy a X) (h : f_X12_isHot_j23 V = some z) (hz : (fun y : Int32 => FinZ Γ cX12_isHot (WM cy a V X) y) z) : Wp Γ 0 0 23 [] [] (WM cy a V X) := by
  unfold f_X12_isHot_j23 at h
  refine r_iconst C0 dX12_isHot_23 ki_0 ?_
  cases h
  exact hz _ _ nz_0 dX12_isHot_24
theorem w_X12_isHot {z : Int32} {Γ : Gam} {cy : Nat → ClassId} {a : Nat → Nat} {V : VT} {X : va_W} {v1 : Int32}  (C0 : CXg Γ cX12_isHot 2 1 RX12 cy) (hD : DM Γ cy a X) (h : f_X12_isHot v1 V = some z) (hz : (fun y : Int32 => FinZ Γ cX12_isHot (WM cy a V X) y) z) : Wp Γ 0 0 0 [(0, .ref (a 0)), (1, .int v1)] [] (WM cy a V X) := by
  unfold f_X12_isHot at h
  refine r_aload_n C0 dX12_isHot_0 rfl 0 rfl ?_
  refine r_iload_n C0 dX12_isHot_1 rfl 1 rfl ?_
  refine r_iconst C0 dX12_isHot_2 ki_0 ?_
  refine callV2 C0 h (hD _) mw_X12_thingIs rv_m tm_X12_75 (fun y hy => c_X12_thingIs hy) (Nat.le_of_ble_eq_true rfl) (Nat.le_of_ble_eq_true rfl) dX12_isHot_3 (fun r1 h => ?_)
  refine r_iconst C0 dX12_isHot_6 ki_2 ?_
  refine r_icmp_ne C0 23 dX12_isHot_7 rfl h (fun _ h => ?_) (fun _ h => ?_)
  · exact r_sub [] rfl (w_X12_isHot_j23 C0 hD h hz)
  · refine r_aload_n C0 dX12_isHot_10 rfl 0 rfl ?_
    refine r_iload_n C0 dX12_isHot_11 rfl 1 rfl ?_
    refine r_iconst C0 dX12_isHot_12 ki_4 ?_
    refine callV2 C0 h (hD _) mw_X12_thingIs rv_m tm_X12_75 (fun y hy => c_X12_thingIs hy) (Nat.le_of_ble_eq_true rfl) (Nat.le_of_ble_eq_true rfl) dX12_isHot_13 (fun r2 h => ?_)
    refine r_if_le C0 23 dX12_isHot_16 rfl h (fun _ h => ?_) (fun _ h => ?_)
    · exact r_sub [] rfl (w_X12_isHot_j23 C0 hD h hz)
    · refine r_iconst C0 dX12_isHot_19 ki_1 ?_
      refine r_goto C0 24 dX12_isHot_20 rfl ?_
      cases h
      exact hz _ _ nz_1 dX12_isHot_24
theorem c_X12_isHot {l : Launch} {D : va_G} {cy : Nat → ClassId} {a : Nat → Nat} {V : VT} {X : va_W} {v1 : Int32} {y : Int32} (h : f_X12_isHot v1 V = some y) : CT l D cy yX12_isHot cX12_isHot 2 (some .boolean) 1 [.ref (a 0), .int v1] (WM cy a V X) (WM cy a V X) (some (.int y)) :=
  mkZ (by decide) (Nat.le_of_ble_eq_true rfl) (fun Γ _ _ C0 hD hF => w_X12_isHot C0 (dm_of hD) h hF)
theorem dX12_scorched_0 : decode cX12_scorched 0 = .ok (.iconst (-1), 1) := by decide +kernel
theorem dX12_scorched_1 : decode cX12_scorched 1 = .ok (.istore_n 1, 1) := by decide +kernel
theorem dX12_scorched_2 : decode cX12_scorched 2 = .ok (.iconst 0, 1) := by decide +kernel
theorem dX12_scorched_3 : decode cX12_scorched 3 = .ok (.istore_n 2, 1) := by decide +kernel
theorem dX12_scorched_4 : decode cX12_scorched 4 = .ok (.iload_n 2, 1) := by decide +kernel
theorem dX12_scorched_5 : decode cX12_scorched 5 = .ok (.bipush 12, 2) := by decide +kernel
theorem dX12_scorched_7 : decode cX12_scorched 7 = .ok (.if_icmp .ge 146, 3) := by decide +kernel
theorem dX12_scorched_10 : decode cX12_scorched 10 = .ok (.iconst 0, 1) := by decide +kernel
theorem dX12_scorched_11 : decode cX12_scorched 11 = .ok (.istore_n 3, 1) := by decide +kernel
theorem dX12_scorched_12 : decode cX12_scorched 12 = .ok (.iload_n 3, 1) := by decide +kernel
theorem dX12_scorched_13 : decode cX12_scorched 13 = .ok (.aload_n 0, 1) := by decide +kernel
theorem dX12_scorched_14 : decode cX12_scorched 14 = .ok (.iload_n 2, 1) := by decide +kernel
theorem dX12_scorched_15 : decode cX12_scorched 15 = .ok (.invokevirtual 55, 3) := by decide +kernel
theorem dX12_scorched_18 : decode cX12_scorched 18 = .ok (.if_icmp .ge 129, 3) := by decide +kernel
theorem dX12_scorched_21 : decode cX12_scorched 21 = .ok (.aload_n 0, 1) := by decide +kernel
theorem dX12_scorched_22 : decode cX12_scorched 22 = .ok (.iload_n 2, 1) := by decide +kernel
theorem dX12_scorched_23 : decode cX12_scorched 23 = .ok (.invokevirtual 66, 3) := by decide +kernel
theorem dX12_scorched_26 : decode cX12_scorched 26 = .ok (.ifCond .eq 121, 3) := by decide +kernel
theorem dX12_scorched_29 : decode cX12_scorched 29 = .ok (.aload_n 0, 1) := by decide +kernel
theorem dX12_scorched_30 : decode cX12_scorched 30 = .ok (.iload_n 2, 1) := by decide +kernel
theorem dX12_scorched_31 : decode cX12_scorched 31 = .ok (.iload_n 3, 1) := by decide +kernel
theorem dX12_scorched_32 : decode cX12_scorched 32 = .ok (.invokevirtual 72, 3) := by decide +kernel
theorem dX12_scorched_35 : decode cX12_scorched 35 = .ok (.iconst 2, 1) := by decide +kernel
theorem dX12_scorched_36 : decode cX12_scorched 36 = .ok (.isub, 1) := by decide +kernel
theorem dX12_scorched_37 : decode cX12_scorched 37 = .ok (.istore 4, 2) := by decide +kernel
theorem dX12_scorched_39 : decode cX12_scorched 39 = .ok (.iload 4, 2) := by decide +kernel
theorem dX12_scorched_41 : decode cX12_scorched 41 = .ok (.ifCond .lt 100, 3) := by decide +kernel
theorem dX12_scorched_44 : decode cX12_scorched 44 = .ok (.aload_n 0, 1) := by decide +kernel
theorem dX12_scorched_45 : decode cX12_scorched 45 = .ok (.iload 4, 2) := by decide +kernel
theorem dX12_scorched_47 : decode cX12_scorched 47 = .ok (.iconst 0, 1) := by decide +kernel
theorem dX12_scorched_48 : decode cX12_scorched 48 = .ok (.invokevirtual 75, 3) := by decide +kernel
theorem dX12_scorched_51 : decode cX12_scorched 51 = .ok (.iconst 1, 1) := by decide +kernel
theorem dX12_scorched_52 : decode cX12_scorched 52 = .ok (.if_icmp .le 6, 3) := by decide +kernel
theorem dX12_scorched_55 : decode cX12_scorched 55 = .ok (.goto 86, 3) := by decide +kernel
theorem dX12_scorched_58 : decode cX12_scorched 58 = .ok (.iconst 0, 1) := by decide +kernel
theorem dX12_scorched_59 : decode cX12_scorched 59 = .ok (.istore 5, 2) := by decide +kernel
theorem dX12_scorched_61 : decode cX12_scorched 61 = .ok (.iload_n 3, 1) := by decide +kernel
theorem dX12_scorched_62 : decode cX12_scorched 62 = .ok (.iconst 2, 1) := by decide +kernel
theorem dX12_scorched_63 : decode cX12_scorched 63 = .ok (.isub, 1) := by decide +kernel
theorem dX12_scorched_64 : decode cX12_scorched 64 = .ok (.istore 6, 2) := by decide +kernel
theorem dX12_scorched_66 : decode cX12_scorched 66 = .ok (.iload 6, 2) := by decide +kernel
theorem dX12_scorched_68 : decode cX12_scorched 68 = .ok (.iload_n 3, 1) := by decide +kernel
theorem dX12_scorched_69 : decode cX12_scorched 69 = .ok (.iconst 2, 1) := by decide +kernel
theorem dX12_scorched_70 : decode cX12_scorched 70 = .ok (.iadd, 1) := by decide +kernel
theorem dX12_scorched_71 : decode cX12_scorched 71 = .ok (.if_icmp .gt 58, 3) := by decide +kernel
theorem dX12_scorched_74 : decode cX12_scorched 74 = .ok (.iload 5, 2) := by decide +kernel
theorem dX12_scorched_76 : decode cX12_scorched 76 = .ok (.ifCond .ne 40, 3) := by decide +kernel
theorem dX12_scorched_79 : decode cX12_scorched 79 = .ok (.aload_n 0, 1) := by decide +kernel
theorem dX12_scorched_80 : decode cX12_scorched 80 = .ok (.iload_n 2, 1) := by decide +kernel
theorem dX12_scorched_81 : decode cX12_scorched 81 = .ok (.iload 6, 2) := by decide +kernel
theorem dX12_scorched_83 : decode cX12_scorched 83 = .ok (.invokevirtual 118, 3) := by decide +kernel
theorem dX12_scorched_86 : decode cX12_scorched 86 = .ok (.ifCond .eq 34, 3) := by decide +kernel
theorem dX12_scorched_89 : decode cX12_scorched 89 = .ok (.aload_n 0, 1) := by decide +kernel
theorem dX12_scorched_90 : decode cX12_scorched 90 = .ok (.iload_n 2, 1) := by decide +kernel
theorem dX12_scorched_91 : decode cX12_scorched 91 = .ok (.iload 6, 2) := by decide +kernel
theorem dX12_scorched_93 : decode cX12_scorched 93 = .ok (.invokevirtual 72, 3) := by decide +kernel
theorem dX12_scorched_96 : decode cX12_scorched 96 = .ok (.iconst 2, 1) := by decide +kernel
theorem dX12_scorched_97 : decode cX12_scorched 97 = .ok (.if_icmp .lt 23, 3) := by decide +kernel
theorem dX12_scorched_100 : decode cX12_scorched 100 = .ok (.aload_n 0, 1) := by decide +kernel
theorem dX12_scorched_101 : decode cX12_scorched 101 = .ok (.aload_n 0, 1) := by decide +kernel
theorem dX12_scorched_102 : decode cX12_scorched 102 = .ok (.iload_n 2, 1) := by decide +kernel
theorem dX12_scorched_103 : decode cX12_scorched 103 = .ok (.iload 6, 2) := by decide +kernel
theorem dX12_scorched_105 : decode cX12_scorched 105 = .ok (.invokevirtual 72, 3) := by decide +kernel
theorem dX12_scorched_108 : decode cX12_scorched 108 = .ok (.iconst 2, 1) := by decide +kernel
theorem dX12_scorched_109 : decode cX12_scorched 109 = .ok (.isub, 1) := by decide +kernel
theorem dX12_scorched_110 : decode cX12_scorched 110 = .ok (.invokevirtual 131, 3) := by decide +kernel
theorem dX12_scorched_113 : decode cX12_scorched 113 = .ok (.ifCond .eq 7, 3) := by decide +kernel
theorem dX12_scorched_116 : decode cX12_scorched 116 = .ok (.iconst 1, 1) := by decide +kernel
theorem dX12_scorched_117 : decode cX12_scorched 117 = .ok (.goto 4, 3) := by decide +kernel
theorem dX12_scorched_120 : decode cX12_scorched 120 = .ok (.iconst 0, 1) := by decide +kernel
theorem dX12_scorched_121 : decode cX12_scorched 121 = .ok (.istore 5, 2) := by decide +kernel
theorem dX12_scorched_123 : decode cX12_scorched 123 = .ok (.iinc 6 1, 3) := by decide +kernel
theorem dX12_scorched_126 : decode cX12_scorched 126 = .ok (.goto (-60), 3) := by decide +kernel
theorem dX12_scorched_129 : decode cX12_scorched 129 = .ok (.iload 5, 2) := by decide +kernel
theorem dX12_scorched_131 : decode cX12_scorched 131 = .ok (.ifCond .eq 10, 3) := by decide +kernel
theorem dX12_scorched_134 : decode cX12_scorched 134 = .ok (.iload_n 1, 1) := by decide +kernel
theorem dX12_scorched_135 : decode cX12_scorched 135 = .ok (.iload 4, 2) := by decide +kernel
theorem dX12_scorched_137 : decode cX12_scorched 137 = .ok (.invokestatic 134, 3) := by decide +kernel
theorem dX12_scorched_140 : decode cX12_scorched 140 = .ok (.istore_n 1, 1) := by decide +kernel
theorem dX12_scorched_141 : decode cX12_scorched 141 = .ok (.iinc 3 1, 3) := by decide +kernel
theorem dX12_scorched_144 : decode cX12_scorched 144 = .ok (.goto (-132), 3) := by decide +kernel
theorem dX12_scorched_147 : decode cX12_scorched 147 = .ok (.iinc 2 1, 3) := by decide +kernel
theorem dX12_scorched_150 : decode cX12_scorched 150 = .ok (.goto (-146), 3) := by decide +kernel
theorem dX12_scorched_153 : decode cX12_scorched 153 = .ok (.iload_n 1, 1) := by decide +kernel
theorem dX12_scorched_154 : decode cX12_scorched 154 = .ok (.ireturn, 1) := by decide +kernel
theorem w_X12_scorched_j147 {z : ((Int32 × Int32) ⊕ (Int32))} {Γ : Gam} {cy : Nat → ClassId} {a : Nat → Nat} {V : VT} {X : va_W} {v1 : Int32} {v2 : Int32}  (C0 : CXg Γ cX12_scorched 7 3 RX12 cy) (hD : DM Γ cy a X) (h : f_X12_scorched_j147 v1 v2 V = some z) (hz : (Sum.elim (fun x : Int32 × Int32 => Wp Γ 0 0 4 [(0, .ref (a 0)), (1, .int x.1), (2, .int x.2)] [] (WM cy a V X)) (fun y : Int32 => FinI Γ cX12_scorched (WM cy a V X) y)) z) : Wp Γ 0 0 147 [(0, .ref (a 0)), (1, .int v1), (2, .int v2)] [] (WM cy a V X) := by
  unfold f_X12_scorched_j147 at h
  obtain ⟨a7, h8, h⟩ := op_bind h
  have e8 := Option.some.inj h8
  refine r_iinc (lv2 := [(2, .int a7), (0, .ref (a 0)), (1, .int v1)]) C0 dX12_scorched_147 2 rfl ki_1 e8 (Nat.le_of_ble_eq_true rfl) rfl ?_
  refine r_goto C0 4 dX12_scorched_150 rfl ?_
  cases h
  have hz := el_inl hz
  exact r_sub [1, 2, 0] rfl hz
theorem w_X12_scorched_j141 {z : ((Int32 × Int32) ⊕ ((Int32 × Int32) ⊕ (Int32)))} {Γ : Gam} {cy : Nat → ClassId} {a : Nat → Nat} {V : VT} {X : va_W} {v1 : Int32} {v2 : Int32} {v3 : Int32}  (C0 : CXg Γ cX12_scorched 7 3 RX12 cy) (hD : DM Γ cy a X) (h : f_X12_scorched_j141 v1 v2 v3 V = some z) (hz : (Sum.elim (fun x : Int32 × Int32 => Wp Γ 0 0 12 [(0, .ref (a 0)), (1, .int x.1), (2, .int v2), (3, .int x.2)] [] (WM cy a V X)) (Sum.elim (fun x : Int32 × Int32 => Wp Γ 0 0 4 [(0, .ref (a 0)), (1, .int x.1), (2, .int x.2)] [] (WM cy a V X)) (fun y : Int32 => FinI Γ cX12_scorched (WM cy a V X) y))) z) : Wp Γ 0 0 141 [(0, .ref (a 0)), (1, .int v1), (2, .int v2), (3, .int v3)] [] (WM cy a V X) := by
  unfold f_X12_scorched_j141 at h
  obtain ⟨a12, h8, h⟩ := op_bind h
  have e8 := Option.some.inj h8
  refine r_iinc (lv2 := [(3, .int a12), (0, .ref (a 0)), (1, .int v1), (2, .int v2)]) C0 dX12_scorched_141 3 rfl ki_1 e8 (Nat.le_of_ble_eq_true rfl) rfl ?_
  refine r_goto C0 12 dX12_scorched_144 rfl ?_
  cases h
  have hz := el_inl hz
  exact r_sub [1, 2, 3, 0] rfl hz
theorem w_X12_scorched_j121 {z : ((Int32 × Int32) ⊕ ((Int32 × Int32) ⊕ ((Int32 × Int32) ⊕ (Int32))))} {Γ : Gam} {cy : Nat → ClassId} {a : Nat → Nat} {V : VT} {X : va_W} {v1 : Int32} {v2 : Int32} {v3 : Int32} {v4 : Int32} {v6 : Int32} {s0 : Int32}  (C0 : CXg Γ cX12_scorched 7 3 RX12 cy) (hD : DM Γ cy a X) (h : f_X12_scorched_j121 v1 v2 v3 v4 v6 s0 V = some z) (hz : (Sum.elim (fun x : Int32 × Int32 => Wp Γ 0 0 66 [(0, .ref (a 0)), (1, .int v1), (2, .int v2), (3, .int v3), (4, .int v4), (5, .int x.1), (6, .int x.2)] [] (WM cy a V X)) (Sum.elim (fun x : Int32 × Int32 => Wp Γ 0 0 12 [(0, .ref (a 0)), (1, .int x.1), (2, .int v2), (3, .int x.2)] [] (WM cy a V X)) (Sum.elim (fun x : Int32 × Int32 => Wp Γ 0 0 4 [(0, .ref (a 0)), (1, .int x.1), (2, .int x.2)] [] (WM cy a V X)) (fun y : Int32 => FinI Γ cX12_scorched (WM cy a V X) y)))) z) : Wp Γ 0 0 121 [(0, .ref (a 0)), (1, .int v1), (2, .int v2), (3, .int v3), (4, .int v4), (6, .int v6)] [.int s0] (WM cy a V X) := by
  unfold f_X12_scorched_j121 at h
  refine r_istore (lv2 := [(5, .int s0), (0, .ref (a 0)), (1, .int v1), (2, .int v2), (3, .int v3), (4, .int v4), (6, .int v6)]) C0 dX12_scorched_121 rfl (Nat.le_of_ble_eq_true rfl) rfl ?_
  obtain ⟨a18, h8, h⟩ := op_bind h
  have e8 := Option.some.inj h8
  refine r_iinc (lv2 := [(6, .int a18), (5, .int s0), (0, .ref (a 0)), (1, .int v1), (2, .int v2), (3, .int v3), (4, .int v4)]) C0 dX12_scorched_123 6 rfl ki_1 e8 (Nat.le_of_ble_eq_true rfl) rfl ?_
  refine r_goto C0 66 dX12_scorched_126 rfl ?_
  cases h
  have hz := el_inl hz
  exact r_sub [2, 3, 4, 5, 6, 1, 0] rfl hz
theorem w_X12_scorched_j116 {z : ((Int32 × Int32) ⊕ ((Int32 × Int32) ⊕ ((Int32 × Int32) ⊕ (Int32))))} {Γ : Gam} {cy : Nat → ClassId} {a : Nat → Nat} {V : VT} {X : va_W} {v1 : Int32} {v2 : Int32} {v3 : Int32} {v4 : Int32} {v6 : Int32}  (C0 : CXg Γ cX12_scorched 7 3 RX12 cy) (hD : DM Γ cy a X) (h : f_X12_scorched_j116 v1 v2 v3 v4 v6 V = some z) (hz : (Sum.elim (fun x : Int32 × Int32 => Wp Γ 0 0 66 [(0, .ref (a 0)), (1, .int v1), (2, .int v2), (3, .int v3), (4, .int v4), (5, .int x.1), (6, .int x.2)] [] (WM cy a V X)) (Sum.elim (fun x : Int32 × Int32 => Wp Γ 0 0 12 [(0, .ref (a 0)), (1, .int x.1), (2, .int v2), (3, .int x.2)] [] (WM cy a V X)) (Sum.elim (fun x : Int32 × Int32 => Wp Γ 0 0 4 [(0, .ref (a 0)), (1, .int x.1), (2, .int x.2)] [] (WM cy a V X)) (fun y : Int32 => FinI Γ cX12_scorched (WM cy a V X) y)))) z) : Wp Γ 0 0 116 [(0, .ref (a 0)), (1, .int v1), (2, .int v2), (3, .int v3), (4, .int v4), (6, .int v6)] [] (WM cy a V X) := by
  unfold f_X12_scorched_j116 at h
  refine r_iconst C0 dX12_scorched_116 ki_1 ?_
  refine r_goto C0 121 dX12_scorched_117 rfl ?_
  exact r_sub [0, 1, 2, 3, 4, 5] rfl (w_X12_scorched_j121 C0 hD h hz)
theorem w_X12_scorched_j120 {z : ((Int32 × Int32) ⊕ ((Int32 × Int32) ⊕ ((Int32 × Int32) ⊕ (Int32))))} {Γ : Gam} {cy : Nat → ClassId} {a : Nat → Nat} {V : VT} {X : va_W} {v1 : Int32} {v2 : Int32} {v3 : Int32} {v4 : Int32} {v6 : Int32}  (C0 : CXg Γ cX12_scorched 7 3 RX12 cy) (hD : DM Γ cy a X) (h : f_X12_scorched_j120 v1 v2 v3 v4 v6 V = some z) (hz : (Sum.elim (fun x : Int32 × Int32 => Wp Γ 0 0 66 [(0, .ref (a 0)), (1, .int v1), (2, .int v2), (3, .int v3), (4, .int v4), (5, .int x.1), (6, .int x.2)] [] (WM cy a V X)) (Sum.elim (fun x : Int32 × Int32 => Wp Γ 0 0 12 [(0, .ref (a 0)), (1, .int x.1), (2, .int v2), (3, .int x.2)] [] (WM cy a V X)) (Sum.elim (fun x : Int32 × Int32 => Wp Γ 0 0 4 [(0, .ref (a 0)), (1, .int x.1), (2, .int x.2)] [] (WM cy a V X)) (fun y : Int32 => FinI Γ cX12_scorched (WM cy a V X) y)))) z) : Wp Γ 0 0 120 [(0, .ref (a 0)), (1, .int v1), (2, .int v2), (3, .int v3), (4, .int v4), (6, .int v6)] [] (WM cy a V X) := by
  unfold f_X12_scorched_j120 at h
  refine r_iconst C0 dX12_scorched_120 ki_0 ?_
  exact r_sub [0, 1, 2, 3, 4, 5] rfl (w_X12_scorched_j121 C0 hD h hz)
theorem w_X12_scorched_B66 {x : Int32 × Int32} {z : ((Int32 × Int32) ⊕ ((Int32 × Int32) ⊕ ((Int32 × Int32) ⊕ (Int32))))} {Γ : Gam} {cy : Nat → ClassId} {a : Nat → Nat} {V : VT} {X : va_W} {v1 : Int32} {v2 : Int32} {v3 : Int32} {v4 : Int32}  (C0 : CXg Γ cX12_scorched 7 3 RX12 cy) (hD : DM Γ cy a X) (h : f_X12_scorched_B66 v1 v2 v3 v4 V x = some z) (hz : (Sum.elim (fun x : Int32 × Int32 => Wp Γ 0 0 66 [(0, .ref (a 0)), (1, .int v1), (2, .int v2), (3, .int v3), (4, .int v4), (5, .int x.1), (6, .int x.2)] [] (WM cy a V X)) (Sum.elim (fun x : Int32 × Int32 => Wp Γ 0 0 12 [(0, .ref (a 0)), (1, .int x.1), (2, .int v2), (3, .int x.2)] [] (WM cy a V X)) (Sum.elim (fun x : Int32 × Int32 => Wp Γ 0 0 4 [(0, .ref (a 0)), (1, .int x.1), (2, .int x.2)] [] (WM cy a V X)) (fun y : Int32 => FinI Γ cX12_scorched (WM cy a V X) y)))) z) : Wp Γ 0 0 66 [(0, .ref (a 0)), (1, .int v1), (2, .int v2), (3, .int v3), (4, .int v4), (5, .int x.1), (6, .int x.2)] [] (WM cy a V X) := by
  unfold f_X12_scorched_B66 at h
  refine r_iload C0 dX12_scorched_66 6 rfl ?_
  refine r_iload_n C0 dX12_scorched_68 rfl 3 rfl ?_
  refine r_iconst C0 dX12_scorched_69 ki_2 ?_
  refine r_iadd C0 dX12_scorched_70 ?_
  refine r_icmp_gt C0 129 dX12_scorched_71 rfl h (fun _ h => ?_) (fun _ h => ?_)
  · obtain ⟨y16, h5, h9⟩ := op_bind h
    clear h
    cases h9
    have hz := (el_inr hz)
    have h := h5
    refine r_iload C0 dX12_scorched_129 5 rfl ?_
    refine r_if_eq C0 141 dX12_scorched_131 rfl h (fun _ h => ?_) (fun _ h => ?_)
    · exact r_sub [0, 1, 2, 3] rfl (w_X12_scorched_j141 C0 hD h hz)
    · refine r_iload_n C0 dX12_scorched_134 rfl 1 rfl ?_
      refine r_iload C0 dX12_scorched_135 4 rfl ?_
      refine callS2 C0 h (hD _) ms_X12_lesser tm_X12_134 (fun y hy => c_X12_lesser hy) (Nat.le_of_ble_eq_true rfl) (Nat.le_of_ble_eq_true rfl) dX12_scorched_137 (fun r17 h => ?_)
      refine r_istore_n (lv2 := [(1, .int r17), (0, .ref (a 0)), (2, .int v2), (3, .int v3), (4, .int v4), (5, .int x.1), (6, .int x.2)]) C0 dX12_scorched_140 rfl rfl (Nat.le_of_ble_eq_true rfl) rfl ?_
      exact r_sub [1, 0, 2, 3] rfl (w_X12_scorched_j141 C0 hD h hz)
  · refine r_iload C0 dX12_scorched_74 5 rfl ?_
    refine r_if_ne C0 116 dX12_scorched_76 rfl h (fun _ h => ?_) (fun _ h => ?_)
    · exact r_sub [0, 1, 2, 3, 4, 6] rfl (w_X12_scorched_j116 C0 hD h hz)
    · refine r_aload_n C0 dX12_scorched_79 rfl 0 rfl ?_
      refine r_iload_n C0 dX12_scorched_80 rfl 2 rfl ?_
      refine r_iload C0 dX12_scorched_81 6 rfl ?_
      refine callV2 C0 h (hD _) mw_X12_isPlace rv_m tm_X12_118 (fun y hy => c_X12_isPlace hy) (Nat.le_of_ble_eq_true rfl) (Nat.le_of_ble_eq_true rfl) dX12_scorched_83 (fun r19 h => ?_)
      refine r_if_eq C0 120 dX12_scorched_86 rfl h (fun _ h => ?_) (fun _ h => ?_)
      · exact r_sub [0, 1, 2, 3, 4, 6] rfl (w_X12_scorched_j120 C0 hD h hz)
      · refine r_aload_n C0 dX12_scorched_89 rfl 0 rfl ?_
        refine r_iload_n C0 dX12_scorched_90 rfl 2 rfl ?_
        refine r_iload C0 dX12_scorched_91 6 rfl ?_
        refine callV2 C0 h (hD _) mw_X12_held rv_m tm_X12_72 (fun y hy => c_X12_held hy) (Nat.le_of_ble_eq_true rfl) (Nat.le_of_ble_eq_true rfl) dX12_scorched_93 (fun r20 h => ?_)
        refine r_iconst C0 dX12_scorched_96 ki_2 ?_
        refine r_icmp_lt C0 120 dX12_scorched_97 rfl h (fun _ h => ?_) (fun _ h => ?_)
        · exact r_sub [0, 1, 2, 3, 4, 6] rfl (w_X12_scorched_j120 C0 hD h hz)
        · refine r_aload_n C0 dX12_scorched_100 rfl 0 rfl ?_
          refine r_aload_n C0 dX12_scorched_101 rfl 0 rfl ?_
          refine r_iload_n C0 dX12_scorched_102 rfl 2 rfl ?_
          refine r_iload C0 dX12_scorched_103 6 rfl ?_
          refine callV2 C0 h (hD _) mw_X12_held rv_m tm_X12_72 (fun y hy => c_X12_held hy) (Nat.le_of_ble_eq_true rfl) (Nat.le_of_ble_eq_true rfl) dX12_scorched_105 (fun r21 h => ?_)
          refine r_iconst C0 dX12_scorched_108 ki_2 ?_
          refine r_isub C0 dX12_scorched_109 ?_
          refine callV1 C0 h (hD _) mw_X12_isHot rv_m tm_X12_131 (fun y hy => c_X12_isHot hy) (Nat.le_of_ble_eq_true rfl) (Nat.le_of_ble_eq_true rfl) dX12_scorched_110 (fun r22 h => ?_)
          refine r_if_eq C0 120 dX12_scorched_113 rfl h (fun _ h => ?_) (fun _ h => ?_)
          · exact r_sub [0, 1, 2, 3, 4, 6] rfl (w_X12_scorched_j120 C0 hD h hz)
          · exact r_sub [0, 1, 2, 3, 4, 6] rfl (w_X12_scorched_j116 C0 hD h hz)
theorem w_X12_scorched_B66_lp {x : Int32 × Int32} {z : ((Int32 × Int32) ⊕ ((Int32 × Int32) ⊕ (Int32)))} {Γ : Gam} {cy : Nat → ClassId} {a : Nat → Nat} {V : VT} {X : va_W} {v1 : Int32} {v2 : Int32} {v3 : Int32} {v4 : Int32}  (C0 : CXg Γ cX12_scorched 7 3 RX12 cy) (hD : DM Γ cy a X) (h : lp (f_X12_scorched_B66 v1 v2 v3 v4 V) fuel x = some z) (hz : (Sum.elim (fun x : Int32 × Int32 => Wp Γ 0 0 12 [(0, .ref (a 0)), (1, .int x.1), (2, .int v2), (3, .int x.2)] [] (WM cy a V X)) (Sum.elim (fun x : Int32 × Int32 => Wp Γ 0 0 4 [(0, .ref (a 0)), (1, .int x.1), (2, .int x.2)] [] (WM cy a V X)) (fun y : Int32 => FinI Γ cX12_scorched (WM cy a V X) y))) z) : Wp Γ 0 0 66 [(0, .ref (a 0)), (1, .int v1), (2, .int v2), (3, .int v3), (4, .int v4), (5, .int x.1), (6, .int x.2)] [] (WM cy a V X) :=
  lp_rule (hd := (fun x : Int32 × Int32 => Wp Γ 0 0 66 [(0, .ref (a 0)), (1, .int v1), (2, .int v2), (3, .int v3), (4, .int v4), (5, .int x.1), (6, .int x.2)] [] (WM cy a V X))) (C := (Sum.elim (fun x : Int32 × Int32 => Wp Γ 0 0 12 [(0, .ref (a 0)), (1, .int x.1), (2, .int v2), (3, .int x.2)] [] (WM cy a V X)) (Sum.elim (fun x : Int32 × Int32 => Wp Γ 0 0 4 [(0, .ref (a 0)), (1, .int x.1), (2, .int x.2)] [] (WM cy a V X)) (fun y : Int32 => FinI Γ cX12_scorched (WM cy a V X) y)))) (fun x z h hz => w_X12_scorched_B66 C0 hD h hz) _ _ _ h hz
theorem w_X12_scorched_B12 {x : Int32 × Int32} {z : ((Int32 × Int32) ⊕ ((Int32 × Int32) ⊕ (Int32)))} {Γ : Gam} {cy : Nat → ClassId} {a : Nat → Nat} {V : VT} {X : va_W} {v2 : Int32}  (C0 : CXg Γ cX12_scorched 7 3 RX12 cy) (hD : DM Γ cy a X) (h : f_X12_scorched_B12 v2 V x = some z) (hz : (Sum.elim (fun x : Int32 × Int32 => Wp Γ 0 0 12 [(0, .ref (a 0)), (1, .int x.1), (2, .int v2), (3, .int x.2)] [] (WM cy a V X)) (Sum.elim (fun x : Int32 × Int32 => Wp Γ 0 0 4 [(0, .ref (a 0)), (1, .int x.1), (2, .int x.2)] [] (WM cy a V X)) (fun y : Int32 => FinI Γ cX12_scorched (WM cy a V X) y))) z) : Wp Γ 0 0 12 [(0, .ref (a 0)), (1, .int x.1), (2, .int v2), (3, .int x.2)] [] (WM cy a V X) := by
  unfold f_X12_scorched_B12 at h
  refine r_iload_n C0 dX12_scorched_12 rfl 3 rfl ?_
  refine r_aload_n C0 dX12_scorched_13 rfl 0 rfl ?_
  refine r_iload_n C0 dX12_scorched_14 rfl 2 rfl ?_
  refine callV1 C0 h (hD _) mw_X12_places rv_m tm_X12_55 (fun y hy => c_X12_places hy) (Nat.le_of_ble_eq_true rfl) (Nat.le_of_ble_eq_true rfl) dX12_scorched_15 (fun r5 h => ?_)
  refine r_icmp_ge C0 147 dX12_scorched_18 rfl h (fun _ h => ?_) (fun _ h => ?_)
  · obtain ⟨y6, h5, h9⟩ := op_bind h
    clear h
    cases h9
    have hz := (el_inr hz)
    have h := h5
    exact r_sub [0, 1, 2] rfl (w_X12_scorched_j147 C0 hD h hz)
  · refine r_aload_n C0 dX12_scorched_21 rfl 0 rfl ?_
    refine r_iload_n C0 dX12_scorched_22 rfl 2 rfl ?_
    refine callV1 C0 h (hD _) mw_X12_isRigged rv_m tm_X12_66 (fun y hy => c_X12_isRigged hy) (Nat.le_of_ble_eq_true rfl) (Nat.le_of_ble_eq_true rfl) dX12_scorched_23 (fun r8 h => ?_)
    refine r_if_eq C0 147 dX12_scorched_26 rfl h (fun _ h => ?_) (fun _ h => ?_)
    · obtain ⟨y9, h5, h9⟩ := op_bind h
      clear h
      cases h9
      have hz := (el_inr hz)
      have h := h5
      exact r_sub [0, 1, 2] rfl (w_X12_scorched_j147 C0 hD h hz)
    · refine r_aload_n C0 dX12_scorched_29 rfl 0 rfl ?_
      refine r_iload_n C0 dX12_scorched_30 rfl 2 rfl ?_
      refine r_iload_n C0 dX12_scorched_31 rfl 3 rfl ?_
      refine callV2 C0 h (hD _) mw_X12_held rv_m tm_X12_72 (fun y hy => c_X12_held hy) (Nat.le_of_ble_eq_true rfl) (Nat.le_of_ble_eq_true rfl) dX12_scorched_32 (fun r10 h => ?_)
      refine r_iconst C0 dX12_scorched_35 ki_2 ?_
      refine r_isub C0 dX12_scorched_36 ?_
      obtain ⟨a11, h8, h⟩ := op_bind h
      have e8 := Option.some.inj h8
      refine r_istore (lv2 := [(4, .int a11), (0, .ref (a 0)), (1, .int x.1), (2, .int v2), (3, .int x.2)]) C0 dX12_scorched_37 e8 (Nat.le_of_ble_eq_true rfl) rfl ?_
      refine r_iload C0 dX12_scorched_39 0 rfl ?_
      refine r_if_lt C0 141 dX12_scorched_41 rfl h (fun _ h => ?_) (fun _ h => ?_)
      · exact r_sub [1, 2, 3, 4] rfl (w_X12_scorched_j141 C0 hD h hz)
      · refine r_aload_n C0 dX12_scorched_44 rfl 1 rfl ?_
        refine r_iload C0 dX12_scorched_45 0 rfl ?_
        refine r_iconst C0 dX12_scorched_47 ki_0 ?_
        refine callV2 C0 h (hD _) mw_X12_thingIs rv_m tm_X12_75 (fun y hy => c_X12_thingIs hy) (Nat.le_of_ble_eq_true rfl) (Nat.le_of_ble_eq_true rfl) dX12_scorched_48 (fun r13 h => ?_)
        refine r_iconst C0 dX12_scorched_51 ki_1 ?_
        refine r_icmp_le C0 58 dX12_scorched_52 rfl h (fun _ h => ?_) (fun _ h => ?_)
        · refine r_iconst C0 dX12_scorched_58 ki_0 ?_
          obtain ⟨a14, h8, h⟩ := op_bind h
          have e8 := Option.some.inj h8
          refine r_istore (lv2 := [(5, .int a14), (4, .int a11), (0, .ref (a 0)), (1, .int x.1), (2, .int v2), (3, .int x.2)]) C0 dX12_scorched_59 e8 (Nat.le_of_ble_eq_true rfl) rfl ?_
          refine r_iload_n C0 dX12_scorched_61 rfl 5 rfl ?_
          refine r_iconst C0 dX12_scorched_62 ki_2 ?_
          refine r_isub C0 dX12_scorched_63 ?_
          obtain ⟨a15, h8, h⟩ := op_bind h
          have e8 := Option.some.inj h8
          refine r_istore (lv2 := [(6, .int a15), (5, .int a14), (4, .int a11), (0, .ref (a 0)), (1, .int x.1), (2, .int v2), (3, .int x.2)]) C0 dX12_scorched_64 e8 (Nat.le_of_ble_eq_true rfl) rfl ?_
          exact r_sub [3, 4, 5, 6, 2, 1, 0] rfl (w_X12_scorched_B66_lp C0 hD h hz)
        · refine r_goto C0 141 dX12_scorched_55 rfl ?_
          exact r_sub [1, 2, 3, 4] rfl (w_X12_scorched_j141 C0 hD h hz)
theorem w_X12_scorched_B12_lp {x : Int32 × Int32} {z : ((Int32 × Int32) ⊕ (Int32))} {Γ : Gam} {cy : Nat → ClassId} {a : Nat → Nat} {V : VT} {X : va_W} {v2 : Int32}  (C0 : CXg Γ cX12_scorched 7 3 RX12 cy) (hD : DM Γ cy a X) (h : lp (f_X12_scorched_B12 v2 V) fuel x = some z) (hz : (Sum.elim (fun x : Int32 × Int32 => Wp Γ 0 0 4 [(0, .ref (a 0)), (1, .int x.1), (2, .int x.2)] [] (WM cy a V X)) (fun y : Int32 => FinI Γ cX12_scorched (WM cy a V X) y)) z) : Wp Γ 0 0 12 [(0, .ref (a 0)), (1, .int x.1), (2, .int v2), (3, .int x.2)] [] (WM cy a V X) :=
  lp_rule (hd := (fun x : Int32 × Int32 => Wp Γ 0 0 12 [(0, .ref (a 0)), (1, .int x.1), (2, .int v2), (3, .int x.2)] [] (WM cy a V X))) (C := (Sum.elim (fun x : Int32 × Int32 => Wp Γ 0 0 4 [(0, .ref (a 0)), (1, .int x.1), (2, .int x.2)] [] (WM cy a V X)) (fun y : Int32 => FinI Γ cX12_scorched (WM cy a V X) y))) (fun x z h hz => w_X12_scorched_B12 C0 hD h hz) _ _ _ h hz
theorem w_X12_scorched_B4 {x : Int32 × Int32} {z : ((Int32 × Int32) ⊕ (Int32))} {Γ : Gam} {cy : Nat → ClassId} {a : Nat → Nat} {V : VT} {X : va_W}  (C0 : CXg Γ cX12_scorched 7 3 RX12 cy) (hD : DM Γ cy a X) (h : f_X12_scorched_B4 V x = some z) (hz : (Sum.elim (fun x : Int32 × Int32 => Wp Γ 0 0 4 [(0, .ref (a 0)), (1, .int x.1), (2, .int x.2)] [] (WM cy a V X)) (fun y : Int32 => FinI Γ cX12_scorched (WM cy a V X) y)) z) : Wp Γ 0 0 4 [(0, .ref (a 0)), (1, .int x.1), (2, .int x.2)] [] (WM cy a V X) := by
  unfold f_X12_scorched_B4 at h
  refine r_iload_n C0 dX12_scorched_4 rfl 2 rfl ?_
  refine r_bipush C0 dX12_scorched_5 kb_12 ?_
  refine r_icmp_ge C0 153 dX12_scorched_7 rfl h (fun _ h => ?_) (fun _ h => ?_)
  · obtain ⟨y3, h5, h9⟩ := op_bind h
    clear h
    cases h9
    have hz := (el_inr hz)
    have h := h5
    refine r_iload_n C0 dX12_scorched_153 rfl 1 rfl ?_
    cases h
    exact hz _ _ dX12_scorched_154
  · refine r_iconst C0 dX12_scorched_10 ki_0 ?_
    obtain ⟨a4, h8, h⟩ := op_bind h
    have e8 := Option.some.inj h8
    refine r_istore_n (lv2 := [(3, .int a4), (0, .ref (a 0)), (1, .int x.1), (2, .int x.2)]) C0 dX12_scorched_11 rfl e8 (Nat.le_of_ble_eq_true rfl) rfl ?_
    exact r_sub [1, 2, 3, 0] rfl (w_X12_scorched_B12_lp C0 hD h hz)
theorem w_X12_scorched_B4_lp {x : Int32 × Int32} {z : (Int32)} {Γ : Gam} {cy : Nat → ClassId} {a : Nat → Nat} {V : VT} {X : va_W}  (C0 : CXg Γ cX12_scorched 7 3 RX12 cy) (hD : DM Γ cy a X) (h : lp (f_X12_scorched_B4 V) fuel x = some z) (hz : (fun y : Int32 => FinI Γ cX12_scorched (WM cy a V X) y) z) : Wp Γ 0 0 4 [(0, .ref (a 0)), (1, .int x.1), (2, .int x.2)] [] (WM cy a V X) :=
  lp_rule (hd := (fun x : Int32 × Int32 => Wp Γ 0 0 4 [(0, .ref (a 0)), (1, .int x.1), (2, .int x.2)] [] (WM cy a V X))) (C := (fun y : Int32 => FinI Γ cX12_scorched (WM cy a V X) y)) (fun x z h hz => w_X12_scorched_B4 C0 hD h hz) _ _ _ h hz
theorem w_X12_scorched {z : Int32} {Γ : Gam} {cy : Nat → ClassId} {a : Nat → Nat} {V : VT} {X : va_W}  (C0 : CXg Γ cX12_scorched 7 3 RX12 cy) (hD : DM Γ cy a X) (h : f_X12_scorched V = some z) (hz : (fun y : Int32 => FinI Γ cX12_scorched (WM cy a V X) y) z) : Wp Γ 0 0 0 [(0, .ref (a 0))] [] (WM cy a V X) := by
  unfold f_X12_scorched at h
  refine r_iconst C0 dX12_scorched_0 ki_m1 ?_
  obtain ⟨a1, h8, h⟩ := op_bind h
  have e8 := Option.some.inj h8
  refine r_istore_n (lv2 := [(1, .int a1), (0, .ref (a 0))]) C0 dX12_scorched_1 rfl e8 (Nat.le_of_ble_eq_true rfl) rfl ?_
  refine r_iconst C0 dX12_scorched_2 ki_0 ?_
  obtain ⟨a2, h8, h⟩ := op_bind h
  have e8 := Option.some.inj h8
  refine r_istore_n (lv2 := [(2, .int a2), (1, .int a1), (0, .ref (a 0))]) C0 dX12_scorched_3 rfl e8 (Nat.le_of_ble_eq_true rfl) rfl ?_
  exact r_sub [2, 1, 0] rfl (w_X12_scorched_B4_lp C0 hD h hz)
theorem c_X12_scorched {l : Launch} {D : va_G} {cy : Nat → ClassId} {a : Nat → Nat} {V : VT} {X : va_W} {y : Int32} (h : f_X12_scorched V = some y) : CT l D cy yX12_scorched cX12_scorched 7 (some .int) 3 [.ref (a 0)] (WM cy a V X) (WM cy a V X) (some (.int y)) :=
  mkI (by decide) (Nat.le_of_ble_eq_true rfl) (fun Γ _ _ C0 hD hF => w_X12_scorched C0 (dm_of hD) h hF)
theorem dX12_isJoined_0 : decode cX12_isJoined 0 = .ok (.iload_n 1, 1) := by decide +kernel
theorem dX12_isJoined_1 : decode cX12_isJoined 1 = .ok (.ifCond .lt 27, 3) := by decide +kernel
theorem dX12_isJoined_4 : decode cX12_isJoined 4 = .ok (.iload_n 1, 1) := by decide +kernel
theorem dX12_isJoined_5 : decode cX12_isJoined 5 = .ok (.bipush 10, 2) := by decide +kernel
theorem dX12_isJoined_7 : decode cX12_isJoined 7 = .ok (.if_icmp .gt 21, 3) := by decide +kernel
theorem dX12_isJoined_10 : decode cX12_isJoined 10 = .ok (.aload_n 0, 1) := by decide +kernel
theorem dX12_isJoined_11 : decode cX12_isJoined 11 = .ok (.iload_n 1, 1) := by decide +kernel
theorem dX12_isJoined_12 : decode cX12_isJoined 12 = .ok (.invokevirtual 66, 3) := by decide +kernel
theorem dX12_isJoined_15 : decode cX12_isJoined 15 = .ok (.ifCond .eq 13, 3) := by decide +kernel
theorem dX12_isJoined_18 : decode cX12_isJoined 18 = .ok (.aload_n 0, 1) := by decide +kernel
theorem dX12_isJoined_19 : decode cX12_isJoined 19 = .ok (.iload_n 1, 1) := by decide +kernel
theorem dX12_isJoined_20 : decode cX12_isJoined 20 = .ok (.iconst 1, 1) := by decide +kernel
theorem dX12_isJoined_21 : decode cX12_isJoined 21 = .ok (.iadd, 1) := by decide +kernel
theorem dX12_isJoined_22 : decode cX12_isJoined 22 = .ok (.invokevirtual 66, 3) := by decide +kernel
theorem dX12_isJoined_25 : decode cX12_isJoined 25 = .ok (.ifCond .ne 5, 3) := by decide +kernel
theorem dX12_isJoined_28 : decode cX12_isJoined 28 = .ok (.iconst 0, 1) := by decide +kernel
theorem dX12_isJoined_29 : decode cX12_isJoined 29 = .ok (.ireturn, 1) := by decide +kernel
theorem dX12_isJoined_30 : decode cX12_isJoined 30 = .ok (.iconst 0, 1) := by decide +kernel
theorem dX12_isJoined_31 : decode cX12_isJoined 31 = .ok (.istore_n 2, 1) := by decide +kernel
theorem dX12_isJoined_32 : decode cX12_isJoined 32 = .ok (.iload_n 2, 1) := by decide +kernel
theorem dX12_isJoined_33 : decode cX12_isJoined 33 = .ok (.aload_n 0, 1) := by decide +kernel
theorem dX12_isJoined_34 : decode cX12_isJoined 34 = .ok (.iload_n 1, 1) := by decide +kernel
theorem dX12_isJoined_35 : decode cX12_isJoined 35 = .ok (.invokevirtual 55, 3) := by decide +kernel
theorem dX12_isJoined_38 : decode cX12_isJoined 38 = .ok (.if_icmp .ge 59, 3) := by decide +kernel
theorem dX12_isJoined_41 : decode cX12_isJoined 41 = .ok (.iload_n 2, 1) := by decide +kernel
theorem dX12_isJoined_42 : decode cX12_isJoined 42 = .ok (.aload_n 0, 1) := by decide +kernel
theorem dX12_isJoined_43 : decode cX12_isJoined 43 = .ok (.iload_n 1, 1) := by decide +kernel
theorem dX12_isJoined_44 : decode cX12_isJoined 44 = .ok (.iconst 1, 1) := by decide +kernel
theorem dX12_isJoined_45 : decode cX12_isJoined 45 = .ok (.iadd, 1) := by decide +kernel
theorem dX12_isJoined_46 : decode cX12_isJoined 46 = .ok (.invokevirtual 55, 3) := by decide +kernel
theorem dX12_isJoined_49 : decode cX12_isJoined 49 = .ok (.if_icmp .ge 48, 3) := by decide +kernel
theorem dX12_isJoined_52 : decode cX12_isJoined 52 = .ok (.aload_n 0, 1) := by decide +kernel
theorem dX12_isJoined_53 : decode cX12_isJoined 53 = .ok (.iload_n 1, 1) := by decide +kernel
theorem dX12_isJoined_54 : decode cX12_isJoined 54 = .ok (.iload_n 2, 1) := by decide +kernel
theorem dX12_isJoined_55 : decode cX12_isJoined 55 = .ok (.invokevirtual 72, 3) := by decide +kernel
theorem dX12_isJoined_58 : decode cX12_isJoined 58 = .ok (.iconst 2, 1) := by decide +kernel
theorem dX12_isJoined_59 : decode cX12_isJoined 59 = .ok (.isub, 1) := by decide +kernel
theorem dX12_isJoined_60 : decode cX12_isJoined 60 = .ok (.istore_n 3, 1) := by decide +kernel
theorem dX12_isJoined_61 : decode cX12_isJoined 61 = .ok (.iload_n 3, 1) := by decide +kernel
theorem dX12_isJoined_62 : decode cX12_isJoined 62 = .ok (.ifCond .lt 29, 3) := by decide +kernel
theorem dX12_isJoined_65 : decode cX12_isJoined 65 = .ok (.aload_n 0, 1) := by decide +kernel
theorem dX12_isJoined_66 : decode cX12_isJoined 66 = .ok (.iload_n 3, 1) := by decide +kernel
theorem dX12_isJoined_67 : decode cX12_isJoined 67 = .ok (.iconst 0, 1) := by decide +kernel
theorem dX12_isJoined_68 : decode cX12_isJoined 68 = .ok (.invokevirtual 75, 3) := by decide +kernel
theorem dX12_isJoined_71 : decode cX12_isJoined 71 = .ok (.iconst 4, 1) := by decide +kernel
theorem dX12_isJoined_72 : decode cX12_isJoined 72 = .ok (.if_icmp .ne 19, 3) := by decide +kernel
theorem dX12_isJoined_75 : decode cX12_isJoined 75 = .ok (.aload_n 0, 1) := by decide +kernel
theorem dX12_isJoined_76 : decode cX12_isJoined 76 = .ok (.iload_n 1, 1) := by decide +kernel
theorem dX12_isJoined_77 : decode cX12_isJoined 77 = .ok (.iconst 1, 1) := by decide +kernel
theorem dX12_isJoined_78 : decode cX12_isJoined 78 = .ok (.iadd, 1) := by decide +kernel
theorem dX12_isJoined_79 : decode cX12_isJoined 79 = .ok (.iload_n 2, 1) := by decide +kernel
theorem dX12_isJoined_80 : decode cX12_isJoined 80 = .ok (.invokevirtual 72, 3) := by decide +kernel
theorem dX12_isJoined_83 : decode cX12_isJoined 83 = .ok (.iconst 2, 1) := by decide +kernel
theorem dX12_isJoined_84 : decode cX12_isJoined 84 = .ok (.iload_n 3, 1) := by decide +kernel
theorem dX12_isJoined_85 : decode cX12_isJoined 85 = .ok (.iadd, 1) := by decide +kernel
theorem dX12_isJoined_86 : decode cX12_isJoined 86 = .ok (.if_icmp .ne 5, 3) := by decide +kernel
theorem dX12_isJoined_89 : decode cX12_isJoined 89 = .ok (.iconst 1, 1) := by decide +kernel
theorem dX12_isJoined_90 : decode cX12_isJoined 90 = .ok (.ireturn, 1) := by decide +kernel
theorem dX12_isJoined_91 : decode cX12_isJoined 91 = .ok (.iinc 2 1, 3) := by decide +kernel
theorem dX12_isJoined_94 : decode cX12_isJoined 94 = .ok (.goto (-62), 3) := by decide +kernel
theorem dX12_isJoined_97 : decode cX12_isJoined 97 = .ok (.iconst 0, 1) := by decide +kernel
theorem dX12_isJoined_98 : decode cX12_isJoined 98 = .ok (.ireturn, 1) := by decide +kernel
theorem w_X12_isJoined_j91 {z : ((Int32) ⊕ (Int32))} {Γ : Gam} {cy : Nat → ClassId} {a : Nat → Nat} {V : VT} {X : va_W} {v1 : Int32} {v2 : Int32}  (C0 : CXg Γ cX12_isJoined 4 2 RX12 cy) (hD : DM Γ cy a X) (h : f_X12_isJoined_j91 v1 v2 V = some z) (hz : (Sum.elim (fun x : Int32 => Wp Γ 0 0 32 [(0, .ref (a 0)), (1, .int v1), (2, .int x)] [] (WM cy a V X)) (fun y : Int32 => FinZ Γ cX12_isJoined (WM cy a V X) y)) z) : Wp Γ 0 0 91 [(0, .ref (a 0)), (1, .int v1), (2, .int v2)] [] (WM cy a V X) := by
  unfold f_X12_isJoined_j91 at h
  obtain ⟨a10, h8, h⟩ := op_bind h
  have e8 := Option.some.inj h8
  refine r_iinc (lv2 := [(2, .int a10), (0, .ref (a 0)), (1, .int v1)]) C0 dX12_isJoined_91 2 rfl ki_1 e8 (Nat.le_of_ble_eq_true rfl) rfl ?_
  refine r_goto C0 32 dX12_isJoined_94 rfl ?_
  cases h
  have hz := el_inl hz
  exact r_sub [1, 2, 0] rfl hz
theorem w_X12_isJoined_B32 {x : Int32} {z : ((Int32) ⊕ (Int32))} {Γ : Gam} {cy : Nat → ClassId} {a : Nat → Nat} {V : VT} {X : va_W} {v1 : Int32}  (C0 : CXg Γ cX12_isJoined 4 2 RX12 cy) (hD : DM Γ cy a X) (h : f_X12_isJoined_B32 v1 V x = some z) (hz : (Sum.elim (fun x : Int32 => Wp Γ 0 0 32 [(0, .ref (a 0)), (1, .int v1), (2, .int x)] [] (WM cy a V X)) (fun y : Int32 => FinZ Γ cX12_isJoined (WM cy a V X) y)) z) : Wp Γ 0 0 32 [(0, .ref (a 0)), (1, .int v1), (2, .int x)] [] (WM cy a V X) := by
  unfold f_X12_isJoined_B32 at h
  refine r_iload_n C0 dX12_isJoined_32 rfl 2 rfl ?_
  refine r_aload_n C0 dX12_isJoined_33 rfl 0 rfl ?_
  refine r_iload_n C0 dX12_isJoined_34 rfl 1 rfl ?_
  refine callV1 C0 h (hD _) mw_X12_places rv_m tm_X12_55 (fun y hy => c_X12_places hy) (Nat.le_of_ble_eq_true rfl) (Nat.le_of_ble_eq_true rfl) dX12_isJoined_35 (fun r4 h => ?_)
  refine r_icmp_ge C0 97 dX12_isJoined_38 rfl h (fun _ h => ?_) (fun _ h => ?_)
  · obtain ⟨y5, h5, h9⟩ := op_bind h
    clear h
    cases h9
    have hz := (el_inr hz)
    have h := h5
    refine r_iconst C0 dX12_isJoined_97 ki_0 ?_
    cases h
    exact hz _ _ nz_0 dX12_isJoined_98
  · refine r_iload_n C0 dX12_isJoined_41 rfl 2 rfl ?_
    refine r_aload_n C0 dX12_isJoined_42 rfl 0 rfl ?_
    refine r_iload_n C0 dX12_isJoined_43 rfl 1 rfl ?_
    refine r_iconst C0 dX12_isJoined_44 ki_1 ?_
    refine r_iadd C0 dX12_isJoined_45 ?_
    refine callV1 C0 h (hD _) mw_X12_places rv_m tm_X12_55 (fun y hy => c_X12_places hy) (Nat.le_of_ble_eq_true rfl) (Nat.le_of_ble_eq_true rfl) dX12_isJoined_46 (fun r6 h => ?_)
    refine r_icmp_ge C0 97 dX12_isJoined_49 rfl h (fun _ h => ?_) (fun _ h => ?_)
    · obtain ⟨y7, h5, h9⟩ := op_bind h
      clear h
      cases h9
      have hz := (el_inr hz)
      have h := h5
      refine r_iconst C0 dX12_isJoined_97 ki_0 ?_
      cases h
      exact hz _ _ nz_0 dX12_isJoined_98
    · refine r_aload_n C0 dX12_isJoined_52 rfl 0 rfl ?_
      refine r_iload_n C0 dX12_isJoined_53 rfl 1 rfl ?_
      refine r_iload_n C0 dX12_isJoined_54 rfl 2 rfl ?_
      refine callV2 C0 h (hD _) mw_X12_held rv_m tm_X12_72 (fun y hy => c_X12_held hy) (Nat.le_of_ble_eq_true rfl) (Nat.le_of_ble_eq_true rfl) dX12_isJoined_55 (fun r8 h => ?_)
      refine r_iconst C0 dX12_isJoined_58 ki_2 ?_
      refine r_isub C0 dX12_isJoined_59 ?_
      obtain ⟨a9, h8, h⟩ := op_bind h
      have e8 := Option.some.inj h8
      refine r_istore_n (lv2 := [(3, .int a9), (0, .ref (a 0)), (1, .int v1), (2, .int x)]) C0 dX12_isJoined_60 rfl e8 (Nat.le_of_ble_eq_true rfl) rfl ?_
      refine r_iload_n C0 dX12_isJoined_61 rfl 0 rfl ?_
      refine r_if_lt C0 91 dX12_isJoined_62 rfl h (fun _ h => ?_) (fun _ h => ?_)
      · exact r_sub [1, 2, 3] rfl (w_X12_isJoined_j91 C0 hD h hz)
      · refine r_aload_n C0 dX12_isJoined_65 rfl 1 rfl ?_
        refine r_iload_n C0 dX12_isJoined_66 rfl 0 rfl ?_
        refine r_iconst C0 dX12_isJoined_67 ki_0 ?_
        refine callV2 C0 h (hD _) mw_X12_thingIs rv_m tm_X12_75 (fun y hy => c_X12_thingIs hy) (Nat.le_of_ble_eq_true rfl) (Nat.le_of_ble_eq_true rfl) dX12_isJoined_68 (fun r11 h => ?_)
        refine r_iconst C0 dX12_isJoined_71 ki_4 ?_
        refine r_icmp_ne C0 91 dX12_isJoined_72 rfl h (fun _ h => ?_) (fun _ h => ?_)
        · exact r_sub [1, 2, 3] rfl (w_X12_isJoined_j91 C0 hD h hz)
        · refine r_aload_n C0 dX12_isJoined_75 rfl 1 rfl ?_
          refine r_iload_n C0 dX12_isJoined_76 rfl 2 rfl ?_
          refine r_iconst C0 dX12_isJoined_77 ki_1 ?_
          refine r_iadd C0 dX12_isJoined_78 ?_
          refine r_iload_n C0 dX12_isJoined_79 rfl 3 rfl ?_
          refine callV2 C0 h (hD _) mw_X12_held rv_m tm_X12_72 (fun y hy => c_X12_held hy) (Nat.le_of_ble_eq_true rfl) (Nat.le_of_ble_eq_true rfl) dX12_isJoined_80 (fun r12 h => ?_)
          refine r_iconst C0 dX12_isJoined_83 ki_2 ?_
          refine r_iload_n C0 dX12_isJoined_84 rfl 0 rfl ?_
          refine r_iadd C0 dX12_isJoined_85 ?_
          refine r_icmp_ne C0 91 dX12_isJoined_86 rfl h (fun _ h => ?_) (fun _ h => ?_)
          · exact r_sub [1, 2, 3] rfl (w_X12_isJoined_j91 C0 hD h hz)
          · obtain ⟨y13, h5, h9⟩ := op_bind h
            clear h
            cases h9
            have hz := (el_inr hz)
            have h := h5
            refine r_iconst C0 dX12_isJoined_89 ki_1 ?_
            cases h
            exact hz _ _ nz_1 dX12_isJoined_90
theorem w_X12_isJoined_B32_lp {x : Int32} {z : (Int32)} {Γ : Gam} {cy : Nat → ClassId} {a : Nat → Nat} {V : VT} {X : va_W} {v1 : Int32}  (C0 : CXg Γ cX12_isJoined 4 2 RX12 cy) (hD : DM Γ cy a X) (h : lp (f_X12_isJoined_B32 v1 V) fuel x = some z) (hz : (fun y : Int32 => FinZ Γ cX12_isJoined (WM cy a V X) y) z) : Wp Γ 0 0 32 [(0, .ref (a 0)), (1, .int v1), (2, .int x)] [] (WM cy a V X) :=
  lp_rule (hd := (fun x : Int32 => Wp Γ 0 0 32 [(0, .ref (a 0)), (1, .int v1), (2, .int x)] [] (WM cy a V X))) (C := (fun y : Int32 => FinZ Γ cX12_isJoined (WM cy a V X) y)) (fun x z h hz => w_X12_isJoined_B32 C0 hD h hz) _ _ _ h hz
theorem w_X12_isJoined {z : Int32} {Γ : Gam} {cy : Nat → ClassId} {a : Nat → Nat} {V : VT} {X : va_W} {v1 : Int32}  (C0 : CXg Γ cX12_isJoined 4 2 RX12 cy) (hD : DM Γ cy a X) (h : f_X12_isJoined v1 V = some z) (hz : (fun y : Int32 => FinZ Γ cX12_isJoined (WM cy a V X) y) z) : Wp Γ 0 0 0 [(0, .ref (a 0)), (1, .int v1)] [] (WM cy a V X) := by
  unfold f_X12_isJoined at h
  refine r_iload_n C0 dX12_isJoined_0 rfl 1 rfl ?_
  refine r_if_lt C0 28 dX12_isJoined_1 rfl h (fun _ h => ?_) (fun _ h => ?_)
  · refine r_iconst C0 dX12_isJoined_28 ki_0 ?_
    cases h
    exact hz _ _ nz_0 dX12_isJoined_29
  · refine r_iload_n C0 dX12_isJoined_4 rfl 1 rfl ?_
    refine r_bipush C0 dX12_isJoined_5 kb_10 ?_
    refine r_icmp_gt C0 28 dX12_isJoined_7 rfl h (fun _ h => ?_) (fun _ h => ?_)
    · refine r_iconst C0 dX12_isJoined_28 ki_0 ?_
      cases h
      exact hz _ _ nz_0 dX12_isJoined_29
    · refine r_aload_n C0 dX12_isJoined_10 rfl 0 rfl ?_
      refine r_iload_n C0 dX12_isJoined_11 rfl 1 rfl ?_
      refine callV1 C0 h (hD _) mw_X12_isRigged rv_m tm_X12_66 (fun y hy => c_X12_isRigged hy) (Nat.le_of_ble_eq_true rfl) (Nat.le_of_ble_eq_true rfl) dX12_isJoined_12 (fun r1 h => ?_)
      refine r_if_eq C0 28 dX12_isJoined_15 rfl h (fun _ h => ?_) (fun _ h => ?_)
      · refine r_iconst C0 dX12_isJoined_28 ki_0 ?_
        cases h
        exact hz _ _ nz_0 dX12_isJoined_29
      · refine r_aload_n C0 dX12_isJoined_18 rfl 0 rfl ?_
        refine r_iload_n C0 dX12_isJoined_19 rfl 1 rfl ?_
        refine r_iconst C0 dX12_isJoined_20 ki_1 ?_
        refine r_iadd C0 dX12_isJoined_21 ?_
        refine callV1 C0 h (hD _) mw_X12_isRigged rv_m tm_X12_66 (fun y hy => c_X12_isRigged hy) (Nat.le_of_ble_eq_true rfl) (Nat.le_of_ble_eq_true rfl) dX12_isJoined_22 (fun r2 h => ?_)
        refine r_if_ne C0 30 dX12_isJoined_25 rfl h (fun _ h => ?_) (fun _ h => ?_)
        · refine r_iconst C0 dX12_isJoined_30 ki_0 ?_
          obtain ⟨a3, h8, h⟩ := op_bind h
          have e8 := Option.some.inj h8
          refine r_istore_n (lv2 := [(2, .int a3), (0, .ref (a 0)), (1, .int v1)]) C0 dX12_isJoined_31 rfl e8 (Nat.le_of_ble_eq_true rfl) rfl ?_
          exact r_sub [1, 2, 0] rfl (w_X12_isJoined_B32_lp C0 hD h hz)
        · refine r_iconst C0 dX12_isJoined_28 ki_0 ?_
          cases h
          exact hz _ _ nz_0 dX12_isJoined_29
theorem c_X12_isJoined {l : Launch} {D : va_G} {cy : Nat → ClassId} {a : Nat → Nat} {V : VT} {X : va_W} {v1 : Int32} {y : Int32} (h : f_X12_isJoined v1 V = some y) : CT l D cy yX12_isJoined cX12_isJoined 4 (some .boolean) 2 [.ref (a 0), .int v1] (WM cy a V X) (WM cy a V X) (some (.int y)) :=
  mkZ (by decide) (Nat.le_of_ble_eq_true rfl) (fun Γ _ _ C0 hD hF => w_X12_isJoined C0 (dm_of hD) h hF)
theorem dX12_firstOfGroup_0 : decode cX12_firstOfGroup 0 = .ok (.iload_n 1, 1) := by decide +kernel
theorem dX12_firstOfGroup_1 : decode cX12_firstOfGroup 1 = .ok (.istore_n 2, 1) := by decide +kernel
theorem dX12_firstOfGroup_2 : decode cX12_firstOfGroup 2 = .ok (.aload_n 0, 1) := by decide +kernel
theorem dX12_firstOfGroup_3 : decode cX12_firstOfGroup 3 = .ok (.iload_n 2, 1) := by decide +kernel
theorem dX12_firstOfGroup_4 : decode cX12_firstOfGroup 4 = .ok (.iconst 1, 1) := by decide +kernel
theorem dX12_firstOfGroup_5 : decode cX12_firstOfGroup 5 = .ok (.isub, 1) := by decide +kernel
theorem dX12_firstOfGroup_6 : decode cX12_firstOfGroup 6 = .ok (.invokevirtual 137, 3) := by decide +kernel
theorem dX12_firstOfGroup_9 : decode cX12_firstOfGroup 9 = .ok (.ifCond .eq 9, 3) := by decide +kernel
theorem dX12_firstOfGroup_12 : decode cX12_firstOfGroup 12 = .ok (.iinc 2 (-1), 3) := by decide +kernel
theorem dX12_firstOfGroup_15 : decode cX12_firstOfGroup 15 = .ok (.goto (-13), 3) := by decide +kernel
theorem dX12_firstOfGroup_18 : decode cX12_firstOfGroup 18 = .ok (.iload_n 2, 1) := by decide +kernel
theorem dX12_firstOfGroup_19 : decode cX12_firstOfGroup 19 = .ok (.ireturn, 1) := by decide +kernel
theorem w_X12_firstOfGroup_B2 {x : Int32} {z : ((Int32) ⊕ (Int32))} {Γ : Gam} {cy : Nat → ClassId} {a : Nat → Nat} {V : VT} {X : va_W}  (C0 : CXg Γ cX12_firstOfGroup 3 3 RX12 cy) (hD : DM Γ cy a X) (h : f_X12_firstOfGroup_B2 V x = some z) (hz : (Sum.elim (fun x : Int32 => Wp Γ 0 0 2 [(0, .ref (a 0)), (2, .int x)] [] (WM cy a V X)) (fun y : Int32 => FinI Γ cX12_firstOfGroup (WM cy a V X) y)) z) : Wp Γ 0 0 2 [(0, .ref (a 0)), (2, .int x)] [] (WM cy a V X) := by
  unfold f_X12_firstOfGroup_B2 at h
  refine r_aload_n C0 dX12_firstOfGroup_2 rfl 0 rfl ?_
  refine r_iload_n C0 dX12_firstOfGroup_3 rfl 1 rfl ?_
  refine r_iconst C0 dX12_firstOfGroup_4 ki_1 ?_
  refine r_isub C0 dX12_firstOfGroup_5 ?_
  refine callV1 C0 h (hD _) mw_X12_isJoined rv_m tm_X12_137 (fun y hy => c_X12_isJoined hy) (Nat.le_of_ble_eq_true rfl) (Nat.le_of_ble_eq_true rfl) dX12_firstOfGroup_6 (fun r1 h => ?_)
  refine r_if_eq C0 18 dX12_firstOfGroup_9 rfl h (fun _ h => ?_) (fun _ h => ?_)
  · obtain ⟨y2, h5, h9⟩ := op_bind h
    clear h
    cases h9
    have hz := (el_inr hz)
    have h := h5
    refine r_iload_n C0 dX12_firstOfGroup_18 rfl 1 rfl ?_
    cases h
    exact hz _ _ dX12_firstOfGroup_19
  · obtain ⟨a3, h8, h⟩ := op_bind h
    have e8 := Option.some.inj h8
    refine r_iinc (lv2 := [(2, .int a3), (0, .ref (a 0))]) C0 dX12_firstOfGroup_12 1 rfl ki_m1 e8 (Nat.le_of_ble_eq_true rfl) rfl ?_
    refine r_goto C0 2 dX12_firstOfGroup_15 rfl ?_
    cases h
    have hz := el_inl hz
    exact r_sub [1, 0] rfl hz
theorem w_X12_firstOfGroup_B2_lp {x : Int32} {z : (Int32)} {Γ : Gam} {cy : Nat → ClassId} {a : Nat → Nat} {V : VT} {X : va_W}  (C0 : CXg Γ cX12_firstOfGroup 3 3 RX12 cy) (hD : DM Γ cy a X) (h : lp (f_X12_firstOfGroup_B2 V) fuel x = some z) (hz : (fun y : Int32 => FinI Γ cX12_firstOfGroup (WM cy a V X) y) z) : Wp Γ 0 0 2 [(0, .ref (a 0)), (2, .int x)] [] (WM cy a V X) :=
  lp_rule (hd := (fun x : Int32 => Wp Γ 0 0 2 [(0, .ref (a 0)), (2, .int x)] [] (WM cy a V X))) (C := (fun y : Int32 => FinI Γ cX12_firstOfGroup (WM cy a V X) y)) (fun x z h hz => w_X12_firstOfGroup_B2 C0 hD h hz) _ _ _ h hz
theorem w_X12_firstOfGroup {z : Int32} {Γ : Gam} {cy : Nat → ClassId} {a : Nat → Nat} {V : VT} {X : va_W} {v1 : Int32}  (C0 : CXg Γ cX12_firstOfGroup 3 3 RX12 cy) (hD : DM Γ cy a X) (h : f_X12_firstOfGroup v1 V = some z) (hz : (fun y : Int32 => FinI Γ cX12_firstOfGroup (WM cy a V X) y) z) : Wp Γ 0 0 0 [(0, .ref (a 0)), (1, .int v1)] [] (WM cy a V X) := by
  unfold f_X12_firstOfGroup at h
  refine r_iload_n C0 dX12_firstOfGroup_0 rfl 1 rfl ?_
  refine r_istore_n (lv2 := [(2, .int v1), (0, .ref (a 0)), (1, .int v1)]) C0 dX12_firstOfGroup_1 rfl rfl (Nat.le_of_ble_eq_true rfl) rfl ?_
  exact r_sub [1, 0] rfl (w_X12_firstOfGroup_B2_lp C0 hD h hz)
theorem c_X12_firstOfGroup {l : Launch} {D : va_G} {cy : Nat → ClassId} {a : Nat → Nat} {V : VT} {X : va_W} {v1 : Int32} {y : Int32} (h : f_X12_firstOfGroup v1 V = some y) : CT l D cy yX12_firstOfGroup cX12_firstOfGroup 3 (some .int) 3 [.ref (a 0), .int v1] (WM cy a V X) (WM cy a V X) (some (.int y)) :=
  mkI (by decide) (Nat.le_of_ble_eq_true rfl) (fun Γ _ _ C0 hD hF => w_X12_firstOfGroup C0 (dm_of hD) h hF)
theorem dX12_lastOfGroup_0 : decode cX12_lastOfGroup 0 = .ok (.iload_n 1, 1) := by decide +kernel
theorem dX12_lastOfGroup_1 : decode cX12_lastOfGroup 1 = .ok (.istore_n 2, 1) := by decide +kernel
theorem dX12_lastOfGroup_2 : decode cX12_lastOfGroup 2 = .ok (.aload_n 0, 1) := by decide +kernel
theorem dX12_lastOfGroup_3 : decode cX12_lastOfGroup 3 = .ok (.iload_n 2, 1) := by decide +kernel
theorem dX12_lastOfGroup_4 : decode cX12_lastOfGroup 4 = .ok (.invokevirtual 137, 3) := by decide +kernel
theorem dX12_lastOfGroup_7 : decode cX12_lastOfGroup 7 = .ok (.ifCond .eq 9, 3) := by decide +kernel
theorem dX12_lastOfGroup_10 : decode cX12_lastOfGroup 10 = .ok (.iinc 2 1, 3) := by decide +kernel
theorem dX12_lastOfGroup_13 : decode cX12_lastOfGroup 13 = .ok (.goto (-11), 3) := by decide +kernel
theorem dX12_lastOfGroup_16 : decode cX12_lastOfGroup 16 = .ok (.iload_n 2, 1) := by decide +kernel
theorem dX12_lastOfGroup_17 : decode cX12_lastOfGroup 17 = .ok (.ireturn, 1) := by decide +kernel
theorem w_X12_lastOfGroup_B2 {x : Int32} {z : ((Int32) ⊕ (Int32))} {Γ : Gam} {cy : Nat → ClassId} {a : Nat → Nat} {V : VT} {X : va_W}  (C0 : CXg Γ cX12_lastOfGroup 3 3 RX12 cy) (hD : DM Γ cy a X) (h : f_X12_lastOfGroup_B2 V x = some z) (hz : (Sum.elim (fun x : Int32 => Wp Γ 0 0 2 [(0, .ref (a 0)), (2, .int x)] [] (WM cy a V X)) (fun y : Int32 => FinI Γ cX12_lastOfGroup (WM cy a V X) y)) z) : Wp Γ 0 0 2 [(0, .ref (a 0)), (2, .int x)] [] (WM cy a V X) := by
  unfold f_X12_lastOfGroup_B2 at h
  refine r_aload_n C0 dX12_lastOfGroup_2 rfl 0 rfl ?_
  refine r_iload_n C0 dX12_lastOfGroup_3 rfl 1 rfl ?_
  refine callV1 C0 h (hD _) mw_X12_isJoined rv_m tm_X12_137 (fun y hy => c_X12_isJoined hy) (Nat.le_of_ble_eq_true rfl) (Nat.le_of_ble_eq_true rfl) dX12_lastOfGroup_4 (fun r1 h => ?_)
  refine r_if_eq C0 16 dX12_lastOfGroup_7 rfl h (fun _ h => ?_) (fun _ h => ?_)
  · obtain ⟨y2, h5, h9⟩ := op_bind h
    clear h
    cases h9
    have hz := (el_inr hz)
    have h := h5
    refine r_iload_n C0 dX12_lastOfGroup_16 rfl 1 rfl ?_
    cases h
    exact hz _ _ dX12_lastOfGroup_17
  · obtain ⟨a3, h8, h⟩ := op_bind h
    have e8 := Option.some.inj h8
    refine r_iinc (lv2 := [(2, .int a3), (0, .ref (a 0))]) C0 dX12_lastOfGroup_10 1 rfl ki_1 e8 (Nat.le_of_ble_eq_true rfl) rfl ?_
    refine r_goto C0 2 dX12_lastOfGroup_13 rfl ?_
    cases h
    have hz := el_inl hz
    exact r_sub [1, 0] rfl hz
theorem w_X12_lastOfGroup_B2_lp {x : Int32} {z : (Int32)} {Γ : Gam} {cy : Nat → ClassId} {a : Nat → Nat} {V : VT} {X : va_W}  (C0 : CXg Γ cX12_lastOfGroup 3 3 RX12 cy) (hD : DM Γ cy a X) (h : lp (f_X12_lastOfGroup_B2 V) fuel x = some z) (hz : (fun y : Int32 => FinI Γ cX12_lastOfGroup (WM cy a V X) y) z) : Wp Γ 0 0 2 [(0, .ref (a 0)), (2, .int x)] [] (WM cy a V X) :=
  lp_rule (hd := (fun x : Int32 => Wp Γ 0 0 2 [(0, .ref (a 0)), (2, .int x)] [] (WM cy a V X))) (C := (fun y : Int32 => FinI Γ cX12_lastOfGroup (WM cy a V X) y)) (fun x z h hz => w_X12_lastOfGroup_B2 C0 hD h hz) _ _ _ h hz
theorem w_X12_lastOfGroup {z : Int32} {Γ : Gam} {cy : Nat → ClassId} {a : Nat → Nat} {V : VT} {X : va_W} {v1 : Int32}  (C0 : CXg Γ cX12_lastOfGroup 3 3 RX12 cy) (hD : DM Γ cy a X) (h : f_X12_lastOfGroup v1 V = some z) (hz : (fun y : Int32 => FinI Γ cX12_lastOfGroup (WM cy a V X) y) z) : Wp Γ 0 0 0 [(0, .ref (a 0)), (1, .int v1)] [] (WM cy a V X) := by
  unfold f_X12_lastOfGroup at h
  refine r_iload_n C0 dX12_lastOfGroup_0 rfl 1 rfl ?_
  refine r_istore_n (lv2 := [(2, .int v1), (0, .ref (a 0)), (1, .int v1)]) C0 dX12_lastOfGroup_1 rfl rfl (Nat.le_of_ble_eq_true rfl) rfl ?_
  exact r_sub [1, 0] rfl (w_X12_lastOfGroup_B2_lp C0 hD h hz)
theorem c_X12_lastOfGroup {l : Launch} {D : va_G} {cy : Nat → ClassId} {a : Nat → Nat} {V : VT} {X : va_W} {v1 : Int32} {y : Int32} (h : f_X12_lastOfGroup v1 V = some y) : CT l D cy yX12_lastOfGroup cX12_lastOfGroup 3 (some .int) 3 [.ref (a 0), .int v1] (WM cy a V X) (WM cy a V X) (some (.int y)) :=
  mkI (by decide) (Nat.le_of_ble_eq_true rfl) (fun Γ _ _ C0 hD hF => w_X12_lastOfGroup C0 (dm_of hD) h hF)
theorem dX12_cueIs_0 : decode cX12_cueIs 0 = .ok (.aload_n 0, 1) := by decide +kernel
theorem dX12_cueIs_1 : decode cX12_cueIs 1 = .ok (.getfield 7, 3) := by decide +kernel
theorem dX12_cueIs_4 : decode cX12_cueIs 4 = .ok (.sipush 1132, 3) := by decide +kernel
theorem dX12_cueIs_7 : decode cX12_cueIs 7 = .ok (.iconst 5, 1) := by decide +kernel
theorem dX12_cueIs_8 : decode cX12_cueIs 8 = .ok (.iload_n 1, 1) := by decide +kernel
theorem dX12_cueIs_9 : decode cX12_cueIs 9 = .ok (.imul, 1) := by decide +kernel
theorem dX12_cueIs_10 : decode cX12_cueIs 10 = .ok (.iadd, 1) := by decide +kernel
theorem dX12_cueIs_11 : decode cX12_cueIs 11 = .ok (.iload_n 2, 1) := by decide +kernel
theorem dX12_cueIs_12 : decode cX12_cueIs 12 = .ok (.iadd, 1) := by decide +kernel
theorem dX12_cueIs_13 : decode cX12_cueIs 13 = .ok (.iaload, 1) := by decide +kernel
theorem dX12_cueIs_14 : decode cX12_cueIs 14 = .ok (.ireturn, 1) := by decide +kernel
theorem w_X12_cueIs {z : Int32} {Γ : Gam} {cy : Nat → ClassId} {a : Nat → Nat} {V : VT} {X : va_W} {v1 : Int32} {v2 : Int32}  (C0 : CXg Γ cX12_cueIs 3 0 RX12 cy) (hD : DM Γ cy a X) (h : f_X12_cueIs v1 v2 V = some z) (hz : (fun y : Int32 => FinI Γ cX12_cueIs (WM cy a V X) y) z) : Wp Γ 0 0 0 [(0, .ref (a 0)), (1, .int v1), (2, .int v2)] [] (WM cy a V X) := by
  unfold f_X12_cueIs at h
  refine r_aload_n C0 dX12_cueIs_0 rfl 0 rfl ?_
  refine wmg_0_0 C0 tf_X12_7 dX12_cueIs_1 ?_
  refine r_sipush C0 dX12_cueIs_4 ks_1132 ?_
  refine r_iconst C0 dX12_cueIs_7 ki_5 ?_
  refine r_iload_n C0 dX12_cueIs_8 rfl 1 rfl ?_
  refine r_imul C0 dX12_cueIs_9 ?_
  refine r_iadd C0 dX12_cueIs_10 ?_
  refine r_iload_n C0 dX12_cueIs_11 rfl 2 rfl ?_
  refine r_iadd C0 dX12_cueIs_12 ?_
  refine wmal_1 C0 h dX12_cueIs_13 (fun k1 h => ?_)
  cases h
  exact hz _ _ dX12_cueIs_14
theorem c_X12_cueIs {l : Launch} {D : va_G} {cy : Nat → ClassId} {a : Nat → Nat} {V : VT} {X : va_W} {v1 : Int32} {v2 : Int32} {y : Int32} (h : f_X12_cueIs v1 v2 V = some y) : CT l D cy yX12_cueIs cX12_cueIs 3 (some .int) 0 [.ref (a 0), .int v1, .int v2] (WM cy a V X) (WM cy a V X) (some (.int y)) :=
  mkI (by decide) (Nat.le_of_ble_eq_true rfl) (fun Γ _ _ C0 hD hF => w_X12_cueIs C0 (dm_of hD) h hF)
theorem dX12_runs_0 : decode cX12_runs 0 = .ok (.aload_n 0, 1) := by decide +kernel
theorem dX12_runs_1 : decode cX12_runs 1 = .ok (.iload_n 1, 1) := by decide +kernel
theorem dX12_runs_2 : decode cX12_runs 2 = .ok (.iconst 4, 1) := by decide +kernel
theorem dX12_runs_3 : decode cX12_runs 3 = .ok (.invokevirtual 140, 3) := by decide +kernel
theorem dX12_runs_6 : decode cX12_runs 6 = .ok (.ifCond .ne 48, 3) := by decide +kernel
theorem dX12_runs_9 : decode cX12_runs 9 = .ok (.aload_n 0, 1) := by decide +kernel
theorem dX12_runs_10 : decode cX12_runs 10 = .ok (.getfield 7, 3) := by decide +kernel
theorem dX12_runs_13 : decode cX12_runs 13 = .ok (.sipush 1645, 3) := by decide +kernel
theorem dX12_runs_16 : decode cX12_runs 16 = .ok (.iaload, 1) := by decide +kernel
theorem dX12_runs_17 : decode cX12_runs 17 = .ok (.aload_n 0, 1) := by decide +kernel
theorem dX12_runs_18 : decode cX12_runs 18 = .ok (.iload_n 1, 1) := by decide +kernel
theorem dX12_runs_19 : decode cX12_runs 19 = .ok (.iconst 2, 1) := by decide +kernel
theorem dX12_runs_20 : decode cX12_runs 20 = .ok (.invokevirtual 140, 3) := by decide +kernel
theorem dX12_runs_23 : decode cX12_runs 23 = .ok (.if_icmp .lt 31, 3) := by decide +kernel
theorem dX12_runs_26 : decode cX12_runs 26 = .ok (.aload_n 0, 1) := by decide +kernel
theorem dX12_runs_27 : decode cX12_runs 27 = .ok (.getfield 7, 3) := by decide +kernel
theorem dX12_runs_30 : decode cX12_runs 30 = .ok (.sipush 1645, 3) := by decide +kernel
theorem dX12_runs_33 : decode cX12_runs 33 = .ok (.iaload, 1) := by decide +kernel
theorem dX12_runs_34 : decode cX12_runs 34 = .ok (.aload_n 0, 1) := by decide +kernel
theorem dX12_runs_35 : decode cX12_runs 35 = .ok (.iload_n 1, 1) := by decide +kernel
theorem dX12_runs_36 : decode cX12_runs 36 = .ok (.iconst 2, 1) := by decide +kernel
theorem dX12_runs_37 : decode cX12_runs 37 = .ok (.invokevirtual 140, 3) := by decide +kernel
theorem dX12_runs_40 : decode cX12_runs 40 = .ok (.aload_n 0, 1) := by decide +kernel
theorem dX12_runs_41 : decode cX12_runs 41 = .ok (.iload_n 1, 1) := by decide +kernel
theorem dX12_runs_42 : decode cX12_runs 42 = .ok (.iconst 3, 1) := by decide +kernel
theorem dX12_runs_43 : decode cX12_runs 43 = .ok (.invokevirtual 140, 3) := by decide +kernel
theorem dX12_runs_46 : decode cX12_runs 46 = .ok (.iadd, 1) := by decide +kernel
theorem dX12_runs_47 : decode cX12_runs 47 = .ok (.if_icmp .ge 7, 3) := by decide +kernel
theorem dX12_runs_50 : decode cX12_runs 50 = .ok (.iconst 1, 1) := by decide +kernel
theorem dX12_runs_51 : decode cX12_runs 51 = .ok (.goto 4, 3) := by decide +kernel
theorem dX12_runs_54 : decode cX12_runs 54 = .ok (.iconst 0, 1) := by decide +kernel
theorem dX12_runs_55 : decode cX12_runs 55 = .ok (.ireturn, 1) := by decide +kernel
theorem w_X12_runs_j54 {z : (Int32)} {Γ : Gam} {cy : Nat → ClassId} {a : Nat → Nat} {V : VT} {X : va_W}  (C0 : CXg Γ cX12_runs 2 1 RX12 cy) (hD : DM Γ cy a X) (h : f_X12_runs_j54 V = some z) (hz : (fun y : Int32 => FinZ Γ cX12_runs (WM cy a V X) y) z) : Wp Γ 0 0 54 [] [] (WM cy a V X) := by
  unfold f_X12_runs_j54 at h
  refine r_iconst C0 dX12_runs_54 ki_0 ?_
  cases h
  exact hz _ _ nz_0 dX12_runs_55
theorem w_X12_runs {z : Int32} {Γ : Gam} {cy : Nat → ClassId} {a : Nat → Nat} {V : VT} {X : va_W} {v1 : Int32}  (C0 : CXg Γ cX12_runs 2 1 RX12 cy) (hD : DM Γ cy a X) (h : f_X12_runs v1 V = some z) (hz : (fun y : Int32 => FinZ Γ cX12_runs (WM cy a V X) y) z) : Wp Γ 0 0 0 [(0, .ref (a 0)), (1, .int v1)] [] (WM cy a V X) := by
  unfold f_X12_runs at h
  refine r_aload_n C0 dX12_runs_0 rfl 0 rfl ?_
  refine r_iload_n C0 dX12_runs_1 rfl 1 rfl ?_
  refine r_iconst C0 dX12_runs_2 ki_4 ?_
  refine callV2 C0 h (hD _) mw_X12_cueIs rv_m tm_X12_140 (fun y hy => c_X12_cueIs hy) (Nat.le_of_ble_eq_true rfl) (Nat.le_of_ble_eq_true rfl) dX12_runs_3 (fun r1 h => ?_)
  refine r_if_ne C0 54 dX12_runs_6 rfl h (fun _ h => ?_) (fun _ h => ?_)
  · exact r_sub [] rfl (w_X12_runs_j54 C0 hD h hz)
  · refine r_aload_n C0 dX12_runs_9 rfl 0 rfl ?_
    refine wmg_0_0 C0 tf_X12_7 dX12_runs_10 ?_
    refine r_sipush C0 dX12_runs_13 ks_1645 ?_
    refine wmal_1 C0 h dX12_runs_16 (fun k2 h => ?_)
    refine r_aload_n C0 dX12_runs_17 rfl 0 rfl ?_
    refine r_iload_n C0 dX12_runs_18 rfl 1 rfl ?_
    refine r_iconst C0 dX12_runs_19 ki_2 ?_
    refine callV2 C0 h (hD _) mw_X12_cueIs rv_m tm_X12_140 (fun y hy => c_X12_cueIs hy) (Nat.le_of_ble_eq_true rfl) (Nat.le_of_ble_eq_true rfl) dX12_runs_20 (fun r3 h => ?_)
    refine r_icmp_lt C0 54 dX12_runs_23 rfl h (fun _ h => ?_) (fun _ h => ?_)
    · exact r_sub [] rfl (w_X12_runs_j54 C0 hD h hz)
    · refine r_aload_n C0 dX12_runs_26 rfl 0 rfl ?_
      refine wmg_0_0 C0 tf_X12_7 dX12_runs_27 ?_
      refine r_sipush C0 dX12_runs_30 ks_1645 ?_
      refine wmal_1 C0 h dX12_runs_33 (fun k4 h => ?_)
      refine r_aload_n C0 dX12_runs_34 rfl 0 rfl ?_
      refine r_iload_n C0 dX12_runs_35 rfl 1 rfl ?_
      refine r_iconst C0 dX12_runs_36 ki_2 ?_
      refine callV2 C0 h (hD _) mw_X12_cueIs rv_m tm_X12_140 (fun y hy => c_X12_cueIs hy) (Nat.le_of_ble_eq_true rfl) (Nat.le_of_ble_eq_true rfl) dX12_runs_37 (fun r5 h => ?_)
      refine r_aload_n C0 dX12_runs_40 rfl 0 rfl ?_
      refine r_iload_n C0 dX12_runs_41 rfl 1 rfl ?_
      refine r_iconst C0 dX12_runs_42 ki_3 ?_
      refine callV2 C0 h (hD _) mw_X12_cueIs rv_m tm_X12_140 (fun y hy => c_X12_cueIs hy) (Nat.le_of_ble_eq_true rfl) (Nat.le_of_ble_eq_true rfl) dX12_runs_43 (fun r6 h => ?_)
      refine r_iadd C0 dX12_runs_46 ?_
      refine r_icmp_ge C0 54 dX12_runs_47 rfl h (fun _ h => ?_) (fun _ h => ?_)
      · exact r_sub [] rfl (w_X12_runs_j54 C0 hD h hz)
      · refine r_iconst C0 dX12_runs_50 ki_1 ?_
        refine r_goto C0 55 dX12_runs_51 rfl ?_
        cases h
        exact hz _ _ nz_1 dX12_runs_55
theorem c_X12_runs {l : Launch} {D : va_G} {cy : Nat → ClassId} {a : Nat → Nat} {V : VT} {X : va_W} {v1 : Int32} {y : Int32} (h : f_X12_runs v1 V = some y) : CT l D cy yX12_runs cX12_runs 2 (some .boolean) 1 [.ref (a 0), .int v1] (WM cy a V X) (WM cy a V X) (some (.int y)) :=
  mkZ (by decide) (Nat.le_of_ble_eq_true rfl) (fun Γ _ _ C0 hD hF => w_X12_runs C0 (dm_of hD) h hF)
theorem dX12_isNotOver_0 : decode cX12_isNotOver 0 = .ok (.aload_n 0, 1) := by decide +kernel
theorem dX12_isNotOver_1 : decode cX12_isNotOver 1 = .ok (.iload_n 1, 1) := by decide +kernel
theorem dX12_isNotOver_2 : decode cX12_isNotOver 2 = .ok (.iconst 4, 1) := by decide +kernel
theorem dX12_isNotOver_3 : decode cX12_isNotOver 3 = .ok (.invokevirtual 140, 3) := by decide +kernel
theorem dX12_isNotOver_6 : decode cX12_isNotOver 6 = .ok (.ifCond .ne 31, 3) := by decide +kernel
theorem dX12_isNotOver_9 : decode cX12_isNotOver 9 = .ok (.aload_n 0, 1) := by decide +kernel
theorem dX12_isNotOver_10 : decode cX12_isNotOver 10 = .ok (.getfield 7, 3) := by decide +kernel
theorem dX12_isNotOver_13 : decode cX12_isNotOver 13 = .ok (.sipush 1645, 3) := by decide +kernel
theorem dX12_isNotOver_16 : decode cX12_isNotOver 16 = .ok (.iaload, 1) := by decide +kernel
theorem dX12_isNotOver_17 : decode cX12_isNotOver 17 = .ok (.aload_n 0, 1) := by decide +kernel
theorem dX12_isNotOver_18 : decode cX12_isNotOver 18 = .ok (.iload_n 1, 1) := by decide +kernel
theorem dX12_isNotOver_19 : decode cX12_isNotOver 19 = .ok (.iconst 2, 1) := by decide +kernel
theorem dX12_isNotOver_20 : decode cX12_isNotOver 20 = .ok (.invokevirtual 140, 3) := by decide +kernel
theorem dX12_isNotOver_23 : decode cX12_isNotOver 23 = .ok (.aload_n 0, 1) := by decide +kernel
theorem dX12_isNotOver_24 : decode cX12_isNotOver 24 = .ok (.iload_n 1, 1) := by decide +kernel
theorem dX12_isNotOver_25 : decode cX12_isNotOver 25 = .ok (.iconst 3, 1) := by decide +kernel
theorem dX12_isNotOver_26 : decode cX12_isNotOver 26 = .ok (.invokevirtual 140, 3) := by decide +kernel
theorem dX12_isNotOver_29 : decode cX12_isNotOver 29 = .ok (.iadd, 1) := by decide +kernel
theorem dX12_isNotOver_30 : decode cX12_isNotOver 30 = .ok (.if_icmp .ge 7, 3) := by decide +kernel
theorem dX12_isNotOver_33 : decode cX12_isNotOver 33 = .ok (.iconst 1, 1) := by decide +kernel
theorem dX12_isNotOver_34 : decode cX12_isNotOver 34 = .ok (.goto 4, 3) := by decide +kernel
theorem dX12_isNotOver_37 : decode cX12_isNotOver 37 = .ok (.iconst 0, 1) := by decide +kernel
theorem dX12_isNotOver_38 : decode cX12_isNotOver 38 = .ok (.ireturn, 1) := by decide +kernel
theorem w_X12_isNotOver_j37 {z : (Int32)} {Γ : Gam} {cy : Nat → ClassId} {a : Nat → Nat} {V : VT} {X : va_W}  (C0 : CXg Γ cX12_isNotOver 2 1 RX12 cy) (hD : DM Γ cy a X) (h : f_X12_isNotOver_j37 V = some z) (hz : (fun y : Int32 => FinZ Γ cX12_isNotOver (WM cy a V X) y) z) : Wp Γ 0 0 37 [] [] (WM cy a V X) := by
  unfold f_X12_isNotOver_j37 at h
  refine r_iconst C0 dX12_isNotOver_37 ki_0 ?_
  cases h
  exact hz _ _ nz_0 dX12_isNotOver_38
theorem w_X12_isNotOver {z : Int32} {Γ : Gam} {cy : Nat → ClassId} {a : Nat → Nat} {V : VT} {X : va_W} {v1 : Int32}  (C0 : CXg Γ cX12_isNotOver 2 1 RX12 cy) (hD : DM Γ cy a X) (h : f_X12_isNotOver v1 V = some z) (hz : (fun y : Int32 => FinZ Γ cX12_isNotOver (WM cy a V X) y) z) : Wp Γ 0 0 0 [(0, .ref (a 0)), (1, .int v1)] [] (WM cy a V X) := by
  unfold f_X12_isNotOver at h
  refine r_aload_n C0 dX12_isNotOver_0 rfl 0 rfl ?_
  refine r_iload_n C0 dX12_isNotOver_1 rfl 1 rfl ?_
  refine r_iconst C0 dX12_isNotOver_2 ki_4 ?_
  refine callV2 C0 h (hD _) mw_X12_cueIs rv_m tm_X12_140 (fun y hy => c_X12_cueIs hy) (Nat.le_of_ble_eq_true rfl) (Nat.le_of_ble_eq_true rfl) dX12_isNotOver_3 (fun r1 h => ?_)
  refine r_if_ne C0 37 dX12_isNotOver_6 rfl h (fun _ h => ?_) (fun _ h => ?_)
  · exact r_sub [] rfl (w_X12_isNotOver_j37 C0 hD h hz)
  · refine r_aload_n C0 dX12_isNotOver_9 rfl 0 rfl ?_
    refine wmg_0_0 C0 tf_X12_7 dX12_isNotOver_10 ?_
    refine r_sipush C0 dX12_isNotOver_13 ks_1645 ?_
    refine wmal_1 C0 h dX12_isNotOver_16 (fun k2 h => ?_)
    refine r_aload_n C0 dX12_isNotOver_17 rfl 0 rfl ?_
    refine r_iload_n C0 dX12_isNotOver_18 rfl 1 rfl ?_
    refine r_iconst C0 dX12_isNotOver_19 ki_2 ?_
    refine callV2 C0 h (hD _) mw_X12_cueIs rv_m tm_X12_140 (fun y hy => c_X12_cueIs hy) (Nat.le_of_ble_eq_true rfl) (Nat.le_of_ble_eq_true rfl) dX12_isNotOver_20 (fun r3 h => ?_)
    refine r_aload_n C0 dX12_isNotOver_23 rfl 0 rfl ?_
    refine r_iload_n C0 dX12_isNotOver_24 rfl 1 rfl ?_
    refine r_iconst C0 dX12_isNotOver_25 ki_3 ?_
    refine callV2 C0 h (hD _) mw_X12_cueIs rv_m tm_X12_140 (fun y hy => c_X12_cueIs hy) (Nat.le_of_ble_eq_true rfl) (Nat.le_of_ble_eq_true rfl) dX12_isNotOver_26 (fun r4 h => ?_)
    refine r_iadd C0 dX12_isNotOver_29 ?_
    refine r_icmp_ge C0 37 dX12_isNotOver_30 rfl h (fun _ h => ?_) (fun _ h => ?_)
    · exact r_sub [] rfl (w_X12_isNotOver_j37 C0 hD h hz)
    · refine r_iconst C0 dX12_isNotOver_33 ki_1 ?_
      refine r_goto C0 38 dX12_isNotOver_34 rfl ?_
      cases h
      exact hz _ _ nz_1 dX12_isNotOver_38
theorem c_X12_isNotOver {l : Launch} {D : va_G} {cy : Nat → ClassId} {a : Nat → Nat} {V : VT} {X : va_W} {v1 : Int32} {y : Int32} (h : f_X12_isNotOver v1 V = some y) : CT l D cy yX12_isNotOver cX12_isNotOver 2 (some .boolean) 1 [.ref (a 0), .int v1] (WM cy a V X) (WM cy a V X) (some (.int y)) :=
  mkZ (by decide) (Nat.le_of_ble_eq_true rfl) (fun Γ _ _ C0 hD hF => w_X12_isNotOver C0 (dm_of hD) h hF)
theorem dX12_running_0 : decode cX12_running 0 = .ok (.iconst 0, 1) := by decide +kernel
theorem dX12_running_1 : decode cX12_running 1 = .ok (.istore_n 2, 1) := by decide +kernel
theorem dX12_running_2 : decode cX12_running 2 = .ok (.iload_n 2, 1) := by decide +kernel
theorem dX12_running_3 : decode cX12_running 3 = .ok (.aload_n 0, 1) := by decide +kernel
theorem dX12_running_4 : decode cX12_running 4 = .ok (.getfield 7, 3) := by decide +kernel
theorem dX12_running_7 : decode cX12_running 7 = .ok (.sipush 1642, 3) := by decide +kernel
theorem dX12_running_10 : decode cX12_running 10 = .ok (.iaload, 1) := by decide +kernel
theorem dX12_running_11 : decode cX12_running 11 = .ok (.if_icmp .ge 29, 3) := by decide +kernel
theorem dX12_running_14 : decode cX12_running 14 = .ok (.aload_n 0, 1) := by decide +kernel
theorem dX12_running_15 : decode cX12_running 15 = .ok (.iload_n 2, 1) := by decide +kernel
theorem dX12_running_16 : decode cX12_running 16 = .ok (.iconst 0, 1) := by decide +kernel
theorem dX12_running_17 : decode cX12_running 17 = .ok (.invokevirtual 140, 3) := by decide +kernel
theorem dX12_running_20 : decode cX12_running 20 = .ok (.iload_n 1, 1) := by decide +kernel
theorem dX12_running_21 : decode cX12_running 21 = .ok (.if_icmp .ne 13, 3) := by decide +kernel
theorem dX12_running_24 : decode cX12_running 24 = .ok (.aload_n 0, 1) := by decide +kernel
theorem dX12_running_25 : decode cX12_running 25 = .ok (.iload_n 2, 1) := by decide +kernel
theorem dX12_running_26 : decode cX12_running 26 = .ok (.invokevirtual 143, 3) := by decide +kernel
theorem dX12_running_29 : decode cX12_running 29 = .ok (.ifCond .eq 5, 3) := by decide +kernel
theorem dX12_running_32 : decode cX12_running 32 = .ok (.iload_n 2, 1) := by decide +kernel
theorem dX12_running_33 : decode cX12_running 33 = .ok (.ireturn, 1) := by decide +kernel
theorem dX12_running_34 : decode cX12_running 34 = .ok (.iinc 2 1, 3) := by decide +kernel
theorem dX12_running_37 : decode cX12_running 37 = .ok (.goto (-35), 3) := by decide +kernel
theorem dX12_running_40 : decode cX12_running 40 = .ok (.iconst (-1), 1) := by decide +kernel
theorem dX12_running_41 : decode cX12_running 41 = .ok (.ireturn, 1) := by decide +kernel
theorem w_X12_running_j34 {z : ((Int32) ⊕ (Int32))} {Γ : Gam} {cy : Nat → ClassId} {a : Nat → Nat} {V : VT} {X : va_W} {v1 : Int32} {v2 : Int32}  (C0 : CXg Γ cX12_running 3 2 RX12 cy) (hD : DM Γ cy a X) (h : f_X12_running_j34 v1 v2 V = some z) (hz : (Sum.elim (fun x : Int32 => Wp Γ 0 0 2 [(0, .ref (a 0)), (1, .int v1), (2, .int x)] [] (WM cy a V X)) (fun y : Int32 => FinI Γ cX12_running (WM cy a V X) y)) z) : Wp Γ 0 0 34 [(0, .ref (a 0)), (1, .int v1), (2, .int v2)] [] (WM cy a V X) := by
  unfold f_X12_running_j34 at h
  obtain ⟨a5, h8, h⟩ := op_bind h
  have e8 := Option.some.inj h8
  refine r_iinc (lv2 := [(2, .int a5), (0, .ref (a 0)), (1, .int v1)]) C0 dX12_running_34 2 rfl ki_1 e8 (Nat.le_of_ble_eq_true rfl) rfl ?_
  refine r_goto C0 2 dX12_running_37 rfl ?_
  cases h
  have hz := el_inl hz
  exact r_sub [1, 2, 0] rfl hz
theorem w_X12_running_B2 {x : Int32} {z : ((Int32) ⊕ (Int32))} {Γ : Gam} {cy : Nat → ClassId} {a : Nat → Nat} {V : VT} {X : va_W} {v1 : Int32}  (C0 : CXg Γ cX12_running 3 2 RX12 cy) (hD : DM Γ cy a X) (h : f_X12_running_B2 v1 V x = some z) (hz : (Sum.elim (fun x : Int32 => Wp Γ 0 0 2 [(0, .ref (a 0)), (1, .int v1), (2, .int x)] [] (WM cy a V X)) (fun y : Int32 => FinI Γ cX12_running (WM cy a V X) y)) z) : Wp Γ 0 0 2 [(0, .ref (a 0)), (1, .int v1), (2, .int x)] [] (WM cy a V X) := by
  unfold f_X12_running_B2 at h
  refine r_iload_n C0 dX12_running_2 rfl 2 rfl ?_
  refine r_aload_n C0 dX12_running_3 rfl 0 rfl ?_
  refine wmg_0_0 C0 tf_X12_7 dX12_running_4 ?_
  refine r_sipush C0 dX12_running_7 ks_1642 ?_
  refine wmal_1 C0 h dX12_running_10 (fun k2 h => ?_)
  refine r_icmp_ge C0 40 dX12_running_11 rfl h (fun _ h => ?_) (fun _ h => ?_)
  · obtain ⟨y3, h5, h9⟩ := op_bind h
    clear h
    cases h9
    have hz := (el_inr hz)
    have h := h5
    refine r_iconst C0 dX12_running_40 ki_m1 ?_
    cases h
    exact hz _ _ dX12_running_41
  · refine r_aload_n C0 dX12_running_14 rfl 0 rfl ?_
    refine r_iload_n C0 dX12_running_15 rfl 2 rfl ?_
    refine r_iconst C0 dX12_running_16 ki_0 ?_
    refine callV2 C0 h (hD _) mw_X12_cueIs rv_m tm_X12_140 (fun y hy => c_X12_cueIs hy) (Nat.le_of_ble_eq_true rfl) (Nat.le_of_ble_eq_true rfl) dX12_running_17 (fun r4 h => ?_)
    refine r_iload_n C0 dX12_running_20 rfl 1 rfl ?_
    refine r_icmp_ne C0 34 dX12_running_21 rfl h (fun _ h => ?_) (fun _ h => ?_)
    · exact r_sub [0, 1, 2] rfl (w_X12_running_j34 C0 hD h hz)
    · refine r_aload_n C0 dX12_running_24 rfl 0 rfl ?_
      refine r_iload_n C0 dX12_running_25 rfl 2 rfl ?_
      refine callV1 C0 h (hD _) mw_X12_runs rv_m tm_X12_143 (fun y hy => c_X12_runs hy) (Nat.le_of_ble_eq_true rfl) (Nat.le_of_ble_eq_true rfl) dX12_running_26 (fun r6 h => ?_)
      refine r_if_eq C0 34 dX12_running_29 rfl h (fun _ h => ?_) (fun _ h => ?_)
      · exact r_sub [0, 1, 2] rfl (w_X12_running_j34 C0 hD h hz)
      · obtain ⟨y7, h5, h9⟩ := op_bind h
        clear h
        cases h9
        have hz := (el_inr hz)
        have h := h5
        refine r_iload_n C0 dX12_running_32 rfl 2 rfl ?_
        cases h
        exact hz _ _ dX12_running_33
theorem w_X12_running_B2_lp {x : Int32} {z : (Int32)} {Γ : Gam} {cy : Nat → ClassId} {a : Nat → Nat} {V : VT} {X : va_W} {v1 : Int32}  (C0 : CXg Γ cX12_running 3 2 RX12 cy) (hD : DM Γ cy a X) (h : lp (f_X12_running_B2 v1 V) fuel x = some z) (hz : (fun y : Int32 => FinI Γ cX12_running (WM cy a V X) y) z) : Wp Γ 0 0 2 [(0, .ref (a 0)), (1, .int v1), (2, .int x)] [] (WM cy a V X) :=
  lp_rule (hd := (fun x : Int32 => Wp Γ 0 0 2 [(0, .ref (a 0)), (1, .int v1), (2, .int x)] [] (WM cy a V X))) (C := (fun y : Int32 => FinI Γ cX12_running (WM cy a V X) y)) (fun x z h hz => w_X12_running_B2 C0 hD h hz) _ _ _ h hz
theorem w_X12_running {z : Int32} {Γ : Gam} {cy : Nat → ClassId} {a : Nat → Nat} {V : VT} {X : va_W} {v1 : Int32}  (C0 : CXg Γ cX12_running 3 2 RX12 cy) (hD : DM Γ cy a X) (h : f_X12_running v1 V = some z) (hz : (fun y : Int32 => FinI Γ cX12_running (WM cy a V X) y) z) : Wp Γ 0 0 0 [(0, .ref (a 0)), (1, .int v1)] [] (WM cy a V X) := by
  unfold f_X12_running at h
  refine r_iconst C0 dX12_running_0 ki_0 ?_
  obtain ⟨a1, h8, h⟩ := op_bind h
  have e8 := Option.some.inj h8
  refine r_istore_n (lv2 := [(2, .int a1), (0, .ref (a 0)), (1, .int v1)]) C0 dX12_running_1 rfl e8 (Nat.le_of_ble_eq_true rfl) rfl ?_
  exact r_sub [1, 2, 0] rfl (w_X12_running_B2_lp C0 hD h hz)
theorem c_X12_running {l : Launch} {D : va_G} {cy : Nat → ClassId} {a : Nat → Nat} {V : VT} {X : va_W} {v1 : Int32} {y : Int32} (h : f_X12_running v1 V = some y) : CT l D cy yX12_running cX12_running 3 (some .int) 2 [.ref (a 0), .int v1] (WM cy a V X) (WM cy a V X) (some (.int y)) :=
  mkI (by decide) (Nat.le_of_ble_eq_true rfl) (fun Γ _ _ C0 hD hF => w_X12_running C0 (dm_of hD) h hF)
theorem dX12_note_0 : decode cX12_note 0 = .ok (.aload_n 0, 1) := by decide +kernel
theorem dX12_note_1 : decode cX12_note 1 = .ok (.getfield 7, 3) := by decide +kernel
theorem dX12_note_4 : decode cX12_note 4 = .ok (.sipush 1643, 3) := by decide +kernel
theorem dX12_note_7 : decode cX12_note 7 = .ok (.iaload, 1) := by decide +kernel
theorem dX12_note_8 : decode cX12_note 8 = .ok (.bipush 40, 2) := by decide +kernel
theorem dX12_note_10 : decode cX12_note 10 = .ok (.if_icmp .lt 44, 3) := by decide +kernel
theorem dX12_note_13 : decode cX12_note 13 = .ok (.iconst 0, 1) := by decide +kernel
theorem dX12_note_14 : decode cX12_note 14 = .ok (.istore 5, 2) := by decide +kernel
theorem dX12_note_16 : decode cX12_note 16 = .ok (.iload 5, 2) := by decide +kernel
theorem dX12_note_18 : decode cX12_note 18 = .ok (.sipush 195, 3) := by decide +kernel
theorem dX12_note_21 : decode cX12_note 21 = .ok (.if_icmp .ge 33, 3) := by decide +kernel
theorem dX12_note_24 : decode cX12_note 24 = .ok (.aload_n 0, 1) := by decide +kernel
theorem dX12_note_25 : decode cX12_note 25 = .ok (.getfield 7, 3) := by decide +kernel
theorem dX12_note_28 : decode cX12_note 28 = .ok (.sipush 1440, 3) := by decide +kernel
theorem dX12_note_31 : decode cX12_note 31 = .ok (.iload 5, 2) := by decide +kernel
theorem dX12_note_33 : decode cX12_note 33 = .ok (.iadd, 1) := by decide +kernel
theorem dX12_note_34 : decode cX12_note 34 = .ok (.aload_n 0, 1) := by decide +kernel
theorem dX12_note_35 : decode cX12_note 35 = .ok (.getfield 7, 3) := by decide +kernel
theorem dX12_note_38 : decode cX12_note 38 = .ok (.sipush 1440, 3) := by decide +kernel
theorem dX12_note_41 : decode cX12_note 41 = .ok (.iload 5, 2) := by decide +kernel
theorem dX12_note_43 : decode cX12_note 43 = .ok (.iadd, 1) := by decide +kernel
theorem dX12_note_44 : decode cX12_note 44 = .ok (.iconst 5, 1) := by decide +kernel
theorem dX12_note_45 : decode cX12_note 45 = .ok (.iadd, 1) := by decide +kernel
theorem dX12_note_46 : decode cX12_note 46 = .ok (.iaload, 1) := by decide +kernel
theorem dX12_note_47 : decode cX12_note 47 = .ok (.iastore, 1) := by decide +kernel
theorem dX12_note_48 : decode cX12_note 48 = .ok (.iinc 5 1, 3) := by decide +kernel
theorem dX12_note_51 : decode cX12_note 51 = .ok (.goto (-35), 3) := by decide +kernel
theorem dX12_note_54 : decode cX12_note 54 = .ok (.sipush 1440, 3) := by decide +kernel
theorem dX12_note_57 : decode cX12_note 57 = .ok (.iconst 5, 1) := by decide +kernel
theorem dX12_note_58 : decode cX12_note 58 = .ok (.aload_n 0, 1) := by decide +kernel
theorem dX12_note_59 : decode cX12_note 59 = .ok (.getfield 7, 3) := by decide +kernel
theorem dX12_note_62 : decode cX12_note 62 = .ok (.sipush 1643, 3) := by decide +kernel
theorem dX12_note_65 : decode cX12_note 65 = .ok (.iaload, 1) := by decide +kernel
theorem dX12_note_66 : decode cX12_note 66 = .ok (.bipush 40, 2) := by decide +kernel
theorem dX12_note_68 : decode cX12_note 68 = .ok (.if_icmp .ge 14, 3) := by decide +kernel
theorem dX12_note_71 : decode cX12_note 71 = .ok (.aload_n 0, 1) := by decide +kernel
theorem dX12_note_72 : decode cX12_note 72 = .ok (.getfield 7, 3) := by decide +kernel
theorem dX12_note_75 : decode cX12_note 75 = .ok (.sipush 1643, 3) := by decide +kernel
theorem dX12_note_78 : decode cX12_note 78 = .ok (.iaload, 1) := by decide +kernel
theorem dX12_note_79 : decode cX12_note 79 = .ok (.goto 5, 3) := by decide +kernel
theorem dX12_note_82 : decode cX12_note 82 = .ok (.bipush 39, 2) := by decide +kernel
theorem dX12_note_84 : decode cX12_note 84 = .ok (.imul, 1) := by decide +kernel
theorem dX12_note_85 : decode cX12_note 85 = .ok (.iadd, 1) := by decide +kernel
theorem dX12_note_86 : decode cX12_note 86 = .ok (.istore 5, 2) := by decide +kernel
theorem dX12_note_88 : decode cX12_note 88 = .ok (.aload_n 0, 1) := by decide +kernel
theorem dX12_note_89 : decode cX12_note 89 = .ok (.getfield 7, 3) := by decide +kernel
theorem dX12_note_92 : decode cX12_note 92 = .ok (.iload 5, 2) := by decide +kernel
theorem dX12_note_94 : decode cX12_note 94 = .ok (.aload_n 0, 1) := by decide +kernel
theorem dX12_note_95 : decode cX12_note 95 = .ok (.getfield 7, 3) := by decide +kernel
theorem dX12_note_98 : decode cX12_note 98 = .ok (.sipush 1645, 3) := by decide +kernel
theorem dX12_note_101 : decode cX12_note 101 = .ok (.iaload, 1) := by decide +kernel
theorem dX12_note_102 : decode cX12_note 102 = .ok (.iastore, 1) := by decide +kernel
theorem dX12_note_103 : decode cX12_note 103 = .ok (.aload_n 0, 1) := by decide +kernel
theorem dX12_note_104 : decode cX12_note 104 = .ok (.getfield 7, 3) := by decide +kernel
theorem dX12_note_107 : decode cX12_note 107 = .ok (.iload 5, 2) := by decide +kernel
theorem dX12_note_109 : decode cX12_note 109 = .ok (.iconst 1, 1) := by decide +kernel
theorem dX12_note_110 : decode cX12_note 110 = .ok (.iadd, 1) := by decide +kernel
theorem dX12_note_111 : decode cX12_note 111 = .ok (.iload_n 1, 1) := by decide +kernel
theorem dX12_note_112 : decode cX12_note 112 = .ok (.iastore, 1) := by decide +kernel
theorem dX12_note_113 : decode cX12_note 113 = .ok (.aload_n 0, 1) := by decide +kernel
theorem dX12_note_114 : decode cX12_note 114 = .ok (.getfield 7, 3) := by decide +kernel
theorem dX12_note_117 : decode cX12_note 117 = .ok (.iload 5, 2) := by decide +kernel
theorem dX12_note_119 : decode cX12_note 119 = .ok (.iconst 2, 1) := by decide +kernel
theorem dX12_note_120 : decode cX12_note 120 = .ok (.iadd, 1) := by decide +kernel
theorem dX12_note_121 : decode cX12_note 121 = .ok (.iload_n 2, 1) := by decide +kernel
theorem dX12_note_122 : decode cX12_note 122 = .ok (.iastore, 1) := by decide +kernel
theorem dX12_note_123 : decode cX12_note 123 = .ok (.aload_n 0, 1) := by decide +kernel
theorem dX12_note_124 : decode cX12_note 124 = .ok (.getfield 7, 3) := by decide +kernel
theorem dX12_note_127 : decode cX12_note 127 = .ok (.iload 5, 2) := by decide +kernel
theorem dX12_note_129 : decode cX12_note 129 = .ok (.iconst 3, 1) := by decide +kernel
theorem dX12_note_130 : decode cX12_note 130 = .ok (.iadd, 1) := by decide +kernel
theorem dX12_note_131 : decode cX12_note 131 = .ok (.iload_n 3, 1) := by decide +kernel
theorem dX12_note_132 : decode cX12_note 132 = .ok (.iastore, 1) := by decide +kernel
theorem dX12_note_133 : decode cX12_note 133 = .ok (.aload_n 0, 1) := by decide +kernel
theorem dX12_note_134 : decode cX12_note 134 = .ok (.getfield 7, 3) := by decide +kernel
theorem dX12_note_137 : decode cX12_note 137 = .ok (.iload 5, 2) := by decide +kernel
theorem dX12_note_139 : decode cX12_note 139 = .ok (.iconst 4, 1) := by decide +kernel
theorem dX12_note_140 : decode cX12_note 140 = .ok (.iadd, 1) := by decide +kernel
theorem dX12_note_141 : decode cX12_note 141 = .ok (.iload 4, 2) := by decide +kernel
theorem dX12_note_143 : decode cX12_note 143 = .ok (.iastore, 1) := by decide +kernel
theorem dX12_note_144 : decode cX12_note 144 = .ok (.aload_n 0, 1) := by decide +kernel
theorem dX12_note_145 : decode cX12_note 145 = .ok (.getfield 7, 3) := by decide +kernel
theorem dX12_note_148 : decode cX12_note 148 = .ok (.sipush 1643, 3) := by decide +kernel
theorem dX12_note_151 : decode cX12_note 151 = .ok (.dup2, 1) := by decide +kernel
theorem dX12_note_152 : decode cX12_note 152 = .ok (.iaload, 1) := by decide +kernel
theorem dX12_note_153 : decode cX12_note 153 = .ok (.iconst 1, 1) := by decide +kernel
theorem dX12_note_154 : decode cX12_note 154 = .ok (.iadd, 1) := by decide +kernel
theorem dX12_note_155 : decode cX12_note 155 = .ok (.iastore, 1) := by decide +kernel
theorem dX12_note_156 : decode cX12_note 156 = .ok (.return_, 1) := by decide +kernel
theorem w_X12_note_j84 {z : (VT)} {Γ : Gam} {cy : Nat → ClassId} {a : Nat → Nat} {V : VT} {X : va_W} {v1 : Int32} {v2 : Int32} {v3 : Int32} {v4 : Int32} {s0 : Int32} {s1 : Int32} {s2 : Int32}  (C0 : CXg Γ cX12_note 6 0 RX12 cy) (hD : DM Γ cy a X) (h : f_X12_note_j84 v1 v2 v3 v4 s0 s1 s2 V = some z) (hz : (fun y : VT => FinV Γ cX12_note (WM cy a y X)) z) : Wp Γ 0 0 84 [(0, .ref (a 0)), (1, .int v1), (2, .int v2), (3, .int v3), (4, .int v4)] [.int s2, .int s1, .int s0] (WM cy a V X) := by
  unfold f_X12_note_j84 at h
  refine r_imul C0 dX12_note_84 ?_
  refine r_iadd C0 dX12_note_85 ?_
  obtain ⟨a3, h8, h⟩ := op_bind h
  have e8 := Option.some.inj h8
  refine r_istore (lv2 := [(5, .int a3), (0, .ref (a 0)), (1, .int v1), (2, .int v2), (3, .int v3), (4, .int v4)]) C0 dX12_note_86 e8 (Nat.le_of_ble_eq_true rfl) rfl ?_
  refine r_aload_n C0 dX12_note_88 rfl 1 rfl ?_
  refine wmg_0_0 C0 tf_X12_7 dX12_note_89 ?_
  refine r_iload C0 dX12_note_92 0 rfl ?_
  refine r_aload_n C0 dX12_note_94 rfl 1 rfl ?_
  refine wmg_0_0 C0 tf_X12_7 dX12_note_95 ?_
  refine r_sipush C0 dX12_note_98 ks_1645 ?_
  refine wmal_1 C0 h dX12_note_101 (fun k4 h => ?_)
  refine wmas_1 C0 hD h dX12_note_102 (fun k5 h => ?_)
  refine r_aload_n C0 dX12_note_103 rfl 1 rfl ?_
  refine wmg_0_0 C0 tf_X12_7 dX12_note_104 ?_
  refine r_iload C0 dX12_note_107 0 rfl ?_
  refine r_iconst C0 dX12_note_109 ki_1 ?_
  refine r_iadd C0 dX12_note_110 ?_
  refine r_iload_n C0 dX12_note_111 rfl 2 rfl ?_
  refine wmas_1 C0 hD h dX12_note_112 (fun k6 h => ?_)
  refine r_aload_n C0 dX12_note_113 rfl 1 rfl ?_
  refine wmg_0_0 C0 tf_X12_7 dX12_note_114 ?_
  refine r_iload C0 dX12_note_117 0 rfl ?_
  refine r_iconst C0 dX12_note_119 ki_2 ?_
  refine r_iadd C0 dX12_note_120 ?_
  refine r_iload_n C0 dX12_note_121 rfl 3 rfl ?_
  refine wmas_1 C0 hD h dX12_note_122 (fun k7 h => ?_)
  refine r_aload_n C0 dX12_note_123 rfl 1 rfl ?_
  refine wmg_0_0 C0 tf_X12_7 dX12_note_124 ?_
  refine r_iload C0 dX12_note_127 0 rfl ?_
  refine r_iconst C0 dX12_note_129 ki_3 ?_
  refine r_iadd C0 dX12_note_130 ?_
  refine r_iload_n C0 dX12_note_131 rfl 4 rfl ?_
  refine wmas_1 C0 hD h dX12_note_132 (fun k8 h => ?_)
  refine r_aload_n C0 dX12_note_133 rfl 1 rfl ?_
  refine wmg_0_0 C0 tf_X12_7 dX12_note_134 ?_
  refine r_iload C0 dX12_note_137 0 rfl ?_
  refine r_iconst C0 dX12_note_139 ki_4 ?_
  refine r_iadd C0 dX12_note_140 ?_
  refine r_iload C0 dX12_note_141 5 rfl ?_
  refine wmas_1 C0 hD h dX12_note_143 (fun k9 h => ?_)
  refine r_aload_n C0 dX12_note_144 rfl 1 rfl ?_
  refine wmg_0_0 C0 tf_X12_7 dX12_note_145 ?_
  refine r_sipush C0 dX12_note_148 ks_1643 ?_
  refine r_dup2 C0 dX12_note_151 rfl rfl ?_
  refine wmal_1 C0 h dX12_note_152 (fun k10 h => ?_)
  refine r_iconst C0 dX12_note_153 ki_1 ?_
  refine r_iadd C0 dX12_note_154 ?_
  refine wmas_1 C0 hD h dX12_note_155 (fun k11 h => ?_)
  cases h
  exact hz _ _ dX12_note_156
theorem w_X12_note_j54 {z : (VT)} {Γ : Gam} {cy : Nat → ClassId} {a : Nat → Nat} {V : VT} {X : va_W} {v1 : Int32} {v2 : Int32} {v3 : Int32} {v4 : Int32}  (C0 : CXg Γ cX12_note 6 0 RX12 cy) (hD : DM Γ cy a X) (h : f_X12_note_j54 v1 v2 v3 v4 V = some z) (hz : (fun y : VT => FinV Γ cX12_note (WM cy a y X)) z) : Wp Γ 0 0 54 [(0, .ref (a 0)), (1, .int v1), (2, .int v2), (3, .int v3), (4, .int v4)] [] (WM cy a V X) := by
  unfold f_X12_note_j54 at h
  refine r_sipush C0 dX12_note_54 ks_1440 ?_
  refine r_iconst C0 dX12_note_57 ki_5 ?_
  refine r_aload_n C0 dX12_note_58 rfl 0 rfl ?_
  refine wmg_0_0 C0 tf_X12_7 dX12_note_59 ?_
  refine r_sipush C0 dX12_note_62 ks_1643 ?_
  refine wmal_1 C0 h dX12_note_65 (fun k2 h => ?_)
  refine r_bipush C0 dX12_note_66 kb_40 ?_
  refine r_icmp_ge C0 82 dX12_note_68 rfl h (fun _ h => ?_) (fun _ h => ?_)
  · refine r_bipush C0 dX12_note_82 kb_39 ?_
    exact r_sub [0, 1, 2, 3, 4] rfl (w_X12_note_j84 C0 hD h hz)
  · refine r_aload_n C0 dX12_note_71 rfl 0 rfl ?_
    refine wmg_0_0 C0 tf_X12_7 dX12_note_72 ?_
    refine r_sipush C0 dX12_note_75 ks_1643 ?_
    refine wmal_1 C0 h dX12_note_78 (fun k12 h => ?_)
    refine r_goto C0 84 dX12_note_79 rfl ?_
    exact r_sub [0, 1, 2, 3, 4] rfl (w_X12_note_j84 C0 hD h hz)
theorem w_X12_note_B16 {x : Int32 × VT} {z : ((Int32 × VT) ⊕ (VT))} {Γ : Gam} {cy : Nat → ClassId} {a : Nat → Nat} {X : va_W} {v1 : Int32} {v2 : Int32} {v3 : Int32} {v4 : Int32}  (C0 : CXg Γ cX12_note 6 0 RX12 cy) (hD : DM Γ cy a X) (h : f_X12_note_B16 v1 v2 v3 v4 x = some z) (hz : (Sum.elim (fun x : Int32 × VT => Wp Γ 0 0 16 [(0, .ref (a 0)), (1, .int v1), (2, .int v2), (3, .int v3), (4, .int v4), (5, .int x.1)] [] (WM cy a x.2 X)) (fun y : VT => FinV Γ cX12_note (WM cy a y X))) z) : Wp Γ 0 0 16 [(0, .ref (a 0)), (1, .int v1), (2, .int v2), (3, .int v3), (4, .int v4), (5, .int x.1)] [] (WM cy a x.2 X) := by
  unfold f_X12_note_B16 at h
  refine r_iload C0 dX12_note_16 5 rfl ?_
  refine r_sipush C0 dX12_note_18 ks_195 ?_
  refine r_icmp_ge C0 54 dX12_note_21 rfl h (fun _ h => ?_) (fun _ h => ?_)
  · obtain ⟨y14, h5, h9⟩ := op_bind h
    clear h
    cases h9
    have hz := (el_inr hz)
    have h := h5
    exact r_sub [0, 1, 2, 3, 4] rfl (w_X12_note_j54 C0 hD h hz)
  · refine r_aload_n C0 dX12_note_24 rfl 0 rfl ?_
    refine wmg_0_0 C0 tf_X12_7 dX12_note_25 ?_
    refine r_sipush C0 dX12_note_28 ks_1440 ?_
    refine r_iload C0 dX12_note_31 5 rfl ?_
    refine r_iadd C0 dX12_note_33 ?_
    refine r_aload_n C0 dX12_note_34 rfl 0 rfl ?_
    refine wmg_0_0 C0 tf_X12_7 dX12_note_35 ?_
    refine r_sipush C0 dX12_note_38 ks_1440 ?_
    refine r_iload C0 dX12_note_41 5 rfl ?_
    refine r_iadd C0 dX12_note_43 ?_
    refine r_iconst C0 dX12_note_44 ki_5 ?_
    refine r_iadd C0 dX12_note_45 ?_
    refine wmal_1 C0 h dX12_note_46 (fun k15 h => ?_)
    refine wmas_1 C0 hD h dX12_note_47 (fun k16 h => ?_)
    obtain ⟨a17, h8, h⟩ := op_bind h
    have e8 := Option.some.inj h8
    refine r_iinc (lv2 := [(5, .int a17), (0, .ref (a 0)), (1, .int v1), (2, .int v2), (3, .int v3), (4, .int v4)]) C0 dX12_note_48 5 rfl ki_1 e8 (Nat.le_of_ble_eq_true rfl) rfl ?_
    refine r_goto C0 16 dX12_note_51 rfl ?_
    cases h
    have hz := el_inl hz
    exact r_sub [1, 2, 3, 4, 5, 0] rfl hz
theorem w_X12_note_B16_lp {x : Int32 × VT} {z : (VT)} {Γ : Gam} {cy : Nat → ClassId} {a : Nat → Nat} {X : va_W} {v1 : Int32} {v2 : Int32} {v3 : Int32} {v4 : Int32}  (C0 : CXg Γ cX12_note 6 0 RX12 cy) (hD : DM Γ cy a X) (h : lp (f_X12_note_B16 v1 v2 v3 v4) fuel x = some z) (hz : (fun y : VT => FinV Γ cX12_note (WM cy a y X)) z) : Wp Γ 0 0 16 [(0, .ref (a 0)), (1, .int v1), (2, .int v2), (3, .int v3), (4, .int v4), (5, .int x.1)] [] (WM cy a x.2 X) :=
  lp_rule (hd := (fun x : Int32 × VT => Wp Γ 0 0 16 [(0, .ref (a 0)), (1, .int v1), (2, .int v2), (3, .int v3), (4, .int v4), (5, .int x.1)] [] (WM cy a x.2 X))) (C := (fun y : VT => FinV Γ cX12_note (WM cy a y X))) (fun x z h hz => w_X12_note_B16 C0 hD h hz) _ _ _ h hz
theorem w_X12_note {z : VT} {Γ : Gam} {cy : Nat → ClassId} {a : Nat → Nat} {V : VT} {X : va_W} {v1 : Int32} {v2 : Int32} {v3 : Int32} {v4 : Int32}  (C0 : CXg Γ cX12_note 6 0 RX12 cy) (hD : DM Γ cy a X) (h : f_X12_note v1 v2 v3 v4 V = some z) (hz : (fun y : VT => FinV Γ cX12_note (WM cy a y X)) z) : Wp Γ 0 0 0 [(0, .ref (a 0)), (1, .int v1), (2, .int v2), (3, .int v3), (4, .int v4)] [] (WM cy a V X) := by
  unfold f_X12_note at h
  refine r_aload_n C0 dX12_note_0 rfl 0 rfl ?_
  refine wmg_0_0 C0 tf_X12_7 dX12_note_1 ?_
  refine r_sipush C0 dX12_note_4 ks_1643 ?_
  refine wmal_1 C0 h dX12_note_7 (fun k1 h => ?_)
  refine r_bipush C0 dX12_note_8 kb_40 ?_
  refine r_icmp_lt C0 54 dX12_note_10 rfl h (fun _ h => ?_) (fun _ h => ?_)
  · exact r_sub [0, 1, 2, 3, 4] rfl (w_X12_note_j54 C0 hD h hz)
  · refine r_iconst C0 dX12_note_13 ki_0 ?_
    obtain ⟨a13, h8, h⟩ := op_bind h
    have e8 := Option.some.inj h8
    refine r_istore (lv2 := [(5, .int a13), (0, .ref (a 0)), (1, .int v1), (2, .int v2), (3, .int v3), (4, .int v4)]) C0 dX12_note_14 e8 (Nat.le_of_ble_eq_true rfl) rfl ?_
    exact r_sub [1, 2, 3, 4, 5, 0] rfl (w_X12_note_B16_lp C0 hD h hz)
theorem c_X12_note {l : Launch} {D : va_G} {cy : Nat → ClassId} {a : Nat → Nat} {V : VT} {X : va_W} {v1 : Int32} {v2 : Int32} {v3 : Int32} {v4 : Int32} {y : VT} (h : f_X12_note v1 v2 v3 v4 V = some y) : CT l D cy yX12_note cX12_note 6 none 0 [.ref (a 0), .int v1, .int v2, .int v3, .int v4] (WM cy a V X) (WM cy a y X) none :=
  mkV (by decide) (Nat.le_of_ble_eq_true rfl) (fun Γ _ _ C0 hD hF => w_X12_note C0 (dm_of hD) h hF)
