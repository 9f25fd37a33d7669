theorem dX7_get_0 : decode cX7_get 0 = .ok (.iload_n 1, 1) := by decide +kernel
theorem dX7_get_1 : decode cX7_get 1 = .ok (.ifCond .lt 23, 3) := by decide +kernel
theorem dX7_get_4 : decode cX7_get 4 = .ok (.iload_n 1, 1) := by decide +kernel
theorem dX7_get_5 : decode cX7_get 5 = .ok (.aload_n 0, 1) := by decide +kernel
theorem dX7_get_6 : decode cX7_get 6 = .ok (.getfield 21, 3) := by decide +kernel
theorem dX7_get_9 : decode cX7_get 9 = .ok (.if_icmp .ge 15, 3) := by decide +kernel
theorem dX7_get_12 : decode cX7_get 12 = .ok (.iload_n 2, 1) := by decide +kernel
theorem dX7_get_13 : decode cX7_get 13 = .ok (.ifCond .lt 11, 3) := by decide +kernel
theorem dX7_get_16 : decode cX7_get 16 = .ok (.iload_n 2, 1) := by decide +kernel
theorem dX7_get_17 : decode cX7_get 17 = .ok (.aload_n 0, 1) := by decide +kernel
theorem dX7_get_18 : decode cX7_get 18 = .ok (.getfield 24, 3) := by decide +kernel
theorem dX7_get_21 : decode cX7_get 21 = .ok (.if_icmp .lt 5, 3) := by decide +kernel
theorem dX7_get_24 : decode cX7_get 24 = .ok (.iconst 0, 1) := by decide +kernel
theorem dX7_get_25 : decode cX7_get 25 = .ok (.ireturn, 1) := by decide +kernel
theorem dX7_get_26 : decode cX7_get 26 = .ok (.aload_n 0, 1) := by decide +kernel
theorem dX7_get_27 : decode cX7_get 27 = .ok (.getfield 17, 3) := by decide +kernel
theorem dX7_get_30 : decode cX7_get 30 = .ok (.iload_n 1, 1) := by decide +kernel
theorem dX7_get_31 : decode cX7_get 31 = .ok (.aload_n 0, 1) := by decide +kernel
theorem dX7_get_32 : decode cX7_get 32 = .ok (.getfield 24, 3) := by decide +kernel
theorem dX7_get_35 : decode cX7_get 35 = .ok (.imul, 1) := by decide +kernel
theorem dX7_get_36 : decode cX7_get 36 = .ok (.iadd, 1) := by decide +kernel
theorem dX7_get_37 : decode cX7_get 37 = .ok (.iload_n 2, 1) := by decide +kernel
theorem dX7_get_38 : decode cX7_get 38 = .ok (.iadd, 1) := by decide +kernel
theorem dX7_get_39 : decode cX7_get 39 = .ok (.istore_n 3, 1) := by decide +kernel
theorem dX7_get_40 : decode cX7_get 40 = .ok (.iload_n 3, 1) := by decide +kernel
theorem dX7_get_41 : decode cX7_get 41 = .ok (.ifCond .lt 21, 3) := by decide +kernel
theorem dX7_get_44 : decode cX7_get 44 = .ok (.iload_n 3, 1) := by decide +kernel
theorem dX7_get_45 : decode cX7_get 45 = .ok (.aload_n 0, 1) := by decide +kernel
theorem dX7_get_46 : decode cX7_get 46 = .ok (.getfield 13, 3) := by decide +kernel
theorem dX7_get_49 : decode cX7_get 49 = .ok (.arraylength, 1) := by decide +kernel
theorem dX7_get_50 : decode cX7_get 50 = .ok (.if_icmp .ge 12, 3) := by decide +kernel
theorem dX7_get_53 : decode cX7_get 53 = .ok (.aload_n 0, 1) := by decide +kernel
theorem dX7_get_54 : decode cX7_get 54 = .ok (.getfield 13, 3) := by decide +kernel
theorem dX7_get_57 : decode cX7_get 57 = .ok (.iload_n 3, 1) := by decide +kernel
theorem dX7_get_58 : decode cX7_get 58 = .ok (.iaload, 1) := by decide +kernel
theorem dX7_get_59 : decode cX7_get 59 = .ok (.goto 4, 3) := by decide +kernel
theorem dX7_get_62 : decode cX7_get 62 = .ok (.iconst 0, 1) := by decide +kernel
theorem dX7_get_63 : decode cX7_get 63 = .ok (.ireturn, 1) := by decide +kernel
theorem w_X7_get_j62 {z : (Int32)} {Γ : Gam} {cy : Nat → ClassId} {a : Nat → Nat} {V : VT} {J : JT} {K : Nat → Option Nat} {X : va_W} {tq ta : Nat} {tB tR tC : Int32}  (C0 : CXg Γ cX7_get 4 0 RX7 cy) (hD : DC Γ cy a X) (ht : TB cy a X tq ta tB tR tC) (h : f_X7_get_j62 tB tR tC V = some z) (hz : (fun y : Int32 => FinI Γ cX7_get (WC cy a V J K X) y) z) : Wp Γ 0 0 62 [] [] (WC cy a V J K X) := by
  unfold f_X7_get_j62 at h
  refine r_iconst C0 dX7_get_62 ki_0 ?_
  cases h
  exact hz _ _ dX7_get_63
theorem w_X7_get {z : Int32} {Γ : Gam} {cy : Nat → ClassId} {a : Nat → Nat} {V : VT} {J : JT} {K : Nat → Option Nat} {X : va_W} {tq ta : Nat} {tB tR tC : Int32} {v1 : Int32} {v2 : Int32}  (C0 : CXg Γ cX7_get 4 0 RX7 cy) (hD : DC Γ cy a X) (ht : TB cy a X tq ta tB tR tC) (h : f_X7_get tB tR tC v1 v2 V = some z) (hz : (fun y : Int32 => FinI Γ cX7_get (WC cy a V J K X) y) z) : Wp Γ 0 0 0 [(0, .ref ta), (1, .int v1), (2, .int v2)] [] (WC cy a V J K X) := by
  unfold f_X7_get at h
  refine r_iload_n C0 dX7_get_0 rfl 1 rfl ?_
  refine r_if_lt C0 24 dX7_get_1 rfl h (fun _ h => ?_) (fun _ h => ?_)
  · refine r_iconst C0 dX7_get_24 ki_0 ?_
    cases h
    exact hz _ _ dX7_get_25
  · refine r_iload_n C0 dX7_get_4 rfl 1 rfl ?_
    refine r_aload_n C0 dX7_get_5 rfl 0 rfl ?_
    refine wtg_3 C0 tf_X7_21 ht dX7_get_6 ?_
    refine r_icmp_ge C0 24 dX7_get_9 rfl h (fun _ h => ?_) (fun _ h => ?_)
    · refine r_iconst C0 dX7_get_24 ki_0 ?_
      cases h
      exact hz _ _ dX7_get_25
    · refine r_iload_n C0 dX7_get_12 rfl 2 rfl ?_
      refine r_if_lt C0 24 dX7_get_13 rfl h (fun _ h => ?_) (fun _ h => ?_)
      · refine r_iconst C0 dX7_get_24 ki_0 ?_
        cases h
        exact hz _ _ dX7_get_25
      · refine r_iload_n C0 dX7_get_16 rfl 2 rfl ?_
        refine r_aload_n C0 dX7_get_17 rfl 0 rfl ?_
        refine wtg_4 C0 tf_X7_24 ht dX7_get_18 ?_
        refine r_icmp_lt C0 26 dX7_get_21 rfl h (fun _ h => ?_) (fun _ h => ?_)
        · refine r_aload_n C0 dX7_get_26 rfl 0 rfl ?_
          refine wtg_2 C0 tf_X7_17 ht dX7_get_27 ?_
          refine r_iload_n C0 dX7_get_30 rfl 1 rfl ?_
          refine r_aload_n C0 dX7_get_31 rfl 0 rfl ?_
          refine wtg_4 C0 tf_X7_24 ht dX7_get_32 ?_
          refine r_imul C0 dX7_get_35 ?_
          refine r_iadd C0 dX7_get_36 ?_
          refine r_iload_n C0 dX7_get_37 rfl 2 rfl ?_
          refine r_iadd C0 dX7_get_38 ?_
          obtain ⟨a1, h8, h⟩ := op_bind h
          have e8 := Option.some.inj h8
          refine r_istore_n (lv2 := [(3, .int a1), (0, .ref ta), (1, .int v1), (2, .int v2)]) C0 dX7_get_39 rfl e8 (Nat.le_of_ble_eq_true rfl) rfl ?_
          refine r_iload_n C0 dX7_get_40 rfl 0 rfl ?_
          refine r_if_lt C0 62 dX7_get_41 rfl h (fun _ h => ?_) (fun _ h => ?_)
          · exact r_sub [] rfl (w_X7_get_j62 C0 hD ht h hz)
          · refine r_iload_n C0 dX7_get_44 rfl 0 rfl ?_
            refine r_aload_n C0 dX7_get_45 rfl 1 rfl ?_
            refine wtg_1 C0 tf_X7_13 ht dX7_get_46 ?_
            refine wcln_18 C0 dX7_get_49 ?_
            refine r_icmp_ge C0 62 dX7_get_50 rfl h (fun _ h => ?_) (fun _ h => ?_)
            · exact r_sub [] rfl (w_X7_get_j62 C0 hD ht h hz)
            · refine r_aload_n C0 dX7_get_53 rfl 1 rfl ?_
              refine wtg_1 C0 tf_X7_13 ht dX7_get_54 ?_
              refine r_iload_n C0 dX7_get_57 rfl 0 rfl ?_
              refine wcal_18 C0 h dX7_get_58 (fun k2 h => ?_)
              refine r_goto C0 63 dX7_get_59 rfl ?_
              cases h
              exact hz _ _ dX7_get_63
        · refine r_iconst C0 dX7_get_24 ki_0 ?_
          cases h
          exact hz _ _ dX7_get_25
theorem c_X7_get {l : Launch} {D : va_G} {cy : Nat → ClassId} {a : Nat → Nat} {V : VT} {J : JT} {K : Nat → Option Nat} {X : va_W} {tq ta : Nat} {tB tR tC : Int32} {v1 : Int32} {v2 : Int32} {y : Int32} (ht : TB cy a X tq ta tB tR tC) (h : f_X7_get tB tR tC v1 v2 V = some y) : CT l D cy yX7_get cX7_get 4 (some .int) 0 [.ref ta, .int v1, .int v2] (WC cy a V J K X) (WC cy a V J K X) (some (.int y)) :=
  mkI (by decide) (Nat.le_of_ble_eq_true rfl) (fun Γ _ _ C0 hD hF => w_X7_get C0 (dc_of hD) ht h hF)
theorem dX4_write_0 : decode cX4_write 0 = .ok (.iload_n 1, 1) := by decide +kernel
theorem dX4_write_1 : decode cX4_write 1 = .ok (.ifCond .lt 22, 3) := by decide +kernel
theorem dX4_write_4 : decode cX4_write 4 = .ok (.iload_n 1, 1) := by decide +kernel
theorem dX4_write_5 : decode cX4_write 5 = .ok (.aload_n 0, 1) := by decide +kernel
theorem dX4_write_6 : decode cX4_write 6 = .ok (.getfield 9, 3) := by decide +kernel
theorem dX4_write_9 : decode cX4_write 9 = .ok (.arraylength, 1) := by decide +kernel
theorem dX4_write_10 : decode cX4_write 10 = .ok (.if_icmp .ge 13, 3) := by decide +kernel
theorem dX4_write_13 : decode cX4_write 13 = .ok (.aload_n 0, 1) := by decide +kernel
theorem dX4_write_14 : decode cX4_write 14 = .ok (.getfield 9, 3) := by decide +kernel
theorem dX4_write_17 : decode cX4_write 17 = .ok (.iload_n 1, 1) := by decide +kernel
theorem dX4_write_18 : decode cX4_write 18 = .ok (.iaload, 1) := by decide +kernel
theorem dX4_write_19 : decode cX4_write 19 = .ok (.iload_n 2, 1) := by decide +kernel
theorem dX4_write_20 : decode cX4_write 20 = .ok (.if_icmp .ne 4, 3) := by decide +kernel
theorem dX4_write_23 : decode cX4_write 23 = .ok (.return_, 1) := by decide +kernel
theorem dX4_write_24 : decode cX4_write 24 = .ok (.aload_n 0, 1) := by decide +kernel
theorem dX4_write_25 : decode cX4_write 25 = .ok (.getfield 15, 3) := by decide +kernel
theorem dX4_write_28 : decode cX4_write 28 = .ok (.iload_n 1, 1) := by decide +kernel
theorem dX4_write_29 : decode cX4_write 29 = .ok (.iaload, 1) := by decide +kernel
theorem dX4_write_30 : decode cX4_write 30 = .ok (.aload_n 0, 1) := by decide +kernel
theorem dX4_write_31 : decode cX4_write 31 = .ok (.getfield 34, 3) := by decide +kernel
theorem dX4_write_34 : decode cX4_write 34 = .ok (.if_icmp .eq 60, 3) := by decide +kernel
theorem dX4_write_37 : decode cX4_write 37 = .ok (.aload_n 0, 1) := by decide +kernel
theorem dX4_write_38 : decode cX4_write 38 = .ok (.getfield 37, 3) := by decide +kernel
theorem dX4_write_41 : decode cX4_write 41 = .ok (.aload_n 0, 1) := by decide +kernel
theorem dX4_write_42 : decode cX4_write 42 = .ok (.getfield 18, 3) := by decide +kernel
theorem dX4_write_45 : decode cX4_write 45 = .ok (.arraylength, 1) := by decide +kernel
theorem dX4_write_46 : decode cX4_write 46 = .ok (.if_icmp .ge 48, 3) := by decide +kernel
theorem dX4_write_49 : decode cX4_write 49 = .ok (.aload_n 0, 1) := by decide +kernel
theorem dX4_write_50 : decode cX4_write 50 = .ok (.getfield 15, 3) := by decide +kernel
theorem dX4_write_53 : decode cX4_write 53 = .ok (.iload_n 1, 1) := by decide +kernel
theorem dX4_write_54 : decode cX4_write 54 = .ok (.aload_n 0, 1) := by decide +kernel
theorem dX4_write_55 : decode cX4_write 55 = .ok (.getfield 34, 3) := by decide +kernel
theorem dX4_write_58 : decode cX4_write 58 = .ok (.iastore, 1) := by decide +kernel
theorem dX4_write_59 : decode cX4_write 59 = .ok (.aload_n 0, 1) := by decide +kernel
theorem dX4_write_60 : decode cX4_write 60 = .ok (.getfield 18, 3) := by decide +kernel
theorem dX4_write_63 : decode cX4_write 63 = .ok (.aload_n 0, 1) := by decide +kernel
theorem dX4_write_64 : decode cX4_write 64 = .ok (.getfield 37, 3) := by decide +kernel
theorem dX4_write_67 : decode cX4_write 67 = .ok (.iload_n 1, 1) := by decide +kernel
theorem dX4_write_68 : decode cX4_write 68 = .ok (.iastore, 1) := by decide +kernel
theorem dX4_write_69 : decode cX4_write 69 = .ok (.aload_n 0, 1) := by decide +kernel
theorem dX4_write_70 : decode cX4_write 70 = .ok (.getfield 21, 3) := by decide +kernel
theorem dX4_write_73 : decode cX4_write 73 = .ok (.aload_n 0, 1) := by decide +kernel
theorem dX4_write_74 : decode cX4_write 74 = .ok (.getfield 37, 3) := by decide +kernel
theorem dX4_write_77 : decode cX4_write 77 = .ok (.aload_n 0, 1) := by decide +kernel
theorem dX4_write_78 : decode cX4_write 78 = .ok (.getfield 9, 3) := by decide +kernel
theorem dX4_write_81 : decode cX4_write 81 = .ok (.iload_n 1, 1) := by decide +kernel
theorem dX4_write_82 : decode cX4_write 82 = .ok (.iaload, 1) := by decide +kernel
theorem dX4_write_83 : decode cX4_write 83 = .ok (.iastore, 1) := by decide +kernel
theorem dX4_write_84 : decode cX4_write 84 = .ok (.aload_n 0, 1) := by decide +kernel
theorem dX4_write_85 : decode cX4_write 85 = .ok (.dup, 1) := by decide +kernel
theorem dX4_write_86 : decode cX4_write 86 = .ok (.getfield 37, 3) := by decide +kernel
theorem dX4_write_89 : decode cX4_write 89 = .ok (.iconst 1, 1) := by decide +kernel
theorem dX4_write_90 : decode cX4_write 90 = .ok (.iadd, 1) := by decide +kernel
theorem dX4_write_91 : decode cX4_write 91 = .ok (.putfield 37, 3) := by decide +kernel
theorem dX4_write_94 : decode cX4_write 94 = .ok (.aload_n 0, 1) := by decide +kernel
theorem dX4_write_95 : decode cX4_write 95 = .ok (.getfield 9, 3) := by decide +kernel
theorem dX4_write_98 : decode cX4_write 98 = .ok (.iload_n 1, 1) := by decide +kernel
theorem dX4_write_99 : decode cX4_write 99 = .ok (.iload_n 2, 1) := by decide +kernel
theorem dX4_write_100 : decode cX4_write 100 = .ok (.iastore, 1) := by decide +kernel
theorem dX4_write_101 : decode cX4_write 101 = .ok (.return_, 1) := by decide +kernel
theorem w_X4_write_j94 {z : (VT)} {Γ : Gam} {cy : Nat → ClassId} {a : Nat → Nat} {V : VT} {J : JT} {K : Nat → Option Nat} {X : va_W} {v1 : Int32} {v2 : Int32}  (C0 : CXg Γ cX4_write 3 0 RX4 cy) (hD : DC Γ cy a X) (h : f_X4_write_j94 v1 v2 V = some z) (hz : (fun y : VT => FinV Γ cX4_write (WC cy a y J K X)) z) : Wp Γ 0 0 94 [(0, .ref (a 1)), (1, .int v1), (2, .int v2)] [] (WC cy a V J K X) := by
  unfold f_X4_write_j94 at h
  refine r_aload_n C0 dX4_write_94 rfl 0 rfl ?_
  refine wcg_1_0 C0 tf_X4_9 dX4_write_95 ?_
  refine r_iload_n C0 dX4_write_98 rfl 1 rfl ?_
  refine r_iload_n C0 dX4_write_99 rfl 2 rfl ?_
  refine wcas_18 C0 hD h dX4_write_100 (fun k3 h => ?_)
  cases h
  exact hz _ _ dX4_write_101
theorem w_X4_write {z : VT} {Γ : Gam} {cy : Nat → ClassId} {a : Nat → Nat} {V : VT} {J : JT} {K : Nat → Option Nat} {X : va_W} {v1 : Int32} {v2 : Int32}  (C0 : CXg Γ cX4_write 3 0 RX4 cy) (hD : DC Γ cy a X) (h : f_X4_write v1 v2 V = some z) (hz : (fun y : VT => FinV Γ cX4_write (WC cy a y J K X)) z) : Wp Γ 0 0 0 [(0, .ref (a 1)), (1, .int v1), (2, .int v2)] [] (WC cy a V J K X) := by
  unfold f_X4_write at h
  refine r_iload_n C0 dX4_write_0 rfl 1 rfl ?_
  refine r_if_lt C0 23 dX4_write_1 rfl h (fun _ h => ?_) (fun _ h => ?_)
  · cases h
    exact hz _ _ dX4_write_23
  · refine r_iload_n C0 dX4_write_4 rfl 1 rfl ?_
    refine r_aload_n C0 dX4_write_5 rfl 0 rfl ?_
    refine wcg_1_0 C0 tf_X4_9 dX4_write_6 ?_
    refine wcln_18 C0 dX4_write_9 ?_
    refine r_icmp_ge C0 23 dX4_write_10 rfl h (fun _ h => ?_) (fun _ h => ?_)
    · cases h
      exact hz _ _ dX4_write_23
    · refine r_aload_n C0 dX4_write_13 rfl 0 rfl ?_
      refine wcg_1_0 C0 tf_X4_9 dX4_write_14 ?_
      refine r_iload_n C0 dX4_write_17 rfl 1 rfl ?_
      refine wcal_18 C0 h dX4_write_18 (fun k1 h => ?_)
      refine r_iload_n C0 dX4_write_19 rfl 2 rfl ?_
      refine r_icmp_ne C0 24 dX4_write_20 rfl h (fun _ h => ?_) (fun _ h => ?_)
      · refine r_aload_n C0 dX4_write_24 rfl 0 rfl ?_
        refine wcg_1_1 C0 tf_X4_15 dX4_write_25 ?_
        refine r_iload_n C0 dX4_write_28 rfl 1 rfl ?_
        refine wcal_19 C0 h dX4_write_29 (fun k2 h => ?_)
        refine r_aload_n C0 dX4_write_30 rfl 0 rfl ?_
        refine wcg_1_6 C0 tf_X4_34 dX4_write_31 ?_
        refine r_icmp_eq C0 94 dX4_write_34 rfl h (fun _ h => ?_) (fun _ h => ?_)
        · exact r_sub [0, 1, 2] rfl (w_X4_write_j94 C0 hD h hz)
        · refine r_aload_n C0 dX4_write_37 rfl 0 rfl ?_
          refine wcg_1_7 C0 tf_X4_37 dX4_write_38 ?_
          refine r_aload_n C0 dX4_write_41 rfl 0 rfl ?_
          refine wcg_1_2 C0 tf_X4_18 dX4_write_42 ?_
          refine wcln_20 C0 dX4_write_45 ?_
          refine r_icmp_ge C0 94 dX4_write_46 rfl h (fun _ h => ?_) (fun _ h => ?_)
          · exact r_sub [0, 1, 2] rfl (w_X4_write_j94 C0 hD h hz)
          · refine r_aload_n C0 dX4_write_49 rfl 0 rfl ?_
            refine wcg_1_1 C0 tf_X4_15 dX4_write_50 ?_
            refine r_iload_n C0 dX4_write_53 rfl 1 rfl ?_
            refine r_aload_n C0 dX4_write_54 rfl 0 rfl ?_
            refine wcg_1_6 C0 tf_X4_34 dX4_write_55 ?_
            refine wcas_19 C0 hD h dX4_write_58 (fun k4 h => ?_)
            refine r_aload_n C0 dX4_write_59 rfl 0 rfl ?_
            refine wcg_1_2 C0 tf_X4_18 dX4_write_60 ?_
            refine r_aload_n C0 dX4_write_63 rfl 0 rfl ?_
            refine wcg_1_7 C0 tf_X4_37 dX4_write_64 ?_
            refine r_iload_n C0 dX4_write_67 rfl 1 rfl ?_
            refine wcas_20 C0 hD h dX4_write_68 (fun k5 h => ?_)
            refine r_aload_n C0 dX4_write_69 rfl 0 rfl ?_
            refine wcg_1_3 C0 tf_X4_21 dX4_write_70 ?_
            refine r_aload_n C0 dX4_write_73 rfl 0 rfl ?_
            refine wcg_1_7 C0 tf_X4_37 dX4_write_74 ?_
            refine r_aload_n C0 dX4_write_77 rfl 0 rfl ?_
            refine wcg_1_0 C0 tf_X4_9 dX4_write_78 ?_
            refine r_iload_n C0 dX4_write_81 rfl 1 rfl ?_
            refine wcal_18 C0 h dX4_write_82 (fun k6 h => ?_)
            refine wcas_21 C0 hD h dX4_write_83 (fun k7 h => ?_)
            refine r_aload_n C0 dX4_write_84 rfl 0 rfl ?_
            refine r_dup C0 dX4_write_85 rfl ?_
            refine wcg_1_7 C0 tf_X4_37 dX4_write_86 ?_
            refine r_iconst C0 dX4_write_89 ki_1 ?_
            refine r_iadd C0 dX4_write_90 ?_
            refine wcp_1_7 C0 hD tf_X4_37 dX4_write_91 ?_
            exact r_sub [0, 1, 2] rfl (w_X4_write_j94 C0 hD h hz)
      · cases h
        exact hz _ _ dX4_write_23
theorem c_X4_write {l : Launch} {D : va_G} {cy : Nat → ClassId} {a : Nat → Nat} {V : VT} {J : JT} {K : Nat → Option Nat} {X : va_W} {v1 : Int32} {v2 : Int32} {y : VT} (h : f_X4_write v1 v2 V = some y) : CT l D cy yX4_write cX4_write 3 none 0 [.ref (a 1), .int v1, .int v2] (WC cy a V J K X) (WC cy a y J K X) none :=
  mkV (by decide) (Nat.le_of_ble_eq_true rfl) (fun Γ _ _ C0 hD hF => w_X4_write C0 (dc_of hD) h hF)
theorem dX7_set_0 : decode cX7_set 0 = .ok (.iload_n 1, 1) := by decide +kernel
theorem dX7_set_1 : decode cX7_set 1 = .ok (.ifCond .lt 44, 3) := by decide +kernel
theorem dX7_set_4 : decode cX7_set 4 = .ok (.iload_n 1, 1) := by decide +kernel
theorem dX7_set_5 : decode cX7_set 5 = .ok (.aload_n 0, 1) := by decide +kernel
theorem dX7_set_6 : decode cX7_set 6 = .ok (.getfield 21, 3) := by decide +kernel
theorem dX7_set_9 : decode cX7_set 9 = .ok (.if_icmp .ge 36, 3) := by decide +kernel
theorem dX7_set_12 : decode cX7_set 12 = .ok (.iload_n 2, 1) := by decide +kernel
theorem dX7_set_13 : decode cX7_set 13 = .ok (.ifCond .lt 32, 3) := by decide +kernel
theorem dX7_set_16 : decode cX7_set 16 = .ok (.iload_n 2, 1) := by decide +kernel
theorem dX7_set_17 : decode cX7_set 17 = .ok (.aload_n 0, 1) := by decide +kernel
theorem dX7_set_18 : decode cX7_set 18 = .ok (.getfield 24, 3) := by decide +kernel
theorem dX7_set_21 : decode cX7_set 21 = .ok (.if_icmp .ge 24, 3) := by decide +kernel
theorem dX7_set_24 : decode cX7_set 24 = .ok (.aload_n 0, 1) := by decide +kernel
theorem dX7_set_25 : decode cX7_set 25 = .ok (.getfield 7, 3) := by decide +kernel
theorem dX7_set_28 : decode cX7_set 28 = .ok (.aload_n 0, 1) := by decide +kernel
theorem dX7_set_29 : decode cX7_set 29 = .ok (.getfield 17, 3) := by decide +kernel
theorem dX7_set_32 : decode cX7_set 32 = .ok (.iload_n 1, 1) := by decide +kernel
theorem dX7_set_33 : decode cX7_set 33 = .ok (.aload_n 0, 1) := by decide +kernel
theorem dX7_set_34 : decode cX7_set 34 = .ok (.getfield 24, 3) := by decide +kernel
theorem dX7_set_37 : decode cX7_set 37 = .ok (.imul, 1) := by decide +kernel
theorem dX7_set_38 : decode cX7_set 38 = .ok (.iadd, 1) := by decide +kernel
theorem dX7_set_39 : decode cX7_set 39 = .ok (.iload_n 2, 1) := by decide +kernel
theorem dX7_set_40 : decode cX7_set 40 = .ok (.iadd, 1) := by decide +kernel
theorem dX7_set_41 : decode cX7_set 41 = .ok (.iload_n 3, 1) := by decide +kernel
theorem dX7_set_42 : decode cX7_set 42 = .ok (.invokevirtual 27, 3) := by decide +kernel
theorem dX7_set_45 : decode cX7_set 45 = .ok (.return_, 1) := by decide +kernel
theorem w_X7_set {z : VT} {Γ : Gam} {cy : Nat → ClassId} {a : Nat → Nat} {V : VT} {J : JT} {K : Nat → Option Nat} {X : va_W} {tq ta : Nat} {tB tR tC : Int32} {v1 : Int32} {v2 : Int32} {v3 : Int32}  (C0 : CXg Γ cX7_set 4 1 RX7 cy) (hD : DC Γ cy a X) (ht : TB cy a X tq ta tB tR tC) (h : f_X7_set tB tR tC v1 v2 v3 V = some z) (hz : (fun y : VT => FinV Γ cX7_set (WC cy a y J K X)) z) : Wp Γ 0 0 0 [(0, .ref ta), (1, .int v1), (2, .int v2), (3, .int v3)] [] (WC cy a V J K X) := by
  unfold f_X7_set at h
  refine r_iload_n C0 dX7_set_0 rfl 1 rfl ?_
  refine r_if_lt C0 45 dX7_set_1 rfl h (fun _ h => ?_) (fun _ h => ?_)
  · cases h
    exact hz _ _ dX7_set_45
  · refine r_iload_n C0 dX7_set_4 rfl 1 rfl ?_
    refine r_aload_n C0 dX7_set_5 rfl 0 rfl ?_
    refine wtg_3 C0 tf_X7_21 ht dX7_set_6 ?_
    refine r_icmp_ge C0 45 dX7_set_9 rfl h (fun _ h => ?_) (fun _ h => ?_)
    · cases h
      exact hz _ _ dX7_set_45
    · refine r_iload_n C0 dX7_set_12 rfl 2 rfl ?_
      refine r_if_lt C0 45 dX7_set_13 rfl h (fun _ h => ?_) (fun _ h => ?_)
      · cases h
        exact hz _ _ dX7_set_45
      · refine r_iload_n C0 dX7_set_16 rfl 2 rfl ?_
        refine r_aload_n C0 dX7_set_17 rfl 0 rfl ?_
        refine wtg_4 C0 tf_X7_24 ht dX7_set_18 ?_
        refine r_icmp_ge C0 45 dX7_set_21 rfl h (fun _ h => ?_) (fun _ h => ?_)
        · cases h
          exact hz _ _ dX7_set_45
        · refine r_aload_n C0 dX7_set_24 rfl 0 rfl ?_
          refine wtg_0 C0 tf_X7_7 ht dX7_set_25 ?_
          refine r_aload_n C0 dX7_set_28 rfl 0 rfl ?_
          refine wtg_2 C0 tf_X7_17 ht dX7_set_29 ?_
          refine r_iload_n C0 dX7_set_32 rfl 1 rfl ?_
          refine r_aload_n C0 dX7_set_33 rfl 0 rfl ?_
          refine wtg_4 C0 tf_X7_24 ht dX7_set_34 ?_
          refine r_imul C0 dX7_set_37 ?_
          refine r_iadd C0 dX7_set_38 ?_
          refine r_iload_n C0 dX7_set_39 rfl 2 rfl ?_
          refine r_iadd C0 dX7_set_40 ?_
          refine r_iload_n C0 dX7_set_41 rfl 3 rfl ?_
          refine callVv2 C0 h (hD _ _ _) mw_X4_write rv_1 tm_X7_27 (fun y hy => c_X4_write hy) (Nat.le_of_ble_eq_true rfl) (Nat.le_of_ble_eq_true rfl) dX7_set_42 (fun r1 h => ?_)
          cases h
          exact hz _ _ dX7_set_45
theorem c_X7_set {l : Launch} {D : va_G} {cy : Nat → ClassId} {a : Nat → Nat} {V : VT} {J : JT} {K : Nat → Option Nat} {X : va_W} {tq ta : Nat} {tB tR tC : Int32} {v1 : Int32} {v2 : Int32} {v3 : Int32} {y : VT} (ht : TB cy a X tq ta tB tR tC) (h : f_X7_set tB tR tC v1 v2 v3 V = some y) : CT l D cy yX7_set cX7_set 4 none 1 [.ref ta, .int v1, .int v2, .int v3] (WC cy a V J K X) (WC cy a y J K X) none :=
  mkV (by decide) (Nat.le_of_ble_eq_true rfl) (fun Γ _ _ C0 hD hF => w_X7_set C0 (dc_of hD) ht h hF)
theorem dX9_refuseOver_0 : decode cX9_refuseOver 0 = .ok (.aload_n 0, 1) := by decide +kernel
theorem dX9_refuseOver_1 : decode cX9_refuseOver 1 = .ok (.iload_n 1, 1) := by decide +kernel
theorem dX9_refuseOver_2 : decode cX9_refuseOver 2 = .ok (.putfield 9, 3) := by decide +kernel
theorem dX9_refuseOver_5 : decode cX9_refuseOver 5 = .ok (.aload_n 0, 1) := by decide +kernel
theorem dX9_refuseOver_6 : decode cX9_refuseOver 6 = .ok (.iload_n 2, 1) := by decide +kernel
theorem dX9_refuseOver_7 : decode cX9_refuseOver 7 = .ok (.putfield 15, 3) := by decide +kernel
theorem dX9_refuseOver_10 : decode cX9_refuseOver 10 = .ok (.ldc 25, 2) := by decide +kernel
theorem dX9_refuseOver_12 : decode cX9_refuseOver 12 = .ok (.ireturn, 1) := by decide +kernel
theorem w_X9_refuseOver {z : Int32 × VT} {Γ : Gam} {cy : Nat → ClassId} {a : Nat → Nat} {V : VT} {J : JT} {K : Nat → Option Nat} {X : va_W} {v1 : Int32} {v2 : Int32}  (C0 : CXg Γ cX9_refuseOver 3 0 RX9 cy) (hD : DC Γ cy a X) (h : f_X9_refuseOver v1 v2 V = some z) (hz : (fun y : Int32 × VT => FinI Γ cX9_refuseOver (WC cy a y.2 J K X) y.1) z) : Wp Γ 0 0 0 [(0, .ref (a 2)), (1, .int v1), (2, .int v2)] [] (WC cy a V J K X) := by
  unfold f_X9_refuseOver at h
  refine r_aload_n C0 dX9_refuseOver_0 rfl 0 rfl ?_
  refine r_iload_n C0 dX9_refuseOver_1 rfl 1 rfl ?_
  refine wcp_2_0 C0 hD tf_X9_9 dX9_refuseOver_2 ?_
  refine r_aload_n C0 dX9_refuseOver_5 rfl 0 rfl ?_
  refine r_iload_n C0 dX9_refuseOver_6 rfl 2 rfl ?_
  refine wcp_2_1 C0 hD tf_X9_15 dX9_refuseOver_7 ?_
  refine r_ldc C0 tk_X9_25 dX9_refuseOver_10 ?_
  cases h
  exact hz _ _ dX9_refuseOver_12
theorem c_X9_refuseOver {l : Launch} {D : va_G} {cy : Nat → ClassId} {a : Nat → Nat} {V : VT} {J : JT} {K : Nat → Option Nat} {X : va_W} {v1 : Int32} {v2 : Int32} {y : Int32 × VT} (h : f_X9_refuseOver v1 v2 V = some y) : CT l D cy yX9_refuseOver cX9_refuseOver 3 (some .int) 0 [.ref (a 2), .int v1, .int v2] (WC cy a V J K X) (WC cy a y.2 J K X) (some (.int y.1)) :=
  mkI (by decide) (Nat.le_of_ble_eq_true rfl) (fun Γ _ _ C0 hD hF => w_X9_refuseOver C0 (dc_of hD) h hF)
theorem dX9_refuse_0 : decode cX9_refuse 0 = .ok (.aload_n 0, 1) := by decide +kernel
theorem dX9_refuse_1 : decode cX9_refuse 1 = .ok (.iload_n 1, 1) := by decide +kernel
theorem dX9_refuse_2 : decode cX9_refuse 2 = .ok (.iconst 0, 1) := by decide +kernel
theorem dX9_refuse_3 : decode cX9_refuse 3 = .ok (.invokevirtual 21, 3) := by decide +kernel
theorem dX9_refuse_6 : decode cX9_refuse 6 = .ok (.ireturn, 1) := by decide +kernel
theorem w_X9_refuse {z : Int32 × VT} {Γ : Gam} {cy : Nat → ClassId} {a : Nat → Nat} {V : VT} {J : JT} {K : Nat → Option Nat} {X : va_W} {v1 : Int32}  (C0 : CXg Γ cX9_refuse 2 1 RX9 cy) (hD : DC Γ cy a X) (h : f_X9_refuse v1 V = some z) (hz : (fun y : Int32 × VT => FinI Γ cX9_refuse (WC cy a y.2 J K X) y.1) z) : Wp Γ 0 0 0 [(0, .ref (a 2)), (1, .int v1)] [] (WC cy a V J K X) := by
  unfold f_X9_refuse at h
  refine r_aload_n C0 dX9_refuse_0 rfl 0 rfl ?_
  refine r_iload_n C0 dX9_refuse_1 rfl 1 rfl ?_
  refine r_iconst C0 dX9_refuse_2 ki_0 ?_
  refine callV2 C0 h (hD _ _ _) mw_X9_refuseOver rv_2 tm_X9_21 (fun y hy => c_X9_refuseOver hy) (Nat.le_of_ble_eq_true rfl) (Nat.le_of_ble_eq_true rfl) dX9_refuse_3 (fun r1 h => ?_)
  cases h
  exact hz _ _ dX9_refuse_6
theorem c_X9_refuse {l : Launch} {D : va_G} {cy : Nat → ClassId} {a : Nat → Nat} {V : VT} {J : JT} {K : Nat → Option Nat} {X : va_W} {v1 : Int32} {y : Int32 × VT} (h : f_X9_refuse v1 V = some y) : CT l D cy yX9_refuse cX9_refuse 2 (some .int) 1 [.ref (a 2), .int v1] (WC cy a V J K X) (WC cy a y.2 J K X) (some (.int y.1)) :=
  mkI (by decide) (Nat.le_of_ble_eq_true rfl) (fun Γ _ _ C0 hD hF => w_X9_refuse C0 (dc_of hD) h hF)
theorem dX3_isBar_0 : decode cX3_isBar 0 = .ok (.iload_n 1, 1) := by decide +kernel
theorem dX3_isBar_1 : decode cX3_isBar 1 = .ok (.ifCond .lt 13, 3) := by decide +kernel
theorem dX3_isBar_4 : decode cX3_isBar 4 = .ok (.iload_n 1, 1) := by decide +kernel
theorem dX3_isBar_5 : decode cX3_isBar 5 = .ok (.bipush 12, 2) := by decide +kernel
theorem dX3_isBar_7 : decode cX3_isBar 7 = .ok (.if_icmp .ge 7, 3) := by decide +kernel
theorem dX3_isBar_10 : decode cX3_isBar 10 = .ok (.iconst 1, 1) := by decide +kernel
theorem dX3_isBar_11 : decode cX3_isBar 11 = .ok (.goto 4, 3) := by decide +kernel
theorem dX3_isBar_14 : decode cX3_isBar 14 = .ok (.iconst 0, 1) := by decide +kernel
theorem dX3_isBar_15 : decode cX3_isBar 15 = .ok (.ireturn, 1) := by decide +kernel
theorem w_X3_isBar_j14 {z : (Int32)} {Γ : Gam} {cy : Nat → ClassId} {a : Nat → Nat} {V : VT} {J : JT} {K : Nat → Option Nat} {X : va_W}  (C0 : CXg Γ cX3_isBar 2 0 RX3 cy) (hD : DC Γ cy a X) (h : f_X3_isBar_j14 V = some z) (hz : (fun y : Int32 => FinZ Γ cX3_isBar (WC cy a V J K X) y) z) : Wp Γ 0 0 14 [] [] (WC cy a V J K X) := by
  unfold f_X3_isBar_j14 at h
  refine r_iconst C0 dX3_isBar_14 ki_0 ?_
  cases h
  exact hz _ _ nz_0 dX3_isBar_15
theorem w_X3_isBar {z : Int32} {Γ : Gam} {cy : Nat → ClassId} {a : Nat → Nat} {V : VT} {J : JT} {K : Nat → Option Nat} {X : va_W} {v1 : Int32}  (C0 : CXg Γ cX3_isBar 2 0 RX3 cy) (hD : DC Γ cy a X) (h : f_X3_isBar v1 V = some z) (hz : (fun y : Int32 => FinZ Γ cX3_isBar (WC cy a V J K X) y) z) : Wp Γ 0 0 0 [(0, .ref (a 3)), (1, .int v1)] [] (WC cy a V J K X) := by
  unfold f_X3_isBar at h
  refine r_iload_n C0 dX3_isBar_0 rfl 1 rfl ?_
  refine r_if_lt C0 14 dX3_isBar_1 rfl h (fun _ h => ?_) (fun _ h => ?_)
  · exact r_sub [] rfl (w_X3_isBar_j14 C0 hD h hz)
  · refine r_iload_n C0 dX3_isBar_4 rfl 1 rfl ?_
    refine r_bipush C0 dX3_isBar_5 kb_12 ?_
    refine r_icmp_ge C0 14 dX3_isBar_7 rfl h (fun _ h => ?_) (fun _ h => ?_)
    · exact r_sub [] rfl (w_X3_isBar_j14 C0 hD h hz)
    · refine r_iconst C0 dX3_isBar_10 ki_1 ?_
      refine r_goto C0 15 dX3_isBar_11 rfl ?_
      cases h
      exact hz _ _ nz_1 dX3_isBar_15
theorem c_X3_isBar {l : Launch} {D : va_G} {cy : Nat → ClassId} {a : Nat → Nat} {V : VT} {J : JT} {K : Nat → Option Nat} {X : va_W} {v1 : Int32} {y : Int32} (h : f_X3_isBar v1 V = some y) : CT l D cy yX3_isBar cX3_isBar 2 (some .boolean) 0 [.ref (a 3), .int v1] (WC cy a V J K X) (WC cy a V J K X) (some (.int y)) :=
  mkZ (by decide) (Nat.le_of_ble_eq_true rfl) (fun Γ _ _ C0 hD hF => w_X3_isBar C0 (dc_of hD) h hF)
theorem dX3_isRigged_0 : decode cX3_isRigged 0 = .ok (.aload_n 0, 1) := by decide +kernel
theorem dX3_isRigged_1 : decode cX3_isRigged 1 = .ok (.getfield 15, 3) := by decide +kernel
theorem dX3_isRigged_4 : decode cX3_isRigged 4 = .ok (.iload_n 1, 1) := by decide +kernel
theorem dX3_isRigged_5 : decode cX3_isRigged 5 = .ok (.iconst 0, 1) := by decide +kernel
theorem dX3_isRigged_6 : decode cX3_isRigged 6 = .ok (.invokevirtual 42, 3) := by decide +kernel
theorem dX3_isRigged_9 : decode cX3_isRigged 9 = .ok (.ifCond .le 7, 3) := by decide +kernel
theorem dX3_isRigged_12 : decode cX3_isRigged 12 = .ok (.iconst 1, 1) := by decide +kernel
theorem dX3_isRigged_13 : decode cX3_isRigged 13 = .ok (.goto 4, 3) := by decide +kernel
theorem dX3_isRigged_16 : decode cX3_isRigged 16 = .ok (.iconst 0, 1) := by decide +kernel
theorem dX3_isRigged_17 : decode cX3_isRigged 17 = .ok (.ireturn, 1) := by decide +kernel
theorem w_X3_isRigged {z : Int32} {Γ : Gam} {cy : Nat → ClassId} {a : Nat → Nat} {V : VT} {J : JT} {K : Nat → Option Nat} {X : va_W} {v1 : Int32}  (C0 : CXg Γ cX3_isRigged 2 1 RX3 cy) (hD : DC Γ cy a X) (h : f_X3_isRigged v1 V = some z) (hz : (fun y : Int32 => FinZ Γ cX3_isRigged (WC cy a V J K X) y) z) : Wp Γ 0 0 0 [(0, .ref (a 3)), (1, .int v1)] [] (WC cy a V J K X) := by
  unfold f_X3_isRigged at h
  refine r_aload_n C0 dX3_isRigged_0 rfl 0 rfl ?_
  refine wcg_3_0 C0 tf_X3_15 dX3_isRigged_1 ?_
  refine r_iload_n C0 dX3_isRigged_4 rfl 1 rfl ?_
  refine r_iconst C0 dX3_isRigged_5 ki_0 ?_
  refine callV2 C0 h (hD _ _ _) mw_X7_get (rv_t tb_10) tm_X3_42 (fun y hy => c_X7_get tb_10 hy) (Nat.le_of_ble_eq_true rfl) (Nat.le_of_ble_eq_true rfl) dX3_isRigged_6 (fun r1 h => ?_)
  refine r_if_le C0 16 dX3_isRigged_9 rfl h (fun _ h => ?_) (fun _ h => ?_)
  · refine r_iconst C0 dX3_isRigged_16 ki_0 ?_
    cases h
    exact hz _ _ nz_0 dX3_isRigged_17
  · refine r_iconst C0 dX3_isRigged_12 ki_1 ?_
    refine r_goto C0 17 dX3_isRigged_13 rfl ?_
    cases h
    exact hz _ _ nz_1 dX3_isRigged_17
theorem c_X3_isRigged {l : Launch} {D : va_G} {cy : Nat → ClassId} {a : Nat → Nat} {V : VT} {J : JT} {K : Nat → Option Nat} {X : va_W} {v1 : Int32} {y : Int32} (h : f_X3_isRigged v1 V = some y) : CT l D cy yX3_isRigged cX3_isRigged 2 (some .boolean) 1 [.ref (a 3), .int v1] (WC cy a V J K X) (WC cy a V J K X) (some (.int y)) :=
  mkZ (by decide) (Nat.le_of_ble_eq_true rfl) (fun Γ _ _ C0 hD hF => w_X3_isRigged C0 (dc_of hD) h hF)
theorem dX9_isRefusal_0 : decode cX9_isRefusal 0 = .ok (.aload_n 0, 1) := by decide +kernel
theorem dX9_isRefusal_1 : decode cX9_isRefusal 1 = .ok (.getfield 9, 3) := by decide +kernel
theorem dX9_isRefusal_4 : decode cX9_isRefusal 4 = .ok (.ifCond .eq 7, 3) := by decide +kernel
theorem dX9_isRefusal_7 : decode cX9_isRefusal 7 = .ok (.iconst 1, 1) := by decide +kernel
theorem dX9_isRefusal_8 : decode cX9_isRefusal 8 = .ok (.goto 4, 3) := by decide +kernel
theorem dX9_isRefusal_11 : decode cX9_isRefusal 11 = .ok (.iconst 0, 1) := by decide +kernel
theorem dX9_isRefusal_12 : decode cX9_isRefusal 12 = .ok (.ireturn, 1) := by decide +kernel
theorem w_X9_isRefusal {z : Int32} {Γ : Gam} {cy : Nat → ClassId} {a : Nat → Nat} {V : VT} {J : JT} {K : Nat → Option Nat} {X : va_W}  (C0 : CXg Γ cX9_isRefusal 1 0 RX9 cy) (hD : DC Γ cy a X) (h : f_X9_isRefusal V = some z) (hz : (fun y : Int32 => FinZ Γ cX9_isRefusal (WC cy a V J K X) y) z) : Wp Γ 0 0 0 [(0, .ref (a 2))] [] (WC cy a V J K X) := by
  unfold f_X9_isRefusal at h
  refine r_aload_n C0 dX9_isRefusal_0 rfl 0 rfl ?_
  refine wcg_2_0 C0 tf_X9_9 dX9_isRefusal_1 ?_
  refine r_if_eq C0 11 dX9_isRefusal_4 rfl h (fun _ h => ?_) (fun _ h => ?_)
  · refine r_iconst C0 dX9_isRefusal_11 ki_0 ?_
    cases h
    exact hz _ _ nz_0 dX9_isRefusal_12
  · refine r_iconst C0 dX9_isRefusal_7 ki_1 ?_
    refine r_goto C0 12 dX9_isRefusal_8 rfl ?_
    cases h
    exact hz _ _ nz_1 dX9_isRefusal_12
theorem c_X9_isRefusal {l : Launch} {D : va_G} {cy : Nat → ClassId} {a : Nat → Nat} {V : VT} {J : JT} {K : Nat → Option Nat} {X : va_W} {y : Int32} (h : f_X9_isRefusal V = some y) : CT l D cy yX9_isRefusal cX9_isRefusal 1 (some .boolean) 0 [.ref (a 2)] (WC cy a V J K X) (WC cy a V J K X) (some (.int y)) :=
  mkZ (by decide) (Nat.le_of_ble_eq_true rfl) (fun Γ _ _ C0 hD hF => w_X9_isRefusal C0 (dc_of hD) h hF)
theorem dX9_refusesBar_0 : decode cX9_refusesBar 0 = .ok (.aload_n 1, 1) := by decide +kernel
theorem dX9_refusesBar_1 : decode cX9_refusesBar 1 = .ok (.iload_n 2, 1) := by decide +kernel
theorem dX9_refusesBar_2 : decode cX9_refusesBar 2 = .ok (.invokevirtual 26, 3) := by decide +kernel
theorem dX9_refusesBar_5 : decode cX9_refusesBar 5 = .ok (.ifCond .ne 12, 3) := by decide +kernel
theorem dX9_refusesBar_8 : decode cX9_refusesBar 8 = .ok (.aload_n 0, 1) := by decide +kernel
theorem dX9_refusesBar_9 : decode cX9_refusesBar 9 = .ok (.iconst 2, 1) := by decide +kernel
theorem dX9_refusesBar_10 : decode cX9_refusesBar 10 = .ok (.invokevirtual 32, 3) := by decide +kernel
theorem dX9_refusesBar_13 : decode cX9_refusesBar 13 = .ok (.pop, 1) := by decide +kernel
theorem dX9_refusesBar_14 : decode cX9_refusesBar 14 = .ok (.goto 17, 3) := by decide +kernel
theorem dX9_refusesBar_17 : decode cX9_refusesBar 17 = .ok (.aload_n 1, 1) := by decide +kernel
theorem dX9_refusesBar_18 : decode cX9_refusesBar 18 = .ok (.iload_n 2, 1) := by decide +kernel
theorem dX9_refusesBar_19 : decode cX9_refusesBar 19 = .ok (.invokevirtual 36, 3) := by decide +kernel
theorem dX9_refusesBar_22 : decode cX9_refusesBar 22 = .ok (.ifCond .ne 9, 3) := by decide +kernel
theorem dX9_refusesBar_25 : decode cX9_refusesBar 25 = .ok (.aload_n 0, 1) := by decide +kernel
theorem dX9_refusesBar_26 : decode cX9_refusesBar 26 = .ok (.iconst 1, 1) := by decide +kernel
theorem dX9_refusesBar_27 : decode cX9_refusesBar 27 = .ok (.invokevirtual 32, 3) := by decide +kernel
theorem dX9_refusesBar_30 : decode cX9_refusesBar 30 = .ok (.pop, 1) := by decide +kernel
theorem dX9_refusesBar_31 : decode cX9_refusesBar 31 = .ok (.aload_n 0, 1) := by decide +kernel
theorem dX9_refusesBar_32 : decode cX9_refusesBar 32 = .ok (.invokevirtual 39, 3) := by decide +kernel
theorem dX9_refusesBar_35 : decode cX9_refusesBar 35 = .ok (.ireturn, 1) := by decide +kernel
theorem w_X9_refusesBar_j31 {z : (Int32 × VT)} {Γ : Gam} {cy : Nat → ClassId} {a : Nat → Nat} {V : VT} {J : JT} {K : Nat → Option Nat} {X : va_W}  (C0 : CXg Γ cX9_refusesBar 3 2 RX9 cy) (hD : DC Γ cy a X) (h : f_X9_refusesBar_j31 V = some z) (hz : (fun y : Int32 × VT => FinZ Γ cX9_refusesBar (WC cy a y.2 J K X) y.1) z) : Wp Γ 0 0 31 [(0, .ref (a 2))] [] (WC cy a V J K X) := by
  unfold f_X9_refusesBar_j31 at h
  refine r_aload_n C0 dX9_refusesBar_31 rfl 0 rfl ?_
  refine callV0 C0 h (hD _ _ _) mw_X9_isRefusal rv_2 tm_X9_39 (fun y hy => c_X9_isRefusal hy) (Nat.le_of_ble_eq_true rfl) (Nat.le_of_ble_eq_true rfl) dX9_refusesBar_32 (fun r3 h => ?_)
  obtain ⟨q4, h7, h6⟩ := op_bind h
  obtain ⟨rfl, hn⟩ := ckZ_spec h7
  cases h6
  exact hz _ _ hn dX9_refusesBar_35
theorem w_X9_refusesBar {z : Int32 × VT} {Γ : Gam} {cy : Nat → ClassId} {a : Nat → Nat} {V : VT} {J : JT} {K : Nat → Option Nat} {X : va_W} {v2 : Int32}  (C0 : CXg Γ cX9_refusesBar 3 2 RX9 cy) (hD : DC Γ cy a X) (h : f_X9_refusesBar v2 V = some z) (hz : (fun y : Int32 × VT => FinZ Γ cX9_refusesBar (WC cy a y.2 J K X) y.1) z) : Wp Γ 0 0 0 [(0, .ref (a 2)), (1, .ref (a 3)), (2, .int v2)] [] (WC cy a V J K X) := by
  unfold f_X9_refusesBar at h
  refine r_aload_n C0 dX9_refusesBar_0 rfl 1 rfl ?_
  refine r_iload_n C0 dX9_refusesBar_1 rfl 2 rfl ?_
  refine callV1 C0 h (hD _ _ _) mw_X3_isBar rv_3 tm_X9_26 (fun y hy => c_X3_isBar hy) (Nat.le_of_ble_eq_true rfl) (Nat.le_of_ble_eq_true rfl) dX9_refusesBar_2 (fun r1 h => ?_)
  refine r_if_ne C0 17 dX9_refusesBar_5 rfl h (fun _ h => ?_) (fun _ h => ?_)
  · refine r_aload_n C0 dX9_refusesBar_17 rfl 1 rfl ?_
    refine r_iload_n C0 dX9_refusesBar_18 rfl 2 rfl ?_
    refine callV1 C0 h (hD _ _ _) mw_X3_isRigged rv_3 tm_X9_36 (fun y hy => c_X3_isRigged hy) (Nat.le_of_ble_eq_true rfl) (Nat.le_of_ble_eq_true rfl) dX9_refusesBar_19 (fun r2 h => ?_)
    refine r_if_ne C0 31 dX9_refusesBar_22 rfl h (fun _ h => ?_) (fun _ h => ?_)
    · exact r_sub [0] rfl (w_X9_refusesBar_j31 C0 hD h hz)
    · refine r_aload_n C0 dX9_refusesBar_25 rfl 0 rfl ?_
      refine r_iconst C0 dX9_refusesBar_26 ki_1 ?_
      refine callV1 C0 h (hD _ _ _) mw_X9_refuse rv_2 tm_X9_32 (fun y hy => c_X9_refuse hy) (Nat.le_of_ble_eq_true rfl) (Nat.le_of_ble_eq_true rfl) dX9_refusesBar_27 (fun r5 h => ?_)
      refine r_pop C0 dX9_refusesBar_30 rfl ?_
      exact r_sub [0] rfl (w_X9_refusesBar_j31 C0 hD h hz)
  · refine r_aload_n C0 dX9_refusesBar_8 rfl 0 rfl ?_
    refine r_iconst C0 dX9_refusesBar_9 ki_2 ?_
    refine callV1 C0 h (hD _ _ _) mw_X9_refuse rv_2 tm_X9_32 (fun y hy => c_X9_refuse hy) (Nat.le_of_ble_eq_true rfl) (Nat.le_of_ble_eq_true rfl) dX9_refusesBar_10 (fun r6 h => ?_)
    refine r_pop C0 dX9_refusesBar_13 rfl ?_
    refine r_goto C0 31 dX9_refusesBar_14 rfl ?_
    exact r_sub [0] rfl (w_X9_refusesBar_j31 C0 hD h hz)
theorem c_X9_refusesBar {l : Launch} {D : va_G} {cy : Nat → ClassId} {a : Nat → Nat} {V : VT} {J : JT} {K : Nat → Option Nat} {X : va_W} {v2 : Int32} {y : Int32 × VT} (h : f_X9_refusesBar v2 V = some y) : CT l D cy yX9_refusesBar cX9_refusesBar 3 (some .boolean) 2 [.ref (a 2), .ref (a 3), .int v2] (WC cy a V J K X) (WC cy a y.2 J K X) (some (.int y.1)) :=
  mkZ (by decide) (Nat.le_of_ble_eq_true rfl) (fun Γ _ _ C0 hD hF => w_X9_refusesBar C0 (dc_of hD) h hF)
theorem dX0_addCue_0 : decode cX0_addCue 0 = .ok (.aload_n 0, 1) := by decide +kernel
theorem dX0_addCue_1 : decode cX0_addCue 1 = .ok (.getfield 48, 3) := by decide +kernel
theorem dX0_addCue_4 : decode cX0_addCue 4 = .ok (.aload_n 0, 1) := by decide +kernel
theorem dX0_addCue_5 : decode cX0_addCue 5 = .ok (.getfield 36, 3) := by decide +kernel
theorem dX0_addCue_8 : decode cX0_addCue 8 = .ok (.iload_n 1, 1) := by decide +kernel
theorem dX0_addCue_9 : decode cX0_addCue 9 = .ok (.invokevirtual 52, 3) := by decide +kernel
theorem dX0_addCue_12 : decode cX0_addCue 12 = .ok (.ifCond .eq 6, 3) := by decide +kernel
theorem dX0_addCue_15 : decode cX0_addCue 15 = .ok (.ldc 25, 2) := by decide +kernel
theorem dX0_addCue_17 : decode cX0_addCue 17 = .ok (.ireturn, 1) := by decide +kernel
theorem dX0_addCue_18 : decode cX0_addCue 18 = .ok (.iload_n 2, 1) := by decide +kernel
theorem dX0_addCue_19 : decode cX0_addCue 19 = .ok (.ifCond .eq 38, 3) := by decide +kernel
theorem dX0_addCue_22 : decode cX0_addCue 22 = .ok (.iload_n 2, 1) := by decide +kernel
theorem dX0_addCue_23 : decode cX0_addCue 23 = .ok (.bipush (-5), 2) := by decide +kernel
theorem dX0_addCue_25 : decode cX0_addCue 25 = .ok (.if_icmp .lt 32, 3) := by decide +kernel
theorem dX0_addCue_28 : decode cX0_addCue 28 = .ok (.iload_n 2, 1) := by decide +kernel
theorem dX0_addCue_29 : decode cX0_addCue 29 = .ok (.iconst 5, 1) := by decide +kernel
theorem dX0_addCue_30 : decode cX0_addCue 30 = .ok (.if_icmp .gt 27, 3) := by decide +kernel
theorem dX0_addCue_33 : decode cX0_addCue 33 = .ok (.iload_n 3, 1) := by decide +kernel
theorem dX0_addCue_34 : decode cX0_addCue 34 = .ok (.ifCond .lt 23, 3) := by decide +kernel
theorem dX0_addCue_37 : decode cX0_addCue 37 = .ok (.iload_n 3, 1) := by decide +kernel
theorem dX0_addCue_38 : decode cX0_addCue 38 = .ok (.ldc 58, 2) := by decide +kernel
theorem dX0_addCue_40 : decode cX0_addCue 40 = .ok (.if_icmp .gt 17, 3) := by decide +kernel
theorem dX0_addCue_43 : decode cX0_addCue 43 = .ok (.iload 4, 2) := by decide +kernel
theorem dX0_addCue_45 : decode cX0_addCue 45 = .ok (.iconst 1, 1) := by decide +kernel
theorem dX0_addCue_46 : decode cX0_addCue 46 = .ok (.if_icmp .lt 11, 3) := by decide +kernel
theorem dX0_addCue_49 : decode cX0_addCue 49 = .ok (.iload 4, 2) := by decide +kernel
theorem dX0_addCue_51 : decode cX0_addCue 51 = .ok (.sipush 200, 3) := by decide +kernel
theorem dX0_addCue_54 : decode cX0_addCue 54 = .ok (.if_icmp .le 13, 3) := by decide +kernel
theorem dX0_addCue_57 : decode cX0_addCue 57 = .ok (.aload_n 0, 1) := by decide +kernel
theorem dX0_addCue_58 : decode cX0_addCue 58 = .ok (.getfield 48, 3) := by decide +kernel
theorem dX0_addCue_61 : decode cX0_addCue 61 = .ok (.bipush 7, 2) := by decide +kernel
theorem dX0_addCue_63 : decode cX0_addCue 63 = .ok (.invokevirtual 59, 3) := by decide +kernel
theorem dX0_addCue_66 : decode cX0_addCue 66 = .ok (.ireturn, 1) := by decide +kernel
theorem dX0_addCue_67 : decode cX0_addCue 67 = .ok (.aload_n 0, 1) := by decide +kernel
theorem dX0_addCue_68 : decode cX0_addCue 68 = .ok (.getfield 36, 3) := by decide +kernel
theorem dX0_addCue_71 : decode cX0_addCue 71 = .ok (.getfield 63, 3) := by decide +kernel
theorem dX0_addCue_74 : decode cX0_addCue 74 = .ok (.iconst 0, 1) := by decide +kernel
theorem dX0_addCue_75 : decode cX0_addCue 75 = .ok (.iconst 2, 1) := by decide +kernel
theorem dX0_addCue_76 : decode cX0_addCue 76 = .ok (.invokevirtual 69, 3) := by decide +kernel
theorem dX0_addCue_79 : decode cX0_addCue 79 = .ok (.istore 5, 2) := by decide +kernel
theorem dX0_addCue_81 : decode cX0_addCue 81 = .ok (.iload 5, 2) := by decide +kernel
theorem dX0_addCue_83 : decode cX0_addCue 83 = .ok (.bipush 60, 2) := by decide +kernel
theorem dX0_addCue_85 : decode cX0_addCue 85 = .ok (.if_icmp .lt 13, 3) := by decide +kernel
theorem dX0_addCue_88 : decode cX0_addCue 88 = .ok (.aload_n 0, 1) := by decide +kernel
theorem dX0_addCue_89 : decode cX0_addCue 89 = .ok (.getfield 48, 3) := by decide +kernel
theorem dX0_addCue_92 : decode cX0_addCue 92 = .ok (.bipush 11, 2) := by decide +kernel
theorem dX0_addCue_94 : decode cX0_addCue 94 = .ok (.invokevirtual 59, 3) := by decide +kernel
theorem dX0_addCue_97 : decode cX0_addCue 97 = .ok (.ireturn, 1) := by decide +kernel
theorem dX0_addCue_98 : decode cX0_addCue 98 = .ok (.aload_n 0, 1) := by decide +kernel
theorem dX0_addCue_99 : decode cX0_addCue 99 = .ok (.getfield 36, 3) := by decide +kernel
theorem dX0_addCue_102 : decode cX0_addCue 102 = .ok (.getfield 63, 3) := by decide +kernel
theorem dX0_addCue_105 : decode cX0_addCue 105 = .ok (.iconst 0, 1) := by decide +kernel
theorem dX0_addCue_106 : decode cX0_addCue 106 = .ok (.iconst 2, 1) := by decide +kernel
theorem dX0_addCue_107 : decode cX0_addCue 107 = .ok (.iload 5, 2) := by decide +kernel
theorem dX0_addCue_109 : decode cX0_addCue 109 = .ok (.iconst 1, 1) := by decide +kernel
theorem dX0_addCue_110 : decode cX0_addCue 110 = .ok (.iadd, 1) := by decide +kernel
theorem dX0_addCue_111 : decode cX0_addCue 111 = .ok (.invokevirtual 75, 3) := by decide +kernel
theorem dX0_addCue_114 : decode cX0_addCue 114 = .ok (.aload_n 0, 1) := by decide +kernel
theorem dX0_addCue_115 : decode cX0_addCue 115 = .ok (.getfield 36, 3) := by decide +kernel
theorem dX0_addCue_118 : decode cX0_addCue 118 = .ok (.getfield 79, 3) := by decide +kernel
theorem dX0_addCue_121 : decode cX0_addCue 121 = .ok (.iload 5, 2) := by decide +kernel
theorem dX0_addCue_123 : decode cX0_addCue 123 = .ok (.iconst 0, 1) := by decide +kernel
theorem dX0_addCue_124 : decode cX0_addCue 124 = .ok (.iload_n 1, 1) := by decide +kernel
theorem dX0_addCue_125 : decode cX0_addCue 125 = .ok (.invokevirtual 75, 3) := by decide +kernel
theorem dX0_addCue_128 : decode cX0_addCue 128 = .ok (.aload_n 0, 1) := by decide +kernel
theorem dX0_addCue_129 : decode cX0_addCue 129 = .ok (.getfield 36, 3) := by decide +kernel
theorem dX0_addCue_132 : decode cX0_addCue 132 = .ok (.getfield 79, 3) := by decide +kernel
theorem dX0_addCue_135 : decode cX0_addCue 135 = .ok (.iload 5, 2) := by decide +kernel
theorem dX0_addCue_137 : decode cX0_addCue 137 = .ok (.iconst 1, 1) := by decide +kernel
theorem dX0_addCue_138 : decode cX0_addCue 138 = .ok (.iload_n 2, 1) := by decide +kernel
theorem dX0_addCue_139 : decode cX0_addCue 139 = .ok (.invokevirtual 75, 3) := by decide +kernel
theorem dX0_addCue_142 : decode cX0_addCue 142 = .ok (.aload_n 0, 1) := by decide +kernel
theorem dX0_addCue_143 : decode cX0_addCue 143 = .ok (.getfield 36, 3) := by decide +kernel
theorem dX0_addCue_146 : decode cX0_addCue 146 = .ok (.getfield 79, 3) := by decide +kernel
theorem dX0_addCue_149 : decode cX0_addCue 149 = .ok (.iload 5, 2) := by decide +kernel
theorem dX0_addCue_151 : decode cX0_addCue 151 = .ok (.iconst 2, 1) := by decide +kernel
theorem dX0_addCue_152 : decode cX0_addCue 152 = .ok (.iload_n 3, 1) := by decide +kernel
theorem dX0_addCue_153 : decode cX0_addCue 153 = .ok (.invokevirtual 75, 3) := by decide +kernel
theorem dX0_addCue_156 : decode cX0_addCue 156 = .ok (.aload_n 0, 1) := by decide +kernel
theorem dX0_addCue_157 : decode cX0_addCue 157 = .ok (.getfield 36, 3) := by decide +kernel
theorem dX0_addCue_160 : decode cX0_addCue 160 = .ok (.getfield 79, 3) := by decide +kernel
theorem dX0_addCue_163 : decode cX0_addCue 163 = .ok (.iload 5, 2) := by decide +kernel
theorem dX0_addCue_165 : decode cX0_addCue 165 = .ok (.iconst 3, 1) := by decide +kernel
theorem dX0_addCue_166 : decode cX0_addCue 166 = .ok (.iload 4, 2) := by decide +kernel
theorem dX0_addCue_168 : decode cX0_addCue 168 = .ok (.invokevirtual 75, 3) := by decide +kernel
theorem dX0_addCue_171 : decode cX0_addCue 171 = .ok (.aload_n 0, 1) := by decide +kernel
theorem dX0_addCue_172 : decode cX0_addCue 172 = .ok (.getfield 36, 3) := by decide +kernel
theorem dX0_addCue_175 : decode cX0_addCue 175 = .ok (.getfield 79, 3) := by decide +kernel
theorem dX0_addCue_178 : decode cX0_addCue 178 = .ok (.iload 5, 2) := by decide +kernel
theorem dX0_addCue_180 : decode cX0_addCue 180 = .ok (.iconst 4, 1) := by decide +kernel
theorem dX0_addCue_181 : decode cX0_addCue 181 = .ok (.iconst 0, 1) := by decide +kernel
theorem dX0_addCue_182 : decode cX0_addCue 182 = .ok (.invokevirtual 75, 3) := by decide +kernel
theorem dX0_addCue_185 : decode cX0_addCue 185 = .ok (.iload 5, 2) := by decide +kernel
theorem dX0_addCue_187 : decode cX0_addCue 187 = .ok (.ireturn, 1) := by decide +kernel
theorem w_X0_addCue_j57 {z : (Int32 × VT)} {Γ : Gam} {cy : Nat → ClassId} {a : Nat → Nat} {V : VT} {J : JT} {K : Nat → Option Nat} {X : va_W}  (C0 : CXg Γ cX0_addCue 6 3 RX0 cy) (hD : DC Γ cy a X) (h : f_X0_addCue_j57 V = some z) (hz : (fun y : Int32 × VT => FinI Γ cX0_addCue (WC cy a y.2 J K X) y.1) z) : Wp Γ 0 0 57 [(0, .ref (a 8))] [] (WC cy a V J K X) := by
  unfold f_X0_addCue_j57 at h
  refine r_aload_n C0 dX0_addCue_57 rfl 0 rfl ?_
  refine wcg_8_3 C0 tf_X0_48 dX0_addCue_58 ?_
  refine r_bipush C0 dX0_addCue_61 kb_7 ?_
  refine callV1 C0 h (hD _ _ _) mw_X9_refuse rv_2 tm_X0_59 (fun y hy => c_X9_refuse hy) (Nat.le_of_ble_eq_true rfl) (Nat.le_of_ble_eq_true rfl) dX0_addCue_63 (fun r2 h => ?_)
  cases h
  exact hz _ _ dX0_addCue_66
theorem w_X0_addCue {z : Int32 × VT} {Γ : Gam} {cy : Nat → ClassId} {a : Nat → Nat} {V : VT} {J : JT} {K : Nat → Option Nat} {X : va_W} {v1 : Int32} {v2 : Int32} {v3 : Int32} {v4 : Int32}  (C0 : CXg Γ cX0_addCue 6 3 RX0 cy) (hD : DC Γ cy a X) (h : f_X0_addCue v1 v2 v3 v4 V = some z) (hz : (fun y : Int32 × VT => FinI Γ cX0_addCue (WC cy a y.2 J K X) y.1) z) : Wp Γ 0 0 0 [(0, .ref (a 8)), (1, .int v1), (2, .int v2), (3, .int v3), (4, .int v4)] [] (WC cy a V J K X) := by
  unfold f_X0_addCue at h
  refine r_aload_n C0 dX0_addCue_0 rfl 0 rfl ?_
  refine wcg_8_3 C0 tf_X0_48 dX0_addCue_1 ?_
  refine r_aload_n C0 dX0_addCue_4 rfl 0 rfl ?_
  refine wcg_8_0 C0 tf_X0_36 dX0_addCue_5 ?_
  refine r_iload_n C0 dX0_addCue_8 rfl 1 rfl ?_
  refine callV2 C0 h (hD _ _ _) mw_X9_refusesBar rv_2 tm_X0_52 (fun y hy => c_X9_refusesBar hy) (Nat.le_of_ble_eq_true rfl) (Nat.le_of_ble_eq_true rfl) dX0_addCue_9 (fun r1 h => ?_)
  refine r_if_eq C0 18 dX0_addCue_12 rfl h (fun _ h => ?_) (fun _ h => ?_)
  · refine r_iload_n C0 dX0_addCue_18 rfl 2 rfl ?_
    refine r_if_eq C0 57 dX0_addCue_19 rfl h (fun _ h => ?_) (fun _ h => ?_)
    · exact r_sub [0] rfl (w_X0_addCue_j57 C0 hD h hz)
    · refine r_iload_n C0 dX0_addCue_22 rfl 2 rfl ?_
      refine r_bipush C0 dX0_addCue_23 kb_m5 ?_
      refine r_icmp_lt C0 57 dX0_addCue_25 rfl h (fun _ h => ?_) (fun _ h => ?_)
      · exact r_sub [0] rfl (w_X0_addCue_j57 C0 hD h hz)
      · refine r_iload_n C0 dX0_addCue_28 rfl 2 rfl ?_
        refine r_iconst C0 dX0_addCue_29 ki_5 ?_
        refine r_icmp_gt C0 57 dX0_addCue_30 rfl h (fun _ h => ?_) (fun _ h => ?_)
        · exact r_sub [0] rfl (w_X0_addCue_j57 C0 hD h hz)
        · refine r_iload_n C0 dX0_addCue_33 rfl 3 rfl ?_
          refine r_if_lt C0 57 dX0_addCue_34 rfl h (fun _ h => ?_) (fun _ h => ?_)
          · exact r_sub [0] rfl (w_X0_addCue_j57 C0 hD h hz)
          · refine r_iload_n C0 dX0_addCue_37 rfl 3 rfl ?_
            refine r_ldc C0 tk_X0_58 dX0_addCue_38 ?_
            refine r_icmp_gt C0 57 dX0_addCue_40 rfl h (fun _ h => ?_) (fun _ h => ?_)
            · exact r_sub [0] rfl (w_X0_addCue_j57 C0 hD h hz)
            · refine r_iload C0 dX0_addCue_43 4 rfl ?_
              refine r_iconst C0 dX0_addCue_45 ki_1 ?_
              refine r_icmp_lt C0 57 dX0_addCue_46 rfl h (fun _ h => ?_) (fun _ h => ?_)
              · exact r_sub [0] rfl (w_X0_addCue_j57 C0 hD h hz)
              · refine r_iload C0 dX0_addCue_49 4 rfl ?_
                refine r_sipush C0 dX0_addCue_51 ks_200 ?_
                refine r_icmp_le C0 67 dX0_addCue_54 rfl h (fun _ h => ?_) (fun _ h => ?_)
                · refine r_aload_n C0 dX0_addCue_67 rfl 0 rfl ?_
                  refine wcg_8_0 C0 tf_X0_36 dX0_addCue_68 ?_
                  refine wcg_3_7 C0 tf_X0_63 dX0_addCue_71 ?_
                  refine r_iconst C0 dX0_addCue_74 ki_0 ?_
                  refine r_iconst C0 dX0_addCue_75 ki_2 ?_
                  refine callV2 C0 h (hD _ _ _) mw_X7_get (rv_t tb_17) tm_X0_69 (fun y hy => c_X7_get tb_17 hy) (Nat.le_of_ble_eq_true rfl) (Nat.le_of_ble_eq_true rfl) dX0_addCue_76 (fun r3 h => ?_)
                  refine r_istore (lv2 := [(5, .int r3), (0, .ref (a 8)), (1, .int v1), (2, .int v2), (3, .int v3), (4, .int v4)]) C0 dX0_addCue_79 rfl (Nat.le_of_ble_eq_true rfl) rfl ?_
                  refine r_iload C0 dX0_addCue_81 0 rfl ?_
                  refine r_bipush C0 dX0_addCue_83 kb_60 ?_
                  refine r_icmp_lt C0 98 dX0_addCue_85 rfl h (fun _ h => ?_) (fun _ h => ?_)
                  · refine r_aload_n C0 dX0_addCue_98 rfl 1 rfl ?_
                    refine wcg_8_0 C0 tf_X0_36 dX0_addCue_99 ?_
                    refine wcg_3_7 C0 tf_X0_63 dX0_addCue_102 ?_
                    refine r_iconst C0 dX0_addCue_105 ki_0 ?_
                    refine r_iconst C0 dX0_addCue_106 ki_2 ?_
                    refine r_iload C0 dX0_addCue_107 0 rfl ?_
                    refine r_iconst C0 dX0_addCue_109 ki_1 ?_
                    refine r_iadd C0 dX0_addCue_110 ?_
                    refine callVv3 C0 h (hD _ _ _) mw_X7_set (rv_t tb_17) tm_X0_75 (fun y hy => c_X7_set tb_17 hy) (Nat.le_of_ble_eq_true rfl) (Nat.le_of_ble_eq_true rfl) dX0_addCue_111 (fun r4 h => ?_)
                    refine r_aload_n C0 dX0_addCue_114 rfl 1 rfl ?_
                    refine wcg_8_0 C0 tf_X0_36 dX0_addCue_115 ?_
                    refine wcg_3_5 C0 tf_X0_79 dX0_addCue_118 ?_
                    refine r_iload C0 dX0_addCue_121 0 rfl ?_
                    refine r_iconst C0 dX0_addCue_123 ki_0 ?_
                    refine r_iload_n C0 dX0_addCue_124 rfl 2 rfl ?_
                    refine callVv3 C0 h (hD _ _ _) mw_X7_set (rv_t tb_15) tm_X0_75 (fun y hy => c_X7_set tb_15 hy) (Nat.le_of_ble_eq_true rfl) (Nat.le_of_ble_eq_true rfl) dX0_addCue_125 (fun r5 h => ?_)
                    refine r_aload_n C0 dX0_addCue_128 rfl 1 rfl ?_
                    refine wcg_8_0 C0 tf_X0_36 dX0_addCue_129 ?_
                    refine wcg_3_5 C0 tf_X0_79 dX0_addCue_132 ?_
                    refine r_iload C0 dX0_addCue_135 0 rfl ?_
                    refine r_iconst C0 dX0_addCue_137 ki_1 ?_
                    refine r_iload_n C0 dX0_addCue_138 rfl 3 rfl ?_
                    refine callVv3 C0 h (hD _ _ _) mw_X7_set (rv_t tb_15) tm_X0_75 (fun y hy => c_X7_set tb_15 hy) (Nat.le_of_ble_eq_true rfl) (Nat.le_of_ble_eq_true rfl) dX0_addCue_139 (fun r6 h => ?_)
                    refine r_aload_n C0 dX0_addCue_142 rfl 1 rfl ?_
                    refine wcg_8_0 C0 tf_X0_36 dX0_addCue_143 ?_
                    refine wcg_3_5 C0 tf_X0_79 dX0_addCue_146 ?_
                    refine r_iload C0 dX0_addCue_149 0 rfl ?_
                    refine r_iconst C0 dX0_addCue_151 ki_2 ?_
                    refine r_iload_n C0 dX0_addCue_152 rfl 4 rfl ?_
                    refine callVv3 C0 h (hD _ _ _) mw_X7_set (rv_t tb_15) tm_X0_75 (fun y hy => c_X7_set tb_15 hy) (Nat.le_of_ble_eq_true rfl) (Nat.le_of_ble_eq_true rfl) dX0_addCue_153 (fun r7 h => ?_)
                    refine r_aload_n C0 dX0_addCue_156 rfl 1 rfl ?_
                    refine wcg_8_0 C0 tf_X0_36 dX0_addCue_157 ?_
                    refine wcg_3_5 C0 tf_X0_79 dX0_addCue_160 ?_
                    refine r_iload C0 dX0_addCue_163 0 rfl ?_
                    refine r_iconst C0 dX0_addCue_165 ki_3 ?_
                    refine r_iload C0 dX0_addCue_166 5 rfl ?_
                    refine callVv3 C0 h (hD _ _ _) mw_X7_set (rv_t tb_15) tm_X0_75 (fun y hy => c_X7_set tb_15 hy) (Nat.le_of_ble_eq_true rfl) (Nat.le_of_ble_eq_true rfl) dX0_addCue_168 (fun r8 h => ?_)
                    refine r_aload_n C0 dX0_addCue_171 rfl 1 rfl ?_
                    refine wcg_8_0 C0 tf_X0_36 dX0_addCue_172 ?_
                    refine wcg_3_5 C0 tf_X0_79 dX0_addCue_175 ?_
                    refine r_iload C0 dX0_addCue_178 0 rfl ?_
                    refine r_iconst C0 dX0_addCue_180 ki_4 ?_
                    refine r_iconst C0 dX0_addCue_181 ki_0 ?_
                    refine callVv3 C0 h (hD _ _ _) mw_X7_set (rv_t tb_15) tm_X0_75 (fun y hy => c_X7_set tb_15 hy) (Nat.le_of_ble_eq_true rfl) (Nat.le_of_ble_eq_true rfl) dX0_addCue_182 (fun r9 h => ?_)
                    refine r_iload C0 dX0_addCue_185 0 rfl ?_
                    cases h
                    exact hz _ _ dX0_addCue_187
                  · refine r_aload_n C0 dX0_addCue_88 rfl 1 rfl ?_
                    refine wcg_8_3 C0 tf_X0_48 dX0_addCue_89 ?_
                    refine r_bipush C0 dX0_addCue_92 kb_11 ?_
                    refine callV1 C0 h (hD _ _ _) mw_X9_refuse rv_2 tm_X0_59 (fun y hy => c_X9_refuse hy) (Nat.le_of_ble_eq_true rfl) (Nat.le_of_ble_eq_true rfl) dX0_addCue_94 (fun r10 h => ?_)
                    cases h
                    exact hz _ _ dX0_addCue_97
                · exact r_sub [0] rfl (w_X0_addCue_j57 C0 hD h hz)
  · refine r_ldc C0 tk_X0_25 dX0_addCue_15 ?_
    cases h
    exact hz _ _ dX0_addCue_17
theorem c_X0_addCue {l : Launch} {D : va_G} {cy : Nat → ClassId} {a : Nat → Nat} {V : VT} {J : JT} {K : Nat → Option Nat} {X : va_W} {v1 : Int32} {v2 : Int32} {v3 : Int32} {v4 : Int32} {y : Int32 × VT} (h : f_X0_addCue v1 v2 v3 v4 V = some y) : CT l D cy yX0_addCue cX0_addCue 6 (some .int) 3 [.ref (a 8), .int v1, .int v2, .int v3, .int v4] (WC cy a V J K X) (WC cy a y.2 J K X) (some (.int y.1)) :=
  mkI (by decide) (Nat.le_of_ble_eq_true rfl) (fun Γ _ _ C0 hD hF => w_X0_addCue C0 (dc_of hD) h hF)
theorem dX3_cueState_0 : decode cX3_cueState 0 = .ok (.aload_n 0, 1) := by decide +kernel
theorem dX3_cueState_1 : decode cX3_cueState 1 = .ok (.getfield 33, 3) := by decide +kernel
theorem dX3_cueState_4 : decode cX3_cueState 4 = .ok (.iload_n 1, 1) := by decide +kernel
theorem dX3_cueState_5 : decode cX3_cueState 5 = .ok (.iconst 4, 1) := by decide +kernel
theorem dX3_cueState_6 : decode cX3_cueState 6 = .ok (.invokevirtual 42, 3) := by decide +kernel
theorem dX3_cueState_9 : decode cX3_cueState 9 = .ok (.ifCond .eq 5, 3) := by decide +kernel
theorem dX3_cueState_12 : decode cX3_cueState 12 = .ok (.iconst 3, 1) := by decide +kernel
theorem dX3_cueState_13 : decode cX3_cueState 13 = .ok (.ireturn, 1) := by decide +kernel
theorem dX3_cueState_14 : decode cX3_cueState 14 = .ok (.aload_n 0, 1) := by decide +kernel
theorem dX3_cueState_15 : decode cX3_cueState 15 = .ok (.getfield 39, 3) := by decide +kernel
theorem dX3_cueState_18 : decode cX3_cueState 18 = .ok (.iconst 0, 1) := by decide +kernel
theorem dX3_cueState_19 : decode cX3_cueState 19 = .ok (.iconst 5, 1) := by decide +kernel
theorem dX3_cueState_20 : decode cX3_cueState 20 = .ok (.invokevirtual 42, 3) := by decide +kernel
theorem dX3_cueState_23 : decode cX3_cueState 23 = .ok (.aload_n 0, 1) := by decide +kernel
theorem dX3_cueState_24 : decode cX3_cueState 24 = .ok (.getfield 33, 3) := by decide +kernel
theorem dX3_cueState_27 : decode cX3_cueState 27 = .ok (.iload_n 1, 1) := by decide +kernel
theorem dX3_cueState_28 : decode cX3_cueState 28 = .ok (.iconst 2, 1) := by decide +kernel
theorem dX3_cueState_29 : decode cX3_cueState 29 = .ok (.invokevirtual 42, 3) := by decide +kernel
theorem dX3_cueState_32 : decode cX3_cueState 32 = .ok (.isub, 1) := by decide +kernel
theorem dX3_cueState_33 : decode cX3_cueState 33 = .ok (.istore_n 2, 1) := by decide +kernel
theorem dX3_cueState_34 : decode cX3_cueState 34 = .ok (.iload_n 2, 1) := by decide +kernel
theorem dX3_cueState_35 : decode cX3_cueState 35 = .ok (.ifCond .ge 5, 3) := by decide +kernel
theorem dX3_cueState_38 : decode cX3_cueState 38 = .ok (.iconst 0, 1) := by decide +kernel
theorem dX3_cueState_39 : decode cX3_cueState 39 = .ok (.ireturn, 1) := by decide +kernel
theorem dX3_cueState_40 : decode cX3_cueState 40 = .ok (.iload_n 2, 1) := by decide +kernel
theorem dX3_cueState_41 : decode cX3_cueState 41 = .ok (.aload_n 0, 1) := by decide +kernel
theorem dX3_cueState_42 : decode cX3_cueState 42 = .ok (.getfield 33, 3) := by decide +kernel
theorem dX3_cueState_45 : decode cX3_cueState 45 = .ok (.iload_n 1, 1) := by decide +kernel
theorem dX3_cueState_46 : decode cX3_cueState 46 = .ok (.iconst 3, 1) := by decide +kernel
theorem dX3_cueState_47 : decode cX3_cueState 47 = .ok (.invokevirtual 42, 3) := by decide +kernel
theorem dX3_cueState_50 : decode cX3_cueState 50 = .ok (.if_icmp .ge 7, 3) := by decide +kernel
theorem dX3_cueState_53 : decode cX3_cueState 53 = .ok (.iconst 1, 1) := by decide +kernel
theorem dX3_cueState_54 : decode cX3_cueState 54 = .ok (.goto 4, 3) := by decide +kernel
theorem dX3_cueState_57 : decode cX3_cueState 57 = .ok (.iconst 2, 1) := by decide +kernel
theorem dX3_cueState_58 : decode cX3_cueState 58 = .ok (.ireturn, 1) := by decide +kernel
theorem w_X3_cueState {z : Int32} {Γ : Gam} {cy : Nat → ClassId} {a : Nat → Nat} {V : VT} {J : JT} {K : Nat → Option Nat} {X : va_W} {v1 : Int32}  (C0 : CXg Γ cX3_cueState 3 1 RX3 cy) (hD : DC Γ cy a X) (h : f_X3_cueState v1 V = some z) (hz : (fun y : Int32 => FinI Γ cX3_cueState (WC cy a V J K X) y) z) : Wp Γ 0 0 0 [(0, .ref (a 3)), (1, .int v1)] [] (WC cy a V J K X) := by
  unfold f_X3_cueState at h
  refine r_aload_n C0 dX3_cueState_0 rfl 0 rfl ?_
  refine wcg_3_5 C0 tf_X3_33 dX3_cueState_1 ?_
  refine r_iload_n C0 dX3_cueState_4 rfl 1 rfl ?_
  refine r_iconst C0 dX3_cueState_5 ki_4 ?_
  refine callV2 C0 h (hD _ _ _) mw_X7_get (rv_t tb_15) tm_X3_42 (fun y hy => c_X7_get tb_15 hy) (Nat.le_of_ble_eq_true rfl) (Nat.le_of_ble_eq_true rfl) dX3_cueState_6 (fun r1 h => ?_)
  refine r_if_eq C0 14 dX3_cueState_9 rfl h (fun _ h => ?_) (fun _ h => ?_)
  · refine r_aload_n C0 dX3_cueState_14 rfl 0 rfl ?_
    refine wcg_3_7 C0 tf_X3_39 dX3_cueState_15 ?_
    refine r_iconst C0 dX3_cueState_18 ki_0 ?_
    refine r_iconst C0 dX3_cueState_19 ki_5 ?_
    refine callV2 C0 h (hD _ _ _) mw_X7_get (rv_t tb_17) tm_X3_42 (fun y hy => c_X7_get tb_17 hy) (Nat.le_of_ble_eq_true rfl) (Nat.le_of_ble_eq_true rfl) dX3_cueState_20 (fun r2 h => ?_)
    refine r_aload_n C0 dX3_cueState_23 rfl 0 rfl ?_
    refine wcg_3_5 C0 tf_X3_33 dX3_cueState_24 ?_
    refine r_iload_n C0 dX3_cueState_27 rfl 1 rfl ?_
    refine r_iconst C0 dX3_cueState_28 ki_2 ?_
    refine callV2 C0 h (hD _ _ _) mw_X7_get (rv_t tb_15) tm_X3_42 (fun y hy => c_X7_get tb_15 hy) (Nat.le_of_ble_eq_true rfl) (Nat.le_of_ble_eq_true rfl) dX3_cueState_29 (fun r3 h => ?_)
    refine r_isub C0 dX3_cueState_32 ?_
    obtain ⟨a4, h8, h⟩ := op_bind h
    have e8 := Option.some.inj h8
    refine r_istore_n (lv2 := [(2, .int a4), (0, .ref (a 3)), (1, .int v1)]) C0 dX3_cueState_33 rfl e8 (Nat.le_of_ble_eq_true rfl) rfl ?_
    refine r_iload_n C0 dX3_cueState_34 rfl 0 rfl ?_
    refine r_if_ge C0 40 dX3_cueState_35 rfl h (fun _ h => ?_) (fun _ h => ?_)
    · refine r_iload_n C0 dX3_cueState_40 rfl 0 rfl ?_
      refine r_aload_n C0 dX3_cueState_41 rfl 1 rfl ?_
      refine wcg_3_5 C0 tf_X3_33 dX3_cueState_42 ?_
      refine r_iload_n C0 dX3_cueState_45 rfl 2 rfl ?_
      refine r_iconst C0 dX3_cueState_46 ki_3 ?_
      refine callV2 C0 h (hD _ _ _) mw_X7_get (rv_t tb_15) tm_X3_42 (fun y hy => c_X7_get tb_15 hy) (Nat.le_of_ble_eq_true rfl) (Nat.le_of_ble_eq_true rfl) dX3_cueState_47 (fun r5 h => ?_)
      refine r_icmp_ge C0 57 dX3_cueState_50 rfl h (fun _ h => ?_) (fun _ h => ?_)
      · refine r_iconst C0 dX3_cueState_57 ki_2 ?_
        cases h
        exact hz _ _ dX3_cueState_58
      · refine r_iconst C0 dX3_cueState_53 ki_1 ?_
        refine r_goto C0 58 dX3_cueState_54 rfl ?_
        cases h
        exact hz _ _ dX3_cueState_58
    · refine r_iconst C0 dX3_cueState_38 ki_0 ?_
      cases h
      exact hz _ _ dX3_cueState_39
  · refine r_iconst C0 dX3_cueState_12 ki_3 ?_
    cases h
    exact hz _ _ dX3_cueState_13
theorem c_X3_cueState {l : Launch} {D : va_G} {cy : Nat → ClassId} {a : Nat → Nat} {V : VT} {J : JT} {K : Nat → Option Nat} {X : va_W} {v1 : Int32} {y : Int32} (h : f_X3_cueState v1 V = some y) : CT l D cy yX3_cueState cX3_cueState 3 (some .int) 1 [.ref (a 3), .int v1] (WC cy a V J K X) (WC cy a V J K X) (some (.int y)) :=
  mkI (by decide) (Nat.le_of_ble_eq_true rfl) (fun Γ _ _ C0 hD hF => w_X3_cueState C0 (dc_of hD) h hF)
theorem dX3_isPendingCue_0 : decode cX3_isPendingCue 0 = .ok (.aload_n 0, 1) := by decide +kernel
theorem dX3_isPendingCue_1 : decode cX3_isPendingCue 1 = .ok (.getfield 33, 3) := by decide +kernel
theorem dX3_isPendingCue_4 : decode cX3_isPendingCue 4 = .ok (.iload_n 1, 1) := by decide +kernel
theorem dX3_isPendingCue_5 : decode cX3_isPendingCue 5 = .ok (.iconst 0, 1) := by decide +kernel
theorem dX3_isPendingCue_6 : decode cX3_isPendingCue 6 = .ok (.invokevirtual 42, 3) := by decide +kernel
theorem dX3_isPendingCue_9 : decode cX3_isPendingCue 9 = .ok (.iload_n 2, 1) := by decide +kernel
theorem dX3_isPendingCue_10 : decode cX3_isPendingCue 10 = .ok (.if_icmp .eq 5, 3) := by decide +kernel
theorem dX3_isPendingCue_13 : decode cX3_isPendingCue 13 = .ok (.iconst 0, 1) := by decide +kernel
theorem dX3_isPendingCue_14 : decode cX3_isPendingCue 14 = .ok (.ireturn, 1) := by decide +kernel
theorem dX3_isPendingCue_15 : decode cX3_isPendingCue 15 = .ok (.aload_n 0, 1) := by decide +kernel
theorem dX3_isPendingCue_16 : decode cX3_isPendingCue 16 = .ok (.iload_n 1, 1) := by decide +kernel
theorem dX3_isPendingCue_17 : decode cX3_isPendingCue 17 = .ok (.invokevirtual 62, 3) := by decide +kernel
theorem dX3_isPendingCue_20 : decode cX3_isPendingCue 20 = .ok (.istore_n 3, 1) := by decide +kernel
theorem dX3_isPendingCue_21 : decode cX3_isPendingCue 21 = .ok (.iload_n 3, 1) := by decide +kernel
theorem dX3_isPendingCue_22 : decode cX3_isPendingCue 22 = .ok (.ifCond .eq 8, 3) := by decide +kernel
theorem dX3_isPendingCue_25 : decode cX3_isPendingCue 25 = .ok (.iload_n 3, 1) := by decide +kernel
theorem dX3_isPendingCue_26 : decode cX3_isPendingCue 26 = .ok (.iconst 1, 1) := by decide +kernel
theorem dX3_isPendingCue_27 : decode cX3_isPendingCue 27 = .ok (.if_icmp .ne 7, 3) := by decide +kernel
theorem dX3_isPendingCue_30 : decode cX3_isPendingCue 30 = .ok (.iconst 1, 1) := by decide +kernel
theorem dX3_isPendingCue_31 : decode cX3_isPendingCue 31 = .ok (.goto 4, 3) := by decide +kernel
theorem dX3_isPendingCue_34 : decode cX3_isPendingCue 34 = .ok (.iconst 0, 1) := by decide +kernel
theorem dX3_isPendingCue_35 : decode cX3_isPendingCue 35 = .ok (.ireturn, 1) := by decide +kernel
theorem w_X3_isPendingCue_j30 {z : (Int32)} {Γ : Gam} {cy : Nat → ClassId} {a : Nat → Nat} {V : VT} {J : JT} {K : Nat → Option Nat} {X : va_W}  (C0 : CXg Γ cX3_isPendingCue 4 2 RX3 cy) (hD : DC Γ cy a X) (h : f_X3_isPendingCue_j30 V = some z) (hz : (fun y : Int32 => FinZ Γ cX3_isPendingCue (WC cy a V J K X) y) z) : Wp Γ 0 0 30 [] [] (WC cy a V J K X) := by
  unfold f_X3_isPendingCue_j30 at h
  refine r_iconst C0 dX3_isPendingCue_30 ki_1 ?_
  refine r_goto C0 35 dX3_isPendingCue_31 rfl ?_
  cases h
  exact hz _ _ nz_1 dX3_isPendingCue_35
theorem w_X3_isPendingCue {z : Int32} {Γ : Gam} {cy : Nat → ClassId} {a : Nat → Nat} {V : VT} {J : JT} {K : Nat → Option Nat} {X : va_W} {v1 : Int32} {v2 : Int32}  (C0 : CXg Γ cX3_isPendingCue 4 2 RX3 cy) (hD : DC Γ cy a X) (h : f_X3_isPendingCue v1 v2 V = some z) (hz : (fun y : Int32 => FinZ Γ cX3_isPendingCue (WC cy a V J K X) y) z) : Wp Γ 0 0 0 [(0, .ref (a 3)), (1, .int v1), (2, .int v2)] [] (WC cy a V J K X) := by
  unfold f_X3_isPendingCue at h
  refine r_aload_n C0 dX3_isPendingCue_0 rfl 0 rfl ?_
  refine wcg_3_5 C0 tf_X3_33 dX3_isPendingCue_1 ?_
  refine r_iload_n C0 dX3_isPendingCue_4 rfl 1 rfl ?_
  refine r_iconst C0 dX3_isPendingCue_5 ki_0 ?_
  refine callV2 C0 h (hD _ _ _) mw_X7_get (rv_t tb_15) tm_X3_42 (fun y hy => c_X7_get tb_15 hy) (Nat.le_of_ble_eq_true rfl) (Nat.le_of_ble_eq_true rfl) dX3_isPendingCue_6 (fun r1 h => ?_)
  refine r_iload_n C0 dX3_isPendingCue_9 rfl 2 rfl ?_
  refine r_icmp_eq C0 15 dX3_isPendingCue_10 rfl h (fun _ h => ?_) (fun _ h => ?_)
  · refine r_aload_n C0 dX3_isPendingCue_15 rfl 0 rfl ?_
    refine r_iload_n C0 dX3_isPendingCue_16 rfl 1 rfl ?_
    refine callV1 C0 h (hD _ _ _) mw_X3_cueState rv_3 tm_X3_62 (fun y hy => c_X3_cueState hy) (Nat.le_of_ble_eq_true rfl) (Nat.le_of_ble_eq_true rfl) dX3_isPendingCue_17 (fun r2 h => ?_)
    refine r_istore_n (lv2 := [(3, .int r2), (0, .ref (a 3)), (1, .int v1), (2, .int v2)]) C0 dX3_isPendingCue_20 rfl rfl (Nat.le_of_ble_eq_true rfl) rfl ?_
    refine r_iload_n C0 dX3_isPendingCue_21 rfl 0 rfl ?_
    refine r_if_eq C0 30 dX3_isPendingCue_22 rfl h (fun _ h => ?_) (fun _ h => ?_)
    · exact r_sub [] rfl (w_X3_isPendingCue_j30 C0 hD h hz)
    · refine r_iload_n C0 dX3_isPendingCue_25 rfl 0 rfl ?_
      refine r_iconst C0 dX3_isPendingCue_26 ki_1 ?_
      refine r_icmp_ne C0 34 dX3_isPendingCue_27 rfl h (fun _ h => ?_) (fun _ h => ?_)
      · refine r_iconst C0 dX3_isPendingCue_34 ki_0 ?_
        cases h
        exact hz _ _ nz_0 dX3_isPendingCue_35
      · exact r_sub [] rfl (w_X3_isPendingCue_j30 C0 hD h hz)
  · refine r_iconst C0 dX3_isPendingCue_13 ki_0 ?_
    cases h
    exact hz _ _ nz_0 dX3_isPendingCue_14
theorem c_X3_isPendingCue {l : Launch} {D : va_G} {cy : Nat → ClassId} {a : Nat → Nat} {V : VT} {J : JT} {K : Nat → Option Nat} {X : va_W} {v1 : Int32} {v2 : Int32} {y : Int32} (h : f_X3_isPendingCue v1 v2 V = some y) : CT l D cy yX3_isPendingCue cX3_isPendingCue 4 (some .boolean) 2 [.ref (a 3), .int v1, .int v2] (WC cy a V J K X) (WC cy a V J K X) (some (.int y)) :=
  mkZ (by decide) (Nat.le_of_ble_eq_true rfl) (fun Γ _ _ C0 hD hF => w_X3_isPendingCue C0 (dc_of hD) h hF)
theorem dX0_hushBar_0 : decode cX0_hushBar 0 = .ok (.aload_n 0, 1) := by decide +kernel
theorem dX0_hushBar_1 : decode cX0_hushBar 1 = .ok (.getfield 48, 3) := by decide +kernel
theorem dX0_hushBar_4 : decode cX0_hushBar 4 = .ok (.aload_n 0, 1) := by decide +kernel
theorem dX0_hushBar_5 : decode cX0_hushBar 5 = .ok (.getfield 36, 3) := by decide +kernel
theorem dX0_hushBar_8 : decode cX0_hushBar 8 = .ok (.iload_n 1, 1) := by decide +kernel
theorem dX0_hushBar_9 : decode cX0_hushBar 9 = .ok (.invokevirtual 52, 3) := by decide +kernel
theorem dX0_hushBar_12 : decode cX0_hushBar 12 = .ok (.ifCond .eq 6, 3) := by decide +kernel
theorem dX0_hushBar_15 : decode cX0_hushBar 15 = .ok (.ldc 25, 2) := by decide +kernel
theorem dX0_hushBar_17 : decode cX0_hushBar 17 = .ok (.ireturn, 1) := by decide +kernel
theorem dX0_hushBar_18 : decode cX0_hushBar 18 = .ok (.iconst 0, 1) := by decide +kernel
theorem dX0_hushBar_19 : decode cX0_hushBar 19 = .ok (.istore_n 2, 1) := by decide +kernel
theorem dX0_hushBar_20 : decode cX0_hushBar 20 = .ok (.aload_n 0, 1) := by decide +kernel
theorem dX0_hushBar_21 : decode cX0_hushBar 21 = .ok (.getfield 36, 3) := by decide +kernel
theorem dX0_hushBar_24 : decode cX0_hushBar 24 = .ok (.getfield 63, 3) := by decide +kernel
theorem dX0_hushBar_27 : decode cX0_hushBar 27 = .ok (.iconst 0, 1) := by decide +kernel
theorem dX0_hushBar_28 : decode cX0_hushBar 28 = .ok (.iconst 2, 1) := by decide +kernel
theorem dX0_hushBar_29 : decode cX0_hushBar 29 = .ok (.invokevirtual 69, 3) := by decide +kernel
theorem dX0_hushBar_32 : decode cX0_hushBar 32 = .ok (.istore_n 3, 1) := by decide +kernel
theorem dX0_hushBar_33 : decode cX0_hushBar 33 = .ok (.iconst 0, 1) := by decide +kernel
theorem dX0_hushBar_34 : decode cX0_hushBar 34 = .ok (.istore 4, 2) := by decide +kernel
theorem dX0_hushBar_36 : decode cX0_hushBar 36 = .ok (.iload 4, 2) := by decide +kernel
theorem dX0_hushBar_38 : decode cX0_hushBar 38 = .ok (.iload_n 3, 1) := by decide +kernel
theorem dX0_hushBar_39 : decode cX0_hushBar 39 = .ok (.if_icmp .ge 39, 3) := by decide +kernel
theorem dX0_hushBar_42 : decode cX0_hushBar 42 = .ok (.aload_n 0, 1) := by decide +kernel
theorem dX0_hushBar_43 : decode cX0_hushBar 43 = .ok (.getfield 36, 3) := by decide +kernel
theorem dX0_hushBar_46 : decode cX0_hushBar 46 = .ok (.iload 4, 2) := by decide +kernel
theorem dX0_hushBar_48 : decode cX0_hushBar 48 = .ok (.iload_n 1, 1) := by decide +kernel
theorem dX0_hushBar_49 : decode cX0_hushBar 49 = .ok (.invokevirtual 82, 3) := by decide +kernel
theorem dX0_hushBar_52 : decode cX0_hushBar 52 = .ok (.ifCond .eq 20, 3) := by decide +kernel
theorem dX0_hushBar_55 : decode cX0_hushBar 55 = .ok (.aload_n 0, 1) := by decide +kernel
theorem dX0_hushBar_56 : decode cX0_hushBar 56 = .ok (.getfield 36, 3) := by decide +kernel
theorem dX0_hushBar_59 : decode cX0_hushBar 59 = .ok (.getfield 79, 3) := by decide +kernel
theorem dX0_hushBar_62 : decode cX0_hushBar 62 = .ok (.iload 4, 2) := by decide +kernel
theorem dX0_hushBar_64 : decode cX0_hushBar 64 = .ok (.iconst 4, 1) := by decide +kernel
theorem dX0_hushBar_65 : decode cX0_hushBar 65 = .ok (.iconst 1, 1) := by decide +kernel
theorem dX0_hushBar_66 : decode cX0_hushBar 66 = .ok (.invokevirtual 75, 3) := by decide +kernel
theorem dX0_hushBar_69 : decode cX0_hushBar 69 = .ok (.iinc 2 1, 3) := by decide +kernel
theorem dX0_hushBar_72 : decode cX0_hushBar 72 = .ok (.iinc 4 1, 3) := by decide +kernel
theorem dX0_hushBar_75 : decode cX0_hushBar 75 = .ok (.goto (-39), 3) := by decide +kernel
theorem dX0_hushBar_78 : decode cX0_hushBar 78 = .ok (.iload_n 2, 1) := by decide +kernel
theorem dX0_hushBar_79 : decode cX0_hushBar 79 = .ok (.ireturn, 1) := by decide +kernel
theorem w_X0_hushBar_j72 {z : ((Int32 × Int32 × VT) ⊕ (Int32 × VT))} {Γ : Gam} {cy : Nat → ClassId} {a : Nat → Nat} {V : VT} {J : JT} {K : Nat → Option Nat} {X : va_W} {v1 : Int32} {v2 : Int32} {v3 : Int32} {v4 : Int32}  (C0 : CXg Γ cX0_hushBar 5 3 RX0 cy) (hD : DC Γ cy a X) (h : f_X0_hushBar_j72 v1 v2 v3 v4 V = some z) (hz : (Sum.elim (fun x : Int32 × Int32 × VT => Wp Γ 0 0 36 [(0, .ref (a 8)), (1, .int v1), (2, .int x.1), (3, .int v3), (4, .int x.2.1)] [] (WC cy a x.2.2 J K X)) (fun y : Int32 × VT => FinI Γ cX0_hushBar (WC cy a y.2 J K X) y.1)) z) : Wp Γ 0 0 72 [(0, .ref (a 8)), (1, .int v1), (2, .int v2), (3, .int v3), (4, .int v4)] [] (WC cy a V J K X) := by
  unfold f_X0_hushBar_j72 at h
  obtain ⟨a7, h8, h⟩ := op_bind h
  have e8 := Option.some.inj h8
  refine r_iinc (lv2 := [(4, .int a7), (0, .ref (a 8)), (1, .int v1), (2, .int v2), (3, .int v3)]) C0 dX0_hushBar_72 4 rfl ki_1 e8 (Nat.le_of_ble_eq_true rfl) rfl ?_
  refine r_goto C0 36 dX0_hushBar_75 rfl ?_
  cases h
  have hz := el_inl hz
  exact r_sub [1, 2, 3, 4, 0] rfl hz
theorem w_X0_hushBar_B36 {x : Int32 × Int32 × VT} {z : ((Int32 × Int32 × VT) ⊕ (Int32 × VT))} {Γ : Gam} {cy : Nat → ClassId} {a : Nat → Nat} {J : JT} {K : Nat → Option Nat} {X : va_W} {v1 : Int32} {v3 : Int32}  (C0 : CXg Γ cX0_hushBar 5 3 RX0 cy) (hD : DC Γ cy a X) (h : f_X0_hushBar_B36 v1 v3 x = some z) (hz : (Sum.elim (fun x : Int32 × Int32 × VT => Wp Γ 0 0 36 [(0, .ref (a 8)), (1, .int v1), (2, .int x.1), (3, .int v3), (4, .int x.2.1)] [] (WC cy a x.2.2 J K X)) (fun y : Int32 × VT => FinI Γ cX0_hushBar (WC cy a y.2 J K X) y.1)) z) : Wp Γ 0 0 36 [(0, .ref (a 8)), (1, .int v1), (2, .int x.1), (3, .int v3), (4, .int x.2.1)] [] (WC cy a x.2.2 J K X) := by
  unfold f_X0_hushBar_B36 at h
  refine r_iload C0 dX0_hushBar_36 4 rfl ?_
  refine r_iload_n C0 dX0_hushBar_38 rfl 3 rfl ?_
  refine r_icmp_ge C0 78 dX0_hushBar_39 rfl h (fun _ h => ?_) (fun _ h => ?_)
  · obtain ⟨y5, h5, h9⟩ := op_bind h
    clear h
    cases h9
    have hz := (el_inr hz)
    have h := h5
    refine r_iload_n C0 dX0_hushBar_78 rfl 2 rfl ?_
    cases h
    exact hz _ _ dX0_hushBar_79
  · refine r_aload_n C0 dX0_hushBar_42 rfl 0 rfl ?_
    refine wcg_8_0 C0 tf_X0_36 dX0_hushBar_43 ?_
    refine r_iload C0 dX0_hushBar_46 4 rfl ?_
    refine r_iload_n C0 dX0_hushBar_48 rfl 1 rfl ?_
    refine callV2 C0 h (hD _ _ _) mw_X3_isPendingCue rv_3 tm_X0_82 (fun y hy => c_X3_isPendingCue hy) (Nat.le_of_ble_eq_true rfl) (Nat.le_of_ble_eq_true rfl) dX0_hushBar_49 (fun r6 h => ?_)
    refine r_if_eq C0 72 dX0_hushBar_52 rfl h (fun _ h => ?_) (fun _ h => ?_)
    · exact r_sub [0, 1, 2, 3, 4] rfl (w_X0_hushBar_j72 C0 hD h hz)
    · refine r_aload_n C0 dX0_hushBar_55 rfl 0 rfl ?_
      refine wcg_8_0 C0 tf_X0_36 dX0_hushBar_56 ?_
      refine wcg_3_5 C0 tf_X0_79 dX0_hushBar_59 ?_
      refine r_iload C0 dX0_hushBar_62 4 rfl ?_
      refine r_iconst C0 dX0_hushBar_64 ki_4 ?_
      refine r_iconst C0 dX0_hushBar_65 ki_1 ?_
      refine callVv3 C0 h (hD _ _ _) mw_X7_set (rv_t tb_15) tm_X0_75 (fun y hy => c_X7_set tb_15 hy) (Nat.le_of_ble_eq_true rfl) (Nat.le_of_ble_eq_true rfl) dX0_hushBar_66 (fun r8 h => ?_)
      obtain ⟨a9, h8, h⟩ := op_bind h
      have e8 := Option.some.inj h8
      refine r_iinc (lv2 := [(2, .int a9), (0, .ref (a 8)), (1, .int v1), (3, .int v3), (4, .int x.2.1)]) C0 dX0_hushBar_69 2 rfl ki_1 e8 (Nat.le_of_ble_eq_true rfl) rfl ?_
      exact r_sub [1, 2, 0, 3, 4] rfl (w_X0_hushBar_j72 C0 hD h hz)
theorem w_X0_hushBar_B36_lp {x : Int32 × Int32 × VT} {z : (Int32 × VT)} {Γ : Gam} {cy : Nat → ClassId} {a : Nat → Nat} {J : JT} {K : Nat → Option Nat} {X : va_W} {v1 : Int32} {v3 : Int32}  (C0 : CXg Γ cX0_hushBar 5 3 RX0 cy) (hD : DC Γ cy a X) (h : lp (f_X0_hushBar_B36 v1 v3) fuel x = some z) (hz : (fun y : Int32 × VT => FinI Γ cX0_hushBar (WC cy a y.2 J K X) y.1) z) : Wp Γ 0 0 36 [(0, .ref (a 8)), (1, .int v1), (2, .int x.1), (3, .int v3), (4, .int x.2.1)] [] (WC cy a x.2.2 J K X) :=
  lp_rule (hd := (fun x : Int32 × Int32 × VT => Wp Γ 0 0 36 [(0, .ref (a 8)), (1, .int v1), (2, .int x.1), (3, .int v3), (4, .int x.2.1)] [] (WC cy a x.2.2 J K X))) (C := (fun y : Int32 × VT => FinI Γ cX0_hushBar (WC cy a y.2 J K X) y.1)) (fun x z h hz => w_X0_hushBar_B36 C0 hD h hz) _ _ _ h hz
theorem w_X0_hushBar {z : Int32 × VT} {Γ : Gam} {cy : Nat → ClassId} {a : Nat → Nat} {V : VT} {J : JT} {K : Nat → Option Nat} {X : va_W} {v1 : Int32}  (C0 : CXg Γ cX0_hushBar 5 3 RX0 cy) (hD : DC Γ cy a X) (h : f_X0_hushBar v1 V = some z) (hz : (fun y : Int32 × VT => FinI Γ cX0_hushBar (WC cy a y.2 J K X) y.1) z) : Wp Γ 0 0 0 [(0, .ref (a 8)), (1, .int v1)] [] (WC cy a V J K X) := by
  unfold f_X0_hushBar at h
  refine r_aload_n C0 dX0_hushBar_0 rfl 0 rfl ?_
  refine wcg_8_3 C0 tf_X0_48 dX0_hushBar_1 ?_
  refine r_aload_n C0 dX0_hushBar_4 rfl 0 rfl ?_
  refine wcg_8_0 C0 tf_X0_36 dX0_hushBar_5 ?_
  refine r_iload_n C0 dX0_hushBar_8 rfl 1 rfl ?_
  refine callV2 C0 h (hD _ _ _) mw_X9_refusesBar rv_2 tm_X0_52 (fun y hy => c_X9_refusesBar hy) (Nat.le_of_ble_eq_true rfl) (Nat.le_of_ble_eq_true rfl) dX0_hushBar_9 (fun r1 h => ?_)
  refine r_if_eq C0 18 dX0_hushBar_12 rfl h (fun _ h => ?_) (fun _ h => ?_)
  · refine r_iconst C0 dX0_hushBar_18 ki_0 ?_
    obtain ⟨a2, h8, h⟩ := op_bind h
    have e8 := Option.some.inj h8
    refine r_istore_n (lv2 := [(2, .int a2), (0, .ref (a 8)), (1, .int v1)]) C0 dX0_hushBar_19 rfl e8 (Nat.le_of_ble_eq_true rfl) rfl ?_
    refine r_aload_n C0 dX0_hushBar_20 rfl 1 rfl ?_
    refine wcg_8_0 C0 tf_X0_36 dX0_hushBar_21 ?_
    refine wcg_3_7 C0 tf_X0_63 dX0_hushBar_24 ?_
    refine r_iconst C0 dX0_hushBar_27 ki_0 ?_
    refine r_iconst C0 dX0_hushBar_28 ki_2 ?_
    refine callV2 C0 h (hD _ _ _) mw_X7_get (rv_t tb_17) tm_X0_69 (fun y hy => c_X7_get tb_17 hy) (Nat.le_of_ble_eq_true rfl) (Nat.le_of_ble_eq_true rfl) dX0_hushBar_29 (fun r3 h => ?_)
    refine r_istore_n (lv2 := [(3, .int r3), (2, .int a2), (0, .ref (a 8)), (1, .int v1)]) C0 dX0_hushBar_32 rfl rfl (Nat.le_of_ble_eq_true rfl) rfl ?_
    refine r_iconst C0 dX0_hushBar_33 ki_0 ?_
    obtain ⟨a4, h8, h⟩ := op_bind h
    have e8 := Option.some.inj h8
    refine r_istore (lv2 := [(4, .int a4), (3, .int r3), (2, .int a2), (0, .ref (a 8)), (1, .int v1)]) C0 dX0_hushBar_34 e8 (Nat.le_of_ble_eq_true rfl) rfl ?_
    exact r_sub [3, 4, 2, 1, 0] rfl (w_X0_hushBar_B36_lp C0 hD h hz)
  · refine r_ldc C0 tk_X0_25 dX0_hushBar_15 ?_
    cases h
    exact hz _ _ dX0_hushBar_17
theorem c_X0_hushBar {l : Launch} {D : va_G} {cy : Nat → ClassId} {a : Nat → Nat} {V : VT} {J : JT} {K : Nat → Option Nat} {X : va_W} {v1 : Int32} {y : Int32 × VT} (h : f_X0_hushBar v1 V = some y) : CT l D cy yX0_hushBar cX0_hushBar 5 (some .int) 3 [.ref (a 8), .int v1] (WC cy a V J K X) (WC cy a y.2 J K X) (some (.int y.1)) :=
  mkI (by decide) (Nat.le_of_ble_eq_true rfl) (fun Γ _ _ C0 hD hF => w_X0_hushBar C0 (dc_of hD) h hF)
theorem dX10_burden_0 : decode cX10_burden 0 = .ok (.aload_n 0, 1) := by decide +kernel
theorem dX10_burden_1 : decode cX10_burden 1 = .ok (.getfield 19, 3) := by decide +kernel
theorem dX10_burden_4 : decode cX10_burden 4 = .ok (.getfield 23, 3) := by decide +kernel
theorem dX10_burden_7 : decode cX10_burden 7 = .ok (.iload_n 1, 1) := by decide +kernel
theorem dX10_burden_8 : decode cX10_burden 8 = .ok (.iconst 3, 1) := by decide +kernel
theorem dX10_burden_9 : decode cX10_burden 9 = .ok (.invokevirtual 29, 3) := by decide +kernel
theorem dX10_burden_12 : decode cX10_burden 12 = .ok (.i2f, 1) := by decide +kernel
theorem dX10_burden_13 : decode cX10_burden 13 = .ok (.ldc 35, 2) := by decide +kernel
theorem dX10_burden_15 : decode cX10_burden 15 = .ok (.fmul, 1) := by decide +kernel
theorem dX10_burden_16 : decode cX10_burden 16 = .ok (.fstore_n 2, 1) := by decide +kernel
theorem dX10_burden_17 : decode cX10_burden 17 = .ok (.aload_n 0, 1) := by decide +kernel
theorem dX10_burden_18 : decode cX10_burden 18 = .ok (.getfield 19, 3) := by decide +kernel
theorem dX10_burden_21 : decode cX10_burden 21 = .ok (.getfield 23, 3) := by decide +kernel
theorem dX10_burden_24 : decode cX10_burden 24 = .ok (.iload_n 1, 1) := by decide +kernel
theorem dX10_burden_25 : decode cX10_burden 25 = .ok (.iconst 0, 1) := by decide +kernel
theorem dX10_burden_26 : decode cX10_burden 26 = .ok (.invokevirtual 29, 3) := by decide +kernel
theorem dX10_burden_29 : decode cX10_burden 29 = .ok (.iconst 4, 1) := by decide +kernel
theorem dX10_burden_30 : decode cX10_burden 30 = .ok (.if_icmp .ne 10, 3) := by decide +kernel
theorem dX10_burden_33 : decode cX10_burden 33 = .ok (.fload_n 2, 1) := by decide +kernel
theorem dX10_burden_34 : decode cX10_burden 34 = .ok (.ldc 36, 2) := by decide +kernel
theorem dX10_burden_36 : decode cX10_burden 36 = .ok (.fmul, 1) := by decide +kernel
theorem dX10_burden_37 : decode cX10_burden 37 = .ok (.goto 4, 3) := by decide +kernel
theorem dX10_burden_40 : decode cX10_burden 40 = .ok (.fload_n 2, 1) := by decide +kernel
theorem dX10_burden_41 : decode cX10_burden 41 = .ok (.freturn, 1) := by decide +kernel
theorem w_X10_burden {z : UInt32} {Γ : Gam} {cy : Nat → ClassId} {a : Nat → Nat} {V : VT} {J : JT} {K : Nat → Option Nat} {X : va_W} {v1 : Int32}  (C0 : CXg Γ cX10_burden 3 1 RX10 cy) (hD : DC Γ cy a X) (h : f_X10_burden v1 V = some z) (hz : (fun y : UInt32 => FinF Γ cX10_burden (WC cy a V J K X) y) z) : Wp Γ 0 0 0 [(0, .ref (a 4)), (1, .int v1)] [] (WC cy a V J K X) := by
  unfold f_X10_burden at h
  refine r_aload_n C0 dX10_burden_0 rfl 0 rfl ?_
  refine wcg_4_0 C0 tf_X10_19 dX10_burden_1 ?_
  refine wcg_3_3 C0 tf_X10_23 dX10_burden_4 ?_
  refine r_iload_n C0 dX10_burden_7 rfl 1 rfl ?_
  refine r_iconst C0 dX10_burden_8 ki_3 ?_
  refine callV2 C0 h (hD _ _ _) mw_X7_get (rv_t tb_13) tm_X10_29 (fun y hy => c_X7_get tb_13 hy) (Nat.le_of_ble_eq_true rfl) (Nat.le_of_ble_eq_true rfl) dX10_burden_9 (fun r1 h => ?_)
  refine r_i2f C0 dX10_burden_12 ?_
  refine r_ldcf C0 tk_X10_35 dX10_burden_13 ?_
  refine r_fmul C0 dX10_burden_15 h (fun w2 h => ?_)
  refine r_fstore_n (lv2 := [(2, .float w2), (0, .ref (a 4)), (1, .int v1)]) C0 dX10_burden_16 rfl rfl (Nat.le_of_ble_eq_true rfl) rfl ?_
  refine r_aload_n C0 dX10_burden_17 rfl 1 rfl ?_
  refine wcg_4_0 C0 tf_X10_19 dX10_burden_18 ?_
  refine wcg_3_3 C0 tf_X10_23 dX10_burden_21 ?_
  refine r_iload_n C0 dX10_burden_24 rfl 2 rfl ?_
  refine r_iconst C0 dX10_burden_25 ki_0 ?_
  refine callV2 C0 h (hD _ _ _) mw_X7_get (rv_t tb_13) tm_X10_29 (fun y hy => c_X7_get tb_13 hy) (Nat.le_of_ble_eq_true rfl) (Nat.le_of_ble_eq_true rfl) dX10_burden_26 (fun r3 h => ?_)
  refine r_iconst C0 dX10_burden_29 ki_4 ?_
  refine r_icmp_ne C0 40 dX10_burden_30 rfl h (fun _ h => ?_) (fun _ h => ?_)
  · refine r_fload_n C0 dX10_burden_40 rfl 0 rfl ?_
    cases h
    exact hz _ _ dX10_burden_41
  · refine r_fload_n C0 dX10_burden_33 rfl 0 rfl ?_
    refine r_ldcf C0 tk_X10_36 dX10_burden_34 ?_
    refine r_fmul C0 dX10_burden_36 h (fun w4 h => ?_)
    refine r_goto C0 41 dX10_burden_37 rfl ?_
    cases h
    exact hz _ _ dX10_burden_41
theorem c_X10_burden {l : Launch} {D : va_G} {cy : Nat → ClassId} {a : Nat → Nat} {V : VT} {J : JT} {K : Nat → Option Nat} {X : va_W} {v1 : Int32} {y : UInt32} (h : f_X10_burden v1 V = some y) : CT l D cy yX10_burden cX10_burden 3 (some .float) 1 [.ref (a 4), .int v1] (WC cy a V J K X) (WC cy a V J K X) (some (.float y)) :=
  mkF (by decide) (Nat.le_of_ble_eq_true rfl) (fun Γ _ _ C0 hD hF => w_X10_burden C0 (dc_of hD) h hF)
theorem dX3_thingIn_0 : decode cX3_thingIn 0 = .ok (.aload_n 0, 1) := by decide +kernel
theorem dX3_thingIn_1 : decode cX3_thingIn 1 = .ok (.getfield 21, 3) := by decide +kernel
theorem dX3_thingIn_4 : decode cX3_thingIn 4 = .ok (.iload_n 1, 1) := by decide +kernel
theorem dX3_thingIn_5 : decode cX3_thingIn 5 = .ok (.iload_n 2, 1) := by decide +kernel
theorem dX3_thingIn_6 : decode cX3_thingIn 6 = .ok (.invokevirtual 42, 3) := by decide +kernel
theorem dX3_thingIn_9 : decode cX3_thingIn 9 = .ok (.iconst 2, 1) := by decide +kernel
theorem dX3_thingIn_10 : decode cX3_thingIn 10 = .ok (.isub, 1) := by decide +kernel
theorem dX3_thingIn_11 : decode cX3_thingIn 11 = .ok (.ireturn, 1) := by decide +kernel
theorem w_X3_thingIn {z : Int32} {Γ : Gam} {cy : Nat → ClassId} {a : Nat → Nat} {V : VT} {J : JT} {K : Nat → Option Nat} {X : va_W} {v1 : Int32} {v2 : Int32}  (C0 : CXg Γ cX3_thingIn 3 1 RX3 cy) (hD : DC Γ cy a X) (h : f_X3_thingIn v1 v2 V = some z) (hz : (fun y : Int32 => FinI Γ cX3_thingIn (WC cy a V J K X) y) z) : Wp Γ 0 0 0 [(0, .ref (a 3)), (1, .int v1), (2, .int v2)] [] (WC cy a V J K X) := by
  unfold f_X3_thingIn at h
  refine r_aload_n C0 dX3_thingIn_0 rfl 0 rfl ?_
  refine wcg_3_1 C0 tf_X3_21 dX3_thingIn_1 ?_
  refine r_iload_n C0 dX3_thingIn_4 rfl 1 rfl ?_
  refine r_iload_n C0 dX3_thingIn_5 rfl 2 rfl ?_
  refine callV2 C0 h (hD _ _ _) mw_X7_get (rv_t tb_11) tm_X3_42 (fun y hy => c_X7_get tb_11 hy) (Nat.le_of_ble_eq_true rfl) (Nat.le_of_ble_eq_true rfl) dX3_thingIn_6 (fun r1 h => ?_)
  refine r_iconst C0 dX3_thingIn_9 ki_2 ?_
  refine r_isub C0 dX3_thingIn_10 ?_
  cases h
  exact hz _ _ dX3_thingIn_11
theorem c_X3_thingIn {l : Launch} {D : va_G} {cy : Nat → ClassId} {a : Nat → Nat} {V : VT} {J : JT} {K : Nat → Option Nat} {X : va_W} {v1 : Int32} {v2 : Int32} {y : Int32} (h : f_X3_thingIn v1 v2 V = some y) : CT l D cy yX3_thingIn cX3_thingIn 3 (some .int) 1 [.ref (a 3), .int v1, .int v2] (WC cy a V J K X) (WC cy a V J K X) (some (.int y)) :=
  mkI (by decide) (Nat.le_of_ble_eq_true rfl) (fun Γ _ _ C0 hD hF => w_X3_thingIn C0 (dc_of hD) h hF)
theorem dX10_burdens_0 : decode cX10_burdens 0 = .ok (.fconst 0, 1) := by decide +kernel
theorem dX10_burdens_1 : decode cX10_burdens 1 = .ok (.fstore_n 2, 1) := by decide +kernel
theorem dX10_burdens_2 : decode cX10_burdens 2 = .ok (.iconst 0, 1) := by decide +kernel
theorem dX10_burdens_3 : decode cX10_burdens 3 = .ok (.istore_n 3, 1) := by decide +kernel
theorem dX10_burdens_4 : decode cX10_burdens 4 = .ok (.iload_n 3, 1) := by decide +kernel
theorem dX10_burdens_5 : decode cX10_burdens 5 = .ok (.bipush 16, 2) := by decide +kernel
theorem dX10_burdens_7 : decode cX10_burdens 7 = .ok (.if_icmp .ge 34, 3) := by decide +kernel
theorem dX10_burdens_10 : decode cX10_burdens 10 = .ok (.aload_n 0, 1) := by decide +kernel
theorem dX10_burdens_11 : decode cX10_burdens 11 = .ok (.getfield 19, 3) := by decide +kernel
theorem dX10_burdens_14 : decode cX10_burdens 14 = .ok (.iload_n 1, 1) := by decide +kernel
theorem dX10_burdens_15 : decode cX10_burdens 15 = .ok (.iload_n 3, 1) := by decide +kernel
theorem dX10_burdens_16 : decode cX10_burdens 16 = .ok (.invokevirtual 37, 3) := by decide +kernel
theorem dX10_burdens_19 : decode cX10_burdens 19 = .ok (.istore 4, 2) := by decide +kernel
theorem dX10_burdens_21 : decode cX10_burdens 21 = .ok (.iload 4, 2) := by decide +kernel
theorem dX10_burdens_23 : decode cX10_burdens 23 = .ok (.ifCond .lt 12, 3) := by decide +kernel
theorem dX10_burdens_26 : decode cX10_burdens 26 = .ok (.fload_n 2, 1) := by decide +kernel
theorem dX10_burdens_27 : decode cX10_burdens 27 = .ok (.aload_n 0, 1) := by decide +kernel
theorem dX10_burdens_28 : decode cX10_burdens 28 = .ok (.iload 4, 2) := by decide +kernel
theorem dX10_burdens_30 : decode cX10_burdens 30 = .ok (.invokevirtual 40, 3) := by decide +kernel
theorem dX10_burdens_33 : decode cX10_burdens 33 = .ok (.fadd, 1) := by decide +kernel
theorem dX10_burdens_34 : decode cX10_burdens 34 = .ok (.fstore_n 2, 1) := by decide +kernel
theorem dX10_burdens_35 : decode cX10_burdens 35 = .ok (.iinc 3 1, 3) := by decide +kernel
theorem dX10_burdens_38 : decode cX10_burdens 38 = .ok (.goto (-34), 3) := by decide +kernel
theorem dX10_burdens_41 : decode cX10_burdens 41 = .ok (.fload_n 2, 1) := by decide +kernel
theorem dX10_burdens_42 : decode cX10_burdens 42 = .ok (.freturn, 1) := by decide +kernel
theorem w_X10_burdens_j35 {z : ((UInt32 × Int32) ⊕ (UInt32))} {Γ : Gam} {cy : Nat → ClassId} {a : Nat → Nat} {V : VT} {J : JT} {K : Nat → Option Nat} {X : va_W} {v1 : Int32} {v2 : UInt32} {v3 : Int32}  (C0 : CXg Γ cX10_burdens 5 2 RX10 cy) (hD : DC Γ cy a X) (h : f_X10_burdens_j35 v1 v2 v3 V = some z) (hz : (Sum.elim (fun x : UInt32 × Int32 => Wp Γ 0 0 4 [(0, .ref (a 4)), (1, .int v1), (2, .float x.1), (3, .int x.2)] [] (WC cy a V J K X)) (fun y : UInt32 => FinF Γ cX10_burdens (WC cy a V J K X) y)) z) : Wp Γ 0 0 35 [(0, .ref (a 4)), (1, .int v1), (2, .float v2), (3, .int v3)] [] (WC cy a V J K X) := by
  unfold f_X10_burdens_j35 at h
  obtain ⟨a5, h8, h⟩ := op_bind h
  have e8 := Option.some.inj h8
  refine r_iinc (lv2 := [(3, .int a5), (0, .ref (a 4)), (1, .int v1), (2, .float v2)]) C0 dX10_burdens_35 3 rfl ki_1 e8 (Nat.le_of_ble_eq_true rfl) rfl ?_
  refine r_goto C0 4 dX10_burdens_38 rfl ?_
  cases h
  have hz := el_inl hz
  exact r_sub [1, 2, 3, 0] rfl hz
theorem w_X10_burdens_B4 {x : UInt32 × Int32} {z : ((UInt32 × Int32) ⊕ (UInt32))} {Γ : Gam} {cy : Nat → ClassId} {a : Nat → Nat} {V : VT} {J : JT} {K : Nat → Option Nat} {X : va_W} {v1 : Int32}  (C0 : CXg Γ cX10_burdens 5 2 RX10 cy) (hD : DC Γ cy a X) (h : f_X10_burdens_B4 v1 V x = some z) (hz : (Sum.elim (fun x : UInt32 × Int32 => Wp Γ 0 0 4 [(0, .ref (a 4)), (1, .int v1), (2, .float x.1), (3, .int x.2)] [] (WC cy a V J K X)) (fun y : UInt32 => FinF Γ cX10_burdens (WC cy a V J K X) y)) z) : Wp Γ 0 0 4 [(0, .ref (a 4)), (1, .int v1), (2, .float x.1), (3, .int x.2)] [] (WC cy a V J K X) := by
  unfold f_X10_burdens_B4 at h
  refine r_iload_n C0 dX10_burdens_4 rfl 3 rfl ?_
  refine r_bipush C0 dX10_burdens_5 kb_16 ?_
  refine r_icmp_ge C0 41 dX10_burdens_7 rfl h (fun _ h => ?_) (fun _ h => ?_)
  · obtain ⟨y3, h5, h9⟩ := op_bind h
    clear h
    cases h9
    have hz := (el_inr hz)
    have h := h5
    refine r_fload_n C0 dX10_burdens_41 rfl 2 rfl ?_
    cases h
    exact hz _ _ dX10_burdens_42
  · refine r_aload_n C0 dX10_burdens_10 rfl 0 rfl ?_
    refine wcg_4_0 C0 tf_X10_19 dX10_burdens_11 ?_
    refine r_iload_n C0 dX10_burdens_14 rfl 1 rfl ?_
    refine r_iload_n C0 dX10_burdens_15 rfl 3 rfl ?_
    refine callV2 C0 h (hD _ _ _) mw_X3_thingIn rv_3 tm_X10_37 (fun y hy => c_X3_thingIn hy) (Nat.le_of_ble_eq_true rfl) (Nat.le_of_ble_eq_true rfl) dX10_burdens_16 (fun r4 h => ?_)
    refine r_istore (lv2 := [(4, .int r4), (0, .ref (a 4)), (1, .int v1), (2, .float x.1), (3, .int x.2)]) C0 dX10_burdens_19 rfl (Nat.le_of_ble_eq_true rfl) rfl ?_
    refine r_iload C0 dX10_burdens_21 0 rfl ?_
    refine r_if_lt C0 35 dX10_burdens_23 rfl h (fun _ h => ?_) (fun _ h => ?_)
    · exact r_sub [1, 2, 3, 4] rfl (w_X10_burdens_j35 C0 hD h hz)
    · refine r_fload_n C0 dX10_burdens_26 rfl 3 rfl ?_
      refine r_aload_n C0 dX10_burdens_27 rfl 1 rfl ?_
      refine r_iload C0 dX10_burdens_28 0 rfl ?_
      refine callV1 C0 h (hD _ _ _) mw_X10_burden rv_4 tm_X10_40 (fun y hy => c_X10_burden hy) (Nat.le_of_ble_eq_true rfl) (Nat.le_of_ble_eq_true rfl) dX10_burdens_30 (fun r6 h => ?_)
      refine r_fadd C0 dX10_burdens_33 h (fun w7 h => ?_)
      refine r_fstore_n (lv2 := [(2, .float w7), (4, .int r4), (0, .ref (a 4)), (1, .int v1), (3, .int x.2)]) C0 dX10_burdens_34 rfl rfl (Nat.le_of_ble_eq_true rfl) rfl ?_
      exact r_sub [2, 3, 0, 4] rfl (w_X10_burdens_j35 C0 hD h hz)
theorem w_X10_burdens_B4_lp {x : UInt32 × Int32} {z : (UInt32)} {Γ : Gam} {cy : Nat → ClassId} {a : Nat → Nat} {V : VT} {J : JT} {K : Nat → Option Nat} {X : va_W} {v1 : Int32}  (C0 : CXg Γ cX10_burdens 5 2 RX10 cy) (hD : DC Γ cy a X) (h : lp (f_X10_burdens_B4 v1 V) fuel x = some z) (hz : (fun y : UInt32 => FinF Γ cX10_burdens (WC cy a V J K X) y) z) : Wp Γ 0 0 4 [(0, .ref (a 4)), (1, .int v1), (2, .float x.1), (3, .int x.2)] [] (WC cy a V J K X) :=
  lp_rule (hd := (fun x : UInt32 × Int32 => Wp Γ 0 0 4 [(0, .ref (a 4)), (1, .int v1), (2, .float x.1), (3, .int x.2)] [] (WC cy a V J K X))) (C := (fun y : UInt32 => FinF Γ cX10_burdens (WC cy a V J K X) y)) (fun x z h hz => w_X10_burdens_B4 C0 hD h hz) _ _ _ h hz
theorem w_X10_burdens {z : UInt32} {Γ : Gam} {cy : Nat → ClassId} {a : Nat → Nat} {V : VT} {J : JT} {K : Nat → Option Nat} {X : va_W} {v1 : Int32}  (C0 : CXg Γ cX10_burdens 5 2 RX10 cy) (hD : DC Γ cy a X) (h : f_X10_burdens v1 V = some z) (hz : (fun y : UInt32 => FinF Γ cX10_burdens (WC cy a V J K X) y) z) : Wp Γ 0 0 0 [(0, .ref (a 4)), (1, .int v1)] [] (WC cy a V J K X) := by
  unfold f_X10_burdens at h
  refine r_fconst C0 dX10_burdens_0 ?_
  obtain ⟨a1, h8, h⟩ := op_bind h
  have e8 := Option.some.inj h8
  refine r_fstore_n (lv2 := [(2, .float a1), (0, .ref (a 4)), (1, .int v1)]) C0 dX10_burdens_1 rfl e8 (Nat.le_of_ble_eq_true rfl) rfl ?_
  refine r_iconst C0 dX10_burdens_2 ki_0 ?_
  obtain ⟨a2, h8, h⟩ := op_bind h
  have e8 := Option.some.inj h8
  refine r_istore_n (lv2 := [(3, .int a2), (2, .float a1), (0, .ref (a 4)), (1, .int v1)]) C0 dX10_burdens_3 rfl e8 (Nat.le_of_ble_eq_true rfl) rfl ?_
  exact r_sub [2, 3, 1, 0] rfl (w_X10_burdens_B4_lp C0 hD h hz)
theorem c_X10_burdens {l : Launch} {D : va_G} {cy : Nat → ClassId} {a : Nat → Nat} {V : VT} {J : JT} {K : Nat → Option Nat} {X : va_W} {v1 : Int32} {y : UInt32} (h : f_X10_burdens v1 V = some y) : CT l D cy yX10_burdens cX10_burdens 5 (some .float) 2 [.ref (a 4), .int v1] (WC cy a V J K X) (WC cy a V J K X) (some (.float y)) :=
  mkF (by decide) (Nat.le_of_ble_eq_true rfl) (fun Γ _ _ C0 hD hF => w_X10_burdens C0 (dc_of hD) h hF)
theorem dX10_isBalanced_0 : decode cX10_isBalanced 0 = .ok (.aload_n 0, 1) := by decide +kernel
theorem dX10_isBalanced_1 : decode cX10_isBalanced 1 = .ok (.iload_n 1, 1) := by decide +kernel
theorem dX10_isBalanced_2 : decode cX10_isBalanced 2 = .ok (.invokevirtual 44, 3) := by decide +kernel
theorem dX10_isBalanced_5 : decode cX10_isBalanced 5 = .ok (.ldc 47, 2) := by decide +kernel
theorem dX10_isBalanced_7 : decode cX10_isBalanced 7 = .ok (.aload_n 0, 1) := by decide +kernel
theorem dX10_isBalanced_8 : decode cX10_isBalanced 8 = .ok (.getfield 19, 3) := by decide +kernel
theorem dX10_isBalanced_11 : decode cX10_isBalanced 11 = .ok (.getfield 48, 3) := by decide +kernel
theorem dX10_isBalanced_14 : decode cX10_isBalanced 14 = .ok (.iload_n 1, 1) := by decide +kernel
theorem dX10_isBalanced_15 : decode cX10_isBalanced 15 = .ok (.iconst 3, 1) := by decide +kernel
theorem dX10_isBalanced_16 : decode cX10_isBalanced 16 = .ok (.invokevirtual 29, 3) := by decide +kernel
theorem dX10_isBalanced_19 : decode cX10_isBalanced 19 = .ok (.i2f, 1) := by decide +kernel
theorem dX10_isBalanced_20 : decode cX10_isBalanced 20 = .ok (.fmul, 1) := by decide +kernel
theorem dX10_isBalanced_21 : decode cX10_isBalanced 21 = .ok (.fsub, 1) := by decide +kernel
theorem dX10_isBalanced_22 : decode cX10_isBalanced 22 = .ok (.fstore_n 2, 1) := by decide +kernel
theorem dX10_isBalanced_23 : decode cX10_isBalanced 23 = .ok (.fload_n 2, 1) := by decide +kernel
theorem dX10_isBalanced_24 : decode cX10_isBalanced 24 = .ok (.ldc 51, 2) := by decide +kernel
theorem dX10_isBalanced_26 : decode cX10_isBalanced 26 = .ok (.fcmp .l, 1) := by decide +kernel
theorem dX10_isBalanced_27 : decode cX10_isBalanced 27 = .ok (.ifCond .le 14, 3) := by decide +kernel
theorem dX10_isBalanced_30 : decode cX10_isBalanced 30 = .ok (.fload_n 2, 1) := by decide +kernel
theorem dX10_isBalanced_31 : decode cX10_isBalanced 31 = .ok (.ldc 47, 2) := by decide +kernel
theorem dX10_isBalanced_33 : decode cX10_isBalanced 33 = .ok (.fcmp .g, 1) := by decide +kernel
theorem dX10_isBalanced_34 : decode cX10_isBalanced 34 = .ok (.ifCond .ge 7, 3) := by decide +kernel
theorem dX10_isBalanced_37 : decode cX10_isBalanced 37 = .ok (.iconst 1, 1) := by decide +kernel
theorem dX10_isBalanced_38 : decode cX10_isBalanced 38 = .ok (.goto 4, 3) := by decide +kernel
theorem dX10_isBalanced_41 : decode cX10_isBalanced 41 = .ok (.iconst 0, 1) := by decide +kernel
theorem dX10_isBalanced_42 : decode cX10_isBalanced 42 = .ok (.ireturn, 1) := by decide +kernel
theorem w_X10_isBalanced_j41 {z : (Int32)} {Γ : Gam} {cy : Nat → ClassId} {a : Nat → Nat} {V : VT} {J : JT} {K : Nat → Option Nat} {X : va_W}  (C0 : CXg Γ cX10_isBalanced 3 3 RX10 cy) (hD : DC Γ cy a X) (h : f_X10_isBalanced_j41 V = some z) (hz : (fun y : Int32 => FinZ Γ cX10_isBalanced (WC cy a V J K X) y) z) : Wp Γ 0 0 41 [] [] (WC cy a V J K X) := by
  unfold f_X10_isBalanced_j41 at h
  refine r_iconst C0 dX10_isBalanced_41 ki_0 ?_
  cases h
  exact hz _ _ nz_0 dX10_isBalanced_42
theorem w_X10_isBalanced {z : Int32} {Γ : Gam} {cy : Nat → ClassId} {a : Nat → Nat} {V : VT} {J : JT} {K : Nat → Option Nat} {X : va_W} {v1 : Int32}  (C0 : CXg Γ cX10_isBalanced 3 3 RX10 cy) (hD : DC Γ cy a X) (h : f_X10_isBalanced v1 V = some z) (hz : (fun y : Int32 => FinZ Γ cX10_isBalanced (WC cy a V J K X) y) z) : Wp Γ 0 0 0 [(0, .ref (a 4)), (1, .int v1)] [] (WC cy a V J K X) := by
  unfold f_X10_isBalanced at h
  refine r_aload_n C0 dX10_isBalanced_0 rfl 0 rfl ?_
  refine r_iload_n C0 dX10_isBalanced_1 rfl 1 rfl ?_
  refine callV1 C0 h (hD _ _ _) mw_X10_burdens rv_4 tm_X10_44 (fun y hy => c_X10_burdens hy) (Nat.le_of_ble_eq_true rfl) (Nat.le_of_ble_eq_true rfl) dX10_isBalanced_2 (fun r1 h => ?_)
  refine r_ldcf C0 tk_X10_47 dX10_isBalanced_5 ?_
  refine r_aload_n C0 dX10_isBalanced_7 rfl 0 rfl ?_
  refine wcg_4_0 C0 tf_X10_19 dX10_isBalanced_8 ?_
  refine wcg_3_0 C0 tf_X10_48 dX10_isBalanced_11 ?_
  refine r_iload_n C0 dX10_isBalanced_14 rfl 1 rfl ?_
  refine r_iconst C0 dX10_isBalanced_15 ki_3 ?_
  refine callV2 C0 h (hD _ _ _) mw_X7_get (rv_t tb_10) tm_X10_29 (fun y hy => c_X7_get tb_10 hy) (Nat.le_of_ble_eq_true rfl) (Nat.le_of_ble_eq_true rfl) dX10_isBalanced_16 (fun r2 h => ?_)
  refine r_i2f C0 dX10_isBalanced_19 ?_
  refine r_fmul C0 dX10_isBalanced_20 h (fun w3 h => ?_)
  refine r_fsub C0 dX10_isBalanced_21 h (fun w4 h => ?_)
  refine r_fstore_n (lv2 := [(2, .float w4), (0, .ref (a 4)), (1, .int v1)]) C0 dX10_isBalanced_22 rfl rfl (Nat.le_of_ble_eq_true rfl) rfl ?_
  refine r_fload_n C0 dX10_isBalanced_23 rfl 0 rfl ?_
  refine r_ldcf C0 tk_X10_51 dX10_isBalanced_24 ?_
  refine r_fcmp C0 dX10_isBalanced_26 ?_
  refine r_if_le C0 41 dX10_isBalanced_27 rfl h (fun _ h => ?_) (fun _ h => ?_)
  · exact r_sub [] rfl (w_X10_isBalanced_j41 C0 hD h hz)
  · refine r_fload_n C0 dX10_isBalanced_30 rfl 0 rfl ?_
    refine r_ldcf C0 tk_X10_47 dX10_isBalanced_31 ?_
    refine r_fcmp C0 dX10_isBalanced_33 ?_
    refine r_if_ge C0 41 dX10_isBalanced_34 rfl h (fun _ h => ?_) (fun _ h => ?_)
    · exact r_sub [] rfl (w_X10_isBalanced_j41 C0 hD h hz)
    · refine r_iconst C0 dX10_isBalanced_37 ki_1 ?_
      refine r_goto C0 42 dX10_isBalanced_38 rfl ?_
      cases h
      exact hz _ _ nz_1 dX10_isBalanced_42
theorem c_X10_isBalanced {l : Launch} {D : va_G} {cy : Nat → ClassId} {a : Nat → Nat} {V : VT} {J : JT} {K : Nat → Option Nat} {X : va_W} {v1 : Int32} {y : Int32} (h : f_X10_isBalanced v1 V = some y) : CT l D cy yX10_isBalanced cX10_isBalanced 3 (some .boolean) 3 [.ref (a 4), .int v1] (WC cy a V J K X) (WC cy a V J K X) (some (.int y)) :=
  mkZ (by decide) (Nat.le_of_ble_eq_true rfl) (fun Γ _ _ C0 hD hF => w_X10_isBalanced C0 (dc_of hD) h hF)
theorem dX3_holdsBar_0 : decode cX3_holdsBar 0 = .ok (.aload_n 0, 1) := by decide +kernel
theorem dX3_holdsBar_1 : decode cX3_holdsBar 1 = .ok (.getfield 24, 3) := by decide +kernel
theorem dX3_holdsBar_4 : decode cX3_holdsBar 4 = .ok (.iload_n 1, 1) := by decide +kernel
theorem dX3_holdsBar_5 : decode cX3_holdsBar 5 = .ok (.iconst 3, 1) := by decide +kernel
theorem dX3_holdsBar_6 : decode cX3_holdsBar 6 = .ok (.invokevirtual 42, 3) := by decide +kernel
theorem dX3_holdsBar_9 : decode cX3_holdsBar 9 = .ok (.iconst 1, 1) := by decide +kernel
theorem dX3_holdsBar_10 : decode cX3_holdsBar 10 = .ok (.if_icmp .ne 20, 3) := by decide +kernel
theorem dX3_holdsBar_13 : decode cX3_holdsBar 13 = .ok (.aload_n 0, 1) := by decide +kernel
theorem dX3_holdsBar_14 : decode cX3_holdsBar 14 = .ok (.getfield 24, 3) := by decide +kernel
theorem dX3_holdsBar_17 : decode cX3_holdsBar 17 = .ok (.iload_n 1, 1) := by decide +kernel
theorem dX3_holdsBar_18 : decode cX3_holdsBar 18 = .ok (.iconst 0, 1) := by decide +kernel
theorem dX3_holdsBar_19 : decode cX3_holdsBar 19 = .ok (.invokevirtual 42, 3) := by decide +kernel
theorem dX3_holdsBar_22 : decode cX3_holdsBar 22 = .ok (.iload_n 2, 1) := by decide +kernel
theorem dX3_holdsBar_23 : decode cX3_holdsBar 23 = .ok (.if_icmp .ne 7, 3) := by decide +kernel
theorem dX3_holdsBar_26 : decode cX3_holdsBar 26 = .ok (.iconst 1, 1) := by decide +kernel
theorem dX3_holdsBar_27 : decode cX3_holdsBar 27 = .ok (.goto 4, 3) := by decide +kernel
theorem dX3_holdsBar_30 : decode cX3_holdsBar 30 = .ok (.iconst 0, 1) := by decide +kernel
theorem dX3_holdsBar_31 : decode cX3_holdsBar 31 = .ok (.ireturn, 1) := by decide +kernel
theorem w_X3_holdsBar_j30 {z : (Int32)} {Γ : Gam} {cy : Nat → ClassId} {a : Nat → Nat} {V : VT} {J : JT} {K : Nat → Option Nat} {X : va_W}  (C0 : CXg Γ cX3_holdsBar 3 1 RX3 cy) (hD : DC Γ cy a X) (h : f_X3_holdsBar_j30 V = some z) (hz : (fun y : Int32 => FinZ Γ cX3_holdsBar (WC cy a V J K X) y) z) : Wp Γ 0 0 30 [] [] (WC cy a V J K X) := by
  unfold f_X3_holdsBar_j30 at h
  refine r_iconst C0 dX3_holdsBar_30 ki_0 ?_
  cases h
  exact hz _ _ nz_0 dX3_holdsBar_31
theorem w_X3_holdsBar {z : Int32} {Γ : Gam} {cy : Nat → ClassId} {a : Nat → Nat} {V : VT} {J : JT} {K : Nat → Option Nat} {X : va_W} {v1 : Int32} {v2 : Int32}  (C0 : CXg Γ cX3_holdsBar 3 1 RX3 cy) (hD : DC Γ cy a X) (h : f_X3_holdsBar v1 v2 V = some z) (hz : (fun y : Int32 => FinZ Γ cX3_holdsBar (WC cy a V J K X) y) z) : Wp Γ 0 0 0 [(0, .ref (a 3)), (1, .int v1), (2, .int v2)] [] (WC cy a V J K X) := by
  unfold f_X3_holdsBar at h
  refine r_aload_n C0 dX3_holdsBar_0 rfl 0 rfl ?_
  refine wcg_3_2 C0 tf_X3_24 dX3_holdsBar_1 ?_
  refine r_iload_n C0 dX3_holdsBar_4 rfl 1 rfl ?_
  refine r_iconst C0 dX3_holdsBar_5 ki_3 ?_
  refine callV2 C0 h (hD _ _ _) mw_X7_get (rv_t tb_12) tm_X3_42 (fun y hy => c_X7_get tb_12 hy) (Nat.le_of_ble_eq_true rfl) (Nat.le_of_ble_eq_true rfl) dX3_holdsBar_6 (fun r1 h => ?_)
  refine r_iconst C0 dX3_holdsBar_9 ki_1 ?_
  refine r_icmp_ne C0 30 dX3_holdsBar_10 rfl h (fun _ h => ?_) (fun _ h => ?_)
  · exact r_sub [] rfl (w_X3_holdsBar_j30 C0 hD h hz)
  · refine r_aload_n C0 dX3_holdsBar_13 rfl 0 rfl ?_
    refine wcg_3_2 C0 tf_X3_24 dX3_holdsBar_14 ?_
    refine r_iload_n C0 dX3_holdsBar_17 rfl 1 rfl ?_
    refine r_iconst C0 dX3_holdsBar_18 ki_0 ?_
    refine callV2 C0 h (hD _ _ _) mw_X7_get (rv_t tb_12) tm_X3_42 (fun y hy => c_X7_get tb_12 hy) (Nat.le_of_ble_eq_true rfl) (Nat.le_of_ble_eq_true rfl) dX3_holdsBar_19 (fun r2 h => ?_)
    refine r_iload_n C0 dX3_holdsBar_22 rfl 2 rfl ?_
    refine r_icmp_ne C0 30 dX3_holdsBar_23 rfl h (fun _ h => ?_) (fun _ h => ?_)
    · exact r_sub [] rfl (w_X3_holdsBar_j30 C0 hD h hz)
    · refine r_iconst C0 dX3_holdsBar_26 ki_1 ?_
      refine r_goto C0 31 dX3_holdsBar_27 rfl ?_
      cases h
      exact hz _ _ nz_1 dX3_holdsBar_31
theorem c_X3_holdsBar {l : Launch} {D : va_G} {cy : Nat → ClassId} {a : Nat → Nat} {V : VT} {J : JT} {K : Nat → Option Nat} {X : va_W} {v1 : Int32} {v2 : Int32} {y : Int32} (h : f_X3_holdsBar v1 v2 V = some y) : CT l D cy yX3_holdsBar cX3_holdsBar 3 (some .boolean) 1 [.ref (a 3), .int v1, .int v2] (WC cy a V J K X) (WC cy a V J K X) (some (.int y)) :=
  mkZ (by decide) (Nat.le_of_ble_eq_true rfl) (fun Γ _ _ C0 hD hF => w_X3_holdsBar C0 (dc_of hD) h hF)
theorem dJ7_fill_53178_0 : decode cJ7_fill_53178 0 = .ok (.iconst 0, 1) := by decide +kernel
theorem dJ7_fill_53178_1 : decode cJ7_fill_53178 1 = .ok (.istore_n 2, 1) := by decide +kernel
theorem dJ7_fill_53178_2 : decode cJ7_fill_53178 2 = .ok (.aload_n 0, 1) := by decide +kernel
theorem dJ7_fill_53178_3 : decode cJ7_fill_53178 3 = .ok (.arraylength, 1) := by decide +kernel
theorem dJ7_fill_53178_4 : decode cJ7_fill_53178 4 = .ok (.istore_n 3, 1) := by decide +kernel
theorem dJ7_fill_53178_5 : decode cJ7_fill_53178 5 = .ok (.iload_n 2, 1) := by decide +kernel
theorem dJ7_fill_53178_6 : decode cJ7_fill_53178 6 = .ok (.iload_n 3, 1) := by decide +kernel
theorem dJ7_fill_53178_7 : decode cJ7_fill_53178 7 = .ok (.if_icmp .ge 13, 3) := by decide +kernel
theorem dJ7_fill_53178_10 : decode cJ7_fill_53178 10 = .ok (.aload_n 0, 1) := by decide +kernel
theorem dJ7_fill_53178_11 : decode cJ7_fill_53178 11 = .ok (.iload_n 2, 1) := by decide +kernel
theorem dJ7_fill_53178_12 : decode cJ7_fill_53178 12 = .ok (.iload_n 1, 1) := by decide +kernel
theorem dJ7_fill_53178_13 : decode cJ7_fill_53178 13 = .ok (.iastore, 1) := by decide +kernel
theorem dJ7_fill_53178_14 : decode cJ7_fill_53178 14 = .ok (.iinc 2 1, 3) := by decide +kernel
theorem dJ7_fill_53178_17 : decode cJ7_fill_53178 17 = .ok (.goto (-12), 3) := by decide +kernel
theorem dJ7_fill_53178_20 : decode cJ7_fill_53178 20 = .ok (.return_, 1) := by decide +kernel
theorem w_fill_23_B5 {x : Int32 × VT} {z : ((Int32 × VT) ⊕ (VT))} {Γ : Gam} {cy : Nat → ClassId} {a : Nat → Nat} {J : JT} {K : Nat → Option Nat} {X : va_W} {v1 : Int32} {v3 : Int32}  (C0 : CXg Γ cJ7_fill_53178 4 0 RJ7 cy) (hD : DC Γ cy a X) (h : f_fill_23_B5 v1 v3 x = some z) (hz : (Sum.elim (fun x : Int32 × VT => Wp Γ 0 0 5 [(0, .ref (a 23)), (1, .int v1), (2, .int x.1), (3, .int v3)] [] (WC cy a x.2 J K X)) (fun y : VT => FinV Γ cJ7_fill_53178 (WC cy a y J K X))) z) : Wp Γ 0 0 5 [(0, .ref (a 23)), (1, .int v1), (2, .int x.1), (3, .int v3)] [] (WC cy a x.2 J K X) := by
  unfold f_fill_23_B5 at h
  refine r_iload_n C0 dJ7_fill_53178_5 rfl 2 rfl ?_
  refine r_iload_n C0 dJ7_fill_53178_6 rfl 3 rfl ?_
  refine r_icmp_ge C0 20 dJ7_fill_53178_7 rfl h (fun _ h => ?_) (fun _ h => ?_)
  · obtain ⟨y3, h5, h9⟩ := op_bind h
    clear h
    cases h9
    have hz := (el_inr hz)
    have h := h5
    cases h
    exact hz _ _ dJ7_fill_53178_20
  · refine r_aload_n C0 dJ7_fill_53178_10 rfl 0 rfl ?_
    refine r_iload_n C0 dJ7_fill_53178_11 rfl 2 rfl ?_
    refine r_iload_n C0 dJ7_fill_53178_12 rfl 1 rfl ?_
    refine wcas_23 C0 hD h dJ7_fill_53178_13 (fun k4 h => ?_)
    obtain ⟨a5, h8, h⟩ := op_bind h
    have e8 := Option.some.inj h8
    refine r_iinc (lv2 := [(2, .int a5), (0, .ref (a 23)), (1, .int v1), (3, .int v3)]) C0 dJ7_fill_53178_14 2 rfl ki_1 e8 (Nat.le_of_ble_eq_true rfl) rfl ?_
    refine r_goto C0 5 dJ7_fill_53178_17 rfl ?_
    cases h
    have hz := el_inl hz
    exact r_sub [1, 2, 0, 3] rfl hz
theorem w_fill_23_B5_lp {x : Int32 × VT} {z : (VT)} {Γ : Gam} {cy : Nat → ClassId} {a : Nat → Nat} {J : JT} {K : Nat → Option Nat} {X : va_W} {v1 : Int32} {v3 : Int32}  (C0 : CXg Γ cJ7_fill_53178 4 0 RJ7 cy) (hD : DC Γ cy a X) (h : lp (f_fill_23_B5 v1 v3) fuel x = some z) (hz : (fun y : VT => FinV Γ cJ7_fill_53178 (WC cy a y J K X)) z) : Wp Γ 0 0 5 [(0, .ref (a 23)), (1, .int v1), (2, .int x.1), (3, .int v3)] [] (WC cy a x.2 J K X) :=
  lp_rule (hd := (fun x : Int32 × VT => Wp Γ 0 0 5 [(0, .ref (a 23)), (1, .int v1), (2, .int x.1), (3, .int v3)] [] (WC cy a x.2 J K X))) (C := (fun y : VT => FinV Γ cJ7_fill_53178 (WC cy a y J K X))) (fun x z h hz => w_fill_23_B5 C0 hD h hz) _ _ _ h hz
theorem w_fill_23 {z : VT} {Γ : Gam} {cy : Nat → ClassId} {a : Nat → Nat} {V : VT} {J : JT} {K : Nat → Option Nat} {X : va_W} {v1 : Int32}  (C0 : CXg Γ cJ7_fill_53178 4 0 RJ7 cy) (hD : DC Γ cy a X) (h : f_fill_23 v1 V = some z) (hz : (fun y : VT => FinV Γ cJ7_fill_53178 (WC cy a y J K X)) z) : Wp Γ 0 0 0 [(0, .ref (a 23)), (1, .int v1)] [] (WC cy a V J K X) := by
  unfold f_fill_23 at h
  refine r_iconst C0 dJ7_fill_53178_0 ki_0 ?_
  obtain ⟨a1, h8, h⟩ := op_bind h
  have e8 := Option.some.inj h8
  refine r_istore_n (lv2 := [(2, .int a1), (0, .ref (a 23)), (1, .int v1)]) C0 dJ7_fill_53178_1 rfl e8 (Nat.le_of_ble_eq_true rfl) rfl ?_
  refine r_aload_n C0 dJ7_fill_53178_2 rfl 1 rfl ?_
  refine wcln_23 C0 dJ7_fill_53178_3 ?_
  obtain ⟨a2, h8, h⟩ := op_bind h
  have e8 := Option.some.inj h8
  refine r_istore_n (lv2 := [(3, .int a2), (2, .int a1), (0, .ref (a 23)), (1, .int v1)]) C0 dJ7_fill_53178_4 rfl e8 (Nat.le_of_ble_eq_true rfl) rfl ?_
  exact r_sub [2, 3, 1, 0] rfl (w_fill_23_B5_lp C0 hD h hz)
theorem c_fill_23 {l : Launch} {D : va_G} {cy : Nat → ClassId} {a : Nat → Nat} {V : VT} {J : JT} {K : Nat → Option Nat} {X : va_W} {v1 : Int32} {y : VT} (h : f_fill_23 v1 V = some y) : CT l D cy yJ7_fill_53178 cJ7_fill_53178 4 none 0 [.ref (a 23), .int v1] (WC cy a V J K X) (WC cy a y J K X) none :=
  mkV (by decide) (Nat.le_of_ble_eq_true rfl) (fun Γ _ _ C0 hD hF => w_fill_23 C0 (dc_of hD) h hF)
theorem w_fill_29_B5 {x : Int32 × VT} {z : ((Int32 × VT) ⊕ (VT))} {Γ : Gam} {cy : Nat → ClassId} {a : Nat → Nat} {J : JT} {K : Nat → Option Nat} {X : va_W} {v1 : Int32} {v3 : Int32}  (C0 : CXg Γ cJ7_fill_53178 4 0 RJ7 cy) (hD : DC Γ cy a X) (h : f_fill_29_B5 v1 v3 x = some z) (hz : (Sum.elim (fun x : Int32 × VT => Wp Γ 0 0 5 [(0, .ref (a 29)), (1, .int v1), (2, .int x.1), (3, .int v3)] [] (WC cy a x.2 J K X)) (fun y : VT => FinV Γ cJ7_fill_53178 (WC cy a y J K X))) z) : Wp Γ 0 0 5 [(0, .ref (a 29)), (1, .int v1), (2, .int x.1), (3, .int v3)] [] (WC cy a x.2 J K X) := by
  unfold f_fill_29_B5 at h
  refine r_iload_n C0 dJ7_fill_53178_5 rfl 2 rfl ?_
  refine r_iload_n C0 dJ7_fill_53178_6 rfl 3 rfl ?_
  refine r_icmp_ge C0 20 dJ7_fill_53178_7 rfl h (fun _ h => ?_) (fun _ h => ?_)
  · obtain ⟨y3, h5, h9⟩ := op_bind h
    clear h
    cases h9
    have hz := (el_inr hz)
    have h := h5
    cases h
    exact hz _ _ dJ7_fill_53178_20
  · refine r_aload_n C0 dJ7_fill_53178_10 rfl 0 rfl ?_
    refine r_iload_n C0 dJ7_fill_53178_11 rfl 2 rfl ?_
    refine r_iload_n C0 dJ7_fill_53178_12 rfl 1 rfl ?_
    refine wcas_29 C0 hD h dJ7_fill_53178_13 (fun k4 h => ?_)
    obtain ⟨a5, h8, h⟩ := op_bind h
    have e8 := Option.some.inj h8
    refine r_iinc (lv2 := [(2, .int a5), (0, .ref (a 29)), (1, .int v1), (3, .int v3)]) C0 dJ7_fill_53178_14 2 rfl ki_1 e8 (Nat.le_of_ble_eq_true rfl) rfl ?_
    refine r_goto C0 5 dJ7_fill_53178_17 rfl ?_
    cases h
    have hz := el_inl hz
    exact r_sub [1, 2, 0, 3] rfl hz
theorem w_fill_29_B5_lp {x : Int32 × VT} {z : (VT)} {Γ : Gam} {cy : Nat → ClassId} {a : Nat → Nat} {J : JT} {K : Nat → Option Nat} {X : va_W} {v1 : Int32} {v3 : Int32}  (C0 : CXg Γ cJ7_fill_53178 4 0 RJ7 cy) (hD : DC Γ cy a X) (h : lp (f_fill_29_B5 v1 v3) fuel x = some z) (hz : (fun y : VT => FinV Γ cJ7_fill_53178 (WC cy a y J K X)) z) : Wp Γ 0 0 5 [(0, .ref (a 29)), (1, .int v1), (2, .int x.1), (3, .int v3)] [] (WC cy a x.2 J K X) :=
  lp_rule (hd := (fun x : Int32 × VT => Wp Γ 0 0 5 [(0, .ref (a 29)), (1, .int v1), (2, .int x.1), (3, .int v3)] [] (WC cy a x.2 J K X))) (C := (fun y : VT => FinV Γ cJ7_fill_53178 (WC cy a y J K X))) (fun x z h hz => w_fill_29_B5 C0 hD h hz) _ _ _ h hz
theorem w_fill_29 {z : VT} {Γ : Gam} {cy : Nat → ClassId} {a : Nat → Nat} {V : VT} {J : JT} {K : Nat → Option Nat} {X : va_W} {v1 : Int32}  (C0 : CXg Γ cJ7_fill_53178 4 0 RJ7 cy) (hD : DC Γ cy a X) (h : f_fill_29 v1 V = some z) (hz : (fun y : VT => FinV Γ cJ7_fill_53178 (WC cy a y J K X)) z) : Wp Γ 0 0 0 [(0, .ref (a 29)), (1, .int v1)] [] (WC cy a V J K X) := by
  unfold f_fill_29 at h
  refine r_iconst C0 dJ7_fill_53178_0 ki_0 ?_
  obtain ⟨a1, h8, h⟩ := op_bind h
  have e8 := Option.some.inj h8
  refine r_istore_n (lv2 := [(2, .int a1), (0, .ref (a 29)), (1, .int v1)]) C0 dJ7_fill_53178_1 rfl e8 (Nat.le_of_ble_eq_true rfl) rfl ?_
  refine r_aload_n C0 dJ7_fill_53178_2 rfl 1 rfl ?_
  refine wcln_29 C0 dJ7_fill_53178_3 ?_
  obtain ⟨a2, h8, h⟩ := op_bind h
  have e8 := Option.some.inj h8
  refine r_istore_n (lv2 := [(3, .int a2), (2, .int a1), (0, .ref (a 29)), (1, .int v1)]) C0 dJ7_fill_53178_4 rfl e8 (Nat.le_of_ble_eq_true rfl) rfl ?_
  exact r_sub [2, 3, 1, 0] rfl (w_fill_29_B5_lp C0 hD h hz)
theorem c_fill_29 {l : Launch} {D : va_G} {cy : Nat → ClassId} {a : Nat → Nat} {V : VT} {J : JT} {K : Nat → Option Nat} {X : va_W} {v1 : Int32} {y : VT} (h : f_fill_29 v1 V = some y) : CT l D cy yJ7_fill_53178 cJ7_fill_53178 4 none 0 [.ref (a 29), .int v1] (WC cy a V J K X) (WC cy a y J K X) none :=
  mkV (by decide) (Nat.le_of_ble_eq_true rfl) (fun Γ _ _ C0 hD hF => w_fill_29 C0 (dc_of hD) h hF)
theorem dX10_findLines_0 : decode cX10_findLines 0 = .ok (.iconst 0, 1) := by decide +kernel
theorem dX10_findLines_1 : decode cX10_findLines 1 = .ok (.istore_n 2, 1) := by decide +kernel
theorem dX10_findLines_2 : decode cX10_findLines 2 = .ok (.aload_n 0, 1) := by decide +kernel
theorem dX10_findLines_3 : decode cX10_findLines 3 = .ok (.getfield 9, 3) := by decide +kernel
theorem dX10_findLines_6 : decode cX10_findLines 6 = .ok (.ldc 87, 2) := by decide +kernel
theorem dX10_findLines_8 : decode cX10_findLines 8 = .ok (.invokestatic 88, 3) := by decide +kernel
theorem dX10_findLines_11 : decode cX10_findLines 11 = .ok (.iconst 0, 1) := by decide +kernel
theorem dX10_findLines_12 : decode cX10_findLines 12 = .ok (.istore_n 3, 1) := by decide +kernel
theorem dX10_findLines_13 : decode cX10_findLines 13 = .ok (.iload_n 3, 1) := by decide +kernel
theorem dX10_findLines_14 : decode cX10_findLines 14 = .ok (.bipush 40, 2) := by decide +kernel
theorem dX10_findLines_16 : decode cX10_findLines 16 = .ok (.if_icmp .ge 61, 3) := by decide +kernel
theorem dX10_findLines_19 : decode cX10_findLines 19 = .ok (.aload_n 0, 1) := by decide +kernel
theorem dX10_findLines_20 : decode cX10_findLines 20 = .ok (.getfield 19, 3) := by decide +kernel
theorem dX10_findLines_23 : decode cX10_findLines 23 = .ok (.getfield 74, 3) := by decide +kernel
theorem dX10_findLines_26 : decode cX10_findLines 26 = .ok (.iload_n 3, 1) := by decide +kernel
theorem dX10_findLines_27 : decode cX10_findLines 27 = .ok (.iconst 1, 1) := by decide +kernel
theorem dX10_findLines_28 : decode cX10_findLines 28 = .ok (.invokevirtual 29, 3) := by decide +kernel
theorem dX10_findLines_31 : decode cX10_findLines 31 = .ok (.istore 4, 2) := by decide +kernel
theorem dX10_findLines_33 : decode cX10_findLines 33 = .ok (.aload_n 0, 1) := by decide +kernel
theorem dX10_findLines_34 : decode cX10_findLines 34 = .ok (.getfield 19, 3) := by decide +kernel
theorem dX10_findLines_37 : decode cX10_findLines 37 = .ok (.iload_n 3, 1) := by decide +kernel
theorem dX10_findLines_38 : decode cX10_findLines 38 = .ok (.iload_n 1, 1) := by decide +kernel
theorem dX10_findLines_39 : decode cX10_findLines 39 = .ok (.invokevirtual 91, 3) := by decide +kernel
theorem dX10_findLines_42 : decode cX10_findLines 42 = .ok (.ifCond .eq 29, 3) := by decide +kernel
theorem dX10_findLines_45 : decode cX10_findLines 45 = .ok (.iload 4, 2) := by decide +kernel
theorem dX10_findLines_47 : decode cX10_findLines 47 = .ok (.ifCond .lt 24, 3) := by decide +kernel
theorem dX10_findLines_50 : decode cX10_findLines 50 = .ok (.iload 4, 2) := by decide +kernel
theorem dX10_findLines_52 : decode cX10_findLines 52 = .ok (.aload_n 0, 1) := by decide +kernel
theorem dX10_findLines_53 : decode cX10_findLines 53 = .ok (.getfield 9, 3) := by decide +kernel
theorem dX10_findLines_56 : decode cX10_findLines 56 = .ok (.arraylength, 1) := by decide +kernel
theorem dX10_findLines_57 : decode cX10_findLines 57 = .ok (.if_icmp .ge 14, 3) := by decide +kernel
theorem dX10_findLines_60 : decode cX10_findLines 60 = .ok (.aload_n 0, 1) := by decide +kernel
theorem dX10_findLines_61 : decode cX10_findLines 61 = .ok (.getfield 9, 3) := by decide +kernel
theorem dX10_findLines_64 : decode cX10_findLines 64 = .ok (.iload 4, 2) := by decide +kernel
theorem dX10_findLines_66 : decode cX10_findLines 66 = .ok (.iload_n 3, 1) := by decide +kernel
theorem dX10_findLines_67 : decode cX10_findLines 67 = .ok (.iastore, 1) := by decide +kernel
theorem dX10_findLines_68 : decode cX10_findLines 68 = .ok (.iinc 2 1, 3) := by decide +kernel
theorem dX10_findLines_71 : decode cX10_findLines 71 = .ok (.iinc 3 1, 3) := by decide +kernel
theorem dX10_findLines_74 : decode cX10_findLines 74 = .ok (.goto (-61), 3) := by decide +kernel
theorem dX10_findLines_77 : decode cX10_findLines 77 = .ok (.iload_n 2, 1) := by decide +kernel
theorem dX10_findLines_78 : decode cX10_findLines 78 = .ok (.ireturn, 1) := by decide +kernel
theorem w_X10_findLines_j71 {z : ((Int32 × Int32 × VT) ⊕ (Int32 × VT))} {Γ : Gam} {cy : Nat → ClassId} {a : Nat → Nat} {V : VT} {J : JT} {K : Nat → Option Nat} {X : va_W} {v1 : Int32} {v2 : Int32} {v3 : Int32}  (C0 : CXg Γ cX10_findLines 5 2 RX10 cy) (hD : DC Γ cy a X) (h : f_X10_findLines_j71 v1 v2 v3 V = some z) (hz : (Sum.elim (fun x : Int32 × Int32 × VT => Wp Γ 0 0 13 [(0, .ref (a 4)), (1, .int v1), (2, .int x.1), (3, .int x.2.1)] [] (WC cy a x.2.2 J K X)) (fun y : Int32 × VT => FinI Γ cX10_findLines (WC cy a y.2 J K X) y.1)) z) : Wp Γ 0 0 71 [(0, .ref (a 4)), (1, .int v1), (2, .int v2), (3, .int v3)] [] (WC cy a V J K X) := by
  unfold f_X10_findLines_j71 at h
  obtain ⟨a7, h8, h⟩ := op_bind h
  have e8 := Option.some.inj h8
  refine r_iinc (lv2 := [(3, .int a7), (0, .ref (a 4)), (1, .int v1), (2, .int v2)]) C0 dX10_findLines_71 3 rfl ki_1 e8 (Nat.le_of_ble_eq_true rfl) rfl ?_
  refine r_goto C0 13 dX10_findLines_74 rfl ?_
  cases h
  have hz := el_inl hz
  exact r_sub [1, 2, 3, 0] rfl hz
theorem w_X10_findLines_B13 {x : Int32 × Int32 × VT} {z : ((Int32 × Int32 × VT) ⊕ (Int32 × VT))} {Γ : Gam} {cy : Nat → ClassId} {a : Nat → Nat} {J : JT} {K : Nat → Option Nat} {X : va_W} {v1 : Int32}  (C0 : CXg Γ cX10_findLines 5 2 RX10 cy) (hD : DC Γ cy a X) (h : f_X10_findLines_B13 v1 x = some z) (hz : (Sum.elim (fun x : Int32 × Int32 × VT => Wp Γ 0 0 13 [(0, .ref (a 4)), (1, .int v1), (2, .int x.1), (3, .int x.2.1)] [] (WC cy a x.2.2 J K X)) (fun y : Int32 × VT => FinI Γ cX10_findLines (WC cy a y.2 J K X) y.1)) z) : Wp Γ 0 0 13 [(0, .ref (a 4)), (1, .int v1), (2, .int x.1), (3, .int x.2.1)] [] (WC cy a x.2.2 J K X) := by
  unfold f_X10_findLines_B13 at h
  refine r_iload_n C0 dX10_findLines_13 rfl 3 rfl ?_
  refine r_bipush C0 dX10_findLines_14 kb_40 ?_
  refine r_icmp_ge C0 77 dX10_findLines_16 rfl h (fun _ h => ?_) (fun _ h => ?_)
  · obtain ⟨y4, h5, h9⟩ := op_bind h
    clear h
    cases h9
    have hz := (el_inr hz)
    have h := h5
    refine r_iload_n C0 dX10_findLines_77 rfl 2 rfl ?_
    cases h
    exact hz _ _ dX10_findLines_78
  · refine r_aload_n C0 dX10_findLines_19 rfl 0 rfl ?_
    refine wcg_4_0 C0 tf_X10_19 dX10_findLines_20 ?_
    refine wcg_3_2 C0 tf_X10_74 dX10_findLines_23 ?_
    refine r_iload_n C0 dX10_findLines_26 rfl 3 rfl ?_
    refine r_iconst C0 dX10_findLines_27 ki_1 ?_
    refine callV2 C0 h (hD _ _ _) mw_X7_get (rv_t tb_12) tm_X10_29 (fun y hy => c_X7_get tb_12 hy) (Nat.le_of_ble_eq_true rfl) (Nat.le_of_ble_eq_true rfl) dX10_findLines_28 (fun r5 h => ?_)
    refine r_istore (lv2 := [(4, .int r5), (0, .ref (a 4)), (1, .int v1), (2, .int x.1), (3, .int x.2.1)]) C0 dX10_findLines_31 rfl (Nat.le_of_ble_eq_true rfl) rfl ?_
    refine r_aload_n C0 dX10_findLines_33 rfl 1 rfl ?_
    refine wcg_4_0 C0 tf_X10_19 dX10_findLines_34 ?_
    refine r_iload_n C0 dX10_findLines_37 rfl 4 rfl ?_
    refine r_iload_n C0 dX10_findLines_38 rfl 2 rfl ?_
    refine callV2 C0 h (hD _ _ _) mw_X3_holdsBar rv_3 tm_X10_91 (fun y hy => c_X3_holdsBar hy) (Nat.le_of_ble_eq_true rfl) (Nat.le_of_ble_eq_true rfl) dX10_findLines_39 (fun r6 h => ?_)
    refine r_if_eq C0 71 dX10_findLines_42 rfl h (fun _ h => ?_) (fun _ h => ?_)
    · exact r_sub [1, 2, 3, 4] rfl (w_X10_findLines_j71 C0 hD h hz)
    · refine r_iload C0 dX10_findLines_45 0 rfl ?_
      refine r_if_lt C0 71 dX10_findLines_47 rfl h (fun _ h => ?_) (fun _ h => ?_)
      · exact r_sub [1, 2, 3, 4] rfl (w_X10_findLines_j71 C0 hD h hz)
      · refine r_iload C0 dX10_findLines_50 0 rfl ?_
        refine r_aload_n C0 dX10_findLines_52 rfl 1 rfl ?_
        refine wcg_4_1 C0 tf_X10_9 dX10_findLines_53 ?_
        refine wcln_23 C0 dX10_findLines_56 ?_
        refine r_icmp_ge C0 71 dX10_findLines_57 rfl h (fun _ h => ?_) (fun _ h => ?_)
        · exact r_sub [1, 2, 3, 4] rfl (w_X10_findLines_j71 C0 hD h hz)
        · refine r_aload_n C0 dX10_findLines_60 rfl 1 rfl ?_
          refine wcg_4_1 C0 tf_X10_9 dX10_findLines_61 ?_
          refine r_iload C0 dX10_findLines_64 0 rfl ?_
          refine r_iload_n C0 dX10_findLines_66 rfl 4 rfl ?_
          refine wcas_23 C0 hD h dX10_findLines_67 (fun k8 h => ?_)
          obtain ⟨a9, h8, h⟩ := op_bind h
          have e8 := Option.some.inj h8
          refine r_iinc (lv2 := [(2, .int a9), (4, .int r5), (0, .ref (a 4)), (1, .int v1), (3, .int x.2.1)]) C0 dX10_findLines_68 3 rfl ki_1 e8 (Nat.le_of_ble_eq_true rfl) rfl ?_
          exact r_sub [2, 3, 0, 4] rfl (w_X10_findLines_j71 C0 hD h hz)
theorem w_X10_findLines_B13_lp {x : Int32 × Int32 × VT} {z : (Int32 × VT)} {Γ : Gam} {cy : Nat → ClassId} {a : Nat → Nat} {J : JT} {K : Nat → Option Nat} {X : va_W} {v1 : Int32}  (C0 : CXg Γ cX10_findLines 5 2 RX10 cy) (hD : DC Γ cy a X) (h : lp (f_X10_findLines_B13 v1) fuel x = some z) (hz : (fun y : Int32 × VT => FinI Γ cX10_findLines (WC cy a y.2 J K X) y.1) z) : Wp Γ 0 0 13 [(0, .ref (a 4)), (1, .int v1), (2, .int x.1), (3, .int x.2.1)] [] (WC cy a x.2.2 J K X) :=
  lp_rule (hd := (fun x : Int32 × Int32 × VT => Wp Γ 0 0 13 [(0, .ref (a 4)), (1, .int v1), (2, .int x.1), (3, .int x.2.1)] [] (WC cy a x.2.2 J K X))) (C := (fun y : Int32 × VT => FinI Γ cX10_findLines (WC cy a y.2 J K X) y.1)) (fun x z h hz => w_X10_findLines_B13 C0 hD h hz) _ _ _ h hz
theorem w_X10_findLines {z : Int32 × VT} {Γ : Gam} {cy : Nat → ClassId} {a : Nat → Nat} {V : VT} {J : JT} {K : Nat → Option Nat} {X : va_W} {v1 : Int32}  (C0 : CXg Γ cX10_findLines 5 2 RX10 cy) (hD : DC Γ cy a X) (h : f_X10_findLines v1 V = some z) (hz : (fun y : Int32 × VT => FinI Γ cX10_findLines (WC cy a y.2 J K X) y.1) z) : Wp Γ 0 0 0 [(0, .ref (a 4)), (1, .int v1)] [] (WC cy a V J K X) := by
  unfold f_X10_findLines at h
  refine r_iconst C0 dX10_findLines_0 ki_0 ?_
  obtain ⟨a1, h8, h⟩ := op_bind h
  have e8 := Option.some.inj h8
  refine r_istore_n (lv2 := [(2, .int a1), (0, .ref (a 4)), (1, .int v1)]) C0 dX10_findLines_1 rfl e8 (Nat.le_of_ble_eq_true rfl) rfl ?_
  refine r_aload_n C0 dX10_findLines_2 rfl 1 rfl ?_
  refine wcg_4_1 C0 tf_X10_9 dX10_findLines_3 ?_
  refine r_ldc C0 tk_X10_87 dX10_findLines_6 ?_
  refine callSv2 C0 h (hD _ _ _) ms_J7_fill_53178 tm_X10_88 (fun y hy => c_fill_23 hy) (Nat.le_of_ble_eq_true rfl) (Nat.le_of_ble_eq_true rfl) dX10_findLines_8 (fun r2 h => ?_)
  refine r_iconst C0 dX10_findLines_11 ki_0 ?_
  obtain ⟨a3, h8, h⟩ := op_bind h
  have e8 := Option.some.inj h8
  refine r_istore_n (lv2 := [(3, .int a3), (2, .int a1), (0, .ref (a 4)), (1, .int v1)]) C0 dX10_findLines_12 rfl e8 (Nat.le_of_ble_eq_true rfl) rfl ?_
  exact r_sub [2, 3, 1, 0] rfl (w_X10_findLines_B13_lp C0 hD h hz)
theorem c_X10_findLines {l : Launch} {D : va_G} {cy : Nat → ClassId} {a : Nat → Nat} {V : VT} {J : JT} {K : Nat → Option Nat} {X : va_W} {v1 : Int32} {y : Int32 × VT} (h : f_X10_findLines v1 V = some y) : CT l D cy yX10_findLines cX10_findLines 5 (some .int) 2 [.ref (a 4), .int v1] (WC cy a V J K X) (WC cy a y.2 J K X) (some (.int y.1)) :=
  mkI (by decide) (Nat.le_of_ble_eq_true rfl) (fun Γ _ _ C0 hD hF => w_X10_findLines C0 (dc_of hD) h hF)
theorem dX3_weakestPart_0 : decode cX3_weakestPart 0 = .ok (.sipush 30000, 3) := by decide +kernel
theorem dX3_weakestPart_3 : decode cX3_weakestPart 3 = .ok (.istore_n 2, 1) := by decide +kernel
theorem dX3_weakestPart_4 : decode cX3_weakestPart 4 = .ok (.aload_n 0, 1) := by decide +kernel
theorem dX3_weakestPart_5 : decode cX3_weakestPart 5 = .ok (.getfield 24, 3) := by decide +kernel
theorem dX3_weakestPart_8 : decode cX3_weakestPart 8 = .ok (.iload_n 1, 1) := by decide +kernel
theorem dX3_weakestPart_9 : decode cX3_weakestPart 9 = .ok (.iconst 2, 1) := by decide +kernel
theorem dX3_weakestPart_10 : decode cX3_weakestPart 10 = .ok (.invokevirtual 42, 3) := by decide +kernel
theorem dX3_weakestPart_13 : decode cX3_weakestPart 13 = .ok (.istore_n 3, 1) := by decide +kernel
theorem dX3_weakestPart_14 : decode cX3_weakestPart 14 = .ok (.iconst 0, 1) := by decide +kernel
theorem dX3_weakestPart_15 : decode cX3_weakestPart 15 = .ok (.istore 4, 2) := by decide +kernel
theorem dX3_weakestPart_17 : decode cX3_weakestPart 17 = .ok (.iload 4, 2) := by decide +kernel
theorem dX3_weakestPart_19 : decode cX3_weakestPart 19 = .ok (.iload_n 3, 1) := by decide +kernel
theorem dX3_weakestPart_20 : decode cX3_weakestPart 20 = .ok (.if_icmp .ge 26, 3) := by decide +kernel
theorem dX3_weakestPart_23 : decode cX3_weakestPart 23 = .ok (.iload_n 2, 1) := by decide +kernel
theorem dX3_weakestPart_24 : decode cX3_weakestPart 24 = .ok (.aload_n 0, 1) := by decide +kernel
theorem dX3_weakestPart_25 : decode cX3_weakestPart 25 = .ok (.getfield 24, 3) := by decide +kernel
theorem dX3_weakestPart_28 : decode cX3_weakestPart 28 = .ok (.iload_n 1, 1) := by decide +kernel
theorem dX3_weakestPart_29 : decode cX3_weakestPart 29 = .ok (.iconst 4, 1) := by decide +kernel
theorem dX3_weakestPart_30 : decode cX3_weakestPart 30 = .ok (.iload 4, 2) := by decide +kernel
theorem dX3_weakestPart_32 : decode cX3_weakestPart 32 = .ok (.iadd, 1) := by decide +kernel
theorem dX3_weakestPart_33 : decode cX3_weakestPart 33 = .ok (.invokevirtual 42, 3) := by decide +kernel
theorem dX3_weakestPart_36 : decode cX3_weakestPart 36 = .ok (.invokestatic 57, 3) := by decide +kernel
theorem dX3_weakestPart_39 : decode cX3_weakestPart 39 = .ok (.istore_n 2, 1) := by decide +kernel
theorem dX3_weakestPart_40 : decode cX3_weakestPart 40 = .ok (.iinc 4 1, 3) := by decide +kernel
theorem dX3_weakestPart_43 : decode cX3_weakestPart 43 = .ok (.goto (-26), 3) := by decide +kernel
theorem dX3_weakestPart_46 : decode cX3_weakestPart 46 = .ok (.iload_n 2, 1) := by decide +kernel
theorem dX3_weakestPart_47 : decode cX3_weakestPart 47 = .ok (.ireturn, 1) := by decide +kernel
theorem w_X3_weakestPart_B17 {x : Int32 × Int32} {z : ((Int32 × Int32) ⊕ (Int32))} {Γ : Gam} {cy : Nat → ClassId} {a : Nat → Nat} {V : VT} {J : JT} {K : Nat → Option Nat} {X : va_W} {v1 : Int32} {v3 : Int32}  (C0 : CXg Γ cX3_weakestPart 5 1 RX3 cy) (hD : DC Γ cy a X) (h : f_X3_weakestPart_B17 v1 v3 V x = some z) (hz : (Sum.elim (fun x : Int32 × Int32 => Wp Γ 0 0 17 [(0, .ref (a 3)), (1, .int v1), (2, .int x.1), (3, .int v3), (4, .int x.2)] [] (WC cy a V J K X)) (fun y : Int32 => FinI Γ cX3_weakestPart (WC cy a V J K X) y)) z) : Wp Γ 0 0 17 [(0, .ref (a 3)), (1, .int v1), (2, .int x.1), (3, .int v3), (4, .int x.2)] [] (WC cy a V J K X) := by
  unfold f_X3_weakestPart_B17 at h
  refine r_iload C0 dX3_weakestPart_17 4 rfl ?_
  refine r_iload_n C0 dX3_weakestPart_19 rfl 3 rfl ?_
  refine r_icmp_ge C0 46 dX3_weakestPart_20 rfl h (fun _ h => ?_) (fun _ h => ?_)
  · obtain ⟨y4, h5, h9⟩ := op_bind h
    clear h
    cases h9
    have hz := (el_inr hz)
    have h := h5
    refine r_iload_n C0 dX3_weakestPart_46 rfl 2 rfl ?_
    cases h
    exact hz _ _ dX3_weakestPart_47
  · refine r_iload_n C0 dX3_weakestPart_23 rfl 2 rfl ?_
    refine r_aload_n C0 dX3_weakestPart_24 rfl 0 rfl ?_
    refine wcg_3_2 C0 tf_X3_24 dX3_weakestPart_25 ?_
    refine r_iload_n C0 dX3_weakestPart_28 rfl 1 rfl ?_
    refine r_iconst C0 dX3_weakestPart_29 ki_4 ?_
    refine r_iload C0 dX3_weakestPart_30 4 rfl ?_
    refine r_iadd C0 dX3_weakestPart_32 ?_
    refine callV2 C0 h (hD _ _ _) mw_X7_get (rv_t tb_12) tm_X3_42 (fun y hy => c_X7_get tb_12 hy) (Nat.le_of_ble_eq_true rfl) (Nat.le_of_ble_eq_true rfl) dX3_weakestPart_33 (fun r5 h => ?_)
    refine r_mmin C0 dX3_weakestPart_36 tm_X3_57 (Nat.le_of_ble_eq_true rfl) (Nat.le_of_ble_eq_true rfl) ?_
    obtain ⟨a6, h8, h⟩ := op_bind h
    have e8 := Option.some.inj h8
    refine r_istore_n (lv2 := [(2, .int a6), (0, .ref (a 3)), (1, .int v1), (3, .int v3), (4, .int x.2)]) C0 dX3_weakestPart_39 rfl e8 (Nat.le_of_ble_eq_true rfl) rfl ?_
    obtain ⟨a7, h8, h⟩ := op_bind h
    have e8 := Option.some.inj h8
    refine r_iinc (lv2 := [(4, .int a7), (2, .int a6), (0, .ref (a 3)), (1, .int v1), (3, .int v3)]) C0 dX3_weakestPart_40 4 rfl ki_1 e8 (Nat.le_of_ble_eq_true rfl) rfl ?_
    refine r_goto C0 17 dX3_weakestPart_43 rfl ?_
    cases h
    have hz := el_inl hz
    exact r_sub [2, 3, 1, 4, 0] rfl hz
theorem w_X3_weakestPart_B17_lp {x : Int32 × Int32} {z : (Int32)} {Γ : Gam} {cy : Nat → ClassId} {a : Nat → Nat} {V : VT} {J : JT} {K : Nat → Option Nat} {X : va_W} {v1 : Int32} {v3 : Int32}  (C0 : CXg Γ cX3_weakestPart 5 1 RX3 cy) (hD : DC Γ cy a X) (h : lp (f_X3_weakestPart_B17 v1 v3 V) fuel x = some z) (hz : (fun y : Int32 => FinI Γ cX3_weakestPart (WC cy a V J K X) y) z) : Wp Γ 0 0 17 [(0, .ref (a 3)), (1, .int v1), (2, .int x.1), (3, .int v3), (4, .int x.2)] [] (WC cy a V J K X) :=
  lp_rule (hd := (fun x : Int32 × Int32 => Wp Γ 0 0 17 [(0, .ref (a 3)), (1, .int v1), (2, .int x.1), (3, .int v3), (4, .int x.2)] [] (WC cy a V J K X))) (C := (fun y : Int32 => FinI Γ cX3_weakestPart (WC cy a V J K X) y)) (fun x z h hz => w_X3_weakestPart_B17 C0 hD h hz) _ _ _ h hz
theorem w_X3_weakestPart {z : Int32} {Γ : Gam} {cy : Nat → ClassId} {a : Nat → Nat} {V : VT} {J : JT} {K : Nat → Option Nat} {X : va_W} {v1 : Int32}  (C0 : CXg Γ cX3_weakestPart 5 1 RX3 cy) (hD : DC Γ cy a X) (h : f_X3_weakestPart v1 V = some z) (hz : (fun y : Int32 => FinI Γ cX3_weakestPart (WC cy a V J K X) y) z) : Wp Γ 0 0 0 [(0, .ref (a 3)), (1, .int v1)] [] (WC cy a V J K X) := by
  unfold f_X3_weakestPart at h
  refine r_sipush C0 dX3_weakestPart_0 ks_30000 ?_
  obtain ⟨a1, h8, h⟩ := op_bind h
  have e8 := Option.some.inj h8
  refine r_istore_n (lv2 := [(2, .int a1), (0, .ref (a 3)), (1, .int v1)]) C0 dX3_weakestPart_3 rfl e8 (Nat.le_of_ble_eq_true rfl) rfl ?_
  refine r_aload_n C0 dX3_weakestPart_4 rfl 1 rfl ?_
  refine wcg_3_2 C0 tf_X3_24 dX3_weakestPart_5 ?_
  refine r_iload_n C0 dX3_weakestPart_8 rfl 2 rfl ?_
  refine r_iconst C0 dX3_weakestPart_9 ki_2 ?_
  refine callV2 C0 h (hD _ _ _) mw_X7_get (rv_t tb_12) tm_X3_42 (fun y hy => c_X7_get tb_12 hy) (Nat.le_of_ble_eq_true rfl) (Nat.le_of_ble_eq_true rfl) dX3_weakestPart_10 (fun r2 h => ?_)
  refine r_istore_n (lv2 := [(3, .int r2), (2, .int a1), (0, .ref (a 3)), (1, .int v1)]) C0 dX3_weakestPart_13 rfl rfl (Nat.le_of_ble_eq_true rfl) rfl ?_
  refine r_iconst C0 dX3_weakestPart_14 ki_0 ?_
  obtain ⟨a3, h8, h⟩ := op_bind h
  have e8 := Option.some.inj h8
  refine r_istore (lv2 := [(4, .int a3), (3, .int r2), (2, .int a1), (0, .ref (a 3)), (1, .int v1)]) C0 dX3_weakestPart_15 e8 (Nat.le_of_ble_eq_true rfl) rfl ?_
  exact r_sub [3, 4, 2, 1, 0] rfl (w_X3_weakestPart_B17_lp C0 hD h hz)
theorem c_X3_weakestPart {l : Launch} {D : va_G} {cy : Nat → ClassId} {a : Nat → Nat} {V : VT} {J : JT} {K : Nat → Option Nat} {X : va_W} {v1 : Int32} {y : Int32} (h : f_X3_weakestPart v1 V = some y) : CT l D cy yX3_weakestPart cX3_weakestPart 5 (some .int) 1 [.ref (a 3), .int v1] (WC cy a V J K X) (WC cy a V J K X) (some (.int y)) :=
  mkI (by decide) (Nat.le_of_ble_eq_true rfl) (fun Γ _ _ C0 hD hF => w_X3_weakestPart C0 (dc_of hD) h hF)
theorem dX10_isOneTooWeak_0 : decode cX10_isOneTooWeak 0 = .ok (.iconst 0, 1) := by decide +kernel
theorem dX10_isOneTooWeak_1 : decode cX10_isOneTooWeak 1 = .ok (.istore_n 1, 1) := by decide +kernel
theorem dX10_isOneTooWeak_2 : decode cX10_isOneTooWeak 2 = .ok (.iload_n 1, 1) := by decide +kernel
theorem dX10_isOneTooWeak_3 : decode cX10_isOneTooWeak 3 = .ok (.bipush 16, 2) := by decide +kernel
theorem dX10_isOneTooWeak_5 : decode cX10_isOneTooWeak 5 = .ok (.if_icmp .ge 45, 3) := by decide +kernel
theorem dX10_isOneTooWeak_8 : decode cX10_isOneTooWeak 8 = .ok (.aload_n 0, 1) := by decide +kernel
theorem dX10_isOneTooWeak_9 : decode cX10_isOneTooWeak 9 = .ok (.getfield 9, 3) := by decide +kernel
theorem dX10_isOneTooWeak_12 : decode cX10_isOneTooWeak 12 = .ok (.iload_n 1, 1) := by decide +kernel
theorem dX10_isOneTooWeak_13 : decode cX10_isOneTooWeak 13 = .ok (.iaload, 1) := by decide +kernel
theorem dX10_isOneTooWeak_14 : decode cX10_isOneTooWeak 14 = .ok (.istore_n 2, 1) := by decide +kernel
theorem dX10_isOneTooWeak_15 : decode cX10_isOneTooWeak 15 = .ok (.iload_n 2, 1) := by decide +kernel
theorem dX10_isOneTooWeak_16 : decode cX10_isOneTooWeak 16 = .ok (.ifCond .lt 28, 3) := by decide +kernel
theorem dX10_isOneTooWeak_19 : decode cX10_isOneTooWeak 19 = .ok (.aload_n 0, 1) := by decide +kernel
theorem dX10_isOneTooWeak_20 : decode cX10_isOneTooWeak 20 = .ok (.getfield 15, 3) := by decide +kernel
theorem dX10_isOneTooWeak_23 : decode cX10_isOneTooWeak 23 = .ok (.iload_n 1, 1) := by decide +kernel
theorem dX10_isOneTooWeak_24 : decode cX10_isOneTooWeak 24 = .ok (.laload, 1) := by decide +kernel
theorem dX10_isOneTooWeak_25 : decode cX10_isOneTooWeak 25 = .ok (.ldc2_w 101, 3) := by decide +kernel
theorem dX10_isOneTooWeak_28 : decode cX10_isOneTooWeak 28 = .ok (.aload_n 0, 1) := by decide +kernel
theorem dX10_isOneTooWeak_29 : decode cX10_isOneTooWeak 29 = .ok (.getfield 19, 3) := by decide +kernel
theorem dX10_isOneTooWeak_32 : decode cX10_isOneTooWeak 32 = .ok (.iload_n 2, 1) := by decide +kernel
theorem dX10_isOneTooWeak_33 : decode cX10_isOneTooWeak 33 = .ok (.invokevirtual 106, 3) := by decide +kernel
theorem dX10_isOneTooWeak_36 : decode cX10_isOneTooWeak 36 = .ok (.i2l, 1) := by decide +kernel
theorem dX10_isOneTooWeak_37 : decode cX10_isOneTooWeak 37 = .ok (.lmul, 1) := by decide +kernel
theorem dX10_isOneTooWeak_38 : decode cX10_isOneTooWeak 38 = .ok (.lcmp, 1) := by decide +kernel
theorem dX10_isOneTooWeak_39 : decode cX10_isOneTooWeak 39 = .ok (.ifCond .le 5, 3) := by decide +kernel
theorem dX10_isOneTooWeak_42 : decode cX10_isOneTooWeak 42 = .ok (.iconst 1, 1) := by decide +kernel
theorem dX10_isOneTooWeak_43 : decode cX10_isOneTooWeak 43 = .ok (.ireturn, 1) := by decide +kernel
theorem dX10_isOneTooWeak_44 : decode cX10_isOneTooWeak 44 = .ok (.iinc 1 1, 3) := by decide +kernel
theorem dX10_isOneTooWeak_47 : decode cX10_isOneTooWeak 47 = .ok (.goto (-45), 3) := by decide +kernel
theorem dX10_isOneTooWeak_50 : decode cX10_isOneTooWeak 50 = .ok (.iconst 0, 1) := by decide +kernel
theorem dX10_isOneTooWeak_51 : decode cX10_isOneTooWeak 51 = .ok (.ireturn, 1) := by decide +kernel
theorem w_X10_isOneTooWeak_j44 {z : ((Int32) ⊕ (Int32))} {Γ : Gam} {cy : Nat → ClassId} {a : Nat → Nat} {V : VT} {J : JT} {K : Nat → Option Nat} {X : va_W} {v1 : Int32}  (C0 : CXg Γ cX10_isOneTooWeak 3 2 RX10 cy) (hD : DC Γ cy a X) (h : f_X10_isOneTooWeak_j44 v1 V J = some z) (hz : (Sum.elim (fun x : Int32 => Wp Γ 0 0 2 [(0, .ref (a 4)), (1, .int x)] [] (WC cy a V J K X)) (fun y : Int32 => FinZ Γ cX10_isOneTooWeak (WC cy a V J K X) y)) z) : Wp Γ 0 0 44 [(0, .ref (a 4)), (1, .int v1)] [] (WC cy a V J K X) := by
  unfold f_X10_isOneTooWeak_j44 at h
  obtain ⟨a5, h8, h⟩ := op_bind h
  have e8 := Option.some.inj h8
  refine r_iinc (lv2 := [(1, .int a5), (0, .ref (a 4))]) C0 dX10_isOneTooWeak_44 1 rfl ki_1 e8 (Nat.le_of_ble_eq_true rfl) rfl ?_
  refine r_goto C0 2 dX10_isOneTooWeak_47 rfl ?_
  cases h
  have hz := el_inl hz
  exact r_sub [1, 0] rfl hz
theorem w_X10_isOneTooWeak_B2 {x : Int32} {z : ((Int32) ⊕ (Int32))} {Γ : Gam} {cy : Nat → ClassId} {a : Nat → Nat} {V : VT} {J : JT} {K : Nat → Option Nat} {X : va_W}  (C0 : CXg Γ cX10_isOneTooWeak 3 2 RX10 cy) (hD : DC Γ cy a X) (h : f_X10_isOneTooWeak_B2 V J x = some z) (hz : (Sum.elim (fun x : Int32 => Wp Γ 0 0 2 [(0, .ref (a 4)), (1, .int x)] [] (WC cy a V J K X)) (fun y : Int32 => FinZ Γ cX10_isOneTooWeak (WC cy a V J K X) y)) z) : Wp Γ 0 0 2 [(0, .ref (a 4)), (1, .int x)] [] (WC cy a V J K X) := by
  unfold f_X10_isOneTooWeak_B2 at h
  refine r_iload_n C0 dX10_isOneTooWeak_2 rfl 1 rfl ?_
  refine r_bipush C0 dX10_isOneTooWeak_3 kb_16 ?_
  refine r_icmp_ge C0 50 dX10_isOneTooWeak_5 rfl h (fun _ h => ?_) (fun _ h => ?_)
  · obtain ⟨y2, h5, h9⟩ := op_bind h
    clear h
    cases h9
    have hz := (el_inr hz)
    have h := h5
    refine r_iconst C0 dX10_isOneTooWeak_50 ki_0 ?_
    cases h
    exact hz _ _ nz_0 dX10_isOneTooWeak_51
  · refine r_aload_n C0 dX10_isOneTooWeak_8 rfl 0 rfl ?_
    refine wcg_4_1 C0 tf_X10_9 dX10_isOneTooWeak_9 ?_
    refine r_iload_n C0 dX10_isOneTooWeak_12 rfl 1 rfl ?_
    refine wcal_23 C0 h dX10_isOneTooWeak_13 (fun k3 h => ?_)
    obtain ⟨a4, h8, h⟩ := op_bind h
    have e8 := Option.some.inj h8
    refine r_istore_n (lv2 := [(2, .int a4), (0, .ref (a 4)), (1, .int x)]) C0 dX10_isOneTooWeak_14 rfl e8 (Nat.le_of_ble_eq_true rfl) rfl ?_
    refine r_iload_n C0 dX10_isOneTooWeak_15 rfl 0 rfl ?_
    refine r_if_lt C0 44 dX10_isOneTooWeak_16 rfl h (fun _ h => ?_) (fun _ h => ?_)
    · exact r_sub [1, 2] rfl (w_X10_isOneTooWeak_j44 C0 hD h hz)
    · refine r_aload_n C0 dX10_isOneTooWeak_19 rfl 1 rfl ?_
      refine wcg_4_2 C0 tf_X10_15 dX10_isOneTooWeak_20 ?_
      refine r_iload_n C0 dX10_isOneTooWeak_23 rfl 2 rfl ?_
      refine wcal_24 C0 h dX10_isOneTooWeak_24 (fun k6 h => ?_)
      refine r_ldc2 C0 tk_X10_101 dX10_isOneTooWeak_25 ?_
      refine r_aload_n C0 dX10_isOneTooWeak_28 rfl 1 rfl ?_
      refine wcg_4_0 C0 tf_X10_19 dX10_isOneTooWeak_29 ?_
      refine r_iload_n C0 dX10_isOneTooWeak_32 rfl 0 rfl ?_
      refine callV1 C0 h (hD _ _ _) mw_X3_weakestPart rv_3 tm_X10_106 (fun y hy => c_X3_weakestPart hy) (Nat.le_of_ble_eq_true rfl) (Nat.le_of_ble_eq_true rfl) dX10_isOneTooWeak_33 (fun r7 h => ?_)
      refine r_i2l C0 dX10_isOneTooWeak_36 ?_
      refine r_lmul C0 dX10_isOneTooWeak_37 ?_
      refine r_lcmp C0 dX10_isOneTooWeak_38 ?_
      refine r_if_le C0 44 dX10_isOneTooWeak_39 rfl h (fun _ h => ?_) (fun _ h => ?_)
      · exact r_sub [1, 2] rfl (w_X10_isOneTooWeak_j44 C0 hD h hz)
      · obtain ⟨y8, h5, h9⟩ := op_bind h
        clear h
        cases h9
        have hz := (el_inr hz)
        have h := h5
        refine r_iconst C0 dX10_isOneTooWeak_42 ki_1 ?_
        cases h
        exact hz _ _ nz_1 dX10_isOneTooWeak_43
theorem w_X10_isOneTooWeak_B2_lp {x : Int32} {z : (Int32)} {Γ : Gam} {cy : Nat → ClassId} {a : Nat → Nat} {V : VT} {J : JT} {K : Nat → Option Nat} {X : va_W}  (C0 : CXg Γ cX10_isOneTooWeak 3 2 RX10 cy) (hD : DC Γ cy a X) (h : lp (f_X10_isOneTooWeak_B2 V J) fuel x = some z) (hz : (fun y : Int32 => FinZ Γ cX10_isOneTooWeak (WC cy a V J K X) y) z) : Wp Γ 0 0 2 [(0, .ref (a 4)), (1, .int x)] [] (WC cy a V J K X) :=
  lp_rule (hd := (fun x : Int32 => Wp Γ 0 0 2 [(0, .ref (a 4)), (1, .int x)] [] (WC cy a V J K X))) (C := (fun y : Int32 => FinZ Γ cX10_isOneTooWeak (WC cy a V J K X) y)) (fun x z h hz => w_X10_isOneTooWeak_B2 C0 hD h hz) _ _ _ h hz
theorem w_X10_isOneTooWeak {z : Int32} {Γ : Gam} {cy : Nat → ClassId} {a : Nat → Nat} {V : VT} {J : JT} {K : Nat → Option Nat} {X : va_W}  (C0 : CXg Γ cX10_isOneTooWeak 3 2 RX10 cy) (hD : DC Γ cy a X) (h : f_X10_isOneTooWeak V J = some z) (hz : (fun y : Int32 => FinZ Γ cX10_isOneTooWeak (WC cy a V J K X) y) z) : Wp Γ 0 0 0 [(0, .ref (a 4))] [] (WC cy a V J K X) := by
  unfold f_X10_isOneTooWeak at h
  refine r_iconst C0 dX10_isOneTooWeak_0 ki_0 ?_
  obtain ⟨a1, h8, h⟩ := op_bind h
  have e8 := Option.some.inj h8
  refine r_istore_n (lv2 := [(1, .int a1), (0, .ref (a 4))]) C0 dX10_isOneTooWeak_1 rfl e8 (Nat.le_of_ble_eq_true rfl) rfl ?_
  exact r_sub [1, 0] rfl (w_X10_isOneTooWeak_B2_lp C0 hD h hz)
theorem c_X10_isOneTooWeak {l : Launch} {D : va_G} {cy : Nat → ClassId} {a : Nat → Nat} {V : VT} {J : JT} {K : Nat → Option Nat} {X : va_W} {y : Int32} (h : f_X10_isOneTooWeak V J = some y) : CT l D cy yX10_isOneTooWeak cX10_isOneTooWeak 3 (some .boolean) 2 [.ref (a 4)] (WC cy a V J K X) (WC cy a V J K X) (some (.int y)) :=
  mkZ (by decide) (Nat.le_of_ble_eq_true rfl) (fun Γ _ _ C0 hD hF => w_X10_isOneTooWeak C0 (dc_of hD) h hF)
theorem dX10_lineAtOrBehind_0 : decode cX10_lineAtOrBehind 0 = .ok (.iload_n 1, 1) := by decide +kernel
theorem dX10_lineAtOrBehind_1 : decode cX10_lineAtOrBehind 1 = .ok (.istore_n 2, 1) := by decide +kernel
theorem dX10_lineAtOrBehind_2 : decode cX10_lineAtOrBehind 2 = .ok (.iload_n 2, 1) := by decide +kernel
theorem dX10_lineAtOrBehind_3 : decode cX10_lineAtOrBehind 3 = .ok (.ifCond .lt 29, 3) := by decide +kernel
theorem dX10_lineAtOrBehind_6 : decode cX10_lineAtOrBehind 6 = .ok (.iload_n 2, 1) := by decide +kernel
theorem dX10_lineAtOrBehind_7 : decode cX10_lineAtOrBehind 7 = .ok (.aload_n 0, 1) := by decide +kernel
theorem dX10_lineAtOrBehind_8 : decode cX10_lineAtOrBehind 8 = .ok (.getfield 9, 3) := by decide +kernel
theorem dX10_lineAtOrBehind_11 : decode cX10_lineAtOrBehind 11 = .ok (.arraylength, 1) := by decide +kernel
theorem dX10_lineAtOrBehind_12 : decode cX10_lineAtOrBehind 12 = .ok (.if_icmp .ge 20, 3) := by decide +kernel
theorem dX10_lineAtOrBehind_15 : decode cX10_lineAtOrBehind 15 = .ok (.aload_n 0, 1) := by decide +kernel
theorem dX10_lineAtOrBehind_16 : decode cX10_lineAtOrBehind 16 = .ok (.getfield 9, 3) := by decide +kernel
theorem dX10_lineAtOrBehind_19 : decode cX10_lineAtOrBehind 19 = .ok (.iload_n 2, 1) := by decide +kernel
theorem dX10_lineAtOrBehind_20 : decode cX10_lineAtOrBehind 20 = .ok (.iaload, 1) := by decide +kernel
theorem dX10_lineAtOrBehind_21 : decode cX10_lineAtOrBehind 21 = .ok (.ifCond .lt 5, 3) := by decide +kernel
theorem dX10_lineAtOrBehind_24 : decode cX10_lineAtOrBehind 24 = .ok (.iload_n 2, 1) := by decide +kernel
theorem dX10_lineAtOrBehind_25 : decode cX10_lineAtOrBehind 25 = .ok (.ireturn, 1) := by decide +kernel
theorem dX10_lineAtOrBehind_26 : decode cX10_lineAtOrBehind 26 = .ok (.iinc 2 1, 3) := by decide +kernel
theorem dX10_lineAtOrBehind_29 : decode cX10_lineAtOrBehind 29 = .ok (.goto (-27), 3) := by decide +kernel
theorem dX10_lineAtOrBehind_32 : decode cX10_lineAtOrBehind 32 = .ok (.ldc 87, 2) := by decide +kernel
theorem dX10_lineAtOrBehind_34 : decode cX10_lineAtOrBehind 34 = .ok (.ireturn, 1) := by decide +kernel
theorem w_X10_lineAtOrBehind_B2 {x : Int32} {z : ((Int32) ⊕ (Int32))} {Γ : Gam} {cy : Nat → ClassId} {a : Nat → Nat} {V : VT} {J : JT} {K : Nat → Option Nat} {X : va_W}  (C0 : CXg Γ cX10_lineAtOrBehind 3 0 RX10 cy) (hD : DC Γ cy a X) (h : f_X10_lineAtOrBehind_B2 V x = some z) (hz : (Sum.elim (fun x : Int32 => Wp Γ 0 0 2 [(0, .ref (a 4)), (2, .int x)] [] (WC cy a V J K X)) (fun y : Int32 => FinI Γ cX10_lineAtOrBehind (WC cy a V J K X) y)) z) : Wp Γ 0 0 2 [(0, .ref (a 4)), (2, .int x)] [] (WC cy a V J K X) := by
  unfold f_X10_lineAtOrBehind_B2 at h
  refine r_iload_n C0 dX10_lineAtOrBehind_2 rfl 1 rfl ?_
  refine r_if_lt C0 32 dX10_lineAtOrBehind_3 rfl h (fun _ h => ?_) (fun _ h => ?_)
  · obtain ⟨y1, h5, h9⟩ := op_bind h
    clear h
    cases h9
    have hz := (el_inr hz)
    have h := h5
    refine r_ldc C0 tk_X10_87 dX10_lineAtOrBehind_32 ?_
    cases h
    exact hz _ _ dX10_lineAtOrBehind_34
  · refine r_iload_n C0 dX10_lineAtOrBehind_6 rfl 1 rfl ?_
    refine r_aload_n C0 dX10_lineAtOrBehind_7 rfl 0 rfl ?_
    refine wcg_4_1 C0 tf_X10_9 dX10_lineAtOrBehind_8 ?_
    refine wcln_23 C0 dX10_lineAtOrBehind_11 ?_
    refine r_icmp_ge C0 32 dX10_lineAtOrBehind_12 rfl h (fun _ h => ?_) (fun _ h => ?_)
    · obtain ⟨y2, h5, h9⟩ := op_bind h
      clear h
      cases h9
      have hz := (el_inr hz)
      have h := h5
      refine r_ldc C0 tk_X10_87 dX10_lineAtOrBehind_32 ?_
      cases h
      exact hz _ _ dX10_lineAtOrBehind_34
    · refine r_aload_n C0 dX10_lineAtOrBehind_15 rfl 0 rfl ?_
      refine wcg_4_1 C0 tf_X10_9 dX10_lineAtOrBehind_16 ?_
      refine r_iload_n C0 dX10_lineAtOrBehind_19 rfl 1 rfl ?_
      refine wcal_23 C0 h dX10_lineAtOrBehind_20 (fun k3 h => ?_)
      refine r_if_lt C0 26 dX10_lineAtOrBehind_21 rfl h (fun _ h => ?_) (fun _ h => ?_)
      · obtain ⟨a4, h8, h⟩ := op_bind h
        have e8 := Option.some.inj h8
        refine r_iinc (lv2 := [(2, .int a4), (0, .ref (a 4))]) C0 dX10_lineAtOrBehind_26 1 rfl ki_1 e8 (Nat.le_of_ble_eq_true rfl) rfl ?_
        refine r_goto C0 2 dX10_lineAtOrBehind_29 rfl ?_
        cases h
        have hz := el_inl hz
        exact r_sub [1, 0] rfl hz
      · obtain ⟨y5, h5, h9⟩ := op_bind h
        clear h
        cases h9
        have hz := (el_inr hz)
        have h := h5
        refine r_iload_n C0 dX10_lineAtOrBehind_24 rfl 1 rfl ?_
        cases h
        exact hz _ _ dX10_lineAtOrBehind_25
theorem w_X10_lineAtOrBehind_B2_lp {x : Int32} {z : (Int32)} {Γ : Gam} {cy : Nat → ClassId} {a : Nat → Nat} {V : VT} {J : JT} {K : Nat → Option Nat} {X : va_W}  (C0 : CXg Γ cX10_lineAtOrBehind 3 0 RX10 cy) (hD : DC Γ cy a X) (h : lp (f_X10_lineAtOrBehind_B2 V) fuel x = some z) (hz : (fun y : Int32 => FinI Γ cX10_lineAtOrBehind (WC cy a V J K X) y) z) : Wp Γ 0 0 2 [(0, .ref (a 4)), (2, .int x)] [] (WC cy a V J K X) :=
  lp_rule (hd := (fun x : Int32 => Wp Γ 0 0 2 [(0, .ref (a 4)), (2, .int x)] [] (WC cy a V J K X))) (C := (fun y : Int32 => FinI Γ cX10_lineAtOrBehind (WC cy a V J K X) y)) (fun x z h hz => w_X10_lineAtOrBehind_B2 C0 hD h hz) _ _ _ h hz
theorem w_X10_lineAtOrBehind {z : Int32} {Γ : Gam} {cy : Nat → ClassId} {a : Nat → Nat} {V : VT} {J : JT} {K : Nat → Option Nat} {X : va_W} {v1 : Int32}  (C0 : CXg Γ cX10_lineAtOrBehind 3 0 RX10 cy) (hD : DC Γ cy a X) (h : f_X10_lineAtOrBehind v1 V = some z) (hz : (fun y : Int32 => FinI Γ cX10_lineAtOrBehind (WC cy a V J K X) y) z) : Wp Γ 0 0 0 [(0, .ref (a 4)), (1, .int v1)] [] (WC cy a V J K X) := by
  unfold f_X10_lineAtOrBehind at h
  refine r_iload_n C0 dX10_lineAtOrBehind_0 rfl 1 rfl ?_
  refine r_istore_n (lv2 := [(2, .int v1), (0, .ref (a 4)), (1, .int v1)]) C0 dX10_lineAtOrBehind_1 rfl rfl (Nat.le_of_ble_eq_true rfl) rfl ?_
  exact r_sub [1, 0] rfl (w_X10_lineAtOrBehind_B2_lp C0 hD h hz)
theorem c_X10_lineAtOrBehind {l : Launch} {D : va_G} {cy : Nat → ClassId} {a : Nat → Nat} {V : VT} {J : JT} {K : Nat → Option Nat} {X : va_W} {v1 : Int32} {y : Int32} (h : f_X10_lineAtOrBehind v1 V = some y) : CT l D cy yX10_lineAtOrBehind cX10_lineAtOrBehind 3 (some .int) 0 [.ref (a 4), .int v1] (WC cy a V J K X) (WC cy a V J K X) (some (.int y)) :=
  mkI (by decide) (Nat.le_of_ble_eq_true rfl) (fun Γ _ _ C0 hD hF => w_X10_lineAtOrBehind C0 (dc_of hD) h hF)
theorem dX10_isUpright_0 : decode cX10_isUpright 0 = .ok (.aload_n 0, 1) := by decide +kernel
theorem dX10_isUpright_1 : decode cX10_isUpright 1 = .ok (.iconst 0, 1) := by decide +kernel
theorem dX10_isUpright_2 : decode cX10_isUpright 2 = .ok (.invokevirtual 98, 3) := by decide +kernel
theorem dX10_isUpright_5 : decode cX10_isUpright 5 = .ok (.istore_n 2, 1) := by decide +kernel
theorem dX10_isUpright_6 : decode cX10_isUpright 6 = .ok (.iconst 0, 1) := by decide +kernel
theorem dX10_isUpright_7 : decode cX10_isUpright 7 = .ok (.istore_n 3, 1) := by decide +kernel
theorem dX10_isUpright_8 : decode cX10_isUpright 8 = .ok (.iconst 0, 1) := by decide +kernel
theorem dX10_isUpright_9 : decode cX10_isUpright 9 = .ok (.istore 4, 2) := by decide +kernel
theorem dX10_isUpright_11 : decode cX10_isUpright 11 = .ok (.iload 4, 2) := by decide +kernel
theorem dX10_isUpright_13 : decode cX10_isUpright 13 = .ok (.bipush 16, 2) := by decide +kernel
theorem dX10_isUpright_15 : decode cX10_isUpright 15 = .ok (.if_icmp .ge 47, 3) := by decide +kernel
theorem dX10_isUpright_18 : decode cX10_isUpright 18 = .ok (.aload_n 0, 1) := by decide +kernel
theorem dX10_isUpright_19 : decode cX10_isUpright 19 = .ok (.getfield 19, 3) := by decide +kernel
theorem dX10_isUpright_22 : decode cX10_isUpright 22 = .ok (.iload_n 1, 1) := by decide +kernel
theorem dX10_isUpright_23 : decode cX10_isUpright 23 = .ok (.iload 4, 2) := by decide +kernel
theorem dX10_isUpright_25 : decode cX10_isUpright 25 = .ok (.invokevirtual 37, 3) := by decide +kernel
theorem dX10_isUpright_28 : decode cX10_isUpright 28 = .ok (.istore 5, 2) := by decide +kernel
theorem dX10_isUpright_30 : decode cX10_isUpright 30 = .ok (.iload 5, 2) := by decide +kernel
theorem dX10_isUpright_32 : decode cX10_isUpright 32 = .ok (.ifCond .lt 24, 3) := by decide +kernel
theorem dX10_isUpright_35 : decode cX10_isUpright 35 = .ok (.iload_n 3, 1) := by decide +kernel
theorem dX10_isUpright_36 : decode cX10_isUpright 36 = .ok (.aload_n 0, 1) := by decide +kernel
theorem dX10_isUpright_37 : decode cX10_isUpright 37 = .ok (.getfield 19, 3) := by decide +kernel
theorem dX10_isUpright_40 : decode cX10_isUpright 40 = .ok (.getfield 23, 3) := by decide +kernel
theorem dX10_isUpright_43 : decode cX10_isUpright 43 = .ok (.iload 5, 2) := by decide +kernel
theorem dX10_isUpright_45 : decode cX10_isUpright 45 = .ok (.iconst 4, 1) := by decide +kernel
theorem dX10_isUpright_46 : decode cX10_isUpright 46 = .ok (.invokevirtual 29, 3) := by decide +kernel
theorem dX10_isUpright_49 : decode cX10_isUpright 49 = .ok (.iload 4, 2) := by decide +kernel
theorem dX10_isUpright_51 : decode cX10_isUpright 51 = .ok (.iload_n 2, 1) := by decide +kernel
theorem dX10_isUpright_52 : decode cX10_isUpright 52 = .ok (.isub, 1) := by decide +kernel
theorem dX10_isUpright_53 : decode cX10_isUpright 53 = .ok (.imul, 1) := by decide +kernel
theorem dX10_isUpright_54 : decode cX10_isUpright 54 = .ok (.iadd, 1) := by decide +kernel
theorem dX10_isUpright_55 : decode cX10_isUpright 55 = .ok (.istore_n 3, 1) := by decide +kernel
theorem dX10_isUpright_56 : decode cX10_isUpright 56 = .ok (.iinc 4 1, 3) := by decide +kernel
theorem dX10_isUpright_59 : decode cX10_isUpright 59 = .ok (.goto (-48), 3) := by decide +kernel
theorem dX10_isUpright_62 : decode cX10_isUpright 62 = .ok (.iload_n 3, 1) := by decide +kernel
theorem dX10_isUpright_63 : decode cX10_isUpright 63 = .ok (.ifCond .ne 7, 3) := by decide +kernel
theorem dX10_isUpright_66 : decode cX10_isUpright 66 = .ok (.iconst 1, 1) := by decide +kernel
theorem dX10_isUpright_67 : decode cX10_isUpright 67 = .ok (.goto 4, 3) := by decide +kernel
theorem dX10_isUpright_70 : decode cX10_isUpright 70 = .ok (.iconst 0, 1) := by decide +kernel
theorem dX10_isUpright_71 : decode cX10_isUpright 71 = .ok (.ireturn, 1) := by decide +kernel
theorem w_X10_isUpright_j56 {z : ((Int32 × Int32) ⊕ (Int32))} {Γ : Gam} {cy : Nat → ClassId} {a : Nat → Nat} {V : VT} {J : JT} {K : Nat → Option Nat} {X : va_W} {v1 : Int32} {v2 : Int32} {v3 : Int32} {v4 : Int32}  (C0 : CXg Γ cX10_isUpright 6 2 RX10 cy) (hD : DC Γ cy a X) (h : f_X10_isUpright_j56 v1 v2 v3 v4 V = some z) (hz : (Sum.elim (fun x : Int32 × Int32 => Wp Γ 0 0 11 [(0, .ref (a 4)), (1, .int v1), (2, .int v2), (3, .int x.1), (4, .int x.2)] [] (WC cy a V J K X)) (fun y : Int32 => FinZ Γ cX10_isUpright (WC cy a V J K X) y)) z) : Wp Γ 0 0 56 [(0, .ref (a 4)), (1, .int v1), (2, .int v2), (3, .int v3), (4, .int v4)] [] (WC cy a V J K X) := by
  unfold f_X10_isUpright_j56 at h
  obtain ⟨a6, h8, h⟩ := op_bind h
  have e8 := Option.some.inj h8
  refine r_iinc (lv2 := [(4, .int a6), (0, .ref (a 4)), (1, .int v1), (2, .int v2), (3, .int v3)]) C0 dX10_isUpright_56 4 rfl ki_1 e8 (Nat.le_of_ble_eq_true rfl) rfl ?_
  refine r_goto C0 11 dX10_isUpright_59 rfl ?_
  cases h
  have hz := el_inl hz
  exact r_sub [1, 2, 3, 4, 0] rfl hz
theorem w_X10_isUpright_B11 {x : Int32 × Int32} {z : ((Int32 × Int32) ⊕ (Int32))} {Γ : Gam} {cy : Nat → ClassId} {a : Nat → Nat} {V : VT} {J : JT} {K : Nat → Option Nat} {X : va_W} {v1 : Int32} {v2 : Int32}  (C0 : CXg Γ cX10_isUpright 6 2 RX10 cy) (hD : DC Γ cy a X) (h : f_X10_isUpright_B11 v1 v2 V x = some z) (hz : (Sum.elim (fun x : Int32 × Int32 => Wp Γ 0 0 11 [(0, .ref (a 4)), (1, .int v1), (2, .int v2), (3, .int x.1), (4, .int x.2)] [] (WC cy a V J K X)) (fun y : Int32 => FinZ Γ cX10_isUpright (WC cy a V J K X) y)) z) : Wp Γ 0 0 11 [(0, .ref (a 4)), (1, .int v1), (2, .int v2), (3, .int x.1), (4, .int x.2)] [] (WC cy a V J K X) := by
  unfold f_X10_isUpright_B11 at h
  refine r_iload C0 dX10_isUpright_11 4 rfl ?_
  refine r_bipush C0 dX10_isUpright_13 kb_16 ?_
  refine r_icmp_ge C0 62 dX10_isUpright_15 rfl h (fun _ h => ?_) (fun _ h => ?_)
  · obtain ⟨y4, h5, h9⟩ := op_bind h
    clear h
    cases h9
    have hz := (el_inr hz)
    have h := h5
    refine r_iload_n C0 dX10_isUpright_62 rfl 3 rfl ?_
    refine r_if_ne C0 70 dX10_isUpright_63 rfl h (fun _ h => ?_) (fun _ h => ?_)
    · refine r_iconst C0 dX10_isUpright_70 ki_0 ?_
      cases h
      exact hz _ _ nz_0 dX10_isUpright_71
    · refine r_iconst C0 dX10_isUpright_66 ki_1 ?_
      refine r_goto C0 71 dX10_isUpright_67 rfl ?_
      cases h
      exact hz _ _ nz_1 dX10_isUpright_71
  · refine r_aload_n C0 dX10_isUpright_18 rfl 0 rfl ?_
    refine wcg_4_0 C0 tf_X10_19 dX10_isUpright_19 ?_
    refine r_iload_n C0 dX10_isUpright_22 rfl 1 rfl ?_
    refine r_iload C0 dX10_isUpright_23 4 rfl ?_
    refine callV2 C0 h (hD _ _ _) mw_X3_thingIn rv_3 tm_X10_37 (fun y hy => c_X3_thingIn hy) (Nat.le_of_ble_eq_true rfl) (Nat.le_of_ble_eq_true rfl) dX10_isUpright_25 (fun r5 h => ?_)
    refine r_istore (lv2 := [(5, .int r5), (0, .ref (a 4)), (1, .int v1), (2, .int v2), (3, .int x.1), (4, .int x.2)]) C0 dX10_isUpright_28 rfl (Nat.le_of_ble_eq_true rfl) rfl ?_
    refine r_iload C0 dX10_isUpright_30 0 rfl ?_
    refine r_if_lt C0 56 dX10_isUpright_32 rfl h (fun _ h => ?_) (fun _ h => ?_)
    · exact r_sub [1, 2, 3, 4, 5] rfl (w_X10_isUpright_j56 C0 hD h hz)
    · refine r_iload_n C0 dX10_isUpright_35 rfl 4 rfl ?_
      refine r_aload_n C0 dX10_isUpright_36 rfl 1 rfl ?_
      refine wcg_4_0 C0 tf_X10_19 dX10_isUpright_37 ?_
      refine wcg_3_3 C0 tf_X10_23 dX10_isUpright_40 ?_
      refine r_iload C0 dX10_isUpright_43 0 rfl ?_
      refine r_iconst C0 dX10_isUpright_45 ki_4 ?_
      refine callV2 C0 h (hD _ _ _) mw_X7_get (rv_t tb_13) tm_X10_29 (fun y hy => c_X7_get tb_13 hy) (Nat.le_of_ble_eq_true rfl) (Nat.le_of_ble_eq_true rfl) dX10_isUpright_46 (fun r7 h => ?_)
      refine r_iload C0 dX10_isUpright_49 5 rfl ?_
      refine r_iload_n C0 dX10_isUpright_51 rfl 3 rfl ?_
      refine r_isub C0 dX10_isUpright_52 ?_
      refine r_imul C0 dX10_isUpright_53 ?_
      refine r_iadd C0 dX10_isUpright_54 ?_
      obtain ⟨a8, h8, h⟩ := op_bind h
      have e8 := Option.some.inj h8
      refine r_istore_n (lv2 := [(3, .int a8), (5, .int r5), (0, .ref (a 4)), (1, .int v1), (2, .int v2), (4, .int x.2)]) C0 dX10_isUpright_55 rfl e8 (Nat.le_of_ble_eq_true rfl) rfl ?_
      exact r_sub [2, 3, 4, 0, 5] rfl (w_X10_isUpright_j56 C0 hD h hz)
theorem w_X10_isUpright_B11_lp {x : Int32 × Int32} {z : (Int32)} {Γ : Gam} {cy : Nat → ClassId} {a : Nat → Nat} {V : VT} {J : JT} {K : Nat → Option Nat} {X : va_W} {v1 : Int32} {v2 : Int32}  (C0 : CXg Γ cX10_isUpright 6 2 RX10 cy) (hD : DC Γ cy a X) (h : lp (f_X10_isUpright_B11 v1 v2 V) fuel x = some z) (hz : (fun y : Int32 => FinZ Γ cX10_isUpright (WC cy a V J K X) y) z) : Wp Γ 0 0 11 [(0, .ref (a 4)), (1, .int v1), (2, .int v2), (3, .int x.1), (4, .int x.2)] [] (WC cy a V J K X) :=
  lp_rule (hd := (fun x : Int32 × Int32 => Wp Γ 0 0 11 [(0, .ref (a 4)), (1, .int v1), (2, .int v2), (3, .int x.1), (4, .int x.2)] [] (WC cy a V J K X))) (C := (fun y : Int32 => FinZ Γ cX10_isUpright (WC cy a V J K X) y)) (fun x z h hz => w_X10_isUpright_B11 C0 hD h hz) _ _ _ h hz
theorem w_X10_isUpright {z : Int32} {Γ : Gam} {cy : Nat → ClassId} {a : Nat → Nat} {V : VT} {J : JT} {K : Nat → Option Nat} {X : va_W} {v1 : Int32}  (C0 : CXg Γ cX10_isUpright 6 2 RX10 cy) (hD : DC Γ cy a X) (h : f_X10_isUpright v1 V = some z) (hz : (fun y : Int32 => FinZ Γ cX10_isUpright (WC cy a V J K X) y) z) : Wp Γ 0 0 0 [(0, .ref (a 4)), (1, .int v1)] [] (WC cy a V J K X) := by
  unfold f_X10_isUpright at h
  refine r_aload_n C0 dX10_isUpright_0 rfl 0 rfl ?_
  refine r_iconst C0 dX10_isUpright_1 ki_0 ?_
  refine callV1 C0 h (hD _ _ _) mw_X10_lineAtOrBehind rv_4 tm_X10_98 (fun y hy => c_X10_lineAtOrBehind hy) (Nat.le_of_ble_eq_true rfl) (Nat.le_of_ble_eq_true rfl) dX10_isUpright_2 (fun r1 h => ?_)
  refine r_istore_n (lv2 := [(2, .int r1), (0, .ref (a 4)), (1, .int v1)]) C0 dX10_isUpright_5 rfl rfl (Nat.le_of_ble_eq_true rfl) rfl ?_
  refine r_iconst C0 dX10_isUpright_6 ki_0 ?_
  obtain ⟨a2, h8, h⟩ := op_bind h
  have e8 := Option.some.inj h8
  refine r_istore_n (lv2 := [(3, .int a2), (2, .int r1), (0, .ref (a 4)), (1, .int v1)]) C0 dX10_isUpright_7 rfl e8 (Nat.le_of_ble_eq_true rfl) rfl ?_
  refine r_iconst C0 dX10_isUpright_8 ki_0 ?_
  obtain ⟨a3, h8, h⟩ := op_bind h
  have e8 := Option.some.inj h8
  refine r_istore (lv2 := [(4, .int a3), (3, .int a2), (2, .int r1), (0, .ref (a 4)), (1, .int v1)]) C0 dX10_isUpright_9 e8 (Nat.le_of_ble_eq_true rfl) rfl ?_
  exact r_sub [3, 4, 2, 1, 0] rfl (w_X10_isUpright_B11_lp C0 hD h hz)
theorem c_X10_isUpright {l : Launch} {D : va_G} {cy : Nat → ClassId} {a : Nat → Nat} {V : VT} {J : JT} {K : Nat → Option Nat} {X : va_W} {v1 : Int32} {y : Int32} (h : f_X10_isUpright v1 V = some y) : CT l D cy yX10_isUpright cX10_isUpright 6 (some .boolean) 2 [.ref (a 4), .int v1] (WC cy a V J K X) (WC cy a V J K X) (some (.int y)) :=
  mkZ (by decide) (Nat.le_of_ble_eq_true rfl) (fun Γ _ _ C0 hD hF => w_X10_isUpright C0 (dc_of hD) h hF)
theorem dX10_addShare_0 : decode cX10_addShare 0 = .ok (.iload_n 1, 1) := by decide +kernel
theorem dX10_addShare_1 : decode cX10_addShare 1 = .ok (.ifCond .lt 22, 3) := by decide +kernel
theorem dX10_addShare_4 : decode cX10_addShare 4 = .ok (.iload_n 1, 1) := by decide +kernel
theorem dX10_addShare_5 : decode cX10_addShare 5 = .ok (.aload_n 0, 1) := by decide +kernel
theorem dX10_addShare_6 : decode cX10_addShare 6 = .ok (.getfield 15, 3) := by decide +kernel
theorem dX10_addShare_9 : decode cX10_addShare 9 = .ok (.arraylength, 1) := by decide +kernel
theorem dX10_addShare_10 : decode cX10_addShare 10 = .ok (.if_icmp .ge 13, 3) := by decide +kernel
theorem dX10_addShare_13 : decode cX10_addShare 13 = .ok (.aload_n 0, 1) := by decide +kernel
theorem dX10_addShare_14 : decode cX10_addShare 14 = .ok (.getfield 15, 3) := by decide +kernel
theorem dX10_addShare_17 : decode cX10_addShare 17 = .ok (.iload_n 1, 1) := by decide +kernel
theorem dX10_addShare_18 : decode cX10_addShare 18 = .ok (.dup2, 1) := by decide +kernel
theorem dX10_addShare_19 : decode cX10_addShare 19 = .ok (.laload, 1) := by decide +kernel
theorem dX10_addShare_20 : decode cX10_addShare 20 = .ok (.lload_n 2, 1) := by decide +kernel
theorem dX10_addShare_21 : decode cX10_addShare 21 = .ok (.ladd, 1) := by decide +kernel
theorem dX10_addShare_22 : decode cX10_addShare 22 = .ok (.lastore, 1) := by decide +kernel
theorem dX10_addShare_23 : decode cX10_addShare 23 = .ok (.return_, 1) := by decide +kernel
theorem w_X10_addShare {z : JT} {Γ : Gam} {cy : Nat → ClassId} {a : Nat → Nat} {V : VT} {J : JT} {K : Nat → Option Nat} {X : va_W} {v1 : Int32} {v2 : Int64}  (C0 : CXg Γ cX10_addShare 4 0 RX10 cy) (hD : DC Γ cy a X) (h : f_X10_addShare v1 v2 V J = some z) (hz : (fun y : JT => FinV Γ cX10_addShare (WC cy a V y K X)) z) : Wp Γ 0 0 0 [(0, .ref (a 4)), (1, .int v1), (2, .long v2)] [] (WC cy a V J K X) := by
  unfold f_X10_addShare at h
  refine r_iload_n C0 dX10_addShare_0 rfl 1 rfl ?_
  refine r_if_lt C0 23 dX10_addShare_1 rfl h (fun _ h => ?_) (fun _ h => ?_)
  · cases h
    exact hz _ _ dX10_addShare_23
  · refine r_iload_n C0 dX10_addShare_4 rfl 1 rfl ?_
    refine r_aload_n C0 dX10_addShare_5 rfl 0 rfl ?_
    refine wcg_4_2 C0 tf_X10_15 dX10_addShare_6 ?_
    refine wcln_24 C0 dX10_addShare_9 ?_
    refine r_icmp_ge C0 23 dX10_addShare_10 rfl h (fun _ h => ?_) (fun _ h => ?_)
    · cases h
      exact hz _ _ dX10_addShare_23
    · refine r_aload_n C0 dX10_addShare_13 rfl 0 rfl ?_
      refine wcg_4_2 C0 tf_X10_15 dX10_addShare_14 ?_
      refine r_iload_n C0 dX10_addShare_17 rfl 1 rfl ?_
      refine r_dup2 C0 dX10_addShare_18 rfl rfl ?_
      refine wcal_24 C0 h dX10_addShare_19 (fun k1 h => ?_)
      refine r_lload_n C0 dX10_addShare_20 rfl 2 rfl ?_
      refine r_ladd C0 dX10_addShare_21 ?_
      refine wcas_24 C0 hD h dX10_addShare_22 (fun k2 h => ?_)
      cases h
      exact hz _ _ dX10_addShare_23
theorem c_X10_addShare {l : Launch} {D : va_G} {cy : Nat → ClassId} {a : Nat → Nat} {V : VT} {J : JT} {K : Nat → Option Nat} {X : va_W} {v1 : Int32} {v2 : Int64} {y : JT} (h : f_X10_addShare v1 v2 V J = some y) : CT l D cy yX10_addShare cX10_addShare 4 none 0 [.ref (a 4), .int v1, .long v2] (WC cy a V J K X) (WC cy a V y K X) none :=
  mkV (by decide) (Nat.le_of_ble_eq_true rfl) (fun Γ _ _ C0 hD hF => w_X10_addShare C0 (dc_of hD) h hF)
theorem dX10_lineAtOrBefore_0 : decode cX10_lineAtOrBefore 0 = .ok (.iload_n 1, 1) := by decide +kernel
theorem dX10_lineAtOrBefore_1 : decode cX10_lineAtOrBefore 1 = .ok (.istore_n 2, 1) := by decide +kernel
theorem dX10_lineAtOrBefore_2 : decode cX10_lineAtOrBefore 2 = .ok (.iload_n 2, 1) := by decide +kernel
theorem dX10_lineAtOrBefore_3 : decode cX10_lineAtOrBefore 3 = .ok (.ifCond .lt 29, 3) := by decide +kernel
theorem dX10_lineAtOrBefore_6 : decode cX10_lineAtOrBefore 6 = .ok (.iload_n 2, 1) := by decide +kernel
theorem dX10_lineAtOrBefore_7 : decode cX10_lineAtOrBefore 7 = .ok (.aload_n 0, 1) := by decide +kernel
theorem dX10_lineAtOrBefore_8 : decode cX10_lineAtOrBefore 8 = .ok (.getfield 9, 3) := by decide +kernel
theorem dX10_lineAtOrBefore_11 : decode cX10_lineAtOrBefore 11 = .ok (.arraylength, 1) := by decide +kernel
theorem dX10_lineAtOrBefore_12 : decode cX10_lineAtOrBefore 12 = .ok (.if_icmp .ge 20, 3) := by decide +kernel
theorem dX10_lineAtOrBefore_15 : decode cX10_lineAtOrBefore 15 = .ok (.aload_n 0, 1) := by decide +kernel
theorem dX10_lineAtOrBefore_16 : decode cX10_lineAtOrBefore 16 = .ok (.getfield 9, 3) := by decide +kernel
theorem dX10_lineAtOrBefore_19 : decode cX10_lineAtOrBefore 19 = .ok (.iload_n 2, 1) := by decide +kernel
theorem dX10_lineAtOrBefore_20 : decode cX10_lineAtOrBefore 20 = .ok (.iaload, 1) := by decide +kernel
theorem dX10_lineAtOrBefore_21 : decode cX10_lineAtOrBefore 21 = .ok (.ifCond .lt 5, 3) := by decide +kernel
theorem dX10_lineAtOrBefore_24 : decode cX10_lineAtOrBefore 24 = .ok (.iload_n 2, 1) := by decide +kernel
theorem dX10_lineAtOrBefore_25 : decode cX10_lineAtOrBefore 25 = .ok (.ireturn, 1) := by decide +kernel
theorem dX10_lineAtOrBefore_26 : decode cX10_lineAtOrBefore 26 = .ok (.iinc 2 (-1), 3) := by decide +kernel
theorem dX10_lineAtOrBefore_29 : decode cX10_lineAtOrBefore 29 = .ok (.goto (-27), 3) := by decide +kernel
theorem dX10_lineAtOrBefore_32 : decode cX10_lineAtOrBefore 32 = .ok (.ldc 87, 2) := by decide +kernel
theorem dX10_lineAtOrBefore_34 : decode cX10_lineAtOrBefore 34 = .ok (.ireturn, 1) := by decide +kernel
theorem w_X10_lineAtOrBefore_B2 {x : Int32} {z : ((Int32) ⊕ (Int32))} {Γ : Gam} {cy : Nat → ClassId} {a : Nat → Nat} {V : VT} {J : JT} {K : Nat → Option Nat} {X : va_W}  (C0 : CXg Γ cX10_lineAtOrBefore 3 0 RX10 cy) (hD : DC Γ cy a X) (h : f_X10_lineAtOrBefore_B2 V x = some z) (hz : (Sum.elim (fun x : Int32 => Wp Γ 0 0 2 [(0, .ref (a 4)), (2, .int x)] [] (WC cy a V J K X)) (fun y : Int32 => FinI Γ cX10_lineAtOrBefore (WC cy a V J K X) y)) z) : Wp Γ 0 0 2 [(0, .ref (a 4)), (2, .int x)] [] (WC cy a V J K X) := by
  unfold f_X10_lineAtOrBefore_B2 at h
  refine r_iload_n C0 dX10_lineAtOrBefore_2 rfl 1 rfl ?_
  refine r_if_lt C0 32 dX10_lineAtOrBefore_3 rfl h (fun _ h => ?_) (fun _ h => ?_)
  · obtain ⟨y1, h5, h9⟩ := op_bind h
    clear h
    cases h9
    have hz := (el_inr hz)
    have h := h5
    refine r_ldc C0 tk_X10_87 dX10_lineAtOrBefore_32 ?_
    cases h
    exact hz _ _ dX10_lineAtOrBefore_34
  · refine r_iload_n C0 dX10_lineAtOrBefore_6 rfl 1 rfl ?_
    refine r_aload_n C0 dX10_lineAtOrBefore_7 rfl 0 rfl ?_
    refine wcg_4_1 C0 tf_X10_9 dX10_lineAtOrBefore_8 ?_
    refine wcln_23 C0 dX10_lineAtOrBefore_11 ?_
    refine r_icmp_ge C0 32 dX10_lineAtOrBefore_12 rfl h (fun _ h => ?_) (fun _ h => ?_)
    · obtain ⟨y2, h5, h9⟩ := op_bind h
      clear h
      cases h9
      have hz := (el_inr hz)
      have h := h5
      refine r_ldc C0 tk_X10_87 dX10_lineAtOrBefore_32 ?_
      cases h
      exact hz _ _ dX10_lineAtOrBefore_34
    · refine r_aload_n C0 dX10_lineAtOrBefore_15 rfl 0 rfl ?_
      refine wcg_4_1 C0 tf_X10_9 dX10_lineAtOrBefore_16 ?_
      refine r_iload_n C0 dX10_lineAtOrBefore_19 rfl 1 rfl ?_
      refine wcal_23 C0 h dX10_lineAtOrBefore_20 (fun k3 h => ?_)
      refine r_if_lt C0 26 dX10_lineAtOrBefore_21 rfl h (fun _ h => ?_) (fun _ h => ?_)
      · obtain ⟨a4, h8, h⟩ := op_bind h
        have e8 := Option.some.inj h8
        refine r_iinc (lv2 := [(2, .int a4), (0, .ref (a 4))]) C0 dX10_lineAtOrBefore_26 1 rfl ki_m1 e8 (Nat.le_of_ble_eq_true rfl) rfl ?_
        refine r_goto C0 2 dX10_lineAtOrBefore_29 rfl ?_
        cases h
        have hz := el_inl hz
        exact r_sub [1, 0] rfl hz
      · obtain ⟨y5, h5, h9⟩ := op_bind h
        clear h
        cases h9
        have hz := (el_inr hz)
        have h := h5
        refine r_iload_n C0 dX10_lineAtOrBefore_24 rfl 1 rfl ?_
        cases h
        exact hz _ _ dX10_lineAtOrBefore_25
theorem w_X10_lineAtOrBefore_B2_lp {x : Int32} {z : (Int32)} {Γ : Gam} {cy : Nat → ClassId} {a : Nat → Nat} {V : VT} {J : JT} {K : Nat → Option Nat} {X : va_W}  (C0 : CXg Γ cX10_lineAtOrBefore 3 0 RX10 cy) (hD : DC Γ cy a X) (h : lp (f_X10_lineAtOrBefore_B2 V) fuel x = some z) (hz : (fun y : Int32 => FinI Γ cX10_lineAtOrBefore (WC cy a V J K X) y) z) : Wp Γ 0 0 2 [(0, .ref (a 4)), (2, .int x)] [] (WC cy a V J K X) :=
  lp_rule (hd := (fun x : Int32 => Wp Γ 0 0 2 [(0, .ref (a 4)), (2, .int x)] [] (WC cy a V J K X))) (C := (fun y : Int32 => FinI Γ cX10_lineAtOrBefore (WC cy a V J K X) y)) (fun x z h hz => w_X10_lineAtOrBefore_B2 C0 hD h hz) _ _ _ h hz
theorem w_X10_lineAtOrBefore {z : Int32} {Γ : Gam} {cy : Nat → ClassId} {a : Nat → Nat} {V : VT} {J : JT} {K : Nat → Option Nat} {X : va_W} {v1 : Int32}  (C0 : CXg Γ cX10_lineAtOrBefore 3 0 RX10 cy) (hD : DC Γ cy a X) (h : f_X10_lineAtOrBefore v1 V = some z) (hz : (fun y : Int32 => FinI Γ cX10_lineAtOrBefore (WC cy a V J K X) y) z) : Wp Γ 0 0 0 [(0, .ref (a 4)), (1, .int v1)] [] (WC cy a V J K X) := by
  unfold f_X10_lineAtOrBefore at h
  refine r_iload_n C0 dX10_lineAtOrBefore_0 rfl 1 rfl ?_
  refine r_istore_n (lv2 := [(2, .int v1), (0, .ref (a 4)), (1, .int v1)]) C0 dX10_lineAtOrBefore_1 rfl rfl (Nat.le_of_ble_eq_true rfl) rfl ?_
  exact r_sub [1, 0] rfl (w_X10_lineAtOrBefore_B2_lp C0 hD h hz)
theorem c_X10_lineAtOrBefore {l : Launch} {D : va_G} {cy : Nat → ClassId} {a : Nat → Nat} {V : VT} {J : JT} {K : Nat → Option Nat} {X : va_W} {v1 : Int32} {y : Int32} (h : f_X10_lineAtOrBefore v1 V = some y) : CT l D cy yX10_lineAtOrBefore cX10_lineAtOrBefore 3 (some .int) 0 [.ref (a 4), .int v1] (WC cy a V J K X) (WC cy a V J K X) (some (.int y)) :=
  mkI (by decide) (Nat.le_of_ble_eq_true rfl) (fun Γ _ _ C0 hD hF => w_X10_lineAtOrBefore C0 (dc_of hD) h hF)
theorem dX10_bear_0 : decode cX10_bear 0 = .ok (.aload_n 0, 1) := by decide +kernel
theorem dX10_bear_1 : decode cX10_bear 1 = .ok (.iload_n 1, 1) := by decide +kernel
theorem dX10_bear_2 : decode cX10_bear 2 = .ok (.invokevirtual 95, 3) := by decide +kernel
theorem dX10_bear_5 : decode cX10_bear 5 = .ok (.istore 4, 2) := by decide +kernel
theorem dX10_bear_7 : decode cX10_bear 7 = .ok (.aload_n 0, 1) := by decide +kernel
theorem dX10_bear_8 : decode cX10_bear 8 = .ok (.iload_n 1, 1) := by decide +kernel
theorem dX10_bear_9 : decode cX10_bear 9 = .ok (.invokevirtual 98, 3) := by decide +kernel
theorem dX10_bear_12 : decode cX10_bear 12 = .ok (.istore 5, 2) := by decide +kernel
theorem dX10_bear_14 : decode cX10_bear 14 = .ok (.iload 4, 2) := by decide +kernel
theorem dX10_bear_16 : decode cX10_bear 16 = .ok (.ifCond .lt 57, 3) := by decide +kernel
theorem dX10_bear_19 : decode cX10_bear 19 = .ok (.iload 5, 2) := by decide +kernel
theorem dX10_bear_21 : decode cX10_bear 21 = .ok (.iload 4, 2) := by decide +kernel
theorem dX10_bear_23 : decode cX10_bear 23 = .ok (.if_icmp .le 50, 3) := by decide +kernel
theorem dX10_bear_26 : decode cX10_bear 26 = .ok (.ldc2_w 101, 3) := by decide +kernel
theorem dX10_bear_29 : decode cX10_bear 29 = .ok (.iload 5, 2) := by decide +kernel
theorem dX10_bear_31 : decode cX10_bear 31 = .ok (.iload 4, 2) := by decide +kernel
theorem dX10_bear_33 : decode cX10_bear 33 = .ok (.isub, 1) := by decide +kernel
theorem dX10_bear_34 : decode cX10_bear 34 = .ok (.i2l, 1) := by decide +kernel
theorem dX10_bear_35 : decode cX10_bear 35 = .ok (.ldiv, 1) := by decide +kernel
theorem dX10_bear_36 : decode cX10_bear 36 = .ok (.lstore 6, 2) := by decide +kernel
theorem dX10_bear_38 : decode cX10_bear 38 = .ok (.aload_n 0, 1) := by decide +kernel
theorem dX10_bear_39 : decode cX10_bear 39 = .ok (.iload 4, 2) := by decide +kernel
theorem dX10_bear_41 : decode cX10_bear 41 = .ok (.lload_n 2, 1) := by decide +kernel
theorem dX10_bear_42 : decode cX10_bear 42 = .ok (.iload 5, 2) := by decide +kernel
theorem dX10_bear_44 : decode cX10_bear 44 = .ok (.iload_n 1, 1) := by decide +kernel
theorem dX10_bear_45 : decode cX10_bear 45 = .ok (.isub, 1) := by decide +kernel
theorem dX10_bear_46 : decode cX10_bear 46 = .ok (.i2l, 1) := by decide +kernel
theorem dX10_bear_47 : decode cX10_bear 47 = .ok (.lmul, 1) := by decide +kernel
theorem dX10_bear_48 : decode cX10_bear 48 = .ok (.lload 6, 2) := by decide +kernel
theorem dX10_bear_50 : decode cX10_bear 50 = .ok (.lmul, 1) := by decide +kernel
theorem dX10_bear_51 : decode cX10_bear 51 = .ok (.invokevirtual 103, 3) := by decide +kernel
theorem dX10_bear_54 : decode cX10_bear 54 = .ok (.aload_n 0, 1) := by decide +kernel
theorem dX10_bear_55 : decode cX10_bear 55 = .ok (.iload 5, 2) := by decide +kernel
theorem dX10_bear_57 : decode cX10_bear 57 = .ok (.lload_n 2, 1) := by decide +kernel
theorem dX10_bear_58 : decode cX10_bear 58 = .ok (.iload_n 1, 1) := by decide +kernel
theorem dX10_bear_59 : decode cX10_bear 59 = .ok (.iload 4, 2) := by decide +kernel
theorem dX10_bear_61 : decode cX10_bear 61 = .ok (.isub, 1) := by decide +kernel
theorem dX10_bear_62 : decode cX10_bear 62 = .ok (.i2l, 1) := by decide +kernel
theorem dX10_bear_63 : decode cX10_bear 63 = .ok (.lmul, 1) := by decide +kernel
theorem dX10_bear_64 : decode cX10_bear 64 = .ok (.lload 6, 2) := by decide +kernel
theorem dX10_bear_66 : decode cX10_bear 66 = .ok (.lmul, 1) := by decide +kernel
theorem dX10_bear_67 : decode cX10_bear 67 = .ok (.invokevirtual 103, 3) := by decide +kernel
theorem dX10_bear_70 : decode cX10_bear 70 = .ok (.goto 24, 3) := by decide +kernel
theorem dX10_bear_73 : decode cX10_bear 73 = .ok (.aload_n 0, 1) := by decide +kernel
theorem dX10_bear_74 : decode cX10_bear 74 = .ok (.iload 4, 2) := by decide +kernel
theorem dX10_bear_76 : decode cX10_bear 76 = .ok (.ifCond .lt 8, 3) := by decide +kernel
theorem dX10_bear_79 : decode cX10_bear 79 = .ok (.iload 4, 2) := by decide +kernel
theorem dX10_bear_81 : decode cX10_bear 81 = .ok (.goto 5, 3) := by decide +kernel
theorem dX10_bear_84 : decode cX10_bear 84 = .ok (.iload 5, 2) := by decide +kernel
theorem dX10_bear_86 : decode cX10_bear 86 = .ok (.lload_n 2, 1) := by decide +kernel
theorem dX10_bear_87 : decode cX10_bear 87 = .ok (.ldc2_w 101, 3) := by decide +kernel
theorem dX10_bear_90 : decode cX10_bear 90 = .ok (.lmul, 1) := by decide +kernel
theorem dX10_bear_91 : decode cX10_bear 91 = .ok (.invokevirtual 103, 3) := by decide +kernel
theorem dX10_bear_94 : decode cX10_bear 94 = .ok (.return_, 1) := by decide +kernel
theorem w_X10_bear_j86 {z : (JT)} {Γ : Gam} {cy : Nat → ClassId} {a : Nat → Nat} {V : VT} {J : JT} {K : Nat → Option Nat} {X : va_W} {v2 : Int64} {s1 : Int32}  (C0 : CXg Γ cX10_bear 8 1 RX10 cy) (hD : DC Γ cy a X) (h : f_X10_bear_j86 v2 s1 V J = some z) (hz : (fun y : JT => FinV Γ cX10_bear (WC cy a V y K X)) z) : Wp Γ 0 0 86 [(2, .long v2)] [.int s1, .ref (a 4)] (WC cy a V J K X) := by
  unfold f_X10_bear_j86 at h
  refine r_lload_n C0 dX10_bear_86 rfl 0 rfl ?_
  refine r_ldc2 C0 tk_X10_101 dX10_bear_87 ?_
  refine r_lmul C0 dX10_bear_90 ?_
  refine callVv2 C0 h (hD _ _ _) mw_X10_addShare rv_4 tm_X10_103 (fun y hy => c_X10_addShare hy) (Nat.le_of_ble_eq_true rfl) (Nat.le_of_ble_eq_true rfl) dX10_bear_91 (fun r3 h => ?_)
  cases h
  exact hz _ _ dX10_bear_94
theorem w_X10_bear_j73 {z : (JT)} {Γ : Gam} {cy : Nat → ClassId} {a : Nat → Nat} {V : VT} {J : JT} {K : Nat → Option Nat} {X : va_W} {v2 : Int64} {v4 : Int32} {v5 : Int32}  (C0 : CXg Γ cX10_bear 8 1 RX10 cy) (hD : DC Γ cy a X) (h : f_X10_bear_j73 v2 v4 v5 V J = some z) (hz : (fun y : JT => FinV Γ cX10_bear (WC cy a V y K X)) z) : Wp Γ 0 0 73 [(0, .ref (a 4)), (2, .long v2), (4, .int v4), (5, .int v5)] [] (WC cy a V J K X) := by
  unfold f_X10_bear_j73 at h
  refine r_aload_n C0 dX10_bear_73 rfl 0 rfl ?_
  refine r_iload C0 dX10_bear_74 2 rfl ?_
  refine r_if_lt C0 84 dX10_bear_76 rfl h (fun _ h => ?_) (fun _ h => ?_)
  · refine r_iload C0 dX10_bear_84 3 rfl ?_
    exact r_sub [1] rfl (w_X10_bear_j86 C0 hD h hz)
  · refine r_iload C0 dX10_bear_79 2 rfl ?_
    refine r_goto C0 86 dX10_bear_81 rfl ?_
    exact r_sub [1] rfl (w_X10_bear_j86 C0 hD h hz)
theorem w_X10_bear {z : JT} {Γ : Gam} {cy : Nat → ClassId} {a : Nat → Nat} {V : VT} {J : JT} {K : Nat → Option Nat} {X : va_W} {v1 : Int32} {v2 : Int64}  (C0 : CXg Γ cX10_bear 8 1 RX10 cy) (hD : DC Γ cy a X) (h : f_X10_bear v1 v2 V J = some z) (hz : (fun y : JT => FinV Γ cX10_bear (WC cy a V y K X)) z) : Wp Γ 0 0 0 [(0, .ref (a 4)), (1, .int v1), (2, .long v2)] [] (WC cy a V J K X) := by
  unfold f_X10_bear at h
  refine r_aload_n C0 dX10_bear_0 rfl 0 rfl ?_
  refine r_iload_n C0 dX10_bear_1 rfl 1 rfl ?_
  refine callV1 C0 h (hD _ _ _) mw_X10_lineAtOrBefore rv_4 tm_X10_95 (fun y hy => c_X10_lineAtOrBefore hy) (Nat.le_of_ble_eq_true rfl) (Nat.le_of_ble_eq_true rfl) dX10_bear_2 (fun r1 h => ?_)
  refine r_istore (lv2 := [(4, .int r1), (0, .ref (a 4)), (1, .int v1), (2, .long v2)]) C0 dX10_bear_5 rfl (Nat.le_of_ble_eq_true rfl) rfl ?_
  refine r_aload_n C0 dX10_bear_7 rfl 1 rfl ?_
  refine r_iload_n C0 dX10_bear_8 rfl 2 rfl ?_
  refine callV1 C0 h (hD _ _ _) mw_X10_lineAtOrBehind rv_4 tm_X10_98 (fun y hy => c_X10_lineAtOrBehind hy) (Nat.le_of_ble_eq_true rfl) (Nat.le_of_ble_eq_true rfl) dX10_bear_9 (fun r2 h => ?_)
  refine r_istore (lv2 := [(5, .int r2), (4, .int r1), (0, .ref (a 4)), (1, .int v1), (2, .long v2)]) C0 dX10_bear_12 rfl (Nat.le_of_ble_eq_true rfl) rfl ?_
  refine r_iload C0 dX10_bear_14 1 rfl ?_
  refine r_if_lt C0 73 dX10_bear_16 rfl h (fun _ h => ?_) (fun _ h => ?_)
  · exact r_sub [2, 4, 1, 0] rfl (w_X10_bear_j73 C0 hD h hz)
  · refine r_iload C0 dX10_bear_19 0 rfl ?_
    refine r_iload C0 dX10_bear_21 1 rfl ?_
    refine r_icmp_le C0 73 dX10_bear_23 rfl h (fun _ h => ?_) (fun _ h => ?_)
    · exact r_sub [2, 4, 1, 0] rfl (w_X10_bear_j73 C0 hD h hz)
    · refine r_ldc2 C0 tk_X10_101 dX10_bear_26 ?_
      refine r_iload C0 dX10_bear_29 0 rfl ?_
      refine r_iload C0 dX10_bear_31 1 rfl ?_
      refine r_isub C0 dX10_bear_33 ?_
      refine r_i2l C0 dX10_bear_34 ?_
      refine r_ldiv C0 dX10_bear_35 h (fun u4 h => ?_)
      obtain ⟨a5, h8, h⟩ := op_bind h
      have e8 := Option.some.inj h8
      refine r_lstore (lv2 := [(6, .long a5), (5, .int r2), (4, .int r1), (0, .ref (a 4)), (1, .int v1), (2, .long v2)]) C0 dX10_bear_36 e8 (Nat.le_of_ble_eq_true rfl) rfl ?_
      refine r_aload_n C0 dX10_bear_38 rfl 3 rfl ?_
      refine r_iload C0 dX10_bear_39 2 rfl ?_
      refine r_lload_n C0 dX10_bear_41 rfl 5 rfl ?_
      refine r_iload C0 dX10_bear_42 1 rfl ?_
      refine r_iload_n C0 dX10_bear_44 rfl 4 rfl ?_
      refine r_isub C0 dX10_bear_45 ?_
      refine r_i2l C0 dX10_bear_46 ?_
      refine r_lmul C0 dX10_bear_47 ?_
      refine r_lload C0 dX10_bear_48 0 rfl ?_
      refine r_lmul C0 dX10_bear_50 ?_
      refine callVv2 C0 h (hD _ _ _) mw_X10_addShare rv_4 tm_X10_103 (fun y hy => c_X10_addShare hy) (Nat.le_of_ble_eq_true rfl) (Nat.le_of_ble_eq_true rfl) dX10_bear_51 (fun r6 h => ?_)
      refine r_aload_n C0 dX10_bear_54 rfl 3 rfl ?_
      refine r_iload C0 dX10_bear_55 1 rfl ?_
      refine r_lload_n C0 dX10_bear_57 rfl 5 rfl ?_
      refine r_iload_n C0 dX10_bear_58 rfl 4 rfl ?_
      refine r_iload C0 dX10_bear_59 2 rfl ?_
      refine r_isub C0 dX10_bear_61 ?_
      refine r_i2l C0 dX10_bear_62 ?_
      refine r_lmul C0 dX10_bear_63 ?_
      refine r_lload C0 dX10_bear_64 0 rfl ?_
      refine r_lmul C0 dX10_bear_66 ?_
      refine callVv2 C0 h (hD _ _ _) mw_X10_addShare rv_4 tm_X10_103 (fun y hy => c_X10_addShare hy) (Nat.le_of_ble_eq_true rfl) (Nat.le_of_ble_eq_true rfl) dX10_bear_67 (fun r7 h => ?_)
      refine r_goto C0 94 dX10_bear_70 rfl ?_
      cases h
      exact hz _ _ dX10_bear_94
theorem c_X10_bear {l : Launch} {D : va_G} {cy : Nat → ClassId} {a : Nat → Nat} {V : VT} {J : JT} {K : Nat → Option Nat} {X : va_W} {v1 : Int32} {v2 : Int64} {y : JT} (h : f_X10_bear v1 v2 V J = some y) : CT l D cy yX10_bear cX10_bear 8 none 1 [.ref (a 4), .int v1, .long v2] (WC cy a V J K X) (WC cy a V y K X) none :=
  mkV (by decide) (Nat.le_of_ble_eq_true rfl) (fun Γ _ _ C0 hD hF => w_X10_bear C0 (dc_of hD) h hF)
theorem dJ7_fill_d0a16_0 : decode cJ7_fill_d0a16 0 = .ok (.iconst 0, 1) := by decide +kernel
theorem dJ7_fill_d0a16_1 : decode cJ7_fill_d0a16 1 = .ok (.istore_n 3, 1) := by decide +kernel
theorem dJ7_fill_d0a16_2 : decode cJ7_fill_d0a16 2 = .ok (.aload_n 0, 1) := by decide +kernel
theorem dJ7_fill_d0a16_3 : decode cJ7_fill_d0a16 3 = .ok (.arraylength, 1) := by decide +kernel
theorem dJ7_fill_d0a16_4 : decode cJ7_fill_d0a16 4 = .ok (.istore 4, 2) := by decide +kernel
theorem dJ7_fill_d0a16_6 : decode cJ7_fill_d0a16 6 = .ok (.iload_n 3, 1) := by decide +kernel
theorem dJ7_fill_d0a16_7 : decode cJ7_fill_d0a16 7 = .ok (.iload 4, 2) := by decide +kernel
theorem dJ7_fill_d0a16_9 : decode cJ7_fill_d0a16 9 = .ok (.if_icmp .ge 13, 3) := by decide +kernel
theorem dJ7_fill_d0a16_12 : decode cJ7_fill_d0a16 12 = .ok (.aload_n 0, 1) := by decide +kernel
theorem dJ7_fill_d0a16_13 : decode cJ7_fill_d0a16 13 = .ok (.iload_n 3, 1) := by decide +kernel
theorem dJ7_fill_d0a16_14 : decode cJ7_fill_d0a16 14 = .ok (.lload_n 1, 1) := by decide +kernel
theorem dJ7_fill_d0a16_15 : decode cJ7_fill_d0a16 15 = .ok (.lastore, 1) := by decide +kernel
theorem dJ7_fill_d0a16_16 : decode cJ7_fill_d0a16 16 = .ok (.iinc 3 1, 3) := by decide +kernel
theorem dJ7_fill_d0a16_19 : decode cJ7_fill_d0a16 19 = .ok (.goto (-13), 3) := by decide +kernel
theorem dJ7_fill_d0a16_22 : decode cJ7_fill_d0a16 22 = .ok (.return_, 1) := by decide +kernel
theorem w_fillJ_24_B6 {x : Int32 × JT} {z : ((Int32 × JT) ⊕ (JT))} {Γ : Gam} {cy : Nat → ClassId} {a : Nat → Nat} {V : VT} {K : Nat → Option Nat} {X : va_W} {v1 : Int64} {v4 : Int32}  (C0 : CXg Γ cJ7_fill_d0a16 5 0 RJ7 cy) (hD : DC Γ cy a X) (h : f_fillJ_24_B6 v1 v4 V x = some z) (hz : (Sum.elim (fun x : Int32 × JT => Wp Γ 0 0 6 [(0, .ref (a 24)), (1, .long v1), (3, .int x.1), (4, .int v4)] [] (WC cy a V x.2 K X)) (fun y : JT => FinV Γ cJ7_fill_d0a16 (WC cy a V y K X))) z) : Wp Γ 0 0 6 [(0, .ref (a 24)), (1, .long v1), (3, .int x.1), (4, .int v4)] [] (WC cy a V x.2 K X) := by
  unfold f_fillJ_24_B6 at h
  refine r_iload_n C0 dJ7_fill_d0a16_6 rfl 2 rfl ?_
  refine r_iload C0 dJ7_fill_d0a16_7 3 rfl ?_
  refine r_icmp_ge C0 22 dJ7_fill_d0a16_9 rfl h (fun _ h => ?_) (fun _ h => ?_)
  · obtain ⟨y3, h5, h9⟩ := op_bind h
    clear h
    cases h9
    have hz := (el_inr hz)
    have h := h5
    cases h
    exact hz _ _ dJ7_fill_d0a16_22
  · refine r_aload_n C0 dJ7_fill_d0a16_12 rfl 0 rfl ?_
    refine r_iload_n C0 dJ7_fill_d0a16_13 rfl 2 rfl ?_
    refine r_lload_n C0 dJ7_fill_d0a16_14 rfl 1 rfl ?_
    refine wcas_24 C0 hD h dJ7_fill_d0a16_15 (fun k4 h => ?_)
    obtain ⟨a5, h8, h⟩ := op_bind h
    have e8 := Option.some.inj h8
    refine r_iinc (lv2 := [(3, .int a5), (0, .ref (a 24)), (1, .long v1), (4, .int v4)]) C0 dJ7_fill_d0a16_16 2 rfl ki_1 e8 (Nat.le_of_ble_eq_true rfl) rfl ?_
    refine r_goto C0 6 dJ7_fill_d0a16_19 rfl ?_
    cases h
    have hz := el_inl hz
    exact r_sub [1, 2, 0, 3] rfl hz
theorem w_fillJ_24_B6_lp {x : Int32 × JT} {z : (JT)} {Γ : Gam} {cy : Nat → ClassId} {a : Nat → Nat} {V : VT} {K : Nat → Option Nat} {X : va_W} {v1 : Int64} {v4 : Int32}  (C0 : CXg Γ cJ7_fill_d0a16 5 0 RJ7 cy) (hD : DC Γ cy a X) (h : lp (f_fillJ_24_B6 v1 v4 V) fuel x = some z) (hz : (fun y : JT => FinV Γ cJ7_fill_d0a16 (WC cy a V y K X)) z) : Wp Γ 0 0 6 [(0, .ref (a 24)), (1, .long v1), (3, .int x.1), (4, .int v4)] [] (WC cy a V x.2 K X) :=
  lp_rule (hd := (fun x : Int32 × JT => Wp Γ 0 0 6 [(0, .ref (a 24)), (1, .long v1), (3, .int x.1), (4, .int v4)] [] (WC cy a V x.2 K X))) (C := (fun y : JT => FinV Γ cJ7_fill_d0a16 (WC cy a V y K X))) (fun x z h hz => w_fillJ_24_B6 C0 hD h hz) _ _ _ h hz
theorem w_fillJ_24 {z : JT} {Γ : Gam} {cy : Nat → ClassId} {a : Nat → Nat} {V : VT} {J : JT} {K : Nat → Option Nat} {X : va_W} {v1 : Int64}  (C0 : CXg Γ cJ7_fill_d0a16 5 0 RJ7 cy) (hD : DC Γ cy a X) (h : f_fillJ_24 v1 V J = some z) (hz : (fun y : JT => FinV Γ cJ7_fill_d0a16 (WC cy a V y K X)) z) : Wp Γ 0 0 0 [(0, .ref (a 24)), (1, .long v1)] [] (WC cy a V J K X) := by
  unfold f_fillJ_24 at h
  refine r_iconst C0 dJ7_fill_d0a16_0 ki_0 ?_
  obtain ⟨a1, h8, h⟩ := op_bind h
  have e8 := Option.some.inj h8
  refine r_istore_n (lv2 := [(3, .int a1), (0, .ref (a 24)), (1, .long v1)]) C0 dJ7_fill_d0a16_1 rfl e8 (Nat.le_of_ble_eq_true rfl) rfl ?_
  refine r_aload_n C0 dJ7_fill_d0a16_2 rfl 1 rfl ?_
  refine wcln_24 C0 dJ7_fill_d0a16_3 ?_
  obtain ⟨a2, h8, h⟩ := op_bind h
  have e8 := Option.some.inj h8
  refine r_istore (lv2 := [(4, .int a2), (3, .int a1), (0, .ref (a 24)), (1, .long v1)]) C0 dJ7_fill_d0a16_4 e8 (Nat.le_of_ble_eq_true rfl) rfl ?_
  exact r_sub [2, 3, 1, 0] rfl (w_fillJ_24_B6_lp C0 hD h hz)
theorem c_fillJ_24 {l : Launch} {D : va_G} {cy : Nat → ClassId} {a : Nat → Nat} {V : VT} {J : JT} {K : Nat → Option Nat} {X : va_W} {v1 : Int64} {y : JT} (h : f_fillJ_24 v1 V J = some y) : CT l D cy yJ7_fill_d0a16 cJ7_fill_d0a16 5 none 0 [.ref (a 24), .long v1] (WC cy a V J K X) (WC cy a V y K X) none :=
  mkV (by decide) (Nat.le_of_ble_eq_true rfl) (fun Γ _ _ C0 hD hF => w_fillJ_24 C0 (dc_of hD) h hF)
theorem dX10_spread_0 : decode cX10_spread 0 = .ok (.aload_n 0, 1) := by decide +kernel
theorem dX10_spread_1 : decode cX10_spread 1 = .ok (.getfield 15, 3) := by decide +kernel
theorem dX10_spread_4 : decode cX10_spread 4 = .ok (.lconst 0, 1) := by decide +kernel
theorem dX10_spread_5 : decode cX10_spread 5 = .ok (.invokestatic 77, 3) := by decide +kernel
theorem dX10_spread_8 : decode cX10_spread 8 = .ok (.iconst 0, 1) := by decide +kernel
theorem dX10_spread_9 : decode cX10_spread 9 = .ok (.istore_n 2, 1) := by decide +kernel
theorem dX10_spread_10 : decode cX10_spread 10 = .ok (.iload_n 2, 1) := by decide +kernel
theorem dX10_spread_11 : decode cX10_spread 11 = .ok (.bipush 16, 2) := by decide +kernel
theorem dX10_spread_13 : decode cX10_spread 13 = .ok (.if_icmp .ge 41, 3) := by decide +kernel
theorem dX10_spread_16 : decode cX10_spread 16 = .ok (.aload_n 0, 1) := by decide +kernel
theorem dX10_spread_17 : decode cX10_spread 17 = .ok (.getfield 19, 3) := by decide +kernel
theorem dX10_spread_20 : decode cX10_spread 20 = .ok (.iload_n 1, 1) := by decide +kernel
theorem dX10_spread_21 : decode cX10_spread 21 = .ok (.iload_n 2, 1) := by decide +kernel
theorem dX10_spread_22 : decode cX10_spread 22 = .ok (.invokevirtual 37, 3) := by decide +kernel
theorem dX10_spread_25 : decode cX10_spread 25 = .ok (.istore_n 3, 1) := by decide +kernel
theorem dX10_spread_26 : decode cX10_spread 26 = .ok (.iload_n 3, 1) := by decide +kernel
theorem dX10_spread_27 : decode cX10_spread 27 = .ok (.ifCond .lt 21, 3) := by decide +kernel
theorem dX10_spread_30 : decode cX10_spread 30 = .ok (.aload_n 0, 1) := by decide +kernel
theorem dX10_spread_31 : decode cX10_spread 31 = .ok (.iload_n 2, 1) := by decide +kernel
theorem dX10_spread_32 : decode cX10_spread 32 = .ok (.aload_n 0, 1) := by decide +kernel
theorem dX10_spread_33 : decode cX10_spread 33 = .ok (.getfield 19, 3) := by decide +kernel
theorem dX10_spread_36 : decode cX10_spread 36 = .ok (.getfield 23, 3) := by decide +kernel
theorem dX10_spread_39 : decode cX10_spread 39 = .ok (.iload_n 3, 1) := by decide +kernel
theorem dX10_spread_40 : decode cX10_spread 40 = .ok (.iconst 4, 1) := by decide +kernel
theorem dX10_spread_41 : decode cX10_spread 41 = .ok (.invokevirtual 29, 3) := by decide +kernel
theorem dX10_spread_44 : decode cX10_spread 44 = .ok (.i2l, 1) := by decide +kernel
theorem dX10_spread_45 : decode cX10_spread 45 = .ok (.invokevirtual 83, 3) := by decide +kernel
theorem dX10_spread_48 : decode cX10_spread 48 = .ok (.iinc 2 1, 3) := by decide +kernel
theorem dX10_spread_51 : decode cX10_spread 51 = .ok (.goto (-41), 3) := by decide +kernel
theorem dX10_spread_54 : decode cX10_spread 54 = .ok (.return_, 1) := by decide +kernel
theorem w_X10_spread_j48 {z : ((Int32 × JT) ⊕ (JT))} {Γ : Gam} {cy : Nat → ClassId} {a : Nat → Nat} {V : VT} {J : JT} {K : Nat → Option Nat} {X : va_W} {v1 : Int32} {v2 : Int32}  (C0 : CXg Γ cX10_spread 4 2 RX10 cy) (hD : DC Γ cy a X) (h : f_X10_spread_j48 v1 v2 V J = some z) (hz : (Sum.elim (fun x : Int32 × JT => Wp Γ 0 0 10 [(0, .ref (a 4)), (1, .int v1), (2, .int x.1)] [] (WC cy a V x.2 K X)) (fun y : JT => FinV Γ cX10_spread (WC cy a V y K X))) z) : Wp Γ 0 0 48 [(0, .ref (a 4)), (1, .int v1), (2, .int v2)] [] (WC cy a V J K X) := by
  unfold f_X10_spread_j48 at h
  obtain ⟨a5, h8, h⟩ := op_bind h
  have e8 := Option.some.inj h8
  refine r_iinc (lv2 := [(2, .int a5), (0, .ref (a 4)), (1, .int v1)]) C0 dX10_spread_48 2 rfl ki_1 e8 (Nat.le_of_ble_eq_true rfl) rfl ?_
  refine r_goto C0 10 dX10_spread_51 rfl ?_
  cases h
  have hz := el_inl hz
  exact r_sub [1, 2, 0] rfl hz
theorem w_X10_spread_B10 {x : Int32 × JT} {z : ((Int32 × JT) ⊕ (JT))} {Γ : Gam} {cy : Nat → ClassId} {a : Nat → Nat} {V : VT} {K : Nat → Option Nat} {X : va_W} {v1 : Int32}  (C0 : CXg Γ cX10_spread 4 2 RX10 cy) (hD : DC Γ cy a X) (h : f_X10_spread_B10 v1 V x = some z) (hz : (Sum.elim (fun x : Int32 × JT => Wp Γ 0 0 10 [(0, .ref (a 4)), (1, .int v1), (2, .int x.1)] [] (WC cy a V x.2 K X)) (fun y : JT => FinV Γ cX10_spread (WC cy a V y K X))) z) : Wp Γ 0 0 10 [(0, .ref (a 4)), (1, .int v1), (2, .int x.1)] [] (WC cy a V x.2 K X) := by
  unfold f_X10_spread_B10 at h
  refine r_iload_n C0 dX10_spread_10 rfl 2 rfl ?_
  refine r_bipush C0 dX10_spread_11 kb_16 ?_
  refine r_icmp_ge C0 54 dX10_spread_13 rfl h (fun _ h => ?_) (fun _ h => ?_)
  · obtain ⟨y3, h5, h9⟩ := op_bind h
    clear h
    cases h9
    have hz := (el_inr hz)
    have h := h5
    cases h
    exact hz _ _ dX10_spread_54
  · refine r_aload_n C0 dX10_spread_16 rfl 0 rfl ?_
    refine wcg_4_0 C0 tf_X10_19 dX10_spread_17 ?_
    refine r_iload_n C0 dX10_spread_20 rfl 1 rfl ?_
    refine r_iload_n C0 dX10_spread_21 rfl 2 rfl ?_
    refine callV2 C0 h (hD _ _ _) mw_X3_thingIn rv_3 tm_X10_37 (fun y hy => c_X3_thingIn hy) (Nat.le_of_ble_eq_true rfl) (Nat.le_of_ble_eq_true rfl) dX10_spread_22 (fun r4 h => ?_)
    refine r_istore_n (lv2 := [(3, .int r4), (0, .ref (a 4)), (1, .int v1), (2, .int x.1)]) C0 dX10_spread_25 rfl rfl (Nat.le_of_ble_eq_true rfl) rfl ?_
    refine r_iload_n C0 dX10_spread_26 rfl 0 rfl ?_
    refine r_if_lt C0 48 dX10_spread_27 rfl h (fun _ h => ?_) (fun _ h => ?_)
    · exact r_sub [1, 2, 3] rfl (w_X10_spread_j48 C0 hD h hz)
    · refine r_aload_n C0 dX10_spread_30 rfl 1 rfl ?_
      refine r_iload_n C0 dX10_spread_31 rfl 3 rfl ?_
      refine r_aload_n C0 dX10_spread_32 rfl 1 rfl ?_
      refine wcg_4_0 C0 tf_X10_19 dX10_spread_33 ?_
      refine wcg_3_3 C0 tf_X10_23 dX10_spread_36 ?_
      refine r_iload_n C0 dX10_spread_39 rfl 0 rfl ?_
      refine r_iconst C0 dX10_spread_40 ki_4 ?_
      refine callV2 C0 h (hD _ _ _) mw_X7_get (rv_t tb_13) tm_X10_29 (fun y hy => c_X7_get tb_13 hy) (Nat.le_of_ble_eq_true rfl) (Nat.le_of_ble_eq_true rfl) dX10_spread_41 (fun r6 h => ?_)
      refine r_i2l C0 dX10_spread_44 ?_
      refine callVv2 C0 h (hD _ _ _) mw_X10_bear rv_4 tm_X10_83 (fun y hy => c_X10_bear hy) (Nat.le_of_ble_eq_true rfl) (Nat.le_of_ble_eq_true rfl) dX10_spread_45 (fun r7 h => ?_)
      exact r_sub [1, 2, 3] rfl (w_X10_spread_j48 C0 hD h hz)
theorem w_X10_spread_B10_lp {x : Int32 × JT} {z : (JT)} {Γ : Gam} {cy : Nat → ClassId} {a : Nat → Nat} {V : VT} {K : Nat → Option Nat} {X : va_W} {v1 : Int32}  (C0 : CXg Γ cX10_spread 4 2 RX10 cy) (hD : DC Γ cy a X) (h : lp (f_X10_spread_B10 v1 V) fuel x = some z) (hz : (fun y : JT => FinV Γ cX10_spread (WC cy a V y K X)) z) : Wp Γ 0 0 10 [(0, .ref (a 4)), (1, .int v1), (2, .int x.1)] [] (WC cy a V x.2 K X) :=
  lp_rule (hd := (fun x : Int32 × JT => Wp Γ 0 0 10 [(0, .ref (a 4)), (1, .int v1), (2, .int x.1)] [] (WC cy a V x.2 K X))) (C := (fun y : JT => FinV Γ cX10_spread (WC cy a V y K X))) (fun x z h hz => w_X10_spread_B10 C0 hD h hz) _ _ _ h hz
theorem w_X10_spread {z : JT} {Γ : Gam} {cy : Nat → ClassId} {a : Nat → Nat} {V : VT} {J : JT} {K : Nat → Option Nat} {X : va_W} {v1 : Int32}  (C0 : CXg Γ cX10_spread 4 2 RX10 cy) (hD : DC Γ cy a X) (h : f_X10_spread v1 V J = some z) (hz : (fun y : JT => FinV Γ cX10_spread (WC cy a V y K X)) z) : Wp Γ 0 0 0 [(0, .ref (a 4)), (1, .int v1)] [] (WC cy a V J K X) := by
  unfold f_X10_spread at h
  refine r_aload_n C0 dX10_spread_0 rfl 0 rfl ?_
  refine wcg_4_2 C0 tf_X10_15 dX10_spread_1 ?_
  refine r_lconst (v := 0) C0 dX10_spread_4 (by decide) ?_
  refine callSv2 C0 h (hD _ _ _) ms_J7_fill_d0a16 tm_X10_77 (fun y hy => c_fillJ_24 hy) (Nat.le_of_ble_eq_true rfl) (Nat.le_of_ble_eq_true rfl) dX10_spread_5 (fun r1 h => ?_)
  refine r_iconst C0 dX10_spread_8 ki_0 ?_
  obtain ⟨a2, h8, h⟩ := op_bind h
  have e8 := Option.some.inj h8
  refine r_istore_n (lv2 := [(2, .int a2), (0, .ref (a 4)), (1, .int v1)]) C0 dX10_spread_9 rfl e8 (Nat.le_of_ble_eq_true rfl) rfl ?_
  exact r_sub [1, 2, 0] rfl (w_X10_spread_B10_lp C0 hD h hz)
theorem c_X10_spread {l : Launch} {D : va_G} {cy : Nat → ClassId} {a : Nat → Nat} {V : VT} {J : JT} {K : Nat → Option Nat} {X : va_W} {v1 : Int32} {y : JT} (h : f_X10_spread v1 V J = some y) : CT l D cy yX10_spread cX10_spread 4 none 2 [.ref (a 4), .int v1] (WC cy a V J K X) (WC cy a V y K X) none :=
  mkV (by decide) (Nat.le_of_ble_eq_true rfl) (fun Γ _ _ C0 hD hF => w_X10_spread C0 (dc_of hD) h hF)
theorem dX3_thingsOn_0 : decode cX3_thingsOn 0 = .ok (.iconst 0, 1) := by decide +kernel
theorem dX3_thingsOn_1 : decode cX3_thingsOn 1 = .ok (.istore_n 2, 1) := by decide +kernel
theorem dX3_thingsOn_2 : decode cX3_thingsOn 2 = .ok (.iconst 0, 1) := by decide +kernel
theorem dX3_thingsOn_3 : decode cX3_thingsOn 3 = .ok (.istore_n 3, 1) := by decide +kernel
theorem dX3_thingsOn_4 : decode cX3_thingsOn 4 = .ok (.iload_n 3, 1) := by decide +kernel
theorem dX3_thingsOn_5 : decode cX3_thingsOn 5 = .ok (.bipush 16, 2) := by decide +kernel
theorem dX3_thingsOn_7 : decode cX3_thingsOn 7 = .ok (.if_icmp .ge 25, 3) := by decide +kernel
theorem dX3_thingsOn_10 : decode cX3_thingsOn 10 = .ok (.aload_n 0, 1) := by decide +kernel
theorem dX3_thingsOn_11 : decode cX3_thingsOn 11 = .ok (.getfield 21, 3) := by decide +kernel
theorem dX3_thingsOn_14 : decode cX3_thingsOn 14 = .ok (.iload_n 1, 1) := by decide +kernel
theorem dX3_thingsOn_15 : decode cX3_thingsOn 15 = .ok (.iload_n 3, 1) := by decide +kernel
theorem dX3_thingsOn_16 : decode cX3_thingsOn 16 = .ok (.invokevirtual 42, 3) := by decide +kernel
theorem dX3_thingsOn_19 : decode cX3_thingsOn 19 = .ok (.iconst 2, 1) := by decide +kernel
theorem dX3_thingsOn_20 : decode cX3_thingsOn 20 = .ok (.if_icmp .lt 6, 3) := by decide +kernel
theorem dX3_thingsOn_23 : decode cX3_thingsOn 23 = .ok (.iinc 2 1, 3) := by decide +kernel
theorem dX3_thingsOn_26 : decode cX3_thingsOn 26 = .ok (.iinc 3 1, 3) := by decide +kernel
theorem dX3_thingsOn_29 : decode cX3_thingsOn 29 = .ok (.goto (-25), 3) := by decide +kernel
theorem dX3_thingsOn_32 : decode cX3_thingsOn 32 = .ok (.iload_n 2, 1) := by decide +kernel
theorem dX3_thingsOn_33 : decode cX3_thingsOn 33 = .ok (.ireturn, 1) := by decide +kernel
theorem w_X3_thingsOn_j26 {z : ((Int32 × Int32) ⊕ (Int32))} {Γ : Gam} {cy : Nat → ClassId} {a : Nat → Nat} {V : VT} {J : JT} {K : Nat → Option Nat} {X : va_W} {v1 : Int32} {v2 : Int32} {v3 : Int32}  (C0 : CXg Γ cX3_thingsOn 4 1 RX3 cy) (hD : DC Γ cy a X) (h : f_X3_thingsOn_j26 v1 v2 v3 V = some z) (hz : (Sum.elim (fun x : Int32 × Int32 => Wp Γ 0 0 4 [(0, .ref (a 3)), (1, .int v1), (2, .int x.1), (3, .int x.2)] [] (WC cy a V J K X)) (fun y : Int32 => FinI Γ cX3_thingsOn (WC cy a V J K X) y)) z) : Wp Γ 0 0 26 [(0, .ref (a 3)), (1, .int v1), (2, .int v2), (3, .int v3)] [] (WC cy a V J K X) := by
  unfold f_X3_thingsOn_j26 at h
  obtain ⟨a5, h8, h⟩ := op_bind h
  have e8 := Option.some.inj h8
  refine r_iinc (lv2 := [(3, .int a5), (0, .ref (a 3)), (1, .int v1), (2, .int v2)]) C0 dX3_thingsOn_26 3 rfl ki_1 e8 (Nat.le_of_ble_eq_true rfl) rfl ?_
  refine r_goto C0 4 dX3_thingsOn_29 rfl ?_
  cases h
  have hz := el_inl hz
  exact r_sub [1, 2, 3, 0] rfl hz
theorem w_X3_thingsOn_B4 {x : Int32 × Int32} {z : ((Int32 × Int32) ⊕ (Int32))} {Γ : Gam} {cy : Nat → ClassId} {a : Nat → Nat} {V : VT} {J : JT} {K : Nat → Option Nat} {X : va_W} {v1 : Int32}  (C0 : CXg Γ cX3_thingsOn 4 1 RX3 cy) (hD : DC Γ cy a X) (h : f_X3_thingsOn_B4 v1 V x = some z) (hz : (Sum.elim (fun x : Int32 × Int32 => Wp Γ 0 0 4 [(0, .ref (a 3)), (1, .int v1), (2, .int x.1), (3, .int x.2)] [] (WC cy a V J K X)) (fun y : Int32 => FinI Γ cX3_thingsOn (WC cy a V J K X) y)) z) : Wp Γ 0 0 4 [(0, .ref (a 3)), (1, .int v1), (2, .int x.1), (3, .int x.2)] [] (WC cy a V J K X) := by
  unfold f_X3_thingsOn_B4 at h
  refine r_iload_n C0 dX3_thingsOn_4 rfl 3 rfl ?_
  refine r_bipush C0 dX3_thingsOn_5 kb_16 ?_
  refine r_icmp_ge C0 32 dX3_thingsOn_7 rfl h (fun _ h => ?_) (fun _ h => ?_)
  · obtain ⟨y3, h5, h9⟩ := op_bind h
    clear h
    cases h9
    have hz := (el_inr hz)
    have h := h5
    refine r_iload_n C0 dX3_thingsOn_32 rfl 2 rfl ?_
    cases h
    exact hz _ _ dX3_thingsOn_33
  · refine r_aload_n C0 dX3_thingsOn_10 rfl 0 rfl ?_
    refine wcg_3_1 C0 tf_X3_21 dX3_thingsOn_11 ?_
    refine r_iload_n C0 dX3_thingsOn_14 rfl 1 rfl ?_
    refine r_iload_n C0 dX3_thingsOn_15 rfl 3 rfl ?_
    refine callV2 C0 h (hD _ _ _) mw_X7_get (rv_t tb_11) tm_X3_42 (fun y hy => c_X7_get tb_11 hy) (Nat.le_of_ble_eq_true rfl) (Nat.le_of_ble_eq_true rfl) dX3_thingsOn_16 (fun r4 h => ?_)
    refine r_iconst C0 dX3_thingsOn_19 ki_2 ?_
    refine r_icmp_lt C0 26 dX3_thingsOn_20 rfl h (fun _ h => ?_) (fun _ h => ?_)
    · exact r_sub [0, 1, 2, 3] rfl (w_X3_thingsOn_j26 C0 hD h hz)
    · obtain ⟨a6, h8, h⟩ := op_bind h
      have e8 := Option.some.inj h8
      refine r_iinc (lv2 := [(2, .int a6), (0, .ref (a 3)), (1, .int v1), (3, .int x.2)]) C0 dX3_thingsOn_23 2 rfl ki_1 e8 (Nat.le_of_ble_eq_true rfl) rfl ?_
      exact r_sub [1, 2, 0, 3] rfl (w_X3_thingsOn_j26 C0 hD h hz)
theorem w_X3_thingsOn_B4_lp {x : Int32 × Int32} {z : (Int32)} {Γ : Gam} {cy : Nat → ClassId} {a : Nat → Nat} {V : VT} {J : JT} {K : Nat → Option Nat} {X : va_W} {v1 : Int32}  (C0 : CXg Γ cX3_thingsOn 4 1 RX3 cy) (hD : DC Γ cy a X) (h : lp (f_X3_thingsOn_B4 v1 V) fuel x = some z) (hz : (fun y : Int32 => FinI Γ cX3_thingsOn (WC cy a V J K X) y) z) : Wp Γ 0 0 4 [(0, .ref (a 3)), (1, .int v1), (2, .int x.1), (3, .int x.2)] [] (WC cy a V J K X) :=
  lp_rule (hd := (fun x : Int32 × Int32 => Wp Γ 0 0 4 [(0, .ref (a 3)), (1, .int v1), (2, .int x.1), (3, .int x.2)] [] (WC cy a V J K X))) (C := (fun y : Int32 => FinI Γ cX3_thingsOn (WC cy a V J K X) y)) (fun x z h hz => w_X3_thingsOn_B4 C0 hD h hz) _ _ _ h hz
theorem w_X3_thingsOn {z : Int32} {Γ : Gam} {cy : Nat → ClassId} {a : Nat → Nat} {V : VT} {J : JT} {K : Nat → Option Nat} {X : va_W} {v1 : Int32}  (C0 : CXg Γ cX3_thingsOn 4 1 RX3 cy) (hD : DC Γ cy a X) (h : f_X3_thingsOn v1 V = some z) (hz : (fun y : Int32 => FinI Γ cX3_thingsOn (WC cy a V J K X) y) z) : Wp Γ 0 0 0 [(0, .ref (a 3)), (1, .int v1)] [] (WC cy a V J K X) := by
  unfold f_X3_thingsOn at h
  refine r_iconst C0 dX3_thingsOn_0 ki_0 ?_
  obtain ⟨a1, h8, h⟩ := op_bind h
  have e8 := Option.some.inj h8
  refine r_istore_n (lv2 := [(2, .int a1), (0, .ref (a 3)), (1, .int v1)]) C0 dX3_thingsOn_1 rfl e8 (Nat.le_of_ble_eq_true rfl) rfl ?_
  refine r_iconst C0 dX3_thingsOn_2 ki_0 ?_
  obtain ⟨a2, h8, h⟩ := op_bind h
  have e8 := Option.some.inj h8
  refine r_istore_n (lv2 := [(3, .int a2), (2, .int a1), (0, .ref (a 3)), (1, .int v1)]) C0 dX3_thingsOn_3 rfl e8 (Nat.le_of_ble_eq_true rfl) rfl ?_
  exact r_sub [2, 3, 1, 0] rfl (w_X3_thingsOn_B4_lp C0 hD h hz)
theorem c_X3_thingsOn {l : Launch} {D : va_G} {cy : Nat → ClassId} {a : Nat → Nat} {V : VT} {J : JT} {K : Nat → Option Nat} {X : va_W} {v1 : Int32} {y : Int32} (h : f_X3_thingsOn v1 V = some y) : CT l D cy yX3_thingsOn cX3_thingsOn 4 (some .int) 1 [.ref (a 3), .int v1] (WC cy a V J K X) (WC cy a V J K X) (some (.int y)) :=
  mkI (by decide) (Nat.le_of_ble_eq_true rfl) (fun Γ _ _ C0 hD hF => w_X3_thingsOn C0 (dc_of hD) h hF)
theorem dX10_isHeld_0 : decode cX10_isHeld 0 = .ok (.aload_n 0, 1) := by decide +kernel
theorem dX10_isHeld_1 : decode cX10_isHeld 1 = .ok (.getfield 19, 3) := by decide +kernel
theorem dX10_isHeld_4 : decode cX10_isHeld 4 = .ok (.iload_n 1, 1) := by decide +kernel
theorem dX10_isHeld_5 : decode cX10_isHeld 5 = .ok (.invokevirtual 56, 3) := by decide +kernel
theorem dX10_isHeld_8 : decode cX10_isHeld 8 = .ok (.ifCond .ne 5, 3) := by decide +kernel
theorem dX10_isHeld_11 : decode cX10_isHeld 11 = .ok (.iconst 1, 1) := by decide +kernel
theorem dX10_isHeld_12 : decode cX10_isHeld 12 = .ok (.ireturn, 1) := by decide +kernel
theorem dX10_isHeld_13 : decode cX10_isHeld 13 = .ok (.aload_n 0, 1) := by decide +kernel
theorem dX10_isHeld_14 : decode cX10_isHeld 14 = .ok (.iload_n 1, 1) := by decide +kernel
theorem dX10_isHeld_15 : decode cX10_isHeld 15 = .ok (.invokevirtual 60, 3) := by decide +kernel
theorem dX10_isHeld_18 : decode cX10_isHeld 18 = .ok (.istore_n 2, 1) := by decide +kernel
theorem dX10_isHeld_19 : decode cX10_isHeld 19 = .ok (.aload_n 0, 1) := by decide +kernel
theorem dX10_isHeld_20 : decode cX10_isHeld 20 = .ok (.iload_n 1, 1) := by decide +kernel
theorem dX10_isHeld_21 : decode cX10_isHeld 21 = .ok (.invokevirtual 63, 3) := by decide +kernel
theorem dX10_isHeld_24 : decode cX10_isHeld 24 = .ok (.iload_n 2, 1) := by decide +kernel
theorem dX10_isHeld_25 : decode cX10_isHeld 25 = .ok (.ifCond .eq 10, 3) := by decide +kernel
theorem dX10_isHeld_28 : decode cX10_isHeld 28 = .ok (.aload_n 0, 1) := by decide +kernel
theorem dX10_isHeld_29 : decode cX10_isHeld 29 = .ok (.invokevirtual 67, 3) := by decide +kernel
theorem dX10_isHeld_32 : decode cX10_isHeld 32 = .ok (.ifCond .eq 5, 3) := by decide +kernel
theorem dX10_isHeld_35 : decode cX10_isHeld 35 = .ok (.iconst 0, 1) := by decide +kernel
theorem dX10_isHeld_36 : decode cX10_isHeld 36 = .ok (.ireturn, 1) := by decide +kernel
theorem dX10_isHeld_37 : decode cX10_isHeld 37 = .ok (.iload_n 2, 1) := by decide +kernel
theorem dX10_isHeld_38 : decode cX10_isHeld 38 = .ok (.iconst 1, 1) := by decide +kernel
theorem dX10_isHeld_39 : decode cX10_isHeld 39 = .ok (.if_icmp .gt 11, 3) := by decide +kernel
theorem dX10_isHeld_42 : decode cX10_isHeld 42 = .ok (.aload_n 0, 1) := by decide +kernel
theorem dX10_isHeld_43 : decode cX10_isHeld 43 = .ok (.iload_n 1, 1) := by decide +kernel
theorem dX10_isHeld_44 : decode cX10_isHeld 44 = .ok (.invokevirtual 71, 3) := by decide +kernel
theorem dX10_isHeld_47 : decode cX10_isHeld 47 = .ok (.ifCond .eq 7, 3) := by decide +kernel
theorem dX10_isHeld_50 : decode cX10_isHeld 50 = .ok (.iconst 1, 1) := by decide +kernel
theorem dX10_isHeld_51 : decode cX10_isHeld 51 = .ok (.goto 4, 3) := by decide +kernel
theorem dX10_isHeld_54 : decode cX10_isHeld 54 = .ok (.iconst 0, 1) := by decide +kernel
theorem dX10_isHeld_55 : decode cX10_isHeld 55 = .ok (.ireturn, 1) := by decide +kernel
theorem w_X10_isHeld_j50 {z : (Int32 × VT × JT)} {Γ : Gam} {cy : Nat → ClassId} {a : Nat → Nat} {V : VT} {J : JT} {K : Nat → Option Nat} {X : va_W}  (C0 : CXg Γ cX10_isHeld 3 3 RX10 cy) (hD : DC Γ cy a X) (h : f_X10_isHeld_j50 V J = some z) (hz : (fun y : Int32 × VT × JT => FinZ Γ cX10_isHeld (WC cy a y.2.1 y.2.2 K X) y.1) z) : Wp Γ 0 0 50 [] [] (WC cy a V J K X) := by
  unfold f_X10_isHeld_j50 at h
  refine r_iconst C0 dX10_isHeld_50 ki_1 ?_
  refine r_goto C0 55 dX10_isHeld_51 rfl ?_
  cases h
  exact hz _ _ nz_1 dX10_isHeld_55
theorem w_X10_isHeld {z : Int32 × VT × JT} {Γ : Gam} {cy : Nat → ClassId} {a : Nat → Nat} {V : VT} {J : JT} {K : Nat → Option Nat} {X : va_W} {v1 : Int32}  (C0 : CXg Γ cX10_isHeld 3 3 RX10 cy) (hD : DC Γ cy a X) (h : f_X10_isHeld v1 V J = some z) (hz : (fun y : Int32 × VT × JT => FinZ Γ cX10_isHeld (WC cy a y.2.1 y.2.2 K X) y.1) z) : Wp Γ 0 0 0 [(0, .ref (a 4)), (1, .int v1)] [] (WC cy a V J K X) := by
  unfold f_X10_isHeld at h
  refine r_aload_n C0 dX10_isHeld_0 rfl 0 rfl ?_
  refine wcg_4_0 C0 tf_X10_19 dX10_isHeld_1 ?_
  refine r_iload_n C0 dX10_isHeld_4 rfl 1 rfl ?_
  refine callV1 C0 h (hD _ _ _) mw_X3_thingsOn rv_3 tm_X10_56 (fun y hy => c_X3_thingsOn hy) (Nat.le_of_ble_eq_true rfl) (Nat.le_of_ble_eq_true rfl) dX10_isHeld_5 (fun r1 h => ?_)
  refine r_if_ne C0 13 dX10_isHeld_8 rfl h (fun _ h => ?_) (fun _ h => ?_)
  · refine r_aload_n C0 dX10_isHeld_13 rfl 0 rfl ?_
    refine r_iload_n C0 dX10_isHeld_14 rfl 1 rfl ?_
    refine callV1 C0 h (hD _ _ _) mw_X10_findLines rv_4 tm_X10_60 (fun y hy => c_X10_findLines hy) (Nat.le_of_ble_eq_true rfl) (Nat.le_of_ble_eq_true rfl) dX10_isHeld_15 (fun r2 h => ?_)
    refine r_istore_n (lv2 := [(2, .int r2.1), (0, .ref (a 4)), (1, .int v1)]) C0 dX10_isHeld_18 rfl rfl (Nat.le_of_ble_eq_true rfl) rfl ?_
    refine r_aload_n C0 dX10_isHeld_19 rfl 1 rfl ?_
    refine r_iload_n C0 dX10_isHeld_20 rfl 2 rfl ?_
    refine callVv1 C0 h (hD _ _ _) mw_X10_spread rv_4 tm_X10_63 (fun y hy => c_X10_spread hy) (Nat.le_of_ble_eq_true rfl) (Nat.le_of_ble_eq_true rfl) dX10_isHeld_21 (fun r3 h => ?_)
    refine r_iload_n C0 dX10_isHeld_24 rfl 0 rfl ?_
    refine r_if_eq C0 35 dX10_isHeld_25 rfl h (fun _ h => ?_) (fun _ h => ?_)
    · refine r_iconst C0 dX10_isHeld_35 ki_0 ?_
      cases h
      exact hz _ _ nz_0 dX10_isHeld_36
    · refine r_aload_n C0 dX10_isHeld_28 rfl 1 rfl ?_
      refine callV0 C0 h (hD _ _ _) mw_X10_isOneTooWeak rv_4 tm_X10_67 (fun y hy => c_X10_isOneTooWeak hy) (Nat.le_of_ble_eq_true rfl) (Nat.le_of_ble_eq_true rfl) dX10_isHeld_29 (fun r4 h => ?_)
      refine r_if_eq C0 37 dX10_isHeld_32 rfl h (fun _ h => ?_) (fun _ h => ?_)
      · refine r_iload_n C0 dX10_isHeld_37 rfl 0 rfl ?_
        refine r_iconst C0 dX10_isHeld_38 ki_1 ?_
        refine r_icmp_gt C0 50 dX10_isHeld_39 rfl h (fun _ h => ?_) (fun _ h => ?_)
        · exact r_sub [] rfl (w_X10_isHeld_j50 C0 hD h hz)
        · refine r_aload_n C0 dX10_isHeld_42 rfl 1 rfl ?_
          refine r_iload_n C0 dX10_isHeld_43 rfl 2 rfl ?_
          refine callV1 C0 h (hD _ _ _) mw_X10_isUpright rv_4 tm_X10_71 (fun y hy => c_X10_isUpright hy) (Nat.le_of_ble_eq_true rfl) (Nat.le_of_ble_eq_true rfl) dX10_isHeld_44 (fun r5 h => ?_)
          refine r_if_eq C0 54 dX10_isHeld_47 rfl h (fun _ h => ?_) (fun _ h => ?_)
          · refine r_iconst C0 dX10_isHeld_54 ki_0 ?_
            cases h
            exact hz _ _ nz_0 dX10_isHeld_55
          · exact r_sub [] rfl (w_X10_isHeld_j50 C0 hD h hz)
      · refine r_iconst C0 dX10_isHeld_35 ki_0 ?_
        cases h
        exact hz _ _ nz_0 dX10_isHeld_36
  · refine r_iconst C0 dX10_isHeld_11 ki_1 ?_
    cases h
    exact hz _ _ nz_1 dX10_isHeld_12
theorem c_X10_isHeld {l : Launch} {D : va_G} {cy : Nat → ClassId} {a : Nat → Nat} {V : VT} {J : JT} {K : Nat → Option Nat} {X : va_W} {v1 : Int32} {y : Int32 × VT × JT} (h : f_X10_isHeld v1 V J = some y) : CT l D cy yX10_isHeld cX10_isHeld 3 (some .boolean) 3 [.ref (a 4), .int v1] (WC cy a V J K X) (WC cy a y.2.1 y.2.2 K X) (some (.int y.1)) :=
  mkZ (by decide) (Nat.le_of_ble_eq_true rfl) (fun Γ _ _ C0 hD hF => w_X10_isHeld C0 (dc_of hD) h hF)
theorem dX5_isTiedDown_0 : decode cX5_isTiedDown 0 = .ok (.iconst 0, 1) := by decide +kernel
theorem dX5_isTiedDown_1 : decode cX5_isTiedDown 1 = .ok (.istore_n 2, 1) := by decide +kernel
theorem dX5_isTiedDown_2 : decode cX5_isTiedDown 2 = .ok (.iload_n 2, 1) := by decide +kernel
theorem dX5_isTiedDown_3 : decode cX5_isTiedDown 3 = .ok (.bipush 16, 2) := by decide +kernel
theorem dX5_isTiedDown_5 : decode cX5_isTiedDown 5 = .ok (.if_icmp .ge 47, 3) := by decide +kernel
theorem dX5_isTiedDown_8 : decode cX5_isTiedDown 8 = .ok (.aload_n 0, 1) := by decide +kernel
theorem dX5_isTiedDown_9 : decode cX5_isTiedDown 9 = .ok (.getfield 9, 3) := by decide +kernel
theorem dX5_isTiedDown_12 : decode cX5_isTiedDown 12 = .ok (.getfield 15, 3) := by decide +kernel
theorem dX5_isTiedDown_15 : decode cX5_isTiedDown 15 = .ok (.iload_n 1, 1) := by decide +kernel
theorem dX5_isTiedDown_16 : decode cX5_isTiedDown 16 = .ok (.iload_n 2, 1) := by decide +kernel
theorem dX5_isTiedDown_17 : decode cX5_isTiedDown 17 = .ok (.invokevirtual 21, 3) := by decide +kernel
theorem dX5_isTiedDown_20 : decode cX5_isTiedDown 20 = .ok (.istore_n 3, 1) := by decide +kernel
theorem dX5_isTiedDown_21 : decode cX5_isTiedDown 21 = .ok (.iload_n 3, 1) := by decide +kernel
theorem dX5_isTiedDown_22 : decode cX5_isTiedDown 22 = .ok (.iconst 2, 1) := by decide +kernel
theorem dX5_isTiedDown_23 : decode cX5_isTiedDown 23 = .ok (.if_icmp .lt 23, 3) := by decide +kernel
theorem dX5_isTiedDown_26 : decode cX5_isTiedDown 26 = .ok (.iload_n 3, 1) := by decide +kernel
theorem dX5_isTiedDown_27 : decode cX5_isTiedDown 27 = .ok (.aload_n 0, 1) := by decide +kernel
theorem dX5_isTiedDown_28 : decode cX5_isTiedDown 28 = .ok (.getfield 9, 3) := by decide +kernel
theorem dX5_isTiedDown_31 : decode cX5_isTiedDown 31 = .ok (.getfield 15, 3) := by decide +kernel
theorem dX5_isTiedDown_34 : decode cX5_isTiedDown 34 = .ok (.iload_n 1, 1) := by decide +kernel
theorem dX5_isTiedDown_35 : decode cX5_isTiedDown 35 = .ok (.iconst 1, 1) := by decide +kernel
theorem dX5_isTiedDown_36 : decode cX5_isTiedDown 36 = .ok (.isub, 1) := by decide +kernel
theorem dX5_isTiedDown_37 : decode cX5_isTiedDown 37 = .ok (.iload_n 2, 1) := by decide +kernel
theorem dX5_isTiedDown_38 : decode cX5_isTiedDown 38 = .ok (.invokevirtual 21, 3) := by decide +kernel
theorem dX5_isTiedDown_41 : decode cX5_isTiedDown 41 = .ok (.if_icmp .ne 5, 3) := by decide +kernel
theorem dX5_isTiedDown_44 : decode cX5_isTiedDown 44 = .ok (.iconst 1, 1) := by decide +kernel
theorem dX5_isTiedDown_45 : decode cX5_isTiedDown 45 = .ok (.ireturn, 1) := by decide +kernel
theorem dX5_isTiedDown_46 : decode cX5_isTiedDown 46 = .ok (.iinc 2 1, 3) := by decide +kernel
theorem dX5_isTiedDown_49 : decode cX5_isTiedDown 49 = .ok (.goto (-47), 3) := by decide +kernel
theorem dX5_isTiedDown_52 : decode cX5_isTiedDown 52 = .ok (.iconst 0, 1) := by decide +kernel
theorem dX5_isTiedDown_53 : decode cX5_isTiedDown 53 = .ok (.ireturn, 1) := by decide +kernel
theorem w_X5_isTiedDown_j46 {z : ((Int32) ⊕ (Int32))} {Γ : Gam} {cy : Nat → ClassId} {a : Nat → Nat} {V : VT} {J : JT} {K : Nat → Option Nat} {X : va_W} {v1 : Int32} {v2 : Int32}  (C0 : CXg Γ cX5_isTiedDown 4 1 RX5 cy) (hD : DC Γ cy a X) (h : f_X5_isTiedDown_j46 v1 v2 V = some z) (hz : (Sum.elim (fun x : Int32 => Wp Γ 0 0 2 [(0, .ref (a 5)), (1, .int v1), (2, .int x)] [] (WC cy a V J K X)) (fun y : Int32 => FinZ Γ cX5_isTiedDown (WC cy a V J K X) y)) z) : Wp Γ 0 0 46 [(0, .ref (a 5)), (1, .int v1), (2, .int v2)] [] (WC cy a V J K X) := by
  unfold f_X5_isTiedDown_j46 at h
  obtain ⟨a4, h8, h⟩ := op_bind h
  have e8 := Option.some.inj h8
  refine r_iinc (lv2 := [(2, .int a4), (0, .ref (a 5)), (1, .int v1)]) C0 dX5_isTiedDown_46 2 rfl ki_1 e8 (Nat.le_of_ble_eq_true rfl) rfl ?_
  refine r_goto C0 2 dX5_isTiedDown_49 rfl ?_
  cases h
  have hz := el_inl hz
  exact r_sub [1, 2, 0] rfl hz
theorem w_X5_isTiedDown_B2 {x : Int32} {z : ((Int32) ⊕ (Int32))} {Γ : Gam} {cy : Nat → ClassId} {a : Nat → Nat} {V : VT} {J : JT} {K : Nat → Option Nat} {X : va_W} {v1 : Int32}  (C0 : CXg Γ cX5_isTiedDown 4 1 RX5 cy) (hD : DC Γ cy a X) (h : f_X5_isTiedDown_B2 v1 V x = some z) (hz : (Sum.elim (fun x : Int32 => Wp Γ 0 0 2 [(0, .ref (a 5)), (1, .int v1), (2, .int x)] [] (WC cy a V J K X)) (fun y : Int32 => FinZ Γ cX5_isTiedDown (WC cy a V J K X) y)) z) : Wp Γ 0 0 2 [(0, .ref (a 5)), (1, .int v1), (2, .int x)] [] (WC cy a V J K X) := by
  unfold f_X5_isTiedDown_B2 at h
  refine r_iload_n C0 dX5_isTiedDown_2 rfl 2 rfl ?_
  refine r_bipush C0 dX5_isTiedDown_3 kb_16 ?_
  refine r_icmp_ge C0 52 dX5_isTiedDown_5 rfl h (fun _ h => ?_) (fun _ h => ?_)
  · obtain ⟨y2, h5, h9⟩ := op_bind h
    clear h
    cases h9
    have hz := (el_inr hz)
    have h := h5
    refine r_iconst C0 dX5_isTiedDown_52 ki_0 ?_
    cases h
    exact hz _ _ nz_0 dX5_isTiedDown_53
  · refine r_aload_n C0 dX5_isTiedDown_8 rfl 0 rfl ?_
    refine wcg_5_0 C0 tf_X5_9 dX5_isTiedDown_9 ?_
    refine wcg_3_1 C0 tf_X5_15 dX5_isTiedDown_12 ?_
    refine r_iload_n C0 dX5_isTiedDown_15 rfl 1 rfl ?_
    refine r_iload_n C0 dX5_isTiedDown_16 rfl 2 rfl ?_
    refine callV2 C0 h (hD _ _ _) mw_X7_get (rv_t tb_11) tm_X5_21 (fun y hy => c_X7_get tb_11 hy) (Nat.le_of_ble_eq_true rfl) (Nat.le_of_ble_eq_true rfl) dX5_isTiedDown_17 (fun r3 h => ?_)
    refine r_istore_n (lv2 := [(3, .int r3), (0, .ref (a 5)), (1, .int v1), (2, .int x)]) C0 dX5_isTiedDown_20 rfl rfl (Nat.le_of_ble_eq_true rfl) rfl ?_
    refine r_iload_n C0 dX5_isTiedDown_21 rfl 0 rfl ?_
    refine r_iconst C0 dX5_isTiedDown_22 ki_2 ?_
    refine r_icmp_lt C0 46 dX5_isTiedDown_23 rfl h (fun _ h => ?_) (fun _ h => ?_)
    · exact r_sub [1, 2, 3] rfl (w_X5_isTiedDown_j46 C0 hD h hz)
    · refine r_iload_n C0 dX5_isTiedDown_26 rfl 0 rfl ?_
      refine r_aload_n C0 dX5_isTiedDown_27 rfl 1 rfl ?_
      refine wcg_5_0 C0 tf_X5_9 dX5_isTiedDown_28 ?_
      refine wcg_3_1 C0 tf_X5_15 dX5_isTiedDown_31 ?_
      refine r_iload_n C0 dX5_isTiedDown_34 rfl 2 rfl ?_
      refine r_iconst C0 dX5_isTiedDown_35 ki_1 ?_
      refine r_isub C0 dX5_isTiedDown_36 ?_
      refine r_iload_n C0 dX5_isTiedDown_37 rfl 3 rfl ?_
      refine callV2 C0 h (hD _ _ _) mw_X7_get (rv_t tb_11) tm_X5_21 (fun y hy => c_X7_get tb_11 hy) (Nat.le_of_ble_eq_true rfl) (Nat.le_of_ble_eq_true rfl) dX5_isTiedDown_38 (fun r5 h => ?_)
      refine r_icmp_ne C0 46 dX5_isTiedDown_41 rfl h (fun _ h => ?_) (fun _ h => ?_)
      · exact r_sub [1, 2, 3] rfl (w_X5_isTiedDown_j46 C0 hD h hz)
      · obtain ⟨y6, h5, h9⟩ := op_bind h
        clear h
        cases h9
        have hz := (el_inr hz)
        have h := h5
        refine r_iconst C0 dX5_isTiedDown_44 ki_1 ?_
        cases h
        exact hz _ _ nz_1 dX5_isTiedDown_45
theorem w_X5_isTiedDown_B2_lp {x : Int32} {z : (Int32)} {Γ : Gam} {cy : Nat → ClassId} {a : Nat → Nat} {V : VT} {J : JT} {K : Nat → Option Nat} {X : va_W} {v1 : Int32}  (C0 : CXg Γ cX5_isTiedDown 4 1 RX5 cy) (hD : DC Γ cy a X) (h : lp (f_X5_isTiedDown_B2 v1 V) fuel x = some z) (hz : (fun y : Int32 => FinZ Γ cX5_isTiedDown (WC cy a V J K X) y) z) : Wp Γ 0 0 2 [(0, .ref (a 5)), (1, .int v1), (2, .int x)] [] (WC cy a V J K X) :=
  lp_rule (hd := (fun x : Int32 => Wp Γ 0 0 2 [(0, .ref (a 5)), (1, .int v1), (2, .int x)] [] (WC cy a V J K X))) (C := (fun y : Int32 => FinZ Γ cX5_isTiedDown (WC cy a V J K X) y)) (fun x z h hz => w_X5_isTiedDown_B2 C0 hD h hz) _ _ _ h hz
theorem w_X5_isTiedDown {z : Int32} {Γ : Gam} {cy : Nat → ClassId} {a : Nat → Nat} {V : VT} {J : JT} {K : Nat → Option Nat} {X : va_W} {v1 : Int32}  (C0 : CXg Γ cX5_isTiedDown 4 1 RX5 cy) (hD : DC Γ cy a X) (h : f_X5_isTiedDown v1 V = some z) (hz : (fun y : Int32 => FinZ Γ cX5_isTiedDown (WC cy a V J K X) y) z) : Wp Γ 0 0 0 [(0, .ref (a 5)), (1, .int v1)] [] (WC cy a V J K X) := by
  unfold f_X5_isTiedDown at h
  refine r_iconst C0 dX5_isTiedDown_0 ki_0 ?_
  obtain ⟨a1, h8, h⟩ := op_bind h
  have e8 := Option.some.inj h8
  refine r_istore_n (lv2 := [(2, .int a1), (0, .ref (a 5)), (1, .int v1)]) C0 dX5_isTiedDown_1 rfl e8 (Nat.le_of_ble_eq_true rfl) rfl ?_
  exact r_sub [1, 2, 0] rfl (w_X5_isTiedDown_B2_lp C0 hD h hz)
theorem c_X5_isTiedDown {l : Launch} {D : va_G} {cy : Nat → ClassId} {a : Nat → Nat} {V : VT} {J : JT} {K : Nat → Option Nat} {X : va_W} {v1 : Int32} {y : Int32} (h : f_X5_isTiedDown v1 V = some y) : CT l D cy yX5_isTiedDown cX5_isTiedDown 4 (some .boolean) 1 [.ref (a 5), .int v1] (WC cy a V J K X) (WC cy a V J K X) (some (.int y)) :=
  mkZ (by decide) (Nat.le_of_ble_eq_true rfl) (fun Γ _ _ C0 hD hF => w_X5_isTiedDown C0 (dc_of hD) h hF)
theorem dX0_lookAtBars_0 : decode cX0_lookAtBars 0 = .ok (.iconst 0, 1) := by decide +kernel
theorem dX0_lookAtBars_1 : decode cX0_lookAtBars 1 = .ok (.istore_n 1, 1) := by decide +kernel
theorem dX0_lookAtBars_2 : decode cX0_lookAtBars 2 = .ok (.iload_n 1, 1) := by decide +kernel
theorem dX0_lookAtBars_3 : decode cX0_lookAtBars 3 = .ok (.bipush 12, 2) := by decide +kernel
theorem dX0_lookAtBars_5 : decode cX0_lookAtBars 5 = .ok (.if_icmp .ge 51, 3) := by decide +kernel
theorem dX0_lookAtBars_8 : decode cX0_lookAtBars 8 = .ok (.aload_n 0, 1) := by decide +kernel
theorem dX0_lookAtBars_9 : decode cX0_lookAtBars 9 = .ok (.getfield 9, 3) := by decide +kernel
theorem dX0_lookAtBars_12 : decode cX0_lookAtBars 12 = .ok (.iload_n 1, 1) := by decide +kernel
theorem dX0_lookAtBars_13 : decode cX0_lookAtBars 13 = .ok (.aload_n 0, 1) := by decide +kernel
theorem dX0_lookAtBars_14 : decode cX0_lookAtBars 14 = .ok (.getfield 44, 3) := by decide +kernel
theorem dX0_lookAtBars_17 : decode cX0_lookAtBars 17 = .ok (.iload_n 1, 1) := by decide +kernel
theorem dX0_lookAtBars_18 : decode cX0_lookAtBars 18 = .ok (.invokevirtual 105, 3) := by decide +kernel
theorem dX0_lookAtBars_21 : decode cX0_lookAtBars 21 = .ok (.bastore, 1) := by decide +kernel
theorem dX0_lookAtBars_22 : decode cX0_lookAtBars 22 = .ok (.aload_n 0, 1) := by decide +kernel
theorem dX0_lookAtBars_23 : decode cX0_lookAtBars 23 = .ok (.getfield 15, 3) := by decide +kernel
theorem dX0_lookAtBars_26 : decode cX0_lookAtBars 26 = .ok (.iload_n 1, 1) := by decide +kernel
theorem dX0_lookAtBars_27 : decode cX0_lookAtBars 27 = .ok (.aload_n 0, 1) := by decide +kernel
theorem dX0_lookAtBars_28 : decode cX0_lookAtBars 28 = .ok (.getfield 40, 3) := by decide +kernel
theorem dX0_lookAtBars_31 : decode cX0_lookAtBars 31 = .ok (.iload_n 1, 1) := by decide +kernel
theorem dX0_lookAtBars_32 : decode cX0_lookAtBars 32 = .ok (.invokevirtual 108, 3) := by decide +kernel
theorem dX0_lookAtBars_35 : decode cX0_lookAtBars 35 = .ok (.bastore, 1) := by decide +kernel
theorem dX0_lookAtBars_36 : decode cX0_lookAtBars 36 = .ok (.aload_n 0, 1) := by decide +kernel
theorem dX0_lookAtBars_37 : decode cX0_lookAtBars 37 = .ok (.getfield 18, 3) := by decide +kernel
theorem dX0_lookAtBars_40 : decode cX0_lookAtBars 40 = .ok (.iload_n 1, 1) := by decide +kernel
theorem dX0_lookAtBars_41 : decode cX0_lookAtBars 41 = .ok (.aload_n 0, 1) := by decide +kernel
theorem dX0_lookAtBars_42 : decode cX0_lookAtBars 42 = .ok (.getfield 40, 3) := by decide +kernel
theorem dX0_lookAtBars_45 : decode cX0_lookAtBars 45 = .ok (.iload_n 1, 1) := by decide +kernel
theorem dX0_lookAtBars_46 : decode cX0_lookAtBars 46 = .ok (.invokevirtual 113, 3) := by decide +kernel
theorem dX0_lookAtBars_49 : decode cX0_lookAtBars 49 = .ok (.bastore, 1) := by decide +kernel
theorem dX0_lookAtBars_50 : decode cX0_lookAtBars 50 = .ok (.iinc 1 1, 3) := by decide +kernel
theorem dX0_lookAtBars_53 : decode cX0_lookAtBars 53 = .ok (.goto (-51), 3) := by decide +kernel
theorem dX0_lookAtBars_56 : decode cX0_lookAtBars 56 = .ok (.return_, 1) := by decide +kernel
theorem w_X0_lookAtBars_B2 {x : Int32 × VT × JT} {z : ((Int32 × VT × JT) ⊕ (VT × JT))} {Γ : Gam} {cy : Nat → ClassId} {a : Nat → Nat} {K : Nat → Option Nat} {X : va_W}  (C0 : CXg Γ cX0_lookAtBars 2 4 RX0 cy) (hD : DC Γ cy a X) (h : f_X0_lookAtBars_B2 x = some z) (hz : (Sum.elim (fun x : Int32 × VT × JT => Wp Γ 0 0 2 [(0, .ref (a 8)), (1, .int x.1)] [] (WC cy a x.2.1 x.2.2 K X)) (fun y : VT × JT => FinV Γ cX0_lookAtBars (WC cy a y.1 y.2 K X))) z) : Wp Γ 0 0 2 [(0, .ref (a 8)), (1, .int x.1)] [] (WC cy a x.2.1 x.2.2 K X) := by
  unfold f_X0_lookAtBars_B2 at h
  refine r_iload_n C0 dX0_lookAtBars_2 rfl 1 rfl ?_
  refine r_bipush C0 dX0_lookAtBars_3 kb_12 ?_
  refine r_icmp_ge C0 56 dX0_lookAtBars_5 rfl h (fun _ h => ?_) (fun _ h => ?_)
  · obtain ⟨y2, h5, h9⟩ := op_bind h
    clear h
    cases h9
    have hz := (el_inr hz)
    have h := h5
    cases h
    exact hz _ _ dX0_lookAtBars_56
  · refine r_aload_n C0 dX0_lookAtBars_8 rfl 0 rfl ?_
    refine wcg_8_4 C0 tf_X0_9 dX0_lookAtBars_9 ?_
    refine r_iload_n C0 dX0_lookAtBars_12 rfl 1 rfl ?_
    refine r_aload_n C0 dX0_lookAtBars_13 rfl 0 rfl ?_
    refine wcg_8_2 C0 tf_X0_44 dX0_lookAtBars_14 ?_
    refine r_iload_n C0 dX0_lookAtBars_17 rfl 1 rfl ?_
    refine callV1 C0 h (hD _ _ _) mw_X5_isTiedDown rv_5 tm_X0_105 (fun y hy => c_X5_isTiedDown hy) (Nat.le_of_ble_eq_true rfl) (Nat.le_of_ble_eq_true rfl) dX0_lookAtBars_18 (fun r3 h => ?_)
    refine wcas_26 C0 hD h dX0_lookAtBars_21 (fun k4 h => ?_)
    refine r_aload_n C0 dX0_lookAtBars_22 rfl 0 rfl ?_
    refine wcg_8_5 C0 tf_X0_15 dX0_lookAtBars_23 ?_
    refine r_iload_n C0 dX0_lookAtBars_26 rfl 1 rfl ?_
    refine r_aload_n C0 dX0_lookAtBars_27 rfl 0 rfl ?_
    refine wcg_8_1 C0 tf_X0_40 dX0_lookAtBars_28 ?_
    refine r_iload_n C0 dX0_lookAtBars_31 rfl 1 rfl ?_
    refine callV1 C0 h (hD _ _ _) mw_X10_isBalanced rv_4 tm_X0_108 (fun y hy => c_X10_isBalanced hy) (Nat.le_of_ble_eq_true rfl) (Nat.le_of_ble_eq_true rfl) dX0_lookAtBars_32 (fun r5 h => ?_)
    refine wcas_27 C0 hD h dX0_lookAtBars_35 (fun k6 h => ?_)
    refine r_aload_n C0 dX0_lookAtBars_36 rfl 0 rfl ?_
    refine wcg_8_6 C0 tf_X0_18 dX0_lookAtBars_37 ?_
    refine r_iload_n C0 dX0_lookAtBars_40 rfl 1 rfl ?_
    refine r_aload_n C0 dX0_lookAtBars_41 rfl 0 rfl ?_
    refine wcg_8_1 C0 tf_X0_40 dX0_lookAtBars_42 ?_
    refine r_iload_n C0 dX0_lookAtBars_45 rfl 1 rfl ?_
    refine callV1 C0 h (hD _ _ _) mw_X10_isHeld rv_4 tm_X0_113 (fun y hy => c_X10_isHeld hy) (Nat.le_of_ble_eq_true rfl) (Nat.le_of_ble_eq_true rfl) dX0_lookAtBars_46 (fun r7 h => ?_)
    refine wcas_28 C0 hD h dX0_lookAtBars_49 (fun k8 h => ?_)
    obtain ⟨a9, h8, h⟩ := op_bind h
    have e8 := Option.some.inj h8
    refine r_iinc (lv2 := [(1, .int a9), (0, .ref (a 8))]) C0 dX0_lookAtBars_50 1 rfl ki_1 e8 (Nat.le_of_ble_eq_true rfl) rfl ?_
    refine r_goto C0 2 dX0_lookAtBars_53 rfl ?_
    cases h
    have hz := el_inl hz
    exact r_sub [1, 0] rfl hz
theorem w_X0_lookAtBars_B2_lp {x : Int32 × VT × JT} {z : (VT × JT)} {Γ : Gam} {cy : Nat → ClassId} {a : Nat → Nat} {K : Nat → Option Nat} {X : va_W}  (C0 : CXg Γ cX0_lookAtBars 2 4 RX0 cy) (hD : DC Γ cy a X) (h : lp (f_X0_lookAtBars_B2) fuel x = some z) (hz : (fun y : VT × JT => FinV Γ cX0_lookAtBars (WC cy a y.1 y.2 K X)) z) : Wp Γ 0 0 2 [(0, .ref (a 8)), (1, .int x.1)] [] (WC cy a x.2.1 x.2.2 K X) :=
  lp_rule (hd := (fun x : Int32 × VT × JT => Wp Γ 0 0 2 [(0, .ref (a 8)), (1, .int x.1)] [] (WC cy a x.2.1 x.2.2 K X))) (C := (fun y : VT × JT => FinV Γ cX0_lookAtBars (WC cy a y.1 y.2 K X))) (fun x z h hz => w_X0_lookAtBars_B2 C0 hD h hz) _ _ _ h hz
theorem w_X0_lookAtBars {z : VT × JT} {Γ : Gam} {cy : Nat → ClassId} {a : Nat → Nat} {V : VT} {J : JT} {K : Nat → Option Nat} {X : va_W}  (C0 : CXg Γ cX0_lookAtBars 2 4 RX0 cy) (hD : DC Γ cy a X) (h : f_X0_lookAtBars V J = some z) (hz : (fun y : VT × JT => FinV Γ cX0_lookAtBars (WC cy a y.1 y.2 K X)) z) : Wp Γ 0 0 0 [(0, .ref (a 8))] [] (WC cy a V J K X) := by
  unfold f_X0_lookAtBars at h
  refine r_iconst C0 dX0_lookAtBars_0 ki_0 ?_
  obtain ⟨a1, h8, h⟩ := op_bind h
  have e8 := Option.some.inj h8
  refine r_istore_n (lv2 := [(1, .int a1), (0, .ref (a 8))]) C0 dX0_lookAtBars_1 rfl e8 (Nat.le_of_ble_eq_true rfl) rfl ?_
  exact r_sub [1, 0] rfl (w_X0_lookAtBars_B2_lp C0 hD h hz)
theorem c_X0_lookAtBars {l : Launch} {D : va_G} {cy : Nat → ClassId} {a : Nat → Nat} {V : VT} {J : JT} {K : Nat → Option Nat} {X : va_W} {y : VT × JT} (h : f_X0_lookAtBars V J = some y) : CT l D cy yX0_lookAtBars cX0_lookAtBars 2 none 4 [.ref (a 8)] (WC cy a V J K X) (WC cy a y.1 y.2 K X) none :=
  mkV (by decide) (Nat.le_of_ble_eq_true rfl) (fun Γ _ _ C0 hD hF => w_X0_lookAtBars C0 (dc_of hD) h hF)
theorem dX0_findDeciding_0 : decode cX0_findDeciding 0 = .ok (.aload_n 0, 1) := by decide +kernel
theorem dX0_findDeciding_1 : decode cX0_findDeciding 1 = .ok (.getfield 21, 3) := by decide +kernel
theorem dX0_findDeciding_4 : decode cX0_findDeciding 4 = .ok (.ldc 25, 2) := by decide +kernel
theorem dX0_findDeciding_6 : decode cX0_findDeciding 6 = .ok (.invokestatic 125, 3) := by decide +kernel
theorem dX0_findDeciding_9 : decode cX0_findDeciding 9 = .ok (.aload_n 0, 1) := by decide +kernel
theorem dX0_findDeciding_10 : decode cX0_findDeciding 10 = .ok (.getfield 36, 3) := by decide +kernel
theorem dX0_findDeciding_13 : decode cX0_findDeciding 13 = .ok (.getfield 63, 3) := by decide +kernel
theorem dX0_findDeciding_16 : decode cX0_findDeciding 16 = .ok (.iconst 0, 1) := by decide +kernel
theorem dX0_findDeciding_17 : decode cX0_findDeciding 17 = .ok (.iconst 2, 1) := by decide +kernel
theorem dX0_findDeciding_18 : decode cX0_findDeciding 18 = .ok (.invokevirtual 69, 3) := by decide +kernel
theorem dX0_findDeciding_21 : decode cX0_findDeciding 21 = .ok (.istore_n 1, 1) := by decide +kernel
theorem dX0_findDeciding_22 : decode cX0_findDeciding 22 = .ok (.iconst 0, 1) := by decide +kernel
theorem dX0_findDeciding_23 : decode cX0_findDeciding 23 = .ok (.istore_n 2, 1) := by decide +kernel
theorem dX0_findDeciding_24 : decode cX0_findDeciding 24 = .ok (.iload_n 2, 1) := by decide +kernel
theorem dX0_findDeciding_25 : decode cX0_findDeciding 25 = .ok (.iload_n 1, 1) := by decide +kernel
theorem dX0_findDeciding_26 : decode cX0_findDeciding 26 = .ok (.if_icmp .ge 65, 3) := by decide +kernel
theorem dX0_findDeciding_29 : decode cX0_findDeciding 29 = .ok (.aload_n 0, 1) := by decide +kernel
theorem dX0_findDeciding_30 : decode cX0_findDeciding 30 = .ok (.getfield 36, 3) := by decide +kernel
theorem dX0_findDeciding_33 : decode cX0_findDeciding 33 = .ok (.getfield 79, 3) := by decide +kernel
theorem dX0_findDeciding_36 : decode cX0_findDeciding 36 = .ok (.iload_n 2, 1) := by decide +kernel
theorem dX0_findDeciding_37 : decode cX0_findDeciding 37 = .ok (.iconst 0, 1) := by decide +kernel
theorem dX0_findDeciding_38 : decode cX0_findDeciding 38 = .ok (.invokevirtual 69, 3) := by decide +kernel
theorem dX0_findDeciding_41 : decode cX0_findDeciding 41 = .ok (.istore_n 3, 1) := by decide +kernel
theorem dX0_findDeciding_42 : decode cX0_findDeciding 42 = .ok (.iload_n 3, 1) := by decide +kernel
theorem dX0_findDeciding_43 : decode cX0_findDeciding 43 = .ok (.ifCond .lt 42, 3) := by decide +kernel
theorem dX0_findDeciding_46 : decode cX0_findDeciding 46 = .ok (.iload_n 3, 1) := by decide +kernel
theorem dX0_findDeciding_47 : decode cX0_findDeciding 47 = .ok (.aload_n 0, 1) := by decide +kernel
theorem dX0_findDeciding_48 : decode cX0_findDeciding 48 = .ok (.getfield 21, 3) := by decide +kernel
theorem dX0_findDeciding_51 : decode cX0_findDeciding 51 = .ok (.arraylength, 1) := by decide +kernel
theorem dX0_findDeciding_52 : decode cX0_findDeciding 52 = .ok (.if_icmp .ge 33, 3) := by decide +kernel
theorem dX0_findDeciding_55 : decode cX0_findDeciding 55 = .ok (.aload_n 0, 1) := by decide +kernel
theorem dX0_findDeciding_56 : decode cX0_findDeciding 56 = .ok (.getfield 21, 3) := by decide +kernel
theorem dX0_findDeciding_59 : decode cX0_findDeciding 59 = .ok (.iload_n 3, 1) := by decide +kernel
theorem dX0_findDeciding_60 : decode cX0_findDeciding 60 = .ok (.iaload, 1) := by decide +kernel
theorem dX0_findDeciding_61 : decode cX0_findDeciding 61 = .ok (.ldc 25, 2) := by decide +kernel
theorem dX0_findDeciding_63 : decode cX0_findDeciding 63 = .ok (.if_icmp .ne 22, 3) := by decide +kernel
theorem dX0_findDeciding_66 : decode cX0_findDeciding 66 = .ok (.aload_n 0, 1) := by decide +kernel
theorem dX0_findDeciding_67 : decode cX0_findDeciding 67 = .ok (.getfield 36, 3) := by decide +kernel
theorem dX0_findDeciding_70 : decode cX0_findDeciding 70 = .ok (.iload_n 2, 1) := by decide +kernel
theorem dX0_findDeciding_71 : decode cX0_findDeciding 71 = .ok (.invokevirtual 131, 3) := by decide +kernel
theorem dX0_findDeciding_74 : decode cX0_findDeciding 74 = .ok (.iconst 1, 1) := by decide +kernel
theorem dX0_findDeciding_75 : decode cX0_findDeciding 75 = .ok (.if_icmp .ne 10, 3) := by decide +kernel
theorem dX0_findDeciding_78 : decode cX0_findDeciding 78 = .ok (.aload_n 0, 1) := by decide +kernel
theorem dX0_findDeciding_79 : decode cX0_findDeciding 79 = .ok (.getfield 21, 3) := by decide +kernel
theorem dX0_findDeciding_82 : decode cX0_findDeciding 82 = .ok (.iload_n 3, 1) := by decide +kernel
theorem dX0_findDeciding_83 : decode cX0_findDeciding 83 = .ok (.iload_n 2, 1) := by decide +kernel
theorem dX0_findDeciding_84 : decode cX0_findDeciding 84 = .ok (.iastore, 1) := by decide +kernel
theorem dX0_findDeciding_85 : decode cX0_findDeciding 85 = .ok (.iinc 2 1, 3) := by decide +kernel
theorem dX0_findDeciding_88 : decode cX0_findDeciding 88 = .ok (.goto (-64), 3) := by decide +kernel
theorem dX0_findDeciding_91 : decode cX0_findDeciding 91 = .ok (.return_, 1) := by decide +kernel
theorem w_X0_findDeciding_j85 {z : ((Int32 × VT) ⊕ (VT))} {Γ : Gam} {cy : Nat → ClassId} {a : Nat → Nat} {V : VT} {J : JT} {K : Nat → Option Nat} {X : va_W} {v1 : Int32} {v2 : Int32}  (C0 : CXg Γ cX0_findDeciding 4 2 RX0 cy) (hD : DC Γ cy a X) (h : f_X0_findDeciding_j85 v1 v2 V = some z) (hz : (Sum.elim (fun x : Int32 × VT => Wp Γ 0 0 24 [(0, .ref (a 8)), (1, .int v1), (2, .int x.1)] [] (WC cy a x.2 J K X)) (fun y : VT => FinV Γ cX0_findDeciding (WC cy a y J K X))) z) : Wp Γ 0 0 85 [(0, .ref (a 8)), (1, .int v1), (2, .int v2)] [] (WC cy a V J K X) := by
  unfold f_X0_findDeciding_j85 at h
  obtain ⟨a6, h8, h⟩ := op_bind h
  have e8 := Option.some.inj h8
  refine r_iinc (lv2 := [(2, .int a6), (0, .ref (a 8)), (1, .int v1)]) C0 dX0_findDeciding_85 2 rfl ki_1 e8 (Nat.le_of_ble_eq_true rfl) rfl ?_
  refine r_goto C0 24 dX0_findDeciding_88 rfl ?_
  cases h
  have hz := el_inl hz
  exact r_sub [1, 2, 0] rfl hz
theorem w_X0_findDeciding_B24 {x : Int32 × VT} {z : ((Int32 × VT) ⊕ (VT))} {Γ : Gam} {cy : Nat → ClassId} {a : Nat → Nat} {J : JT} {K : Nat → Option Nat} {X : va_W} {v1 : Int32}  (C0 : CXg Γ cX0_findDeciding 4 2 RX0 cy) (hD : DC Γ cy a X) (h : f_X0_findDeciding_B24 v1 x = some z) (hz : (Sum.elim (fun x : Int32 × VT => Wp Γ 0 0 24 [(0, .ref (a 8)), (1, .int v1), (2, .int x.1)] [] (WC cy a x.2 J K X)) (fun y : VT => FinV Γ cX0_findDeciding (WC cy a y J K X))) z) : Wp Γ 0 0 24 [(0, .ref (a 8)), (1, .int v1), (2, .int x.1)] [] (WC cy a x.2 J K X) := by
  unfold f_X0_findDeciding_B24 at h
  refine r_iload_n C0 dX0_findDeciding_24 rfl 2 rfl ?_
  refine r_iload_n C0 dX0_findDeciding_25 rfl 1 rfl ?_
  refine r_icmp_ge C0 91 dX0_findDeciding_26 rfl h (fun _ h => ?_) (fun _ h => ?_)
  · obtain ⟨y4, h5, h9⟩ := op_bind h
    clear h
    cases h9
    have hz := (el_inr hz)
    have h := h5
    cases h
    exact hz _ _ dX0_findDeciding_91
  · refine r_aload_n C0 dX0_findDeciding_29 rfl 0 rfl ?_
    refine wcg_8_0 C0 tf_X0_36 dX0_findDeciding_30 ?_
    refine wcg_3_5 C0 tf_X0_79 dX0_findDeciding_33 ?_
    refine r_iload_n C0 dX0_findDeciding_36 rfl 2 rfl ?_
    refine r_iconst C0 dX0_findDeciding_37 ki_0 ?_
    refine callV2 C0 h (hD _ _ _) mw_X7_get (rv_t tb_15) tm_X0_69 (fun y hy => c_X7_get tb_15 hy) (Nat.le_of_ble_eq_true rfl) (Nat.le_of_ble_eq_true rfl) dX0_findDeciding_38 (fun r5 h => ?_)
    refine r_istore_n (lv2 := [(3, .int r5), (0, .ref (a 8)), (1, .int v1), (2, .int x.1)]) C0 dX0_findDeciding_41 rfl rfl (Nat.le_of_ble_eq_true rfl) rfl ?_
    refine r_iload_n C0 dX0_findDeciding_42 rfl 0 rfl ?_
    refine r_if_lt C0 85 dX0_findDeciding_43 rfl h (fun _ h => ?_) (fun _ h => ?_)
    · exact r_sub [1, 2, 3] rfl (w_X0_findDeciding_j85 C0 hD h hz)
    · refine r_iload_n C0 dX0_findDeciding_46 rfl 0 rfl ?_
      refine r_aload_n C0 dX0_findDeciding_47 rfl 1 rfl ?_
      refine wcg_8_7 C0 tf_X0_21 dX0_findDeciding_48 ?_
      refine wcln_29 C0 dX0_findDeciding_51 ?_
      refine r_icmp_ge C0 85 dX0_findDeciding_52 rfl h (fun _ h => ?_) (fun _ h => ?_)
      · exact r_sub [1, 2, 3] rfl (w_X0_findDeciding_j85 C0 hD h hz)
      · refine r_aload_n C0 dX0_findDeciding_55 rfl 1 rfl ?_
        refine wcg_8_7 C0 tf_X0_21 dX0_findDeciding_56 ?_
        refine r_iload_n C0 dX0_findDeciding_59 rfl 0 rfl ?_
        refine wcal_29 C0 h dX0_findDeciding_60 (fun k7 h => ?_)
        refine r_ldc C0 tk_X0_25 dX0_findDeciding_61 ?_
        refine r_icmp_ne C0 85 dX0_findDeciding_63 rfl h (fun _ h => ?_) (fun _ h => ?_)
        · exact r_sub [1, 2, 3] rfl (w_X0_findDeciding_j85 C0 hD h hz)
        · refine r_aload_n C0 dX0_findDeciding_66 rfl 1 rfl ?_
          refine wcg_8_0 C0 tf_X0_36 dX0_findDeciding_67 ?_
          refine r_iload_n C0 dX0_findDeciding_70 rfl 3 rfl ?_
          refine callV1 C0 h (hD _ _ _) mw_X3_cueState rv_3 tm_X0_131 (fun y hy => c_X3_cueState hy) (Nat.le_of_ble_eq_true rfl) (Nat.le_of_ble_eq_true rfl) dX0_findDeciding_71 (fun r8 h => ?_)
          refine r_iconst C0 dX0_findDeciding_74 ki_1 ?_
          refine r_icmp_ne C0 85 dX0_findDeciding_75 rfl h (fun _ h => ?_) (fun _ h => ?_)
          · exact r_sub [1, 2, 3] rfl (w_X0_findDeciding_j85 C0 hD h hz)
          · refine r_aload_n C0 dX0_findDeciding_78 rfl 1 rfl ?_
            refine wcg_8_7 C0 tf_X0_21 dX0_findDeciding_79 ?_
            refine r_iload_n C0 dX0_findDeciding_82 rfl 0 rfl ?_
            refine r_iload_n C0 dX0_findDeciding_83 rfl 3 rfl ?_
            refine wcas_29 C0 hD h dX0_findDeciding_84 (fun k9 h => ?_)
            exact r_sub [1, 2, 3] rfl (w_X0_findDeciding_j85 C0 hD h hz)
theorem w_X0_findDeciding_B24_lp {x : Int32 × VT} {z : (VT)} {Γ : Gam} {cy : Nat → ClassId} {a : Nat → Nat} {J : JT} {K : Nat → Option Nat} {X : va_W} {v1 : Int32}  (C0 : CXg Γ cX0_findDeciding 4 2 RX0 cy) (hD : DC Γ cy a X) (h : lp (f_X0_findDeciding_B24 v1) fuel x = some z) (hz : (fun y : VT => FinV Γ cX0_findDeciding (WC cy a y J K X)) z) : Wp Γ 0 0 24 [(0, .ref (a 8)), (1, .int v1), (2, .int x.1)] [] (WC cy a x.2 J K X) :=
  lp_rule (hd := (fun x : Int32 × VT => Wp Γ 0 0 24 [(0, .ref (a 8)), (1, .int v1), (2, .int x.1)] [] (WC cy a x.2 J K X))) (C := (fun y : VT => FinV Γ cX0_findDeciding (WC cy a y J K X))) (fun x z h hz => w_X0_findDeciding_B24 C0 hD h hz) _ _ _ h hz
theorem w_X0_findDeciding {z : VT} {Γ : Gam} {cy : Nat → ClassId} {a : Nat → Nat} {V : VT} {J : JT} {K : Nat → Option Nat} {X : va_W}  (C0 : CXg Γ cX0_findDeciding 4 2 RX0 cy) (hD : DC Γ cy a X) (h : f_X0_findDeciding V = some z) (hz : (fun y : VT => FinV Γ cX0_findDeciding (WC cy a y J K X)) z) : Wp Γ 0 0 0 [(0, .ref (a 8))] [] (WC cy a V J K X) := by
  unfold f_X0_findDeciding at h
  refine r_aload_n C0 dX0_findDeciding_0 rfl 0 rfl ?_
  refine wcg_8_7 C0 tf_X0_21 dX0_findDeciding_1 ?_
  refine r_ldc C0 tk_X0_25 dX0_findDeciding_4 ?_
  refine callSv2 C0 h (hD _ _ _) ms_J7_fill_53178 tm_X0_125 (fun y hy => c_fill_29 hy) (Nat.le_of_ble_eq_true rfl) (Nat.le_of_ble_eq_true rfl) dX0_findDeciding_6 (fun r1 h => ?_)
  refine r_aload_n C0 dX0_findDeciding_9 rfl 0 rfl ?_
  refine wcg_8_0 C0 tf_X0_36 dX0_findDeciding_10 ?_
  refine wcg_3_7 C0 tf_X0_63 dX0_findDeciding_13 ?_
  refine r_iconst C0 dX0_findDeciding_16 ki_0 ?_
  refine r_iconst C0 dX0_findDeciding_17 ki_2 ?_
  refine callV2 C0 h (hD _ _ _) mw_X7_get (rv_t tb_17) tm_X0_69 (fun y hy => c_X7_get tb_17 hy) (Nat.le_of_ble_eq_true rfl) (Nat.le_of_ble_eq_true rfl) dX0_findDeciding_18 (fun r2 h => ?_)
  refine r_istore_n (lv2 := [(1, .int r2), (0, .ref (a 8))]) C0 dX0_findDeciding_21 rfl rfl (Nat.le_of_ble_eq_true rfl) rfl ?_
  refine r_iconst C0 dX0_findDeciding_22 ki_0 ?_
  obtain ⟨a3, h8, h⟩ := op_bind h
  have e8 := Option.some.inj h8
  refine r_istore_n (lv2 := [(2, .int a3), (1, .int r2), (0, .ref (a 8))]) C0 dX0_findDeciding_23 rfl e8 (Nat.le_of_ble_eq_true rfl) rfl ?_
  exact r_sub [2, 1, 0] rfl (w_X0_findDeciding_B24_lp C0 hD h hz)
theorem c_X0_findDeciding {l : Launch} {D : va_G} {cy : Nat → ClassId} {a : Nat → Nat} {V : VT} {J : JT} {K : Nat → Option Nat} {X : va_W} {y : VT} (h : f_X0_findDeciding V = some y) : CT l D cy yX0_findDeciding cX0_findDeciding 4 none 2 [.ref (a 8)] (WC cy a V J K X) (WC cy a y J K X) none :=
  mkV (by decide) (Nat.le_of_ble_eq_true rfl) (fun Γ _ _ C0 hD hF => w_X0_findDeciding C0 (dc_of hD) h hF)
theorem dX0_endRunning_0 : decode cX0_endRunning 0 = .ok (.aload_n 0, 1) := by decide +kernel
theorem dX0_endRunning_1 : decode cX0_endRunning 1 = .ok (.getfield 36, 3) := by decide +kernel
theorem dX0_endRunning_4 : decode cX0_endRunning 4 = .ok (.getfield 63, 3) := by decide +kernel
theorem dX0_endRunning_7 : decode cX0_endRunning 7 = .ok (.iconst 0, 1) := by decide +kernel
theorem dX0_endRunning_8 : decode cX0_endRunning 8 = .ok (.iconst 2, 1) := by decide +kernel
theorem dX0_endRunning_9 : decode cX0_endRunning 9 = .ok (.invokevirtual 69, 3) := by decide +kernel
theorem dX0_endRunning_12 : decode cX0_endRunning 12 = .ok (.istore_n 3, 1) := by decide +kernel
theorem dX0_endRunning_13 : decode cX0_endRunning 13 = .ok (.iconst 0, 1) := by decide +kernel
theorem dX0_endRunning_14 : decode cX0_endRunning 14 = .ok (.istore 4, 2) := by decide +kernel
theorem dX0_endRunning_16 : decode cX0_endRunning 16 = .ok (.iload 4, 2) := by decide +kernel
theorem dX0_endRunning_18 : decode cX0_endRunning 18 = .ok (.iload_n 3, 1) := by decide +kernel
theorem dX0_endRunning_19 : decode cX0_endRunning 19 = .ok (.if_icmp .ge 63, 3) := by decide +kernel
theorem dX0_endRunning_22 : decode cX0_endRunning 22 = .ok (.aload_n 0, 1) := by decide +kernel
theorem dX0_endRunning_23 : decode cX0_endRunning 23 = .ok (.getfield 36, 3) := by decide +kernel
theorem dX0_endRunning_26 : decode cX0_endRunning 26 = .ok (.getfield 79, 3) := by decide +kernel
theorem dX0_endRunning_29 : decode cX0_endRunning 29 = .ok (.iload 4, 2) := by decide +kernel
theorem dX0_endRunning_31 : decode cX0_endRunning 31 = .ok (.iconst 0, 1) := by decide +kernel
theorem dX0_endRunning_32 : decode cX0_endRunning 32 = .ok (.invokevirtual 69, 3) := by decide +kernel
theorem dX0_endRunning_35 : decode cX0_endRunning 35 = .ok (.istore 5, 2) := by decide +kernel
theorem dX0_endRunning_37 : decode cX0_endRunning 37 = .ok (.iload 5, 2) := by decide +kernel
theorem dX0_endRunning_39 : decode cX0_endRunning 39 = .ok (.iload_n 1, 1) := by decide +kernel
theorem dX0_endRunning_40 : decode cX0_endRunning 40 = .ok (.if_icmp .lt 36, 3) := by decide +kernel
theorem dX0_endRunning_43 : decode cX0_endRunning 43 = .ok (.iload 5, 2) := by decide +kernel
theorem dX0_endRunning_45 : decode cX0_endRunning 45 = .ok (.iload_n 2, 1) := by decide +kernel
theorem dX0_endRunning_46 : decode cX0_endRunning 46 = .ok (.if_icmp .gt 30, 3) := by decide +kernel
theorem dX0_endRunning_49 : decode cX0_endRunning 49 = .ok (.aload_n 0, 1) := by decide +kernel
theorem dX0_endRunning_50 : decode cX0_endRunning 50 = .ok (.getfield 36, 3) := by decide +kernel
theorem dX0_endRunning_53 : decode cX0_endRunning 53 = .ok (.iload 4, 2) := by decide +kernel
theorem dX0_endRunning_55 : decode cX0_endRunning 55 = .ok (.invokevirtual 131, 3) := by decide +kernel
theorem dX0_endRunning_58 : decode cX0_endRunning 58 = .ok (.iconst 1, 1) := by decide +kernel
theorem dX0_endRunning_59 : decode cX0_endRunning 59 = .ok (.if_icmp .ne 17, 3) := by decide +kernel
theorem dX0_endRunning_62 : decode cX0_endRunning 62 = .ok (.aload_n 0, 1) := by decide +kernel
theorem dX0_endRunning_63 : decode cX0_endRunning 63 = .ok (.getfield 36, 3) := by decide +kernel
theorem dX0_endRunning_66 : decode cX0_endRunning 66 = .ok (.getfield 79, 3) := by decide +kernel
theorem dX0_endRunning_69 : decode cX0_endRunning 69 = .ok (.iload 4, 2) := by decide +kernel
theorem dX0_endRunning_71 : decode cX0_endRunning 71 = .ok (.iconst 4, 1) := by decide +kernel
theorem dX0_endRunning_72 : decode cX0_endRunning 72 = .ok (.iconst 1, 1) := by decide +kernel
theorem dX0_endRunning_73 : decode cX0_endRunning 73 = .ok (.invokevirtual 75, 3) := by decide +kernel
theorem dX0_endRunning_76 : decode cX0_endRunning 76 = .ok (.iinc 4 1, 3) := by decide +kernel
theorem dX0_endRunning_79 : decode cX0_endRunning 79 = .ok (.goto (-63), 3) := by decide +kernel
theorem dX0_endRunning_82 : decode cX0_endRunning 82 = .ok (.return_, 1) := by decide +kernel
theorem w_X0_endRunning_j76 {z : ((Int32 × VT) ⊕ (VT))} {Γ : Gam} {cy : Nat → ClassId} {a : Nat → Nat} {V : VT} {J : JT} {K : Nat → Option Nat} {X : va_W} {v1 : Int32} {v2 : Int32} {v3 : Int32} {v4 : Int32}  (C0 : CXg Γ cX0_endRunning 6 2 RX0 cy) (hD : DC Γ cy a X) (h : f_X0_endRunning_j76 v1 v2 v3 v4 V = some z) (hz : (Sum.elim (fun x : Int32 × VT => Wp Γ 0 0 16 [(0, .ref (a 8)), (1, .int v1), (2, .int v2), (3, .int v3), (4, .int x.1)] [] (WC cy a x.2 J K X)) (fun y : VT => FinV Γ cX0_endRunning (WC cy a y J K X))) z) : Wp Γ 0 0 76 [(0, .ref (a 8)), (1, .int v1), (2, .int v2), (3, .int v3), (4, .int v4)] [] (WC cy a V J K X) := by
  unfold f_X0_endRunning_j76 at h
  obtain ⟨a5, h8, h⟩ := op_bind h
  have e8 := Option.some.inj h8
  refine r_iinc (lv2 := [(4, .int a5), (0, .ref (a 8)), (1, .int v1), (2, .int v2), (3, .int v3)]) C0 dX0_endRunning_76 4 rfl ki_1 e8 (Nat.le_of_ble_eq_true rfl) rfl ?_
  refine r_goto C0 16 dX0_endRunning_79 rfl ?_
  cases h
  have hz := el_inl hz
  exact r_sub [1, 2, 3, 4, 0] rfl hz
theorem w_X0_endRunning_B16 {x : Int32 × VT} {z : ((Int32 × VT) ⊕ (VT))} {Γ : Gam} {cy : Nat → ClassId} {a : Nat → Nat} {J : JT} {K : Nat → Option Nat} {X : va_W} {v1 : Int32} {v2 : Int32} {v3 : Int32}  (C0 : CXg Γ cX0_endRunning 6 2 RX0 cy) (hD : DC Γ cy a X) (h : f_X0_endRunning_B16 v1 v2 v3 x = some z) (hz : (Sum.elim (fun x : Int32 × VT => Wp Γ 0 0 16 [(0, .ref (a 8)), (1, .int v1), (2, .int v2), (3, .int v3), (4, .int x.1)] [] (WC cy a x.2 J K X)) (fun y : VT => FinV Γ cX0_endRunning (WC cy a y J K X))) z) : Wp Γ 0 0 16 [(0, .ref (a 8)), (1, .int v1), (2, .int v2), (3, .int v3), (4, .int x.1)] [] (WC cy a x.2 J K X) := by
  unfold f_X0_endRunning_B16 at h
  refine r_iload C0 dX0_endRunning_16 4 rfl ?_
  refine r_iload_n C0 dX0_endRunning_18 rfl 3 rfl ?_
  refine r_icmp_ge C0 82 dX0_endRunning_19 rfl h (fun _ h => ?_) (fun _ h => ?_)
  · obtain ⟨y3, h5, h9⟩ := op_bind h
    clear h
    cases h9
    have hz := (el_inr hz)
    have h := h5
    cases h
    exact hz _ _ dX0_endRunning_82
  · refine r_aload_n C0 dX0_endRunning_22 rfl 0 rfl ?_
    refine wcg_8_0 C0 tf_X0_36 dX0_endRunning_23 ?_
    refine wcg_3_5 C0 tf_X0_79 dX0_endRunning_26 ?_
    refine r_iload C0 dX0_endRunning_29 4 rfl ?_
    refine r_iconst C0 dX0_endRunning_31 ki_0 ?_
    refine callV2 C0 h (hD _ _ _) mw_X7_get (rv_t tb_15) tm_X0_69 (fun y hy => c_X7_get tb_15 hy) (Nat.le_of_ble_eq_true rfl) (Nat.le_of_ble_eq_true rfl) dX0_endRunning_32 (fun r4 h => ?_)
    refine r_istore (lv2 := [(5, .int r4), (0, .ref (a 8)), (1, .int v1), (2, .int v2), (3, .int v3), (4, .int x.1)]) C0 dX0_endRunning_35 rfl (Nat.le_of_ble_eq_true rfl) rfl ?_
    refine r_iload C0 dX0_endRunning_37 0 rfl ?_
    refine r_iload_n C0 dX0_endRunning_39 rfl 2 rfl ?_
    refine r_icmp_lt C0 76 dX0_endRunning_40 rfl h (fun _ h => ?_) (fun _ h => ?_)
    · exact r_sub [1, 2, 3, 4, 5] rfl (w_X0_endRunning_j76 C0 hD h hz)
    · refine r_iload C0 dX0_endRunning_43 0 rfl ?_
      refine r_iload_n C0 dX0_endRunning_45 rfl 3 rfl ?_
      refine r_icmp_gt C0 76 dX0_endRunning_46 rfl h (fun _ h => ?_) (fun _ h => ?_)
      · exact r_sub [1, 2, 3, 4, 5] rfl (w_X0_endRunning_j76 C0 hD h hz)
      · refine r_aload_n C0 dX0_endRunning_49 rfl 1 rfl ?_
        refine wcg_8_0 C0 tf_X0_36 dX0_endRunning_50 ?_
        refine r_iload C0 dX0_endRunning_53 5 rfl ?_
        refine callV1 C0 h (hD _ _ _) mw_X3_cueState rv_3 tm_X0_131 (fun y hy => c_X3_cueState hy) (Nat.le_of_ble_eq_true rfl) (Nat.le_of_ble_eq_true rfl) dX0_endRunning_55 (fun r6 h => ?_)
        refine r_iconst C0 dX0_endRunning_58 ki_1 ?_
        refine r_icmp_ne C0 76 dX0_endRunning_59 rfl h (fun _ h => ?_) (fun _ h => ?_)
        · exact r_sub [1, 2, 3, 4, 5] rfl (w_X0_endRunning_j76 C0 hD h hz)
        · refine r_aload_n C0 dX0_endRunning_62 rfl 1 rfl ?_
          refine wcg_8_0 C0 tf_X0_36 dX0_endRunning_63 ?_
          refine wcg_3_5 C0 tf_X0_79 dX0_endRunning_66 ?_
          refine r_iload C0 dX0_endRunning_69 5 rfl ?_
          refine r_iconst C0 dX0_endRunning_71 ki_4 ?_
          refine r_iconst C0 dX0_endRunning_72 ki_1 ?_
          refine callVv3 C0 h (hD _ _ _) mw_X7_set (rv_t tb_15) tm_X0_75 (fun y hy => c_X7_set tb_15 hy) (Nat.le_of_ble_eq_true rfl) (Nat.le_of_ble_eq_true rfl) dX0_endRunning_73 (fun r7 h => ?_)
          exact r_sub [1, 2, 3, 4, 5] rfl (w_X0_endRunning_j76 C0 hD h hz)
theorem w_X0_endRunning_B16_lp {x : Int32 × VT} {z : (VT)} {Γ : Gam} {cy : Nat → ClassId} {a : Nat → Nat} {J : JT} {K : Nat → Option Nat} {X : va_W} {v1 : Int32} {v2 : Int32} {v3 : Int32}  (C0 : CXg Γ cX0_endRunning 6 2 RX0 cy) (hD : DC Γ cy a X) (h : lp (f_X0_endRunning_B16 v1 v2 v3) fuel x = some z) (hz : (fun y : VT => FinV Γ cX0_endRunning (WC cy a y J K X)) z) : Wp Γ 0 0 16 [(0, .ref (a 8)), (1, .int v1), (2, .int v2), (3, .int v3), (4, .int x.1)] [] (WC cy a x.2 J K X) :=
  lp_rule (hd := (fun x : Int32 × VT => Wp Γ 0 0 16 [(0, .ref (a 8)), (1, .int v1), (2, .int v2), (3, .int v3), (4, .int x.1)] [] (WC cy a x.2 J K X))) (C := (fun y : VT => FinV Γ cX0_endRunning (WC cy a y J K X))) (fun x z h hz => w_X0_endRunning_B16 C0 hD h hz) _ _ _ h hz
theorem w_X0_endRunning {z : VT} {Γ : Gam} {cy : Nat → ClassId} {a : Nat → Nat} {V : VT} {J : JT} {K : Nat → Option Nat} {X : va_W} {v1 : Int32} {v2 : Int32}  (C0 : CXg Γ cX0_endRunning 6 2 RX0 cy) (hD : DC Γ cy a X) (h : f_X0_endRunning v1 v2 V = some z) (hz : (fun y : VT => FinV Γ cX0_endRunning (WC cy a y J K X)) z) : Wp Γ 0 0 0 [(0, .ref (a 8)), (1, .int v1), (2, .int v2)] [] (WC cy a V J K X) := by
  unfold f_X0_endRunning at h
  refine r_aload_n C0 dX0_endRunning_0 rfl 0 rfl ?_
  refine wcg_8_0 C0 tf_X0_36 dX0_endRunning_1 ?_
  refine wcg_3_7 C0 tf_X0_63 dX0_endRunning_4 ?_
  refine r_iconst C0 dX0_endRunning_7 ki_0 ?_
  refine r_iconst C0 dX0_endRunning_8 ki_2 ?_
  refine callV2 C0 h (hD _ _ _) mw_X7_get (rv_t tb_17) tm_X0_69 (fun y hy => c_X7_get tb_17 hy) (Nat.le_of_ble_eq_true rfl) (Nat.le_of_ble_eq_true rfl) dX0_endRunning_9 (fun r1 h => ?_)
  refine r_istore_n (lv2 := [(3, .int r1), (0, .ref (a 8)), (1, .int v1), (2, .int v2)]) C0 dX0_endRunning_12 rfl rfl (Nat.le_of_ble_eq_true rfl) rfl ?_
  refine r_iconst C0 dX0_endRunning_13 ki_0 ?_
  obtain ⟨a2, h8, h⟩ := op_bind h
  have e8 := Option.some.inj h8
  refine r_istore (lv2 := [(4, .int a2), (3, .int r1), (0, .ref (a 8)), (1, .int v1), (2, .int v2)]) C0 dX0_endRunning_14 e8 (Nat.le_of_ble_eq_true rfl) rfl ?_
  exact r_sub [2, 3, 4, 1, 0] rfl (w_X0_endRunning_B16_lp C0 hD h hz)
theorem c_X0_endRunning {l : Launch} {D : va_G} {cy : Nat → ClassId} {a : Nat → Nat} {V : VT} {J : JT} {K : Nat → Option Nat} {X : va_W} {v1 : Int32} {v2 : Int32} {y : VT} (h : f_X0_endRunning v1 v2 V = some y) : CT l D cy yX0_endRunning cX0_endRunning 6 none 2 [.ref (a 8), .int v1, .int v2] (WC cy a V J K X) (WC cy a y J K X) none :=
  mkV (by decide) (Nat.le_of_ble_eq_true rfl) (fun Γ _ _ C0 hD hF => w_X0_endRunning C0 (dc_of hD) h hF)
theorem dX3_time_0 : decode cX3_time 0 = .ok (.aload_n 0, 1) := by decide +kernel
theorem dX3_time_1 : decode cX3_time 1 = .ok (.getfield 39, 3) := by decide +kernel
theorem dX3_time_4 : decode cX3_time 4 = .ok (.iconst 0, 1) := by decide +kernel
theorem dX3_time_5 : decode cX3_time 5 = .ok (.iconst 5, 1) := by decide +kernel
theorem dX3_time_6 : decode cX3_time 6 = .ok (.invokevirtual 42, 3) := by decide +kernel
theorem dX3_time_9 : decode cX3_time 9 = .ok (.ireturn, 1) := by decide +kernel
theorem w_X3_time {z : Int32} {Γ : Gam} {cy : Nat → ClassId} {a : Nat → Nat} {V : VT} {J : JT} {K : Nat → Option Nat} {X : va_W}  (C0 : CXg Γ cX3_time 1 1 RX3 cy) (hD : DC Γ cy a X) (h : f_X3_time V = some z) (hz : (fun y : Int32 => FinI Γ cX3_time (WC cy a V J K X) y) z) : Wp Γ 0 0 0 [(0, .ref (a 3))] [] (WC cy a V J K X) := by
  unfold f_X3_time at h
  refine r_aload_n C0 dX3_time_0 rfl 0 rfl ?_
  refine wcg_3_7 C0 tf_X3_39 dX3_time_1 ?_
  refine r_iconst C0 dX3_time_4 ki_0 ?_
  refine r_iconst C0 dX3_time_5 ki_5 ?_
  refine callV2 C0 h (hD _ _ _) mw_X7_get (rv_t tb_17) tm_X3_42 (fun y hy => c_X7_get tb_17 hy) (Nat.le_of_ble_eq_true rfl) (Nat.le_of_ble_eq_true rfl) dX3_time_6 (fun r1 h => ?_)
  cases h
  exact hz _ _ dX3_time_9
theorem c_X3_time {l : Launch} {D : va_G} {cy : Nat → ClassId} {a : Nat → Nat} {V : VT} {J : JT} {K : Nat → Option Nat} {X : va_W} {y : Int32} (h : f_X3_time V = some y) : CT l D cy yX3_time cX3_time 1 (some .int) 1 [.ref (a 3)] (WC cy a V J K X) (WC cy a V J K X) (some (.int y)) :=
  mkI (by decide) (Nat.le_of_ble_eq_true rfl) (fun Γ _ _ C0 hD hF => w_X3_time C0 (dc_of hD) h hF)
theorem dX0_noteStop_0 : decode cX0_noteStop 0 = .ok (.aload_n 0, 1) := by decide +kernel
theorem dX0_noteStop_1 : decode cX0_noteStop 1 = .ok (.getfield 36, 3) := by decide +kernel
theorem dX0_noteStop_4 : decode cX0_noteStop 4 = .ok (.getfield 63, 3) := by decide +kernel
theorem dX0_noteStop_7 : decode cX0_noteStop 7 = .ok (.iconst 0, 1) := by decide +kernel
theorem dX0_noteStop_8 : decode cX0_noteStop 8 = .ok (.iconst 3, 1) := by decide +kernel
theorem dX0_noteStop_9 : decode cX0_noteStop 9 = .ok (.invokevirtual 69, 3) := by decide +kernel
theorem dX0_noteStop_12 : decode cX0_noteStop 12 = .ok (.istore_n 2, 1) := by decide +kernel
theorem dX0_noteStop_13 : decode cX0_noteStop 13 = .ok (.iload_n 2, 1) := by decide +kernel
theorem dX0_noteStop_14 : decode cX0_noteStop 14 = .ok (.bipush 40, 2) := by decide +kernel
theorem dX0_noteStop_16 : decode cX0_noteStop 16 = .ok (.irem, 1) := by decide +kernel
theorem dX0_noteStop_17 : decode cX0_noteStop 17 = .ok (.istore_n 3, 1) := by decide +kernel
theorem dX0_noteStop_18 : decode cX0_noteStop 18 = .ok (.aload_n 0, 1) := by decide +kernel
theorem dX0_noteStop_19 : decode cX0_noteStop 19 = .ok (.getfield 36, 3) := by decide +kernel
theorem dX0_noteStop_22 : decode cX0_noteStop 22 = .ok (.getfield 165, 3) := by decide +kernel
theorem dX0_noteStop_25 : decode cX0_noteStop 25 = .ok (.iload_n 3, 1) := by decide +kernel
theorem dX0_noteStop_26 : decode cX0_noteStop 26 = .ok (.iconst 0, 1) := by decide +kernel
theorem dX0_noteStop_27 : decode cX0_noteStop 27 = .ok (.aload_n 0, 1) := by decide +kernel
theorem dX0_noteStop_28 : decode cX0_noteStop 28 = .ok (.getfield 36, 3) := by decide +kernel
theorem dX0_noteStop_31 : decode cX0_noteStop 31 = .ok (.invokevirtual 122, 3) := by decide +kernel
theorem dX0_noteStop_34 : decode cX0_noteStop 34 = .ok (.invokevirtual 75, 3) := by decide +kernel
theorem dX0_noteStop_37 : decode cX0_noteStop 37 = .ok (.aload_n 0, 1) := by decide +kernel
theorem dX0_noteStop_38 : decode cX0_noteStop 38 = .ok (.getfield 36, 3) := by decide +kernel
theorem dX0_noteStop_41 : decode cX0_noteStop 41 = .ok (.getfield 165, 3) := by decide +kernel
theorem dX0_noteStop_44 : decode cX0_noteStop 44 = .ok (.iload_n 3, 1) := by decide +kernel
theorem dX0_noteStop_45 : decode cX0_noteStop 45 = .ok (.iconst 1, 1) := by decide +kernel
theorem dX0_noteStop_46 : decode cX0_noteStop 46 = .ok (.iload_n 1, 1) := by decide +kernel
theorem dX0_noteStop_47 : decode cX0_noteStop 47 = .ok (.invokevirtual 75, 3) := by decide +kernel
theorem dX0_noteStop_50 : decode cX0_noteStop 50 = .ok (.aload_n 0, 1) := by decide +kernel
theorem dX0_noteStop_51 : decode cX0_noteStop 51 = .ok (.getfield 36, 3) := by decide +kernel
theorem dX0_noteStop_54 : decode cX0_noteStop 54 = .ok (.getfield 165, 3) := by decide +kernel
theorem dX0_noteStop_57 : decode cX0_noteStop 57 = .ok (.iload_n 3, 1) := by decide +kernel
theorem dX0_noteStop_58 : decode cX0_noteStop 58 = .ok (.iconst 2, 1) := by decide +kernel
theorem dX0_noteStop_59 : decode cX0_noteStop 59 = .ok (.aload_n 0, 1) := by decide +kernel
theorem dX0_noteStop_60 : decode cX0_noteStop 60 = .ok (.getfield 26, 3) := by decide +kernel
theorem dX0_noteStop_63 : decode cX0_noteStop 63 = .ok (.invokevirtual 75, 3) := by decide +kernel
theorem dX0_noteStop_66 : decode cX0_noteStop 66 = .ok (.aload_n 0, 1) := by decide +kernel
theorem dX0_noteStop_67 : decode cX0_noteStop 67 = .ok (.getfield 36, 3) := by decide +kernel
theorem dX0_noteStop_70 : decode cX0_noteStop 70 = .ok (.getfield 165, 3) := by decide +kernel
theorem dX0_noteStop_73 : decode cX0_noteStop 73 = .ok (.iload_n 3, 1) := by decide +kernel
theorem dX0_noteStop_74 : decode cX0_noteStop 74 = .ok (.iconst 3, 1) := by decide +kernel
theorem dX0_noteStop_75 : decode cX0_noteStop 75 = .ok (.aload_n 0, 1) := by decide +kernel
theorem dX0_noteStop_76 : decode cX0_noteStop 76 = .ok (.getfield 30, 3) := by decide +kernel
theorem dX0_noteStop_79 : decode cX0_noteStop 79 = .ok (.invokevirtual 75, 3) := by decide +kernel
theorem dX0_noteStop_82 : decode cX0_noteStop 82 = .ok (.aload_n 0, 1) := by decide +kernel
theorem dX0_noteStop_83 : decode cX0_noteStop 83 = .ok (.getfield 36, 3) := by decide +kernel
theorem dX0_noteStop_86 : decode cX0_noteStop 86 = .ok (.getfield 165, 3) := by decide +kernel
theorem dX0_noteStop_89 : decode cX0_noteStop 89 = .ok (.iload_n 3, 1) := by decide +kernel
theorem dX0_noteStop_90 : decode cX0_noteStop 90 = .ok (.iconst 4, 1) := by decide +kernel
theorem dX0_noteStop_91 : decode cX0_noteStop 91 = .ok (.aload_n 0, 1) := by decide +kernel
theorem dX0_noteStop_92 : decode cX0_noteStop 92 = .ok (.getfield 33, 3) := by decide +kernel
theorem dX0_noteStop_95 : decode cX0_noteStop 95 = .ok (.invokevirtual 75, 3) := by decide +kernel
theorem dX0_noteStop_98 : decode cX0_noteStop 98 = .ok (.aload_n 0, 1) := by decide +kernel
theorem dX0_noteStop_99 : decode cX0_noteStop 99 = .ok (.getfield 36, 3) := by decide +kernel
theorem dX0_noteStop_102 : decode cX0_noteStop 102 = .ok (.getfield 63, 3) := by decide +kernel
theorem dX0_noteStop_105 : decode cX0_noteStop 105 = .ok (.iconst 0, 1) := by decide +kernel
theorem dX0_noteStop_106 : decode cX0_noteStop 106 = .ok (.iconst 3, 1) := by decide +kernel
theorem dX0_noteStop_107 : decode cX0_noteStop 107 = .ok (.iload_n 2, 1) := by decide +kernel
theorem dX0_noteStop_108 : decode cX0_noteStop 108 = .ok (.iconst 1, 1) := by decide +kernel
theorem dX0_noteStop_109 : decode cX0_noteStop 109 = .ok (.iadd, 1) := by decide +kernel
theorem dX0_noteStop_110 : decode cX0_noteStop 110 = .ok (.invokevirtual 75, 3) := by decide +kernel
theorem dX0_noteStop_113 : decode cX0_noteStop 113 = .ok (.return_, 1) := by decide +kernel
theorem w_X0_noteStop {z : VT} {Γ : Gam} {cy : Nat → ClassId} {a : Nat → Nat} {V : VT} {J : JT} {K : Nat → Option Nat} {X : va_W} {v1 : Int32}  (C0 : CXg Γ cX0_noteStop 4 2 RX0 cy) (hD : DC Γ cy a X) (h : f_X0_noteStop v1 V = some z) (hz : (fun y : VT => FinV Γ cX0_noteStop (WC cy a y J K X)) z) : Wp Γ 0 0 0 [(0, .ref (a 8)), (1, .int v1)] [] (WC cy a V J K X) := by
  unfold f_X0_noteStop at h
  refine r_aload_n C0 dX0_noteStop_0 rfl 0 rfl ?_
  refine wcg_8_0 C0 tf_X0_36 dX0_noteStop_1 ?_
  refine wcg_3_7 C0 tf_X0_63 dX0_noteStop_4 ?_
  refine r_iconst C0 dX0_noteStop_7 ki_0 ?_
  refine r_iconst C0 dX0_noteStop_8 ki_3 ?_
  refine callV2 C0 h (hD _ _ _) mw_X7_get (rv_t tb_17) tm_X0_69 (fun y hy => c_X7_get tb_17 hy) (Nat.le_of_ble_eq_true rfl) (Nat.le_of_ble_eq_true rfl) dX0_noteStop_9 (fun r1 h => ?_)
  refine r_istore_n (lv2 := [(2, .int r1), (0, .ref (a 8)), (1, .int v1)]) C0 dX0_noteStop_12 rfl rfl (Nat.le_of_ble_eq_true rfl) rfl ?_
  refine r_iload_n C0 dX0_noteStop_13 rfl 0 rfl ?_
  refine r_bipush C0 dX0_noteStop_14 kb_40 ?_
  refine r_irem C0 dX0_noteStop_16 h (fun u2 h => ?_)
  obtain ⟨a3, h8, h⟩ := op_bind h
  have e8 := Option.some.inj h8
  refine r_istore_n (lv2 := [(3, .int a3), (2, .int r1), (0, .ref (a 8)), (1, .int v1)]) C0 dX0_noteStop_17 rfl e8 (Nat.le_of_ble_eq_true rfl) rfl ?_
  refine r_aload_n C0 dX0_noteStop_18 rfl 2 rfl ?_
  refine wcg_8_0 C0 tf_X0_36 dX0_noteStop_19 ?_
  refine wcg_3_6 C0 tf_X0_165 dX0_noteStop_22 ?_
  refine r_iload_n C0 dX0_noteStop_25 rfl 0 rfl ?_
  refine r_iconst C0 dX0_noteStop_26 ki_0 ?_
  refine r_aload_n C0 dX0_noteStop_27 rfl 2 rfl ?_
  refine wcg_8_0 C0 tf_X0_36 dX0_noteStop_28 ?_
  refine callV0 C0 h (hD _ _ _) mw_X3_time rv_3 tm_X0_122 (fun y hy => c_X3_time hy) (Nat.le_of_ble_eq_true rfl) (Nat.le_of_ble_eq_true rfl) dX0_noteStop_31 (fun r4 h => ?_)
  refine callVv3 C0 h (hD _ _ _) mw_X7_set (rv_t tb_16) tm_X0_75 (fun y hy => c_X7_set tb_16 hy) (Nat.le_of_ble_eq_true rfl) (Nat.le_of_ble_eq_true rfl) dX0_noteStop_34 (fun r5 h => ?_)
  refine r_aload_n C0 dX0_noteStop_37 rfl 2 rfl ?_
  refine wcg_8_0 C0 tf_X0_36 dX0_noteStop_38 ?_
  refine wcg_3_6 C0 tf_X0_165 dX0_noteStop_41 ?_
  refine r_iload_n C0 dX0_noteStop_44 rfl 0 rfl ?_
  refine r_iconst C0 dX0_noteStop_45 ki_1 ?_
  refine r_iload_n C0 dX0_noteStop_46 rfl 3 rfl ?_
  refine callVv3 C0 h (hD _ _ _) mw_X7_set (rv_t tb_16) tm_X0_75 (fun y hy => c_X7_set tb_16 hy) (Nat.le_of_ble_eq_true rfl) (Nat.le_of_ble_eq_true rfl) dX0_noteStop_47 (fun r6 h => ?_)
  refine r_aload_n C0 dX0_noteStop_50 rfl 2 rfl ?_
  refine wcg_8_0 C0 tf_X0_36 dX0_noteStop_51 ?_
  refine wcg_3_6 C0 tf_X0_165 dX0_noteStop_54 ?_
  refine r_iload_n C0 dX0_noteStop_57 rfl 0 rfl ?_
  refine r_iconst C0 dX0_noteStop_58 ki_2 ?_
  refine r_aload_n C0 dX0_noteStop_59 rfl 2 rfl ?_
  refine wcg_8_8 C0 tf_X0_26 dX0_noteStop_60 ?_
  refine callVv3 C0 h (hD _ _ _) mw_X7_set (rv_t tb_16) tm_X0_75 (fun y hy => c_X7_set tb_16 hy) (Nat.le_of_ble_eq_true rfl) (Nat.le_of_ble_eq_true rfl) dX0_noteStop_63 (fun r7 h => ?_)
  refine r_aload_n C0 dX0_noteStop_66 rfl 2 rfl ?_
  refine wcg_8_0 C0 tf_X0_36 dX0_noteStop_67 ?_
  refine wcg_3_6 C0 tf_X0_165 dX0_noteStop_70 ?_
  refine r_iload_n C0 dX0_noteStop_73 rfl 0 rfl ?_
  refine r_iconst C0 dX0_noteStop_74 ki_3 ?_
  refine r_aload_n C0 dX0_noteStop_75 rfl 2 rfl ?_
  refine wcg_8_9 C0 tf_X0_30 dX0_noteStop_76 ?_
  refine callVv3 C0 h (hD _ _ _) mw_X7_set (rv_t tb_16) tm_X0_75 (fun y hy => c_X7_set tb_16 hy) (Nat.le_of_ble_eq_true rfl) (Nat.le_of_ble_eq_true rfl) dX0_noteStop_79 (fun r8 h => ?_)
  refine r_aload_n C0 dX0_noteStop_82 rfl 2 rfl ?_
  refine wcg_8_0 C0 tf_X0_36 dX0_noteStop_83 ?_
  refine wcg_3_6 C0 tf_X0_165 dX0_noteStop_86 ?_
  refine r_iload_n C0 dX0_noteStop_89 rfl 0 rfl ?_
  refine r_iconst C0 dX0_noteStop_90 ki_4 ?_
  refine r_aload_n C0 dX0_noteStop_91 rfl 2 rfl ?_
  refine wcg_8_10 C0 tf_X0_33 dX0_noteStop_92 ?_
  refine callVv3 C0 h (hD _ _ _) mw_X7_set (rv_t tb_16) tm_X0_75 (fun y hy => c_X7_set tb_16 hy) (Nat.le_of_ble_eq_true rfl) (Nat.le_of_ble_eq_true rfl) dX0_noteStop_95 (fun r9 h => ?_)
  refine r_aload_n C0 dX0_noteStop_98 rfl 2 rfl ?_
  refine wcg_8_0 C0 tf_X0_36 dX0_noteStop_99 ?_
  refine wcg_3_7 C0 tf_X0_63 dX0_noteStop_102 ?_
  refine r_iconst C0 dX0_noteStop_105 ki_0 ?_
  refine r_iconst C0 dX0_noteStop_106 ki_3 ?_
  refine r_iload_n C0 dX0_noteStop_107 rfl 1 rfl ?_
  refine r_iconst C0 dX0_noteStop_108 ki_1 ?_
  refine r_iadd C0 dX0_noteStop_109 ?_
  refine callVv3 C0 h (hD _ _ _) mw_X7_set (rv_t tb_17) tm_X0_75 (fun y hy => c_X7_set tb_17 hy) (Nat.le_of_ble_eq_true rfl) (Nat.le_of_ble_eq_true rfl) dX0_noteStop_110 (fun r10 h => ?_)
  cases h
  exact hz _ _ dX0_noteStop_113
theorem c_X0_noteStop {l : Launch} {D : va_G} {cy : Nat → ClassId} {a : Nat → Nat} {V : VT} {J : JT} {K : Nat → Option Nat} {X : va_W} {v1 : Int32} {y : VT} (h : f_X0_noteStop v1 V = some y) : CT l D cy yX0_noteStop cX0_noteStop 4 none 2 [.ref (a 8), .int v1] (WC cy a V J K X) (WC cy a y J K X) none :=
  mkV (by decide) (Nat.le_of_ble_eq_true rfl) (fun Γ _ _ C0 hD hF => w_X0_noteStop C0 (dc_of hD) h hF)
theorem dX0_whyStop_0 : decode cX0_whyStop 0 = .ok (.aload_n 0, 1) := by decide +kernel
theorem dX0_whyStop_1 : decode cX0_whyStop 1 = .ok (.ldc 25, 2) := by decide +kernel
theorem dX0_whyStop_3 : decode cX0_whyStop 3 = .ok (.putfield 30, 3) := by decide +kernel
theorem dX0_whyStop_6 : decode cX0_whyStop 6 = .ok (.aload_n 0, 1) := by decide +kernel
theorem dX0_whyStop_7 : decode cX0_whyStop 7 = .ok (.ldc 25, 2) := by decide +kernel
theorem dX0_whyStop_9 : decode cX0_whyStop 9 = .ok (.putfield 33, 3) := by decide +kernel
theorem dX0_whyStop_12 : decode cX0_whyStop 12 = .ok (.iload_n 1, 1) := by decide +kernel
theorem dX0_whyStop_13 : decode cX0_whyStop 13 = .ok (.istore 4, 2) := by decide +kernel
theorem dX0_whyStop_15 : decode cX0_whyStop 15 = .ok (.iload 4, 2) := by decide +kernel
theorem dX0_whyStop_17 : decode cX0_whyStop 17 = .ok (.iload_n 2, 1) := by decide +kernel
theorem dX0_whyStop_18 : decode cX0_whyStop 18 = .ok (.if_icmp .gt 46, 3) := by decide +kernel
theorem dX0_whyStop_21 : decode cX0_whyStop 21 = .ok (.aload_n 0, 1) := by decide +kernel
theorem dX0_whyStop_22 : decode cX0_whyStop 22 = .ok (.getfield 36, 3) := by decide +kernel
theorem dX0_whyStop_25 : decode cX0_whyStop 25 = .ok (.getfield 155, 3) := by decide +kernel
theorem dX0_whyStop_28 : decode cX0_whyStop 28 = .ok (.iload 4, 2) := by decide +kernel
theorem dX0_whyStop_30 : decode cX0_whyStop 30 = .ok (.iconst 2, 1) := by decide +kernel
theorem dX0_whyStop_31 : decode cX0_whyStop 31 = .ok (.invokevirtual 69, 3) := by decide +kernel
theorem dX0_whyStop_34 : decode cX0_whyStop 34 = .ok (.iload_n 3, 1) := by decide +kernel
theorem dX0_whyStop_35 : decode cX0_whyStop 35 = .ok (.iadd, 1) := by decide +kernel
theorem dX0_whyStop_36 : decode cX0_whyStop 36 = .ok (.istore 5, 2) := by decide +kernel
theorem dX0_whyStop_38 : decode cX0_whyStop 38 = .ok (.iload 5, 2) := by decide +kernel
theorem dX0_whyStop_40 : decode cX0_whyStop 40 = .ok (.ifCond .lt 10, 3) := by decide +kernel
theorem dX0_whyStop_43 : decode cX0_whyStop 43 = .ok (.iload 5, 2) := by decide +kernel
theorem dX0_whyStop_45 : decode cX0_whyStop 45 = .ok (.bipush 100, 2) := by decide +kernel
theorem dX0_whyStop_47 : decode cX0_whyStop 47 = .ok (.if_icmp .le 11, 3) := by decide +kernel
theorem dX0_whyStop_50 : decode cX0_whyStop 50 = .ok (.aload_n 0, 1) := by decide +kernel
theorem dX0_whyStop_51 : decode cX0_whyStop 51 = .ok (.iload 4, 2) := by decide +kernel
theorem dX0_whyStop_53 : decode cX0_whyStop 53 = .ok (.putfield 26, 3) := by decide +kernel
theorem dX0_whyStop_56 : decode cX0_whyStop 56 = .ok (.iconst 1, 1) := by decide +kernel
theorem dX0_whyStop_57 : decode cX0_whyStop 57 = .ok (.ireturn, 1) := by decide +kernel
theorem dX0_whyStop_58 : decode cX0_whyStop 58 = .ok (.iinc 4 1, 3) := by decide +kernel
theorem dX0_whyStop_61 : decode cX0_whyStop 61 = .ok (.goto (-46), 3) := by decide +kernel
theorem dX0_whyStop_64 : decode cX0_whyStop 64 = .ok (.iload_n 1, 1) := by decide +kernel
theorem dX0_whyStop_65 : decode cX0_whyStop 65 = .ok (.iconst 0, 1) := by decide +kernel
theorem dX0_whyStop_66 : decode cX0_whyStop 66 = .ok (.invokestatic 158, 3) := by decide +kernel
theorem dX0_whyStop_69 : decode cX0_whyStop 69 = .ok (.istore 4, 2) := by decide +kernel
theorem dX0_whyStop_71 : decode cX0_whyStop 71 = .ok (.iload 4, 2) := by decide +kernel
theorem dX0_whyStop_73 : decode cX0_whyStop 73 = .ok (.iload_n 2, 1) := by decide +kernel
theorem dX0_whyStop_74 : decode cX0_whyStop 74 = .ok (.if_icmp .gt 34, 3) := by decide +kernel
theorem dX0_whyStop_77 : decode cX0_whyStop 77 = .ok (.iload 4, 2) := by decide +kernel
theorem dX0_whyStop_79 : decode cX0_whyStop 79 = .ok (.bipush 12, 2) := by decide +kernel
theorem dX0_whyStop_81 : decode cX0_whyStop 81 = .ok (.if_icmp .ge 27, 3) := by decide +kernel
theorem dX0_whyStop_84 : decode cX0_whyStop 84 = .ok (.aload_n 0, 1) := by decide +kernel
theorem dX0_whyStop_85 : decode cX0_whyStop 85 = .ok (.getfield 15, 3) := by decide +kernel
theorem dX0_whyStop_88 : decode cX0_whyStop 88 = .ok (.iload 4, 2) := by decide +kernel
theorem dX0_whyStop_90 : decode cX0_whyStop 90 = .ok (.baload, 1) := by decide +kernel
theorem dX0_whyStop_91 : decode cX0_whyStop 91 = .ok (.ifCond .ne 11, 3) := by decide +kernel
theorem dX0_whyStop_94 : decode cX0_whyStop 94 = .ok (.aload_n 0, 1) := by decide +kernel
theorem dX0_whyStop_95 : decode cX0_whyStop 95 = .ok (.iload 4, 2) := by decide +kernel
theorem dX0_whyStop_97 : decode cX0_whyStop 97 = .ok (.putfield 26, 3) := by decide +kernel
theorem dX0_whyStop_100 : decode cX0_whyStop 100 = .ok (.iconst 2, 1) := by decide +kernel
theorem dX0_whyStop_101 : decode cX0_whyStop 101 = .ok (.ireturn, 1) := by decide +kernel
theorem dX0_whyStop_102 : decode cX0_whyStop 102 = .ok (.iinc 4 1, 3) := by decide +kernel
theorem dX0_whyStop_105 : decode cX0_whyStop 105 = .ok (.goto (-34), 3) := by decide +kernel
theorem dX0_whyStop_108 : decode cX0_whyStop 108 = .ok (.iload_n 1, 1) := by decide +kernel
theorem dX0_whyStop_109 : decode cX0_whyStop 109 = .ok (.iconst 0, 1) := by decide +kernel
theorem dX0_whyStop_110 : decode cX0_whyStop 110 = .ok (.invokestatic 158, 3) := by decide +kernel
theorem dX0_whyStop_113 : decode cX0_whyStop 113 = .ok (.istore 4, 2) := by decide +kernel
theorem dX0_whyStop_115 : decode cX0_whyStop 115 = .ok (.iload 4, 2) := by decide +kernel
theorem dX0_whyStop_117 : decode cX0_whyStop 117 = .ok (.iload_n 2, 1) := by decide +kernel
theorem dX0_whyStop_118 : decode cX0_whyStop 118 = .ok (.if_icmp .gt 34, 3) := by decide +kernel
theorem dX0_whyStop_121 : decode cX0_whyStop 121 = .ok (.iload 4, 2) := by decide +kernel
theorem dX0_whyStop_123 : decode cX0_whyStop 123 = .ok (.bipush 12, 2) := by decide +kernel
theorem dX0_whyStop_125 : decode cX0_whyStop 125 = .ok (.if_icmp .ge 27, 3) := by decide +kernel
theorem dX0_whyStop_128 : decode cX0_whyStop 128 = .ok (.aload_n 0, 1) := by decide +kernel
theorem dX0_whyStop_129 : decode cX0_whyStop 129 = .ok (.getfield 18, 3) := by decide +kernel
theorem dX0_whyStop_132 : decode cX0_whyStop 132 = .ok (.iload 4, 2) := by decide +kernel
theorem dX0_whyStop_134 : decode cX0_whyStop 134 = .ok (.baload, 1) := by decide +kernel
theorem dX0_whyStop_135 : decode cX0_whyStop 135 = .ok (.ifCond .ne 11, 3) := by decide +kernel
theorem dX0_whyStop_138 : decode cX0_whyStop 138 = .ok (.aload_n 0, 1) := by decide +kernel
theorem dX0_whyStop_139 : decode cX0_whyStop 139 = .ok (.iload 4, 2) := by decide +kernel
theorem dX0_whyStop_141 : decode cX0_whyStop 141 = .ok (.putfield 26, 3) := by decide +kernel
theorem dX0_whyStop_144 : decode cX0_whyStop 144 = .ok (.iconst 3, 1) := by decide +kernel
theorem dX0_whyStop_145 : decode cX0_whyStop 145 = .ok (.ireturn, 1) := by decide +kernel
theorem dX0_whyStop_146 : decode cX0_whyStop 146 = .ok (.iinc 4 1, 3) := by decide +kernel
theorem dX0_whyStop_149 : decode cX0_whyStop 149 = .ok (.goto (-34), 3) := by decide +kernel
theorem dX0_whyStop_152 : decode cX0_whyStop 152 = .ok (.iconst 0, 1) := by decide +kernel
theorem dX0_whyStop_153 : decode cX0_whyStop 153 = .ok (.ireturn, 1) := by decide +kernel
theorem w_X0_whyStop_B115 {x : Int32} {z : ((Int32) ⊕ (Int32 × VT))} {Γ : Gam} {cy : Nat → ClassId} {a : Nat → Nat} {V : VT} {J : JT} {K : Nat → Option Nat} {X : va_W} {v2 : Int32}  (C0 : CXg Γ cX0_whyStop 6 1 RX0 cy) (hD : DC Γ cy a X) (h : f_X0_whyStop_B115 v2 V x = some z) (hz : (Sum.elim (fun x : Int32 => Wp Γ 0 0 115 [(0, .ref (a 8)), (2, .int v2), (4, .int x)] [] (WC cy a V J K X)) (fun y : Int32 × VT => FinI Γ cX0_whyStop (WC cy a y.2 J K X) y.1)) z) : Wp Γ 0 0 115 [(0, .ref (a 8)), (2, .int v2), (4, .int x)] [] (WC cy a V J K X) := by
  unfold f_X0_whyStop_B115 at h
  refine r_iload C0 dX0_whyStop_115 2 rfl ?_
  refine r_iload_n C0 dX0_whyStop_117 rfl 1 rfl ?_
  refine r_icmp_gt C0 152 dX0_whyStop_118 rfl h (fun _ h => ?_) (fun _ h => ?_)
  · obtain ⟨y5, h5, h9⟩ := op_bind h
    clear h
    cases h9
    have hz := (el_inr hz)
    have h := h5
    refine r_iconst C0 dX0_whyStop_152 ki_0 ?_
    cases h
    exact hz _ _ dX0_whyStop_153
  · refine r_iload C0 dX0_whyStop_121 2 rfl ?_
    refine r_bipush C0 dX0_whyStop_123 kb_12 ?_
    refine r_icmp_ge C0 152 dX0_whyStop_125 rfl h (fun _ h => ?_) (fun _ h => ?_)
    · obtain ⟨y6, h5, h9⟩ := op_bind h
      clear h
      cases h9
      have hz := (el_inr hz)
      have h := h5
      refine r_iconst C0 dX0_whyStop_152 ki_0 ?_
      cases h
      exact hz _ _ dX0_whyStop_153
    · refine r_aload_n C0 dX0_whyStop_128 rfl 0 rfl ?_
      refine wcg_8_6 C0 tf_X0_18 dX0_whyStop_129 ?_
      refine r_iload C0 dX0_whyStop_132 2 rfl ?_
      refine wcal_28 C0 h dX0_whyStop_134 (fun k7 h => ?_)
      refine r_if_ne C0 146 dX0_whyStop_135 rfl h (fun _ h => ?_) (fun _ h => ?_)
      · obtain ⟨a8, h8, h⟩ := op_bind h
        have e8 := Option.some.inj h8
        refine r_iinc (lv2 := [(4, .int a8), (0, .ref (a 8)), (2, .int v2)]) C0 dX0_whyStop_146 2 rfl ki_1 e8 (Nat.le_of_ble_eq_true rfl) rfl ?_
        refine r_goto C0 115 dX0_whyStop_149 rfl ?_
        cases h
        have hz := el_inl hz
        exact r_sub [1, 2, 0] rfl hz
      · obtain ⟨y9, h5, h9⟩ := op_bind h
        clear h
        cases h9
        have hz := (el_inr hz)
        have h := h5
        refine r_aload_n C0 dX0_whyStop_138 rfl 0 rfl ?_
        refine r_iload C0 dX0_whyStop_139 2 rfl ?_
        refine wcp_8_8 C0 hD tf_X0_26 dX0_whyStop_141 ?_
        refine r_iconst C0 dX0_whyStop_144 ki_3 ?_
        cases h
        exact hz _ _ dX0_whyStop_145
theorem w_X0_whyStop_B115_lp {x : Int32} {z : (Int32 × VT)} {Γ : Gam} {cy : Nat → ClassId} {a : Nat → Nat} {V : VT} {J : JT} {K : Nat → Option Nat} {X : va_W} {v2 : Int32}  (C0 : CXg Γ cX0_whyStop 6 1 RX0 cy) (hD : DC Γ cy a X) (h : lp (f_X0_whyStop_B115 v2 V) fuel x = some z) (hz : (fun y : Int32 × VT => FinI Γ cX0_whyStop (WC cy a y.2 J K X) y.1) z) : Wp Γ 0 0 115 [(0, .ref (a 8)), (2, .int v2), (4, .int x)] [] (WC cy a V J K X) :=
  lp_rule (hd := (fun x : Int32 => Wp Γ 0 0 115 [(0, .ref (a 8)), (2, .int v2), (4, .int x)] [] (WC cy a V J K X))) (C := (fun y : Int32 × VT => FinI Γ cX0_whyStop (WC cy a y.2 J K X) y.1)) (fun x z h hz => w_X0_whyStop_B115 C0 hD h hz) _ _ _ h hz
theorem w_X0_whyStop_j108 {z : (Int32 × VT)} {Γ : Gam} {cy : Nat → ClassId} {a : Nat → Nat} {V : VT} {J : JT} {K : Nat → Option Nat} {X : va_W} {v1 : Int32} {v2 : Int32}  (C0 : CXg Γ cX0_whyStop 6 1 RX0 cy) (hD : DC Γ cy a X) (h : f_X0_whyStop_j108 v1 v2 V = some z) (hz : (fun y : Int32 × VT => FinI Γ cX0_whyStop (WC cy a y.2 J K X) y.1) z) : Wp Γ 0 0 108 [(0, .ref (a 8)), (1, .int v1), (2, .int v2)] [] (WC cy a V J K X) := by
  unfold f_X0_whyStop_j108 at h
  refine r_iload_n C0 dX0_whyStop_108 rfl 1 rfl ?_
  refine r_iconst C0 dX0_whyStop_109 ki_0 ?_
  refine r_mmax C0 dX0_whyStop_110 tm_X0_158 (Nat.le_of_ble_eq_true rfl) (Nat.le_of_ble_eq_true rfl) ?_
  obtain ⟨a4, h8, h⟩ := op_bind h
  have e8 := Option.some.inj h8
  refine r_istore (lv2 := [(4, .int a4), (0, .ref (a 8)), (1, .int v1), (2, .int v2)]) C0 dX0_whyStop_113 e8 (Nat.le_of_ble_eq_true rfl) rfl ?_
  exact r_sub [1, 3, 0] rfl (w_X0_whyStop_B115_lp C0 hD h hz)
theorem w_X0_whyStop_B71 {x : Int32} {z : ((Int32) ⊕ (Int32 × VT))} {Γ : Gam} {cy : Nat → ClassId} {a : Nat → Nat} {V : VT} {J : JT} {K : Nat → Option Nat} {X : va_W} {v1 : Int32} {v2 : Int32}  (C0 : CXg Γ cX0_whyStop 6 1 RX0 cy) (hD : DC Γ cy a X) (h : f_X0_whyStop_B71 v1 v2 V x = some z) (hz : (Sum.elim (fun x : Int32 => Wp Γ 0 0 71 [(0, .ref (a 8)), (1, .int v1), (2, .int v2), (4, .int x)] [] (WC cy a V J K X)) (fun y : Int32 × VT => FinI Γ cX0_whyStop (WC cy a y.2 J K X) y.1)) z) : Wp Γ 0 0 71 [(0, .ref (a 8)), (1, .int v1), (2, .int v2), (4, .int x)] [] (WC cy a V J K X) := by
  unfold f_X0_whyStop_B71 at h
  refine r_iload C0 dX0_whyStop_71 3 rfl ?_
  refine r_iload_n C0 dX0_whyStop_73 rfl 2 rfl ?_
  refine r_icmp_gt C0 108 dX0_whyStop_74 rfl h (fun _ h => ?_) (fun _ h => ?_)
  · obtain ⟨y3, h5, h9⟩ := op_bind h
    clear h
    cases h9
    have hz := (el_inr hz)
    have h := h5
    exact r_sub [0, 1, 2] rfl (w_X0_whyStop_j108 C0 hD h hz)
  · refine r_iload C0 dX0_whyStop_77 3 rfl ?_
    refine r_bipush C0 dX0_whyStop_79 kb_12 ?_
    refine r_icmp_ge C0 108 dX0_whyStop_81 rfl h (fun _ h => ?_) (fun _ h => ?_)
    · obtain ⟨y10, h5, h9⟩ := op_bind h
      clear h
      cases h9
      have hz := (el_inr hz)
      have h := h5
      exact r_sub [0, 1, 2] rfl (w_X0_whyStop_j108 C0 hD h hz)
    · refine r_aload_n C0 dX0_whyStop_84 rfl 0 rfl ?_
      refine wcg_8_5 C0 tf_X0_15 dX0_whyStop_85 ?_
      refine r_iload C0 dX0_whyStop_88 3 rfl ?_
      refine wcal_27 C0 h dX0_whyStop_90 (fun k11 h => ?_)
      refine r_if_ne C0 102 dX0_whyStop_91 rfl h (fun _ h => ?_) (fun _ h => ?_)
      · obtain ⟨a12, h8, h⟩ := op_bind h
        have e8 := Option.some.inj h8
        refine r_iinc (lv2 := [(4, .int a12), (0, .ref (a 8)), (1, .int v1), (2, .int v2)]) C0 dX0_whyStop_102 3 rfl ki_1 e8 (Nat.le_of_ble_eq_true rfl) rfl ?_
        refine r_goto C0 71 dX0_whyStop_105 rfl ?_
        cases h
        have hz := el_inl hz
        exact r_sub [1, 2, 3, 0] rfl hz
      · obtain ⟨y13, h5, h9⟩ := op_bind h
        clear h
        cases h9
        have hz := (el_inr hz)
        have h := h5
        refine r_aload_n C0 dX0_whyStop_94 rfl 0 rfl ?_
        refine r_iload C0 dX0_whyStop_95 3 rfl ?_
        refine wcp_8_8 C0 hD tf_X0_26 dX0_whyStop_97 ?_
        refine r_iconst C0 dX0_whyStop_100 ki_2 ?_
        cases h
        exact hz _ _ dX0_whyStop_101
theorem w_X0_whyStop_B71_lp {x : Int32} {z : (Int32 × VT)} {Γ : Gam} {cy : Nat → ClassId} {a : Nat → Nat} {V : VT} {J : JT} {K : Nat → Option Nat} {X : va_W} {v1 : Int32} {v2 : Int32}  (C0 : CXg Γ cX0_whyStop 6 1 RX0 cy) (hD : DC Γ cy a X) (h : lp (f_X0_whyStop_B71 v1 v2 V) fuel x = some z) (hz : (fun y : Int32 × VT => FinI Γ cX0_whyStop (WC cy a y.2 J K X) y.1) z) : Wp Γ 0 0 71 [(0, .ref (a 8)), (1, .int v1), (2, .int v2), (4, .int x)] [] (WC cy a V J K X) :=
  lp_rule (hd := (fun x : Int32 => Wp Γ 0 0 71 [(0, .ref (a 8)), (1, .int v1), (2, .int v2), (4, .int x)] [] (WC cy a V J K X))) (C := (fun y : Int32 × VT => FinI Γ cX0_whyStop (WC cy a y.2 J K X) y.1)) (fun x z h hz => w_X0_whyStop_B71 C0 hD h hz) _ _ _ h hz
theorem w_X0_whyStop_j50 {z : (Int32 × VT)} {Γ : Gam} {cy : Nat → ClassId} {a : Nat → Nat} {V : VT} {J : JT} {K : Nat → Option Nat} {X : va_W} {v4 : Int32}  (C0 : CXg Γ cX0_whyStop 6 1 RX0 cy) (hD : DC Γ cy a X) (h : f_X0_whyStop_j50 v4 V = some z) (hz : (fun y : Int32 × VT => FinI Γ cX0_whyStop (WC cy a y.2 J K X) y.1) z) : Wp Γ 0 0 50 [(0, .ref (a 8)), (4, .int v4)] [] (WC cy a V J K X) := by
  unfold f_X0_whyStop_j50 at h
  refine r_aload_n C0 dX0_whyStop_50 rfl 0 rfl ?_
  refine r_iload C0 dX0_whyStop_51 1 rfl ?_
  refine wcp_8_8 C0 hD tf_X0_26 dX0_whyStop_53 ?_
  refine r_iconst C0 dX0_whyStop_56 ki_1 ?_
  cases h
  exact hz _ _ dX0_whyStop_57
theorem w_X0_whyStop_B15 {x : Int32} {z : ((Int32) ⊕ (Int32 × VT))} {Γ : Gam} {cy : Nat → ClassId} {a : Nat → Nat} {V : VT} {J : JT} {K : Nat → Option Nat} {X : va_W} {v1 : Int32} {v2 : Int32} {v3 : Int32}  (C0 : CXg Γ cX0_whyStop 6 1 RX0 cy) (hD : DC Γ cy a X) (h : f_X0_whyStop_B15 v1 v2 v3 V x = some z) (hz : (Sum.elim (fun x : Int32 => Wp Γ 0 0 15 [(0, .ref (a 8)), (1, .int v1), (2, .int v2), (3, .int v3), (4, .int x)] [] (WC cy a V J K X)) (fun y : Int32 × VT => FinI Γ cX0_whyStop (WC cy a y.2 J K X) y.1)) z) : Wp Γ 0 0 15 [(0, .ref (a 8)), (1, .int v1), (2, .int v2), (3, .int v3), (4, .int x)] [] (WC cy a V J K X) := by
  unfold f_X0_whyStop_B15 at h
  refine r_iload C0 dX0_whyStop_15 4 rfl ?_
  refine r_iload_n C0 dX0_whyStop_17 rfl 2 rfl ?_
  refine r_icmp_gt C0 64 dX0_whyStop_18 rfl h (fun _ h => ?_) (fun _ h => ?_)
  · obtain ⟨y1, h5, h9⟩ := op_bind h
    clear h
    cases h9
    have hz := (el_inr hz)
    have h := h5
    refine r_iload_n C0 dX0_whyStop_64 rfl 1 rfl ?_
    refine r_iconst C0 dX0_whyStop_65 ki_0 ?_
    refine r_mmax C0 dX0_whyStop_66 tm_X0_158 (Nat.le_of_ble_eq_true rfl) (Nat.le_of_ble_eq_true rfl) ?_
    obtain ⟨a2, h8, h⟩ := op_bind h
    have e8 := Option.some.inj h8
    refine r_istore (lv2 := [(4, .int a2), (0, .ref (a 8)), (1, .int v1), (2, .int v2), (3, .int v3)]) C0 dX0_whyStop_69 e8 (Nat.le_of_ble_eq_true rfl) rfl ?_
    exact r_sub [1, 2, 3, 0] rfl (w_X0_whyStop_B71_lp C0 hD h hz)
  · refine r_aload_n C0 dX0_whyStop_21 rfl 0 rfl ?_
    refine wcg_8_0 C0 tf_X0_36 dX0_whyStop_22 ?_
    refine wcg_3_0 C0 tf_X0_155 dX0_whyStop_25 ?_
    refine r_iload C0 dX0_whyStop_28 4 rfl ?_
    refine r_iconst C0 dX0_whyStop_30 ki_2 ?_
    refine callV2 C0 h (hD _ _ _) mw_X7_get (rv_t tb_10) tm_X0_69 (fun y hy => c_X7_get tb_10 hy) (Nat.le_of_ble_eq_true rfl) (Nat.le_of_ble_eq_true rfl) dX0_whyStop_31 (fun r14 h => ?_)
    refine r_iload_n C0 dX0_whyStop_34 rfl 3 rfl ?_
    refine r_iadd C0 dX0_whyStop_35 ?_
    obtain ⟨a15, h8, h⟩ := op_bind h
    have e8 := Option.some.inj h8
    refine r_istore (lv2 := [(5, .int a15), (0, .ref (a 8)), (1, .int v1), (2, .int v2), (3, .int v3), (4, .int x)]) C0 dX0_whyStop_36 e8 (Nat.le_of_ble_eq_true rfl) rfl ?_
    refine r_iload C0 dX0_whyStop_38 0 rfl ?_
    refine r_if_lt C0 50 dX0_whyStop_40 rfl h (fun _ h => ?_) (fun _ h => ?_)
    · obtain ⟨y16, h5, h9⟩ := op_bind h
      clear h
      cases h9
      have hz := (el_inr hz)
      have h := h5
      exact r_sub [1, 5] rfl (w_X0_whyStop_j50 C0 hD h hz)
    · refine r_iload C0 dX0_whyStop_43 0 rfl ?_
      refine r_bipush C0 dX0_whyStop_45 kb_100 ?_
      refine r_icmp_le C0 58 dX0_whyStop_47 rfl h (fun _ h => ?_) (fun _ h => ?_)
      · obtain ⟨a17, h8, h⟩ := op_bind h
        have e8 := Option.some.inj h8
        refine r_iinc (lv2 := [(4, .int a17), (5, .int a15), (0, .ref (a 8)), (1, .int v1), (2, .int v2), (3, .int v3)]) C0 dX0_whyStop_58 5 rfl ki_1 e8 (Nat.le_of_ble_eq_true rfl) rfl ?_
        refine r_goto C0 15 dX0_whyStop_61 rfl ?_
        cases h
        have hz := el_inl hz
        exact r_sub [2, 3, 4, 5, 0] rfl hz
      · obtain ⟨y18, h5, h9⟩ := op_bind h
        clear h
        cases h9
        have hz := (el_inr hz)
        have h := h5
        exact r_sub [1, 5] rfl (w_X0_whyStop_j50 C0 hD h hz)
theorem w_X0_whyStop_B15_lp {x : Int32} {z : (Int32 × VT)} {Γ : Gam} {cy : Nat → ClassId} {a : Nat → Nat} {V : VT} {J : JT} {K : Nat → Option Nat} {X : va_W} {v1 : Int32} {v2 : Int32} {v3 : Int32}  (C0 : CXg Γ cX0_whyStop 6 1 RX0 cy) (hD : DC Γ cy a X) (h : lp (f_X0_whyStop_B15 v1 v2 v3 V) fuel x = some z) (hz : (fun y : Int32 × VT => FinI Γ cX0_whyStop (WC cy a y.2 J K X) y.1) z) : Wp Γ 0 0 15 [(0, .ref (a 8)), (1, .int v1), (2, .int v2), (3, .int v3), (4, .int x)] [] (WC cy a V J K X) :=
  lp_rule (hd := (fun x : Int32 => Wp Γ 0 0 15 [(0, .ref (a 8)), (1, .int v1), (2, .int v2), (3, .int v3), (4, .int x)] [] (WC cy a V J K X))) (C := (fun y : Int32 × VT => FinI Γ cX0_whyStop (WC cy a y.2 J K X) y.1)) (fun x z h hz => w_X0_whyStop_B15 C0 hD h hz) _ _ _ h hz
theorem w_X0_whyStop {z : Int32 × VT} {Γ : Gam} {cy : Nat → ClassId} {a : Nat → Nat} {V : VT} {J : JT} {K : Nat → Option Nat} {X : va_W} {v1 : Int32} {v2 : Int32} {v3 : Int32}  (C0 : CXg Γ cX0_whyStop 6 1 RX0 cy) (hD : DC Γ cy a X) (h : f_X0_whyStop v1 v2 v3 V = some z) (hz : (fun y : Int32 × VT => FinI Γ cX0_whyStop (WC cy a y.2 J K X) y.1) z) : Wp Γ 0 0 0 [(0, .ref (a 8)), (1, .int v1), (2, .int v2), (3, .int v3)] [] (WC cy a V J K X) := by
  unfold f_X0_whyStop at h
  refine r_aload_n C0 dX0_whyStop_0 rfl 0 rfl ?_
  refine r_ldc C0 tk_X0_25 dX0_whyStop_1 ?_
  refine wcp_8_9 C0 hD tf_X0_30 dX0_whyStop_3 ?_
  refine r_aload_n C0 dX0_whyStop_6 rfl 0 rfl ?_
  refine r_ldc C0 tk_X0_25 dX0_whyStop_7 ?_
  refine wcp_8_10 C0 hD tf_X0_33 dX0_whyStop_9 ?_
  refine r_iload_n C0 dX0_whyStop_12 rfl 1 rfl ?_
  refine r_istore (lv2 := [(4, .int v1), (0, .ref (a 8)), (1, .int v1), (2, .int v2), (3, .int v3)]) C0 dX0_whyStop_13 rfl (Nat.le_of_ble_eq_true rfl) rfl ?_
  exact r_sub [1, 2, 3, 4, 0] rfl (w_X0_whyStop_B15_lp C0 hD h hz)
theorem c_X0_whyStop {l : Launch} {D : va_G} {cy : Nat → ClassId} {a : Nat → Nat} {V : VT} {J : JT} {K : Nat → Option Nat} {X : va_W} {v1 : Int32} {v2 : Int32} {v3 : Int32} {y : Int32 × VT} (h : f_X0_whyStop v1 v2 v3 V = some y) : CT l D cy yX0_whyStop cX0_whyStop 6 (some .int) 1 [.ref (a 8), .int v1, .int v2, .int v3] (WC cy a V J K X) (WC cy a y.2 J K X) (some (.int y.1)) :=
  mkI (by decide) (Nat.le_of_ble_eq_true rfl) (fun Γ _ _ C0 hD hF => w_X0_whyStop C0 (dc_of hD) h hF)
theorem dX5_wouldClash_0 : decode cX5_wouldClash 0 = .ok (.aload_n 0, 1) := by decide +kernel
theorem dX5_wouldClash_1 : decode cX5_wouldClash 1 = .ok (.getfield 9, 3) := by decide +kernel
theorem dX5_wouldClash_4 : decode cX5_wouldClash 4 = .ok (.getfield 15, 3) := by decide +kernel
theorem dX5_wouldClash_7 : decode cX5_wouldClash 7 = .ok (.iload_n 1, 1) := by decide +kernel
theorem dX5_wouldClash_8 : decode cX5_wouldClash 8 = .ok (.iload 4, 2) := by decide +kernel
theorem dX5_wouldClash_10 : decode cX5_wouldClash 10 = .ok (.invokevirtual 21, 3) := by decide +kernel
theorem dX5_wouldClash_13 : decode cX5_wouldClash 13 = .ok (.iconst 2, 1) := by decide +kernel
theorem dX5_wouldClash_14 : decode cX5_wouldClash 14 = .ok (.isub, 1) := by decide +kernel
theorem dX5_wouldClash_15 : decode cX5_wouldClash 15 = .ok (.istore 5, 2) := by decide +kernel
theorem dX5_wouldClash_17 : decode cX5_wouldClash 17 = .ok (.aload_n 0, 1) := by decide +kernel
theorem dX5_wouldClash_18 : decode cX5_wouldClash 18 = .ok (.getfield 9, 3) := by decide +kernel
theorem dX5_wouldClash_21 : decode cX5_wouldClash 21 = .ok (.getfield 15, 3) := by decide +kernel
theorem dX5_wouldClash_24 : decode cX5_wouldClash 24 = .ok (.iload_n 3, 1) := by decide +kernel
theorem dX5_wouldClash_25 : decode cX5_wouldClash 25 = .ok (.iload 4, 2) := by decide +kernel
theorem dX5_wouldClash_27 : decode cX5_wouldClash 27 = .ok (.invokevirtual 21, 3) := by decide +kernel
theorem dX5_wouldClash_30 : decode cX5_wouldClash 30 = .ok (.iconst 2, 1) := by decide +kernel
theorem dX5_wouldClash_31 : decode cX5_wouldClash 31 = .ok (.isub, 1) := by decide +kernel
theorem dX5_wouldClash_32 : decode cX5_wouldClash 32 = .ok (.istore 6, 2) := by decide +kernel
theorem dX5_wouldClash_34 : decode cX5_wouldClash 34 = .ok (.iload 5, 2) := by decide +kernel
theorem dX5_wouldClash_36 : decode cX5_wouldClash 36 = .ok (.ifCond .lt 15, 3) := by decide +kernel
theorem dX5_wouldClash_39 : decode cX5_wouldClash 39 = .ok (.iload 6, 2) := by decide +kernel
theorem dX5_wouldClash_41 : decode cX5_wouldClash 41 = .ok (.ifCond .lt 10, 3) := by decide +kernel
theorem dX5_wouldClash_44 : decode cX5_wouldClash 44 = .ok (.iload 5, 2) := by decide +kernel
theorem dX5_wouldClash_46 : decode cX5_wouldClash 46 = .ok (.iload 6, 2) := by decide +kernel
theorem dX5_wouldClash_48 : decode cX5_wouldClash 48 = .ok (.if_icmp .ne 5, 3) := by decide +kernel
theorem dX5_wouldClash_51 : decode cX5_wouldClash 51 = .ok (.iconst 0, 1) := by decide +kernel
theorem dX5_wouldClash_52 : decode cX5_wouldClash 52 = .ok (.ireturn, 1) := by decide +kernel
theorem dX5_wouldClash_53 : decode cX5_wouldClash 53 = .ok (.aload_n 0, 1) := by decide +kernel
theorem dX5_wouldClash_54 : decode cX5_wouldClash 54 = .ok (.getfield 9, 3) := by decide +kernel
theorem dX5_wouldClash_57 : decode cX5_wouldClash 57 = .ok (.getfield 27, 3) := by decide +kernel
theorem dX5_wouldClash_60 : decode cX5_wouldClash 60 = .ok (.iload_n 1, 1) := by decide +kernel
theorem dX5_wouldClash_61 : decode cX5_wouldClash 61 = .ok (.iload_n 3, 1) := by decide +kernel
theorem dX5_wouldClash_62 : decode cX5_wouldClash 62 = .ok (.invokestatic 30, 3) := by decide +kernel
theorem dX5_wouldClash_65 : decode cX5_wouldClash 65 = .ok (.iconst 1, 1) := by decide +kernel
theorem dX5_wouldClash_66 : decode cX5_wouldClash 66 = .ok (.invokevirtual 21, 3) := by decide +kernel
theorem dX5_wouldClash_69 : decode cX5_wouldClash 69 = .ok (.istore 7, 2) := by decide +kernel
theorem dX5_wouldClash_71 : decode cX5_wouldClash 71 = .ok (.aload_n 0, 1) := by decide +kernel
theorem dX5_wouldClash_72 : decode cX5_wouldClash 72 = .ok (.getfield 9, 3) := by decide +kernel
theorem dX5_wouldClash_75 : decode cX5_wouldClash 75 = .ok (.getfield 35, 3) := by decide +kernel
theorem dX5_wouldClash_78 : decode cX5_wouldClash 78 = .ok (.iload 5, 2) := by decide +kernel
theorem dX5_wouldClash_80 : decode cX5_wouldClash 80 = .ok (.iconst 1, 1) := by decide +kernel
theorem dX5_wouldClash_81 : decode cX5_wouldClash 81 = .ok (.invokevirtual 21, 3) := by decide +kernel
theorem dX5_wouldClash_84 : decode cX5_wouldClash 84 = .ok (.aload_n 0, 1) := by decide +kernel
theorem dX5_wouldClash_85 : decode cX5_wouldClash 85 = .ok (.getfield 9, 3) := by decide +kernel
theorem dX5_wouldClash_88 : decode cX5_wouldClash 88 = .ok (.getfield 35, 3) := by decide +kernel
theorem dX5_wouldClash_91 : decode cX5_wouldClash 91 = .ok (.iload 6, 2) := by decide +kernel
theorem dX5_wouldClash_93 : decode cX5_wouldClash 93 = .ok (.iconst 1, 1) := by decide +kernel
theorem dX5_wouldClash_94 : decode cX5_wouldClash 94 = .ok (.invokevirtual 21, 3) := by decide +kernel
theorem dX5_wouldClash_97 : decode cX5_wouldClash 97 = .ok (.iadd, 1) := by decide +kernel
theorem dX5_wouldClash_98 : decode cX5_wouldClash 98 = .ok (.istore 8, 2) := by decide +kernel
theorem dX5_wouldClash_100 : decode cX5_wouldClash 100 = .ok (.aload_n 0, 1) := by decide +kernel
theorem dX5_wouldClash_101 : decode cX5_wouldClash 101 = .ok (.getfield 9, 3) := by decide +kernel
theorem dX5_wouldClash_104 : decode cX5_wouldClash 104 = .ok (.getfield 35, 3) := by decide +kernel
theorem dX5_wouldClash_107 : decode cX5_wouldClash 107 = .ok (.iload 5, 2) := by decide +kernel
theorem dX5_wouldClash_109 : decode cX5_wouldClash 109 = .ok (.iconst 0, 1) := by decide +kernel
theorem dX5_wouldClash_110 : decode cX5_wouldClash 110 = .ok (.invokevirtual 21, 3) := by decide +kernel
theorem dX5_wouldClash_113 : decode cX5_wouldClash 113 = .ok (.aload_n 0, 1) := by decide +kernel
theorem dX5_wouldClash_114 : decode cX5_wouldClash 114 = .ok (.getfield 9, 3) := by decide +kernel
theorem dX5_wouldClash_117 : decode cX5_wouldClash 117 = .ok (.getfield 35, 3) := by decide +kernel
theorem dX5_wouldClash_120 : decode cX5_wouldClash 120 = .ok (.iload 6, 2) := by decide +kernel
theorem dX5_wouldClash_122 : decode cX5_wouldClash 122 = .ok (.iconst 0, 1) := by decide +kernel
theorem dX5_wouldClash_123 : decode cX5_wouldClash 123 = .ok (.invokevirtual 21, 3) := by decide +kernel
theorem dX5_wouldClash_126 : decode cX5_wouldClash 126 = .ok (.invokestatic 38, 3) := by decide +kernel
theorem dX5_wouldClash_129 : decode cX5_wouldClash 129 = .ok (.istore 9, 2) := by decide +kernel
theorem dX5_wouldClash_131 : decode cX5_wouldClash 131 = .ok (.iload 8, 2) := by decide +kernel
theorem dX5_wouldClash_133 : decode cX5_wouldClash 133 = .ok (.iload 7, 2) := by decide +kernel
theorem dX5_wouldClash_135 : decode cX5_wouldClash 135 = .ok (.if_icmp .lt 16, 3) := by decide +kernel
theorem dX5_wouldClash_138 : decode cX5_wouldClash 138 = .ok (.iload 8, 2) := by decide +kernel
theorem dX5_wouldClash_140 : decode cX5_wouldClash 140 = .ok (.iload 7, 2) := by decide +kernel
theorem dX5_wouldClash_142 : decode cX5_wouldClash 142 = .ok (.if_icmp .ne 11, 3) := by decide +kernel
theorem dX5_wouldClash_145 : decode cX5_wouldClash 145 = .ok (.iload 9, 2) := by decide +kernel
theorem dX5_wouldClash_147 : decode cX5_wouldClash 147 = .ok (.iconst 3, 1) := by decide +kernel
theorem dX5_wouldClash_148 : decode cX5_wouldClash 148 = .ok (.if_icmp .ge 5, 3) := by decide +kernel
theorem dX5_wouldClash_151 : decode cX5_wouldClash 151 = .ok (.iconst 0, 1) := by decide +kernel
theorem dX5_wouldClash_152 : decode cX5_wouldClash 152 = .ok (.ireturn, 1) := by decide +kernel
theorem dX5_wouldClash_153 : decode cX5_wouldClash 153 = .ok (.aload_n 0, 1) := by decide +kernel
theorem dX5_wouldClash_154 : decode cX5_wouldClash 154 = .ok (.getfield 9, 3) := by decide +kernel
theorem dX5_wouldClash_157 : decode cX5_wouldClash 157 = .ok (.getfield 27, 3) := by decide +kernel
theorem dX5_wouldClash_160 : decode cX5_wouldClash 160 = .ok (.iload_n 3, 1) := by decide +kernel
theorem dX5_wouldClash_161 : decode cX5_wouldClash 161 = .ok (.iconst 2, 1) := by decide +kernel
theorem dX5_wouldClash_162 : decode cX5_wouldClash 162 = .ok (.invokevirtual 21, 3) := by decide +kernel
theorem dX5_wouldClash_165 : decode cX5_wouldClash 165 = .ok (.istore 10, 2) := by decide +kernel
theorem dX5_wouldClash_167 : decode cX5_wouldClash 167 = .ok (.iload_n 2, 1) := by decide +kernel
theorem dX5_wouldClash_168 : decode cX5_wouldClash 168 = .ok (.aload_n 0, 1) := by decide +kernel
theorem dX5_wouldClash_169 : decode cX5_wouldClash 169 = .ok (.getfield 9, 3) := by decide +kernel
theorem dX5_wouldClash_172 : decode cX5_wouldClash 172 = .ok (.getfield 35, 3) := by decide +kernel
theorem dX5_wouldClash_175 : decode cX5_wouldClash 175 = .ok (.iload 5, 2) := by decide +kernel
theorem dX5_wouldClash_177 : decode cX5_wouldClash 177 = .ok (.iconst 2, 1) := by decide +kernel
theorem dX5_wouldClash_178 : decode cX5_wouldClash 178 = .ok (.invokevirtual 21, 3) := by decide +kernel
theorem dX5_wouldClash_181 : decode cX5_wouldClash 181 = .ok (.isub, 1) := by decide +kernel
theorem dX5_wouldClash_182 : decode cX5_wouldClash 182 = .ok (.iload 10, 2) := by decide +kernel
theorem dX5_wouldClash_184 : decode cX5_wouldClash 184 = .ok (.if_icmp .ge 27, 3) := by decide +kernel
theorem dX5_wouldClash_187 : decode cX5_wouldClash 187 = .ok (.iload 10, 2) := by decide +kernel
theorem dX5_wouldClash_189 : decode cX5_wouldClash 189 = .ok (.aload_n 0, 1) := by decide +kernel
theorem dX5_wouldClash_190 : decode cX5_wouldClash 190 = .ok (.getfield 9, 3) := by decide +kernel
theorem dX5_wouldClash_193 : decode cX5_wouldClash 193 = .ok (.getfield 35, 3) := by decide +kernel
theorem dX5_wouldClash_196 : decode cX5_wouldClash 196 = .ok (.iload 6, 2) := by decide +kernel
theorem dX5_wouldClash_198 : decode cX5_wouldClash 198 = .ok (.iconst 2, 1) := by decide +kernel
theorem dX5_wouldClash_199 : decode cX5_wouldClash 199 = .ok (.invokevirtual 21, 3) := by decide +kernel
theorem dX5_wouldClash_202 : decode cX5_wouldClash 202 = .ok (.isub, 1) := by decide +kernel
theorem dX5_wouldClash_203 : decode cX5_wouldClash 203 = .ok (.iload_n 2, 1) := by decide +kernel
theorem dX5_wouldClash_204 : decode cX5_wouldClash 204 = .ok (.if_icmp .ge 7, 3) := by decide +kernel
theorem dX5_wouldClash_207 : decode cX5_wouldClash 207 = .ok (.iconst 1, 1) := by decide +kernel
theorem dX5_wouldClash_208 : decode cX5_wouldClash 208 = .ok (.goto 4, 3) := by decide +kernel
theorem dX5_wouldClash_211 : decode cX5_wouldClash 211 = .ok (.iconst 0, 1) := by decide +kernel
theorem dX5_wouldClash_212 : decode cX5_wouldClash 212 = .ok (.ireturn, 1) := by decide +kernel
theorem w_X5_wouldClash_j211 {z : (Int32)} {Γ : Gam} {cy : Nat → ClassId} {a : Nat → Nat} {V : VT} {J : JT} {K : Nat → Option Nat} {X : va_W}  (C0 : CXg Γ cX5_wouldClash 11 1 RX5 cy) (hD : DC Γ cy a X) (h : f_X5_wouldClash_j211 V = some z) (hz : (fun y : Int32 => FinZ Γ cX5_wouldClash (WC cy a V J K X) y) z) : Wp Γ 0 0 211 [] [] (WC cy a V J K X) := by
  unfold f_X5_wouldClash_j211 at h
  refine r_iconst C0 dX5_wouldClash_211 ki_0 ?_
  cases h
  exact hz _ _ nz_0 dX5_wouldClash_212
theorem w_X5_wouldClash_j153 {z : (Int32)} {Γ : Gam} {cy : Nat → ClassId} {a : Nat → Nat} {V : VT} {J : JT} {K : Nat → Option Nat} {X : va_W} {v2 : Int32} {v3 : Int32} {v5 : Int32} {v6 : Int32}  (C0 : CXg Γ cX5_wouldClash 11 1 RX5 cy) (hD : DC Γ cy a X) (h : f_X5_wouldClash_j153 v2 v3 v5 v6 V = some z) (hz : (fun y : Int32 => FinZ Γ cX5_wouldClash (WC cy a V J K X) y) z) : Wp Γ 0 0 153 [(0, .ref (a 5)), (2, .int v2), (3, .int v3), (5, .int v5), (6, .int v6)] [] (WC cy a V J K X) := by
  unfold f_X5_wouldClash_j153 at h
  refine r_aload_n C0 dX5_wouldClash_153 rfl 0 rfl ?_
  refine wcg_5_0 C0 tf_X5_9 dX5_wouldClash_154 ?_
  refine wcg_3_0 C0 tf_X5_27 dX5_wouldClash_157 ?_
  refine r_iload_n C0 dX5_wouldClash_160 rfl 2 rfl ?_
  refine r_iconst C0 dX5_wouldClash_161 ki_2 ?_
  refine callV2 C0 h (hD _ _ _) mw_X7_get (rv_t tb_10) tm_X5_21 (fun y hy => c_X7_get tb_10 hy) (Nat.le_of_ble_eq_true rfl) (Nat.le_of_ble_eq_true rfl) dX5_wouldClash_162 (fun r12 h => ?_)
  refine r_istore (lv2 := [(10, .int r12), (0, .ref (a 5)), (2, .int v2), (3, .int v3), (5, .int v5), (6, .int v6)]) C0 dX5_wouldClash_165 rfl (Nat.le_of_ble_eq_true rfl) rfl ?_
  refine r_iload_n C0 dX5_wouldClash_167 rfl 2 rfl ?_
  refine r_aload_n C0 dX5_wouldClash_168 rfl 1 rfl ?_
  refine wcg_5_0 C0 tf_X5_9 dX5_wouldClash_169 ?_
  refine wcg_3_3 C0 tf_X5_35 dX5_wouldClash_172 ?_
  refine r_iload C0 dX5_wouldClash_175 4 rfl ?_
  refine r_iconst C0 dX5_wouldClash_177 ki_2 ?_
  refine callV2 C0 h (hD _ _ _) mw_X7_get (rv_t tb_13) tm_X5_21 (fun y hy => c_X7_get tb_13 hy) (Nat.le_of_ble_eq_true rfl) (Nat.le_of_ble_eq_true rfl) dX5_wouldClash_178 (fun r13 h => ?_)
  refine r_isub C0 dX5_wouldClash_181 ?_
  refine r_iload C0 dX5_wouldClash_182 0 rfl ?_
  refine r_icmp_ge C0 211 dX5_wouldClash_184 rfl h (fun _ h => ?_) (fun _ h => ?_)
  · exact r_sub [] rfl (w_X5_wouldClash_j211 C0 hD h hz)
  · refine r_iload C0 dX5_wouldClash_187 0 rfl ?_
    refine r_aload_n C0 dX5_wouldClash_189 rfl 1 rfl ?_
    refine wcg_5_0 C0 tf_X5_9 dX5_wouldClash_190 ?_
    refine wcg_3_3 C0 tf_X5_35 dX5_wouldClash_193 ?_
    refine r_iload C0 dX5_wouldClash_196 5 rfl ?_
    refine r_iconst C0 dX5_wouldClash_198 ki_2 ?_
    refine callV2 C0 h (hD _ _ _) mw_X7_get (rv_t tb_13) tm_X5_21 (fun y hy => c_X7_get tb_13 hy) (Nat.le_of_ble_eq_true rfl) (Nat.le_of_ble_eq_true rfl) dX5_wouldClash_199 (fun r14 h => ?_)
    refine r_isub C0 dX5_wouldClash_202 ?_
    refine r_iload_n C0 dX5_wouldClash_203 rfl 2 rfl ?_
    refine r_icmp_ge C0 211 dX5_wouldClash_204 rfl h (fun _ h => ?_) (fun _ h => ?_)
    · exact r_sub [] rfl (w_X5_wouldClash_j211 C0 hD h hz)
    · refine r_iconst C0 dX5_wouldClash_207 ki_1 ?_
      refine r_goto C0 212 dX5_wouldClash_208 rfl ?_
      cases h
      exact hz _ _ nz_1 dX5_wouldClash_212
theorem w_X5_wouldClash {z : Int32} {Γ : Gam} {cy : Nat → ClassId} {a : Nat → Nat} {V : VT} {J : JT} {K : Nat → Option Nat} {X : va_W} {v1 : Int32} {v2 : Int32} {v3 : Int32} {v4 : Int32}  (C0 : CXg Γ cX5_wouldClash 11 1 RX5 cy) (hD : DC Γ cy a X) (h : f_X5_wouldClash v1 v2 v3 v4 V = some z) (hz : (fun y : Int32 => FinZ Γ cX5_wouldClash (WC cy a V J K X) y) z) : Wp Γ 0 0 0 [(0, .ref (a 5)), (1, .int v1), (2, .int v2), (3, .int v3), (4, .int v4)] [] (WC cy a V J K X) := by
  unfold f_X5_wouldClash at h
  refine r_aload_n C0 dX5_wouldClash_0 rfl 0 rfl ?_
  refine wcg_5_0 C0 tf_X5_9 dX5_wouldClash_1 ?_
  refine wcg_3_1 C0 tf_X5_15 dX5_wouldClash_4 ?_
  refine r_iload_n C0 dX5_wouldClash_7 rfl 1 rfl ?_
  refine r_iload C0 dX5_wouldClash_8 4 rfl ?_
  refine callV2 C0 h (hD _ _ _) mw_X7_get (rv_t tb_11) tm_X5_21 (fun y hy => c_X7_get tb_11 hy) (Nat.le_of_ble_eq_true rfl) (Nat.le_of_ble_eq_true rfl) dX5_wouldClash_10 (fun r1 h => ?_)
  refine r_iconst C0 dX5_wouldClash_13 ki_2 ?_
  refine r_isub C0 dX5_wouldClash_14 ?_
  obtain ⟨a2, h8, h⟩ := op_bind h
  have e8 := Option.some.inj h8
  refine r_istore (lv2 := [(5, .int a2), (0, .ref (a 5)), (1, .int v1), (2, .int v2), (3, .int v3), (4, .int v4)]) C0 dX5_wouldClash_15 e8 (Nat.le_of_ble_eq_true rfl) rfl ?_
  refine r_aload_n C0 dX5_wouldClash_17 rfl 1 rfl ?_
  refine wcg_5_0 C0 tf_X5_9 dX5_wouldClash_18 ?_
  refine wcg_3_1 C0 tf_X5_15 dX5_wouldClash_21 ?_
  refine r_iload_n C0 dX5_wouldClash_24 rfl 4 rfl ?_
  refine r_iload C0 dX5_wouldClash_25 5 rfl ?_
  refine callV2 C0 h (hD _ _ _) mw_X7_get (rv_t tb_11) tm_X5_21 (fun y hy => c_X7_get tb_11 hy) (Nat.le_of_ble_eq_true rfl) (Nat.le_of_ble_eq_true rfl) dX5_wouldClash_27 (fun r3 h => ?_)
  refine r_iconst C0 dX5_wouldClash_30 ki_2 ?_
  refine r_isub C0 dX5_wouldClash_31 ?_
  obtain ⟨a4, h8, h⟩ := op_bind h
  have e8 := Option.some.inj h8
  refine r_istore (lv2 := [(6, .int a4), (5, .int a2), (0, .ref (a 5)), (1, .int v1), (2, .int v2), (3, .int v3), (4, .int v4)]) C0 dX5_wouldClash_32 e8 (Nat.le_of_ble_eq_true rfl) rfl ?_
  refine r_iload C0 dX5_wouldClash_34 1 rfl ?_
  refine r_if_lt C0 51 dX5_wouldClash_36 rfl h (fun _ h => ?_) (fun _ h => ?_)
  · refine r_iconst C0 dX5_wouldClash_51 ki_0 ?_
    cases h
    exact hz _ _ nz_0 dX5_wouldClash_52
  · refine r_iload C0 dX5_wouldClash_39 0 rfl ?_
    refine r_if_lt C0 51 dX5_wouldClash_41 rfl h (fun _ h => ?_) (fun _ h => ?_)
    · refine r_iconst C0 dX5_wouldClash_51 ki_0 ?_
      cases h
      exact hz _ _ nz_0 dX5_wouldClash_52
    · refine r_iload C0 dX5_wouldClash_44 1 rfl ?_
      refine r_iload C0 dX5_wouldClash_46 0 rfl ?_
      refine r_icmp_ne C0 53 dX5_wouldClash_48 rfl h (fun _ h => ?_) (fun _ h => ?_)
      · refine r_aload_n C0 dX5_wouldClash_53 rfl 2 rfl ?_
        refine wcg_5_0 C0 tf_X5_9 dX5_wouldClash_54 ?_
        refine wcg_3_0 C0 tf_X5_27 dX5_wouldClash_57 ?_
        refine r_iload_n C0 dX5_wouldClash_60 rfl 3 rfl ?_
        refine r_iload_n C0 dX5_wouldClash_61 rfl 5 rfl ?_
        refine r_mmin C0 dX5_wouldClash_62 tm_X5_30 (Nat.le_of_ble_eq_true rfl) (Nat.le_of_ble_eq_true rfl) ?_
        refine r_iconst C0 dX5_wouldClash_65 ki_1 ?_
        refine callV2 C0 h (hD _ _ _) mw_X7_get (rv_t tb_10) tm_X5_21 (fun y hy => c_X7_get tb_10 hy) (Nat.le_of_ble_eq_true rfl) (Nat.le_of_ble_eq_true rfl) dX5_wouldClash_66 (fun r5 h => ?_)
        refine r_istore (lv2 := [(7, .int r5), (6, .int a4), (5, .int a2), (0, .ref (a 5)), (1, .int v1), (2, .int v2), (3, .int v3), (4, .int v4)]) C0 dX5_wouldClash_69 rfl (Nat.le_of_ble_eq_true rfl) rfl ?_
        refine r_aload_n C0 dX5_wouldClash_71 rfl 3 rfl ?_
        refine wcg_5_0 C0 tf_X5_9 dX5_wouldClash_72 ?_
        refine wcg_3_3 C0 tf_X5_35 dX5_wouldClash_75 ?_
        refine r_iload C0 dX5_wouldClash_78 2 rfl ?_
        refine r_iconst C0 dX5_wouldClash_80 ki_1 ?_
        refine callV2 C0 h (hD _ _ _) mw_X7_get (rv_t tb_13) tm_X5_21 (fun y hy => c_X7_get tb_13 hy) (Nat.le_of_ble_eq_true rfl) (Nat.le_of_ble_eq_true rfl) dX5_wouldClash_81 (fun r6 h => ?_)
        refine r_aload_n C0 dX5_wouldClash_84 rfl 3 rfl ?_
        refine wcg_5_0 C0 tf_X5_9 dX5_wouldClash_85 ?_
        refine wcg_3_3 C0 tf_X5_35 dX5_wouldClash_88 ?_
        refine r_iload C0 dX5_wouldClash_91 1 rfl ?_
        refine r_iconst C0 dX5_wouldClash_93 ki_1 ?_
        refine callV2 C0 h (hD _ _ _) mw_X7_get (rv_t tb_13) tm_X5_21 (fun y hy => c_X7_get tb_13 hy) (Nat.le_of_ble_eq_true rfl) (Nat.le_of_ble_eq_true rfl) dX5_wouldClash_94 (fun r7 h => ?_)
        refine r_iadd C0 dX5_wouldClash_97 ?_
        obtain ⟨a8, h8, h⟩ := op_bind h
        have e8 := Option.some.inj h8
        refine r_istore (lv2 := [(8, .int a8), (7, .int r5), (6, .int a4), (5, .int a2), (0, .ref (a 5)), (1, .int v1), (2, .int v2), (3, .int v3), (4, .int v4)]) C0 dX5_wouldClash_98 e8 (Nat.le_of_ble_eq_true rfl) rfl ?_
        refine r_aload_n C0 dX5_wouldClash_100 rfl 4 rfl ?_
        refine wcg_5_0 C0 tf_X5_9 dX5_wouldClash_101 ?_
        refine wcg_3_3 C0 tf_X5_35 dX5_wouldClash_104 ?_
        refine r_iload C0 dX5_wouldClash_107 3 rfl ?_
        refine r_iconst C0 dX5_wouldClash_109 ki_0 ?_
        refine callV2 C0 h (hD _ _ _) mw_X7_get (rv_t tb_13) tm_X5_21 (fun y hy => c_X7_get tb_13 hy) (Nat.le_of_ble_eq_true rfl) (Nat.le_of_ble_eq_true rfl) dX5_wouldClash_110 (fun r9 h => ?_)
        refine r_aload_n C0 dX5_wouldClash_113 rfl 4 rfl ?_
        refine wcg_5_0 C0 tf_X5_9 dX5_wouldClash_114 ?_
        refine wcg_3_3 C0 tf_X5_35 dX5_wouldClash_117 ?_
        refine r_iload C0 dX5_wouldClash_120 2 rfl ?_
        refine r_iconst C0 dX5_wouldClash_122 ki_0 ?_
        refine callV2 C0 h (hD _ _ _) mw_X7_get (rv_t tb_13) tm_X5_21 (fun y hy => c_X7_get tb_13 hy) (Nat.le_of_ble_eq_true rfl) (Nat.le_of_ble_eq_true rfl) dX5_wouldClash_123 (fun r10 h => ?_)
        refine r_mmax C0 dX5_wouldClash_126 tm_X5_38 (Nat.le_of_ble_eq_true rfl) (Nat.le_of_ble_eq_true rfl) ?_
        obtain ⟨a11, h8, h⟩ := op_bind h
        have e8 := Option.some.inj h8
        refine r_istore (lv2 := [(9, .int a11), (8, .int a8), (7, .int r5), (6, .int a4), (5, .int a2), (0, .ref (a 5)), (1, .int v1), (2, .int v2), (3, .int v3), (4, .int v4)]) C0 dX5_wouldClash_129 e8 (Nat.le_of_ble_eq_true rfl) rfl ?_
        refine r_iload C0 dX5_wouldClash_131 1 rfl ?_
        refine r_iload C0 dX5_wouldClash_133 2 rfl ?_
        refine r_icmp_lt C0 151 dX5_wouldClash_135 rfl h (fun _ h => ?_) (fun _ h => ?_)
        · refine r_iconst C0 dX5_wouldClash_151 ki_0 ?_
          cases h
          exact hz _ _ nz_0 dX5_wouldClash_152
        · refine r_iload C0 dX5_wouldClash_138 1 rfl ?_
          refine r_iload C0 dX5_wouldClash_140 2 rfl ?_
          refine r_icmp_ne C0 153 dX5_wouldClash_142 rfl h (fun _ h => ?_) (fun _ h => ?_)
          · exact r_sub [5, 7, 8, 4, 3] rfl (w_X5_wouldClash_j153 C0 hD h hz)
          · refine r_iload C0 dX5_wouldClash_145 0 rfl ?_
            refine r_iconst C0 dX5_wouldClash_147 ki_3 ?_
            refine r_icmp_ge C0 153 dX5_wouldClash_148 rfl h (fun _ h => ?_) (fun _ h => ?_)
            · exact r_sub [5, 7, 8, 4, 3] rfl (w_X5_wouldClash_j153 C0 hD h hz)
            · refine r_iconst C0 dX5_wouldClash_151 ki_0 ?_
              cases h
              exact hz _ _ nz_0 dX5_wouldClash_152
      · refine r_iconst C0 dX5_wouldClash_51 ki_0 ?_
        cases h
        exact hz _ _ nz_0 dX5_wouldClash_52
theorem c_X5_wouldClash {l : Launch} {D : va_G} {cy : Nat → ClassId} {a : Nat → Nat} {V : VT} {J : JT} {K : Nat → Option Nat} {X : va_W} {v1 : Int32} {v2 : Int32} {v3 : Int32} {v4 : Int32} {y : Int32} (h : f_X5_wouldClash v1 v2 v3 v4 V = some y) : CT l D cy yX5_wouldClash cX5_wouldClash 11 (some .boolean) 1 [.ref (a 5), .int v1, .int v2, .int v3, .int v4] (WC cy a V J K X) (WC cy a V J K X) (some (.int y)) :=
  mkZ (by decide) (Nat.le_of_ble_eq_true rfl) (fun Γ _ _ C0 hD hF => w_X5_wouldClash C0 (dc_of hD) h hF)
