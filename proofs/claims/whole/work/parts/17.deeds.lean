theorem rx_mmin {Γ : Gam} {cc : ByteArray} {n d : Nat} {own : String} {cy : Nat → ClassId} {ce sl pc : Nat} {lv : List (Nat × Value)} {st : List Value} {w : va_W} (C0 : CXg Γ cc n d own cy) {x y : Int32} {index : Nat} (hdg : decode cc pc = .ok (.invokestatic index, 3)) (hlk : Cond.methodLink own index Lib.Math.min.name ∈ lw_T) (hd : 1 ≤ d) (hr : (st.map fun v => v.category).sum ≤ 8) (h1 : ce ≤ Γ.2.2.2.1.cells) (h2 : sl ≤ Γ.2.2.2.1.slots) (k : Wp Γ ce sl (pc + 3) lv (.int (if y < x then y else x) :: st) w) : Wp Γ ce sl pc lv (.int y :: .int x :: st) w := fun H locs ls hl hP hS => va_mmin C0.1.1 C0.1.2.1 (by rw [C0.1.2.2.1]; exact hl.1.symm) C0.1.2.2.2.1 (C0.1.2.2.2.2.1 _ hlk) (C0.1.2.2.2.2.1 _ tst_Mmin) (C0.1.2.2.2.2.1 _ tin_J9) (C0.1.2.2.2.2.1 _ tcode_Mmin) (Nat.le_trans hd C0.2.2.2.1) (by have := C0.2.2.2.2; omega) h1 h2 hdg (k H locs ls hl hP hS)
section KROWS
variable {Γ : Gam} {cc : ByteArray} {n d : Nat} {own : String} {cy : Nat → ClassId} {ce sl pc : Nat} {lv : List (Nat × Value)} {st : List Value} {a : Nat → Nat} {V : VT} {J : JT} {K : Nat → Option Nat} {X : va_W}
theorem wK_st (C0 : CXg Γ cc n d own cy) (hD : va_D Γ.2.2.2.2.2.2.2.2.2.2.2.2.1 (WC cy a V J K X)) {i : Int32} {slot q qk : Nat} {vs : List Value} (hck : ckA 60 i = some slot) (hv : (WC cy a V J K X)[qk]? = some (q, .inr (1, vs))) (hdg : decode cc pc = .ok (.aastore, 1)) (k : Wp Γ ce sl (pc + 1) lv st (WC cy a V J (va_up K slot (some q)) X)) : Wp Γ ce sl pc lv (.ref q :: .int i :: .ref (a 22) :: st) (WC cy a V J K X) := by
  obtain ⟨h2, rfl⟩ := ckA_spec hck
  exact fun H locs ls hl hP hS => va_astq (r := (RX1, TX1, 2)) C0.1.1 C0.1.2.1 C0.1.2.2.2.2.2 hP hD hS 22 3 qk 1 rfl rfl hv rfl h2 hdg (fun H1 locs1 hP1 _ hS1 => k H1 locs1 ls hl hP1 hS1)
theorem wK_nl (C0 : CXg Γ cc n d own cy) (hD : va_D Γ.2.2.2.2.2.2.2.2.2.2.2.2.1 (WC cy a V J K X)) {i : Int32} {slot : Nat} (hck : ckA 60 i = some slot) (hdg : decode cc pc = .ok (.aastore, 1)) (k : Wp Γ ce sl (pc + 1) lv st (WC cy a V J (va_up K slot none) X)) : Wp Γ ce sl pc lv (.null :: .int i :: .ref (a 22) :: st) (WC cy a V J K X) := by
  obtain ⟨h2, rfl⟩ := ckA_spec hck
  exact fun H locs ls hl hP hS => va_astqN (C := RX1) C0.1.1 C0.1.2.1 C0.1.2.2.2.2.2 hP hD hS 22 3 rfl rfl h2 hdg (fun H1 locs1 hP1 _ hS1 => k H1 locs1 ls hl hP1 hS1)
theorem wK_ld (C0 : CXg Γ cc n d own cy) {i : Int32} {slot q : Nat} (hck : ckA 60 i = some slot) (hq : K slot = some q) (hdg : decode cc pc = .ok (.aaload, 1)) (k : Wp Γ ce sl (pc + 1) lv (.ref q :: st) (WC cy a V J K X)) : Wp Γ ce sl pc lv (.int i :: .ref (a 22) :: st) (WC cy a V J K X) := by
  obtain ⟨h2, rfl⟩ := ckA_spec hck
  have e : va_rf (K i.toNatClampNeg) = .ref q := by rw [hq]; rfl
  exact fun H locs ls hl hP hS => va_aldq (C := RX1) C0.1.1 C0.1.2.1 C0.1.2.2.2.2.2 hP 22 3 rfl rfl h2 hdg (by rw [e]; exact k H locs ls hl hP hS)
end KROWS
theorem dJ7_copyOf_59c91_0 : decode cJ7_copyOf_59c91 0 = .ok (.iload_n 1, 1) := by decide +kernel
theorem dJ7_copyOf_59c91_1 : decode cJ7_copyOf_59c91 1 = .ok (.aload_n 0, 1) := by decide +kernel
theorem dJ7_copyOf_59c91_2 : decode cJ7_copyOf_59c91 2 = .ok (.arraylength, 1) := by decide +kernel
theorem dJ7_copyOf_59c91_3 : decode cJ7_copyOf_59c91 3 = .ok (.if_icmp .ne 11, 3) := by decide +kernel
theorem dJ7_copyOf_59c91_6 : decode cJ7_copyOf_59c91 6 = .ok (.aload_n 0, 1) := by decide +kernel
theorem dJ7_copyOf_59c91_7 : decode cJ7_copyOf_59c91 7 = .ok (.invokevirtual 316, 3) := by decide +kernel
theorem dJ7_copyOf_59c91_10 : decode cJ7_copyOf_59c91 10 = .ok (.checkcast 317, 3) := by decide +kernel
theorem dJ7_copyOf_59c91_13 : decode cJ7_copyOf_59c91 13 = .ok (.areturn, 1) := by decide +kernel
theorem dJ7_copyOf_59c91_14 : decode cJ7_copyOf_59c91 14 = .ok (.iload_n 1, 1) := by decide +kernel
theorem dJ7_copyOf_59c91_15 : decode cJ7_copyOf_59c91 15 = .ok (.newarray .int, 2) := by decide +kernel
theorem dJ7_copyOf_59c91_17 : decode cJ7_copyOf_59c91 17 = .ok (.astore_n 2, 1) := by decide +kernel
theorem dJ7_copyOf_59c91_18 : decode cJ7_copyOf_59c91 18 = .ok (.aload_n 0, 1) := by decide +kernel
theorem dJ7_copyOf_59c91_19 : decode cJ7_copyOf_59c91 19 = .ok (.iconst 0, 1) := by decide +kernel
theorem dJ7_copyOf_59c91_20 : decode cJ7_copyOf_59c91 20 = .ok (.aload_n 2, 1) := by decide +kernel
theorem dJ7_copyOf_59c91_21 : decode cJ7_copyOf_59c91 21 = .ok (.iconst 0, 1) := by decide +kernel
theorem dJ7_copyOf_59c91_22 : decode cJ7_copyOf_59c91 22 = .ok (.aload_n 0, 1) := by decide +kernel
theorem dJ7_copyOf_59c91_23 : decode cJ7_copyOf_59c91 23 = .ok (.arraylength, 1) := by decide +kernel
theorem dJ7_copyOf_59c91_24 : decode cJ7_copyOf_59c91 24 = .ok (.iload_n 1, 1) := by decide +kernel
theorem dJ7_copyOf_59c91_25 : decode cJ7_copyOf_59c91 25 = .ok (.invokestatic 304, 3) := by decide +kernel
theorem dJ7_copyOf_59c91_28 : decode cJ7_copyOf_59c91 28 = .ok (.invokestatic 150, 3) := by decide +kernel
theorem dJ7_copyOf_59c91_31 : decode cJ7_copyOf_59c91 31 = .ok (.aload_n 2, 1) := by decide +kernel
theorem dJ7_copyOf_59c91_32 : decode cJ7_copyOf_59c91 32 = .ok (.areturn, 1) := by decide +kernel
theorem dX1_init_0 : decode cX1_init 0 = .ok (.aload_n 0, 1) := by decide +kernel
theorem dX1_init_1 : decode cX1_init 1 = .ok (.invokespecial 1, 3) := by decide +kernel
theorem dX1_init_4 : decode cX1_init 4 = .ok (.iconst 0, 1) := by decide +kernel
theorem dX1_init_5 : decode cX1_init 5 = .ok (.iload_n 3, 1) := by decide +kernel
theorem dX1_init_6 : decode cX1_init 6 = .ok (.aload_n 1, 1) := by decide +kernel
theorem dX1_init_7 : decode cX1_init 7 = .ok (.arraylength, 1) := by decide +kernel
theorem dX1_init_8 : decode cX1_init 8 = .ok (.aload_n 2, 1) := by decide +kernel
theorem dX1_init_9 : decode cX1_init 9 = .ok (.arraylength, 1) := by decide +kernel
theorem dX1_init_10 : decode cX1_init 10 = .ok (.invokestatic 7, 3) := by decide +kernel
theorem dX1_init_13 : decode cX1_init 13 = .ok (.invokestatic 7, 3) := by decide +kernel
theorem dX1_init_16 : decode cX1_init 16 = .ok (.invokestatic 13, 3) := by decide +kernel
theorem dX1_init_19 : decode cX1_init 19 = .ok (.istore 4, 2) := by decide +kernel
theorem dX1_init_21 : decode cX1_init 21 = .ok (.aload_n 0, 1) := by decide +kernel
theorem dX1_init_22 : decode cX1_init 22 = .ok (.aload_n 1, 1) := by decide +kernel
theorem dX1_init_23 : decode cX1_init 23 = .ok (.iload 4, 2) := by decide +kernel
theorem dX1_init_25 : decode cX1_init 25 = .ok (.invokestatic 16, 3) := by decide +kernel
theorem dX1_init_28 : decode cX1_init 28 = .ok (.putfield 22, 3) := by decide +kernel
theorem dX1_init_31 : decode cX1_init 31 = .ok (.aload_n 0, 1) := by decide +kernel
theorem dX1_init_32 : decode cX1_init 32 = .ok (.aload_n 2, 1) := by decide +kernel
theorem dX1_init_33 : decode cX1_init 33 = .ok (.iload 4, 2) := by decide +kernel
theorem dX1_init_35 : decode cX1_init 35 = .ok (.invokestatic 16, 3) := by decide +kernel
theorem dX1_init_38 : decode cX1_init 38 = .ok (.putfield 28, 3) := by decide +kernel
theorem dX1_init_41 : decode cX1_init 41 = .ok (.return_, 1) := by decide +kernel
theorem dX4_keepAct_0 : decode cX4_keepAct 0 = .ok (.aload_n 0, 1) := by decide +kernel
theorem dX4_keepAct_1 : decode cX4_keepAct 1 = .ok (.getfield 26, 3) := by decide +kernel
theorem dX4_keepAct_4 : decode cX4_keepAct 4 = .ok (.aload_n 0, 1) := by decide +kernel
theorem dX4_keepAct_5 : decode cX4_keepAct 5 = .ok (.getfield 40, 3) := by decide +kernel
theorem dX4_keepAct_8 : decode cX4_keepAct 8 = .ok (.aload_n 0, 1) := by decide +kernel
theorem dX4_keepAct_9 : decode cX4_keepAct 9 = .ok (.getfield 43, 3) := by decide +kernel
theorem dX4_keepAct_12 : decode cX4_keepAct 12 = .ok (.iadd, 1) := by decide +kernel
theorem dX4_keepAct_13 : decode cX4_keepAct 13 = .ok (.bipush 60, 2) := by decide +kernel
theorem dX4_keepAct_15 : decode cX4_keepAct 15 = .ok (.irem, 1) := by decide +kernel
theorem dX4_keepAct_16 : decode cX4_keepAct 16 = .ok (.new 24, 3) := by decide +kernel
theorem dX4_keepAct_19 : decode cX4_keepAct 19 = .ok (.dup, 1) := by decide +kernel
theorem dX4_keepAct_20 : decode cX4_keepAct 20 = .ok (.aload_n 0, 1) := by decide +kernel
theorem dX4_keepAct_21 : decode cX4_keepAct 21 = .ok (.getfield 18, 3) := by decide +kernel
theorem dX4_keepAct_24 : decode cX4_keepAct 24 = .ok (.aload_n 0, 1) := by decide +kernel
theorem dX4_keepAct_25 : decode cX4_keepAct 25 = .ok (.getfield 21, 3) := by decide +kernel
theorem dX4_keepAct_28 : decode cX4_keepAct 28 = .ok (.aload_n 0, 1) := by decide +kernel
theorem dX4_keepAct_29 : decode cX4_keepAct 29 = .ok (.getfield 37, 3) := by decide +kernel
theorem dX4_keepAct_32 : decode cX4_keepAct 32 = .ok (.invokespecial 58, 3) := by decide +kernel
theorem dX4_keepAct_35 : decode cX4_keepAct 35 = .ok (.aastore, 1) := by decide +kernel
theorem dX4_keepAct_36 : decode cX4_keepAct 36 = .ok (.aload_n 0, 1) := by decide +kernel
theorem dX4_keepAct_37 : decode cX4_keepAct 37 = .ok (.getfield 43, 3) := by decide +kernel
theorem dX4_keepAct_40 : decode cX4_keepAct 40 = .ok (.bipush 60, 2) := by decide +kernel
theorem dX4_keepAct_42 : decode cX4_keepAct 42 = .ok (.if_icmp .ge 16, 3) := by decide +kernel
theorem dX4_keepAct_45 : decode cX4_keepAct 45 = .ok (.aload_n 0, 1) := by decide +kernel
theorem dX4_keepAct_46 : decode cX4_keepAct 46 = .ok (.dup, 1) := by decide +kernel
theorem dX4_keepAct_47 : decode cX4_keepAct 47 = .ok (.getfield 43, 3) := by decide +kernel
theorem dX4_keepAct_50 : decode cX4_keepAct 50 = .ok (.iconst 1, 1) := by decide +kernel
theorem dX4_keepAct_51 : decode cX4_keepAct 51 = .ok (.iadd, 1) := by decide +kernel
theorem dX4_keepAct_52 : decode cX4_keepAct 52 = .ok (.putfield 43, 3) := by decide +kernel
theorem dX4_keepAct_55 : decode cX4_keepAct 55 = .ok (.goto 16, 3) := by decide +kernel
theorem dX4_keepAct_58 : decode cX4_keepAct 58 = .ok (.aload_n 0, 1) := by decide +kernel
theorem dX4_keepAct_59 : decode cX4_keepAct 59 = .ok (.aload_n 0, 1) := by decide +kernel
theorem dX4_keepAct_60 : decode cX4_keepAct 60 = .ok (.getfield 40, 3) := by decide +kernel
theorem dX4_keepAct_63 : decode cX4_keepAct 63 = .ok (.iconst 1, 1) := by decide +kernel
theorem dX4_keepAct_64 : decode cX4_keepAct 64 = .ok (.iadd, 1) := by decide +kernel
theorem dX4_keepAct_65 : decode cX4_keepAct 65 = .ok (.bipush 60, 2) := by decide +kernel
theorem dX4_keepAct_67 : decode cX4_keepAct 67 = .ok (.irem, 1) := by decide +kernel
theorem dX4_keepAct_68 : decode cX4_keepAct 68 = .ok (.putfield 40, 3) := by decide +kernel
theorem dX4_keepAct_71 : decode cX4_keepAct 71 = .ok (.return_, 1) := by decide +kernel
theorem ms_J7_copyOf_59c91 : MS yJ7_copyOf_59c91 cJ7_copyOf_59c91 3 (some (.array .int)) 2 := ⟨tcode_J7_copyOf_59c91, tst_J7_copyOf_59c91, tin_J7, by decide +kernel, by decide⟩
theorem mi_X1_init : MI yX1_init cX1_init 5 3 := ⟨tcode_X1_init, tim_X1_init, tin_X1, rfl, by decide +kernel, by decide⟩
theorem mw_X4_keepAct : MW yX4_keepAct cX4_keepAct 1 none RX4 0 := ⟨tcode_X4_keepAct, tim_X4_keepAct, tsel_X4_keepAct, tin_X4, rfl, by decide +kernel, by decide⟩
theorem get_app {w l : va_W} {i : Nat} {e : Nat × va_E} (h : w[i]? = some e) : (w ++ l)[i]? = some e := by
  rw [List.getElem?_append_left (List.getElem?_eq_some_iff.mp h).1]; exact h
theorem get_last {w : va_W} {e : Nat × va_E} : (w ++ [e])[w.length]? = some e := by simp
theorem set_last {w : va_W} {e e2 : Nat × va_E} : (w ++ [e]).set w.length e2 = w ++ [e2] := by simp
theorem set_last2 {w l : va_W} {e e2 : Nat × va_E} : (w ++ (e :: l)).set w.length e2 = w ++ (e2 :: l) := by simp
theorem get_last2 {w l : va_W} {e : Nat × va_E} : (w ++ (e :: l))[w.length]? = some e := by simp
theorem ckA_lt {N n : Nat} {x : Int32} (h : ckA N x = some n) : ¬ x < 0 ∧ x.toNatClampNeg = n ∧ n < N := by
  obtain ⟨h1, h2⟩ := ckA_spec h
  subst h2
  exact ⟨fun q => h1 (Or.inl q), rfl, Nat.not_le.mp fun q => h1 (Or.inr q)⟩
theorem i32_nn {x : Int32} (h : ¬ x < 0) : x.toInt = (x.toNatClampNeg : Int) := by
  have h1 : ¬ x.toInt < 0 := fun q => h (Int32.lt_iff_toInt_lt.mpr q)
  show x.toInt = (x.toInt.toNat : Int)
  omega
theorem ck_lt1874 {n : Nat} {x : Int32} (h : ckA 1874 x = some n) : x < 1874 ∧ ¬ x = 1874 := by
  obtain ⟨h0, h1, h2⟩ := ckA_lt h
  have h3 := i32_nn h0
  have h4 : (1874 : Int32).toInt = 1874 := by decide
  refine ⟨Int32.lt_iff_toInt_lt.mpr (by rw [h4]; omega), fun q => ?_⟩
  rw [q, h4] at h3
  rw [q] at h1
  omega
theorem deed_n {n : Nat} {x : Int32} (h : ckA 1874 x = some n) : (if (0 : Int32) < (if (if (1874 : Int32) < 1874 then (1874 : Int32) else 1874) < x then (if (1874 : Int32) < 1874 then (1874 : Int32) else 1874) else x) then (if (if (1874 : Int32) < 1874 then (1874 : Int32) else 1874) < x then (if (1874 : Int32) < 1874 then (1874 : Int32) else 1874) else x) else 0) = x := by
  obtain ⟨h0, h1, h2⟩ := ckA_lt h
  have h3 := i32_nn h0
  have h4 : (1874 : Int32).toInt = 1874 := by decide
  have e : (if (1874 : Int32) < 1874 then (1874 : Int32) else 1874) = 1874 := by decide
  rw [e]
  have h5 : ¬ (1874 : Int32) < x := fun q => by
    have := Int32.lt_iff_toInt_lt.mp q
    omega
  rw [if_neg h5]
  by_cases hp : (0 : Int32) < x
  · rw [if_pos hp]
  · rw [if_neg hp]
    apply Int32.toInt_inj.mp
    have h6 : ¬ (0 : Int32).toInt < x.toInt := fun q => hp (Int32.lt_iff_toInt_lt.mpr q)
    have h7 : (0 : Int32).toInt = 0 := by decide
    omega
/-- Arrays.copyOf of an int row to a shorter one -/
theorem c_copyOf {l : Launch} {D : va_G} {cy : Nat → ClassId} {w : va_W} {i src n : Nat} {f : Nat → Int32} {x : Int32} (hs : w[i]? = some (src, .inl (cy 0, 1874, .inl f))) (hx : ckA 1874 x = some n) : CTA EN l D cy yJ7_copyOf_59c91 cJ7_copyOf_59c91 3 (some (.array .int)) 1 1 1874 [.ref src, .int x] w (fun w2 r => ∃ c : Nat, r = some (.ref c) ∧ w2 = w ++ [(c, .inl (cy 0, n, .inl (va_cpy f (fun _ => 0) 0 0 n)))]) := by
  refine mkAR (by decide) (Nat.le_of_ble_eq_true rfl) (Or.inr ⟨_, rfl⟩) (fun Γ C0 _ hrc hrs _ hD hF => ?_)
  obtain ⟨h0, h1, h2⟩ := ckA_lt hx
  obtain ⟨hlt, hne⟩ := ck_lt1874 hx
  refine r_iload_n (x := x) C0 dJ7_copyOf_59c91_0 rfl 1 rfl ?_
  refine r_aload_n (x := src) C0 dJ7_copyOf_59c91_1 rfl 0 rfl ?_
  refine r_alen (t := 0) (v := 1874) C0 hs rfl (show Int32.ofNat 1874 = 1874 by decide) dJ7_copyOf_59c91_2 ?_
  refine r_icmp_ne (T := Unit) (z := ()) (E1 := none) (E2 := some ()) C0 14 dJ7_copyOf_59c91_3 rfl (by rw [if_neg hne]) (fun _ _ => ?_) (fun _ h => by cases h)
  refine r_iload_n (x := x) C0 dJ7_copyOf_59c91_14 rfl 1 rfl ?_
  refine r_newaI C0 hD h0 h1 (by omega) (by rw [hrc]; exact Nat.le_refl 1) (by rw [hrs]; omega) dJ7_copyOf_59c91_15 (fun q hD => ?_)
  refine r_astore_n (lv2 := [(2, .ref q), (0, .ref src), (1, .int x)]) C0 dJ7_copyOf_59c91_17 rfl (Nat.le_of_ble_eq_true rfl) rfl ?_
  refine r_aload_n (x := src) C0 dJ7_copyOf_59c91_18 rfl 1 rfl ?_
  refine r_iconst C0 dJ7_copyOf_59c91_19 ki_0 ?_
  refine r_aload_n (x := q) C0 dJ7_copyOf_59c91_20 rfl 0 rfl ?_
  refine r_iconst C0 dJ7_copyOf_59c91_21 ki_0 ?_
  refine r_aload_n (x := src) C0 dJ7_copyOf_59c91_22 rfl 1 rfl ?_
  refine r_alen (t := 0) (v := 1874) C0 (get_app hs) rfl (show Int32.ofNat 1874 = 1874 by decide) dJ7_copyOf_59c91_23 ?_
  refine r_iload_n (x := x) C0 dJ7_copyOf_59c91_24 rfl 2 rfl ?_
  refine rx_mmin C0 dJ7_copyOf_59c91_25 tm_J7_304 (Nat.le_of_ble_eq_true rfl) (Nat.le_of_ble_eq_true rfl) (by rw [hrc]; exact Nat.le_refl 1) (by rw [hrs]; omega) ?_
  rw [if_pos hlt]
  refine r_copy C0 tm_J7_150 hD (get_app hs) get_last h0 (by omega) (by omega) (Nat.le_of_ble_eq_true rfl) (Nat.le_of_ble_eq_true rfl) dJ7_copyOf_59c91_28 (fun hD => ?_)
  rw [set_last, h1] at hD ⊢
  refine r_aload_n (x := q) C0 dJ7_copyOf_59c91_31 rfl 0 rfl ?_
  exact hF (Nat.le_refl 1) (by omega) ⟨q, rfl, rfl⟩ hD dJ7_copyOf_59c91_32
/-- new Deed: two rows -/
theorem c_X1_init {l : Launch} {D : va_G} {cy : Nat → ClassId} {a : Nat → Nat} {V : VT} {J : JT} {K : Nat → Option Nat} {X : va_W} {q n : Nat} {x : Int32} (hx : ckA 1874 x = some n) : CTA EN l D cy yX1_init cX1_init 5 none 2 2 3748 [.ref q, .ref (a 20), .ref (a 21), .int x] (WC cy a V J K X ++ [(q, .inr (1, [.null, .null]))]) (fun w2 r => ∃ c v : Nat, r = none ∧ w2 = WC cy a V J K X ++ [(q, .inr (1, [.ref c, .ref v])), (c, .inl (cy 0, n, .inl (va_cpy (V 2) (fun _ => 0) 0 0 n))), (v, .inl (cy 0, n, .inl (va_cpy (V 3) (fun _ => 0) 0 0 n)))]) := by
  refine mkAV (by decide) (Nat.le_of_ble_eq_true rfl) (fun Γ C0 _ hrc hrs hin hD hF => ?_)
  have hin : Γ.2.2.2.2.2.2.2.2.1.name = "<init>" := hin
  have e1 : 31 + X.length = (WC cy a V J K X).length := by simp [WC]; omega
  refine r_aload_n (x := q) C0 dX1_init_0 rfl 0 rfl ?_
  refine r_objinit C0 tm_X1_1 (Nat.le_of_ble_eq_true rfl) (Nat.le_of_ble_eq_true rfl) dX1_init_1 ?_
  refine r_iconst C0 dX1_init_4 ki_0 ?_
  refine r_iload_n (x := x) C0 dX1_init_5 rfl 3 rfl ?_
  refine r_aload_n (x := a 20) C0 dX1_init_6 rfl 1 rfl ?_
  refine r_alen (i := 20) (t := 0) (v := 1874) (x := (1874, .inl (V 2))) (cA := cy 0) C0 rfl rfl (show Int32.ofNat 1874 = 1874 by decide) dX1_init_7 ?_
  refine r_aload_n (x := a 21) C0 dX1_init_8 rfl 2 rfl ?_
  refine r_alen (i := 21) (t := 0) (v := 1874) (x := (1874, .inl (V 3))) (cA := cy 0) C0 rfl rfl (show Int32.ofNat 1874 = 1874 by decide) dX1_init_9 ?_
  refine r_mmin C0 dX1_init_10 tm_X1_7 (Nat.le_of_ble_eq_true rfl) (Nat.le_of_ble_eq_true rfl) ?_
  refine r_mmin C0 dX1_init_13 tm_X1_7 (Nat.le_of_ble_eq_true rfl) (Nat.le_of_ble_eq_true rfl) ?_
  refine r_mmax C0 dX1_init_16 tm_X1_13 (Nat.le_of_ble_eq_true rfl) (Nat.le_of_ble_eq_true rfl) ?_
  refine r_istore (v := x) (lv2 := [(4, .int x), (0, .ref q), (1, .ref (a 20)), (2, .ref (a 21)), (3, .int x)]) C0 dX1_init_19 (deed_n hx) (Nat.le_of_ble_eq_true rfl) rfl ?_
  refine r_aload_n (x := q) C0 dX1_init_21 rfl 1 rfl ?_
  refine r_aload_n (x := a 20) C0 dX1_init_22 rfl 2 rfl ?_
  refine r_iload (x := x) C0 dX1_init_23 0 rfl ?_
  refine callAS (As := [.ref (a 20), .int x]) (rest := [.ref q]) C0 en_ok trivial hD ms_J7_copyOf_59c91 tm_X1_16 (c_copyOf (i := 20) (src := a 20) (f := V 2) rfl hx) rfl (Nat.le_of_ble_eq_true rfl) (Nat.le_of_ble_eq_true rfl) (by rw [hrc, hrs]; exact ⟨Nat.le_of_ble_eq_true rfl, Nat.le_of_ble_eq_true rfl⟩) dX1_init_25 (fun w2 r hΦ hD => ?_)
  obtain ⟨c, rfl, rfl⟩ := hΦ
  refine r_putF (v := .ref c) (ty := .array .int) (C := RX1) (T := TX1) (N := 2) (ci := 1) (i := 31 + X.length) (fs := [.null, .null]) C0 iX1 tyX1 tyX1_ok nmX1 hD (by rw [e1, List.append_assoc]; exact get_last2) rfl 0 (by decide) tf_X1_22 rfl hin rfl rfl rfl rfl (by decide) dX1_init_28 (fun hD => ?_)
  rw [e1, List.append_assoc, List.singleton_append, set_last2] at hD ⊢
  have hD : va_D Γ.2.2.2.2.2.2.2.2.2.2.2.2.1 (WC cy a V J K X ++ [(q, .inr (1, [.ref c, .null])), (c, .inl (cy 0, n, .inl (va_cpy (V 2) (fun _ => 0) 0 0 n)))]) := hD
  show Wp Γ (0 + 1) (0 + 1874) 31 _ [] (WC cy a V J K X ++ [(q, .inr (1, [.ref c, .null])), (c, .inl (cy 0, n, .inl (va_cpy (V 2) (fun _ => 0) 0 0 n)))])
  refine r_aload_n (x := q) C0 dX1_init_31 rfl 1 rfl ?_
  refine r_aload_n (x := a 21) C0 dX1_init_32 rfl 3 rfl ?_
  refine r_iload (x := x) C0 dX1_init_33 0 rfl ?_
  refine callAS (As := [.ref (a 21), .int x]) (rest := [.ref q]) C0 en_ok trivial hD ms_J7_copyOf_59c91 tm_X1_16 (c_copyOf (i := 21) (src := a 21) (f := V 3) rfl hx) rfl (Nat.le_of_ble_eq_true rfl) (Nat.le_of_ble_eq_true rfl) (by rw [hrc, hrs]; exact ⟨Nat.le_of_ble_eq_true rfl, Nat.le_of_ble_eq_true rfl⟩) dX1_init_35 (fun w2 r hΦ hD => ?_)
  obtain ⟨v, rfl, rfl⟩ := hΦ
  refine r_putF (v := .ref v) (ty := .array .int) (C := RX1) (T := TX1) (N := 2) (ci := 1) (i := 31 + X.length) (fs := [.ref c, .null]) C0 iX1 tyX1 tyX1_ok nmX1 hD (by rw [e1, List.append_assoc]; exact get_last2) rfl 1 (by decide) tf_X1_28 rfl hin rfl rfl rfl rfl (Nat.le_of_ble_eq_true rfl) dX1_init_38 (fun hD => ?_)
  rw [e1, List.append_assoc, List.cons_append, set_last2] at hD ⊢
  exact hF (Nat.le_refl 2) (Nat.le_refl 3748) ⟨c, v, rfl, rfl⟩ hD dX1_init_41

/-- what keepAct() does to the numbers; which slot; how many notes -/
def f_X4_keepAct (V : VT) : Option (VT × Nat × Nat) :=
  (ckA 60 ((V 11 3 + V 11 4) - (V 11 3 + V 11 4) / 60 * 60)).bind fun slot =>
  (ckA 1874 (V 11 2)).bind fun n =>
  if 60 ≤ V 11 4 then some (u2 V 11 3 ((V 11 3 + 1) - (V 11 3 + 1) / 60 * 60), slot, n) else some (u2 V 11 4 (V 11 4 + 1), slot, n)
/-- the cells of a deed -/
def DE (cy : Nat → ClassId) (q c v n : Nat) (f g : Nat → Int32) : va_W := [(q, .inr (1, [.ref c, .ref v])), (c, .inl (cy 0, n, .inl f)), (v, .inl (cy 0, n, .inl g))]
set_option maxRecDepth 10000 in
theorem c_X4_keepAct {l : Launch} {D : va_G} {cy : Nat → ClassId} {a : Nat → Nat} {V : VT} {J : JT} {K : Nat → Option Nat} {X : va_W} {y : VT × Nat × Nat} (h : f_X4_keepAct V = some y) : CTA EN l D cy yX4_keepAct cX4_keepAct 1 none 3 3 3750 [.ref (a 1)] (WC cy a V J K X) (fun w2 r => r = none ∧ ∃ q c v : Nat, w2 = WC cy a y.1 J (va_up K y.2.1 (some q)) (X ++ DE cy q c v y.2.2 (va_cpy (V 2) (fun _ => 0) 0 0 y.2.2) (va_cpy (V 3) (fun _ => 0) 0 0 y.2.2))) := by
  refine mkAV (by decide) (Nat.le_of_ble_eq_true rfl) (fun Γ C0 _ hrc hrs hin hD hF => ?_)
  obtain ⟨slot, hslot, h⟩ := op_bind h
  obtain ⟨n, hn, h⟩ := op_bind h
  refine r_aload_n (x := a 1) C0 dX4_keepAct_0 rfl 0 rfl ?_
  refine wcg_1_4 C0 tf_X4_26 dX4_keepAct_1 ?_
  refine r_aload_n (x := a 1) C0 dX4_keepAct_4 rfl 0 rfl ?_
  refine wcg_1_8 C0 tf_X4_40 dX4_keepAct_5 ?_
  refine r_aload_n (x := a 1) C0 dX4_keepAct_8 rfl 0 rfl ?_
  refine wcg_1_9 C0 tf_X4_43 dX4_keepAct_9 ?_
  refine r_iadd C0 dX4_keepAct_12 ?_
  refine r_bipush C0 dX4_keepAct_13 kb_60 ?_
  refine r_irem (g := fun _ => some ()) (z := ()) C0 dX4_keepAct_15 rfl (fun _ _ => ?_)
  refine r_new (C := RX1) (T := TX1) (N := 2) (ci := 1) (fs := [.null, .null]) C0 iX1 tyX1 tyX1_ok tcl_X4_24 tinst_X1 tin_X1 hD rfl (fun j hj => by rcases (show j = 0 ∨ j = 1 by omega) with rfl | rfl <;> rfl) (by rw [hrc]; decide) (by rw [hrs]; exact Nat.le_of_ble_eq_true rfl) dX4_keepAct_16 (fun q hD => ?_)
  have hD : va_D Γ.2.2.2.2.2.2.2.2.2.2.2.2.1 (WC cy a V J K (X ++ [(q, .inr (1, [.null, .null]))])) := hD
  show Wp Γ (0 + 1) (0 + 2) 19 _ _ (WC cy a V J K (X ++ [(q, .inr (1, [.null, .null]))]))
  refine r_dup C0 dX4_keepAct_19 rfl ?_
  refine r_aload_n (x := a 1) C0 dX4_keepAct_20 rfl 0 rfl ?_
  refine wcg_1_2 C0 tf_X4_18 dX4_keepAct_21 ?_
  refine r_aload_n (x := a 1) C0 dX4_keepAct_24 rfl 0 rfl ?_
  refine wcg_1_3 C0 tf_X4_21 dX4_keepAct_25 ?_
  refine r_aload_n (x := a 1) C0 dX4_keepAct_28 rfl 0 rfl ?_
  refine wcg_1_7 C0 tf_X4_37 dX4_keepAct_29 ?_
  refine callAI (ce := 0 + 1) (sl := 0 + 2) (As := [.ref (a 20), .ref (a 21), .int (V 11 2)]) (b := q) (rest := [.ref q, .int ((V 11 3 + V 11 4) - (V 11 3 + V 11 4) / 60 * 60), .ref (a 22)]) (w := WC cy a V J K (X ++ [(q, .inr (1, [.null, .null]))])) C0 en_ok trivial hD mi_X1_init tm_X4_58 (c_X1_init (V := V) (J := J) (K := K) (X := X) hn) rfl (Nat.le_of_ble_eq_true rfl) (Nat.le_of_ble_eq_true rfl) (by rw [hrc, hrs]; exact ⟨Nat.le_of_ble_eq_true rfl, Nat.le_of_ble_eq_true rfl⟩) dX4_keepAct_32 (fun w2 r hΦ hD => ?_)
  obtain ⟨c, v, rfl, rfl⟩ := hΦ
  have hD : va_D Γ.2.2.2.2.2.2.2.2.2.2.2.2.1 (WC cy a V J K (X ++ DE cy q c v n (va_cpy (V 2) (fun _ => 0) 0 0 n) (va_cpy (V 3) (fun _ => 0) 0 0 n))) := hD
  have hDC : DC Γ cy a (X ++ DE cy q c v n (va_cpy (V 2) (fun _ => 0) 0 0 n) (va_cpy (V 3) (fun _ => 0) 0 0 n)) := dc_of hD
  have e1 : 31 + X.length = (WC cy a V J K X).length := by simp [WC]; omega
  have hgq : (WC cy a V J K (X ++ DE cy q c v n (va_cpy (V 2) (fun _ => 0) 0 0 n) (va_cpy (V 3) (fun _ => 0) 0 0 n)))[31 + X.length]? = some (q, .inr (1, [.ref c, .ref v])) := by
    rw [e1]
    exact get_last2 (w := WC cy a V J K X)
  show Wp Γ (0 + 1 + 2) (0 + 2 + 3748) 35 _ [.ref q, .int ((V 11 3 + V 11 4) - (V 11 3 + V 11 4) / 60 * 60), .ref (a 22)] (WC cy a V J K (X ++ DE cy q c v n (va_cpy (V 2) (fun _ => 0) 0 0 n) (va_cpy (V 3) (fun _ => 0) 0 0 n)))
  refine wK_st C0 hD hslot hgq dX4_keepAct_35 ?_
  refine r_aload_n (x := a 1) C0 dX4_keepAct_36 rfl 0 rfl ?_
  refine wcg_1_9 C0 tf_X4_43 dX4_keepAct_37 ?_
  refine r_bipush C0 dX4_keepAct_40 kb_60 ?_
  refine r_icmp_ge C0 58 dX4_keepAct_42 rfl h (fun _ h => ?_) (fun _ h => ?_)
  · cases h
    refine r_aload_n (x := a 1) C0 dX4_keepAct_58 rfl 0 rfl ?_
    refine r_aload_n (x := a 1) C0 dX4_keepAct_59 rfl 0 rfl ?_
    refine wcg_1_8 C0 tf_X4_40 dX4_keepAct_60 ?_
    refine r_iconst C0 dX4_keepAct_63 ki_1 ?_
    refine r_iadd C0 dX4_keepAct_64 ?_
    refine r_bipush C0 dX4_keepAct_65 kb_60 ?_
    refine r_irem (g := fun _ => some ()) (z := ()) C0 dX4_keepAct_67 rfl (fun _ _ => ?_)
    refine wcp_1_8 C0 hDC tf_X4_40 dX4_keepAct_68 ?_
    exact hF (Nat.le_refl 3) (Nat.le_refl 3750) ⟨rfl, q, c, v, rfl⟩ (hDC _ _ _) dX4_keepAct_71
  · cases h
    refine r_aload_n (x := a 1) C0 dX4_keepAct_45 rfl 0 rfl ?_
    refine r_dup C0 dX4_keepAct_46 rfl ?_
    refine wcg_1_9 C0 tf_X4_43 dX4_keepAct_47 ?_
    refine r_iconst C0 dX4_keepAct_50 ki_1 ?_
    refine r_iadd C0 dX4_keepAct_51 ?_
    refine wcp_1_9 C0 hDC tf_X4_43 dX4_keepAct_52 ?_
    refine r_goto C0 71 dX4_keepAct_55 rfl ?_
    exact hF (Nat.le_refl 3) (Nat.le_refl 3750) ⟨rfl, q, c, v, rfl⟩ (hDC _ _ _) dX4_keepAct_71

