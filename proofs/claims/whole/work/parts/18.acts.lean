section CALLVX
variable {Γ : Gam} {cc : ByteArray} {n d : Nat} {own : String} {cy : Nat → ClassId} {pc ce sl : Nat} {lv : List (Nat × Value)} {rest : List Value} {w : va_W} {T F1 : Type} {z : T} {F : Option F1} {g : F1 → Option T} {w2 : F1 → va_W} {y : MethodName} {cb : ByteArray} {mL d2 index : Nat} {ret : Option FieldType} {C : String} {b : Nat}
theorem callVx1 {q0 : Value} {rr : F1 → Value} (C0 : CXg Γ cc n d own cy) (h : F.bind g = some z) (hD : va_D Γ.2.2.2.2.2.2.2.2.2.2.2.2.1 w) (hm : MW y cb mL ret C 1) (hrv : RV w b C) (hlk : Cond.methodLink own index y ∈ lw_T) (hc : ∀ q : F1, F = some q → CT Γ.2.1 Γ.2.2.2.2.2.2.2.2.2.2.2.1 cy y cb mL ret d2 [.ref b, q0] w (w2 q) (some (rr q))) (hd : d2 + 1 ≤ d) (hce : ce ≤ Γ.2.2.2.1.cells ∧ sl ≤ Γ.2.2.2.1.slots) (hst : (rest.map fun v => v.category).sum ≤ 8) (hdg : decode cc pc = .ok (.invokevirtual index, 3)) (k : ∀ q : F1, g q = some z → Wp Γ ce sl (pc + 3) lv (rr q :: rest) (w2 q)) : Wp Γ ce sl pc lv (q0 :: .ref b :: rest) w := by
  obtain ⟨q, h1, h⟩ := op_bind h
  intro H locs ls hl hP hS
  have hK : va_K Γ.2.2.2.2.2.2.2.2.2.2.2.1 vwCl (TY cy) Γ.2.2.2.2.1 := C0.1.2.2.2.2.2
  have hts := C0.1.2.2.2.2.1
  have hR : (RM d2).frames + 1 ≤ Γ.2.2.2.1.frames ∧ 8 + (mL + 11) + (RM d2).locals ≤ Γ.2.2.2.1.locals := by
    have h23 := hm.2.2.2.2.2.2
    have c1 := C0.2.2.2.1
    have c2 := C0.2.2.2.2
    exact ⟨Nat.le_trans hd c1, Nat.le_trans (by show 8 + (mL + 11) + 42 * d2 ≤ 42 * d; omega) c2⟩
  have cb0 := callB_of (R := Γ.2.2.2.1) (s := Γ.2.2.2.2.1) (args := Γ.2.2.2.2.2.2.1) (own := own) (index := index) (rm := RM d2) (mc := 0) (ms := 0) 1 hts (goodT hm.1) rfl rfl rfl (by rw [hm.2.2.2.2.1]; exact hts _ hm.2.2.2.1) (hts _ hlk) hm.2.2.2.2.2.1 hR
  obtain ⟨ci, vc, qr, fs, g1, rfl, g3⟩ := hrv
  refine call_any (va_runV (As := [q0]) (rest := rest) (C := vc.1) ⟨C0.1.1, C0.1.2.1, C0.1.2.2.1, C0.1.2.2.2.1, hts⟩ (hc q h1 H.size) ⟨cb0, hts _ hm.2.1, hts _ hm.2.2.1⟩ ⟨pre_blind, va_recv hK hP g1 g3, fun U hU hW => ⟨rfl, by rw [hU], by rw [hU]; exact hP, va_K.moved hW.alike hK, hD.weaken (fun _ _ _ _ => trivial)⟩⟩ rfl rfl hl.1 rfl (lv_room hst) hdg hce) hS (fun q _ hq => ?_) (fun q hq => ?_) (fun H1 locs1 hP1 _ _ hS1 => k q h H1 locs1 ls hl hP1 hS1)
  · rcases hq with ⟨k0, e0, h0⟩ | h0
    · exact hD.2 k0 _ h0
    · exact C0.2.1 q (Nat.le_trans hS.1 h0)
  · rcases hq with ⟨k0, e0, h0⟩ | h0
    · exact hD.2 k0 _ h0
    · exact C0.2.1 q (Nat.le_trans hS.1 h0)
end CALLVX
theorem dX11_keep_0 : decode cX11_keep 0 = .ok (.aload_n 0, 1) := by decide +kernel
theorem dX11_keep_1 : decode cX11_keep 1 = .ok (.getfield 19, 3) := by decide +kernel
theorem dX11_keep_4 : decode cX11_keep 4 = .ok (.invokevirtual 174, 3) := by decide +kernel
theorem dX11_keep_7 : decode cX11_keep 7 = .ok (.ifCond .ne 10, 3) := by decide +kernel
theorem dX11_keep_10 : decode cX11_keep 10 = .ok (.aload_n 0, 1) := by decide +kernel
theorem dX11_keep_11 : decode cX11_keep 11 = .ok (.getfield 12, 3) := by decide +kernel
theorem dX11_keep_14 : decode cX11_keep 14 = .ok (.invokevirtual 192, 3) := by decide +kernel
theorem dX11_keep_17 : decode cX11_keep 17 = .ok (.aload_n 0, 1) := by decide +kernel
theorem dX11_keep_18 : decode cX11_keep 18 = .ok (.iload_n 1, 1) := by decide +kernel
theorem dX11_keep_19 : decode cX11_keep 19 = .ok (.invokevirtual 135, 3) := by decide +kernel
theorem dX11_keep_22 : decode cX11_keep 22 = .ok (.ireturn, 1) := by decide +kernel
theorem dX4_takeBack_0 : decode cX4_takeBack 0 = .ok (.aload_n 0, 1) := by decide +kernel
theorem dX4_takeBack_1 : decode cX4_takeBack 1 = .ok (.getfield 43, 3) := by decide +kernel
theorem dX4_takeBack_4 : decode cX4_takeBack 4 = .ok (.ifCond .ne 5, 3) := by decide +kernel
theorem dX4_takeBack_7 : decode cX4_takeBack 7 = .ok (.iconst 0, 1) := by decide +kernel
theorem dX4_takeBack_8 : decode cX4_takeBack 8 = .ok (.ireturn, 1) := by decide +kernel
theorem dX4_takeBack_9 : decode cX4_takeBack 9 = .ok (.aload_n 0, 1) := by decide +kernel
theorem dX4_takeBack_10 : decode cX4_takeBack 10 = .ok (.dup, 1) := by decide +kernel
theorem dX4_takeBack_11 : decode cX4_takeBack 11 = .ok (.getfield 43, 3) := by decide +kernel
theorem dX4_takeBack_14 : decode cX4_takeBack 14 = .ok (.iconst 1, 1) := by decide +kernel
theorem dX4_takeBack_15 : decode cX4_takeBack 15 = .ok (.isub, 1) := by decide +kernel
theorem dX4_takeBack_16 : decode cX4_takeBack 16 = .ok (.putfield 43, 3) := by decide +kernel
theorem dX4_takeBack_19 : decode cX4_takeBack 19 = .ok (.aload_n 0, 1) := by decide +kernel
theorem dX4_takeBack_20 : decode cX4_takeBack 20 = .ok (.getfield 40, 3) := by decide +kernel
theorem dX4_takeBack_23 : decode cX4_takeBack 23 = .ok (.aload_n 0, 1) := by decide +kernel
theorem dX4_takeBack_24 : decode cX4_takeBack 24 = .ok (.getfield 43, 3) := by decide +kernel
theorem dX4_takeBack_27 : decode cX4_takeBack 27 = .ok (.iadd, 1) := by decide +kernel
theorem dX4_takeBack_28 : decode cX4_takeBack 28 = .ok (.bipush 60, 2) := by decide +kernel
theorem dX4_takeBack_30 : decode cX4_takeBack 30 = .ok (.irem, 1) := by decide +kernel
theorem dX4_takeBack_31 : decode cX4_takeBack 31 = .ok (.istore_n 1, 1) := by decide +kernel
theorem dX4_takeBack_32 : decode cX4_takeBack 32 = .ok (.aload_n 0, 1) := by decide +kernel
theorem dX4_takeBack_33 : decode cX4_takeBack 33 = .ok (.getfield 26, 3) := by decide +kernel
theorem dX4_takeBack_36 : decode cX4_takeBack 36 = .ok (.iload_n 1, 1) := by decide +kernel
theorem dX4_takeBack_37 : decode cX4_takeBack 37 = .ok (.aaload, 1) := by decide +kernel
theorem dX4_takeBack_38 : decode cX4_takeBack 38 = .ok (.astore_n 2, 1) := by decide +kernel
theorem dX4_takeBack_39 : decode cX4_takeBack 39 = .ok (.aload_n 0, 1) := by decide +kernel
theorem dX4_takeBack_40 : decode cX4_takeBack 40 = .ok (.getfield 26, 3) := by decide +kernel
theorem dX4_takeBack_43 : decode cX4_takeBack 43 = .ok (.iload_n 1, 1) := by decide +kernel
theorem dX4_takeBack_44 : decode cX4_takeBack 44 = .ok (.aconst_null, 1) := by decide +kernel
theorem dX4_takeBack_45 : decode cX4_takeBack 45 = .ok (.aastore, 1) := by decide +kernel
theorem dX4_takeBack_46 : decode cX4_takeBack 46 = .ok (.aload_n 2, 1) := by decide +kernel
theorem dX4_takeBack_47 : decode cX4_takeBack 47 = .ok (.ifnull 20, 3) := by decide +kernel
theorem dX4_takeBack_50 : decode cX4_takeBack 50 = .ok (.aload_n 0, 1) := by decide +kernel
theorem dX4_takeBack_51 : decode cX4_takeBack 51 = .ok (.aload_n 2, 1) := by decide +kernel
theorem dX4_takeBack_52 : decode cX4_takeBack 52 = .ok (.getfield 60, 3) := by decide +kernel
theorem dX4_takeBack_55 : decode cX4_takeBack 55 = .ok (.aload_n 2, 1) := by decide +kernel
theorem dX4_takeBack_56 : decode cX4_takeBack 56 = .ok (.getfield 63, 3) := by decide +kernel
theorem dX4_takeBack_59 : decode cX4_takeBack 59 = .ok (.aload_n 2, 1) := by decide +kernel
theorem dX4_takeBack_60 : decode cX4_takeBack 60 = .ok (.getfield 60, 3) := by decide +kernel
theorem dX4_takeBack_63 : decode cX4_takeBack 63 = .ok (.arraylength, 1) := by decide +kernel
theorem dX4_takeBack_64 : decode cX4_takeBack 64 = .ok (.invokevirtual 51, 3) := by decide +kernel
theorem dX4_takeBack_67 : decode cX4_takeBack 67 = .ok (.iconst 1, 1) := by decide +kernel
theorem dX4_takeBack_68 : decode cX4_takeBack 68 = .ok (.ireturn, 1) := by decide +kernel
theorem dX11_undo_0 : decode cX11_undo 0 = .ok (.aload_n 0, 1) := by decide +kernel
theorem dX11_undo_1 : decode cX11_undo 1 = .ok (.invokevirtual 82, 3) := by decide +kernel
theorem dX11_undo_4 : decode cX11_undo 4 = .ok (.aload_n 0, 1) := by decide +kernel
theorem dX11_undo_5 : decode cX11_undo 5 = .ok (.aload_n 0, 1) := by decide +kernel
theorem dX11_undo_6 : decode cX11_undo 6 = .ok (.getfield 12, 3) := by decide +kernel
theorem dX11_undo_9 : decode cX11_undo 9 = .ok (.invokevirtual 147, 3) := by decide +kernel
theorem dX11_undo_12 : decode cX11_undo 12 = .ok (.ifCond .eq 13, 3) := by decide +kernel
theorem dX11_undo_15 : decode cX11_undo 15 = .ok (.aload_n 0, 1) := by decide +kernel
theorem dX11_undo_16 : decode cX11_undo 16 = .ok (.getfield 12, 3) := by decide +kernel
theorem dX11_undo_19 : decode cX11_undo 19 = .ok (.invokevirtual 151, 3) := by decide +kernel
theorem dX11_undo_22 : decode cX11_undo 22 = .ok (.goto 12, 3) := by decide +kernel
theorem dX11_undo_25 : decode cX11_undo 25 = .ok (.aload_n 0, 1) := by decide +kernel
theorem dX11_undo_26 : decode cX11_undo 26 = .ok (.getfield 19, 3) := by decide +kernel
theorem dX11_undo_29 : decode cX11_undo 29 = .ok (.bipush 17, 2) := by decide +kernel
theorem dX11_undo_31 : decode cX11_undo 31 = .ok (.invokevirtual 155, 3) := by decide +kernel
theorem dX11_undo_34 : decode cX11_undo 34 = .ok (.invokevirtual 135, 3) := by decide +kernel
theorem dX11_undo_37 : decode cX11_undo 37 = .ok (.ireturn, 1) := by decide +kernel
theorem mw_X11_keep : MW yX11_keep cX11_keep 2 (some .int) RX11 1 := ⟨tcode_X11_keep, tim_X11_keep, tsel_X11_keep, tin_X11, rfl, by decide +kernel, by decide⟩
theorem mw_X4_takeBack : MW yX4_takeBack cX4_takeBack 3 (some .boolean) RX4 0 := ⟨tcode_X4_takeBack, tim_X4_takeBack, tsel_X4_takeBack, tin_X4, rfl, by decide +kernel, by decide⟩
/-- what was kept: its slot, how many notes, the two rows -/
abbrev KO : Type := Option (Nat × Nat × (Nat → Int32) × (Nat → Int32))
def KW (cy : Nat → ClassId) (a : Nat → Nat) (V : VT) (J : JT) (K : Nat → Option Nat) (X : va_W) (ko : KO) (w2 : va_W) : Prop := (ko = none ∧ w2 = WC cy a V J K X) ∨ ∃ (slot n : Nat) (f g : Nat → Int32) (q c v : Nat), ko = some (slot, n, f, g) ∧ w2 = WC cy a V J (va_up K slot (some q)) (X ++ DE cy q c v n f g)
def f_X11_keep (v1 : Int32) (V : VT) : Option (Int32 × VT × KO) :=
  (f_X9_isRefusal V).bind fun r1 =>
  if r1 = 0 then ((f_X4_keepAct V).bind fun y => (f_X11_settle v1 y.1).bind fun q => some (q.1, q.2, some (y.2.1, y.2.2, va_cpy (V 2) (fun _ => 0) 0 0 y.2.2, va_cpy (V 3) (fun _ => 0) 0 0 y.2.2)))
  else ((f_X11_settle v1 V).bind fun q => some (q.1, q.2, none))
theorem c_X11_keep {l : Launch} {D : va_G} {cy : Nat → ClassId} {a : Nat → Nat} {V : VT} {J : JT} {K : Nat → Option Nat} {X : va_W} {v1 : Int32} {y : Int32 × VT × KO} (h : f_X11_keep v1 V = some y) : CTA EN l D cy yX11_keep cX11_keep 2 (some .int) 4 3 3750 [.ref (a 0), .int v1] (WC cy a V J K X) (fun w2 r => r = some (.int y.1) ∧ KW cy a y.2.1 J K X y.2.2 w2) := by
  refine mkAI (by decide) (Nat.le_of_ble_eq_true rfl) (fun Γ C0 _ hrc hrs _ hD0 hF => ?_)
  have hD := dc_of hD0
  unfold f_X11_keep at h
  show Wp Γ 0 0 0 [(0, .ref (a 0)), (1, .int v1)] [] (WC cy a V J K X)
  refine r_aload_n C0 dX11_keep_0 rfl 0 rfl ?_
  refine wcg_0_1 C0 tf_X11_19 dX11_keep_1 ?_
  refine callV0 C0 h (hD _ _ _) mw_X9_isRefusal rv_2 tm_X11_174 (fun y hy => c_X9_isRefusal hy) (Nat.le_of_ble_eq_true rfl) (Nat.le_of_ble_eq_true rfl) dX11_keep_4 (fun r1 h => ?_)
  refine r_if_ne C0 17 dX11_keep_7 rfl h (fun _ h => ?_) (fun _ h => ?_)
  · refine r_aload_n C0 dX11_keep_17 rfl 0 rfl ?_
    refine r_iload_n C0 dX11_keep_18 rfl 1 rfl ?_
    refine callV1 C0 h (hD _ _ _) mw_X11_settle rv_0 tm_X11_135 (fun y hy => c_X11_settle hy) (Nat.le_of_ble_eq_true rfl) (Nat.le_of_ble_eq_true rfl) dX11_keep_19 (fun r h => ?_)
    cases h
    exact hF (Nat.zero_le _) (Nat.zero_le _) ⟨rfl, Or.inl ⟨rfl, rfl⟩⟩ (hD _ _ _) dX11_keep_22
  · obtain ⟨yk, hyk, h⟩ := op_bind h
    refine r_aload_n C0 dX11_keep_10 rfl 0 rfl ?_
    refine wcg_0_0 C0 tf_X11_12 dX11_keep_11 ?_
    refine callAV (ce := 0) (sl := 0) (As := []) (b := a 1) (rest := []) C0 en_ok trivial (hD _ _ _) mw_X4_keepAct rv_1 tm_X11_192 (c_X4_keepAct hyk) rfl (Nat.le_of_ble_eq_true rfl) (Nat.le_of_ble_eq_true rfl) (by rw [hrc, hrs]; exact ⟨Nat.le_refl 3, Nat.le_refl 3750⟩) dX11_keep_14 (fun w2 r2 hΦ hD2 => ?_)
    obtain ⟨rfl, q, c, v, rfl⟩ := hΦ
    have hD2 := dc_of hD2
    refine r_aload_n C0 dX11_keep_17 rfl 0 rfl ?_
    refine r_iload_n C0 dX11_keep_18 rfl 1 rfl ?_
    refine callVx1 C0 h (hD2 _ _ _) mw_X11_settle rv_0 tm_X11_135 (fun y hy => c_X11_settle hy) (Nat.le_of_ble_eq_true rfl) (by rw [hrc, hrs]; exact ⟨Nat.le_refl 3, Nat.le_refl 3750⟩) (Nat.le_of_ble_eq_true rfl) dX11_keep_19 (fun r h => ?_)
    cases h
    exact hF (Nat.le_refl 3) (Nat.le_refl 3750) ⟨rfl, Or.inr ⟨_, _, _, _, q, c, v, rfl, rfl⟩⟩ (hD2 _ _ _) dX11_keep_22
def f_X4_restore_d_j55 (xn : Nat) (xf xg : Nat → Int32) (v3 : Int32) (v4 : Int32) (V : VT) : Option ((Int32 × VT) ⊕ (VT)) :=
  (some (v4 + 1)).bind fun a7 =>
  some (.inl (a7, V))
def f_X4_restore_d_B3 (xn : Nat) (xf xg : Nat → Int32) (v3 : Int32) (x : Int32 × VT) : Option ((Int32 × VT) ⊕ (VT)) :=
  if v3 ≤ x.1 then ((some (x.2)).bind fun y2 => some (.inr y2)) else (if (Int32.ofNat xn) ≤ x.1 then ((some (x.2)).bind fun y3 => some (.inr y3)) else (if (Int32.ofNat xn) ≤ x.1 then ((some (x.2)).bind fun y4 => some (.inr y4)) else ((ckA xn x.1).bind fun k5 =>
  (some (xf k5)).bind fun a6 =>
  if a6 < 0 then (f_X4_restore_d_j55 xn xf xg v3 x.1 x.2) else (if (1874 : Int32) ≤ a6 then (f_X4_restore_d_j55 xn xf xg v3 x.1 x.2) else ((ckA xn x.1).bind fun k8 =>
  (ckA 1874 a6).bind fun k9 =>
  f_X4_restore_d_j55 xn xf xg v3 x.1 (u2 x.2 0 k9 (xg k8)))))))
def f_X4_restore_d (xn : Nat) (xf xg : Nat → Int32) (v3 : Int32) (V : VT) : Option (VT) :=
  (some (0 : Int32)).bind fun a1 =>
  lp (f_X4_restore_d_B3 xn xf xg v3) fuel (a1, V)
theorem w_X4_restore_d_j55 {z : ((Int32 × VT) ⊕ (VT))} {Γ : Gam} {cy : Nat → ClassId} {a : Nat → Nat} {V : VT} {J : JT} {K : Nat → Option Nat} {X : va_W} {xc xv ic iv xn : Nat} {xf xg : Nat → Int32} {v3 : Int32} {v4 : Int32}  (C0 : CXg Γ cX4_restore 6 0 RX4 cy) (hD : DC Γ cy a X) (hxc : ∀ (V : VT) (J : JT) (K : Nat → Option Nat), (WC cy a V J K X)[ic]? = some (xc, .inl (cy 0, xn, .inl xf))) (hxv : ∀ (V : VT) (J : JT) (K : Nat → Option Nat), (WC cy a V J K X)[iv]? = some (xv, .inl (cy 0, xn, .inl xg))) (h : f_X4_restore_d_j55 xn xf xg v3 v4 V = some z) (hz : (Sum.elim (fun x : Int32 × VT => Wp Γ 0 0 3 [(0, .ref (a 1)), (1, .ref xc), (2, .ref xv), (3, .int v3), (4, .int x.1)] [] (WC cy a x.2 J K X)) (fun y : VT => FinV Γ cX4_restore (WC cy a y J K X))) z) : Wp Γ 0 0 55 [(0, .ref (a 1)), (1, .ref xc), (2, .ref xv), (3, .int v3), (4, .int v4)] [] (WC cy a V J K X) := by
  unfold f_X4_restore_d_j55 at h
  obtain ⟨a7, h8, h⟩ := op_bind h
  have e8 := Option.some.inj h8
  refine r_iinc (lv2 := [(4, .int a7), (0, .ref (a 1)), (1, .ref xc), (2, .ref xv), (3, .int v3)]) C0 dX4_restore_55 4 rfl ki_1 e8 (Nat.le_of_ble_eq_true rfl) rfl ?_
  refine r_goto C0 3 dX4_restore_58 rfl ?_
  cases h
  have hz := el_inl hz
  exact r_sub [1, 2, 3, 4, 0] rfl hz
theorem w_X4_restore_d_B3 {x : Int32 × VT} {z : ((Int32 × VT) ⊕ (VT))} {Γ : Gam} {cy : Nat → ClassId} {a : Nat → Nat} {J : JT} {K : Nat → Option Nat} {X : va_W} {xc xv ic iv xn : Nat} {xf xg : Nat → Int32} {v3 : Int32}  (C0 : CXg Γ cX4_restore 6 0 RX4 cy) (hD : DC Γ cy a X) (hxc : ∀ (V : VT) (J : JT) (K : Nat → Option Nat), (WC cy a V J K X)[ic]? = some (xc, .inl (cy 0, xn, .inl xf))) (hxv : ∀ (V : VT) (J : JT) (K : Nat → Option Nat), (WC cy a V J K X)[iv]? = some (xv, .inl (cy 0, xn, .inl xg))) (h : f_X4_restore_d_B3 xn xf xg v3 x = some z) (hz : (Sum.elim (fun x : Int32 × VT => Wp Γ 0 0 3 [(0, .ref (a 1)), (1, .ref xc), (2, .ref xv), (3, .int v3), (4, .int x.1)] [] (WC cy a x.2 J K X)) (fun y : VT => FinV Γ cX4_restore (WC cy a y J K X))) z) : Wp Γ 0 0 3 [(0, .ref (a 1)), (1, .ref xc), (2, .ref xv), (3, .int v3), (4, .int x.1)] [] (WC cy a x.2 J K X) := by
  unfold f_X4_restore_d_B3 at h
  refine r_iload C0 dX4_restore_3 4 rfl ?_
  refine r_iload_n C0 dX4_restore_5 rfl 3 rfl ?_
  refine r_icmp_ge C0 61 dX4_restore_6 rfl h (fun _ h => ?_) (fun _ h => ?_)
  · obtain ⟨y2, h5, h9⟩ := op_bind h
    clear h
    cases h9
    have hz := (el_inr hz)
    have h := h5
    cases h
    exact hz _ _ dX4_restore_61
  · refine r_iload C0 dX4_restore_9 4 rfl ?_
    refine r_aload_n C0 dX4_restore_11 rfl 1 rfl ?_
    refine r_alen (t := 0) C0 (hxc _ _ _) rfl rfl dX4_restore_12 ?_
    refine r_icmp_ge C0 61 dX4_restore_13 rfl h (fun _ h => ?_) (fun _ h => ?_)
    · obtain ⟨y3, h5, h9⟩ := op_bind h
      clear h
      cases h9
      have hz := (el_inr hz)
      have h := h5
      cases h
      exact hz _ _ dX4_restore_61
    · refine r_iload C0 dX4_restore_16 4 rfl ?_
      refine r_aload_n C0 dX4_restore_18 rfl 2 rfl ?_
      refine r_alen (t := 0) C0 (hxv _ _ _) rfl rfl dX4_restore_19 ?_
      refine r_icmp_ge C0 61 dX4_restore_20 rfl h (fun _ h => ?_) (fun _ h => ?_)
      · obtain ⟨y4, h5, h9⟩ := op_bind h
        clear h
        cases h9
        have hz := (el_inr hz)
        have h := h5
        cases h
        exact hz _ _ dX4_restore_61
      · refine r_aload_n C0 dX4_restore_23 rfl 1 rfl ?_
        refine r_iload C0 dX4_restore_24 4 rfl ?_
        refine r_xald C0 (hxc _ _ _) h dX4_restore_26 (fun k5 h => ?_)
        obtain ⟨a6, h8, h⟩ := op_bind h
        have e8 := Option.some.inj h8
        refine r_istore (lv2 := [(5, .int a6), (0, .ref (a 1)), (1, .ref xc), (2, .ref xv), (3, .int v3), (4, .int x.1)]) C0 dX4_restore_27 e8 (Nat.le_of_ble_eq_true rfl) rfl ?_
        refine r_iload C0 dX4_restore_29 0 rfl ?_
        refine r_if_lt C0 55 dX4_restore_31 rfl h (fun _ h => ?_) (fun _ h => ?_)
        · exact r_sub [1, 2, 3, 4, 5] rfl (w_X4_restore_d_j55 C0 hD hxc hxv h hz)
        · refine r_iload C0 dX4_restore_34 0 rfl ?_
          refine r_aload_n C0 dX4_restore_36 rfl 1 rfl ?_
          refine wcg_1_0 C0 tf_X4_9 dX4_restore_37 ?_
          refine wcln_18 C0 dX4_restore_40 ?_
          refine r_icmp_ge C0 55 dX4_restore_41 rfl h (fun _ h => ?_) (fun _ h => ?_)
          · exact r_sub [1, 2, 3, 4, 5] rfl (w_X4_restore_d_j55 C0 hD hxc hxv h hz)
          · refine r_aload_n C0 dX4_restore_44 rfl 1 rfl ?_
            refine wcg_1_0 C0 tf_X4_9 dX4_restore_45 ?_
            refine r_iload C0 dX4_restore_48 0 rfl ?_
            refine r_aload_n C0 dX4_restore_50 rfl 3 rfl ?_
            refine r_iload C0 dX4_restore_51 5 rfl ?_
            refine r_xald C0 (hxv _ _ _) h dX4_restore_53 (fun k8 h => ?_)
            refine wcas_18 C0 hD h dX4_restore_54 (fun k9 h => ?_)
            exact r_sub [1, 2, 3, 4, 5] rfl (w_X4_restore_d_j55 C0 hD hxc hxv h hz)
theorem w_X4_restore_d_B3_lp {x : Int32 × VT} {z : (VT)} {Γ : Gam} {cy : Nat → ClassId} {a : Nat → Nat} {J : JT} {K : Nat → Option Nat} {X : va_W} {xc xv ic iv xn : Nat} {xf xg : Nat → Int32} {v3 : Int32}  (C0 : CXg Γ cX4_restore 6 0 RX4 cy) (hD : DC Γ cy a X) (hxc : ∀ (V : VT) (J : JT) (K : Nat → Option Nat), (WC cy a V J K X)[ic]? = some (xc, .inl (cy 0, xn, .inl xf))) (hxv : ∀ (V : VT) (J : JT) (K : Nat → Option Nat), (WC cy a V J K X)[iv]? = some (xv, .inl (cy 0, xn, .inl xg))) (h : lp (f_X4_restore_d_B3 xn xf xg v3) fuel x = some z) (hz : (fun y : VT => FinV Γ cX4_restore (WC cy a y J K X)) z) : Wp Γ 0 0 3 [(0, .ref (a 1)), (1, .ref xc), (2, .ref xv), (3, .int v3), (4, .int x.1)] [] (WC cy a x.2 J K X) :=
  lp_rule (hd := (fun x : Int32 × VT => Wp Γ 0 0 3 [(0, .ref (a 1)), (1, .ref xc), (2, .ref xv), (3, .int v3), (4, .int x.1)] [] (WC cy a x.2 J K X))) (C := (fun y : VT => FinV Γ cX4_restore (WC cy a y J K X))) (fun x z h hz => w_X4_restore_d_B3 C0 hD hxc hxv h hz) _ _ _ h hz
theorem w_X4_restore_d {z : VT} {Γ : Gam} {cy : Nat → ClassId} {a : Nat → Nat} {V : VT} {J : JT} {K : Nat → Option Nat} {X : va_W} {xc xv ic iv xn : Nat} {xf xg : Nat → Int32} {v3 : Int32}  (C0 : CXg Γ cX4_restore 6 0 RX4 cy) (hD : DC Γ cy a X) (hxc : ∀ (V : VT) (J : JT) (K : Nat → Option Nat), (WC cy a V J K X)[ic]? = some (xc, .inl (cy 0, xn, .inl xf))) (hxv : ∀ (V : VT) (J : JT) (K : Nat → Option Nat), (WC cy a V J K X)[iv]? = some (xv, .inl (cy 0, xn, .inl xg))) (h : f_X4_restore_d xn xf xg v3 V = some z) (hz : (fun y : VT => FinV Γ cX4_restore (WC cy a y J K X)) z) : Wp Γ 0 0 0 [(0, .ref (a 1)), (1, .ref xc), (2, .ref xv), (3, .int v3)] [] (WC cy a V J K X) := by
  unfold f_X4_restore_d at h
  refine r_iconst C0 dX4_restore_0 ki_0 ?_
  obtain ⟨a1, h8, h⟩ := op_bind h
  have e8 := Option.some.inj h8
  refine r_istore (lv2 := [(4, .int a1), (0, .ref (a 1)), (1, .ref xc), (2, .ref xv), (3, .int v3)]) C0 dX4_restore_1 e8 (Nat.le_of_ble_eq_true rfl) rfl ?_
  exact r_sub [1, 2, 3, 4, 0] rfl (w_X4_restore_d_B3_lp C0 hD hxc hxv h hz)
theorem c_X4_restore_d {l : Launch} {D : va_G} {cy : Nat → ClassId} {a : Nat → Nat} {V : VT} {J : JT} {K : Nat → Option Nat} {X : va_W} {xc xv ic iv xn : Nat} {xf xg : Nat → Int32} {v3 : Int32} {y : VT} (hxc : ∀ (V : VT) (J : JT) (K : Nat → Option Nat), (WC cy a V J K X)[ic]? = some (xc, .inl (cy 0, xn, .inl xf))) (hxv : ∀ (V : VT) (J : JT) (K : Nat → Option Nat), (WC cy a V J K X)[iv]? = some (xv, .inl (cy 0, xn, .inl xg))) (h : f_X4_restore_d xn xf xg v3 V = some y) : CT l D cy yX4_restore cX4_restore 6 none 0 [.ref (a 1), .ref xc, .ref xv, .int v3] (WC cy a V J K X) (WC cy a y J K X) none :=
  mkV (by decide) (Nat.le_of_ble_eq_true rfl) (fun Γ _ _ C0 hD hF => w_X4_restore_d C0 (dc_of hD) hxc hxv h hF)
def DD (cy : Nat → ClassId) (a : Nat → Nat) (K : Nat → Option Nat) (X : va_W) (dd : Nat → Option (Nat × (Nat → Int32) × (Nat → Int32))) : Prop := ∀ (slot : Nat) (e : Nat × (Nat → Int32) × (Nat → Int32)), dd slot = some e → ∃ q c v iq ic iv : Nat, K slot = some q ∧ (∀ (V : VT) (J : JT) (K : Nat → Option Nat), (WC cy a V J K X)[iq]? = some (q, .inr (1, [.ref c, .ref v]))) ∧ (∀ (V : VT) (J : JT) (K : Nat → Option Nat), (WC cy a V J K X)[ic]? = some (c, .inl (cy 0, e.1, .inl e.2.1))) ∧ (∀ (V : VT) (J : JT) (K : Nat → Option Nat), (WC cy a V J K X)[iv]? = some (v, .inl (cy 0, e.1, .inl e.2.2)))
def f_X4_takeBack (V : VT) (dd : Nat → Option (Nat × (Nat → Int32) × (Nat → Int32))) : Option (Int32 × VT × Option Nat) :=
  if V 11 4 = 0 then some (0, V, none) else
  (some (u2 V 11 4 (V 11 4 - 1))).bind fun V1 =>
  (some ((V1 11 3 + V1 11 4) - (V1 11 3 + V1 11 4) / 60 * 60)).bind fun i1 =>
  (ckA 60 i1).bind fun slot =>
  (dd slot).bind fun e =>
  (f_X4_restore_d e.1 e.2.1 e.2.2 (Int32.ofNat e.1) V1).bind fun V2 => some (1, V2, some slot)
def KU (K : Nat → Option Nat) (o : Option Nat) : Nat → Option Nat := match o with
  | none => K
  | some s => va_up K s none
theorem c_X4_takeBack {l : Launch} {D : va_G} {cy : Nat → ClassId} {a : Nat → Nat} {V : VT} {J : JT} {K : Nat → Option Nat} {X : va_W} {dd : Nat → Option (Nat × (Nat → Int32) × (Nat → Int32))} (hdd : DD cy a K X dd) {y : Int32 × VT × Option Nat} (h : f_X4_takeBack V dd = some y) : CT l D cy yX4_takeBack cX4_takeBack 3 (some .boolean) 1 [.ref (a 1)] (WC cy a V J K X) (WC cy a y.2.1 J (KU K y.2.2) X) (some (.int y.1)) := by
  refine mkZ (by decide) (Nat.le_of_ble_eq_true rfl) (fun Γ _ _ C0 hD0 hz => ?_)
  have hD := dc_of hD0
  unfold f_X4_takeBack at h
  show Wp Γ 0 0 0 [(0, .ref (a 1))] [] (WC cy a V J K X)
  refine r_aload_n C0 dX4_takeBack_0 rfl 0 rfl ?_
  refine wcg_1_9 C0 tf_X4_43 dX4_takeBack_1 ?_
  refine r_if_ne C0 9 dX4_takeBack_4 rfl h (fun _ h => ?_) (fun _ h => ?_)
  · obtain ⟨V1, h1, h⟩ := op_bind h
    have e1 := Option.some.inj h1
    obtain ⟨i1, h2, h⟩ := op_bind h
    have e2 := Option.some.inj h2
    obtain ⟨slot, hslot, h⟩ := op_bind h
    obtain ⟨e, he, h⟩ := op_bind h
    obtain ⟨q, c, v, iq, ic, iv, hKq, hq, hc, hv⟩ := hdd slot e he
    refine r_aload_n C0 dX4_takeBack_9 rfl 0 rfl ?_
    refine r_dup C0 dX4_takeBack_10 rfl ?_
    refine wcg_1_9 C0 tf_X4_43 dX4_takeBack_11 ?_
    refine r_iconst C0 dX4_takeBack_14 ki_1 ?_
    refine r_isub C0 dX4_takeBack_15 ?_
    refine wcp_1_9 C0 hD tf_X4_43 dX4_takeBack_16 ?_
    rw [e1]
    refine r_aload_n C0 dX4_takeBack_19 rfl 0 rfl ?_
    refine wcg_1_8 C0 tf_X4_40 dX4_takeBack_20 ?_
    refine r_aload_n C0 dX4_takeBack_23 rfl 0 rfl ?_
    refine wcg_1_9 C0 tf_X4_43 dX4_takeBack_24 ?_
    refine r_iadd C0 dX4_takeBack_27 ?_
    refine r_bipush C0 dX4_takeBack_28 kb_60 ?_
    refine r_irem (g := fun _ => some ()) (z := ()) C0 dX4_takeBack_30 rfl (fun _ _ => ?_)
    refine r_istore_n (lv2 := [(1, .int i1), (0, .ref (a 1))]) C0 dX4_takeBack_31 rfl e2 (Nat.le_of_ble_eq_true rfl) rfl ?_
    refine r_aload_n C0 dX4_takeBack_32 rfl 1 rfl ?_
    refine wcg_1_4 C0 tf_X4_26 dX4_takeBack_33 ?_
    refine r_iload_n C0 dX4_takeBack_36 rfl 0 rfl ?_
    refine wK_ld C0 hslot hKq dX4_takeBack_37 ?_
    refine r_astore_n (lv2 := [(2, .ref q), (1, .int i1), (0, .ref (a 1))]) C0 dX4_takeBack_38 rfl (Nat.le_of_ble_eq_true rfl) rfl ?_
    refine r_aload_n C0 dX4_takeBack_39 rfl 2 rfl ?_
    refine wcg_1_4 C0 tf_X4_26 dX4_takeBack_40 ?_
    refine r_iload_n C0 dX4_takeBack_43 rfl 1 rfl ?_
    refine r_null C0 dX4_takeBack_44 ?_
    refine wK_nl C0 (hD _ _ _) hslot dX4_takeBack_45 ?_
    refine r_aload_n C0 dX4_takeBack_46 rfl 0 rfl ?_
    refine r_ifnull C0 dX4_takeBack_47 ?_
    refine r_aload_n C0 dX4_takeBack_50 rfl 2 rfl ?_
    refine r_aload_n C0 dX4_takeBack_51 rfl 0 rfl ?_
    refine r_get (v := .ref c) C0 iX1 (hq _ _ _) rfl 0 (by decide) tf_X4_60 rfl dX4_takeBack_52 ?_
    refine r_aload_n C0 dX4_takeBack_55 rfl 0 rfl ?_
    refine r_get (v := .ref v) C0 iX1 (hq _ _ _) rfl 1 (by decide) tf_X4_63 rfl dX4_takeBack_56 ?_
    refine r_aload_n C0 dX4_takeBack_59 rfl 0 rfl ?_
    refine r_get (v := .ref c) C0 iX1 (hq _ _ _) rfl 0 (by decide) tf_X4_60 rfl dX4_takeBack_60 ?_
    refine r_alen (t := 0) C0 (hc _ _ _) rfl rfl dX4_takeBack_63 ?_
    refine callVv3 C0 h (hD _ _ _) mw_X4_restore rv_1 tm_X4_51 (fun y hy => c_X4_restore_d hc hv hy) (Nat.le_of_ble_eq_true rfl) (Nat.le_of_ble_eq_true rfl) dX4_takeBack_64 (fun V2 h => ?_)
    refine r_iconst C0 dX4_takeBack_67 ki_1 ?_
    cases h
    exact hz _ _ nz_1 dX4_takeBack_68
  · refine r_iconst C0 dX4_takeBack_7 ki_0 ?_
    cases h
    exact hz _ _ nz_0 dX4_takeBack_8
def f_X11_undo (V : VT) (dd : Nat → Option (Nat × (Nat → Int32) × (Nat → Int32))) : Option (Int32 × VT × Option Nat) :=
  (f_X11_begin V).bind fun V1 =>
  (f_X4_takeBack V1 dd).bind fun t =>
  if t.1 = 0 then ((f_X9_refuse 17 t.2.1).bind fun r => (f_X11_settle r.1 r.2).bind fun q => some (q.1, q.2, t.2.2))
  else ((f_X4_keptActs t.2.1).bind fun r => (f_X11_settle r t.2.1).bind fun q => some (q.1, q.2, t.2.2))
theorem c_X11_undo {l : Launch} {D : va_G} {cy : Nat → ClassId} {a : Nat → Nat} {V : VT} {J : JT} {K : Nat → Option Nat} {X : va_W} {dd : Nat → Option (Nat × (Nat → Int32) × (Nat → Int32))} (hdd : DD cy a K X dd) {y : Int32 × VT × Option Nat} (h : f_X11_undo V dd = some y) : CT l D cy yX11_undo cX11_undo 1 (some .int) 3 [.ref (a 0)] (WC cy a V J K X) (WC cy a y.2.1 J (KU K y.2.2) X) (some (.int y.1)) := by
  refine mkI (by decide) (Nat.le_of_ble_eq_true rfl) (fun Γ _ _ C0 hD0 hz => ?_)
  have hD := dc_of hD0
  unfold f_X11_undo at h
  show Wp Γ 0 0 0 [(0, .ref (a 0))] [] (WC cy a V J K X)
  refine r_aload_n C0 dX11_undo_0 rfl 0 rfl ?_
  refine callVv0 C0 h (hD _ _ _) mw_X11_begin rv_0 tm_X11_82 (fun y hy => c_X11_begin hy) (Nat.le_of_ble_eq_true rfl) (Nat.le_of_ble_eq_true rfl) dX11_undo_1 (fun V1 h => ?_)
  refine r_aload_n C0 dX11_undo_4 rfl 0 rfl ?_
  refine r_aload_n C0 dX11_undo_5 rfl 0 rfl ?_
  refine wcg_0_0 C0 tf_X11_12 dX11_undo_6 ?_
  refine callV0 C0 h (hD _ _ _) mw_X4_takeBack rv_1 tm_X11_147 (fun y hy => c_X4_takeBack hdd hy) (Nat.le_of_ble_eq_true rfl) (Nat.le_of_ble_eq_true rfl) dX11_undo_9 (fun t h => ?_)
  refine r_if_eq C0 25 dX11_undo_12 rfl h (fun _ h => ?_) (fun _ h => ?_)
  · refine r_aload_n C0 dX11_undo_25 rfl 0 rfl ?_
    refine wcg_0_1 C0 tf_X11_19 dX11_undo_26 ?_
    refine r_bipush C0 dX11_undo_29 kb_17 ?_
    refine callV1 C0 h (hD _ _ _) mw_X9_refuse rv_2 tm_X11_155 (fun y hy => c_X9_refuse hy) (Nat.le_of_ble_eq_true rfl) (Nat.le_of_ble_eq_true rfl) dX11_undo_31 (fun r h => ?_)
    refine callV1 C0 h (hD _ _ _) mw_X11_settle rv_0 tm_X11_135 (fun y hy => c_X11_settle hy) (Nat.le_of_ble_eq_true rfl) (Nat.le_of_ble_eq_true rfl) dX11_undo_34 (fun q h => ?_)
    cases h
    exact hz _ _ dX11_undo_37
  · refine r_aload_n C0 dX11_undo_15 rfl 0 rfl ?_
    refine wcg_0_0 C0 tf_X11_12 dX11_undo_16 ?_
    refine callV0 C0 h (hD _ _ _) mw_X4_keptActs rv_1 tm_X11_151 (fun y hy => c_X4_keptActs hy) (Nat.le_of_ble_eq_true rfl) (Nat.le_of_ble_eq_true rfl) dX11_undo_19 (fun r h => ?_)
    refine r_goto C0 34 dX11_undo_22 rfl ?_
    refine callV1 C0 h (hD _ _ _) mw_X11_settle rv_0 tm_X11_135 (fun y hy => c_X11_settle hy) (Nat.le_of_ble_eq_true rfl) (Nat.le_of_ble_eq_true rfl) dX11_undo_34 (fun q h => ?_)
    cases h
    exact hz _ _ dX11_undo_37
theorem dX11_bar_0 : decode cX11_bar 0 = .ok (.aload_n 0, 1) := by decide +kernel
theorem dX11_bar_1 : decode cX11_bar 1 = .ok (.invokevirtual 82, 3) := by decide +kernel
theorem dX11_bar_4 : decode cX11_bar 4 = .ok (.aload_n 0, 1) := by decide +kernel
theorem dX11_bar_5 : decode cX11_bar 5 = .ok (.aload_n 0, 1) := by decide +kernel
theorem dX11_bar_6 : decode cX11_bar 6 = .ok (.getfield 53, 3) := by decide +kernel
theorem dX11_bar_9 : decode cX11_bar 9 = .ok (.iload_n 1, 1) := by decide +kernel
theorem dX11_bar_10 : decode cX11_bar 10 = .ok (.iload_n 2, 1) := by decide +kernel
theorem dX11_bar_11 : decode cX11_bar 11 = .ok (.iload_n 3, 1) := by decide +kernel
theorem dX11_bar_12 : decode cX11_bar 12 = .ok (.invokevirtual 85, 3) := by decide +kernel
theorem dX11_bar_15 : decode cX11_bar 15 = .ok (.invokevirtual 89, 3) := by decide +kernel
theorem dX11_bar_18 : decode cX11_bar 18 = .ok (.ireturn, 1) := by decide +kernel
def f_X11_bar (v1 : Int32) (v2 : Int32) (v3 : Int32) (V : VT) (J : JT) : Option (Int32 × VT × JT × KO) :=
  (f_X11_begin V).bind fun r1 =>
  (f_X6_rigBar v1 v2 v3 r1).bind fun r2 =>
  (f_X11_keep r2.1 r2.2).bind fun r3 =>
  some (r3.1, r3.2.1, J, r3.2.2)
theorem c_X11_bar {l : Launch} {D : va_G} {cy : Nat → ClassId} {a : Nat → Nat} {V : VT} {J : JT} {K : Nat → Option Nat} {X : va_W} {v1 : Int32} {v2 : Int32} {v3 : Int32} {y : Int32 × VT × JT × KO} (h : f_X11_bar v1 v2 v3 V J = some y) : CTA EN l D cy yX11_bar cX11_bar 4 (some .int) 5 3 3750 [.ref (a 0), .int v1, .int v2, .int v3] (WC cy a V J K X) (fun w2 r => r = some (.int y.1) ∧ KW cy a y.2.1 y.2.2.1 K X y.2.2.2 w2) := by
  refine mkAI (by decide) (Nat.le_of_ble_eq_true rfl) (fun Γ C0 _ hrc hrs _ hD0 hF => ?_)
  have hD := dc_of hD0
  unfold f_X11_bar at h
  show Wp Γ 0 0 0 [(0, .ref (a 0)), (1, .int v1), (2, .int v2), (3, .int v3)] [] (WC cy a V J K X)
  refine r_aload_n C0 dX11_bar_0 rfl 0 rfl ?_
  refine callVv0 C0 h (hD _ _ _) mw_X11_begin rv_0 tm_X11_82 (fun y hy => c_X11_begin hy) (Nat.le_of_ble_eq_true rfl) (Nat.le_of_ble_eq_true rfl) dX11_bar_1 (fun r1 h => ?_)
  refine r_aload_n C0 dX11_bar_4 rfl 0 rfl ?_
  refine r_aload_n C0 dX11_bar_5 rfl 0 rfl ?_
  refine wcg_0_5 C0 tf_X11_53 dX11_bar_6 ?_
  refine r_iload_n C0 dX11_bar_9 rfl 1 rfl ?_
  refine r_iload_n C0 dX11_bar_10 rfl 2 rfl ?_
  refine r_iload_n C0 dX11_bar_11 rfl 3 rfl ?_
  refine callV3 C0 h (hD _ _ _) mw_X6_rigBar rv_6 tm_X11_85 (fun y hy => c_X6_rigBar hy) (Nat.le_of_ble_eq_true rfl) (Nat.le_of_ble_eq_true rfl) dX11_bar_12 (fun r2 h => ?_)
  obtain ⟨r3, hr, h⟩ := op_bind h
  cases h
  refine callAV (ce := 0) (sl := 0) (As := [.int r2.1]) (b := a 0) (rest := []) C0 en_ok trivial (hD _ _ _) mw_X11_keep rv_0 tm_X11_89 (c_X11_keep hr) rfl (Nat.le_of_ble_eq_true rfl) (Nat.le_of_ble_eq_true rfl) (by rw [hrc, hrs]; exact ⟨Nat.le_refl 3, Nat.le_refl 3750⟩) dX11_bar_15 (fun w2 r2 hΦ hD2 => ?_)
  obtain ⟨rfl, hΦ⟩ := hΦ
  exact hF (Nat.le_refl 3) (Nat.le_refl 3750) ⟨rfl, hΦ⟩ hD2 dX11_bar_18
theorem mw_X11_bar : MW yX11_bar cX11_bar 4 (some .int) RX11 3 := ⟨tcode_X11_bar, tim_X11_bar, tsel_X11_bar, tin_X11, rfl, by decide +kernel, by decide⟩
theorem dX11_strip_0 : decode cX11_strip 0 = .ok (.aload_n 0, 1) := by decide +kernel
theorem dX11_strip_1 : decode cX11_strip 1 = .ok (.invokevirtual 82, 3) := by decide +kernel
theorem dX11_strip_4 : decode cX11_strip 4 = .ok (.aload_n 0, 1) := by decide +kernel
theorem dX11_strip_5 : decode cX11_strip 5 = .ok (.aload_n 0, 1) := by decide +kernel
theorem dX11_strip_6 : decode cX11_strip 6 = .ok (.getfield 53, 3) := by decide +kernel
theorem dX11_strip_9 : decode cX11_strip 9 = .ok (.iload_n 1, 1) := by decide +kernel
theorem dX11_strip_10 : decode cX11_strip 10 = .ok (.invokevirtual 93, 3) := by decide +kernel
theorem dX11_strip_13 : decode cX11_strip 13 = .ok (.invokevirtual 89, 3) := by decide +kernel
theorem dX11_strip_16 : decode cX11_strip 16 = .ok (.ireturn, 1) := by decide +kernel
def f_X11_strip (v1 : Int32) (V : VT) (J : JT) : Option (Int32 × VT × JT × KO) :=
  (f_X11_begin V).bind fun r1 =>
  (f_X6_stripBar v1 r1).bind fun r2 =>
  (f_X11_keep r2.1 r2.2).bind fun r3 =>
  some (r3.1, r3.2.1, J, r3.2.2)
theorem c_X11_strip {l : Launch} {D : va_G} {cy : Nat → ClassId} {a : Nat → Nat} {V : VT} {J : JT} {K : Nat → Option Nat} {X : va_W} {v1 : Int32} {y : Int32 × VT × JT × KO} (h : f_X11_strip v1 V J = some y) : CTA EN l D cy yX11_strip cX11_strip 2 (some .int) 5 3 3750 [.ref (a 0), .int v1] (WC cy a V J K X) (fun w2 r => r = some (.int y.1) ∧ KW cy a y.2.1 y.2.2.1 K X y.2.2.2 w2) := by
  refine mkAI (by decide) (Nat.le_of_ble_eq_true rfl) (fun Γ C0 _ hrc hrs _ hD0 hF => ?_)
  have hD := dc_of hD0
  unfold f_X11_strip at h
  show Wp Γ 0 0 0 [(0, .ref (a 0)), (1, .int v1)] [] (WC cy a V J K X)
  refine r_aload_n C0 dX11_strip_0 rfl 0 rfl ?_
  refine callVv0 C0 h (hD _ _ _) mw_X11_begin rv_0 tm_X11_82 (fun y hy => c_X11_begin hy) (Nat.le_of_ble_eq_true rfl) (Nat.le_of_ble_eq_true rfl) dX11_strip_1 (fun r1 h => ?_)
  refine r_aload_n C0 dX11_strip_4 rfl 0 rfl ?_
  refine r_aload_n C0 dX11_strip_5 rfl 0 rfl ?_
  refine wcg_0_5 C0 tf_X11_53 dX11_strip_6 ?_
  refine r_iload_n C0 dX11_strip_9 rfl 1 rfl ?_
  refine callV1 C0 h (hD _ _ _) mw_X6_stripBar rv_6 tm_X11_93 (fun y hy => c_X6_stripBar hy) (Nat.le_of_ble_eq_true rfl) (Nat.le_of_ble_eq_true rfl) dX11_strip_10 (fun r2 h => ?_)
  obtain ⟨r3, hr, h⟩ := op_bind h
  cases h
  refine callAV (ce := 0) (sl := 0) (As := [.int r2.1]) (b := a 0) (rest := []) C0 en_ok trivial (hD _ _ _) mw_X11_keep rv_0 tm_X11_89 (c_X11_keep hr) rfl (Nat.le_of_ble_eq_true rfl) (Nat.le_of_ble_eq_true rfl) (by rw [hrc, hrs]; exact ⟨Nat.le_refl 3, Nat.le_refl 3750⟩) dX11_strip_13 (fun w2 r2 hΦ hD2 => ?_)
  obtain ⟨rfl, hΦ⟩ := hΦ
  exact hF (Nat.le_refl 3) (Nat.le_refl 3750) ⟨rfl, hΦ⟩ hD2 dX11_strip_16
theorem mw_X11_strip : MW yX11_strip cX11_strip 2 (some .int) RX11 1 := ⟨tcode_X11_strip, tim_X11_strip, tsel_X11_strip, tin_X11, rfl, by decide +kernel, by decide⟩
theorem dX11_line_0 : decode cX11_line 0 = .ok (.aload_n 0, 1) := by decide +kernel
theorem dX11_line_1 : decode cX11_line 1 = .ok (.invokevirtual 82, 3) := by decide +kernel
theorem dX11_line_4 : decode cX11_line 4 = .ok (.aload_n 0, 1) := by decide +kernel
theorem dX11_line_5 : decode cX11_line 5 = .ok (.aload_n 0, 1) := by decide +kernel
theorem dX11_line_6 : decode cX11_line 6 = .ok (.getfield 53, 3) := by decide +kernel
theorem dX11_line_9 : decode cX11_line 9 = .ok (.iload_n 1, 1) := by decide +kernel
theorem dX11_line_10 : decode cX11_line 10 = .ok (.iload_n 2, 1) := by decide +kernel
theorem dX11_line_11 : decode cX11_line 11 = .ok (.iload_n 3, 1) := by decide +kernel
theorem dX11_line_12 : decode cX11_line 12 = .ok (.iload 4, 2) := by decide +kernel
theorem dX11_line_14 : decode cX11_line 14 = .ok (.invokevirtual 96, 3) := by decide +kernel
theorem dX11_line_17 : decode cX11_line 17 = .ok (.invokevirtual 89, 3) := by decide +kernel
theorem dX11_line_20 : decode cX11_line 20 = .ok (.ireturn, 1) := by decide +kernel
def f_X11_line (v1 : Int32) (v2 : Int32) (v3 : Int32) (v4 : Int32) (V : VT) (J : JT) : Option (Int32 × VT × JT × KO) :=
  (f_X11_begin V).bind fun r1 =>
  (f_X6_addLine v1 v2 v3 v4 r1).bind fun r2 =>
  (f_X11_keep r2.1 r2.2).bind fun r3 =>
  some (r3.1, r3.2.1, J, r3.2.2)
theorem c_X11_line {l : Launch} {D : va_G} {cy : Nat → ClassId} {a : Nat → Nat} {V : VT} {J : JT} {K : Nat → Option Nat} {X : va_W} {v1 : Int32} {v2 : Int32} {v3 : Int32} {v4 : Int32} {y : Int32 × VT × JT × KO} (h : f_X11_line v1 v2 v3 v4 V J = some y) : CTA EN l D cy yX11_line cX11_line 5 (some .int) 5 3 3750 [.ref (a 0), .int v1, .int v2, .int v3, .int v4] (WC cy a V J K X) (fun w2 r => r = some (.int y.1) ∧ KW cy a y.2.1 y.2.2.1 K X y.2.2.2 w2) := by
  refine mkAI (by decide) (Nat.le_of_ble_eq_true rfl) (fun Γ C0 _ hrc hrs _ hD0 hF => ?_)
  have hD := dc_of hD0
  unfold f_X11_line at h
  show Wp Γ 0 0 0 [(0, .ref (a 0)), (1, .int v1), (2, .int v2), (3, .int v3), (4, .int v4)] [] (WC cy a V J K X)
  refine r_aload_n C0 dX11_line_0 rfl 0 rfl ?_
  refine callVv0 C0 h (hD _ _ _) mw_X11_begin rv_0 tm_X11_82 (fun y hy => c_X11_begin hy) (Nat.le_of_ble_eq_true rfl) (Nat.le_of_ble_eq_true rfl) dX11_line_1 (fun r1 h => ?_)
  refine r_aload_n C0 dX11_line_4 rfl 0 rfl ?_
  refine r_aload_n C0 dX11_line_5 rfl 0 rfl ?_
  refine wcg_0_5 C0 tf_X11_53 dX11_line_6 ?_
  refine r_iload_n C0 dX11_line_9 rfl 1 rfl ?_
  refine r_iload_n C0 dX11_line_10 rfl 2 rfl ?_
  refine r_iload_n C0 dX11_line_11 rfl 3 rfl ?_
  refine r_iload C0 dX11_line_12 4 rfl ?_
  refine callV4 C0 h (hD _ _ _) mw_X6_addLine rv_6 tm_X11_96 (fun y hy => c_X6_addLine hy) (Nat.le_of_ble_eq_true rfl) (Nat.le_of_ble_eq_true rfl) dX11_line_14 (fun r2 h => ?_)
  obtain ⟨r3, hr, h⟩ := op_bind h
  cases h
  refine callAV (ce := 0) (sl := 0) (As := [.int r2.1]) (b := a 0) (rest := []) C0 en_ok trivial (hD _ _ _) mw_X11_keep rv_0 tm_X11_89 (c_X11_keep hr) rfl (Nat.le_of_ble_eq_true rfl) (Nat.le_of_ble_eq_true rfl) (by rw [hrc, hrs]; exact ⟨Nat.le_refl 3, Nat.le_refl 3750⟩) dX11_line_17 (fun w2 r2 hΦ hD2 => ?_)
  obtain ⟨rfl, hΦ⟩ := hΦ
  exact hF (Nat.le_refl 3) (Nat.le_refl 3750) ⟨rfl, hΦ⟩ hD2 dX11_line_20
theorem mw_X11_line : MW yX11_line cX11_line 5 (some .int) RX11 4 := ⟨tcode_X11_line, tim_X11_line, tsel_X11_line, tin_X11, rfl, by decide +kernel, by decide⟩
theorem dX11_wear_0 : decode cX11_wear 0 = .ok (.aload_n 0, 1) := by decide +kernel
theorem dX11_wear_1 : decode cX11_wear 1 = .ok (.invokevirtual 82, 3) := by decide +kernel
theorem dX11_wear_4 : decode cX11_wear 4 = .ok (.aload_n 0, 1) := by decide +kernel
theorem dX11_wear_5 : decode cX11_wear 5 = .ok (.aload_n 0, 1) := by decide +kernel
theorem dX11_wear_6 : decode cX11_wear 6 = .ok (.getfield 53, 3) := by decide +kernel
theorem dX11_wear_9 : decode cX11_wear 9 = .ok (.iload_n 1, 1) := by decide +kernel
theorem dX11_wear_10 : decode cX11_wear 10 = .ok (.iload_n 2, 1) := by decide +kernel
theorem dX11_wear_11 : decode cX11_wear 11 = .ok (.iload_n 3, 1) := by decide +kernel
theorem dX11_wear_12 : decode cX11_wear 12 = .ok (.invokevirtual 100, 3) := by decide +kernel
theorem dX11_wear_15 : decode cX11_wear 15 = .ok (.invokevirtual 89, 3) := by decide +kernel
theorem dX11_wear_18 : decode cX11_wear 18 = .ok (.ireturn, 1) := by decide +kernel
def f_X11_wear (v1 : Int32) (v2 : Int32) (v3 : Int32) (V : VT) (J : JT) : Option (Int32 × VT × JT × KO) :=
  (f_X11_begin V).bind fun r1 =>
  (f_X6_wearPart v1 v2 v3 r1).bind fun r2 =>
  (f_X11_keep r2.1 r2.2).bind fun r3 =>
  some (r3.1, r3.2.1, J, r3.2.2)
theorem c_X11_wear {l : Launch} {D : va_G} {cy : Nat → ClassId} {a : Nat → Nat} {V : VT} {J : JT} {K : Nat → Option Nat} {X : va_W} {v1 : Int32} {v2 : Int32} {v3 : Int32} {y : Int32 × VT × JT × KO} (h : f_X11_wear v1 v2 v3 V J = some y) : CTA EN l D cy yX11_wear cX11_wear 4 (some .int) 5 3 3750 [.ref (a 0), .int v1, .int v2, .int v3] (WC cy a V J K X) (fun w2 r => r = some (.int y.1) ∧ KW cy a y.2.1 y.2.2.1 K X y.2.2.2 w2) := by
  refine mkAI (by decide) (Nat.le_of_ble_eq_true rfl) (fun Γ C0 _ hrc hrs _ hD0 hF => ?_)
  have hD := dc_of hD0
  unfold f_X11_wear at h
  show Wp Γ 0 0 0 [(0, .ref (a 0)), (1, .int v1), (2, .int v2), (3, .int v3)] [] (WC cy a V J K X)
  refine r_aload_n C0 dX11_wear_0 rfl 0 rfl ?_
  refine callVv0 C0 h (hD _ _ _) mw_X11_begin rv_0 tm_X11_82 (fun y hy => c_X11_begin hy) (Nat.le_of_ble_eq_true rfl) (Nat.le_of_ble_eq_true rfl) dX11_wear_1 (fun r1 h => ?_)
  refine r_aload_n C0 dX11_wear_4 rfl 0 rfl ?_
  refine r_aload_n C0 dX11_wear_5 rfl 0 rfl ?_
  refine wcg_0_5 C0 tf_X11_53 dX11_wear_6 ?_
  refine r_iload_n C0 dX11_wear_9 rfl 1 rfl ?_
  refine r_iload_n C0 dX11_wear_10 rfl 2 rfl ?_
  refine r_iload_n C0 dX11_wear_11 rfl 3 rfl ?_
  refine callV3 C0 h (hD _ _ _) mw_X6_wearPart rv_6 tm_X11_100 (fun y hy => c_X6_wearPart hy) (Nat.le_of_ble_eq_true rfl) (Nat.le_of_ble_eq_true rfl) dX11_wear_12 (fun r2 h => ?_)
  obtain ⟨r3, hr, h⟩ := op_bind h
  cases h
  refine callAV (ce := 0) (sl := 0) (As := [.int r2.1]) (b := a 0) (rest := []) C0 en_ok trivial (hD _ _ _) mw_X11_keep rv_0 tm_X11_89 (c_X11_keep hr) rfl (Nat.le_of_ble_eq_true rfl) (Nat.le_of_ble_eq_true rfl) (by rw [hrc, hrs]; exact ⟨Nat.le_refl 3, Nat.le_refl 3750⟩) dX11_wear_15 (fun w2 r2 hΦ hD2 => ?_)
  obtain ⟨rfl, hΦ⟩ := hΦ
  exact hF (Nat.le_refl 3) (Nat.le_refl 3750) ⟨rfl, hΦ⟩ hD2 dX11_wear_18
theorem mw_X11_wear : MW yX11_wear cX11_wear 4 (some .int) RX11 3 := ⟨tcode_X11_wear, tim_X11_wear, tsel_X11_wear, tin_X11, rfl, by decide +kernel, by decide⟩
theorem dX11_cut_0 : decode cX11_cut 0 = .ok (.aload_n 0, 1) := by decide +kernel
theorem dX11_cut_1 : decode cX11_cut 1 = .ok (.invokevirtual 82, 3) := by decide +kernel
theorem dX11_cut_4 : decode cX11_cut 4 = .ok (.aload_n 0, 1) := by decide +kernel
theorem dX11_cut_5 : decode cX11_cut 5 = .ok (.aload_n 0, 1) := by decide +kernel
theorem dX11_cut_6 : decode cX11_cut 6 = .ok (.getfield 53, 3) := by decide +kernel
theorem dX11_cut_9 : decode cX11_cut 9 = .ok (.iload_n 1, 1) := by decide +kernel
theorem dX11_cut_10 : decode cX11_cut 10 = .ok (.invokevirtual 103, 3) := by decide +kernel
theorem dX11_cut_13 : decode cX11_cut 13 = .ok (.invokevirtual 89, 3) := by decide +kernel
theorem dX11_cut_16 : decode cX11_cut 16 = .ok (.ireturn, 1) := by decide +kernel
def f_X11_cut (v1 : Int32) (V : VT) (J : JT) : Option (Int32 × VT × JT × KO) :=
  (f_X11_begin V).bind fun r1 =>
  (f_X6_cutLine v1 r1).bind fun r2 =>
  (f_X11_keep r2.1 r2.2).bind fun r3 =>
  some (r3.1, r3.2.1, J, r3.2.2)
theorem c_X11_cut {l : Launch} {D : va_G} {cy : Nat → ClassId} {a : Nat → Nat} {V : VT} {J : JT} {K : Nat → Option Nat} {X : va_W} {v1 : Int32} {y : Int32 × VT × JT × KO} (h : f_X11_cut v1 V J = some y) : CTA EN l D cy yX11_cut cX11_cut 2 (some .int) 5 3 3750 [.ref (a 0), .int v1] (WC cy a V J K X) (fun w2 r => r = some (.int y.1) ∧ KW cy a y.2.1 y.2.2.1 K X y.2.2.2 w2) := by
  refine mkAI (by decide) (Nat.le_of_ble_eq_true rfl) (fun Γ C0 _ hrc hrs _ hD0 hF => ?_)
  have hD := dc_of hD0
  unfold f_X11_cut at h
  show Wp Γ 0 0 0 [(0, .ref (a 0)), (1, .int v1)] [] (WC cy a V J K X)
  refine r_aload_n C0 dX11_cut_0 rfl 0 rfl ?_
  refine callVv0 C0 h (hD _ _ _) mw_X11_begin rv_0 tm_X11_82 (fun y hy => c_X11_begin hy) (Nat.le_of_ble_eq_true rfl) (Nat.le_of_ble_eq_true rfl) dX11_cut_1 (fun r1 h => ?_)
  refine r_aload_n C0 dX11_cut_4 rfl 0 rfl ?_
  refine r_aload_n C0 dX11_cut_5 rfl 0 rfl ?_
  refine wcg_0_5 C0 tf_X11_53 dX11_cut_6 ?_
  refine r_iload_n C0 dX11_cut_9 rfl 1 rfl ?_
  refine callV1 C0 h (hD _ _ _) mw_X6_cutLine rv_6 tm_X11_103 (fun y hy => c_X6_cutLine hy) (Nat.le_of_ble_eq_true rfl) (Nat.le_of_ble_eq_true rfl) dX11_cut_10 (fun r2 h => ?_)
  obtain ⟨r3, hr, h⟩ := op_bind h
  cases h
  refine callAV (ce := 0) (sl := 0) (As := [.int r2.1]) (b := a 0) (rest := []) C0 en_ok trivial (hD _ _ _) mw_X11_keep rv_0 tm_X11_89 (c_X11_keep hr) rfl (Nat.le_of_ble_eq_true rfl) (Nat.le_of_ble_eq_true rfl) (by rw [hrc, hrs]; exact ⟨Nat.le_refl 3, Nat.le_refl 3750⟩) dX11_cut_13 (fun w2 r2 hΦ hD2 => ?_)
  obtain ⟨rfl, hΦ⟩ := hΦ
  exact hF (Nat.le_refl 3) (Nat.le_refl 3750) ⟨rfl, hΦ⟩ hD2 dX11_cut_16
theorem mw_X11_cut : MW yX11_cut cX11_cut 2 (some .int) RX11 1 := ⟨tcode_X11_cut, tim_X11_cut, tsel_X11_cut, tin_X11, rfl, by decide +kernel, by decide⟩
theorem dX11_thing_0 : decode cX11_thing 0 = .ok (.aload_n 0, 1) := by decide +kernel
theorem dX11_thing_1 : decode cX11_thing 1 = .ok (.invokevirtual 82, 3) := by decide +kernel
theorem dX11_thing_4 : decode cX11_thing 4 = .ok (.aload_n 0, 1) := by decide +kernel
theorem dX11_thing_5 : decode cX11_thing 5 = .ok (.aload_n 0, 1) := by decide +kernel
theorem dX11_thing_6 : decode cX11_thing 6 = .ok (.getfield 62, 3) := by decide +kernel
theorem dX11_thing_9 : decode cX11_thing 9 = .ok (.iload_n 1, 1) := by decide +kernel
theorem dX11_thing_10 : decode cX11_thing 10 = .ok (.iload_n 2, 1) := by decide +kernel
theorem dX11_thing_11 : decode cX11_thing 11 = .ok (.iload_n 3, 1) := by decide +kernel
theorem dX11_thing_12 : decode cX11_thing 12 = .ok (.iload 4, 2) := by decide +kernel
theorem dX11_thing_14 : decode cX11_thing 14 = .ok (.invokevirtual 106, 3) := by decide +kernel
theorem dX11_thing_17 : decode cX11_thing 17 = .ok (.invokevirtual 89, 3) := by decide +kernel
theorem dX11_thing_20 : decode cX11_thing 20 = .ok (.ireturn, 1) := by decide +kernel
def f_X11_thing (v1 : Int32) (v2 : Int32) (v3 : Int32) (v4 : Int32) (V : VT) (J : JT) : Option (Int32 × VT × JT × KO) :=
  (f_X11_begin V).bind fun r1 =>
  (f_X2_addThing v1 v2 v3 v4 r1).bind fun r2 =>
  (f_X11_keep r2.1 r2.2).bind fun r3 =>
  some (r3.1, r3.2.1, J, r3.2.2)
theorem c_X11_thing {l : Launch} {D : va_G} {cy : Nat → ClassId} {a : Nat → Nat} {V : VT} {J : JT} {K : Nat → Option Nat} {X : va_W} {v1 : Int32} {v2 : Int32} {v3 : Int32} {v4 : Int32} {y : Int32 × VT × JT × KO} (h : f_X11_thing v1 v2 v3 v4 V J = some y) : CTA EN l D cy yX11_thing cX11_thing 5 (some .int) 5 3 3750 [.ref (a 0), .int v1, .int v2, .int v3, .int v4] (WC cy a V J K X) (fun w2 r => r = some (.int y.1) ∧ KW cy a y.2.1 y.2.2.1 K X y.2.2.2 w2) := by
  refine mkAI (by decide) (Nat.le_of_ble_eq_true rfl) (fun Γ C0 _ hrc hrs _ hD0 hF => ?_)
  have hD := dc_of hD0
  unfold f_X11_thing at h
  show Wp Γ 0 0 0 [(0, .ref (a 0)), (1, .int v1), (2, .int v2), (3, .int v3), (4, .int v4)] [] (WC cy a V J K X)
  refine r_aload_n C0 dX11_thing_0 rfl 0 rfl ?_
  refine callVv0 C0 h (hD _ _ _) mw_X11_begin rv_0 tm_X11_82 (fun y hy => c_X11_begin hy) (Nat.le_of_ble_eq_true rfl) (Nat.le_of_ble_eq_true rfl) dX11_thing_1 (fun r1 h => ?_)
  refine r_aload_n C0 dX11_thing_4 rfl 0 rfl ?_
  refine r_aload_n C0 dX11_thing_5 rfl 0 rfl ?_
  refine wcg_0_6 C0 tf_X11_62 dX11_thing_6 ?_
  refine r_iload_n C0 dX11_thing_9 rfl 1 rfl ?_
  refine r_iload_n C0 dX11_thing_10 rfl 2 rfl ?_
  refine r_iload_n C0 dX11_thing_11 rfl 3 rfl ?_
  refine r_iload C0 dX11_thing_12 4 rfl ?_
  refine callV4 C0 h (hD _ _ _) mw_X2_addThing rv_7 tm_X11_106 (fun y hy => c_X2_addThing hy) (Nat.le_of_ble_eq_true rfl) (Nat.le_of_ble_eq_true rfl) dX11_thing_14 (fun r2 h => ?_)
  obtain ⟨r3, hr, h⟩ := op_bind h
  cases h
  refine callAV (ce := 0) (sl := 0) (As := [.int r2.1]) (b := a 0) (rest := []) C0 en_ok trivial (hD _ _ _) mw_X11_keep rv_0 tm_X11_89 (c_X11_keep hr) rfl (Nat.le_of_ble_eq_true rfl) (Nat.le_of_ble_eq_true rfl) (by rw [hrc, hrs]; exact ⟨Nat.le_refl 3, Nat.le_refl 3750⟩) dX11_thing_17 (fun w2 r2 hΦ hD2 => ?_)
  obtain ⟨rfl, hΦ⟩ := hΦ
  exact hF (Nat.le_refl 3) (Nat.le_refl 3750) ⟨rfl, hΦ⟩ hD2 dX11_thing_20
theorem mw_X11_thing : MW yX11_thing cX11_thing 5 (some .int) RX11 4 := ⟨tcode_X11_thing, tim_X11_thing, tsel_X11_thing, tin_X11, rfl, by decide +kernel, by decide⟩
theorem dX11_heat_0 : decode cX11_heat 0 = .ok (.aload_n 0, 1) := by decide +kernel
theorem dX11_heat_1 : decode cX11_heat 1 = .ok (.invokevirtual 82, 3) := by decide +kernel
theorem dX11_heat_4 : decode cX11_heat 4 = .ok (.aload_n 0, 1) := by decide +kernel
theorem dX11_heat_5 : decode cX11_heat 5 = .ok (.aload_n 0, 1) := by decide +kernel
theorem dX11_heat_6 : decode cX11_heat 6 = .ok (.getfield 62, 3) := by decide +kernel
theorem dX11_heat_9 : decode cX11_heat 9 = .ok (.iload_n 1, 1) := by decide +kernel
theorem dX11_heat_10 : decode cX11_heat 10 = .ok (.iload_n 2, 1) := by decide +kernel
theorem dX11_heat_11 : decode cX11_heat 11 = .ok (.invokevirtual 109, 3) := by decide +kernel
theorem dX11_heat_14 : decode cX11_heat 14 = .ok (.invokevirtual 89, 3) := by decide +kernel
theorem dX11_heat_17 : decode cX11_heat 17 = .ok (.ireturn, 1) := by decide +kernel
def f_X11_heat (v1 : Int32) (v2 : Int32) (V : VT) (J : JT) : Option (Int32 × VT × JT × KO) :=
  (f_X11_begin V).bind fun r1 =>
  (f_X2_heatLamp v1 v2 r1).bind fun r2 =>
  (f_X11_keep r2.1 r2.2).bind fun r3 =>
  some (r3.1, r3.2.1, J, r3.2.2)
theorem c_X11_heat {l : Launch} {D : va_G} {cy : Nat → ClassId} {a : Nat → Nat} {V : VT} {J : JT} {K : Nat → Option Nat} {X : va_W} {v1 : Int32} {v2 : Int32} {y : Int32 × VT × JT × KO} (h : f_X11_heat v1 v2 V J = some y) : CTA EN l D cy yX11_heat cX11_heat 3 (some .int) 5 3 3750 [.ref (a 0), .int v1, .int v2] (WC cy a V J K X) (fun w2 r => r = some (.int y.1) ∧ KW cy a y.2.1 y.2.2.1 K X y.2.2.2 w2) := by
  refine mkAI (by decide) (Nat.le_of_ble_eq_true rfl) (fun Γ C0 _ hrc hrs _ hD0 hF => ?_)
  have hD := dc_of hD0
  unfold f_X11_heat at h
  show Wp Γ 0 0 0 [(0, .ref (a 0)), (1, .int v1), (2, .int v2)] [] (WC cy a V J K X)
  refine r_aload_n C0 dX11_heat_0 rfl 0 rfl ?_
  refine callVv0 C0 h (hD _ _ _) mw_X11_begin rv_0 tm_X11_82 (fun y hy => c_X11_begin hy) (Nat.le_of_ble_eq_true rfl) (Nat.le_of_ble_eq_true rfl) dX11_heat_1 (fun r1 h => ?_)
  refine r_aload_n C0 dX11_heat_4 rfl 0 rfl ?_
  refine r_aload_n C0 dX11_heat_5 rfl 0 rfl ?_
  refine wcg_0_6 C0 tf_X11_62 dX11_heat_6 ?_
  refine r_iload_n C0 dX11_heat_9 rfl 1 rfl ?_
  refine r_iload_n C0 dX11_heat_10 rfl 2 rfl ?_
  refine callV2 C0 h (hD _ _ _) mw_X2_heatLamp rv_7 tm_X11_109 (fun y hy => c_X2_heatLamp hy) (Nat.le_of_ble_eq_true rfl) (Nat.le_of_ble_eq_true rfl) dX11_heat_11 (fun r2 h => ?_)
  obtain ⟨r3, hr, h⟩ := op_bind h
  cases h
  refine callAV (ce := 0) (sl := 0) (As := [.int r2.1]) (b := a 0) (rest := []) C0 en_ok trivial (hD _ _ _) mw_X11_keep rv_0 tm_X11_89 (c_X11_keep hr) rfl (Nat.le_of_ble_eq_true rfl) (Nat.le_of_ble_eq_true rfl) (by rw [hrc, hrs]; exact ⟨Nat.le_refl 3, Nat.le_refl 3750⟩) dX11_heat_14 (fun w2 r2 hΦ hD2 => ?_)
  obtain ⟨rfl, hΦ⟩ := hΦ
  exact hF (Nat.le_refl 3) (Nat.le_refl 3750) ⟨rfl, hΦ⟩ hD2 dX11_heat_17
theorem mw_X11_heat : MW yX11_heat cX11_heat 3 (some .int) RX11 2 := ⟨tcode_X11_heat, tim_X11_heat, tsel_X11_heat, tin_X11, rfl, by decide +kernel, by decide⟩
theorem dX11_hang_0 : decode cX11_hang 0 = .ok (.aload_n 0, 1) := by decide +kernel
theorem dX11_hang_1 : decode cX11_hang 1 = .ok (.invokevirtual 82, 3) := by decide +kernel
theorem dX11_hang_4 : decode cX11_hang 4 = .ok (.aload_n 0, 1) := by decide +kernel
theorem dX11_hang_5 : decode cX11_hang 5 = .ok (.aload_n 0, 1) := by decide +kernel
theorem dX11_hang_6 : decode cX11_hang 6 = .ok (.getfield 62, 3) := by decide +kernel
theorem dX11_hang_9 : decode cX11_hang 9 = .ok (.iload_n 1, 1) := by decide +kernel
theorem dX11_hang_10 : decode cX11_hang 10 = .ok (.iload_n 2, 1) := by decide +kernel
theorem dX11_hang_11 : decode cX11_hang 11 = .ok (.iload_n 3, 1) := by decide +kernel
theorem dX11_hang_12 : decode cX11_hang 12 = .ok (.invokevirtual 113, 3) := by decide +kernel
theorem dX11_hang_15 : decode cX11_hang 15 = .ok (.invokevirtual 89, 3) := by decide +kernel
theorem dX11_hang_18 : decode cX11_hang 18 = .ok (.ireturn, 1) := by decide +kernel
def f_X11_hang (v1 : Int32) (v2 : Int32) (v3 : Int32) (V : VT) (J : JT) : Option (Int32 × VT × JT × KO) :=
  (f_X11_begin V).bind fun r1 =>
  (f_X2_hangThing v1 v2 v3 r1 J).bind fun r2 =>
  (f_X11_keep r2.1 r2.2.1).bind fun r3 =>
  some (r3.1, r3.2.1, r2.2.2, r3.2.2)
theorem c_X11_hang {l : Launch} {D : va_G} {cy : Nat → ClassId} {a : Nat → Nat} {V : VT} {J : JT} {K : Nat → Option Nat} {X : va_W} {v1 : Int32} {v2 : Int32} {v3 : Int32} {y : Int32 × VT × JT × KO} (h : f_X11_hang v1 v2 v3 V J = some y) : CTA EN l D cy yX11_hang cX11_hang 4 (some .int) 6 3 3750 [.ref (a 0), .int v1, .int v2, .int v3] (WC cy a V J K X) (fun w2 r => r = some (.int y.1) ∧ KW cy a y.2.1 y.2.2.1 K X y.2.2.2 w2) := by
  refine mkAI (by decide) (Nat.le_of_ble_eq_true rfl) (fun Γ C0 _ hrc hrs _ hD0 hF => ?_)
  have hD := dc_of hD0
  unfold f_X11_hang at h
  show Wp Γ 0 0 0 [(0, .ref (a 0)), (1, .int v1), (2, .int v2), (3, .int v3)] [] (WC cy a V J K X)
  refine r_aload_n C0 dX11_hang_0 rfl 0 rfl ?_
  refine callVv0 C0 h (hD _ _ _) mw_X11_begin rv_0 tm_X11_82 (fun y hy => c_X11_begin hy) (Nat.le_of_ble_eq_true rfl) (Nat.le_of_ble_eq_true rfl) dX11_hang_1 (fun r1 h => ?_)
  refine r_aload_n C0 dX11_hang_4 rfl 0 rfl ?_
  refine r_aload_n C0 dX11_hang_5 rfl 0 rfl ?_
  refine wcg_0_6 C0 tf_X11_62 dX11_hang_6 ?_
  refine r_iload_n C0 dX11_hang_9 rfl 1 rfl ?_
  refine r_iload_n C0 dX11_hang_10 rfl 2 rfl ?_
  refine r_iload_n C0 dX11_hang_11 rfl 3 rfl ?_
  refine callV3 C0 h (hD _ _ _) mw_X2_hangThing rv_7 tm_X11_113 (fun y hy => c_X2_hangThing hy) (Nat.le_of_ble_eq_true rfl) (Nat.le_of_ble_eq_true rfl) dX11_hang_12 (fun r2 h => ?_)
  obtain ⟨r3, hr, h⟩ := op_bind h
  cases h
  refine callAV (ce := 0) (sl := 0) (As := [.int r2.1]) (b := a 0) (rest := []) C0 en_ok trivial (hD _ _ _) mw_X11_keep rv_0 tm_X11_89 (c_X11_keep hr) rfl (Nat.le_of_ble_eq_true rfl) (Nat.le_of_ble_eq_true rfl) (by rw [hrc, hrs]; exact ⟨Nat.le_refl 3, Nat.le_refl 3750⟩) dX11_hang_15 (fun w2 r2 hΦ hD2 => ?_)
  obtain ⟨rfl, hΦ⟩ := hΦ
  exact hF (Nat.le_refl 3) (Nat.le_refl 3750) ⟨rfl, hΦ⟩ hD2 dX11_hang_18
theorem mw_X11_hang : MW yX11_hang cX11_hang 4 (some .int) RX11 3 := ⟨tcode_X11_hang, tim_X11_hang, tsel_X11_hang, tin_X11, rfl, by decide +kernel, by decide⟩
theorem dX11_strike_0 : decode cX11_strike 0 = .ok (.aload_n 0, 1) := by decide +kernel
theorem dX11_strike_1 : decode cX11_strike 1 = .ok (.invokevirtual 82, 3) := by decide +kernel
theorem dX11_strike_4 : decode cX11_strike 4 = .ok (.aload_n 0, 1) := by decide +kernel
theorem dX11_strike_5 : decode cX11_strike 5 = .ok (.aload_n 0, 1) := by decide +kernel
theorem dX11_strike_6 : decode cX11_strike 6 = .ok (.getfield 62, 3) := by decide +kernel
theorem dX11_strike_9 : decode cX11_strike 9 = .ok (.iload_n 1, 1) := by decide +kernel
theorem dX11_strike_10 : decode cX11_strike 10 = .ok (.invokevirtual 116, 3) := by decide +kernel
theorem dX11_strike_13 : decode cX11_strike 13 = .ok (.invokevirtual 89, 3) := by decide +kernel
theorem dX11_strike_16 : decode cX11_strike 16 = .ok (.ireturn, 1) := by decide +kernel
def f_X11_strike (v1 : Int32) (V : VT) (J : JT) : Option (Int32 × VT × JT × KO) :=
  (f_X11_begin V).bind fun r1 =>
  (f_X2_takeDown v1 r1).bind fun r2 =>
  (f_X11_keep r2.1 r2.2).bind fun r3 =>
  some (r3.1, r3.2.1, J, r3.2.2)
theorem c_X11_strike {l : Launch} {D : va_G} {cy : Nat → ClassId} {a : Nat → Nat} {V : VT} {J : JT} {K : Nat → Option Nat} {X : va_W} {v1 : Int32} {y : Int32 × VT × JT × KO} (h : f_X11_strike v1 V J = some y) : CTA EN l D cy yX11_strike cX11_strike 2 (some .int) 5 3 3750 [.ref (a 0), .int v1] (WC cy a V J K X) (fun w2 r => r = some (.int y.1) ∧ KW cy a y.2.1 y.2.2.1 K X y.2.2.2 w2) := by
  refine mkAI (by decide) (Nat.le_of_ble_eq_true rfl) (fun Γ C0 _ hrc hrs _ hD0 hF => ?_)
  have hD := dc_of hD0
  unfold f_X11_strike at h
  show Wp Γ 0 0 0 [(0, .ref (a 0)), (1, .int v1)] [] (WC cy a V J K X)
  refine r_aload_n C0 dX11_strike_0 rfl 0 rfl ?_
  refine callVv0 C0 h (hD _ _ _) mw_X11_begin rv_0 tm_X11_82 (fun y hy => c_X11_begin hy) (Nat.le_of_ble_eq_true rfl) (Nat.le_of_ble_eq_true rfl) dX11_strike_1 (fun r1 h => ?_)
  refine r_aload_n C0 dX11_strike_4 rfl 0 rfl ?_
  refine r_aload_n C0 dX11_strike_5 rfl 0 rfl ?_
  refine wcg_0_6 C0 tf_X11_62 dX11_strike_6 ?_
  refine r_iload_n C0 dX11_strike_9 rfl 1 rfl ?_
  refine callV1 C0 h (hD _ _ _) mw_X2_takeDown rv_7 tm_X11_116 (fun y hy => c_X2_takeDown hy) (Nat.le_of_ble_eq_true rfl) (Nat.le_of_ble_eq_true rfl) dX11_strike_10 (fun r2 h => ?_)
  obtain ⟨r3, hr, h⟩ := op_bind h
  cases h
  refine callAV (ce := 0) (sl := 0) (As := [.int r2.1]) (b := a 0) (rest := []) C0 en_ok trivial (hD _ _ _) mw_X11_keep rv_0 tm_X11_89 (c_X11_keep hr) rfl (Nat.le_of_ble_eq_true rfl) (Nat.le_of_ble_eq_true rfl) (by rw [hrc, hrs]; exact ⟨Nat.le_refl 3, Nat.le_refl 3750⟩) dX11_strike_13 (fun w2 r2 hΦ hD2 => ?_)
  obtain ⟨rfl, hΦ⟩ := hΦ
  exact hF (Nat.le_refl 3) (Nat.le_refl 3750) ⟨rfl, hΦ⟩ hD2 dX11_strike_16
theorem mw_X11_strike : MW yX11_strike cX11_strike 2 (some .int) RX11 1 := ⟨tcode_X11_strike, tim_X11_strike, tsel_X11_strike, tin_X11, rfl, by decide +kernel, by decide⟩
theorem dX11_hook_0 : decode cX11_hook 0 = .ok (.aload_n 0, 1) := by decide +kernel
theorem dX11_hook_1 : decode cX11_hook 1 = .ok (.invokevirtual 82, 3) := by decide +kernel
theorem dX11_hook_4 : decode cX11_hook 4 = .ok (.aload_n 0, 1) := by decide +kernel
theorem dX11_hook_5 : decode cX11_hook 5 = .ok (.aload_n 0, 1) := by decide +kernel
theorem dX11_hook_6 : decode cX11_hook 6 = .ok (.getfield 53, 3) := by decide +kernel
theorem dX11_hook_9 : decode cX11_hook 9 = .ok (.iload_n 1, 1) := by decide +kernel
theorem dX11_hook_10 : decode cX11_hook 10 = .ok (.iload_n 2, 1) := by decide +kernel
theorem dX11_hook_11 : decode cX11_hook 11 = .ok (.iload_n 3, 1) := by decide +kernel
theorem dX11_hook_12 : decode cX11_hook 12 = .ok (.invokevirtual 119, 3) := by decide +kernel
theorem dX11_hook_15 : decode cX11_hook 15 = .ok (.invokevirtual 89, 3) := by decide +kernel
theorem dX11_hook_18 : decode cX11_hook 18 = .ok (.ireturn, 1) := by decide +kernel
def f_X11_hook (v1 : Int32) (v2 : Int32) (v3 : Int32) (V : VT) (J : JT) : Option (Int32 × VT × JT × KO) :=
  (f_X11_begin V).bind fun r1 =>
  (f_X6_setHook v1 v2 v3 r1).bind fun r2 =>
  (f_X11_keep r2.1 r2.2).bind fun r3 =>
  some (r3.1, r3.2.1, J, r3.2.2)
theorem c_X11_hook {l : Launch} {D : va_G} {cy : Nat → ClassId} {a : Nat → Nat} {V : VT} {J : JT} {K : Nat → Option Nat} {X : va_W} {v1 : Int32} {v2 : Int32} {v3 : Int32} {y : Int32 × VT × JT × KO} (h : f_X11_hook v1 v2 v3 V J = some y) : CTA EN l D cy yX11_hook cX11_hook 4 (some .int) 5 3 3750 [.ref (a 0), .int v1, .int v2, .int v3] (WC cy a V J K X) (fun w2 r => r = some (.int y.1) ∧ KW cy a y.2.1 y.2.2.1 K X y.2.2.2 w2) := by
  refine mkAI (by decide) (Nat.le_of_ble_eq_true rfl) (fun Γ C0 _ hrc hrs _ hD0 hF => ?_)
  have hD := dc_of hD0
  unfold f_X11_hook at h
  show Wp Γ 0 0 0 [(0, .ref (a 0)), (1, .int v1), (2, .int v2), (3, .int v3)] [] (WC cy a V J K X)
  refine r_aload_n C0 dX11_hook_0 rfl 0 rfl ?_
  refine callVv0 C0 h (hD _ _ _) mw_X11_begin rv_0 tm_X11_82 (fun y hy => c_X11_begin hy) (Nat.le_of_ble_eq_true rfl) (Nat.le_of_ble_eq_true rfl) dX11_hook_1 (fun r1 h => ?_)
  refine r_aload_n C0 dX11_hook_4 rfl 0 rfl ?_
  refine r_aload_n C0 dX11_hook_5 rfl 0 rfl ?_
  refine wcg_0_5 C0 tf_X11_53 dX11_hook_6 ?_
  refine r_iload_n C0 dX11_hook_9 rfl 1 rfl ?_
  refine r_iload_n C0 dX11_hook_10 rfl 2 rfl ?_
  refine r_iload_n C0 dX11_hook_11 rfl 3 rfl ?_
  refine callV3 C0 h (hD _ _ _) mw_X6_setHook rv_6 tm_X11_119 (fun y hy => c_X6_setHook hy) (Nat.le_of_ble_eq_true rfl) (Nat.le_of_ble_eq_true rfl) dX11_hook_12 (fun r2 h => ?_)
  obtain ⟨r3, hr, h⟩ := op_bind h
  cases h
  refine callAV (ce := 0) (sl := 0) (As := [.int r2.1]) (b := a 0) (rest := []) C0 en_ok trivial (hD _ _ _) mw_X11_keep rv_0 tm_X11_89 (c_X11_keep hr) rfl (Nat.le_of_ble_eq_true rfl) (Nat.le_of_ble_eq_true rfl) (by rw [hrc, hrs]; exact ⟨Nat.le_refl 3, Nat.le_refl 3750⟩) dX11_hook_15 (fun w2 r2 hΦ hD2 => ?_)
  obtain ⟨rfl, hΦ⟩ := hΦ
  exact hF (Nat.le_refl 3) (Nat.le_refl 3750) ⟨rfl, hΦ⟩ hD2 dX11_hook_18
theorem mw_X11_hook : MW yX11_hook cX11_hook 4 (some .int) RX11 3 := ⟨tcode_X11_hook, tim_X11_hook, tsel_X11_hook, tin_X11, rfl, by decide +kernel, by decide⟩
theorem dX11_brick_0 : decode cX11_brick 0 = .ok (.aload_n 0, 1) := by decide +kernel
theorem dX11_brick_1 : decode cX11_brick 1 = .ok (.invokevirtual 82, 3) := by decide +kernel
theorem dX11_brick_4 : decode cX11_brick 4 = .ok (.aload_n 0, 1) := by decide +kernel
theorem dX11_brick_5 : decode cX11_brick 5 = .ok (.aload_n 0, 1) := by decide +kernel
theorem dX11_brick_6 : decode cX11_brick 6 = .ok (.getfield 53, 3) := by decide +kernel
theorem dX11_brick_9 : decode cX11_brick 9 = .ok (.iload_n 1, 1) := by decide +kernel
theorem dX11_brick_10 : decode cX11_brick 10 = .ok (.iload_n 2, 1) := by decide +kernel
theorem dX11_brick_11 : decode cX11_brick 11 = .ok (.invokevirtual 123, 3) := by decide +kernel
theorem dX11_brick_14 : decode cX11_brick 14 = .ok (.invokevirtual 89, 3) := by decide +kernel
theorem dX11_brick_17 : decode cX11_brick 17 = .ok (.ireturn, 1) := by decide +kernel
def f_X11_brick (v1 : Int32) (v2 : Int32) (V : VT) (J : JT) : Option (Int32 × VT × JT × KO) :=
  (f_X11_begin V).bind fun r1 =>
  (f_X6_putBricks v1 v2 r1).bind fun r2 =>
  (f_X11_keep r2.1 r2.2).bind fun r3 =>
  some (r3.1, r3.2.1, J, r3.2.2)
theorem c_X11_brick {l : Launch} {D : va_G} {cy : Nat → ClassId} {a : Nat → Nat} {V : VT} {J : JT} {K : Nat → Option Nat} {X : va_W} {v1 : Int32} {v2 : Int32} {y : Int32 × VT × JT × KO} (h : f_X11_brick v1 v2 V J = some y) : CTA EN l D cy yX11_brick cX11_brick 3 (some .int) 5 3 3750 [.ref (a 0), .int v1, .int v2] (WC cy a V J K X) (fun w2 r => r = some (.int y.1) ∧ KW cy a y.2.1 y.2.2.1 K X y.2.2.2 w2) := by
  refine mkAI (by decide) (Nat.le_of_ble_eq_true rfl) (fun Γ C0 _ hrc hrs _ hD0 hF => ?_)
  have hD := dc_of hD0
  unfold f_X11_brick at h
  show Wp Γ 0 0 0 [(0, .ref (a 0)), (1, .int v1), (2, .int v2)] [] (WC cy a V J K X)
  refine r_aload_n C0 dX11_brick_0 rfl 0 rfl ?_
  refine callVv0 C0 h (hD _ _ _) mw_X11_begin rv_0 tm_X11_82 (fun y hy => c_X11_begin hy) (Nat.le_of_ble_eq_true rfl) (Nat.le_of_ble_eq_true rfl) dX11_brick_1 (fun r1 h => ?_)
  refine r_aload_n C0 dX11_brick_4 rfl 0 rfl ?_
  refine r_aload_n C0 dX11_brick_5 rfl 0 rfl ?_
  refine wcg_0_5 C0 tf_X11_53 dX11_brick_6 ?_
  refine r_iload_n C0 dX11_brick_9 rfl 1 rfl ?_
  refine r_iload_n C0 dX11_brick_10 rfl 2 rfl ?_
  refine callV2 C0 h (hD _ _ _) mw_X6_putBricks rv_6 tm_X11_123 (fun y hy => c_X6_putBricks hy) (Nat.le_of_ble_eq_true rfl) (Nat.le_of_ble_eq_true rfl) dX11_brick_11 (fun r2 h => ?_)
  obtain ⟨r3, hr, h⟩ := op_bind h
  cases h
  refine callAV (ce := 0) (sl := 0) (As := [.int r2.1]) (b := a 0) (rest := []) C0 en_ok trivial (hD _ _ _) mw_X11_keep rv_0 tm_X11_89 (c_X11_keep hr) rfl (Nat.le_of_ble_eq_true rfl) (Nat.le_of_ble_eq_true rfl) (by rw [hrc, hrs]; exact ⟨Nat.le_refl 3, Nat.le_refl 3750⟩) dX11_brick_14 (fun w2 r2 hΦ hD2 => ?_)
  obtain ⟨rfl, hΦ⟩ := hΦ
  exact hF (Nat.le_refl 3) (Nat.le_refl 3750) ⟨rfl, hΦ⟩ hD2 dX11_brick_17
theorem mw_X11_brick : MW yX11_brick cX11_brick 3 (some .int) RX11 2 := ⟨tcode_X11_brick, tim_X11_brick, tsel_X11_brick, tin_X11, rfl, by decide +kernel, by decide⟩
theorem dX11_shift_0 : decode cX11_shift 0 = .ok (.aload_n 0, 1) := by decide +kernel
theorem dX11_shift_1 : decode cX11_shift 1 = .ok (.invokevirtual 82, 3) := by decide +kernel
theorem dX11_shift_4 : decode cX11_shift 4 = .ok (.aload_n 0, 1) := by decide +kernel
theorem dX11_shift_5 : decode cX11_shift 5 = .ok (.aload_n 0, 1) := by decide +kernel
theorem dX11_shift_6 : decode cX11_shift 6 = .ok (.getfield 62, 3) := by decide +kernel
theorem dX11_shift_9 : decode cX11_shift 9 = .ok (.iload_n 1, 1) := by decide +kernel
theorem dX11_shift_10 : decode cX11_shift 10 = .ok (.iload_n 2, 1) := by decide +kernel
theorem dX11_shift_11 : decode cX11_shift 11 = .ok (.iload_n 3, 1) := by decide +kernel
theorem dX11_shift_12 : decode cX11_shift 12 = .ok (.iload 4, 2) := by decide +kernel
theorem dX11_shift_14 : decode cX11_shift 14 = .ok (.invokevirtual 126, 3) := by decide +kernel
theorem dX11_shift_17 : decode cX11_shift 17 = .ok (.invokevirtual 89, 3) := by decide +kernel
theorem dX11_shift_20 : decode cX11_shift 20 = .ok (.ireturn, 1) := by decide +kernel
def f_X11_shift (v1 : Int32) (v2 : Int32) (v3 : Int32) (v4 : Int32) (V : VT) (J : JT) : Option (Int32 × VT × JT × KO) :=
  (f_X11_begin V).bind fun r1 =>
  (f_X2_carry v1 v2 v3 v4 r1 J).bind fun r2 =>
  (f_X11_keep r2.1 r2.2.1).bind fun r3 =>
  some (r3.1, r3.2.1, r2.2.2, r3.2.2)
theorem c_X11_shift {l : Launch} {D : va_G} {cy : Nat → ClassId} {a : Nat → Nat} {V : VT} {J : JT} {K : Nat → Option Nat} {X : va_W} {v1 : Int32} {v2 : Int32} {v3 : Int32} {v4 : Int32} {y : Int32 × VT × JT × KO} (h : f_X11_shift v1 v2 v3 v4 V J = some y) : CTA EN l D cy yX11_shift cX11_shift 5 (some .int) 6 3 3750 [.ref (a 0), .int v1, .int v2, .int v3, .int v4] (WC cy a V J K X) (fun w2 r => r = some (.int y.1) ∧ KW cy a y.2.1 y.2.2.1 K X y.2.2.2 w2) := by
  refine mkAI (by decide) (Nat.le_of_ble_eq_true rfl) (fun Γ C0 _ hrc hrs _ hD0 hF => ?_)
  have hD := dc_of hD0
  unfold f_X11_shift at h
  show Wp Γ 0 0 0 [(0, .ref (a 0)), (1, .int v1), (2, .int v2), (3, .int v3), (4, .int v4)] [] (WC cy a V J K X)
  refine r_aload_n C0 dX11_shift_0 rfl 0 rfl ?_
  refine callVv0 C0 h (hD _ _ _) mw_X11_begin rv_0 tm_X11_82 (fun y hy => c_X11_begin hy) (Nat.le_of_ble_eq_true rfl) (Nat.le_of_ble_eq_true rfl) dX11_shift_1 (fun r1 h => ?_)
  refine r_aload_n C0 dX11_shift_4 rfl 0 rfl ?_
  refine r_aload_n C0 dX11_shift_5 rfl 0 rfl ?_
  refine wcg_0_6 C0 tf_X11_62 dX11_shift_6 ?_
  refine r_iload_n C0 dX11_shift_9 rfl 1 rfl ?_
  refine r_iload_n C0 dX11_shift_10 rfl 2 rfl ?_
  refine r_iload_n C0 dX11_shift_11 rfl 3 rfl ?_
  refine r_iload C0 dX11_shift_12 4 rfl ?_
  refine callV4 C0 h (hD _ _ _) mw_X2_carry rv_7 tm_X11_126 (fun y hy => c_X2_carry hy) (Nat.le_of_ble_eq_true rfl) (Nat.le_of_ble_eq_true rfl) dX11_shift_14 (fun r2 h => ?_)
  obtain ⟨r3, hr, h⟩ := op_bind h
  cases h
  refine callAV (ce := 0) (sl := 0) (As := [.int r2.1]) (b := a 0) (rest := []) C0 en_ok trivial (hD _ _ _) mw_X11_keep rv_0 tm_X11_89 (c_X11_keep hr) rfl (Nat.le_of_ble_eq_true rfl) (Nat.le_of_ble_eq_true rfl) (by rw [hrc, hrs]; exact ⟨Nat.le_refl 3, Nat.le_refl 3750⟩) dX11_shift_17 (fun w2 r2 hΦ hD2 => ?_)
  obtain ⟨rfl, hΦ⟩ := hΦ
  exact hF (Nat.le_refl 3) (Nat.le_refl 3750) ⟨rfl, hΦ⟩ hD2 dX11_shift_20
theorem mw_X11_shift : MW yX11_shift cX11_shift 5 (some .int) RX11 4 := ⟨tcode_X11_shift, tim_X11_shift, tsel_X11_shift, tin_X11, rfl, by decide +kernel, by decide⟩
theorem dX11_flag_0 : decode cX11_flag 0 = .ok (.aload_n 0, 1) := by decide +kernel
theorem dX11_flag_1 : decode cX11_flag 1 = .ok (.invokevirtual 82, 3) := by decide +kernel
theorem dX11_flag_4 : decode cX11_flag 4 = .ok (.aload_n 0, 1) := by decide +kernel
theorem dX11_flag_5 : decode cX11_flag 5 = .ok (.aload_n 0, 1) := by decide +kernel
theorem dX11_flag_6 : decode cX11_flag 6 = .ok (.getfield 53, 3) := by decide +kernel
theorem dX11_flag_9 : decode cX11_flag 9 = .ok (.iload_n 1, 1) := by decide +kernel
theorem dX11_flag_10 : decode cX11_flag 10 = .ok (.iload_n 2, 1) := by decide +kernel
theorem dX11_flag_11 : decode cX11_flag 11 = .ok (.invokevirtual 129, 3) := by decide +kernel
theorem dX11_flag_14 : decode cX11_flag 14 = .ok (.invokevirtual 89, 3) := by decide +kernel
theorem dX11_flag_17 : decode cX11_flag 17 = .ok (.ireturn, 1) := by decide +kernel
def f_X11_flag (v1 : Int32) (v2 : Int32) (V : VT) (J : JT) : Option (Int32 × VT × JT × KO) :=
  (f_X11_begin V).bind fun r1 =>
  (f_X6_setFlag v1 v2 r1).bind fun r2 =>
  (f_X11_keep r2.1 r2.2).bind fun r3 =>
  some (r3.1, r3.2.1, J, r3.2.2)
theorem c_X11_flag {l : Launch} {D : va_G} {cy : Nat → ClassId} {a : Nat → Nat} {V : VT} {J : JT} {K : Nat → Option Nat} {X : va_W} {v1 : Int32} {v2 : Int32} {y : Int32 × VT × JT × KO} (h : f_X11_flag v1 v2 V J = some y) : CTA EN l D cy yX11_flag cX11_flag 3 (some .int) 5 3 3750 [.ref (a 0), .int v1, .int v2] (WC cy a V J K X) (fun w2 r => r = some (.int y.1) ∧ KW cy a y.2.1 y.2.2.1 K X y.2.2.2 w2) := by
  refine mkAI (by decide) (Nat.le_of_ble_eq_true rfl) (fun Γ C0 _ hrc hrs _ hD0 hF => ?_)
  have hD := dc_of hD0
  unfold f_X11_flag at h
  show Wp Γ 0 0 0 [(0, .ref (a 0)), (1, .int v1), (2, .int v2)] [] (WC cy a V J K X)
  refine r_aload_n C0 dX11_flag_0 rfl 0 rfl ?_
  refine callVv0 C0 h (hD _ _ _) mw_X11_begin rv_0 tm_X11_82 (fun y hy => c_X11_begin hy) (Nat.le_of_ble_eq_true rfl) (Nat.le_of_ble_eq_true rfl) dX11_flag_1 (fun r1 h => ?_)
  refine r_aload_n C0 dX11_flag_4 rfl 0 rfl ?_
  refine r_aload_n C0 dX11_flag_5 rfl 0 rfl ?_
  refine wcg_0_5 C0 tf_X11_53 dX11_flag_6 ?_
  refine r_iload_n C0 dX11_flag_9 rfl 1 rfl ?_
  refine r_iload_n C0 dX11_flag_10 rfl 2 rfl ?_
  refine callV2 C0 h (hD _ _ _) mw_X6_setFlag rv_6 tm_X11_129 (fun y hy => c_X6_setFlag hy) (Nat.le_of_ble_eq_true rfl) (Nat.le_of_ble_eq_true rfl) dX11_flag_11 (fun r2 h => ?_)
  obtain ⟨r3, hr, h⟩ := op_bind h
  cases h
  refine callAV (ce := 0) (sl := 0) (As := [.int r2.1]) (b := a 0) (rest := []) C0 en_ok trivial (hD _ _ _) mw_X11_keep rv_0 tm_X11_89 (c_X11_keep hr) rfl (Nat.le_of_ble_eq_true rfl) (Nat.le_of_ble_eq_true rfl) (by rw [hrc, hrs]; exact ⟨Nat.le_refl 3, Nat.le_refl 3750⟩) dX11_flag_14 (fun w2 r2 hΦ hD2 => ?_)
  obtain ⟨rfl, hΦ⟩ := hΦ
  exact hF (Nat.le_refl 3) (Nat.le_refl 3750) ⟨rfl, hΦ⟩ hD2 dX11_flag_17
theorem mw_X11_flag : MW yX11_flag cX11_flag 3 (some .int) RX11 2 := ⟨tcode_X11_flag, tim_X11_flag, tsel_X11_flag, tin_X11, rfl, by decide +kernel, by decide⟩
theorem dX11_cue_0 : decode cX11_cue 0 = .ok (.aload_n 0, 1) := by decide +kernel
theorem dX11_cue_1 : decode cX11_cue 1 = .ok (.invokevirtual 82, 3) := by decide +kernel
theorem dX11_cue_4 : decode cX11_cue 4 = .ok (.aload_n 0, 1) := by decide +kernel
theorem dX11_cue_5 : decode cX11_cue 5 = .ok (.aload_n 0, 1) := by decide +kernel
theorem dX11_cue_6 : decode cX11_cue 6 = .ok (.getfield 69, 3) := by decide +kernel
theorem dX11_cue_9 : decode cX11_cue 9 = .ok (.iload_n 1, 1) := by decide +kernel
theorem dX11_cue_10 : decode cX11_cue 10 = .ok (.iload_n 2, 1) := by decide +kernel
theorem dX11_cue_11 : decode cX11_cue 11 = .ok (.iload_n 3, 1) := by decide +kernel
theorem dX11_cue_12 : decode cX11_cue 12 = .ok (.iload 4, 2) := by decide +kernel
theorem dX11_cue_14 : decode cX11_cue 14 = .ok (.invokevirtual 138, 3) := by decide +kernel
theorem dX11_cue_17 : decode cX11_cue 17 = .ok (.invokevirtual 89, 3) := by decide +kernel
theorem dX11_cue_20 : decode cX11_cue 20 = .ok (.ireturn, 1) := by decide +kernel
def f_X11_cue (v1 : Int32) (v2 : Int32) (v3 : Int32) (v4 : Int32) (V : VT) (J : JT) : Option (Int32 × VT × JT × KO) :=
  (f_X11_begin V).bind fun r1 =>
  (f_X0_addCue v1 v2 v3 v4 r1).bind fun r2 =>
  (f_X11_keep r2.1 r2.2).bind fun r3 =>
  some (r3.1, r3.2.1, J, r3.2.2)
theorem c_X11_cue {l : Launch} {D : va_G} {cy : Nat → ClassId} {a : Nat → Nat} {V : VT} {J : JT} {K : Nat → Option Nat} {X : va_W} {v1 : Int32} {v2 : Int32} {v3 : Int32} {v4 : Int32} {y : Int32 × VT × JT × KO} (h : f_X11_cue v1 v2 v3 v4 V J = some y) : CTA EN l D cy yX11_cue cX11_cue 5 (some .int) 5 3 3750 [.ref (a 0), .int v1, .int v2, .int v3, .int v4] (WC cy a V J K X) (fun w2 r => r = some (.int y.1) ∧ KW cy a y.2.1 y.2.2.1 K X y.2.2.2 w2) := by
  refine mkAI (by decide) (Nat.le_of_ble_eq_true rfl) (fun Γ C0 _ hrc hrs _ hD0 hF => ?_)
  have hD := dc_of hD0
  unfold f_X11_cue at h
  show Wp Γ 0 0 0 [(0, .ref (a 0)), (1, .int v1), (2, .int v2), (3, .int v3), (4, .int v4)] [] (WC cy a V J K X)
  refine r_aload_n C0 dX11_cue_0 rfl 0 rfl ?_
  refine callVv0 C0 h (hD _ _ _) mw_X11_begin rv_0 tm_X11_82 (fun y hy => c_X11_begin hy) (Nat.le_of_ble_eq_true rfl) (Nat.le_of_ble_eq_true rfl) dX11_cue_1 (fun r1 h => ?_)
  refine r_aload_n C0 dX11_cue_4 rfl 0 rfl ?_
  refine r_aload_n C0 dX11_cue_5 rfl 0 rfl ?_
  refine wcg_0_7 C0 tf_X11_69 dX11_cue_6 ?_
  refine r_iload_n C0 dX11_cue_9 rfl 1 rfl ?_
  refine r_iload_n C0 dX11_cue_10 rfl 2 rfl ?_
  refine r_iload_n C0 dX11_cue_11 rfl 3 rfl ?_
  refine r_iload C0 dX11_cue_12 4 rfl ?_
  refine callV4 C0 h (hD _ _ _) mw_X0_addCue rv_8 tm_X11_138 (fun y hy => c_X0_addCue hy) (Nat.le_of_ble_eq_true rfl) (Nat.le_of_ble_eq_true rfl) dX11_cue_14 (fun r2 h => ?_)
  obtain ⟨r3, hr, h⟩ := op_bind h
  cases h
  refine callAV (ce := 0) (sl := 0) (As := [.int r2.1]) (b := a 0) (rest := []) C0 en_ok trivial (hD _ _ _) mw_X11_keep rv_0 tm_X11_89 (c_X11_keep hr) rfl (Nat.le_of_ble_eq_true rfl) (Nat.le_of_ble_eq_true rfl) (by rw [hrc, hrs]; exact ⟨Nat.le_refl 3, Nat.le_refl 3750⟩) dX11_cue_17 (fun w2 r2 hΦ hD2 => ?_)
  obtain ⟨rfl, hΦ⟩ := hΦ
  exact hF (Nat.le_refl 3) (Nat.le_refl 3750) ⟨rfl, hΦ⟩ hD2 dX11_cue_20
theorem mw_X11_cue : MW yX11_cue cX11_cue 5 (some .int) RX11 4 := ⟨tcode_X11_cue, tim_X11_cue, tsel_X11_cue, tin_X11, rfl, by decide +kernel, by decide⟩
theorem dX11_hush_0 : decode cX11_hush 0 = .ok (.aload_n 0, 1) := by decide +kernel
theorem dX11_hush_1 : decode cX11_hush 1 = .ok (.invokevirtual 82, 3) := by decide +kernel
theorem dX11_hush_4 : decode cX11_hush 4 = .ok (.aload_n 0, 1) := by decide +kernel
theorem dX11_hush_5 : decode cX11_hush 5 = .ok (.aload_n 0, 1) := by decide +kernel
theorem dX11_hush_6 : decode cX11_hush 6 = .ok (.getfield 69, 3) := by decide +kernel
theorem dX11_hush_9 : decode cX11_hush 9 = .ok (.iload_n 1, 1) := by decide +kernel
theorem dX11_hush_10 : decode cX11_hush 10 = .ok (.invokevirtual 141, 3) := by decide +kernel
theorem dX11_hush_13 : decode cX11_hush 13 = .ok (.invokevirtual 89, 3) := by decide +kernel
theorem dX11_hush_16 : decode cX11_hush 16 = .ok (.ireturn, 1) := by decide +kernel
def f_X11_hush (v1 : Int32) (V : VT) (J : JT) : Option (Int32 × VT × JT × KO) :=
  (f_X11_begin V).bind fun r1 =>
  (f_X0_hushBar v1 r1).bind fun r2 =>
  (f_X11_keep r2.1 r2.2).bind fun r3 =>
  some (r3.1, r3.2.1, J, r3.2.2)
theorem c_X11_hush {l : Launch} {D : va_G} {cy : Nat → ClassId} {a : Nat → Nat} {V : VT} {J : JT} {K : Nat → Option Nat} {X : va_W} {v1 : Int32} {y : Int32 × VT × JT × KO} (h : f_X11_hush v1 V J = some y) : CTA EN l D cy yX11_hush cX11_hush 2 (some .int) 5 3 3750 [.ref (a 0), .int v1] (WC cy a V J K X) (fun w2 r => r = some (.int y.1) ∧ KW cy a y.2.1 y.2.2.1 K X y.2.2.2 w2) := by
  refine mkAI (by decide) (Nat.le_of_ble_eq_true rfl) (fun Γ C0 _ hrc hrs _ hD0 hF => ?_)
  have hD := dc_of hD0
  unfold f_X11_hush at h
  show Wp Γ 0 0 0 [(0, .ref (a 0)), (1, .int v1)] [] (WC cy a V J K X)
  refine r_aload_n C0 dX11_hush_0 rfl 0 rfl ?_
  refine callVv0 C0 h (hD _ _ _) mw_X11_begin rv_0 tm_X11_82 (fun y hy => c_X11_begin hy) (Nat.le_of_ble_eq_true rfl) (Nat.le_of_ble_eq_true rfl) dX11_hush_1 (fun r1 h => ?_)
  refine r_aload_n C0 dX11_hush_4 rfl 0 rfl ?_
  refine r_aload_n C0 dX11_hush_5 rfl 0 rfl ?_
  refine wcg_0_7 C0 tf_X11_69 dX11_hush_6 ?_
  refine r_iload_n C0 dX11_hush_9 rfl 1 rfl ?_
  refine callV1 C0 h (hD _ _ _) mw_X0_hushBar rv_8 tm_X11_141 (fun y hy => c_X0_hushBar hy) (Nat.le_of_ble_eq_true rfl) (Nat.le_of_ble_eq_true rfl) dX11_hush_10 (fun r2 h => ?_)
  obtain ⟨r3, hr, h⟩ := op_bind h
  cases h
  refine callAV (ce := 0) (sl := 0) (As := [.int r2.1]) (b := a 0) (rest := []) C0 en_ok trivial (hD _ _ _) mw_X11_keep rv_0 tm_X11_89 (c_X11_keep hr) rfl (Nat.le_of_ble_eq_true rfl) (Nat.le_of_ble_eq_true rfl) (by rw [hrc, hrs]; exact ⟨Nat.le_refl 3, Nat.le_refl 3750⟩) dX11_hush_13 (fun w2 r2 hΦ hD2 => ?_)
  obtain ⟨rfl, hΦ⟩ := hΦ
  exact hF (Nat.le_refl 3) (Nat.le_refl 3750) ⟨rfl, hΦ⟩ hD2 dX11_hush_16
theorem mw_X11_hush : MW yX11_hush cX11_hush 2 (some .int) RX11 1 := ⟨tcode_X11_hush, tim_X11_hush, tsel_X11_hush, tin_X11, rfl, by decide +kernel, by decide⟩
theorem dX11_go_0 : decode cX11_go 0 = .ok (.aload_n 0, 1) := by decide +kernel
theorem dX11_go_1 : decode cX11_go 1 = .ok (.invokevirtual 82, 3) := by decide +kernel
theorem dX11_go_4 : decode cX11_go 4 = .ok (.aload_n 0, 1) := by decide +kernel
theorem dX11_go_5 : decode cX11_go 5 = .ok (.aload_n 0, 1) := by decide +kernel
theorem dX11_go_6 : decode cX11_go 6 = .ok (.getfield 69, 3) := by decide +kernel
theorem dX11_go_9 : decode cX11_go 9 = .ok (.iload_n 1, 1) := by decide +kernel
theorem dX11_go_10 : decode cX11_go 10 = .ok (.invokevirtual 144, 3) := by decide +kernel
theorem dX11_go_13 : decode cX11_go 13 = .ok (.invokevirtual 89, 3) := by decide +kernel
theorem dX11_go_16 : decode cX11_go 16 = .ok (.ireturn, 1) := by decide +kernel
def f_X11_go (v1 : Int32) (V : VT) (J : JT) : Option (Int32 × VT × JT × KO) :=
  (f_X11_begin V).bind fun r1 =>
  (f_X0_runTicks v1 r1 J).bind fun r2 =>
  (f_X11_keep r2.1 r2.2.1).bind fun r3 =>
  some (r3.1, r3.2.1, r2.2.2, r3.2.2)
theorem c_X11_go {l : Launch} {D : va_G} {cy : Nat → ClassId} {a : Nat → Nat} {V : VT} {J : JT} {K : Nat → Option Nat} {X : va_W} {v1 : Int32} {y : Int32 × VT × JT × KO} (h : f_X11_go v1 V J = some y) : CTA EN l D cy yX11_go cX11_go 2 (some .int) 6 3 3750 [.ref (a 0), .int v1] (WC cy a V J K X) (fun w2 r => r = some (.int y.1) ∧ KW cy a y.2.1 y.2.2.1 K X y.2.2.2 w2) := by
  refine mkAI (by decide) (Nat.le_of_ble_eq_true rfl) (fun Γ C0 _ hrc hrs _ hD0 hF => ?_)
  have hD := dc_of hD0
  unfold f_X11_go at h
  show Wp Γ 0 0 0 [(0, .ref (a 0)), (1, .int v1)] [] (WC cy a V J K X)
  refine r_aload_n C0 dX11_go_0 rfl 0 rfl ?_
  refine callVv0 C0 h (hD _ _ _) mw_X11_begin rv_0 tm_X11_82 (fun y hy => c_X11_begin hy) (Nat.le_of_ble_eq_true rfl) (Nat.le_of_ble_eq_true rfl) dX11_go_1 (fun r1 h => ?_)
  refine r_aload_n C0 dX11_go_4 rfl 0 rfl ?_
  refine r_aload_n C0 dX11_go_5 rfl 0 rfl ?_
  refine wcg_0_7 C0 tf_X11_69 dX11_go_6 ?_
  refine r_iload_n C0 dX11_go_9 rfl 1 rfl ?_
  refine callV1 C0 h (hD _ _ _) mw_X0_runTicks rv_8 tm_X11_144 (fun y hy => c_X0_runTicks hy) (Nat.le_of_ble_eq_true rfl) (Nat.le_of_ble_eq_true rfl) dX11_go_10 (fun r2 h => ?_)
  obtain ⟨r3, hr, h⟩ := op_bind h
  cases h
  refine callAV (ce := 0) (sl := 0) (As := [.int r2.1]) (b := a 0) (rest := []) C0 en_ok trivial (hD _ _ _) mw_X11_keep rv_0 tm_X11_89 (c_X11_keep hr) rfl (Nat.le_of_ble_eq_true rfl) (Nat.le_of_ble_eq_true rfl) (by rw [hrc, hrs]; exact ⟨Nat.le_refl 3, Nat.le_refl 3750⟩) dX11_go_13 (fun w2 r2 hΦ hD2 => ?_)
  obtain ⟨rfl, hΦ⟩ := hΦ
  exact hF (Nat.le_refl 3) (Nat.le_refl 3750) ⟨rfl, hΦ⟩ hD2 dX11_go_16
theorem mw_X11_go : MW yX11_go cX11_go 2 (some .int) RX11 1 := ⟨tcode_X11_go, tim_X11_go, tsel_X11_go, tin_X11, rfl, by decide +kernel, by decide⟩
theorem mw_X11_undo : MW yX11_undo cX11_undo 1 (some .int) RX11 0 := ⟨tcode_X11_undo, tim_X11_undo, tsel_X11_undo, tin_X11, rfl, by decide +kernel, by decide⟩
