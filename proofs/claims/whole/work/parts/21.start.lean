theorem kb_63 : (Int8.ofInt 63).toInt32 = 63 := by decide
theorem ki_6 : Int32.ofInt 6 = 6 := by decide
/-! THE CLAIM OUT OF ONE WALK OF THE LAW'S BODY. Your part is whole_start (and what it stands on); all else here is the same for every law, but numbers. -/
def R_law : String := "RiggingLoftLaw"
def lw_P (b : Addr) (xs : List Int32) (args : Array Value) (s : State) : Prop := args = #[.ref b] ∧ s.IntsAt b xs ∧ xs.length ≤ 3072 ∧ (Jvm.Cond.and given_1 narrow_1).before args s = true
/-- what a walk over the start with the record d0 says of its end, said of the start itself -/
theorem lw_closed {s t : State} {o : Outcome} {d0 : Drawn} {L : List Loc} {k n : Nat} (hd0 : s.drawn.sameBut d0 lw_cs) (hv : ∃ v, o = .returned v) (hW : (s.setDrawn d0).WarmedH t.vm) (hs : (s.setDrawn d0).sameButNew ({ t with vm := s.vm } : State) L k n) : State.butDraws s t lw_cs (fun t1 => Framed s o t1 L k n) := by
  have h2 : t.drawn = d0 := congrArg State.drawn hs.1
  refine ⟨⟨hv, hW, State.sameButNew.setDrawn hs s.drawn⟩, ?_, by decide⟩
  rw [h2]
  exact hd0
def lw_Q (_ : Array Value) (s : State) (o : Outcome) (t : State) : Prop := o = .returned (some (.int 1)) ∧ State.butDraws s t lw_cs (fun t1 => Framed s o t1 [] 600000 7302250)
def lw_Z (below : List Frame) (a : Array Value) (s : State) : State → Prop := fun t => ∃ o, t.status = .running ∧ Ended t below o ∧ lw_Q a s o t
/-- the law's own end, with 1 on the stack, nothing written that was there before, its room as the claim has it; d0: the record of draws at this point (at the entry s.drawn: begin with 'refine W.base ?_' and 'have hd0 := Drawn.sameBut.refl s.drawn lw_cs') -/
theorem lw_ret {p : Program} {l : Launch} {e : Env} {s : State} {m : MethodId} {below : List Frame} {meth : Method} {c : Code} {b : Nat} {d0 : Drawn} (hd0 : s.drawn.sameBut d0 lw_cs) (hx : p.tables.exec = Jvm.exec) (hb : c.code = code) (hr : meth.sig.returnType = ret) (hlocks : meth.locks = false) {pc : Nat} {H : Heap} {ls : Array Slot} (hdg : decode code pc = .ok (.ireturn, 1)) : W p l e room_1 (s.setDrawn d0) m #[Value.ref b] below meth c H [] 600000 7302250 (lw_Z below #[Value.ref b] s) (F0 m pc ls [.int 1]) := by
  intro T hT X
  obtain ⟨fs, hret, hrun, hended, hW, hframe⟩ := X.leave (v := some (.int 1)) (hlocks := hlocks) (fun h => by rw [hr] at h; cases h)
  have hmeth' : T.vm.method? m = some meth := X.method'
  refine ⟨T.setFrames fs, ?_, .returned (some (.int 1)), hrun, hended, rfl, lw_closed hd0 ⟨_, rfl⟩ hW hframe⟩
  jvm_step X.here [X.here.top, hx, hb, hdg, hmeth', hr, ret, narrow_b1]
  (try refine ⟨rfl, ?_⟩); (try refine ⟨rfl, ?_⟩)
  first | (intro acts; rw [hret _ acts rfl rfl rfl]) | rw [hret _ _ rfl rfl rfl]
  exact Steps.refl _
/-- what holds at the law's entry: the machine, the code, the tables' words (any of lw_tbl by 'hts w (by decide +kernel)'), the script of L ints xs at the cell b, what the Statement gives of the start (any of its parts by flat_of_before) -/
def lw_At (p : Program) (s : State) (m : MethodId) (meth : Method) (c : Code) (b L : Nat) (xs : Nat → Int32) : Prop :=
  p.tables.exec = Jvm.exec ∧ c.code = code ∧ meth.sig.returnType = ret ∧ c.maxLocals = 8 ∧ s.vm.findClass R_law = some m.cls ∧ (∀ w ∈ lw_tbl, w.before #[Value.ref b] s = true) ∧ va_X b L xs s s.heap ∧ b < s.heap.size ∧ meth.locks = false ∧ (Jvm.Cond.and given_1 narrow_1).before #[Value.ref b] s = true
/-- all that is asked of the pure side -/
def O_skip (I : IT) : Prop := ∀ (n : Nat) (V : VT) (J : JT) (dd : DT) (M : VT), n < 512 → I n V J dd M → I (n + 1) V J dd M
def OPS (I : IT) : Prop := O_skip I ∧ O_bar I ∧ O_strip I ∧ O_line I ∧ O_wear I ∧ O_cut I ∧ O_thing I ∧ O_heat I ∧ O_hang I ∧ O_strike I ∧ O_hook I ∧ O_brick I ∧ O_shift I ∧ O_flag I ∧ O_wave I ∧ O_cue I ∧ O_hush I ∧ O_go I ∧ O_undo I ∧ O_tell I ∧ O_forge I ∧ O_clear I ∧ O_check I ∧ O_at I ∧ O_of I ∧ O_barOf I ∧ O_load I ∧ O_share I ∧ O_strength I ∧ O_even I ∧ O_least I ∧ O_stop I ∧ O_cueOf I ∧ O_told I ∧ O_status I
theorem law_loop {I : IT} {Γ : Gam} {cy : Nat → ClassId} {a mm : Nat → Nat} {b L : Nat} {xs : Nat → Int32} (C0 : CXg Γ cL_law 8 13 RL cy) (hX : SX Γ b L xs) (hR : 600000 ≤ Γ.2.2.2.1.cells ∧ 7302250 ≤ Γ.2.2.2.1.slots) (hO : OPS I) (hend : ∀ {ce sl : Nat} {lv : List (Nat × Value)} {w : va_W}, ce ≤ 600000 → sl ≤ 7302250 → Wp Γ ce sl 1318 lv [.int 1] w) : ∀ (k j : Nat) (V : VT) (J : JT) (K : Nat → Option Nat) (X : va_W) (M : VT) (dd : DT), L ≤ 6 * j + 6 * k → 6 * j ≤ L → I j V J dd M → DX cy K X dd → va_D Γ.2.2.2.2.2.2.2.2.2.2.2.2.1 (WC cy a V J K (WM cy mm M X)) → Wp Γ (39 + 3 * j) (210633 + 3750 * j) 18 [(0, .ref b), (1, .ref (a 0)), (2, .ref (mm 0)), (3, .int (Int32.ofNat (6 * j)))] [] (WC cy a V J K (WM cy mm M X)) := by
  intro k
  induction k with
  | zero =>
    intro j V J K X M dd hk hjL hI hdx hD
    have hL := hX.2.2.2
    refine r_iload_n C0 dL_law_18 rfl 3 rfl ?_
    refine r_aload_n C0 dL_law_19 rfl 0 rfl ?_
    refine r_slen C0 hX dL_law_20 ?_
    refine r_bipush C0 dL_law_21 kb_6 ?_
    refine r_isub C0 dL_law_23 ?_
    by_cases hc : Int32.ofNat L - 6 < Int32.ofNat (6 * j)
    · refine r_icmp_gt (T := Unit) (z := ()) (E1 := some ()) (E2 := none) C0 1317 dL_law_24 rfl (if_pos hc) (fun _ _ => ?_) (fun _ h => by cases h)
      refine r_iconst C0 dL_law_1317 ki_1 ?_
      exact hend (by omega) (by omega)
    · have := sc_le hL hjL hc
      omega
  | succ k ih =>
    intro j V J K X M dd hk hjL hI hdx hD
    have hL := hX.2.2.2
    refine r_iload_n C0 dL_law_18 rfl 3 rfl ?_
    refine r_aload_n C0 dL_law_19 rfl 0 rfl ?_
    refine r_slen C0 hX dL_law_20 ?_
    refine r_bipush C0 dL_law_21 kb_6 ?_
    refine r_isub C0 dL_law_23 ?_
    by_cases hc : Int32.ofNat L - 6 < Int32.ofNat (6 * j)
    · refine r_icmp_gt (T := Unit) (z := ()) (E1 := some ()) (E2 := none) C0 1317 dL_law_24 rfl (if_pos hc) (fun _ _ => ?_) (fun _ h => by cases h)
      refine r_iconst C0 dL_law_1317 ki_1 ?_
      exact hend (by omega) (by omega)
    · have hj := sc_le hL hjL hc
      have hn : j < 512 := by omega
      refine r_icmp_gt (T := Unit) (z := ()) (E1 := none) (E2 := some ()) C0 1317 dL_law_24 rfl (if_neg hc) (fun _ h => by cases h) (fun _ _ => ?_)
      have hrc : RC Γ j := ⟨Nat.le_trans (by omega) hR.1, Nat.le_trans (by omega) hR.2⟩
      have hN : NX I Γ cy a mm b j := by
        intro V J K X M dd lv hlv hI hdx hD
        refine r_sub [0, 1, 2, 3] hlv ?_
        refine r_iinc (lv2 := [(3, .int (Int32.ofNat (6 * (j + 1)))), (0, .ref b), (1, .ref (a 0)), (2, .ref (mm 0))]) C0 dL_law_1311 3 rfl ki_6 (by rw [show 6 * (j + 1) = 6 * j + 6 by omega]; exact sc_add (k := 6)) (Nat.le_of_ble_eq_true rfl) rfl ?_
        refine r_goto C0 18 dL_law_1314 rfl ?_
        refine r_sub [1, 2, 3, 0] rfl ?_
        have h9 := ih (j + 1) V J K X M dd (by omega) (by omega) hI hdx hD
        rw [show 39 + 3 * (j + 1) = 39 + 3 * j + 3 by omega, show 210633 + 3750 * (j + 1) = 210633 + 3750 * j + 3750 by omega] at h9
        exact h9
      refine r_aload_n C0 dL_law_27 rfl 0 rfl ?_
      refine r_iload_n C0 dL_law_28 rfl 3 rfl ?_
      refine r_sld C0 hX (sc_at (k := 0) hj hL (by decide)) dL_law_29 ?_
      refine r_bipush C0 dL_law_30 kb_63 ?_
      refine r_iand C0 dL_law_32 ?_
      generalize xs (6 * j + 0) &&& 63 = e
      by_cases c0 : e = 0
      · refine r_swI C0 184 dL_law_33 c0 (by decide) (by decide) rfl rfl ?_
        exact lc_bar C0 hX hj hrc hI hdx hD hN hO.2.1
      have n0 := ne_toInt (i := 0) c0 (by decide)
      by_cases c1 : e = 1
      · refine r_swI C0 227 dL_law_33 c1 (by decide) (by decide) rfl rfl ?_
        exact lc_strip C0 hX hj hrc hI hdx hD hN hO.2.2.1
      have n1 := ne_toInt (i := 1) c1 (by decide)
      by_cases c2 : e = 2
      · refine r_swI C0 250 dL_law_33 c2 (by decide) (by decide) rfl rfl ?_
        exact lc_line C0 hX hj hrc hI hdx hD hN hO.2.2.2.1
      have n2 := ne_toInt (i := 2) c2 (by decide)
      by_cases c3 : e = 3
      · refine r_swI C0 303 dL_law_33 c3 (by decide) (by decide) rfl rfl ?_
        exact lc_wear C0 hX hj hrc hI hdx hD hN hO.2.2.2.2.1
      have n3 := ne_toInt (i := 3) c3 (by decide)
      by_cases c4 : e = 4
      · refine r_swI C0 346 dL_law_33 c4 (by decide) (by decide) rfl rfl ?_
        exact lc_cut C0 hX hj hrc hI hdx hD hN hO.2.2.2.2.2.1
      have n4 := ne_toInt (i := 4) c4 (by decide)
      by_cases c5 : e = 5
      · refine r_swI C0 369 dL_law_33 c5 (by decide) (by decide) rfl rfl ?_
        exact lc_thing C0 hX hj hrc hI hdx hD hN hO.2.2.2.2.2.2.1
      have n5 := ne_toInt (i := 5) c5 (by decide)
      by_cases c6 : e = 6
      · refine r_swI C0 422 dL_law_33 c6 (by decide) (by decide) rfl rfl ?_
        exact lc_heat C0 hX hj hrc hI hdx hD hN hO.2.2.2.2.2.2.2.1
      have n6 := ne_toInt (i := 6) c6 (by decide)
      by_cases c7 : e = 7
      · refine r_swI C0 455 dL_law_33 c7 (by decide) (by decide) rfl rfl ?_
        exact lc_hang C0 hX hj hrc hI hdx hD hN hO.2.2.2.2.2.2.2.2.1
      have n7 := ne_toInt (i := 7) c7 (by decide)
      by_cases c8 : e = 8
      · refine r_swI C0 498 dL_law_33 c8 (by decide) (by decide) rfl rfl ?_
        exact lc_strike C0 hX hj hrc hI hdx hD hN hO.2.2.2.2.2.2.2.2.2.1
      have n8 := ne_toInt (i := 8) c8 (by decide)
      by_cases c9 : e = 9
      · refine r_swI C0 521 dL_law_33 c9 (by decide) (by decide) rfl rfl ?_
        exact lc_hook C0 hX hj hrc hI hdx hD hN hO.2.2.2.2.2.2.2.2.2.2.1
      have n9 := ne_toInt (i := 9) c9 (by decide)
      by_cases c10 : e = 10
      · refine r_swI C0 580 dL_law_33 c10 (by decide) (by decide) rfl rfl ?_
        exact lc_brick C0 hX hj hrc hI hdx hD hN hO.2.2.2.2.2.2.2.2.2.2.2.1
      have n10 := ne_toInt (i := 10) c10 (by decide)
      by_cases c11 : e = 11
      · refine r_swI C0 613 dL_law_33 c11 (by decide) (by decide) rfl rfl ?_
        exact lc_shift C0 hX hj hrc hI hdx hD hN hO.2.2.2.2.2.2.2.2.2.2.2.2.1
      have n11 := ne_toInt (i := 11) c11 (by decide)
      by_cases c12 : e = 12
      · refine r_swI C0 666 dL_law_33 c12 (by decide) (by decide) rfl rfl ?_
        exact lc_flag C0 hX hj hrc hI hdx hD hN hO.2.2.2.2.2.2.2.2.2.2.2.2.2.1
      have n12 := ne_toInt (i := 12) c12 (by decide)
      by_cases c13 : e = 13
      · refine r_swI C0 699 dL_law_33 c13 (by decide) (by decide) rfl rfl ?_
        exact lc_wave C0 hX hj hrc hI hdx hD hN hO.2.2.2.2.2.2.2.2.2.2.2.2.2.2.1
      have n13 := ne_toInt (i := 13) c13 (by decide)
      by_cases c14 : e = 14
      · refine r_swI C0 722 dL_law_33 c14 (by decide) (by decide) rfl rfl ?_
        exact lc_cue C0 hX hj hrc hI hdx hD hN hO.2.2.2.2.2.2.2.2.2.2.2.2.2.2.2.1
      have n14 := ne_toInt (i := 14) c14 (by decide)
      by_cases c15 : e = 15
      · refine r_swI C0 775 dL_law_33 c15 (by decide) (by decide) rfl rfl ?_
        exact lc_hush C0 hX hj hrc hI hdx hD hN hO.2.2.2.2.2.2.2.2.2.2.2.2.2.2.2.2.1
      have n15 := ne_toInt (i := 15) c15 (by decide)
      by_cases c16 : e = 16
      · refine r_swI C0 798 dL_law_33 c16 (by decide) (by decide) rfl rfl ?_
        exact lc_go C0 hX hj hrc hI hdx hD hN hO.2.2.2.2.2.2.2.2.2.2.2.2.2.2.2.2.2.1
      have n16 := ne_toInt (i := 16) c16 (by decide)
      by_cases c17 : e = 17
      · refine r_swI C0 821 dL_law_33 c17 (by decide) (by decide) rfl rfl ?_
        exact lc_undo C0 hX hj hrc hI hdx hD hN hO.2.2.2.2.2.2.2.2.2.2.2.2.2.2.2.2.2.2.1
      have n17 := ne_toInt (i := 17) c17 (by decide)
      by_cases c18 : e = 18
      · refine r_swI C0 834 dL_law_33 c18 (by decide) (by decide) rfl rfl ?_
        exact lc_tell C0 hX hj hrc hI hdx hD hN hO.2.2.2.2.2.2.2.2.2.2.2.2.2.2.2.2.2.2.2.1
      have n18 := ne_toInt (i := 18) c18 (by decide)
      by_cases c19 : e = 19
      · refine r_swI C0 897 dL_law_33 c19 (by decide) (by decide) rfl rfl ?_
        exact lc_forge C0 hX hj hrc hI hdx hD hN hO.2.2.2.2.2.2.2.2.2.2.2.2.2.2.2.2.2.2.2.2.1
      have n19 := ne_toInt (i := 19) c19 (by decide)
      by_cases c20 : e = 20
      · refine r_swI C0 940 dL_law_33 c20 (by decide) (by decide) rfl rfl ?_
        exact lc_clear C0 hX hj hrc hI hdx hD hN hO.2.2.2.2.2.2.2.2.2.2.2.2.2.2.2.2.2.2.2.2.2.1
      have n20 := ne_toInt (i := 20) c20 (by decide)
      by_cases c21 : e = 21
      · refine r_swI C0 953 dL_law_33 c21 (by decide) (by decide) rfl rfl ?_
        exact lc_check C0 hX hj hrc hI hdx hD hN hO.2.2.2.2.2.2.2.2.2.2.2.2.2.2.2.2.2.2.2.2.2.2.1
      have n21 := ne_toInt (i := 21) c21 (by decide)
      by_cases c22 : e = 22
      · refine r_swI C0 966 dL_law_33 c22 (by decide) (by decide) rfl rfl ?_
        exact lc_at C0 hX hj hrc hI hdx hD hN hO.2.2.2.2.2.2.2.2.2.2.2.2.2.2.2.2.2.2.2.2.2.2.2.1
      have n22 := ne_toInt (i := 22) c22 (by decide)
      by_cases c23 : e = 23
      · refine r_swI C0 999 dL_law_33 c23 (by decide) (by decide) rfl rfl ?_
        exact lc_of C0 hX hj hrc hI hdx hD hN hO.2.2.2.2.2.2.2.2.2.2.2.2.2.2.2.2.2.2.2.2.2.2.2.2.1
      have n23 := ne_toInt (i := 23) c23 (by decide)
      by_cases c24 : e = 24
      · refine r_swI C0 1032 dL_law_33 c24 (by decide) (by decide) rfl rfl ?_
        exact lc_barOf C0 hX hj hrc hI hdx hD hN hO.2.2.2.2.2.2.2.2.2.2.2.2.2.2.2.2.2.2.2.2.2.2.2.2.2.1
      have n24 := ne_toInt (i := 24) c24 (by decide)
      by_cases c25 : e = 25
      · refine r_swI C0 1065 dL_law_33 c25 (by decide) (by decide) rfl rfl ?_
        exact lc_load C0 hX hj hrc hI hdx hD hN hO.2.2.2.2.2.2.2.2.2.2.2.2.2.2.2.2.2.2.2.2.2.2.2.2.2.2.1
      have n25 := ne_toInt (i := 25) c25 (by decide)
      by_cases c26 : e = 26
      · refine r_swI C0 1116 dL_law_33 c26 (by decide) (by decide) rfl rfl ?_
        exact lc_share C0 hX hj hrc hI hdx hD hN hO.2.2.2.2.2.2.2.2.2.2.2.2.2.2.2.2.2.2.2.2.2.2.2.2.2.2.2.1
      have n26 := ne_toInt (i := 26) c26 (by decide)
      by_cases c27 : e = 27
      · refine r_swI C0 1140 dL_law_33 c27 (by decide) (by decide) rfl rfl ?_
        exact lc_strength C0 hX hj hrc hI hdx hD hN hO.2.2.2.2.2.2.2.2.2.2.2.2.2.2.2.2.2.2.2.2.2.2.2.2.2.2.2.2.1
      have n27 := ne_toInt (i := 27) c27 (by decide)
      by_cases c28 : e = 28
      · refine r_swI C0 1163 dL_law_33 c28 (by decide) (by decide) rfl rfl ?_
        exact lc_even C0 hX hj hrc hI hdx hD hN hO.2.2.2.2.2.2.2.2.2.2.2.2.2.2.2.2.2.2.2.2.2.2.2.2.2.2.2.2.2.1
      have n28 := ne_toInt (i := 28) c28 (by decide)
      by_cases c29 : e = 29
      · refine r_swI C0 1186 dL_law_33 c29 (by decide) (by decide) rfl rfl ?_
        exact lc_least C0 hX hj hrc hI hdx hD hN hO.2.2.2.2.2.2.2.2.2.2.2.2.2.2.2.2.2.2.2.2.2.2.2.2.2.2.2.2.2.2.1
      have n29 := ne_toInt (i := 29) c29 (by decide)
      by_cases c30 : e = 30
      · refine r_swI C0 1199 dL_law_33 c30 (by decide) (by decide) rfl rfl ?_
        exact lc_stop C0 hX hj hrc hI hdx hD hN hO.2.2.2.2.2.2.2.2.2.2.2.2.2.2.2.2.2.2.2.2.2.2.2.2.2.2.2.2.2.2.2.1
      have n30 := ne_toInt (i := 30) c30 (by decide)
      by_cases c31 : e = 31
      · refine r_swI C0 1232 dL_law_33 c31 (by decide) (by decide) rfl rfl ?_
        exact lc_cueOf C0 hX hj hrc hI hdx hD hN hO.2.2.2.2.2.2.2.2.2.2.2.2.2.2.2.2.2.2.2.2.2.2.2.2.2.2.2.2.2.2.2.2.1
      have n31 := ne_toInt (i := 31) c31 (by decide)
      by_cases c32 : e = 32
      · refine r_swI C0 1265 dL_law_33 c32 (by decide) (by decide) rfl rfl ?_
        exact lc_told C0 hX hj hrc hI hdx hD hN hO.2.2.2.2.2.2.2.2.2.2.2.2.2.2.2.2.2.2.2.2.2.2.2.2.2.2.2.2.2.2.2.2.2.1
      have n32 := ne_toInt (i := 32) c32 (by decide)
      by_cases c33 : e = 33
      · refine r_swI C0 1288 dL_law_33 c33 (by decide) (by decide) rfl rfl ?_
        exact lc_status C0 hX hj hrc hI hdx hD hN hO.2.2.2.2.2.2.2.2.2.2.2.2.2.2.2.2.2.2.2.2.2.2.2.2.2.2.2.2.2.2.2.2.2.2
      have n33 := ne_toInt (i := 33) c33 (by decide)
      refine r_swD C0 1311 dL_law_33 (by omega) rfl ?_
      refine r_widen (Nat.le_add_right _ 3) (Nat.le_add_right _ 3750) ?_
      exact hN _ _ _ _ _ _ _ rfl (hO.1 j V J dd M hn hI) hdx hD
set_option maxRecDepth 20000 in
theorem known_all {s : State} {args : Array Value} (hT : ∀ w ∈ lw_T, w.before args s = true) (hA : (Cond.arrayOver (.object "RiggingLoft$Deed")).before args s = true) : ∃ (D : va_G) (cy : Nat → ClassId), va_K D vwCl (TY cy) s := by
  obtain ⟨c0, i0, k0⟩ := u_known (C := RX0) (T := TX0) (N := 11) (n := 11) hT iX0 (hT _ tinst_X0)
  obtain ⟨c1, i1, k1⟩ := u_known (C := RX1) (T := TX1) (N := 2) (n := 2) hT iX1 (hT _ tinst_X1)
  obtain ⟨c2, i2, k2⟩ := u_known (C := RX2) (T := TX2) (N := 5) (n := 5) hT iX2 (hT _ tinst_X2)
  obtain ⟨c3, i3, k3⟩ := u_known (C := RX3) (T := TX3) (N := 8) (n := 8) hT iX3 (hT _ tinst_X3)
  obtain ⟨c4, i4, k4⟩ := u_known (C := RX4) (T := TX4) (N := 10) (n := 10) hT iX4 (hT _ tinst_X4)
  obtain ⟨c5, i5, k5⟩ := u_known (C := RX5) (T := TX5) (N := 1) (n := 1) hT iX5 (hT _ tinst_X5)
  obtain ⟨c6, i6, k6⟩ := u_known (C := RX6) (T := TX6) (N := 2) (n := 2) hT iX6 (hT _ tinst_X6)
  obtain ⟨c7, i7, k7⟩ := u_known (C := RX7) (T := TX7) (N := 5) (n := 5) hT iX7 (hT _ tinst_X7)
  obtain ⟨c8, i8, k8⟩ := u_known (C := RX8) (T := TX8) (N := 3) (n := 3) hT iX8 (hT _ tinst_X8)
  obtain ⟨c9, i9, k9⟩ := u_known (C := RX9) (T := TX9) (N := 3) (n := 3) hT iX9 (hT _ tinst_X9)
  obtain ⟨c10, i10, k10⟩ := u_known (C := RX10) (T := TX10) (N := 3) (n := 3) hT iX10 (hT _ tinst_X10)
  obtain ⟨c11, i11, k11⟩ := u_known (C := RX11) (T := TX11) (N := 9) (n := 9) hT iX11 (hT _ tinst_X11)
  obtain ⟨c12, i12, k12⟩ := u_known (C := RX12) (T := TX12) (N := 12) (n := 12) hT iX12 (hT _ tinst_X12)
  obtain ⟨a0, ka0, co0, fa0, fb0, fc0⟩ := Cond.arrayClass_spec (hT _ tac_int)
  obtain ⟨a1, ka1, co1, fa1, fb1, fc1⟩ := Cond.arrayClass_spec (hT _ tac_long)
  obtain ⟨a2, ka2, co2, fa2, fb2, fc2⟩ := Cond.arrayClass_spec (hT _ tac_boolean)
  obtain ⟨co3, a3, ka3, g1, _, g3, g4, g5⟩ := Cond.arrayOver_spec hA
  refine ⟨(fun k => [c0, c1, c2, c3, c4, c5, c6, c7, c8, c9, c10, c11, c12].getD k c0, fun k => [i0, i1, i2, i3, i4, i5, i6, i7, i8, i9, i10, i11, i12].getD k i0), fun k => [a0, a1, a2, a3].getD k a0, fun k q hq => ?_, fun k q hq => ?_⟩
  · match k, hq with
    | 0, hq => cases hq; exact k0
    | 1, hq => cases hq; exact k1
    | 2, hq => cases hq; exact k2
    | 3, hq => cases hq; exact k3
    | 4, hq => cases hq; exact k4
    | 5, hq => cases hq; exact k5
    | 6, hq => cases hq; exact k6
    | 7, hq => cases hq; exact k7
    | 8, hq => cases hq; exact k8
    | 9, hq => cases hq; exact k9
    | 10, hq => cases hq; exact k10
    | 11, hq => cases hq; exact k11
    | 12, hq => cases hq; exact k12
    | k + 13, hq => simp at hq
  · match k, hq with
    | 0, hq => cases hq; exact ⟨fun n z => ⟨fun k h => (by cases h), ka0, fb0, co0, fc0⟩, fa0⟩
    | 1, hq => cases hq; exact ⟨fun n z => ⟨fun k h => (by cases h), ka1, fb1, co1, fc1⟩, fa1⟩
    | 2, hq => cases hq; exact ⟨fun n z => ⟨fun k h => (by cases h), ka2, fb2, co2, fc2⟩, fa2⟩
    | 3, hq => cases hq; exact ⟨fun n z => ⟨fun k h => (by cases h), ka3, g3, co3, g4⟩, ka3, co3, g3, g4, g1, g5⟩
    | k + 4, hq => simp at hq
def M0 : VT := fun _ _ => 0
set_option maxRecDepth 20000 in
theorem whole_open {p : Program} {e : Env} {s : State} {m : MethodId} {below : List Frame} {meth : Method} {c : Code} (l : Launch) {b L : Nat} {xs : Nat → Int32} (hL : L ≤ 3072) (C1 : lw_At p s m meth c b L xs) {I : IT} (hO : OPS I) (hI : I 0 V0 J0 (fun _ => none) M0) : W p l e room_1 s m #[Value.ref b] below meth c s.heap [] 0 0 (lw_Z below #[Value.ref b] s) (entryFrame m ([Value.ref b] : List Value).toArray 8) := by
  obtain ⟨hx, hb, hr, hml, hown, hts, hX, hbl, hlocks, hgv⟩ := id C1
  have hT : ∀ w ∈ lw_T, w.before #[Value.ref b] s = true := fun w hw => hts w (List.mem_filter.mp hw).1
  obtain ⟨D, cy, hK⟩ := known_all hT (hts _ tao)
  have hS : va_S (fun q : Nat => s.heap.size ≤ q) s.heap s.heap [] := va_S.rf
  have hP : va_P D vwCl [] s.heap := fun k q h => by simp at h
  have hl := lv_entry ([.ref b]) (n := 8) (Nat.le_of_ble_eq_true rfl)
  rw [lg_entry_eq]
  obtain ⟨Γ, hΓ⟩ : ∃ Γ : Gam, Γ = (p, l, e, room_1, s, m, #[Value.ref b], below, meth, c, lw_Z below #[Value.ref b] s, D, (fun q : Nat => s.heap.size ≤ q), s.heap, 8) := ⟨_, rfl⟩
  have C0 : CXg Γ cL_law 8 13 RL cy := by
    rw [hΓ]
    exact ⟨⟨hx, hb, hml, hown, hT, hK⟩, fun q h => h, rfl, Nat.le_of_ble_eq_true rfl, Nat.le_of_ble_eq_true rfl⟩
  have hSX : SX Γ b L xs := by
    rw [hΓ]
    exact ⟨hX, hbl, Nat.not_le.mpr hbl, hL⟩
  have hRR : 600000 ≤ Γ.2.2.2.1.cells ∧ 7302250 ≤ Γ.2.2.2.1.slots := by
    rw [hΓ]
    exact ⟨Nat.le_refl _, Nat.le_refl _⟩
  have hE : EX Γ.2.2.2.2.1 := by
    rw [hΓ]
    exact ⟨va_AO.of (hts _ tao), va_Nw.of rfl (hts _ tnest_11), va_Nw.of rfl (hts _ tnest_18)⟩
  have hend : ∀ {ce sl : Nat} {lv : List (Nat × Value)} {w : va_W}, ce ≤ 600000 → sl ≤ 7302250 → Wp Γ ce sl 1318 lv [.int 1] w := by
    intro ce sl lv w h1 h2
    rw [hΓ]
    intro H locs ls hl hP hS
    refine va_forget (fun q hq => hS.2.2 q hq) ?_
    refine W.widen h1 h2 ?_
    exact lw_ret (d0 := s.drawn) (Drawn.sameBut.refl s.drawn lw_cs) hx hb hr hlocks dL_law_1318
  have main : Wp Γ 0 0 0 [(0, .ref b)] [] [] := by
    have hD : va_D Γ.2.2.2.2.2.2.2.2.2.2.2.2.1 [] := ⟨fun i j p q h => by simp at h, fun k q h => by simp at h⟩
    refine r_new (C := RX11) (T := TX11) (N := 9) (ci := 11) (fs := [.null, .null, .null, .null, .null, .null, .null, .null, .null]) C0 iX11 tyX11 tyX11_ok tcl_L_7 tinst_X11 tin_X11 hD rfl (fun j hj => by rcases (show j = 0 ∨ j = 1 ∨ j = 2 ∨ j = 3 ∨ j = 4 ∨ j = 5 ∨ j = 6 ∨ j = 7 ∨ j = 8 by omega) with rfl | rfl | rfl | rfl | rfl | rfl | rfl | rfl | rfl <;> rfl) (Nat.le_trans (by decide) hRR.1) (Nat.le_trans (by decide) hRR.2) dL_law_0 (fun h0 hD => ?_)
    refine r_dup C0 dL_law_3 rfl ?_
    refine callAI (ce := 1) (sl := 9) (As := []) (b := h0) (rest := [.ref h0]) C0 ex_ok hE hD mi_X11_init tm_L_9 c_X11_init rfl (Nat.le_of_ble_eq_true rfl) (Nat.le_of_ble_eq_true rfl) ⟨Nat.le_trans (Nat.le_of_ble_eq_true rfl) hRR.1, Nat.le_trans (Nat.le_of_ble_eq_true rfl) hRR.2⟩ dL_law_4 (fun w2 r hΦ hD => ?_)
    obtain ⟨a, rfl, rfl, rfl⟩ := hΦ
    refine r_astore_n (lv2 := [(1, .ref (a 0)), (0, .ref b)]) C0 dL_law_7 rfl (Nat.le_of_ble_eq_true rfl) rfl ?_
    refine r_new (C := RX12) (T := TX12) (N := 12) (ci := 12) (fs := [.null, .null, .int 0, .null, .null, .null, .int 0, .int 0, .int 0, .int 0, .null, .null]) C0 iX12 tyX12 tyX12_ok tcl_L_10 tinst_X12 tin_X12 hD rfl (fun j hj => by rcases (show j = 0 ∨ j = 1 ∨ j = 2 ∨ j = 3 ∨ j = 4 ∨ j = 5 ∨ j = 6 ∨ j = 7 ∨ j = 8 ∨ j = 9 ∨ j = 10 ∨ j = 11 by omega) with rfl | rfl | rfl | rfl | rfl | rfl | rfl | rfl | rfl | rfl | rfl | rfl <;> rfl) (Nat.le_trans (Nat.le_of_ble_eq_true rfl) hRR.1) (Nat.le_trans (Nat.le_of_ble_eq_true rfl) hRR.2) dL_law_8 (fun mo hD => ?_)
    refine r_dup C0 dL_law_11 rfl ?_
    refine callAI (ce := 1 + 30 + 1) (sl := 9 + 7938 + 12) (As := []) (b := mo) (rest := [.ref mo]) C0 en_ok trivial hD mi_X12_init tm_L_12 c_X12_init rfl (Nat.le_of_ble_eq_true rfl) (Nat.le_of_ble_eq_true rfl) ⟨Nat.le_trans (Nat.le_of_ble_eq_true rfl) hRR.1, Nat.le_trans (Nat.le_of_ble_eq_true rfl) hRR.2⟩ dL_law_12 (fun w2 r hΦ hD => ?_)
    obtain ⟨q0, q1, q2, q3, q4, q5, q6, rfl, rfl⟩ := hΦ
    have hD : va_D Γ.2.2.2.2.2.2.2.2.2.2.2.2.1 (WC cy a V0 J0 K0 (WM cy (adr [mo, q0, q1, q2, q3, q4, q5, q6]) M0 [])) := hD
    show Wp Γ 39 210633 15 _ [.ref mo] (WC cy a V0 J0 K0 (WM cy (adr [mo, q0, q1, q2, q3, q4, q5, q6]) M0 []))
    refine r_astore_n (lv2 := [(2, .ref mo), (1, .ref (a 0)), (0, .ref b)]) C0 dL_law_15 rfl (Nat.le_of_ble_eq_true rfl) rfl ?_
    refine r_iconst C0 dL_law_16 ki_0 ?_
    refine r_istore_n (v := 0) (lv2 := [(3, .int 0), (2, .ref mo), (1, .ref (a 0)), (0, .ref b)]) C0 dL_law_17 rfl rfl (Nat.le_of_ble_eq_true rfl) rfl ?_
    refine r_sub [3, 2, 1, 0] rfl ?_
    exact law_loop (mm := adr [mo, q0, q1, q2, q3, q4, q5, q6]) C0 hSX hRR hO hend L 0 V0 J0 K0 [] M0 (fun _ => none) (by omega) (by omega) hI dx_0 hD
  rw [hΓ] at main
  exact main s.heap [] _ hl hP hS
