/-! flag and wave -/
theorem gg_flag {n : Nat} {C C2 S S2 : AT} (h0 : GG n C S) (uC : ∀ j, (j < 1360 ∨ 1368 ≤ j) → C j = C2 j) (uS : ∀ j, (j < 1432 ∨ 1440 ≤ j) → S j = S2 j) (a_rf : R_rf C2 S2) (a_wf : W_wf (n + 1) S2) : GG (n + 1) C2 S2 := by
  have h := gg_ok.1 _ _ _ h0
  exact ⟨⟨R_rb0_rg (fun b _ => uC (4 * b) (by omega)) (fun b _ => uS (21 * b + 1) (by omega)) h.1.rb0, R_rb1_rg (fun b _ => uC (4 * b + 1) (by omega)) (fun b _ => uS (21 * b + 2) (by omega)) h.1.rb1, R_rb2_rg (fun b _ => uC (4 * b + 2) (by omega)) (fun b _ => uS (21 * b + 3) (by omega)) h.1.rb2, R_rb3_rg (fun b _ => uC (4 * b + 3) (by omega)) (fun b _ => uS (21 * b + 4) (by omega)) h.1.rb3, R_rc_rg (fun b p _ _ => uC (48 + 16 * b + p) (by omega)) (fun b p _ _ => uS (21 * b + 5 + p) (by omega)) h.1.rc, R_rl0_rg (fun l _ => uC (240 + 12 * l) (by omega)) (fun l _ => uS (252 + 12 * l) (by omega)) h.1.rl0, R_rl1_rg (fun l _ => uC (240 + 12 * l + 1) (by omega)) (fun l _ => uS (252 + 12 * l + 1) (by omega)) h.1.rl1, R_rl2_rg (fun l _ => uC (240 + 12 * l + 2) (by omega)) (fun l _ => uS (252 + 12 * l + 2) (by omega)) h.1.rl2, R_rl3_rg (fun l _ => uC (240 + 12 * l + 3) (by omega)) (fun l _ => uS (252 + 12 * l + 3) (by omega)) h.1.rl3, R_rls_rg (fun l i _ _ => uC (240 + 12 * l + 4 + i) (by omega)) (fun l i _ _ => uS (252 + 12 * l + 4 + i) (by omega)) h.1.rls, R_rt0_rg (fun t _ => uC (720 + 8 * t) (by omega)) (fun t _ => uS (732 + 5 * t) (by omega)) h.1.rt0, R_rt1_rg (fun t _ => uC (720 + 8 * t + 1) (by omega)) (fun t _ => uS (732 + 5 * t + 1) (by omega)) h.1.rt1, R_rt2_rg (fun t _ => uC (720 + 8 * t + 2) (by omega)) (fun t _ => uS (732 + 5 * t + 2) (by omega)) h.1.rt2, R_rt3_rg (fun t _ => uC (720 + 8 * t + 3) (by omega)) (fun t _ => uS (732 + 5 * t + 3) (by omega)) h.1.rt3, R_rh_rg (fun t _ => uC (720 + 8 * t + 5) (by omega)) (fun t _ => uS (732 + 5 * t + 4) (by omega)) h.1.rh, a_rf, R_rq0_rg (fun c _ => uC (1368 + 5 * c) (by omega)) (fun c _ => uS (1132 + 5 * c) (by omega)) h.1.rq0, R_rq1_rg (fun c _ => uC (1368 + 5 * c + 1) (by omega)) (fun c _ => uS (1132 + 5 * c + 1) (by omega)) h.1.rq1, R_rq2_rg (fun c _ => uC (1368 + 5 * c + 2) (by omega)) (fun c _ => uS (1132 + 5 * c + 2) (by omega)) h.1.rq2, R_rq3_rg (fun c _ => uC (1368 + 5 * c + 3) (by omega)) (fun c _ => uS (1132 + 5 * c + 3) (by omega)) h.1.rq3, R_rq4_rg (fun c _ => uC (1368 + 5 * c + 4) (by omega)) (fun c _ => uS (1132 + 5 * c + 4) (by omega)) h.1.rq4, R_rn0_rg (uC (1868) (by omega)) (uS (1640) (by omega)) h.1.rn0, R_rn1_rg (uC (1869) (by omega)) (uS (1641) (by omega)) h.1.rn1, R_rn2_rg (uC (1870) (by omega)) (uS (1642) (by omega)) h.1.rn2, R_rn3_rg (uC (1871) (by omega)) (uS (1643) (by omega)) h.1.rn3, R_rn4_rg (uC (1872) (by omega)) (uS (1644) (by omega)) h.1.rn4, R_rn5_rg (uC (1873) (by omega)) (uS (1645) (by omega)) h.1.rn5, R_rg_rg (uS (1641) (by omega)) (fun t _ => uS (732 + 5 * t) (by omega)) (fun t _ => uS (732 + 5 * t + 3) (by omega)) (fun t _ => uC (720 + 8 * t + 4) (by omega)) h.1.rg, R_rp_rg (uS (1641) (by omega)) (fun t _ => uS (732 + 5 * t) (by omega)) (fun b p _ _ => uS (21 * b + 5 + p) (by omega)) (fun t _ => uC (720 + 8 * t + 6) (by omega)) (fun t _ => uC (720 + 8 * t + 7) (by omega)) h.1.rp, R_rs_rg (uS (1643) (by omega)) (fun k _ => uS (1440 + k) (by omega)) (fun k _ => uC (1668 + k) (by omega)) h.1.rs⟩, ⟨W_wn0_rg (uS (1640) (by omega)) h.2.wn0, W_wn1_rg (uS (1641) (by omega)) h.2.wn1, W_wn2_rg (uS (1642) (by omega)) h.2.wn2, W_wn3_rg (uS (1643) (by omega)) h.2.wn3, W_wn4_rg (uS (1644) (by omega)) h.2.wn4, W_wn5_rg (uS (1645) (by omega)) h.2.wn5, W_wb0_rg (fun b _ => uS (21 * b) (by omega)) h.2.wb0, W_wbp_rg (fun b _ => uS (21 * b) (by omega)) (fun b _ => uS (21 * b + 1) (by omega)) h.2.wbp, W_wbg_rg (fun b _ => uS (21 * b) (by omega)) (fun b _ => uS (21 * b + 2) (by omega)) h.2.wbg, W_wbh_rg (fun b _ => uS (21 * b) (by omega)) (fun b _ => uS (21 * b + 3) (by omega)) h.2.wbh, W_wbk_rg (fun b _ => uS (21 * b) (by omega)) (fun b _ => uS (21 * b + 4) (by omega)) h.2.wbk, W_wb2_rg (fun b _ => uS (21 * b) (by omega)) (fun b _ => uS (21 * b + 1) (by omega)) h.2.wb2, W_wb2g_rg (fun b _ => uS (21 * b) (by omega)) (fun b _ => uS (21 * b + 2) (by omega)) h.2.wb2g, W_wb3_rg (fun b _ => uS (21 * b + 1) (by omega)) (fun b p _ _ => uS (21 * b + 5 + p) (by omega)) h.2.wb3, W_wb4_rg (fun b _ => uS (21 * b + 3) (by omega)) h.2.wb4, W_wb4k_rg (fun b _ => uS (21 * b + 4) (by omega)) h.2.wb4k, W_wb5_rg (fun b p _ _ => uS (21 * b + 5 + p) (by omega)) (uS (1641) (by omega)) h.2.wb5, W_wl0_rg (uS (1640) (by omega)) (fun l _ => uS (252 + 12 * l + 3) (by omega)) h.2.wl0, W_wla_rg (uS (1640) (by omega)) (fun l _ => uS (252 + 12 * l) (by omega)) h.2.wla, W_wlb_rg (uS (1640) (by omega)) (fun l _ => uS (252 + 12 * l + 1) (by omega)) h.2.wlb, W_wlc_rg (uS (1640) (by omega)) (fun l _ => uS (252 + 12 * l + 2) (by omega)) h.2.wlc, W_wld_rg (uS (1640) (by omega)) (fun l _ => uS (252 + 12 * l + 3) (by omega)) h.2.wld, W_wl2_rg (uS (1640) (by omega)) (fun l _ => uS (252 + 12 * l + 2) (by omega)) (fun l i _ _ => uS (252 + 12 * l + 4 + i) (by omega)) h.2.wl2, W_wl4_rg (fun l _ => uS (252 + 12 * l + 3) (by omega)) (fun l _ => uS (252 + 12 * l) (by omega)) (fun l _ => uS (252 + 12 * l + 1) (by omega)) h.2.wl4, W_wt0_rg (uS (1641) (by omega)) (fun t _ => uS (732 + 5 * t) (by omega)) h.2.wt0, W_wt1_rg (uS (1641) (by omega)) (fun t _ => uS (732 + 5 * t + 1) (by omega)) h.2.wt1, W_wt2_rg (uS (1641) (by omega)) (fun t _ => uS (732 + 5 * t + 2) (by omega)) h.2.wt2, W_wt3_rg (uS (1641) (by omega)) (fun t _ => uS (732 + 5 * t + 3) (by omega)) h.2.wt3, W_wt4_rg (uS (1641) (by omega)) (fun t _ => uS (732 + 5 * t + 4) (by omega)) (fun t _ => uS (732 + 5 * t) (by omega)) h.2.wt4, W_wqa_rg (uS (1642) (by omega)) (fun c _ => uS (1132 + 5 * c) (by omega)) h.2.wqa, W_wqb_rg (uS (1642) (by omega)) (fun c _ => uS (1132 + 5 * c + 1) (by omega)) h.2.wqb, W_wqc_rg (uS (1642) (by omega)) (fun c _ => uS (1132 + 5 * c + 2) (by omega)) h.2.wqc, W_wqd_rg (uS (1642) (by omega)) (fun c _ => uS (1132 + 5 * c + 3) (by omega)) h.2.wqd, W_wqe_rg (uS (1642) (by omega)) (fun c _ => uS (1132 + 5 * c + 4) (by omega)) h.2.wqe, W_wq2_rg (uS (1642) (by omega)) (fun c _ => uS (1132 + 5 * c) (by omega)) (fun b _ => uS (21 * b) (by omega)) (fun c _ => uS (1132 + 5 * c + 4) (by omega)) (fun c _ => uS (1132 + 5 * c + 2) (by omega)) (fun c _ => uS (1132 + 5 * c + 3) (by omega)) (uS (1645) (by omega)) h.2.wq2, a_wf, W_wh_rg (fun b p _ _ => uS (21 * b + 5 + p) (by omega)) (fun t _ => uS (732 + 5 * t) (by omega)) (fun t _ => uS (732 + 5 * t + 4) (by omega)) h.2.wh⟩⟩
theorem ig_gg {G : GT} {n : Nat} {V : VT} {J : JT} {dd : DT} {M : VT} (h : IG G n V J dd M) : G n (V 0) (M 0) := by
  obtain ⟨-, old, cnt, steps, b1, b2, b3, b4, b5, b6, b7, b8, b9, b10, b11, b12, b13, b14, -⟩ := h
  exact b14
theorem i78 (x : Int32) : (7 < x) ↔ (8 ≤ x) := by
  rw [Int32.lt_iff_toInt_lt, Int32.le_iff_toInt_le, show (7 : Int32).toInt = 7 by decide, show (8 : Int32).toInt = 8 by decide]; omega
theorem nle_lt {x y : Int32} (h : ¬ x ≤ y) : y < x := by
  rw [Int32.le_iff_toInt_le] at h
  rw [Int32.lt_iff_toInt_lt]; omega
theorem lt_nle {x y : Int32} (h : y < x) : ¬ x ≤ y := by
  rw [Int32.lt_iff_toInt_lt] at h
  rw [Int32.le_iff_toInt_le]; omega
theorem nlt_le {x y : Int32} (h : ¬ y < x) : x ≤ y := by
  rw [Int32.lt_iff_toInt_lt] at h
  rw [Int32.le_iff_toInt_le]; omega
theorem rg_of {x : Int32} {hi : Nat} (hh : hi < 2147483648) (h1 : ¬ x < 0) (h2 : ¬ Int32.ofNat hi < x) : RG x 0 hi := by
  have hx := nat_of h1
  refine ⟨x.toNatClampNeg, Nat.zero_le _, ?_, hx⟩
  have ht : x.toInt = (x.toNatClampNeg : Int) := i32_nn h1
  have q2 : ¬ (hi : Int) < x.toInt := fun q => h2 (Int32.lt_iff_toInt_lt.mpr (by rw [ti_nat hh]; exact q))
  omega
theorem o_flag : O_flag (IG GG) := by
  intro n V J dd M v1 v2 hn hI
  obtain ⟨V1, eb, sb, c1, c3, c4, c7, c11, c10⟩ := begin_ok 0 (by omega) (ig_rest hn hI)
  obtain ⟨M1, em, sm, k1, k3, k4, k6, k70, k71, k74⟩ := mbegin_ok M
  have hf0 : M1 7 2 = 0 := sm.2.2.2.1
  have hgg := ig_gg hI
  have ref : ∀ (f : Int32), f ≠ 0 → f_X6_setFlag v1 v2 V1 = (f_X9_refuse f V1).bind (fun r => some (r.1, r.2)) → (∀ M2, f_X12_is 1 f M1 = some (1, M2) → f_X12_flag v1 v2 M = (f_X12_refused M2).bind (fun r => some (r.1, r.2))) → ∃ (y : Int32 × VT × JT × KO) (z : Int32 × VT), f_X11_flag v1 v2 V J = some y ∧ f_X12_flag v1 v2 M = some z ∧ y.1 = z.1 ∧ IG GG (n + 1) y.2.1 y.2.2.1 (ddK dd y.2.2.2) z.2 := by
    intro f hf e1 e2
    obtain ⟨V2, er, sr⟩ := st_ref f sb
    obtain ⟨M2, ei, si⟩ := is_yes f sm hf
    obtain ⟨M3, e3, hm⟩ := mref_ok si
    obtain ⟨V3, ek, hI3⟩ := act_ref gg_ok (J2 := J) hn (by omega) hI eb sr hf em (ms_same si k1 k4 k70 k71 k74) hm (-1000000000)
    refine ⟨(-1000000000, V3, J, none), (-1000000000, M3), ?_, ?_, rfl, hI3⟩
    · unfold f_X11_flag
      rw [eb]; simp only [Option.bind_some]
      rw [e1, er]; simp only [Option.bind_some]
      rw [ek]; rfl
    · rw [e2 M2 ei, e3]; rfl
  rcases rng 8 (by omega) v1 with ⟨k, hk, rfl⟩ | hbad
  · have g1 : ¬ Int32.ofNat k < 0 := nat_nneg (by omega)
    have g2 : Int32.ofNat k < (8 : Int32) := (nat_lt (b := 8) (by omega) (by omega)).mpr hk
    have g3 : ¬ (7 : Int32) < Int32.ofNat k := fun q => by have := (nat_lt (a := 7) (by omega) (by omega)).mp q; omega
    have in1 : f_X12_in (Int32.ofNat k) 0 7 M1 = some 1 := in_yes g1 g3
    have ck : ckA 1646 ((1432 : Int32) + Int32.ofNat k) = some (1432 + k) := by
      rw [show (1432 : Int32) + Int32.ofNat k = Int32.ofNat (1432 + k) from (Int32.ofNat_add 1432 k).symm]; exact ck_nat (by omega) (by omega)
    by_cases hv : v2 < 0 ∨ 99 < v2
    · refine ref 7 (by decide) ?_ (fun M2 ei => ?_)
      · unfold f_X6_setFlag f_X6_setFlag_j29
        rw [if_neg g1, if_pos g2]
        by_cases h1 : v2 < 0
        · rw [if_pos h1]
        · rw [if_neg h1, if_neg (lt_nle (hv.resolve_left h1))]
      · unfold f_X12_flag f_X12_flag_j20 f_X12_flag_j43 f_X12_flag_j51
        rw [em]; simp only [Option.bind_some]
        rw [in1]; simp only [Option.bind_some]
        rw [if_neg (by decide), is_no 2 hf0]; simp only [Option.bind_some, if_true]
        rw [in_no hv]; simp only [Option.bind_some, if_true]
        rw [ei]; simp only [Option.bind_some]
        rw [if_neg (by decide)]
    · have h1 : ¬ v2 < 0 := fun q => hv (Or.inl q)
      have h2 : ¬ 99 < v2 := fun q => hv (Or.inr q)
      have eg : f_X7_get 1360 8 1 (Int32.ofNat k) 0 V1 = some (V1 0 (1360 + k * 1 + 0)) := get_nat (B := 1360) (R := 8) (C := 1) (c := 0) V1 hk (by omega) (by omega) (by omega) (by omega)
      have es : f_X7_set 1360 8 1 (Int32.ofNat k) 0 v2 V1 = f_X4_write (Int32.ofNat (1360 + k * 1 + 0)) v2 V1 := set_nat (B := 1360) (R := 8) (C := 1) (c := 0) V1 v2 hk (by omega) (by omega) (by omega)
      obtain ⟨V2, ew, sw, -⟩ := st_write (c := 1360 + k * 1 + 0) v2 sb (by omega) (by omega)
      have sm2 := ms_put (k := 1432 + k) v2 sm (by omega)
      have hans : V1 0 (1360 + k * 1 + 0) = M1 0 (1432 + k) := by
        rw [sb.2.1, sm.1]
        have := hgg.1.rf k hk
        rw [show 1360 + k * 1 + 0 = 1360 + k by omega]; exact this
      have hg2 : GG (n + 1) (upd (V 0) (1360 + k * 1 + 0) v2) (upd (M 0) (1432 + k) v2) := by
        refine gg_flag hgg (fun j hj => by rw [upd_at, if_neg (by omega)]) (fun j hj => by rw [upd_at, if_neg (by omega)]) ?_ ?_
        · intro q hq
          rw [upd_at, upd_at]
          by_cases hqk : q = k
          · rw [if_pos (by omega), if_pos (by omega)]
          · rw [if_neg (by omega), if_neg (by omega)]; exact hgg.1.rf q hq
        · intro q hq
          rw [upd_at]
          by_cases hqk : q = k
          · rw [if_pos (by omega)]; exact rg_of (by omega) h1 h2
          · rw [if_neg (by omega)]; exact hgg.2.wf q hq
      obtain ⟨V3, ko, M3, e1, e2, hI3⟩ := act_done gg_ok (J2 := J) hn (by omega) hI eb sw em sm2 hg2 (V1 0 (1360 + k * 1 + 0))
      refine ⟨(V1 0 (1360 + k * 1 + 0), V3, J, ko), (V1 0 (1360 + k * 1 + 0), M3), ?_, ?_, rfl, hI3⟩
      · unfold f_X11_flag f_X6_setFlag
        rw [eb]; simp only [Option.bind_some]
        rw [if_neg g1, if_pos g2, if_neg h1, if_pos (nlt_le h2), eg]
        simp only [Option.bind_some]
        rw [es, ew]; simp only [Option.bind_some]
        rw [e1]; rfl
      · unfold f_X12_flag f_X12_flag_j20 f_X12_flag_j43
        rw [em]; simp only [Option.bind_some]
        rw [in1]; simp only [Option.bind_some]
        rw [if_neg (by decide), is_no 2 hf0]; simp only [Option.bind_some, if_true]
        rw [in_yes h1 h2]; simp only [Option.bind_some]
        rw [if_neg (by decide), is_no 7 hf0]; simp only [Option.bind_some, if_true]
        rw [ck]; simp only [Option.bind_some]
        rw [← hans, e2]; rfl
  · have hb2 : v1 < 0 ∨ 7 < v1 := hbad.imp id (fun q => (i78 v1).mpr q)
    refine ref 2 (by decide) ?_ (fun M2 ei => ?_)
    · unfold f_X6_setFlag f_X6_setFlag_j10
      by_cases h1 : v1 < 0
      · rw [if_pos h1]
      · rw [if_neg h1, if_neg (show ¬ v1 < 8 from fun q => absurd (hbad.resolve_left h1) (lt_nle q))]
    · unfold f_X12_flag f_X12_flag_j20 f_X12_flag_j51
      rw [em]; simp only [Option.bind_some]
      rw [in_no hb2]; simp only [Option.bind_some, if_true]
      rw [ei]; simp only [Option.bind_some]
      rw [if_neg (by decide)]
theorem o_wave : O_wave (IG GG) := by
  intro n V J dd M v1 hn hI
  obtain ⟨V1, eb, sb, c1, c3, c4, c7, c11, c10⟩ := begin_ok 0 (by omega) (ig_rest hn hI)
  obtain ⟨M1, em, sm, k1, k3, k4, k6, k70, k71, k74⟩ := mbegin_ok M
  have hf0 : M1 7 2 = 0 := sm.2.2.2.1
  have hgg := ig_gg hI
  have hst := hI.2
  obtain ⟨old, cnt, s, b1, b2, b3, b4, b5, b6, b7, b8, b9, b10, b11, b12, b13, -⟩ := hst
  have ref : ∀ (f : Int32), f ≠ 0 → f_X6_waveFlag v1 V1 = (f_X9_refuse f V1).bind (fun r => some (r.1, r.2)) → (∀ M2, f_X12_is 1 f M1 = some (1, M2) → f_X12_wave v1 M = (f_X12_refused M2).bind (fun r => some (r.1, r.2))) → ∃ (y : Int32 × VT) (z : Int32 × VT), f_X11_wave v1 V = some y ∧ f_X12_wave v1 M = some z ∧ y.1 = z.1 ∧ IG GG (n + 1) y.2 J dd z.2 := by
    intro f hf e1 e2
    obtain ⟨V2, er, sr⟩ := st_ref f sb
    obtain ⟨M2, ei, si⟩ := is_yes f sm hf
    obtain ⟨M3, e3, hm⟩ := mref_ok si
    obtain ⟨V3, es, hR⟩ := settle_no (-1000000000) (by omega) sr hf
    refine ⟨(-1000000000, V3), (-1000000000, M3), ?_, ?_, rfl, ig_rf gg_ok hn (by omega) hI eb sr hR (ms_same si k1 k4 k70 k71 k74) hm⟩
    · unfold f_X11_wave
      rw [eb]; simp only [Option.bind_some]
      rw [e1, er]; simp only [Option.bind_some]
      rw [es]; rfl
    · rw [e2 M2 ei, e3]; rfl
  rcases rng 8 (by omega) v1 with ⟨k, hk, rfl⟩ | hbad
  · have g1 : ¬ Int32.ofNat k < 0 := nat_nneg (by omega)
    have g2 : Int32.ofNat k < (8 : Int32) := (nat_lt (b := 8) (by omega) (by omega)).mpr hk
    have g3 : ¬ (7 : Int32) < Int32.ofNat k := fun q => by have := (nat_lt (a := 7) (by omega) (by omega)).mp q; omega
    have in1 : f_X12_in (Int32.ofNat k) 0 7 M1 = some 1 := in_yes g1 g3
    have ck : ckA 1646 ((1432 : Int32) + Int32.ofNat k) = some (1432 + k) := by
      rw [show (1432 : Int32) + Int32.ofNat k = Int32.ofNat (1432 + k) from (Int32.ofNat_add 1432 k).symm]; exact ck_nat (by omega) (by omega)
    have eg : f_X7_get 1360 8 1 (Int32.ofNat k) 0 V1 = some (V1 0 (1360 + k * 1 + 0)) := get_nat (B := 1360) (R := 8) (C := 1) (c := 0) V1 hk (by omega) (by omega) (by omega) (by omega)
    have hans : V1 0 (1360 + k * 1 + 0) = M1 0 (1432 + k) := by
      rw [sb.2.1, sm.1]
      have := hgg.1.rf k hk
      rw [show 1360 + k * 1 + 0 = 1360 + k by omega]; exact this
    by_cases hv : V1 0 (1360 + k * 1 + 0) = 0
    · refine ref 6 (by decide) ?_ (fun M2 ei => ?_)
      · unfold f_X6_waveFlag
        rw [if_neg g1, if_pos g2, eg]; simp only [Option.bind_some]
        rw [if_pos hv]
      · unfold f_X12_wave f_X12_wave_j20 f_X12_wave_j46 f_X12_wave_j54
        rw [em]; simp only [Option.bind_some]
        rw [in1]; simp only [Option.bind_some]
        rw [if_neg (by decide), is_no 2 hf0]; simp only [Option.bind_some, if_true]
        rw [ck]; simp only [Option.bind_some]
        rw [← hans, if_pos hv, ei]; simp only [Option.bind_some]
        rw [if_neg (by decide)]
    · refine ⟨(V1 0 (1360 + k * 1 + 0), V1), (V1 0 (1360 + k * 1 + 0), M1), ?_, ?_, rfl, ?_⟩
      · unfold f_X11_wave f_X6_waveFlag
        rw [eb]; simp only [Option.bind_some]
        rw [if_neg g1, if_pos g2, eg]; simp only [Option.bind_some]
        rw [if_neg hv]; simp only [Option.bind_some]
        rw [settle_yes _ sb.2.2.2.2.1]; rfl
      · unfold f_X12_wave f_X12_wave_j20 f_X12_wave_j46
        rw [em]; simp only [Option.bind_some]
        rw [in1]; simp only [Option.bind_some]
        rw [if_neg (by decide), is_no 2 hf0]; simp only [Option.bind_some, if_true]
        rw [ck]; simp only [Option.bind_some]
        rw [← hans, if_neg hv, is_no 6 hf0]; simp only [Option.bind_some, if_true]
        rw [← hans]
      · show IG GG (n + 1) V1 J dd M1
        refine ig_ok gg_ok hn hI s b3 sb.2.1 (rest_of sb) c1 c3 c4 ?_ ?_ c7 ?_ sm.1 k1 k70 k74 ?_ ?_ ?_
        · rw [hf0]; exact sb.2.2.2.2.1
        · rw [sm.2.2.2.2.1]; exact sb.2.2.2.2.2.1
        · rw [c11]; exact b10
        · rw [k71]; exact b11
        · intro i hi; rw [c10, k4]; exact b12 i hi
        · intro i hi; rw [k4]; exact b13 i hi
  · have hb2 : v1 < 0 ∨ 7 < v1 := hbad.imp id (fun q => (i78 v1).mpr q)
    refine ref 2 (by decide) ?_ (fun M2 ei => ?_)
    · unfold f_X6_waveFlag f_X6_waveFlag_j10
      by_cases h1 : v1 < 0
      · rw [if_pos h1]
      · rw [if_neg h1, if_neg (show ¬ v1 < 8 from fun q => absurd (hbad.resolve_left h1) (lt_nle q))]
    · unfold f_X12_wave f_X12_wave_j20 f_X12_wave_j54
      rw [em]; simp only [Option.bind_some]
      rw [in_no hb2]; simp only [Option.bind_some, if_true]
      rw [ei]; simp only [Option.bind_some]
      rw [if_neg (by decide)]
