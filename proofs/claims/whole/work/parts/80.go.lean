/-! go: the bars looked at, the ticks, the act -/
theorem nar10 {p : Prop} [Decidable p] : vp_nar .boolean (if p then (1 : Int32) else 0) = if p then 1 else 0 := by
  by_cases q : p
  · rw [if_pos q]; decide
  · rw [if_neg q]; decide
theorem c_look {V : VT} {J : JT} {S : AT} (hg : GG 1000 (V 0) S) : ∃ V2 J2, f_X0_lookAtBars V J = some (V2, J2) ∧ (∀ k, k ≠ 4 → k ≠ 6 → k ≠ 7 → k ≠ 8 → V2 k = V k) ∧ RW S V2 := by
  have key := lp_inv (f := f_X0_lookAtBars_B2) (Q := fun y => (∀ k, k ≠ 4 → k ≠ 6 → k ≠ 7 → k ≠ 8 → y.1 k = V k) ∧ RW S y.1) (fun i s => s.1 = Int32.ofNat i ∧ (∀ k, k ≠ 4 → k ≠ 6 → k ≠ 7 → k ≠ 8 → s.2.1 k = V k) ∧ ∀ b, b < i → s.2.1 6 b = (if tdb S b = true then 1 else 0) ∧ s.2.1 7 b = (if bal (l16 S b 16) (S (21 * b + 4)).toInt then 1 else 0) ∧ s.2.1 8 b = (if hdb S b = true then 1 else 0)) 12 0 fuel ((0 : Int32), V, J) ⟨rfl, fun _ _ _ _ _ => rfl, fun b hb => by omega⟩ (fun i s _ hi2 hI => ?_) (fun s hI => ?_) (fuel_big (by omega))
  · obtain ⟨⟨V2, J2⟩, e, h1, h2⟩ := key
    refine ⟨V2, J2, ?_, h1, h2⟩
    unfold f_X0_lookAtBars
    rw [bsm]
    exact e
  · obtain ⟨x, V', J'⟩ := s
    obtain ⟨h1, h2, h3⟩ := hI
    have h1 : x = Int32.ofNat i := h1
    subst h1
    have h2 : ∀ k, k ≠ 4 → k ≠ 6 → k ≠ 7 → k ≠ 8 → V' k = V k := h2
    have h3 : ∀ b, b < i → V' 6 b = (if tdb S b = true then 1 else 0) ∧ V' 7 b = (if bal (l16 S b 16) (S (21 * b + 4)).toInt then 1 else 0) ∧ V' 8 b = (if hdb S b = true then 1 else 0) := h3
    have hi : i < 12 := by omega
    have n1 : ¬ (12 : Int32) ≤ Int32.ofNat i := fun q => by have := (nat_le (a := 12) (by omega) (by omega)).mp q; omega
    have ck : ckA 12 (Int32.ofNat i) = some i := ck_nat (by omega) (by omega)
    have g0 : GG 1000 (V' 0) S := by rw [h2 0 (by omega) (by omega) (by omega) (by omega)]; exact hg
    have e1 := c_tied g0 hi
    obtain ⟨W1, hW1⟩ : ∃ W, W = u2 V' 6 i (if tdb S i = true then 1 else 0) := ⟨_, rfl⟩
    have g1 : GG 1000 (W1 0) S := by rw [hW1, u2_ne (by omega)]; exact g0
    obtain ⟨z, -, hz, ez⟩ := hg.2.wb4k i hi
    have e2 := c_balanced g1 hi ez hz
    have ei : (z : Int) = (S (21 * i + 4)).toInt := by rw [ez, ti_nat (by omega)]
    rw [ei] at e2
    obtain ⟨W2, hW2⟩ : ∃ W, W = u2 W1 7 i (if bal (l16 S i 16) (S (21 * i + 4)).toInt then 1 else 0) := ⟨_, rfl⟩
    have g2 : GG 1000 (W2 0) S := by rw [hW2, u2_ne (by omega)]; exact g1
    obtain ⟨W3, J3, e3, k3⟩ := c_isHeld (J := J') g2 hi
    refine ⟨(Int32.ofNat (i + 1), u2 W3 8 i (if hdb S i = true then 1 else 0), J3), ?_, rfl, fun k a b c d => ?_, fun b hb => ?_⟩
    · simp only [f_X0_lookAtBars_B2, n1, e1, ck, nar10, ← hW1, e2, ← hW2, e3, nat_succ, bsm, if_true, if_false, ite_self, i10, i01, ite01, ite10, true_or, or_true, false_or, or_false, ite_not, not_true_eq_false, not_false_eq_true]
    · show u2 W3 8 i _ k = V k
      rw [u2_ne d, k3 k a, hW2, u2_ne c, hW1, u2_ne b]; exact h2 k a b c d
    · refine ⟨?_, ?_, ?_⟩
      · show u2 W3 8 i (if hdb S i = true then 1 else 0) 6 b = _
        rw [u2_ne (by omega), k3 6 (by omega), hW2, u2_ne (by omega), hW1, u2_at]
        by_cases e : b = i
        · rw [if_pos (show 6 = 6 ∧ b = i from ⟨rfl, e⟩), e]
        · rw [if_neg (show ¬ (6 = 6 ∧ b = i) from fun q => e q.2)]; exact (h3 b (by omega)).1
      · show u2 W3 8 i (if hdb S i = true then 1 else 0) 7 b = _
        rw [u2_ne (by omega), k3 7 (by omega), hW2, u2_at]
        by_cases e : b = i
        · rw [if_pos (show 7 = 7 ∧ b = i from ⟨rfl, e⟩), e]
        · rw [if_neg (show ¬ (7 = 7 ∧ b = i) from fun q => e q.2), hW1, u2_ne (by omega)]; exact (h3 b (by omega)).2.1
      · show u2 W3 8 i (if hdb S i = true then 1 else 0) 8 b = _
        rw [u2_at]
        by_cases e : b = i
        · rw [if_pos (show 8 = 8 ∧ b = i from ⟨rfl, e⟩), e]
        · rw [if_neg (show ¬ (8 = 8 ∧ b = i) from fun q => e q.2), k3 8 (by omega), hW2, u2_ne (by omega), hW1, u2_ne (by omega)]; exact (h3 b (by omega)).2.2
  · obtain ⟨x, V', J'⟩ := s
    rw [Nat.zero_add] at hI
    obtain ⟨h1, h2, h3⟩ := hI
    have h1 : x = Int32.ofNat 12 := h1
    subst h1
    refine ⟨(V', J'), ?_, h2, h3⟩
    have n1 : (12 : Int32) ≤ Int32.ofNat 12 := by decide
    simp only [f_X0_lookAtBars_B2, n1, bsm, if_true, if_false, ite_self, i10, i01, ite01, ite10, true_or, or_true, false_or, or_false, ite_not, not_true_eq_false, not_false_eq_true]
theorem ticks_loop {O : AT} {B : VT} {S0 : AT} {M1 : VT} {N : Nat} {J : JT} (hN : N ≤ 100) : ∀ (k i tot s T : Nat) (V M : VT) (f g : Nat), i + k = N → k < f → k < g → s + 12 * k + 12 < 1200000 → T + k < 100000 → PQ O B S0 M1 s (Int32.ofNat T) V M → ∃ (tot2 : Nat) (V2 M2 : VT), tot2 ≤ tot + 60 * k ∧ lp (f_X0_runTicks_B29 (Int32.ofNat N) J) f (Int32.ofNat tot, Int32.ofNat i, V) = ((f_X7_get 1868 1 6 (0 : Int32) (4 : Int32) V2).bind fun r6 => (f_X7_set 1868 1 6 (0 : Int32) (4 : Int32) (r6 + Int32.ofNat tot2) V2).bind fun r7 => some (Int32.ofNat tot2, r7, J)) ∧ lp (f_X12_go_B37 (Int32.ofNat N)) g (Int32.ofNat tot, Int32.ofNat i, M) = ((f_X12_keep (Int32.ofNat tot2) (u2 M2 0 1644 (M2 0 1644 + Int32.ofNat tot2))).bind fun r9 => some (r9.1, r9.2)) ∧ PQ O B S0 M1 (s + 12 * k) (Int32.ofNat (T + k)) V2 M2 := by
  intro k
  induction k with
  | zero =>
    intro i tot s T V M f g hi hf hg hs hT hP
    have e : i = N := by omega
    subst e
    obtain ⟨F, rfl⟩ : ∃ F, f = F + 1 := ⟨f - 1, by omega⟩
    obtain ⟨H, rfl⟩ : ∃ H, g = H + 1 := ⟨g - 1, by omega⟩
    have k44 : ckA 1646 (1644 : Int32) = some 1644 := ck_lit (k := 1644) rfl (by omega) (by omega)
    refine ⟨tot, V, M, by omega, lp_endX ?_, lp_endX ?_, hP⟩
    · unfold f_X0_runTicks_B29
      rw [if_pos (Int32.le_refl _)]
    · unfold f_X12_go_B37
      rw [if_pos (Int32.le_refl _), k44, bsm, bsm]
  | succ k ih =>
    intro i tot s T V M f g hi hf hg hs hT hP
    obtain ⟨F, rfl⟩ : ∃ F, f = F + 1 := ⟨f - 1, by omega⟩
    obtain ⟨H, rfl⟩ : ∃ H, g = H + 1 := ⟨g - 1, by omega⟩
    have n1 : ¬ Int32.ofNat N ≤ Int32.ofNat i := fun q => by have := (nat_le (by omega) (by omega)).mp q; omega
    obtain ⟨u, V1, M1', hu, e1, e2, p1⟩ := tick_both (by omega) (by omega) hP
    obtain ⟨t2, V2, M2, ht, e3, e4, p2⟩ := ih (i + 1) (tot + u) (s + 12) (T + 1) V1 M1' F H (by omega) (by omega) (by omega) (by omega) (by omega) p1
    refine ⟨t2, V2, M2, by omega, ?_, ?_, ?_⟩
    · have st : f_X0_runTicks_B29 (Int32.ofNat N) J (Int32.ofNat tot, Int32.ofNat i, V) = some (.inl (Int32.ofNat (tot + u), Int32.ofNat (i + 1), V1)) := by
        unfold f_X0_runTicks_B29
        rw [if_neg n1, e1, bsm, bsm, bsm, add32, nat_succ]
      rw [lp_step st, e3]
    · have st : f_X12_go_B37 (Int32.ofNat N) (Int32.ofNat tot, Int32.ofNat i, M) = some (.inl (Int32.ofNat (tot + u), Int32.ofNat (i + 1), M1')) := by
        unfold f_X12_go_B37
        rw [if_neg n1, e2, bsm, bsm, bsm, add32, nat_succ]
      rw [lp_step st, e4]
    · rw [show s + 12 * (k + 1) = s + 12 + 12 * k by omega, show T + (k + 1) = T + 1 + k by omega]; exact p2
theorem gg_units {n : Nat} {C C2 S S2 : AT} (h0 : GG n C S) (uC : ∀ j, j ≠ 1872 → C j = C2 j) (uS : ∀ j, j ≠ 1644 → S j = S2 j) (a_rn4 : R_rn4 C2 S2) (a_wn4 : W_wn4 n S2) : GG n C2 S2 := by
  have h := h0
  exact ⟨⟨R_rb0_rg (fun b _ => uC (4 * b) (by omega)) (fun b _ => uS (21 * b + 1) (by omega)) h.1.rb0, R_rb1_rg (fun b _ => uC (4 * b + 1) (by omega)) (fun b _ => uS (21 * b + 2) (by omega)) h.1.rb1, R_rb2_rg (fun b _ => uC (4 * b + 2) (by omega)) (fun b _ => uS (21 * b + 3) (by omega)) h.1.rb2, R_rb3_rg (fun b _ => uC (4 * b + 3) (by omega)) (fun b _ => uS (21 * b + 4) (by omega)) h.1.rb3, R_rc_rg (fun b p _ _ => uC (48 + 16 * b + p) (by omega)) (fun b p _ _ => uS (21 * b + 5 + p) (by omega)) h.1.rc, R_rl0_rg (fun l _ => uC (240 + 12 * l) (by omega)) (fun l _ => uS (252 + 12 * l) (by omega)) h.1.rl0, R_rl1_rg (fun l _ => uC (240 + 12 * l + 1) (by omega)) (fun l _ => uS (252 + 12 * l + 1) (by omega)) h.1.rl1, R_rl2_rg (fun l _ => uC (240 + 12 * l + 2) (by omega)) (fun l _ => uS (252 + 12 * l + 2) (by omega)) h.1.rl2, R_rl3_rg (fun l _ => uC (240 + 12 * l + 3) (by omega)) (fun l _ => uS (252 + 12 * l + 3) (by omega)) h.1.rl3, R_rls_rg (fun l i _ _ => uC (240 + 12 * l + 4 + i) (by omega)) (fun l i _ _ => uS (252 + 12 * l + 4 + i) (by omega)) h.1.rls, R_rt0_rg (fun t _ => uC (720 + 8 * t) (by omega)) (fun t _ => uS (732 + 5 * t) (by omega)) h.1.rt0, R_rt1_rg (fun t _ => uC (720 + 8 * t + 1) (by omega)) (fun t _ => uS (732 + 5 * t + 1) (by omega)) h.1.rt1, R_rt2_rg (fun t _ => uC (720 + 8 * t + 2) (by omega)) (fun t _ => uS (732 + 5 * t + 2) (by omega)) h.1.rt2, R_rt3_rg (fun t _ => uC (720 + 8 * t + 3) (by omega)) (fun t _ => uS (732 + 5 * t + 3) (by omega)) h.1.rt3, R_rh_rg (fun t _ => uC (720 + 8 * t + 5) (by omega)) (fun t _ => uS (732 + 5 * t + 4) (by omega)) h.1.rh, R_rf_rg (fun k _ => uC (1360 + k) (by omega)) (fun k _ => uS (1432 + k) (by omega)) h.1.rf, R_rq0_rg (fun c _ => uC (1368 + 5 * c) (by omega)) (fun c _ => uS (1132 + 5 * c) (by omega)) h.1.rq0, R_rq1_rg (fun c _ => uC (1368 + 5 * c + 1) (by omega)) (fun c _ => uS (1132 + 5 * c + 1) (by omega)) h.1.rq1, R_rq2_rg (fun c _ => uC (1368 + 5 * c + 2) (by omega)) (fun c _ => uS (1132 + 5 * c + 2) (by omega)) h.1.rq2, R_rq3_rg (fun c _ => uC (1368 + 5 * c + 3) (by omega)) (fun c _ => uS (1132 + 5 * c + 3) (by omega)) h.1.rq3, R_rq4_rg (fun c _ => uC (1368 + 5 * c + 4) (by omega)) (fun c _ => uS (1132 + 5 * c + 4) (by omega)) h.1.rq4, R_rn0_rg (uC (1868) (by omega)) (uS (1640) (by omega)) h.1.rn0, R_rn1_rg (uC (1869) (by omega)) (uS (1641) (by omega)) h.1.rn1, R_rn2_rg (uC (1870) (by omega)) (uS (1642) (by omega)) h.1.rn2, R_rn3_rg (uC (1871) (by omega)) (uS (1643) (by omega)) h.1.rn3, a_rn4, R_rn5_rg (uC (1873) (by omega)) (uS (1645) (by omega)) h.1.rn5, R_rg_rg (uS (1641) (by omega)) (fun t _ => uS (732 + 5 * t) (by omega)) (fun t _ => uS (732 + 5 * t + 3) (by omega)) (fun t _ => uC (720 + 8 * t + 4) (by omega)) h.1.rg, R_rp_rg (uS (1641) (by omega)) (fun t _ => uS (732 + 5 * t) (by omega)) (fun b p _ _ => uS (21 * b + 5 + p) (by omega)) (fun t _ => uC (720 + 8 * t + 6) (by omega)) (fun t _ => uC (720 + 8 * t + 7) (by omega)) h.1.rp, R_rs_rg (uS (1643) (by omega)) (fun k _ => uS (1440 + k) (by omega)) (fun k _ => uC (1668 + k) (by omega)) h.1.rs⟩, ⟨W_wn0_rg (uS (1640) (by omega)) h.2.wn0, W_wn1_rg (uS (1641) (by omega)) h.2.wn1, W_wn2_rg (uS (1642) (by omega)) h.2.wn2, W_wn3_rg (uS (1643) (by omega)) h.2.wn3, a_wn4, W_wn5_rg (uS (1645) (by omega)) h.2.wn5, W_wb0_rg (fun b _ => uS (21 * b) (by omega)) h.2.wb0, W_wbp_rg (fun b _ => uS (21 * b) (by omega)) (fun b _ => uS (21 * b + 1) (by omega)) h.2.wbp, W_wbg_rg (fun b _ => uS (21 * b) (by omega)) (fun b _ => uS (21 * b + 2) (by omega)) h.2.wbg, W_wbh_rg (fun b _ => uS (21 * b) (by omega)) (fun b _ => uS (21 * b + 3) (by omega)) h.2.wbh, W_wbk_rg (fun b _ => uS (21 * b) (by omega)) (fun b _ => uS (21 * b + 4) (by omega)) h.2.wbk, W_wb2_rg (fun b _ => uS (21 * b) (by omega)) (fun b _ => uS (21 * b + 1) (by omega)) h.2.wb2, W_wb2g_rg (fun b _ => uS (21 * b) (by omega)) (fun b _ => uS (21 * b + 2) (by omega)) h.2.wb2g, W_wb3_rg (fun b _ => uS (21 * b + 1) (by omega)) (fun b p _ _ => uS (21 * b + 5 + p) (by omega)) h.2.wb3, W_wb4_rg (fun b _ => uS (21 * b + 3) (by omega)) h.2.wb4, W_wb4k_rg (fun b _ => uS (21 * b + 4) (by omega)) h.2.wb4k, W_wb5_rg (fun b p _ _ => uS (21 * b + 5 + p) (by omega)) (uS (1641) (by omega)) h.2.wb5, W_wl0_rg (uS (1640) (by omega)) (fun l _ => uS (252 + 12 * l + 3) (by omega)) h.2.wl0, W_wla_rg (uS (1640) (by omega)) (fun l _ => uS (252 + 12 * l) (by omega)) h.2.wla, W_wlb_rg (uS (1640) (by omega)) (fun l _ => uS (252 + 12 * l + 1) (by omega)) h.2.wlb, W_wlc_rg (uS (1640) (by omega)) (fun l _ => uS (252 + 12 * l + 2) (by omega)) h.2.wlc, W_wld_rg (uS (1640) (by omega)) (fun l _ => uS (252 + 12 * l + 3) (by omega)) h.2.wld, W_wl2_rg (uS (1640) (by omega)) (fun l _ => uS (252 + 12 * l + 2) (by omega)) (fun l i _ _ => uS (252 + 12 * l + 4 + i) (by omega)) h.2.wl2, W_wl4_rg (fun l _ => uS (252 + 12 * l + 3) (by omega)) (fun l _ => uS (252 + 12 * l) (by omega)) (fun l _ => uS (252 + 12 * l + 1) (by omega)) h.2.wl4, W_wt0_rg (uS (1641) (by omega)) (fun t _ => uS (732 + 5 * t) (by omega)) h.2.wt0, W_wt1_rg (uS (1641) (by omega)) (fun t _ => uS (732 + 5 * t + 1) (by omega)) h.2.wt1, W_wt2_rg (uS (1641) (by omega)) (fun t _ => uS (732 + 5 * t + 2) (by omega)) h.2.wt2, W_wt3_rg (uS (1641) (by omega)) (fun t _ => uS (732 + 5 * t + 3) (by omega)) h.2.wt3, W_wt4_rg (uS (1641) (by omega)) (fun t _ => uS (732 + 5 * t + 4) (by omega)) (fun t _ => uS (732 + 5 * t) (by omega)) h.2.wt4, W_wqa_rg (uS (1642) (by omega)) (fun c _ => uS (1132 + 5 * c) (by omega)) h.2.wqa, W_wqb_rg (uS (1642) (by omega)) (fun c _ => uS (1132 + 5 * c + 1) (by omega)) h.2.wqb, W_wqc_rg (uS (1642) (by omega)) (fun c _ => uS (1132 + 5 * c + 2) (by omega)) h.2.wqc, W_wqd_rg (uS (1642) (by omega)) (fun c _ => uS (1132 + 5 * c + 3) (by omega)) h.2.wqd, W_wqe_rg (uS (1642) (by omega)) (fun c _ => uS (1132 + 5 * c + 4) (by omega)) h.2.wqe, W_wq2_rg (uS (1642) (by omega)) (fun c _ => uS (1132 + 5 * c) (by omega)) (fun b _ => uS (21 * b) (by omega)) (fun c _ => uS (1132 + 5 * c + 4) (by omega)) (fun c _ => uS (1132 + 5 * c + 2) (by omega)) (fun c _ => uS (1132 + 5 * c + 3) (by omega)) (uS (1645) (by omega)) h.2.wq2, W_wf_rg (fun k _ => uS (1432 + k) (by omega)) h.2.wf, W_wh_rg (fun b p _ _ => uS (21 * b + 5 + p) (by omega)) (fun t _ => uS (732 + 5 * t) (by omega)) (fun t _ => uS (732 + 5 * t + 4) (by omega)) h.2.wh⟩⟩
theorem gg_units2 {C S : AT} {x : Int32} (h : GG 1000 C S) (hx : RG x 0 6000000) : GG 1000 (upd C 1872 x) (upd S 1644 x) := by
  refine gg_units h (fun j hj => by rw [upd_ne hj]) (fun j hj => by rw [upd_ne hj]) ?_ ?_
  · rw [R_rn4, upd_same, upd_same]
  · rw [W_wn4, upd_same]; exact hx
theorem gg_lower {n : Nat} {C S : AT} (h : GG 1000 C S) (a3 : RG (S 1643) 0 (1200 * n)) (a4 : RG (S 1644) 0 (6000 * n)) (a5 : RG (S 1645) 0 (100 * n)) (ah : W_wh n S) : GG n C S :=
  ⟨h.1, ⟨h.2.wn0, h.2.wn1, h.2.wn2, a3, a4, a5, h.2.wb0, h.2.wbp, h.2.wbg, h.2.wbh, h.2.wbk, h.2.wb2, h.2.wb2g, h.2.wb3, h.2.wb4, h.2.wb4k, h.2.wb5, h.2.wl0, h.2.wla, h.2.wlb, h.2.wlc, h.2.wld, h.2.wl2, h.2.wl4, h.2.wt0, h.2.wt1, h.2.wt2, h.2.wt3, h.2.wt4, h.2.wqa, h.2.wqb, h.2.wqc, h.2.wqd, h.2.wqe, h.2.wq2, h.2.wf, ah⟩⟩
theorem wh_un {n m : Nat} {S S2 : AT} (hu : UN S S2) (hn : n < 1000) (h : W_wh n S) : W_wh m S2 := by
  intro b p q t u hb hp hq h1 h2 ht hu2 _ e1 e2 e3
  rw [un_ct hu hb hp] at e1
  rw [un_ct hu hb hq] at e2
  rw [un_t0 hu ht] at e3
  rw [un_t (i := 4) hu hu2 (by omega)]
  exact h b p q t u hb hp hq h1 h2 ht hu2 hn e1 e2 e3
theorem aok_go (v1 : Int32) : AOK (f_X0_runTicks v1) (f_X12_go v1) := by
  intro n O B V J M M1 hn sb hgg em sm
  have hf0 : M1 7 2 = 0 := sm.2.2.2.1
  have m0 : M1 0 = M 0 := sm.1
  have ei := in_eq (v := v1) (a := 1) (b := 100) (M := M1)
  by_cases hv : v1 < 1 ∨ 100 < v1
  · rw [if_pos hv] at ei
    refine aok_refJ (J := J) 7 (by decide) sb sm (fun V2 er _ => ?_) (fun M2 M3 e1 e2 => ?_)
    · by_cases q : v1 < 1
      · simp only [f_X0_runTicks, f_X0_runTicks_j11, q, er, bsm, if_true, if_false, ite_self, i10, i01, ite01, ite10, true_or, or_true, false_or, or_false, ite_not, not_true_eq_false, not_false_eq_true]
      · have q2 : ¬ v1 ≤ 100 := fun q3 => Int32.not_lt.mpr q3 (hv.resolve_left q)
        simp only [f_X0_runTicks, f_X0_runTicks_j11, q, q2, er, bsm, if_true, if_false, ite_self, i10, i01, ite01, ite10, true_or, or_true, false_or, or_false, ite_not, not_true_eq_false, not_false_eq_true]
    · simp only [f_X12_go, f_X12_go_j20, em, ei, e1, e2, bsm, if_true, if_false, ite_self, i10, i01, ite01, ite10, true_or, or_true, false_or, or_false, ite_not, not_true_eq_false, not_false_eq_true]
  · have q1 : ¬ v1 < 1 := fun q => hv (Or.inl q)
    have q2 : ¬ 100 < v1 := fun q => hv (Or.inr q)
    have q3 : v1 ≤ 100 := Int32.not_lt.mp q2
    rw [if_neg hv] at ei
    obtain ⟨N, hN1, hN, rfl⟩ := rg_of2 (lo := 1) (hi := 100) (by omega) (by omega) q1 q2
    have g1000 : GG 1000 (V 0) (M 0) := gg_ok.1 _ _ _ (gg_999 hgg hn)
    obtain ⟨V1, J1, el, k1, r1⟩ := c_look (J := J) g1000
    obtain ⟨m3, -, hm3, eN3⟩ := hgg.2.wn3
    obtain ⟨E, -, hE, eE⟩ := hgg.2.wn4
    obtain ⟨T, -, hT, eT⟩ := hgg.2.wn5
    have v0 : V1 0 = V 0 := k1 0 (by omega) (by omega) (by omega) (by omega)
    have p0 : PQ O B (M 0) M1 (1200 * n) (Int32.ofNat T) V1 M1 := by
      unfold PQ
      rw [v0, m0]
      refine ⟨st_scr sb (fun k hk => ?_) (k1 10 (by omega) (by omega) (by omega) (by omega)) (fun i _ => by rw [k1 11 (by omega) (by omega) (by omega) (by omega)]), sm, g1000, r1, UN.rf, ⟨m3, hm3, eN3⟩, rfl, eT⟩
      exact k1 k (by omega) (by omega) (by omega) (by omega)
    obtain ⟨tot, V2, M2, ht, e1, e2, p2⟩ := ticks_loop (J := J1) hN N 0 0 (1200 * n) T V1 M1 fuel fuel (by omega) (fuel_big (by omega)) (fuel_big (by omega)) (by omega) (by omega) p0
    obtain ⟨w1, w2, w3, w4, w5, ⟨m, hm, wN⟩, w7, w8⟩ := p2
    have eg : f_X7_get 1868 1 6 (0 : Int32) (4 : Int32) V2 = some (Int32.ofNat E) := by rw [← eE, ← w7]; exact nget (i := 4) w3 (by omega)
    have es : ∀ X, f_X7_set 1868 1 6 (0 : Int32) (4 : Int32) X V2 = f_X4_write (Int32.ofNat 1872) X V2 := fun X => scount (c := 4) X (by omega)
    obtain ⟨V3, ew, sw, -⟩ := st_write (c := 1872) (Int32.ofNat (E + tot)) w1 (by omega) (by omega)
    refine Or.inr ⟨Int32.ofNat tot, V3, J1, upd (V2 0) 1872 (Int32.ofNat (E + tot)), upd (M2 0) 1644 (Int32.ofNat (E + tot)), u2 M2 0 1644 (Int32.ofNat (E + tot)), ?_, sw, ms_put _ w2 (by omega), ?_, ?_⟩
    · unfold f_X0_runTicks
      rw [if_neg q1, if_pos q3, el, bsm, bsm, bsm]
      refine Eq.trans e1 ?_
      rw [eg, bsm, add32, es, ew, bsm]
    · have i7 := is_no 7 hf0
      unfold f_X12_go f_X12_go_j20
      rw [em, bsm, ei, bsm, if_neg (show ¬ (1 : Int32) = 0 by decide), i7, bsm, if_pos rfl, bsm, bsm]
      refine Eq.trans e2 ?_
      rw [w7, eE, add32]
    · have hu : UN (M 0) (upd (M2 0) 1644 (Int32.ofNat (E + tot))) := w5.tr (fun j _ _ h => upd_ne (by omega))
      refine gg_lower (gg_units2 w3 ⟨E + tot, by omega, by omega, rfl⟩) ?_ ?_ ?_ (wh_un hu (by omega) hgg.2.wh)
      · rw [upd_ne (by omega)]; exact ⟨m, by omega, by omega, wN⟩
      · rw [upd_same]; exact ⟨E + tot, by omega, by omega, rfl⟩
      · rw [upd_ne (by omega)]; exact ⟨T + N, by omega, by omega, w8⟩
theorem o_go : O_go (IG GG) := fun _ _ _ _ _ v1 hn hI => aok_run (aok_go v1) hn hI rfl
