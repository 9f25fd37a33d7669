/-! bar, cue -/
theorem lp_run {S Y : Type} {f : S → Option (S ⊕ Y)} (g : Nat → S) {X : Option Y} : ∀ (k a n : Nat), (∀ i, a ≤ i → i < a + k → f (g i) = some (.inl (g (i + 1)))) → (f (g (a + k)) = X.bind fun y => some (.inr y)) → k < n → lp f n (g a) = X := by
  intro k
  induction k with
  | zero =>
    intro a n _ h hn
    obtain ⟨n, rfl⟩ : ∃ q, n = q + 1 := ⟨n - 1, by omega⟩
    show (f (g a)).bind _ = X
    rw [show g a = g (a + 0) from rfl, h]
    cases X <;> rfl
  | succ k ih =>
    intro a n h1 h hn
    obtain ⟨n, rfl⟩ : ∃ q, n = q + 1 := ⟨n - 1, by omega⟩
    show (f (g a)).bind _ = X
    rw [h1 a (by omega) (by omega)]
    exact ih (a + 1) n (fun i h2 h3 => h1 i (by omega) (by omega)) (by rw [show a + 1 + k = a + (k + 1) by omega]; exact h) (by omega)
theorem rg_of2 {x : Int32} {lo hi : Nat} (hl : lo < 2147483648) (hh : hi < 2147483648) (h1 : ¬ x < Int32.ofNat lo) (h2 : ¬ Int32.ofNat hi < x) : RG x lo hi := by
  have q1 : ¬ x.toInt < (lo : Int) := fun q => h1 (Int32.lt_iff_toInt_lt.mpr (by rw [ti_nat hl]; exact q))
  have q2 : ¬ (hi : Int) < x.toInt := fun q => h2 (Int32.lt_iff_toInt_lt.mpr (by rw [ti_nat hh]; exact q))
  refine ⟨x.toInt.toNat, by omega, by omega, ?_⟩
  rw [← Int32.toInt_inj, ti_nat (by omega)]
  omega
theorem u2r_ne {V : VT} {k : Nat} {x : Int32} {j : Nat} (h : j ≠ k) : u2 V 0 k x 0 j = V 0 j := by rw [u2_at, if_neg (fun q => h q.2)]
theorem u2r_eq {V : VT} {k : Nat} {x : Int32} : u2 V 0 k x 0 k = x := by rw [u2_at, if_pos ⟨rfl, rfl⟩]
theorem add_sub1 {x : Int32} : x + 1 - 1 = x := Int32.add_sub_cancel x 1
theorem bar_loop {M1 : VT} {b : Nat} (v2 v3 : Int32) (hb : b < 12) (hz : ∀ i, i < 21 → M1 0 (21 * b + i) = 0) : lp (f_X12_bar_B103 v2 v3 (Int32.ofNat (21 * b))) fuel ((0 : Int32), M1) = (f_X12_keep v2 (u2 (u2 (u2 M1 0 (21 * b) 1) 0 (21 * b + 1) v2) 0 (21 * b + 2) v3)).bind fun r => some (r.1, r.2) := by
  refine lp_run (fun i => (Int32.ofNat i, M1)) 21 0 fuel (fun i _ hi => ?_) ?_ (fuel_big (by omega))
  · have hi : i < 21 := by omega
    unfold f_X12_bar_B103
    have n1 : ¬ (21 : Int32) ≤ Int32.ofNat i := fun q => by have := (nat_le (a := 21) (by omega) (by omega)).mp q; omega
    simp only [n1, if_false]
    rw [show Int32.ofNat (21 * b) + Int32.ofNat i = Int32.ofNat (21 * b + i) from (Int32.ofNat_add (21 * b) i).symm, ck_nat (by omega) (by omega)]
    simp only [Option.bind_some]
    rw [nat_succ, u2_id (hz i hi)]
  · unfold f_X12_bar_B103
    have n1 : (21 : Int32) ≤ Int32.ofNat (0 + 21) := by decide
    have k0 : ckA 1646 (Int32.ofNat (21 * b)) = some (21 * b) := ck_nat (by omega) (by omega)
    have k1 : ckA 1646 (Int32.ofNat (21 * b) + 1) = some (21 * b + 1) := ck_lit (Int32.ofNat_add (21 * b) 1).symm (by omega) (by omega)
    have k2 : ckA 1646 (Int32.ofNat (21 * b) + 2) = some (21 * b + 2) := ck_lit (Int32.ofNat_add (21 * b) 2).symm (by omega) (by omega)
    simp only [n1, if_true, k0, k1, k2, Option.bind_some]
theorem gg_bar {n : Nat} {C C2 S S2 : AT} (h0 : GG n C S) (uC : ∀ j, (∀ b : Nat, b < 12 → j ≠ 4 * b) → (∀ b : Nat, b < 12 → j ≠ 4 * b + 1) → C j = C2 j) (uS : ∀ j, (∀ b : Nat, b < 12 → j ≠ 21 * b) → (∀ b : Nat, b < 12 → j ≠ 21 * b + 1) → (∀ b : Nat, b < 12 → j ≠ 21 * b + 2) → S j = S2 j) (a_rb0 : R_rb0 C2 S2) (a_rb1 : R_rb1 C2 S2) (a_wb0 : W_wb0 (n + 1) S2) (a_wbp : W_wbp (n + 1) S2) (a_wbg : W_wbg (n + 1) S2) (a_wbh : W_wbh (n + 1) S2) (a_wbk : W_wbk (n + 1) S2) (a_wb2 : W_wb2 (n + 1) S2) (a_wb2g : W_wb2g (n + 1) S2) (a_wb3 : W_wb3 (n + 1) S2) (a_wq2 : W_wq2 (n + 1) S2) : GG (n + 1) C2 S2 := by
  have h := gg_ok.1 _ _ _ h0
  exact ⟨⟨a_rb0, a_rb1, R_rb2_rg (fun b _ => uC (4 * b + 2) (fun _ _ => by omega) (fun _ _ => by omega)) (fun b _ => uS (21 * b + 3) (fun _ _ => by omega) (fun _ _ => by omega) (fun _ _ => by omega)) h.1.rb2, R_rb3_rg (fun b _ => uC (4 * b + 3) (fun _ _ => by omega) (fun _ _ => by omega)) (fun b _ => uS (21 * b + 4) (fun _ _ => by omega) (fun _ _ => by omega) (fun _ _ => by omega)) h.1.rb3, R_rc_rg (fun b p _ _ => uC (48 + 16 * b + p) (fun _ _ => by omega) (fun _ _ => by omega)) (fun b p _ _ => uS (21 * b + 5 + p) (fun _ _ => by omega) (fun _ _ => by omega) (fun _ _ => by omega)) h.1.rc, R_rl0_rg (fun l _ => uC (240 + 12 * l) (fun _ _ => by omega) (fun _ _ => by omega)) (fun l _ => uS (252 + 12 * l) (fun _ _ => by omega) (fun _ _ => by omega) (fun _ _ => by omega)) h.1.rl0, R_rl1_rg (fun l _ => uC (240 + 12 * l + 1) (fun _ _ => by omega) (fun _ _ => by omega)) (fun l _ => uS (252 + 12 * l + 1) (fun _ _ => by omega) (fun _ _ => by omega) (fun _ _ => by omega)) h.1.rl1, R_rl2_rg (fun l _ => uC (240 + 12 * l + 2) (fun _ _ => by omega) (fun _ _ => by omega)) (fun l _ => uS (252 + 12 * l + 2) (fun _ _ => by omega) (fun _ _ => by omega) (fun _ _ => by omega)) h.1.rl2, R_rl3_rg (fun l _ => uC (240 + 12 * l + 3) (fun _ _ => by omega) (fun _ _ => by omega)) (fun l _ => uS (252 + 12 * l + 3) (fun _ _ => by omega) (fun _ _ => by omega) (fun _ _ => by omega)) h.1.rl3, R_rls_rg (fun l i _ _ => uC (240 + 12 * l + 4 + i) (fun _ _ => by omega) (fun _ _ => by omega)) (fun l i _ _ => uS (252 + 12 * l + 4 + i) (fun _ _ => by omega) (fun _ _ => by omega) (fun _ _ => by omega)) h.1.rls, R_rt0_rg (fun t _ => uC (720 + 8 * t) (fun _ _ => by omega) (fun _ _ => by omega)) (fun t _ => uS (732 + 5 * t) (fun _ _ => by omega) (fun _ _ => by omega) (fun _ _ => by omega)) h.1.rt0, R_rt1_rg (fun t _ => uC (720 + 8 * t + 1) (fun _ _ => by omega) (fun _ _ => by omega)) (fun t _ => uS (732 + 5 * t + 1) (fun _ _ => by omega) (fun _ _ => by omega) (fun _ _ => by omega)) h.1.rt1, R_rt2_rg (fun t _ => uC (720 + 8 * t + 2) (fun _ _ => by omega) (fun _ _ => by omega)) (fun t _ => uS (732 + 5 * t + 2) (fun _ _ => by omega) (fun _ _ => by omega) (fun _ _ => by omega)) h.1.rt2, R_rt3_rg (fun t _ => uC (720 + 8 * t + 3) (fun _ _ => by omega) (fun _ _ => by omega)) (fun t _ => uS (732 + 5 * t + 3) (fun _ _ => by omega) (fun _ _ => by omega) (fun _ _ => by omega)) h.1.rt3, R_rh_rg (fun t _ => uC (720 + 8 * t + 5) (fun _ _ => by omega) (fun _ _ => by omega)) (fun t _ => uS (732 + 5 * t + 4) (fun _ _ => by omega) (fun _ _ => by omega) (fun _ _ => by omega)) h.1.rh, R_rf_rg (fun k _ => uC (1360 + k) (fun _ _ => by omega) (fun _ _ => by omega)) (fun k _ => uS (1432 + k) (fun _ _ => by omega) (fun _ _ => by omega) (fun _ _ => by omega)) h.1.rf, R_rq0_rg (fun c _ => uC (1368 + 5 * c) (fun _ _ => by omega) (fun _ _ => by omega)) (fun c _ => uS (1132 + 5 * c) (fun _ _ => by omega) (fun _ _ => by omega) (fun _ _ => by omega)) h.1.rq0, R_rq1_rg (fun c _ => uC (1368 + 5 * c + 1) (fun _ _ => by omega) (fun _ _ => by omega)) (fun c _ => uS (1132 + 5 * c + 1) (fun _ _ => by omega) (fun _ _ => by omega) (fun _ _ => by omega)) h.1.rq1, R_rq2_rg (fun c _ => uC (1368 + 5 * c + 2) (fun _ _ => by omega) (fun _ _ => by omega)) (fun c _ => uS (1132 + 5 * c + 2) (fun _ _ => by omega) (fun _ _ => by omega) (fun _ _ => by omega)) h.1.rq2, R_rq3_rg (fun c _ => uC (1368 + 5 * c + 3) (fun _ _ => by omega) (fun _ _ => by omega)) (fun c _ => uS (1132 + 5 * c + 3) (fun _ _ => by omega) (fun _ _ => by omega) (fun _ _ => by omega)) h.1.rq3, R_rq4_rg (fun c _ => uC (1368 + 5 * c + 4) (fun _ _ => by omega) (fun _ _ => by omega)) (fun c _ => uS (1132 + 5 * c + 4) (fun _ _ => by omega) (fun _ _ => by omega) (fun _ _ => by omega)) h.1.rq4, R_rn0_rg (uC (1868) (fun _ _ => by omega) (fun _ _ => by omega)) (uS (1640) (fun _ _ => by omega) (fun _ _ => by omega) (fun _ _ => by omega)) h.1.rn0, R_rn1_rg (uC (1869) (fun _ _ => by omega) (fun _ _ => by omega)) (uS (1641) (fun _ _ => by omega) (fun _ _ => by omega) (fun _ _ => by omega)) h.1.rn1, R_rn2_rg (uC (1870) (fun _ _ => by omega) (fun _ _ => by omega)) (uS (1642) (fun _ _ => by omega) (fun _ _ => by omega) (fun _ _ => by omega)) h.1.rn2, R_rn3_rg (uC (1871) (fun _ _ => by omega) (fun _ _ => by omega)) (uS (1643) (fun _ _ => by omega) (fun _ _ => by omega) (fun _ _ => by omega)) h.1.rn3, R_rn4_rg (uC (1872) (fun _ _ => by omega) (fun _ _ => by omega)) (uS (1644) (fun _ _ => by omega) (fun _ _ => by omega) (fun _ _ => by omega)) h.1.rn4, R_rn5_rg (uC (1873) (fun _ _ => by omega) (fun _ _ => by omega)) (uS (1645) (fun _ _ => by omega) (fun _ _ => by omega) (fun _ _ => by omega)) h.1.rn5, R_rg_rg (uS (1641) (fun _ _ => by omega) (fun _ _ => by omega) (fun _ _ => by omega)) (fun t _ => uS (732 + 5 * t) (fun _ _ => by omega) (fun _ _ => by omega) (fun _ _ => by omega)) (fun t _ => uS (732 + 5 * t + 3) (fun _ _ => by omega) (fun _ _ => by omega) (fun _ _ => by omega)) (fun t _ => uC (720 + 8 * t + 4) (fun _ _ => by omega) (fun _ _ => by omega)) h.1.rg, R_rp_rg (uS (1641) (fun _ _ => by omega) (fun _ _ => by omega) (fun _ _ => by omega)) (fun t _ => uS (732 + 5 * t) (fun _ _ => by omega) (fun _ _ => by omega) (fun _ _ => by omega)) (fun b p _ _ => uS (21 * b + 5 + p) (fun _ _ => by omega) (fun _ _ => by omega) (fun _ _ => by omega)) (fun t _ => uC (720 + 8 * t + 6) (fun _ _ => by omega) (fun _ _ => by omega)) (fun t _ => uC (720 + 8 * t + 7) (fun _ _ => by omega) (fun _ _ => by omega)) h.1.rp, R_rs_rg (uS (1643) (fun _ _ => by omega) (fun _ _ => by omega) (fun _ _ => by omega)) (fun k _ => uS (1440 + k) (fun _ _ => by omega) (fun _ _ => by omega) (fun _ _ => by omega)) (fun k _ => uC (1668 + k) (fun _ _ => by omega) (fun _ _ => by omega)) h.1.rs⟩, ⟨W_wn0_rg (uS (1640) (fun _ _ => by omega) (fun _ _ => by omega) (fun _ _ => by omega)) h.2.wn0, W_wn1_rg (uS (1641) (fun _ _ => by omega) (fun _ _ => by omega) (fun _ _ => by omega)) h.2.wn1, W_wn2_rg (uS (1642) (fun _ _ => by omega) (fun _ _ => by omega) (fun _ _ => by omega)) h.2.wn2, W_wn3_rg (uS (1643) (fun _ _ => by omega) (fun _ _ => by omega) (fun _ _ => by omega)) h.2.wn3, W_wn4_rg (uS (1644) (fun _ _ => by omega) (fun _ _ => by omega) (fun _ _ => by omega)) h.2.wn4, W_wn5_rg (uS (1645) (fun _ _ => by omega) (fun _ _ => by omega) (fun _ _ => by omega)) h.2.wn5, a_wb0, a_wbp, a_wbg, a_wbh, a_wbk, a_wb2, a_wb2g, a_wb3, W_wb4_rg (fun b _ => uS (21 * b + 3) (fun _ _ => by omega) (fun _ _ => by omega) (fun _ _ => by omega)) h.2.wb4, W_wb4k_rg (fun b _ => uS (21 * b + 4) (fun _ _ => by omega) (fun _ _ => by omega) (fun _ _ => by omega)) h.2.wb4k, W_wb5_rg (fun b p _ _ => uS (21 * b + 5 + p) (fun _ _ => by omega) (fun _ _ => by omega) (fun _ _ => by omega)) (uS (1641) (fun _ _ => by omega) (fun _ _ => by omega) (fun _ _ => by omega)) h.2.wb5, W_wl0_rg (uS (1640) (fun _ _ => by omega) (fun _ _ => by omega) (fun _ _ => by omega)) (fun l _ => uS (252 + 12 * l + 3) (fun _ _ => by omega) (fun _ _ => by omega) (fun _ _ => by omega)) h.2.wl0, W_wla_rg (uS (1640) (fun _ _ => by omega) (fun _ _ => by omega) (fun _ _ => by omega)) (fun l _ => uS (252 + 12 * l) (fun _ _ => by omega) (fun _ _ => by omega) (fun _ _ => by omega)) h.2.wla, W_wlb_rg (uS (1640) (fun _ _ => by omega) (fun _ _ => by omega) (fun _ _ => by omega)) (fun l _ => uS (252 + 12 * l + 1) (fun _ _ => by omega) (fun _ _ => by omega) (fun _ _ => by omega)) h.2.wlb, W_wlc_rg (uS (1640) (fun _ _ => by omega) (fun _ _ => by omega) (fun _ _ => by omega)) (fun l _ => uS (252 + 12 * l + 2) (fun _ _ => by omega) (fun _ _ => by omega) (fun _ _ => by omega)) h.2.wlc, W_wld_rg (uS (1640) (fun _ _ => by omega) (fun _ _ => by omega) (fun _ _ => by omega)) (fun l _ => uS (252 + 12 * l + 3) (fun _ _ => by omega) (fun _ _ => by omega) (fun _ _ => by omega)) h.2.wld, W_wl2_rg (uS (1640) (fun _ _ => by omega) (fun _ _ => by omega) (fun _ _ => by omega)) (fun l _ => uS (252 + 12 * l + 2) (fun _ _ => by omega) (fun _ _ => by omega) (fun _ _ => by omega)) (fun l i _ _ => uS (252 + 12 * l + 4 + i) (fun _ _ => by omega) (fun _ _ => by omega) (fun _ _ => by omega)) h.2.wl2, W_wl4_rg (fun l _ => uS (252 + 12 * l + 3) (fun _ _ => by omega) (fun _ _ => by omega) (fun _ _ => by omega)) (fun l _ => uS (252 + 12 * l) (fun _ _ => by omega) (fun _ _ => by omega) (fun _ _ => by omega)) (fun l _ => uS (252 + 12 * l + 1) (fun _ _ => by omega) (fun _ _ => by omega) (fun _ _ => by omega)) h.2.wl4, W_wt0_rg (uS (1641) (fun _ _ => by omega) (fun _ _ => by omega) (fun _ _ => by omega)) (fun t _ => uS (732 + 5 * t) (fun _ _ => by omega) (fun _ _ => by omega) (fun _ _ => by omega)) h.2.wt0, W_wt1_rg (uS (1641) (fun _ _ => by omega) (fun _ _ => by omega) (fun _ _ => by omega)) (fun t _ => uS (732 + 5 * t + 1) (fun _ _ => by omega) (fun _ _ => by omega) (fun _ _ => by omega)) h.2.wt1, W_wt2_rg (uS (1641) (fun _ _ => by omega) (fun _ _ => by omega) (fun _ _ => by omega)) (fun t _ => uS (732 + 5 * t + 2) (fun _ _ => by omega) (fun _ _ => by omega) (fun _ _ => by omega)) h.2.wt2, W_wt3_rg (uS (1641) (fun _ _ => by omega) (fun _ _ => by omega) (fun _ _ => by omega)) (fun t _ => uS (732 + 5 * t + 3) (fun _ _ => by omega) (fun _ _ => by omega) (fun _ _ => by omega)) h.2.wt3, W_wt4_rg (uS (1641) (fun _ _ => by omega) (fun _ _ => by omega) (fun _ _ => by omega)) (fun t _ => uS (732 + 5 * t + 4) (fun _ _ => by omega) (fun _ _ => by omega) (fun _ _ => by omega)) (fun t _ => uS (732 + 5 * t) (fun _ _ => by omega) (fun _ _ => by omega) (fun _ _ => by omega)) h.2.wt4, W_wqa_rg (uS (1642) (fun _ _ => by omega) (fun _ _ => by omega) (fun _ _ => by omega)) (fun c _ => uS (1132 + 5 * c) (fun _ _ => by omega) (fun _ _ => by omega) (fun _ _ => by omega)) h.2.wqa, W_wqb_rg (uS (1642) (fun _ _ => by omega) (fun _ _ => by omega) (fun _ _ => by omega)) (fun c _ => uS (1132 + 5 * c + 1) (fun _ _ => by omega) (fun _ _ => by omega) (fun _ _ => by omega)) h.2.wqb, W_wqc_rg (uS (1642) (fun _ _ => by omega) (fun _ _ => by omega) (fun _ _ => by omega)) (fun c _ => uS (1132 + 5 * c + 2) (fun _ _ => by omega) (fun _ _ => by omega) (fun _ _ => by omega)) h.2.wqc, W_wqd_rg (uS (1642) (fun _ _ => by omega) (fun _ _ => by omega) (fun _ _ => by omega)) (fun c _ => uS (1132 + 5 * c + 3) (fun _ _ => by omega) (fun _ _ => by omega) (fun _ _ => by omega)) h.2.wqd, W_wqe_rg (uS (1642) (fun _ _ => by omega) (fun _ _ => by omega) (fun _ _ => by omega)) (fun c _ => uS (1132 + 5 * c + 4) (fun _ _ => by omega) (fun _ _ => by omega) (fun _ _ => by omega)) h.2.wqe, a_wq2, W_wf_rg (fun k _ => uS (1432 + k) (fun _ _ => by omega) (fun _ _ => by omega) (fun _ _ => by omega)) h.2.wf, W_wh_rg (fun b p _ _ => uS (21 * b + 5 + p) (fun _ _ => by omega) (fun _ _ => by omega) (fun _ _ => by omega)) (fun t _ => uS (732 + 5 * t) (fun _ _ => by omega) (fun _ _ => by omega) (fun _ _ => by omega)) (fun t _ => uS (732 + 5 * t + 4) (fun _ _ => by omega) (fun _ _ => by omega) (fun _ _ => by omega)) h.2.wh⟩⟩
theorem gg_bar2 {n b : Nat} {C S C2 S2 : AT} {v2 v3 : Int32} (h : GG n C S) (hb : b < 12) (h0 : S (21 * b) = 0) (hv2 : RG v2 2 16) (hv3 : RG v3 1 30) (c0 : C2 (4 * b) = v2) (c1 : C2 (4 * b + 1) = v3) (cn : ∀ j, j ≠ 4 * b → j ≠ 4 * b + 1 → C2 j = C j) (s0 : S2 (21 * b) = 1) (s1 : S2 (21 * b + 1) = v2) (s2 : S2 (21 * b + 2) = v3) (sn : ∀ j, j ≠ 21 * b → j ≠ 21 * b + 1 → j ≠ 21 * b + 2 → S2 j = S j) : GG (n + 1) C2 S2 := by
  have s01 : ¬ S2 (21 * b) = 0 := by rw [s0]; decide
  refine gg_bar h (fun j h1 h2 => (cn j (h1 b hb) (h2 b hb)).symm) (fun j h1 h2 h3 => (sn j (h1 b hb) (h2 b hb) (h3 b hb)).symm) ?_ ?_ ?_ ?_ ?_ ?_ ?_ ?_ ?_ ?_ ?_
  · intro c hc
    by_cases e : c = b
    · subst e; rw [c0, s1]
    · rw [cn _ (by omega) (by omega), sn _ (by omega) (by omega) (by omega)]; exact h.1.rb0 c hc
  · intro c hc
    by_cases e : c = b
    · subst e; rw [c1, s2]
    · rw [cn _ (by omega) (by omega), sn _ (by omega) (by omega) (by omega)]; exact h.1.rb1 c hc
  · intro c hc
    by_cases e : c = b
    · subst e; exact Or.inr s0
    · rw [sn _ (by omega) (by omega) (by omega)]; exact h.2.wb0 c hc
  · intro c hc
    by_cases e : c = b
    · subst e; exact fun q => absurd q s01
    · rw [sn _ (by omega) (by omega) (by omega), sn _ (by omega) (by omega) (by omega)]; exact h.2.wbp c hc
  · intro c hc
    by_cases e : c = b
    · subst e; exact fun q => absurd q s01
    · rw [sn _ (by omega) (by omega) (by omega), sn _ (by omega) (by omega) (by omega)]; exact h.2.wbg c hc
  · intro c hc
    by_cases e : c = b
    · subst e; exact fun q => absurd q s01
    · rw [sn _ (by omega) (by omega) (by omega), sn _ (by omega) (by omega) (by omega)]; exact h.2.wbh c hc
  · intro c hc
    by_cases e : c = b
    · subst e; exact fun q => absurd q s01
    · rw [sn _ (by omega) (by omega) (by omega), sn _ (by omega) (by omega) (by omega)]; exact h.2.wbk c hc
  · intro c hc
    by_cases e : c = b
    · subst e; rw [s1]; exact fun _ => hv2
    · rw [sn _ (by omega) (by omega) (by omega), sn _ (by omega) (by omega) (by omega)]; exact h.2.wb2 c hc
  · intro c hc
    by_cases e : c = b
    · subst e; rw [s2]; exact fun _ => hv3
    · rw [sn _ (by omega) (by omega) (by omega), sn _ (by omega) (by omega) (by omega)]; exact h.2.wb2g c hc
  · intro c p hc hp
    by_cases e : c = b
    · subst e
      rw [sn (21 * c + 5 + p) (by omega) (by omega) (by omega)]
      exact fun _ => h.2.wb3 c p hc hp (by rw [h.2.wbp c hc h0]; exact nlt_le (nat_nneg (by omega)))
    · rw [sn _ (by omega) (by omega) (by omega), sn _ (by omega) (by omega) (by omega)]; exact h.2.wb3 c p hc hp
  · intro q c hq hc g1 g2 g3
    rw [sn _ (by omega) (by omega) (by omega)] at g1
    rw [sn _ (by omega) (by omega) (by omega)] at g2
    have e : c ≠ b := fun e => by subst e; exact absurd g3 s01
    rw [sn _ (by omega) (by omega) (by omega)] at g3
    rw [sn _ (by omega) (by omega) (by omega), sn _ (by omega) (by omega) (by omega), sn _ (by omega) (by omega) (by omega), sn _ (by omega) (by omega) (by omega)]
    exact h.2.wq2 q c hq hc g1 g2 g3
theorem aok_bar (v1 v2 v3 : Int32) : AOK (noJ (f_X6_rigBar v1 v2 v3)) (f_X12_bar v1 v2 v3) := by
  intro n O B V J M M1 hn sb hgg em sm
  have hf0 : M1 7 2 = 0 := sm.2.2.2.1
  have m0 : M1 0 = M 0 := sm.1
  rcases rng 12 (by omega) v1 with ⟨b, hb, rfl⟩ | hbad
  · have e0 := c_isBar_yes (V := V) hb
    have e1 := c_rigged hgg hb
    have e3 := m_isBar_yes (M := M1) hb
    have e4 := m_rigged (M := M1) hb
    rw [m0] at e4
    have eb := m_bar0 (b := b) (M := M1)
    have i2 := is_no 2 hf0
    have i8 := is_no 8 hf0
    have i3 := is_no 3 hf0
    have i7 := is_no 7 hf0
    by_cases h1 : M 0 (21 * b) = 1
    · refine aok_ref 8 (by decide) sb sm (fun V2 er sr => ?_) (fun M2 M3 ei er2 => ?_)
      · simp only [f_X6_rigBar_j76, f_X6_rigBar, e0, e1, h1, er, Option.bind_some, if_true, if_false, ite_self, i10, i01, ite01, ite10, true_or, or_true, false_or, or_false, leN, ite_not, not_true_eq_false, not_false_eq_true]
      · simp only [f_X12_bar_j89, f_X12_bar_j81, f_X12_bar_j76, f_X12_bar_j48, f_X12_bar_j17, f_X12_bar, em, e3, i2, e4, h1, ei, er2, Option.bind_some, if_true, if_false, ite_self, i10, i01, ite01, ite10, true_or, or_true, false_or, or_false, leN, ite_not, not_true_eq_false, not_false_eq_true]
    · by_cases h2 : v2 < 0
      · refine aok_ref 3 (by decide) sb sm (fun V2 er sr => ?_) (fun M2 M3 ei er2 => ?_)
        · simp only [f_X6_rigBar_j76, f_X6_rigBar, e0, e1, h1, h2, er, Option.bind_some, if_true, if_false, ite_self, i10, i01, ite01, ite10, true_or, or_true, false_or, or_false, leN, ite_not, not_true_eq_false, not_false_eq_true]
        · simp only [f_X12_bar_j89, f_X12_bar_j81, f_X12_bar_j76, f_X12_bar_j48, f_X12_bar_j17, f_X12_bar, em, e3, i2, e4, h1, i8, h2, ei, er2, Option.bind_some, if_true, if_false, ite_self, i10, i01, ite01, ite10, true_or, or_true, false_or, or_false, leN, ite_not, not_true_eq_false, not_false_eq_true]
      · by_cases h3 : v2 < 2 ∨ 16 < v2 ∨ v3 < 1 ∨ 30 < v3
        · refine aok_ref 7 (by decide) sb sm (fun V2 er sr => ?_) (fun M2 M3 ei er2 => ?_)
          · rcases h3 with h3 | h3 | h3 | h3
            all_goals simp only [f_X6_rigBar_j76, f_X6_rigBar, e0, e1, h1, h2, h3, er, Option.bind_some, if_true, if_false, ite_self, i10, i01, ite01, ite10, true_or, or_true, false_or, or_false, leN, ite_not, not_true_eq_false, not_false_eq_true]
          · rcases h3 with h3 | h3 | h3 | h3
            all_goals simp only [f_X12_bar_j89, f_X12_bar_j81, f_X12_bar_j76, f_X12_bar_j48, f_X12_bar_j17, f_X12_bar, em, e3, i2, e4, h1, i8, h2, i3, in_eq, h3, ei, er2, Option.bind_some, if_true, if_false, ite_self, i10, i01, ite01, ite10, true_or, or_true, false_or, or_false, leN, ite_not, not_true_eq_false, not_false_eq_true]
        · have q1 : ¬ v2 < 2 := fun q => h3 (Or.inl q)
          have q2 : ¬ 16 < v2 := fun q => h3 (Or.inr (Or.inl q))
          have q3 : ¬ v3 < 1 := fun q => h3 (Or.inr (Or.inr (Or.inl q)))
          have q4 : ¬ 30 < v3 := fun q => h3 (Or.inr (Or.inr (Or.inr q)))
          have h0 : M 0 (21 * b) = 0 := (hgg.2.wb0 b hb).resolve_right h1
          have es0 : ∀ x V, f_X7_set 0 12 4 (Int32.ofNat b) 0 x V = f_X4_write (Int32.ofNat (4 * b + 0)) x V := fun x V => sbar (c := 0) x hb (by omega)
          have es1 : ∀ x V, f_X7_set 0 12 4 (Int32.ofNat b) 1 x V = f_X4_write (Int32.ofNat (4 * b + 1)) x V := fun x V => sbar (c := 1) x hb (by omega)
          obtain ⟨V2, ew, sw, -⟩ := st_write (c := 4 * b + 0) v2 sb (by omega) (by omega)
          obtain ⟨V3, ew2, sw2, -⟩ := st_write (c := 4 * b + 1) v3 sw (by omega) (by omega)
          have sm2 := ms_put (k := 21 * b + 2) v3 (ms_put (k := 21 * b + 1) v2 (ms_put (k := 21 * b) 1 sm (by omega)) (by omega)) (by omega)
          have hz : ∀ i, i < 21 → M1 0 (21 * b + i) = 0 := by
            intro i hi
            rw [m0]
            rcases (show i = 0 ∨ i = 1 ∨ i = 2 ∨ i = 3 ∨ i = 4 ∨ 5 ≤ i by omega) with rfl | rfl | rfl | rfl | rfl | h5
            · exact h0
            · exact hgg.2.wbp b hb h0
            · exact hgg.2.wbg b hb h0
            · exact hgg.2.wbh b hb h0
            · exact hgg.2.wbk b hb h0
            · have := hgg.2.wb3 b (i - 5) hb (by omega) (by rw [hgg.2.wbp b hb h0]; exact nlt_le (nat_nneg (by omega)))
              rw [show 21 * b + 5 + (i - 5) = 21 * b + i by omega] at this
              exact this
          refine aok_done (r := v2) sw2 sm2 ?_ ?_ ?_
          · simp only [f_X6_rigBar_j76, f_X6_rigBar, e0, e1, h1, h2, q1, q2, q3, q4, es0, es1, ew, ew2, Option.bind_some, if_true, if_false, ite_self, i10, i01, ite01, ite10, true_or, or_true, false_or, or_false, leN, ite_not, not_true_eq_false, not_false_eq_true]
          · rw [← bar_loop v2 v3 hb hz]
            simp only [f_X12_bar_j89, f_X12_bar_j81, f_X12_bar_j76, f_X12_bar_j48, f_X12_bar_j17, f_X12_bar, em, e3, i2, e4, h1, i8, h2, i3, in_eq, q1, q2, q3, q4, i7, eb, Option.bind_some, if_true, if_false, ite_self, i10, i01, ite01, ite10, true_or, or_true, false_or, or_false, leN, ite_not, not_true_eq_false, not_false_eq_true]
          · refine gg_bar2 hgg hb h0 (rg_of2 (lo := 2) (hi := 16) (by omega) (by omega) q1 q2) (rg_of2 (lo := 1) (hi := 30) (by omega) (by omega) q3 q4) ?_ ?_ ?_ ?_ ?_ ?_ ?_
            · rw [upd_ne (by omega)]; exact upd_same
            · exact upd_same
            · intro j a1 a2; rw [upd_ne (by omega), upd_ne (by omega)]
            · rw [upd_ne (by omega), upd_ne (by omega), upd_same]
            · rw [upd_ne (by omega), upd_same]
            · rw [upd_same]
            · intro j a1 a2 a3; rw [upd_ne (by omega), upd_ne (by omega), upd_ne (by omega)]
  · have e0 := c_isBar_no (V := V) hbad
    have e3 := m_isBar_no (M := M1) hbad
    refine aok_ref 2 (by decide) sb sm (fun V2 er sr => ?_) (fun M2 M3 ei er2 => ?_)
    · simp only [f_X6_rigBar_j76, f_X6_rigBar, e0, er, Option.bind_some, if_true, if_false, ite_self, i10, i01, ite01, ite10, true_or, or_true, false_or, or_false, leN, ite_not, not_true_eq_false, not_false_eq_true]
    · simp only [f_X12_bar_j89, f_X12_bar_j81, f_X12_bar_j76, f_X12_bar_j48, f_X12_bar_j17, f_X12_bar, em, e3, ei, er2, Option.bind_some, if_true, if_false, ite_self, i10, i01, ite01, ite10, true_or, or_true, false_or, or_false, leN, ite_not, not_true_eq_false, not_false_eq_true]
theorem o_bar : O_bar (IG GG) := fun _ _ _ _ _ v1 v2 v3 hn hI => aok_run (aok_bar v1 v2 v3) hn hI aok_nF
