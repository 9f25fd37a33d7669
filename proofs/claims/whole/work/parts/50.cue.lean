/-! cue -/
theorem gg_cue {n : Nat} {C C2 S S2 : AT} (h0 : GG n C S) (uC : ∀ j, j ≠ 1870 → (∀ c : Nat, c < 60 → j ≠ 1368 + 5 * c) → (∀ c : Nat, c < 60 → j ≠ 1368 + 5 * c + 1) → (∀ c : Nat, c < 60 → j ≠ 1368 + 5 * c + 2) → (∀ c : Nat, c < 60 → j ≠ 1368 + 5 * c + 3) → (∀ c : Nat, c < 60 → j ≠ 1368 + 5 * c + 4) → C j = C2 j) (uS : ∀ j, j ≠ 1642 → (∀ c : Nat, c < 60 → j ≠ 1132 + 5 * c) → (∀ c : Nat, c < 60 → j ≠ 1132 + 5 * c + 1) → (∀ c : Nat, c < 60 → j ≠ 1132 + 5 * c + 2) → (∀ c : Nat, c < 60 → j ≠ 1132 + 5 * c + 3) → (∀ c : Nat, c < 60 → j ≠ 1132 + 5 * c + 4) → S j = S2 j) (a_rq0 : R_rq0 C2 S2) (a_rq1 : R_rq1 C2 S2) (a_rq2 : R_rq2 C2 S2) (a_rq3 : R_rq3 C2 S2) (a_rq4 : R_rq4 C2 S2) (a_rn2 : R_rn2 C2 S2) (a_wn2 : W_wn2 (n + 1) S2) (a_wqa : W_wqa (n + 1) S2) (a_wqb : W_wqb (n + 1) S2) (a_wqc : W_wqc (n + 1) S2) (a_wqd : W_wqd (n + 1) S2) (a_wqe : W_wqe (n + 1) S2) (a_wq2 : W_wq2 (n + 1) S2) : GG (n + 1) C2 S2 := by
  have h := gg_ok.1 _ _ _ h0
  exact ⟨⟨R_rb0_rg (fun b _ => uC (4 * b) (by omega) (fun _ _ => by omega) (fun _ _ => by omega) (fun _ _ => by omega) (fun _ _ => by omega) (fun _ _ => by omega)) (fun b _ => uS (21 * b + 1) (by omega) (fun _ _ => by omega) (fun _ _ => by omega) (fun _ _ => by omega) (fun _ _ => by omega) (fun _ _ => by omega)) h.1.rb0, R_rb1_rg (fun b _ => uC (4 * b + 1) (by omega) (fun _ _ => by omega) (fun _ _ => by omega) (fun _ _ => by omega) (fun _ _ => by omega) (fun _ _ => by omega)) (fun b _ => uS (21 * b + 2) (by omega) (fun _ _ => by omega) (fun _ _ => by omega) (fun _ _ => by omega) (fun _ _ => by omega) (fun _ _ => by omega)) h.1.rb1, R_rb2_rg (fun b _ => uC (4 * b + 2) (by omega) (fun _ _ => by omega) (fun _ _ => by omega) (fun _ _ => by omega) (fun _ _ => by omega) (fun _ _ => by omega)) (fun b _ => uS (21 * b + 3) (by omega) (fun _ _ => by omega) (fun _ _ => by omega) (fun _ _ => by omega) (fun _ _ => by omega) (fun _ _ => by omega)) h.1.rb2, R_rb3_rg (fun b _ => uC (4 * b + 3) (by omega) (fun _ _ => by omega) (fun _ _ => by omega) (fun _ _ => by omega) (fun _ _ => by omega) (fun _ _ => by omega)) (fun b _ => uS (21 * b + 4) (by omega) (fun _ _ => by omega) (fun _ _ => by omega) (fun _ _ => by omega) (fun _ _ => by omega) (fun _ _ => by omega)) h.1.rb3, R_rc_rg (fun b p _ _ => uC (48 + 16 * b + p) (by omega) (fun _ _ => by omega) (fun _ _ => by omega) (fun _ _ => by omega) (fun _ _ => by omega) (fun _ _ => by omega)) (fun b p _ _ => uS (21 * b + 5 + p) (by omega) (fun _ _ => by omega) (fun _ _ => by omega) (fun _ _ => by omega) (fun _ _ => by omega) (fun _ _ => by omega)) h.1.rc, R_rl0_rg (fun l _ => uC (240 + 12 * l) (by omega) (fun _ _ => by omega) (fun _ _ => by omega) (fun _ _ => by omega) (fun _ _ => by omega) (fun _ _ => by omega)) (fun l _ => uS (252 + 12 * l) (by omega) (fun _ _ => by omega) (fun _ _ => by omega) (fun _ _ => by omega) (fun _ _ => by omega) (fun _ _ => by omega)) h.1.rl0, R_rl1_rg (fun l _ => uC (240 + 12 * l + 1) (by omega) (fun _ _ => by omega) (fun _ _ => by omega) (fun _ _ => by omega) (fun _ _ => by omega) (fun _ _ => by omega)) (fun l _ => uS (252 + 12 * l + 1) (by omega) (fun _ _ => by omega) (fun _ _ => by omega) (fun _ _ => by omega) (fun _ _ => by omega) (fun _ _ => by omega)) h.1.rl1, R_rl2_rg (fun l _ => uC (240 + 12 * l + 2) (by omega) (fun _ _ => by omega) (fun _ _ => by omega) (fun _ _ => by omega) (fun _ _ => by omega) (fun _ _ => by omega)) (fun l _ => uS (252 + 12 * l + 2) (by omega) (fun _ _ => by omega) (fun _ _ => by omega) (fun _ _ => by omega) (fun _ _ => by omega) (fun _ _ => by omega)) h.1.rl2, R_rl3_rg (fun l _ => uC (240 + 12 * l + 3) (by omega) (fun _ _ => by omega) (fun _ _ => by omega) (fun _ _ => by omega) (fun _ _ => by omega) (fun _ _ => by omega)) (fun l _ => uS (252 + 12 * l + 3) (by omega) (fun _ _ => by omega) (fun _ _ => by omega) (fun _ _ => by omega) (fun _ _ => by omega) (fun _ _ => by omega)) h.1.rl3, R_rls_rg (fun l i _ _ => uC (240 + 12 * l + 4 + i) (by omega) (fun _ _ => by omega) (fun _ _ => by omega) (fun _ _ => by omega) (fun _ _ => by omega) (fun _ _ => by omega)) (fun l i _ _ => uS (252 + 12 * l + 4 + i) (by omega) (fun _ _ => by omega) (fun _ _ => by omega) (fun _ _ => by omega) (fun _ _ => by omega) (fun _ _ => by omega)) h.1.rls, R_rt0_rg (fun t _ => uC (720 + 8 * t) (by omega) (fun _ _ => by omega) (fun _ _ => by omega) (fun _ _ => by omega) (fun _ _ => by omega) (fun _ _ => by omega)) (fun t _ => uS (732 + 5 * t) (by omega) (fun _ _ => by omega) (fun _ _ => by omega) (fun _ _ => by omega) (fun _ _ => by omega) (fun _ _ => by omega)) h.1.rt0, R_rt1_rg (fun t _ => uC (720 + 8 * t + 1) (by omega) (fun _ _ => by omega) (fun _ _ => by omega) (fun _ _ => by omega) (fun _ _ => by omega) (fun _ _ => by omega)) (fun t _ => uS (732 + 5 * t + 1) (by omega) (fun _ _ => by omega) (fun _ _ => by omega) (fun _ _ => by omega) (fun _ _ => by omega) (fun _ _ => by omega)) h.1.rt1, R_rt2_rg (fun t _ => uC (720 + 8 * t + 2) (by omega) (fun _ _ => by omega) (fun _ _ => by omega) (fun _ _ => by omega) (fun _ _ => by omega) (fun _ _ => by omega)) (fun t _ => uS (732 + 5 * t + 2) (by omega) (fun _ _ => by omega) (fun _ _ => by omega) (fun _ _ => by omega) (fun _ _ => by omega) (fun _ _ => by omega)) h.1.rt2, R_rt3_rg (fun t _ => uC (720 + 8 * t + 3) (by omega) (fun _ _ => by omega) (fun _ _ => by omega) (fun _ _ => by omega) (fun _ _ => by omega) (fun _ _ => by omega)) (fun t _ => uS (732 + 5 * t + 3) (by omega) (fun _ _ => by omega) (fun _ _ => by omega) (fun _ _ => by omega) (fun _ _ => by omega) (fun _ _ => by omega)) h.1.rt3, R_rh_rg (fun t _ => uC (720 + 8 * t + 5) (by omega) (fun _ _ => by omega) (fun _ _ => by omega) (fun _ _ => by omega) (fun _ _ => by omega) (fun _ _ => by omega)) (fun t _ => uS (732 + 5 * t + 4) (by omega) (fun _ _ => by omega) (fun _ _ => by omega) (fun _ _ => by omega) (fun _ _ => by omega) (fun _ _ => by omega)) h.1.rh, R_rf_rg (fun k _ => uC (1360 + k) (by omega) (fun _ _ => by omega) (fun _ _ => by omega) (fun _ _ => by omega) (fun _ _ => by omega) (fun _ _ => by omega)) (fun k _ => uS (1432 + k) (by omega) (fun _ _ => by omega) (fun _ _ => by omega) (fun _ _ => by omega) (fun _ _ => by omega) (fun _ _ => by omega)) h.1.rf, a_rq0, a_rq1, a_rq2, a_rq3, a_rq4, R_rn0_rg (uC (1868) (by omega) (fun _ _ => by omega) (fun _ _ => by omega) (fun _ _ => by omega) (fun _ _ => by omega) (fun _ _ => by omega)) (uS (1640) (by omega) (fun _ _ => by omega) (fun _ _ => by omega) (fun _ _ => by omega) (fun _ _ => by omega) (fun _ _ => by omega)) h.1.rn0, R_rn1_rg (uC (1869) (by omega) (fun _ _ => by omega) (fun _ _ => by omega) (fun _ _ => by omega) (fun _ _ => by omega) (fun _ _ => by omega)) (uS (1641) (by omega) (fun _ _ => by omega) (fun _ _ => by omega) (fun _ _ => by omega) (fun _ _ => by omega) (fun _ _ => by omega)) h.1.rn1, a_rn2, R_rn3_rg (uC (1871) (by omega) (fun _ _ => by omega) (fun _ _ => by omega) (fun _ _ => by omega) (fun _ _ => by omega) (fun _ _ => by omega)) (uS (1643) (by omega) (fun _ _ => by omega) (fun _ _ => by omega) (fun _ _ => by omega) (fun _ _ => by omega) (fun _ _ => by omega)) h.1.rn3, R_rn4_rg (uC (1872) (by omega) (fun _ _ => by omega) (fun _ _ => by omega) (fun _ _ => by omega) (fun _ _ => by omega) (fun _ _ => by omega)) (uS (1644) (by omega) (fun _ _ => by omega) (fun _ _ => by omega) (fun _ _ => by omega) (fun _ _ => by omega) (fun _ _ => by omega)) h.1.rn4, R_rn5_rg (uC (1873) (by omega) (fun _ _ => by omega) (fun _ _ => by omega) (fun _ _ => by omega) (fun _ _ => by omega) (fun _ _ => by omega)) (uS (1645) (by omega) (fun _ _ => by omega) (fun _ _ => by omega) (fun _ _ => by omega) (fun _ _ => by omega) (fun _ _ => by omega)) h.1.rn5, R_rg_rg (uS (1641) (by omega) (fun _ _ => by omega) (fun _ _ => by omega) (fun _ _ => by omega) (fun _ _ => by omega) (fun _ _ => by omega)) (fun t _ => uS (732 + 5 * t) (by omega) (fun _ _ => by omega) (fun _ _ => by omega) (fun _ _ => by omega) (fun _ _ => by omega) (fun _ _ => by omega)) (fun t _ => uS (732 + 5 * t + 3) (by omega) (fun _ _ => by omega) (fun _ _ => by omega) (fun _ _ => by omega) (fun _ _ => by omega) (fun _ _ => by omega)) (fun t _ => uC (720 + 8 * t + 4) (by omega) (fun _ _ => by omega) (fun _ _ => by omega) (fun _ _ => by omega) (fun _ _ => by omega) (fun _ _ => by omega)) h.1.rg, R_rp_rg (uS (1641) (by omega) (fun _ _ => by omega) (fun _ _ => by omega) (fun _ _ => by omega) (fun _ _ => by omega) (fun _ _ => by omega)) (fun t _ => uS (732 + 5 * t) (by omega) (fun _ _ => by omega) (fun _ _ => by omega) (fun _ _ => by omega) (fun _ _ => by omega) (fun _ _ => by omega)) (fun b p _ _ => uS (21 * b + 5 + p) (by omega) (fun _ _ => by omega) (fun _ _ => by omega) (fun _ _ => by omega) (fun _ _ => by omega) (fun _ _ => by omega)) (fun t _ => uC (720 + 8 * t + 6) (by omega) (fun _ _ => by omega) (fun _ _ => by omega) (fun _ _ => by omega) (fun _ _ => by omega) (fun _ _ => by omega)) (fun t _ => uC (720 + 8 * t + 7) (by omega) (fun _ _ => by omega) (fun _ _ => by omega) (fun _ _ => by omega) (fun _ _ => by omega) (fun _ _ => by omega)) h.1.rp, R_rs_rg (uS (1643) (by omega) (fun _ _ => by omega) (fun _ _ => by omega) (fun _ _ => by omega) (fun _ _ => by omega) (fun _ _ => by omega)) (fun k _ => uS (1440 + k) (by omega) (fun _ _ => by omega) (fun _ _ => by omega) (fun _ _ => by omega) (fun _ _ => by omega) (fun _ _ => by omega)) (fun k _ => uC (1668 + k) (by omega) (fun _ _ => by omega) (fun _ _ => by omega) (fun _ _ => by omega) (fun _ _ => by omega) (fun _ _ => by omega)) h.1.rs⟩, ⟨W_wn0_rg (uS (1640) (by omega) (fun _ _ => by omega) (fun _ _ => by omega) (fun _ _ => by omega) (fun _ _ => by omega) (fun _ _ => by omega)) h.2.wn0, W_wn1_rg (uS (1641) (by omega) (fun _ _ => by omega) (fun _ _ => by omega) (fun _ _ => by omega) (fun _ _ => by omega) (fun _ _ => by omega)) h.2.wn1, a_wn2, W_wn3_rg (uS (1643) (by omega) (fun _ _ => by omega) (fun _ _ => by omega) (fun _ _ => by omega) (fun _ _ => by omega) (fun _ _ => by omega)) h.2.wn3, W_wn4_rg (uS (1644) (by omega) (fun _ _ => by omega) (fun _ _ => by omega) (fun _ _ => by omega) (fun _ _ => by omega) (fun _ _ => by omega)) h.2.wn4, W_wn5_rg (uS (1645) (by omega) (fun _ _ => by omega) (fun _ _ => by omega) (fun _ _ => by omega) (fun _ _ => by omega) (fun _ _ => by omega)) h.2.wn5, W_wb0_rg (fun b _ => uS (21 * b) (by omega) (fun _ _ => by omega) (fun _ _ => by omega) (fun _ _ => by omega) (fun _ _ => by omega) (fun _ _ => by omega)) h.2.wb0, W_wbp_rg (fun b _ => uS (21 * b) (by omega) (fun _ _ => by omega) (fun _ _ => by omega) (fun _ _ => by omega) (fun _ _ => by omega) (fun _ _ => by omega)) (fun b _ => uS (21 * b + 1) (by omega) (fun _ _ => by omega) (fun _ _ => by omega) (fun _ _ => by omega) (fun _ _ => by omega) (fun _ _ => by omega)) h.2.wbp, W_wbg_rg (fun b _ => uS (21 * b) (by omega) (fun _ _ => by omega) (fun _ _ => by omega) (fun _ _ => by omega) (fun _ _ => by omega) (fun _ _ => by omega)) (fun b _ => uS (21 * b + 2) (by omega) (fun _ _ => by omega) (fun _ _ => by omega) (fun _ _ => by omega) (fun _ _ => by omega) (fun _ _ => by omega)) h.2.wbg, W_wbh_rg (fun b _ => uS (21 * b) (by omega) (fun _ _ => by omega) (fun _ _ => by omega) (fun _ _ => by omega) (fun _ _ => by omega) (fun _ _ => by omega)) (fun b _ => uS (21 * b + 3) (by omega) (fun _ _ => by omega) (fun _ _ => by omega) (fun _ _ => by omega) (fun _ _ => by omega) (fun _ _ => by omega)) h.2.wbh, W_wbk_rg (fun b _ => uS (21 * b) (by omega) (fun _ _ => by omega) (fun _ _ => by omega) (fun _ _ => by omega) (fun _ _ => by omega) (fun _ _ => by omega)) (fun b _ => uS (21 * b + 4) (by omega) (fun _ _ => by omega) (fun _ _ => by omega) (fun _ _ => by omega) (fun _ _ => by omega) (fun _ _ => by omega)) h.2.wbk, W_wb2_rg (fun b _ => uS (21 * b) (by omega) (fun _ _ => by omega) (fun _ _ => by omega) (fun _ _ => by omega) (fun _ _ => by omega) (fun _ _ => by omega)) (fun b _ => uS (21 * b + 1) (by omega) (fun _ _ => by omega) (fun _ _ => by omega) (fun _ _ => by omega) (fun _ _ => by omega) (fun _ _ => by omega)) h.2.wb2, W_wb2g_rg (fun b _ => uS (21 * b) (by omega) (fun _ _ => by omega) (fun _ _ => by omega) (fun _ _ => by omega) (fun _ _ => by omega) (fun _ _ => by omega)) (fun b _ => uS (21 * b + 2) (by omega) (fun _ _ => by omega) (fun _ _ => by omega) (fun _ _ => by omega) (fun _ _ => by omega) (fun _ _ => by omega)) h.2.wb2g, W_wb3_rg (fun b _ => uS (21 * b + 1) (by omega) (fun _ _ => by omega) (fun _ _ => by omega) (fun _ _ => by omega) (fun _ _ => by omega) (fun _ _ => by omega)) (fun b p _ _ => uS (21 * b + 5 + p) (by omega) (fun _ _ => by omega) (fun _ _ => by omega) (fun _ _ => by omega) (fun _ _ => by omega) (fun _ _ => by omega)) h.2.wb3, W_wb4_rg (fun b _ => uS (21 * b + 3) (by omega) (fun _ _ => by omega) (fun _ _ => by omega) (fun _ _ => by omega) (fun _ _ => by omega) (fun _ _ => by omega)) h.2.wb4, W_wb4k_rg (fun b _ => uS (21 * b + 4) (by omega) (fun _ _ => by omega) (fun _ _ => by omega) (fun _ _ => by omega) (fun _ _ => by omega) (fun _ _ => by omega)) h.2.wb4k, W_wb5_rg (fun b p _ _ => uS (21 * b + 5 + p) (by omega) (fun _ _ => by omega) (fun _ _ => by omega) (fun _ _ => by omega) (fun _ _ => by omega) (fun _ _ => by omega)) (uS (1641) (by omega) (fun _ _ => by omega) (fun _ _ => by omega) (fun _ _ => by omega) (fun _ _ => by omega) (fun _ _ => by omega)) h.2.wb5, W_wl0_rg (uS (1640) (by omega) (fun _ _ => by omega) (fun _ _ => by omega) (fun _ _ => by omega) (fun _ _ => by omega) (fun _ _ => by omega)) (fun l _ => uS (252 + 12 * l + 3) (by omega) (fun _ _ => by omega) (fun _ _ => by omega) (fun _ _ => by omega) (fun _ _ => by omega) (fun _ _ => by omega)) h.2.wl0, W_wla_rg (uS (1640) (by omega) (fun _ _ => by omega) (fun _ _ => by omega) (fun _ _ => by omega) (fun _ _ => by omega) (fun _ _ => by omega)) (fun l _ => uS (252 + 12 * l) (by omega) (fun _ _ => by omega) (fun _ _ => by omega) (fun _ _ => by omega) (fun _ _ => by omega) (fun _ _ => by omega)) h.2.wla, W_wlb_rg (uS (1640) (by omega) (fun _ _ => by omega) (fun _ _ => by omega) (fun _ _ => by omega) (fun _ _ => by omega) (fun _ _ => by omega)) (fun l _ => uS (252 + 12 * l + 1) (by omega) (fun _ _ => by omega) (fun _ _ => by omega) (fun _ _ => by omega) (fun _ _ => by omega) (fun _ _ => by omega)) h.2.wlb, W_wlc_rg (uS (1640) (by omega) (fun _ _ => by omega) (fun _ _ => by omega) (fun _ _ => by omega) (fun _ _ => by omega) (fun _ _ => by omega)) (fun l _ => uS (252 + 12 * l + 2) (by omega) (fun _ _ => by omega) (fun _ _ => by omega) (fun _ _ => by omega) (fun _ _ => by omega) (fun _ _ => by omega)) h.2.wlc, W_wld_rg (uS (1640) (by omega) (fun _ _ => by omega) (fun _ _ => by omega) (fun _ _ => by omega) (fun _ _ => by omega) (fun _ _ => by omega)) (fun l _ => uS (252 + 12 * l + 3) (by omega) (fun _ _ => by omega) (fun _ _ => by omega) (fun _ _ => by omega) (fun _ _ => by omega) (fun _ _ => by omega)) h.2.wld, W_wl2_rg (uS (1640) (by omega) (fun _ _ => by omega) (fun _ _ => by omega) (fun _ _ => by omega) (fun _ _ => by omega) (fun _ _ => by omega)) (fun l _ => uS (252 + 12 * l + 2) (by omega) (fun _ _ => by omega) (fun _ _ => by omega) (fun _ _ => by omega) (fun _ _ => by omega) (fun _ _ => by omega)) (fun l i _ _ => uS (252 + 12 * l + 4 + i) (by omega) (fun _ _ => by omega) (fun _ _ => by omega) (fun _ _ => by omega) (fun _ _ => by omega) (fun _ _ => by omega)) h.2.wl2, W_wl4_rg (fun l _ => uS (252 + 12 * l + 3) (by omega) (fun _ _ => by omega) (fun _ _ => by omega) (fun _ _ => by omega) (fun _ _ => by omega) (fun _ _ => by omega)) (fun l _ => uS (252 + 12 * l) (by omega) (fun _ _ => by omega) (fun _ _ => by omega) (fun _ _ => by omega) (fun _ _ => by omega) (fun _ _ => by omega)) (fun l _ => uS (252 + 12 * l + 1) (by omega) (fun _ _ => by omega) (fun _ _ => by omega) (fun _ _ => by omega) (fun _ _ => by omega) (fun _ _ => by omega)) h.2.wl4, W_wt0_rg (uS (1641) (by omega) (fun _ _ => by omega) (fun _ _ => by omega) (fun _ _ => by omega) (fun _ _ => by omega) (fun _ _ => by omega)) (fun t _ => uS (732 + 5 * t) (by omega) (fun _ _ => by omega) (fun _ _ => by omega) (fun _ _ => by omega) (fun _ _ => by omega) (fun _ _ => by omega)) h.2.wt0, W_wt1_rg (uS (1641) (by omega) (fun _ _ => by omega) (fun _ _ => by omega) (fun _ _ => by omega) (fun _ _ => by omega) (fun _ _ => by omega)) (fun t _ => uS (732 + 5 * t + 1) (by omega) (fun _ _ => by omega) (fun _ _ => by omega) (fun _ _ => by omega) (fun _ _ => by omega) (fun _ _ => by omega)) h.2.wt1, W_wt2_rg (uS (1641) (by omega) (fun _ _ => by omega) (fun _ _ => by omega) (fun _ _ => by omega) (fun _ _ => by omega) (fun _ _ => by omega)) (fun t _ => uS (732 + 5 * t + 2) (by omega) (fun _ _ => by omega) (fun _ _ => by omega) (fun _ _ => by omega) (fun _ _ => by omega) (fun _ _ => by omega)) h.2.wt2, W_wt3_rg (uS (1641) (by omega) (fun _ _ => by omega) (fun _ _ => by omega) (fun _ _ => by omega) (fun _ _ => by omega) (fun _ _ => by omega)) (fun t _ => uS (732 + 5 * t + 3) (by omega) (fun _ _ => by omega) (fun _ _ => by omega) (fun _ _ => by omega) (fun _ _ => by omega) (fun _ _ => by omega)) h.2.wt3, W_wt4_rg (uS (1641) (by omega) (fun _ _ => by omega) (fun _ _ => by omega) (fun _ _ => by omega) (fun _ _ => by omega) (fun _ _ => by omega)) (fun t _ => uS (732 + 5 * t + 4) (by omega) (fun _ _ => by omega) (fun _ _ => by omega) (fun _ _ => by omega) (fun _ _ => by omega) (fun _ _ => by omega)) (fun t _ => uS (732 + 5 * t) (by omega) (fun _ _ => by omega) (fun _ _ => by omega) (fun _ _ => by omega) (fun _ _ => by omega) (fun _ _ => by omega)) h.2.wt4, a_wqa, a_wqb, a_wqc, a_wqd, a_wqe, a_wq2, W_wf_rg (fun k _ => uS (1432 + k) (by omega) (fun _ _ => by omega) (fun _ _ => by omega) (fun _ _ => by omega) (fun _ _ => by omega) (fun _ _ => by omega)) h.2.wf, W_wh_rg (fun b p _ _ => uS (21 * b + 5 + p) (by omega) (fun _ _ => by omega) (fun _ _ => by omega) (fun _ _ => by omega) (fun _ _ => by omega) (fun _ _ => by omega)) (fun t _ => uS (732 + 5 * t) (by omega) (fun _ _ => by omega) (fun _ _ => by omega) (fun _ _ => by omega) (fun _ _ => by omega) (fun _ _ => by omega)) (fun t _ => uS (732 + 5 * t + 4) (by omega) (fun _ _ => by omega) (fun _ _ => by omega) (fun _ _ => by omega) (fun _ _ => by omega) (fun _ _ => by omega)) h.2.wh⟩⟩
theorem gg_cue2 {n m b : Nat} {C S C2 S2 : AT} {v2 v3 v4 : Int32} (h : GG n C S) (hm : m < 60) (hS : S 1642 = Int32.ofNat m) (hb : b < 12) (hr : S (21 * b) = 1) (g2 : ∃ z : Int, -5 ≤ z ∧ z ≤ 5 ∧ z ≠ 0 ∧ v2 = Int32.ofInt z) (g3 : RG v3 0 1000000) (g4 : RG v4 1 200) (c0 : C2 (1368 + 5 * m) = Int32.ofNat b) (s0 : S2 (1132 + 5 * m) = Int32.ofNat b) (c1 : C2 (1368 + 5 * m + 1) = v2) (s1 : S2 (1132 + 5 * m + 1) = v2) (c2 : C2 (1368 + 5 * m + 2) = v3) (s2 : S2 (1132 + 5 * m + 2) = v3) (c3 : C2 (1368 + 5 * m + 3) = v4) (s3 : S2 (1132 + 5 * m + 3) = v4) (c4 : C2 (1368 + 5 * m + 4) = 0) (s4 : S2 (1132 + 5 * m + 4) = 0) (cN : C2 1870 = Int32.ofNat (m + 1)) (sN : S2 1642 = Int32.ofNat (m + 1)) (cn : ∀ j, (j < 1368 + 5 * m ∨ 1368 + 5 * m + 4 < j) → j ≠ 1870 → C2 j = C j) (sn : ∀ j, (j < 1132 + 5 * m ∨ 1132 + 5 * m + 4 < j) → j ≠ 1642 → S2 j = S j) : GG (n + 1) C2 S2 := by
  have tl : ∀ c, c < 60 → c ≠ m → Int32.ofNat c < S2 1642 → Int32.ofNat c < S 1642 := by
    intro c hc hne q
    rw [sN] at q
    have := (nat_lt (by omega) (by omega)).mp q
    rw [hS]
    exact (nat_lt (by omega) (by omega)).mpr (by omega)
  have hcN : ∀ c, c < 60 → c ≠ m → ∀ i, i < 5 → C2 (1368 + 5 * c + i) = C (1368 + 5 * c + i) := fun c hc hne i hi => cn _ (by omega) (by omega)
  have hsN : ∀ c, c < 60 → c ≠ m → ∀ i, i < 5 → S2 (1132 + 5 * c + i) = S (1132 + 5 * c + i) := fun c hc hne i hi => sn _ (by omega) (by omega)
  refine gg_cue h (fun j h0 h1 h2 h3 h4 h5 => (cn j (Classical.byContradiction (fun q => by have a0 := h1 m hm; have a1 := h2 m hm; have a2 := h3 m hm; have a3 := h4 m hm; have a4 := h5 m hm; omega)) h0).symm) (fun j h0 h1 h2 h3 h4 h5 => (sn j (Classical.byContradiction (fun q => by have a0 := h1 m hm; have a1 := h2 m hm; have a2 := h3 m hm; have a3 := h4 m hm; have a4 := h5 m hm; omega)) h0).symm) ?_ ?_ ?_ ?_ ?_ ?_ ?_ ?_ ?_ ?_ ?_ ?_ ?_
  · intro c hc
    by_cases e : c = m
    · subst e; rw [c0, s0]
    · exact (hcN c hc e 0 (by omega)).trans ((h.1.rq0 c hc).trans (hsN c hc e 0 (by omega)).symm)
  · intro c hc
    by_cases e : c = m
    · subst e; rw [c1, s1]
    · exact (hcN c hc e 1 (by omega)).trans ((h.1.rq1 c hc).trans (hsN c hc e 1 (by omega)).symm)
  · intro c hc
    by_cases e : c = m
    · subst e; rw [c2, s2]
    · exact (hcN c hc e 2 (by omega)).trans ((h.1.rq2 c hc).trans (hsN c hc e 2 (by omega)).symm)
  · intro c hc
    by_cases e : c = m
    · subst e; rw [c3, s3]
    · exact (hcN c hc e 3 (by omega)).trans ((h.1.rq3 c hc).trans (hsN c hc e 3 (by omega)).symm)
  · intro c hc
    by_cases e : c = m
    · subst e; rw [c4, s4]
    · exact (hcN c hc e 4 (by omega)).trans ((h.1.rq4 c hc).trans (hsN c hc e 4 (by omega)).symm)
  · show C2 1870 = S2 1642
    rw [cN, sN]
  · show RG (S2 1642) 0 60
    rw [sN]; exact ⟨m + 1, by omega, by omega, rfl⟩
  · intro c hc q
    by_cases e : c = m
    · subst e; rw [s0]; exact ⟨b, by omega, by omega, rfl⟩
    · have := h.2.wqa c hc (tl c hc e q)
      rw [show S2 (1132 + 5 * c) = S (1132 + 5 * c) from hsN c hc e 0 (by omega)]; exact this
  · intro c hc q
    by_cases e : c = m
    · subst e; rw [s1]; exact g2
    · have := h.2.wqb c hc (tl c hc e q)
      rw [show S2 (1132 + 5 * c + 1) = S (1132 + 5 * c + 1) from hsN c hc e 1 (by omega)]; exact this
  · intro c hc q
    by_cases e : c = m
    · subst e; rw [s2]; exact g3
    · have := h.2.wqc c hc (tl c hc e q)
      rw [show S2 (1132 + 5 * c + 2) = S (1132 + 5 * c + 2) from hsN c hc e 2 (by omega)]; exact this
  · intro c hc q
    by_cases e : c = m
    · subst e; rw [s3]; exact g4
    · have := h.2.wqd c hc (tl c hc e q)
      rw [show S2 (1132 + 5 * c + 3) = S (1132 + 5 * c + 3) from hsN c hc e 3 (by omega)]; exact this
  · intro c hc q
    by_cases e : c = m
    · subst e; rw [s4]; exact ⟨0, by omega, by omega, rfl⟩
    · have := h.2.wqe c hc (tl c hc e q)
      rw [show S2 (1132 + 5 * c + 4) = S (1132 + 5 * c + 4) from hsN c hc e 4 (by omega)]; exact this
  · intro c d hc hd q q0 qd
    rw [sn (21 * d) (by omega) (by omega)] at qd
    by_cases e : c = m
    · subst e
      rw [s0] at q0
      have := (nat_eq (by omega) (by omega)).mp q0
      subst this
      rw [qd] at hr; exact absurd hr (by decide)
    · have := h.2.wq2 c d hc hd (tl c hc e q) (by rw [show S (1132 + 5 * c) = S2 (1132 + 5 * c) from (hsN c hc e 0 (by omega)).symm]; exact q0) qd
      rw [hsN c hc e 4 (by omega), hsN c hc e 2 (by omega), hsN c hc e 3 (by omega), sn 1645 (by omega) (by omega)]; exact this
theorem step_of {x : Int32} (h0 : ¬ x = 0) (h1 : ¬ x < -5) (h2 : ¬ 5 < x) : ∃ z : Int, -5 ≤ z ∧ z ≤ 5 ∧ z ≠ 0 ∧ x = Int32.ofInt z := by
  have q1 : ¬ x.toInt < -5 := fun q => h1 (Int32.lt_iff_toInt_lt.mpr (by rw [show (-5 : Int32).toInt = -5 by decide]; exact q))
  have q2 : ¬ 5 < x.toInt := fun q => h2 (Int32.lt_iff_toInt_lt.mpr (by rw [show (5 : Int32).toInt = 5 by decide]; exact q))
  have q0 : ¬ x.toInt = 0 := fun q => h0 (Int32.toInt_inj.mp (by rw [q, ti_lit0]))
  exact ⟨x.toInt, by omega, by omega, q0, (Int32.ofInt_toInt x).symm⟩
theorem aok_cue (v1 v2 v3 v4 : Int32) : AOK (noJ (f_X0_addCue v1 v2 v3 v4)) (f_X12_cue v1 v2 v3 v4) := by
  intro n O B V J M M1 hn sb hgg em sm
  have hf0 : M1 7 2 = 0 := sm.2.2.2.1
  have h5 : V 11 5 = 0 := sb.2.2.2.2.1
  have m0 : M1 0 = M 0 := sm.1
  rcases rng 12 (by omega) v1 with ⟨b, hb, rfl⟩ | hbad
  · have e3 := m_isBar_yes (M := M1) hb
    have e4 := m_rigged (M := M1) hb
    rw [m0] at e4
    have eb := m_bar0 (b := b) (M := M1)
    have i2 := is_no 2 hf0
    have i1 := is_no 1 hf0
    by_cases h1 : M 0 (21 * b) = 1
    · have e1 := c_refBar_yes h5 hgg hb h1
      have i7 := is_no 7 hf0
      have i11 := is_no 11 hf0
      have kN : ckA 1646 (1642 : Int32) = some 1642 := ck_lit (k := 1642) rfl (by omega) (by omega)
      have eN : f_X7_get 1868 1 6 0 2 V = some (M 0 1642) := nget (i := 2) hgg (by omega)
      by_cases hv : v2 = 0 ∨ v2 < -5 ∨ 5 < v2 ∨ v3 < 0 ∨ 1000000 < v3 ∨ v4 < 1 ∨ 200 < v4
      · refine aok_ref 7 (by decide) sb sm (fun V2 er sr => ?_) (fun M2 M3 ei er2 => ?_)
        · rcases hv with hv | hv | hv | hv | hv | hv | hv
          all_goals simp only [f_X0_addCue_j57, f_X0_addCue, e1, hv, er, Option.bind_some, if_true, if_false, ite_self, i10, i01, ite01, ite10, true_or, or_true, false_or, or_false, leN, ite_not, not_true_eq_false, not_false_eq_true]
        · rcases hv with hv | hv | hv | hv | hv | hv | hv
          all_goals simp only [f_X12_cue_j45, f_X12_cue_j131, f_X12_cue_j123, f_X12_cue_j91, f_X12_cue_j86, f_X12_cue_j38, f_X12_cue_j17, f_X12_cue, em, e3, i2, e4, h1, i1, in_eq, hv, ei, er2, Option.bind_some, if_true, if_false, ite_self, i10, i01, ite01, ite10, true_or, or_true, false_or, or_false, leN, ite_not, not_true_eq_false, not_false_eq_true]
      · have q0 : ¬ v2 = 0 := fun q => hv (Or.inl q)
        have q1 : ¬ v2 < -5 := fun q => hv (Or.inr (Or.inl q))
        have q2 : ¬ 5 < v2 := fun q => hv (Or.inr (Or.inr (Or.inl q)))
        have q3 : ¬ v3 < 0 := fun q => hv (Or.inr (Or.inr (Or.inr (Or.inl q))))
        have q4 : ¬ 1000000 < v3 := fun q => hv (Or.inr (Or.inr (Or.inr (Or.inr (Or.inl q)))))
        have q5 : ¬ v4 < 1 := fun q => hv (Or.inr (Or.inr (Or.inr (Or.inr (Or.inr (Or.inl q))))))
        have q6 : ¬ 200 < v4 := fun q => hv (Or.inr (Or.inr (Or.inr (Or.inr (Or.inr (Or.inr q))))))
        obtain ⟨m, -, m2, hm⟩ := hgg.2.wn2
        by_cases hf : m = 60
        · subst hf
          have c1 : ¬ M 0 1642 < (60 : Int32) := by rw [hm]; decide
          have c2 : M 0 1642 = (60 : Int32) := hm
          refine aok_ref 11 (by decide) sb sm (fun V2 er sr => ?_) (fun M2 M3 ei er2 => ?_)
          · simp only [f_X0_addCue_j57, f_X0_addCue, e1, q0, q1, q2, q3, q4, q5, q6, eN, c1, er, Option.bind_some, if_true, if_false, ite_self, i10, i01, ite01, ite10, true_or, or_true, false_or, or_false, leN, ite_not, not_true_eq_false, not_false_eq_true]
          · simp only [f_X12_cue_j45, f_X12_cue_j131, f_X12_cue_j123, f_X12_cue_j91, f_X12_cue_j86, f_X12_cue_j38, f_X12_cue_j17, f_X12_cue, em, e3, i2, e4, h1, i1, in_eq, q0, q1, q2, q3, q4, q5, q6, i7, kN, m0, c2, ei, er2, Option.bind_some, if_true, if_false, ite_self, i10, i01, ite01, ite10, true_or, or_true, false_or, or_false, leN, ite_not, not_true_eq_false, not_false_eq_true]
        · have hm6 : m < 60 := by omega
          have c1 : Int32.ofNat m < (60 : Int32) := (nat_lt (b := 60) (by omega) (by omega)).mpr hm6
          have c2 : ¬ Int32.ofNat m = (60 : Int32) := fun q => hf ((nat_eq (b := 60) (by omega) (by omega)).mp q)
          have eC : ∀ x V, f_X7_set 1868 1 6 0 2 x V = f_X4_write (Int32.ofNat 1870) x V := fun x V => scount (c := 2) x (by omega)
          have es0 : ∀ x V, f_X7_set 1368 60 5 (Int32.ofNat m) 0 x V = f_X4_write (Int32.ofNat (1368 + 5 * m + 0)) x V := fun x V => scue (c := 0) x hm6 (by omega)
          have es1 : ∀ x V, f_X7_set 1368 60 5 (Int32.ofNat m) 1 x V = f_X4_write (Int32.ofNat (1368 + 5 * m + 1)) x V := fun x V => scue (c := 1) x hm6 (by omega)
          have es2 : ∀ x V, f_X7_set 1368 60 5 (Int32.ofNat m) 2 x V = f_X4_write (Int32.ofNat (1368 + 5 * m + 2)) x V := fun x V => scue (c := 2) x hm6 (by omega)
          have es3 : ∀ x V, f_X7_set 1368 60 5 (Int32.ofNat m) 3 x V = f_X4_write (Int32.ofNat (1368 + 5 * m + 3)) x V := fun x V => scue (c := 3) x hm6 (by omega)
          have es4 : ∀ x V, f_X7_set 1368 60 5 (Int32.ofNat m) 4 x V = f_X4_write (Int32.ofNat (1368 + 5 * m + 4)) x V := fun x V => scue (c := 4) x hm6 (by omega)
          obtain ⟨W0, ew0, sw0, -⟩ := st_write (c := 1870) (Int32.ofNat (m + 1)) sb (by omega) (by omega)
          obtain ⟨W1, ew1, sw1, -⟩ := st_write (c := 1368 + 5 * m + 0) (Int32.ofNat b) sw0 (by omega) (by omega)
          obtain ⟨W2, ew2, sw2, -⟩ := st_write (c := 1368 + 5 * m + 1) v2 sw1 (by omega) (by omega)
          obtain ⟨W3, ew3, sw3, -⟩ := st_write (c := 1368 + 5 * m + 2) v3 sw2 (by omega) (by omega)
          obtain ⟨W4, ew4, sw4, -⟩ := st_write (c := 1368 + 5 * m + 3) v4 sw3 (by omega) (by omega)
          obtain ⟨W5, ew5, sw5, -⟩ := st_write (c := 1368 + 5 * m + 4) 0 sw4 (by omega) (by omega)
          have t0 := sm
          have t1 := ms_put (k := 1132 + 5 * m) (Int32.ofNat b) t0 (by omega)
          have t2 := ms_put (k := 1132 + 5 * m + 1) v2 t1 (by omega)
          have t3 := ms_put (k := 1132 + 5 * m + 2) v3 t2 (by omega)
          have t4 := ms_put (k := 1132 + 5 * m + 3) v4 t3 (by omega)
          have t5 := ms_put (k := 1132 + 5 * m + 4) 0 t4 (by omega)
          have t6 := ms_put (k := 1642) (Int32.ofNat (m + 1)) t5 (by omega)
          have ea : (1132 : Int32) + 5 * Int32.ofNat m = Int32.ofNat (1132 + 5 * m) := by rw [Int32.ofNat_add, Int32.ofNat_mul]; rfl
          have k0 : ckA 1646 (Int32.ofNat (1132 + 5 * m)) = some (1132 + 5 * m) := ck_nat (by omega) (by omega)
          have k1 : ckA 1646 (Int32.ofNat (1132 + 5 * m + 1)) = some (1132 + 5 * m + 1) := ck_nat (by omega) (by omega)
          have k2 : ckA 1646 (Int32.ofNat (1132 + 5 * m) + 2) = some (1132 + 5 * m + 2) := ck_lit (Int32.ofNat_add (1132 + 5 * m) 2).symm (by omega) (by omega)
          have k3 : ckA 1646 (Int32.ofNat (1132 + 5 * m) + 3) = some (1132 + 5 * m + 3) := ck_lit (Int32.ofNat_add (1132 + 5 * m) 3).symm (by omega) (by omega)
          have k4 : ckA 1646 (Int32.ofNat (1132 + 5 * m) + 4) = some (1132 + 5 * m + 4) := ck_lit (Int32.ofNat_add (1132 + 5 * m) 4).symm (by omega) (by omega)
          have r1 : (u2 (u2 (u2 (u2 (u2 M1 0 (1132 + 5 * m) (Int32.ofNat b)) 0 (1132 + 5 * m + 1) v2) 0 (1132 + 5 * m + 2) v3) 0 (1132 + 5 * m + 3) v4) 0 (1132 + 5 * m + 4) 0) 0 1642 = Int32.ofNat m := by rw [u2r_ne (by omega), u2r_ne (by omega), u2r_ne (by omega), u2r_ne (by omega), u2r_ne (by omega), m0]; exact hm
          have es : Int32.ofNat (m + 1) - 1 = Int32.ofNat m := by rw [← nat_succ]; exact add_sub1
          refine aok_done (r := Int32.ofNat m) sw5 t6 ?_ ?_ ?_
          · simp only [f_X0_addCue_j57, f_X0_addCue, e1, q0, q1, q2, q3, q4, q5, q6, eN, hm, c1, nat_succ, eC, ew0, es0, ew1, es1, ew2, es2, ew3, es3, ew4, es4, ew5, Option.bind_some, if_true, if_false, ite_self, i10, i01, ite01, ite10, true_or, or_true, false_or, or_false, leN, ite_not, not_true_eq_false, not_false_eq_true]
          · simp only [f_X12_cue_j45, f_X12_cue_j131, f_X12_cue_j123, f_X12_cue_j91, f_X12_cue_j86, f_X12_cue_j38, f_X12_cue_j17, f_X12_cue, em, e3, i2, e4, h1, i1, in_eq, q0, q1, q2, q3, q4, q5, q6, i7, kN, m0, hm, c2, i11, ea, k0, k1, k2, k3, k4, r1, nat_succ, u2r_eq, es, Option.bind_some, if_true, if_false, ite_self, i10, i01, ite01, ite10, true_or, or_true, false_or, or_false, leN, ite_not, not_true_eq_false, not_false_eq_true]
          · refine gg_cue2 hgg hm6 hm hb h1 (step_of q0 q1 q2) (rg_of (by omega) q3 q4) (rg_of2 (lo := 1) (hi := 200) (by omega) (by omega) q5 q6) ?_ ?_ ?_ ?_ ?_ ?_ ?_ ?_ ?_ ?_ ?_ ?_ ?_ ?_
            · rw [upd_ne (by omega), upd_ne (by omega), upd_ne (by omega), upd_ne (by omega), upd_at, if_pos (by omega)]
            · rw [upd_ne (by omega), upd_ne (by omega), upd_ne (by omega), upd_ne (by omega), upd_ne (by omega), upd_same]
            · rw [upd_ne (by omega), upd_ne (by omega), upd_ne (by omega), upd_at, if_pos (by omega)]
            · rw [upd_ne (by omega), upd_ne (by omega), upd_ne (by omega), upd_ne (by omega), upd_same]
            · rw [upd_ne (by omega), upd_ne (by omega), upd_at, if_pos (by omega)]
            · rw [upd_ne (by omega), upd_ne (by omega), upd_ne (by omega), upd_same]
            · rw [upd_ne (by omega), upd_at, if_pos (by omega)]
            · rw [upd_ne (by omega), upd_ne (by omega), upd_same]
            · rw [upd_at, if_pos (by omega)]
            · rw [upd_ne (by omega), upd_same]
            · rw [upd_ne (by omega), upd_ne (by omega), upd_ne (by omega), upd_ne (by omega), upd_ne (by omega), upd_same]
            · rw [upd_same]
            · intro j a1 a2; rw [upd_ne (by omega), upd_ne (by omega), upd_ne (by omega), upd_ne (by omega), upd_ne (by omega), upd_ne (by omega)]
            · intro j a1 a2; rw [upd_ne (by omega), upd_ne (by omega), upd_ne (by omega), upd_ne (by omega), upd_ne (by omega), upd_ne (by omega)]
    · refine aok_ref 1 (by decide) sb sm (fun V2 er sr => ?_) (fun M2 M3 ei er2 => ?_)
      · have e1 := c_bar_ref (by decide) (Or.inr ⟨b, n, _, rfl, hb, hgg, h1, rfl⟩) er sr
        simp only [f_X0_addCue_j57, f_X0_addCue, e1, Option.bind_some, if_true, if_false, ite_self, i10, i01, ite01, ite10, true_or, or_true, false_or, or_false, leN, ite_not, not_true_eq_false, not_false_eq_true]
      · simp only [f_X12_cue_j45, f_X12_cue_j131, f_X12_cue_j123, f_X12_cue_j91, f_X12_cue_j86, f_X12_cue_j38, f_X12_cue_j17, f_X12_cue, em, e3, i2, e4, h1, ei, er2, Option.bind_some, if_true, if_false, ite_self, i10, i01, ite01, ite10, true_or, or_true, false_or, or_false, leN, ite_not, not_true_eq_false, not_false_eq_true]
  · have e3 := m_isBar_no (M := M1) hbad
    refine aok_ref 2 (by decide) sb sm (fun V2 er sr => ?_) (fun M2 M3 ei er2 => ?_)
    · have e1 := c_bar_ref (by decide) (Or.inl ⟨hbad, rfl⟩) er sr
      simp only [f_X0_addCue_j57, f_X0_addCue, e1, Option.bind_some, if_true, if_false, ite_self, i10, i01, ite01, ite10, true_or, or_true, false_or, or_false, leN, ite_not, not_true_eq_false, not_false_eq_true]
    · simp only [f_X12_cue_j45, f_X12_cue_j131, f_X12_cue_j123, f_X12_cue_j91, f_X12_cue_j86, f_X12_cue_j38, f_X12_cue_j17, f_X12_cue, em, e3, ei, er2, Option.bind_some, if_true, if_false, ite_self, i10, i01, ite01, ite10, true_or, or_true, false_or, or_false, leN, ite_not, not_true_eq_false, not_false_eq_true]
theorem o_cue : O_cue (IG GG) := fun _ _ _ _ _ v1 v2 v3 v4 hn hI => aok_run (aok_cue v1 v2 v3 v4) hn hI aok_nF
