/-! go: a stop is noted -/
def shS (S : AT) (i : Nat) : AT := fun j => if 1440 ≤ j ∧ j < 1440 + i then S (j + 5) else S j
theorem shS_0 {S : AT} : shS S 0 = S := by funext j; unfold shS; rw [if_neg (by omega)]
theorem shS_succ {S : AT} {i : Nat} : upd (shS S i) (1440 + i) (shS S i (1440 + i + 5)) = shS S (i + 1) := by
  funext j
  rw [upd_at]
  unfold shS
  by_cases h : j = 1440 + i
  · rw [if_pos h, if_neg (by omega), if_pos (by omega), h]
  · rw [if_neg h]
    by_cases h2 : 1440 ≤ j ∧ j < 1440 + i
    · rw [if_pos h2, if_pos (by omega)]
    · rw [if_neg h2, if_neg (by omega)]
def ntB (S : AT) (m : Nat) : AT := if m < 40 then S else shS S 195
def ntq (m : Nat) : Nat := if m < 40 then m else 39
def ntS (S : AT) (m : Nat) (w x y z : Int32) : AT := upd (upd (upd (upd (upd (upd (ntB S m) (1440 + 5 * ntq m) (S 1645)) (1440 + 5 * ntq m + 1) w) (1440 + 5 * ntq m + 2) x) (1440 + 5 * ntq m + 3) y) (1440 + 5 * ntq m + 4) z) 1643 (Int32.ofNat (m + 1))
theorem ntq_lt {m : Nat} : ntq m < 40 := by unfold ntq; split <;> omega
theorem ntB_at {S : AT} {m j : Nat} (h : j < 1440 ∨ 1635 ≤ j) : ntB S m j = S j := by
  unfold ntB
  by_cases q : m < 40
  · rw [if_pos q]
  · rw [if_neg q]; unfold shS; rw [if_neg (by omega)]
theorem m_note84 {M : VT} {S : AT} {m q : Nat} (w x y z t : Int32) (hq : q < 40) (h3 : S 1643 = Int32.ofNat m) (h5 : S 1645 = t) : f_X12_note_j84 w x y z 1440 5 (Int32.ofNat q) (setRow M 0 S) = some (setRow M 0 (upd (upd (upd (upd (upd (upd S (1440 + 5 * q) t) (1440 + 5 * q + 1) w) (1440 + 5 * q + 2) x) (1440 + 5 * q + 3) y) (1440 + 5 * q + 4) z) 1643 (Int32.ofNat (m + 1)))) := by
  have k45 : ckA 1646 (1645 : Int32) = some 1645 := ck_lit (k := 1645) rfl (by omega) (by omega)
  have k43 : ckA 1646 (1643 : Int32) = some 1643 := ck_lit (k := 1643) rfl (by omega) (by omega)
  have ea : (1440 : Int32) + 5 * Int32.ofNat q = Int32.ofNat (1440 + 5 * q) := by rw [Int32.ofNat_add, Int32.ofNat_mul]; rfl
  have k0 : ckA 1646 (Int32.ofNat (1440 + 5 * q)) = some (1440 + 5 * q) := ck_nat (by omega) (by omega)
  have k1 : ckA 1646 (Int32.ofNat (1440 + 5 * q) + 1) = some (1440 + 5 * q + 1) := ck_lit (Int32.ofNat_add _ 1).symm (by omega) (by omega)
  have k2 : ckA 1646 (Int32.ofNat (1440 + 5 * q) + 2) = some (1440 + 5 * q + 2) := ck_lit (Int32.ofNat_add _ 2).symm (by omega) (by omega)
  have k3 : ckA 1646 (Int32.ofNat (1440 + 5 * q) + 3) = some (1440 + 5 * q + 3) := ck_lit (Int32.ofNat_add _ 3).symm (by omega) (by omega)
  have k4 : ckA 1646 (Int32.ofNat (1440 + 5 * q) + 4) = some (1440 + 5 * q + 4) := ck_lit (Int32.ofNat_add _ 4).symm (by omega) (by omega)
  unfold f_X12_note_j84
  simp only [bsm, ea, k45, k43, k0, k1, k2, k3, k4, setRow_u2, setRow_eq, h5]
  rw [upd_ne (by omega), upd_ne (by omega), upd_ne (by omega), upd_ne (by omega), upd_ne (by omega), h3, nat_succ]
theorem m_note {M : VT} {m : Nat} (w x y z : Int32) (hm : m ≤ 2000000) (hN : M 0 1643 = Int32.ofNat m) : f_X12_note w x y z M = some (setRow M 0 (ntS (M 0) m w x y z)) := by
  have k43 : ckA 1646 (1643 : Int32) = some 1643 := ck_lit (k := 1643) rfl (by omega) (by omega)
  have h54 : ∀ S : AT, S 1643 = Int32.ofNat m → S 1645 = M 0 1645 → f_X12_note_j54 w x y z (setRow M 0 S) = some (setRow M 0 (upd (upd (upd (upd (upd (upd S (1440 + 5 * ntq m) (M 0 1645)) (1440 + 5 * ntq m + 1) w) (1440 + 5 * ntq m + 2) x) (1440 + 5 * ntq m + 3) y) (1440 + 5 * ntq m + 4) z) 1643 (Int32.ofNat (m + 1)))) := by
    intro S h3 h5
    unfold f_X12_note_j54
    rw [k43, bsm, setRow_eq, h3]
    unfold ntq
    by_cases q : m < 40
    · rw [if_neg (fun q2 => by have := (nat_le (a := 40) (by omega) (by omega)).mp q2; omega), bsm, h3, if_pos q]
      exact m_note84 w x y z _ q h3 h5
    · rw [if_pos (show (40 : Int32) ≤ Int32.ofNat m from (nat_le (a := 40) (by omega) (by omega)).mpr (by omega)), if_neg q]
      exact m_note84 (q := 39) w x y z _ (by omega) h3 h5
  unfold f_X12_note ntS ntB
  rw [k43, bsm, hN]
  by_cases q : m < 40
  · rw [if_pos (show Int32.ofNat m < (40 : Int32) from (nat_lt (b := 40) (by omega) (by omega)).mpr q), if_pos q]
    have := h54 (M 0) hN rfl
    rw [setRow_id] at this
    exact this
  · rw [if_neg (fun q2 => by have := (nat_lt (b := 40) (by omega) (by omega)).mp q2; omega), if_neg q, bsm]
    have e0 : setRow M 0 (shS (M 0) 0) = M := by rw [shS_0]; exact setRow_id
    have key := lp_run (f := f_X12_note_B16 w x y z) (X := f_X12_note_j54 w x y z (setRow M 0 (shS (M 0) 195))) (fun i => (Int32.ofNat i, setRow M 0 (shS (M 0) i))) 195 0 fuel (fun i _ hi => ?_) ?_ (fuel_big (by omega))
    · simp only [e0] at key
      rw [show ((0 : Int32), M) = (Int32.ofNat 0, M) from rfl, key]
      refine h54 (shS (M 0) 195) ?_ ?_
      · unfold shS; rw [if_neg (by omega), hN]
      · unfold shS; rw [if_neg (by omega)]
    · have n1 : ¬ (195 : Int32) ≤ Int32.ofNat i := fun q2 => by have := (nat_le (a := 195) (by omega) (by omega)).mp q2; omega
      have ka : ckA 1646 ((1440 : Int32) + Int32.ofNat i) = some (1440 + i) := ck_lit (by rw [Int32.ofNat_add]; rfl) (by omega) (by omega)
      have kb : ckA 1646 ((1440 : Int32) + Int32.ofNat i + 5) = some (1440 + i + 5) := ck_lit (by rw [Int32.ofNat_add, Int32.ofNat_add]; rfl) (by omega) (by omega)
      simp only [f_X12_note_B16, n1, if_false, ka, kb, bsm, nat_succ, setRow_u2, setRow_eq, shS_succ]
    · rw [Nat.zero_add]
      have n1 : (195 : Int32) ≤ Int32.ofNat 195 := Int32.le_refl _
      simp only [f_X12_note_B16, n1, if_true]
def ntC (C : AT) (m : Nat) (t w x y z : Int32) : AT := upd (upd (upd (upd (upd (upd C (1668 + 5 * (m % 40)) t) (1668 + 5 * (m % 40) + 1) w) (1668 + 5 * (m % 40) + 2) x) (1668 + 5 * (m % 40) + 3) y) (1668 + 5 * (m % 40) + 4) z) 1871 (Int32.ofNat (m + 1))
theorem sstop {V : VT} {q c : Nat} (x : Int32) (hq : q < 40) (hc : c < 5) : f_X7_set 1668 40 5 (Int32.ofNat q) (Int32.ofNat c) x V = f_X4_write (Int32.ofNat (1668 + 5 * q + c)) x V := by
  have := set_nat (B := 1668) (R := 40) (C := 5) (r := q) (c := c) V x hq hc (by omega) (by omega)
  rw [show 1668 + q * 5 + c = 1668 + 5 * q + c by omega] at this
  exact this
theorem c_time {n : Nat} {V : VT} {S : AT} (h : GG n (V 0) S) : f_X3_time V = some (S 1645) := by
  have := nget (i := 5) h (by omega)
  unfold f_X3_time
  rw [show f_X7_get 1868 1 6 (0 : Int32) (5 : Int32) V = some (S 1645) from this, bsm]
theorem c_note {O : AT} {B V : VT} {S : AT} {m : Nat} (w : Int32) (sb : St O B 1360 (V 0) 0 0 V) (hg : GG 1000 (V 0) S) (hm : m ≤ 2000000) (hN : S 1643 = Int32.ofNat m) : ∃ V2, f_X0_noteStop w V = some V2 ∧ St O B 1360 (ntC (V 0) m (S 1645) w (V 11 8) (V 11 9) (V 11 10)) 0 0 V2 ∧ Fr V V2 := by
  have e3 : f_X7_get 1868 1 6 (0 : Int32) (3 : Int32) V = some (Int32.ofNat m) := by rw [← hN]; exact nget (i := 3) hg (by omega)
  have et := c_time hg
  have ee : ckE (40 : Int32) = some () := by unfold ckE; rw [if_neg (by decide)]
  have er : Int32.ofNat m - Int32.ofNat m / 40 * 40 = Int32.ofNat (m % 40) := nat_rem (d := 40) (by omega) (by omega)
  have hq : m % 40 < 40 := Nat.mod_lt _ (by omega)
  obtain ⟨V1, w1, s1, f1⟩ := st_write (c := 1668 + 5 * (m % 40)) (S 1645) sb (by omega) (by omega)
  obtain ⟨V2, w2, s2, f2⟩ := st_write (c := 1668 + 5 * (m % 40) + 1) w s1 (by omega) (by omega)
  obtain ⟨V3, w3, s3, f3⟩ := st_write (c := 1668 + 5 * (m % 40) + 2) (V2 11 8) s2 (by omega) (by omega)
  obtain ⟨V4, w4, s4, f4⟩ := st_write (c := 1668 + 5 * (m % 40) + 3) (V3 11 9) s3 (by omega) (by omega)
  obtain ⟨V5, w5, s5, f5⟩ := st_write (c := 1668 + 5 * (m % 40) + 4) (V4 11 10) s4 (by omega) (by omega)
  obtain ⟨V6, w6, s6, f6⟩ := st_write (c := 1871) (Int32.ofNat (m + 1)) s5 (by omega) (by omega)
  have a1 : ∀ X, f_X7_set 1668 40 5 (Int32.ofNat (m % 40)) (0 : Int32) X V = f_X4_write (Int32.ofNat (1668 + 5 * (m % 40))) X V := fun X => sstop (c := 0) X hq (by omega)
  have a2 : ∀ X, f_X7_set 1668 40 5 (Int32.ofNat (m % 40)) (1 : Int32) X V1 = f_X4_write (Int32.ofNat (1668 + 5 * (m % 40) + 1)) X V1 := fun X => sstop (c := 1) X hq (by omega)
  have a3 : ∀ X, f_X7_set 1668 40 5 (Int32.ofNat (m % 40)) (2 : Int32) X V2 = f_X4_write (Int32.ofNat (1668 + 5 * (m % 40) + 2)) X V2 := fun X => sstop (c := 2) X hq (by omega)
  have a4 : ∀ X, f_X7_set 1668 40 5 (Int32.ofNat (m % 40)) (3 : Int32) X V3 = f_X4_write (Int32.ofNat (1668 + 5 * (m % 40) + 3)) X V3 := fun X => sstop (c := 3) X hq (by omega)
  have a5 : ∀ X, f_X7_set 1668 40 5 (Int32.ofNat (m % 40)) (4 : Int32) X V4 = f_X4_write (Int32.ofNat (1668 + 5 * (m % 40) + 4)) X V4 := fun X => sstop (c := 4) X hq (by omega)
  have a6 : ∀ X, f_X7_set 1868 1 6 (0 : Int32) (3 : Int32) X V5 = f_X4_write (Int32.ofNat 1871) X V5 := fun X => scount (c := 3) X (by omega)
  have r8 : V2 11 8 = V 11 8 := by rw [f2.2 8 (by omega), f1.2 8 (by omega)]
  have r9 : V3 11 9 = V 11 9 := by rw [f3.2 9 (by omega), f2.2 9 (by omega), f1.2 9 (by omega)]
  have r10 : V4 11 10 = V 11 10 := by rw [f4.2 10 (by omega), f3.2 10 (by omega), f2.2 10 (by omega), f1.2 10 (by omega)]
  refine ⟨V6, ?_, ?_, (((((f1.tr f2).tr f3).tr f4).tr f5).tr f6)⟩
  · unfold f_X0_noteStop
    simp only [bsm, e3, ee, er, et, a1, w1, a2, w2, a3, w3, a4, w4, a5, w5, a6, nat_succ, w6]
  · rw [r8] at s6; rw [r9] at s6; rw [r10] at s6; exact s6
theorem gg_note {n : Nat} {C C2 S S2 : AT} (h0 : GG n C S) (uC : ∀ j, (j < 1668 ∨ 1868 ≤ j) → j ≠ 1871 → C j = C2 j) (uS : ∀ j, (j < 1440 ∨ 1640 ≤ j) → j ≠ 1643 → S j = S2 j) (a_rn3 : R_rn3 C2 S2) (a_rs : R_rs C2 S2) (a_wn3 : W_wn3 n S2) : GG n C2 S2 := by
  have h := h0
  exact ⟨⟨R_rb0_rg (fun b _ => uC (4 * b) (by omega) (by omega)) (fun b _ => uS (21 * b + 1) (by omega) (by omega)) h.1.rb0, R_rb1_rg (fun b _ => uC (4 * b + 1) (by omega) (by omega)) (fun b _ => uS (21 * b + 2) (by omega) (by omega)) h.1.rb1, R_rb2_rg (fun b _ => uC (4 * b + 2) (by omega) (by omega)) (fun b _ => uS (21 * b + 3) (by omega) (by omega)) h.1.rb2, R_rb3_rg (fun b _ => uC (4 * b + 3) (by omega) (by omega)) (fun b _ => uS (21 * b + 4) (by omega) (by omega)) h.1.rb3, R_rc_rg (fun b p _ _ => uC (48 + 16 * b + p) (by omega) (by omega)) (fun b p _ _ => uS (21 * b + 5 + p) (by omega) (by omega)) h.1.rc, R_rl0_rg (fun l _ => uC (240 + 12 * l) (by omega) (by omega)) (fun l _ => uS (252 + 12 * l) (by omega) (by omega)) h.1.rl0, R_rl1_rg (fun l _ => uC (240 + 12 * l + 1) (by omega) (by omega)) (fun l _ => uS (252 + 12 * l + 1) (by omega) (by omega)) h.1.rl1, R_rl2_rg (fun l _ => uC (240 + 12 * l + 2) (by omega) (by omega)) (fun l _ => uS (252 + 12 * l + 2) (by omega) (by omega)) h.1.rl2, R_rl3_rg (fun l _ => uC (240 + 12 * l + 3) (by omega) (by omega)) (fun l _ => uS (252 + 12 * l + 3) (by omega) (by omega)) h.1.rl3, R_rls_rg (fun l i _ _ => uC (240 + 12 * l + 4 + i) (by omega) (by omega)) (fun l i _ _ => uS (252 + 12 * l + 4 + i) (by omega) (by omega)) h.1.rls, R_rt0_rg (fun t _ => uC (720 + 8 * t) (by omega) (by omega)) (fun t _ => uS (732 + 5 * t) (by omega) (by omega)) h.1.rt0, R_rt1_rg (fun t _ => uC (720 + 8 * t + 1) (by omega) (by omega)) (fun t _ => uS (732 + 5 * t + 1) (by omega) (by omega)) h.1.rt1, R_rt2_rg (fun t _ => uC (720 + 8 * t + 2) (by omega) (by omega)) (fun t _ => uS (732 + 5 * t + 2) (by omega) (by omega)) h.1.rt2, R_rt3_rg (fun t _ => uC (720 + 8 * t + 3) (by omega) (by omega)) (fun t _ => uS (732 + 5 * t + 3) (by omega) (by omega)) h.1.rt3, R_rh_rg (fun t _ => uC (720 + 8 * t + 5) (by omega) (by omega)) (fun t _ => uS (732 + 5 * t + 4) (by omega) (by omega)) h.1.rh, R_rf_rg (fun k _ => uC (1360 + k) (by omega) (by omega)) (fun k _ => uS (1432 + k) (by omega) (by omega)) h.1.rf, R_rq0_rg (fun c _ => uC (1368 + 5 * c) (by omega) (by omega)) (fun c _ => uS (1132 + 5 * c) (by omega) (by omega)) h.1.rq0, R_rq1_rg (fun c _ => uC (1368 + 5 * c + 1) (by omega) (by omega)) (fun c _ => uS (1132 + 5 * c + 1) (by omega) (by omega)) h.1.rq1, R_rq2_rg (fun c _ => uC (1368 + 5 * c + 2) (by omega) (by omega)) (fun c _ => uS (1132 + 5 * c + 2) (by omega) (by omega)) h.1.rq2, R_rq3_rg (fun c _ => uC (1368 + 5 * c + 3) (by omega) (by omega)) (fun c _ => uS (1132 + 5 * c + 3) (by omega) (by omega)) h.1.rq3, R_rq4_rg (fun c _ => uC (1368 + 5 * c + 4) (by omega) (by omega)) (fun c _ => uS (1132 + 5 * c + 4) (by omega) (by omega)) h.1.rq4, R_rn0_rg (uC (1868) (by omega) (by omega)) (uS (1640) (by omega) (by omega)) h.1.rn0, R_rn1_rg (uC (1869) (by omega) (by omega)) (uS (1641) (by omega) (by omega)) h.1.rn1, R_rn2_rg (uC (1870) (by omega) (by omega)) (uS (1642) (by omega) (by omega)) h.1.rn2, a_rn3, R_rn4_rg (uC (1872) (by omega) (by omega)) (uS (1644) (by omega) (by omega)) h.1.rn4, R_rn5_rg (uC (1873) (by omega) (by omega)) (uS (1645) (by omega) (by omega)) h.1.rn5, R_rg_rg (uS (1641) (by omega) (by omega)) (fun t _ => uS (732 + 5 * t) (by omega) (by omega)) (fun t _ => uS (732 + 5 * t + 3) (by omega) (by omega)) (fun t _ => uC (720 + 8 * t + 4) (by omega) (by omega)) h.1.rg, R_rp_rg (uS (1641) (by omega) (by omega)) (fun t _ => uS (732 + 5 * t) (by omega) (by omega)) (fun b p _ _ => uS (21 * b + 5 + p) (by omega) (by omega)) (fun t _ => uC (720 + 8 * t + 6) (by omega) (by omega)) (fun t _ => uC (720 + 8 * t + 7) (by omega) (by omega)) h.1.rp, a_rs⟩, ⟨W_wn0_rg (uS (1640) (by omega) (by omega)) h.2.wn0, W_wn1_rg (uS (1641) (by omega) (by omega)) h.2.wn1, W_wn2_rg (uS (1642) (by omega) (by omega)) h.2.wn2, a_wn3, W_wn4_rg (uS (1644) (by omega) (by omega)) h.2.wn4, W_wn5_rg (uS (1645) (by omega) (by omega)) h.2.wn5, W_wb0_rg (fun b _ => uS (21 * b) (by omega) (by omega)) h.2.wb0, W_wbp_rg (fun b _ => uS (21 * b) (by omega) (by omega)) (fun b _ => uS (21 * b + 1) (by omega) (by omega)) h.2.wbp, W_wbg_rg (fun b _ => uS (21 * b) (by omega) (by omega)) (fun b _ => uS (21 * b + 2) (by omega) (by omega)) h.2.wbg, W_wbh_rg (fun b _ => uS (21 * b) (by omega) (by omega)) (fun b _ => uS (21 * b + 3) (by omega) (by omega)) h.2.wbh, W_wbk_rg (fun b _ => uS (21 * b) (by omega) (by omega)) (fun b _ => uS (21 * b + 4) (by omega) (by omega)) h.2.wbk, W_wb2_rg (fun b _ => uS (21 * b) (by omega) (by omega)) (fun b _ => uS (21 * b + 1) (by omega) (by omega)) h.2.wb2, W_wb2g_rg (fun b _ => uS (21 * b) (by omega) (by omega)) (fun b _ => uS (21 * b + 2) (by omega) (by omega)) h.2.wb2g, W_wb3_rg (fun b _ => uS (21 * b + 1) (by omega) (by omega)) (fun b p _ _ => uS (21 * b + 5 + p) (by omega) (by omega)) h.2.wb3, W_wb4_rg (fun b _ => uS (21 * b + 3) (by omega) (by omega)) h.2.wb4, W_wb4k_rg (fun b _ => uS (21 * b + 4) (by omega) (by omega)) h.2.wb4k, W_wb5_rg (fun b p _ _ => uS (21 * b + 5 + p) (by omega) (by omega)) (uS (1641) (by omega) (by omega)) h.2.wb5, W_wl0_rg (uS (1640) (by omega) (by omega)) (fun l _ => uS (252 + 12 * l + 3) (by omega) (by omega)) h.2.wl0, W_wla_rg (uS (1640) (by omega) (by omega)) (fun l _ => uS (252 + 12 * l) (by omega) (by omega)) h.2.wla, W_wlb_rg (uS (1640) (by omega) (by omega)) (fun l _ => uS (252 + 12 * l + 1) (by omega) (by omega)) h.2.wlb, W_wlc_rg (uS (1640) (by omega) (by omega)) (fun l _ => uS (252 + 12 * l + 2) (by omega) (by omega)) h.2.wlc, W_wld_rg (uS (1640) (by omega) (by omega)) (fun l _ => uS (252 + 12 * l + 3) (by omega) (by omega)) h.2.wld, W_wl2_rg (uS (1640) (by omega) (by omega)) (fun l _ => uS (252 + 12 * l + 2) (by omega) (by omega)) (fun l i _ _ => uS (252 + 12 * l + 4 + i) (by omega) (by omega)) h.2.wl2, W_wl4_rg (fun l _ => uS (252 + 12 * l + 3) (by omega) (by omega)) (fun l _ => uS (252 + 12 * l) (by omega) (by omega)) (fun l _ => uS (252 + 12 * l + 1) (by omega) (by omega)) h.2.wl4, W_wt0_rg (uS (1641) (by omega) (by omega)) (fun t _ => uS (732 + 5 * t) (by omega) (by omega)) h.2.wt0, W_wt1_rg (uS (1641) (by omega) (by omega)) (fun t _ => uS (732 + 5 * t + 1) (by omega) (by omega)) h.2.wt1, W_wt2_rg (uS (1641) (by omega) (by omega)) (fun t _ => uS (732 + 5 * t + 2) (by omega) (by omega)) h.2.wt2, W_wt3_rg (uS (1641) (by omega) (by omega)) (fun t _ => uS (732 + 5 * t + 3) (by omega) (by omega)) h.2.wt3, W_wt4_rg (uS (1641) (by omega) (by omega)) (fun t _ => uS (732 + 5 * t + 4) (by omega) (by omega)) (fun t _ => uS (732 + 5 * t) (by omega) (by omega)) h.2.wt4, W_wqa_rg (uS (1642) (by omega) (by omega)) (fun c _ => uS (1132 + 5 * c) (by omega) (by omega)) h.2.wqa, W_wqb_rg (uS (1642) (by omega) (by omega)) (fun c _ => uS (1132 + 5 * c + 1) (by omega) (by omega)) h.2.wqb, W_wqc_rg (uS (1642) (by omega) (by omega)) (fun c _ => uS (1132 + 5 * c + 2) (by omega) (by omega)) h.2.wqc, W_wqd_rg (uS (1642) (by omega) (by omega)) (fun c _ => uS (1132 + 5 * c + 3) (by omega) (by omega)) h.2.wqd, W_wqe_rg (uS (1642) (by omega) (by omega)) (fun c _ => uS (1132 + 5 * c + 4) (by omega) (by omega)) h.2.wqe, W_wq2_rg (uS (1642) (by omega) (by omega)) (fun c _ => uS (1132 + 5 * c) (by omega) (by omega)) (fun b _ => uS (21 * b) (by omega) (by omega)) (fun c _ => uS (1132 + 5 * c + 4) (by omega) (by omega)) (fun c _ => uS (1132 + 5 * c + 2) (by omega) (by omega)) (fun c _ => uS (1132 + 5 * c + 3) (by omega) (by omega)) (uS (1645) (by omega) (by omega)) h.2.wq2, W_wf_rg (fun k _ => uS (1432 + k) (by omega) (by omega)) h.2.wf, W_wh_rg (fun b p _ _ => uS (21 * b + 5 + p) (by omega) (by omega)) (fun t _ => uS (732 + 5 * t) (by omega) (by omega)) (fun t _ => uS (732 + 5 * t + 4) (by omega) (by omega)) h.2.wh⟩⟩
theorem ntC_oth {C : AT} {m j : Nat} {t w x y z : Int32} (h1 : j < 1668 ∨ 1868 ≤ j) (h2 : j ≠ 1871) : ntC C m t w x y z j = C j := by
  have hq : m % 40 < 40 := Nat.mod_lt _ (by omega)
  unfold ntC
  rw [upd_ne h2, upd_ne (by omega), upd_ne (by omega), upd_ne (by omega), upd_ne (by omega), upd_ne (by omega)]
theorem ntS_oth {S : AT} {m j : Nat} {w x y z : Int32} (h1 : j < 1440 ∨ 1640 ≤ j) (h2 : j ≠ 1643) : ntS S m w x y z j = S j := by
  have hq := ntq_lt (m := m)
  unfold ntS
  rw [upd_ne h2, upd_ne (by omega), upd_ne (by omega), upd_ne (by omega), upd_ne (by omega), upd_ne (by omega), ntB_at (by omega)]
/-- the five numbers of the noted stop -/
def nv (t w x y z : Int32) (i : Nat) : Int32 := if i = 0 then t else if i = 1 then w else if i = 2 then x else if i = 3 then y else z
theorem five {T : AT} {a : Nat} {t w x y z : Int32} {i : Nat} (hi : i < 5) : upd (upd (upd (upd (upd T a t) (a + 1) w) (a + 2) x) (a + 3) y) (a + 4) z (a + i) = nv t w x y z i := by
  unfold nv
  simp only [upd_at]
  have hi2 : i = 0 ∨ i = 1 ∨ i = 2 ∨ i = 3 ∨ i = 4 := by omega
  rcases hi2 with rfl | rfl | rfl | rfl | rfl <;> simp
theorem five_oth {T : AT} {a : Nat} {t w x y z : Int32} {j : Nat} (hj : j < a ∨ a + 5 ≤ j) : upd (upd (upd (upd (upd T a t) (a + 1) w) (a + 2) x) (a + 3) y) (a + 4) z j = T j := by
  rw [upd_ne (by omega), upd_ne (by omega), upd_ne (by omega), upd_ne (by omega), upd_ne (by omega)]
theorem gg_note2 {C S : AT} {m : Nat} {w x y z : Int32} (h : GG 1000 C S) (hm : m < 1200000) (hN : S 1643 = Int32.ofNat m) : GG 1000 (ntC C m (S 1645) w x y z) (ntS S m w x y z) := by
  have hq : m % 40 < 40 := Nat.mod_lt _ (by omega)
  have hq2 := ntq_lt (m := m)
  have s3 : ntS S m w x y z 1643 = Int32.ofNat (m + 1) := by unfold ntS; rw [upd_same]
  have c3 : ntC C m (S 1645) w x y z 1871 = Int32.ofNat (m + 1) := by unfold ntC; rw [upd_same]
  refine gg_note h (fun j h1 h2 => (ntC_oth h1 h2).symm) (fun j h1 h2 => (ntS_oth h1 h2).symm) ?_ ?_ ?_
  · rw [R_rn3, c3, s3]
  · intro m2 k i hk hkm hi hlt e
    rw [s3] at e
    have em : m2 = m + 1 := ((nat_eq (by omega) hlt).mp e).symm
    subst em
    have hX : (if m + 1 < 40 then m + 1 else 40) - 1 - k = ntq m - k := by unfold ntq; split <;> split <;> omega
    have hs : (m - k) % 40 < 40 := Nat.mod_lt _ (by omega)
    rw [hX, show m + 1 - 1 - k = m - k by omega]
    have cL : ntC C m (S 1645) w x y z (1668 + (5 * ((m - k) % 40) + i)) = upd (upd (upd (upd (upd C (1668 + 5 * (m % 40)) (S 1645)) (1668 + 5 * (m % 40) + 1) w) (1668 + 5 * (m % 40) + 2) x) (1668 + 5 * (m % 40) + 3) y) (1668 + 5 * (m % 40) + 4) z (1668 + (5 * ((m - k) % 40) + i)) := by
      unfold ntC; exact upd_ne (by omega)
    have sL : ntS S m w x y z (1440 + (5 * (ntq m - k) + i)) = upd (upd (upd (upd (upd (ntB S m) (1440 + 5 * ntq m) (S 1645)) (1440 + 5 * ntq m + 1) w) (1440 + 5 * ntq m + 2) x) (1440 + 5 * ntq m + 3) y) (1440 + 5 * ntq m + 4) z (1440 + (5 * (ntq m - k) + i)) := by
      unfold ntS; exact upd_ne (by omega)
    rw [cL, sL]
    by_cases k0 : k = 0
    · subst k0
      rw [show 1668 + (5 * ((m - 0) % 40) + i) = 1668 + 5 * (m % 40) + i by omega, show 1440 + (5 * (ntq m - 0) + i) = 1440 + 5 * ntq m + i by omega, five hi, five hi]
    · have hne : (m - k) % 40 ≠ m % 40 := by omega
      have hkq : k ≤ ntq m := by unfold ntq; split <;> omega
      rw [five_oth (by omega), five_oth (by omega)]
      have hr := h.1.rs m (k - 1) i (by omega) (by omega) hi (by omega) hN
      rw [show m - 1 - (k - 1) = m - k by omega] at hr
      rw [hr]
      unfold ntB ntq
      by_cases q : m < 40
      · rw [if_pos q, if_pos q, if_pos q, show m - 1 - (k - 1) = m - k by omega]
      · rw [if_neg q, if_neg q, if_neg q]
        unfold shS
        rw [if_pos (by omega)]
        congr 1; omega
  · rw [W_wn3, s3]; exact ⟨m + 1, by omega, by omega, rfl⟩
