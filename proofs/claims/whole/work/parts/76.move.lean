/-! go: running cues end, heights move -/
def enp (lo hi : Nat) : AT → Nat → Bool := fun S c => decide ((¬ S (1132 + 5 * c) < Int32.ofNat lo ∧ ¬ Int32.ofNat hi < S (1132 + 5 * c)) ∧ cst S c = 1)
theorem hus_succ {p : AT → Nat → Bool} {S : AT} {k : Nat} : hus p S (k + 1) = if p (hus p S k) k = true then upd (hus p S k) (1132 + 5 * k + 4) 1 else hus p S k := rfl
theorem hcs_succ {p : AT → Nat → Bool} {C S : AT} {k : Nat} : hcs p C S (k + 1) = if p (hus p S k) k = true then upd (hcs p C S k) (1368 + 5 * k + 4) 1 else hcs p C S k := rfl
theorem c_end {m : Nat} {O : AT} {B V : VT} {S : AT} {lo hi : Nat} (sb : St O B 1360 (V 0) 0 0 V) (hg : GG 1000 (V 0) S) (hm : m ≤ 60) (hN : S 1642 = Int32.ofNat m) : ∃ V2, f_X0_endRunning (Int32.ofNat lo) (Int32.ofNat hi) V = some V2 ∧ St O B 1360 (hcs (enp lo hi) (V 0) S m) 0 0 V2 ∧ Fr V V2 := by
  have e2 : f_X7_get 1868 1 6 (0 : Int32) (2 : Int32) V = some (Int32.ofNat m) := by rw [← hN]; exact nget (i := 2) hg (by omega)
  have key := lp_inv (f := f_X0_endRunning_B16 (Int32.ofNat lo) (Int32.ofNat hi) (Int32.ofNat m)) (Q := fun y => St O B 1360 (hcs (enp lo hi) (V 0) S m) 0 0 y ∧ Fr V y) (fun i s => s.1 = Int32.ofNat i ∧ St O B 1360 (hcs (enp lo hi) (V 0) S i) 0 0 s.2 ∧ Fr V s.2) m 0 fuel ((0 : Int32), V) ⟨rfl, sb, Fr.rf⟩ (fun i s _ hi2 hI => ?_) (fun s hI => ?_) (fuel_big (by omega))
  · obtain ⟨y, e, hy⟩ := key
    refine ⟨y, ?_, hy⟩
    unfold f_X0_endRunning
    rw [e2, bsm, bsm]
    exact e
  · obtain ⟨b, V'⟩ := s
    obtain ⟨h2, hst, hfr⟩ := hI
    have h2 : b = Int32.ofNat i := h2
    subst h2
    have hst : St O B 1360 (hcs (enp lo hi) (V 0) S i) 0 0 V' := hst
    have hfr : Fr V V' := hfr
    have n1 : ¬ Int32.ofNat m ≤ Int32.ofNat i := fun q => by have := (nat_le (by omega) (by omega)).mp q; omega
    have hgi := hu_gg (p := enp lo hi) hg i (by omega)
    have v0 : V' 0 = hcs (enp lo hi) (V 0) S i := hst.2.1
    have hgv : GG 1000 (V' 0) (hus (enp lo hi) S i) := by rw [v0]; exact hgi
    have ht : Int32.ofNat i < hus (enp lo hi) S i 1642 := by
      rw [hus_oth (fun c hc => by omega) i (by omega), hN]
      exact (nat_lt (by omega) (by omega)).mpr (by omega)
    have eg : f_X7_get 1368 60 5 (Int32.ofNat i) 0 V' = some (hus (enp lo hi) S i (1132 + 5 * i)) := qget (i := 0) hgv (by omega) (by omega)
    have ec := c_cueState hgv (by omega) (c := i) (by omega) ht
    by_cases q : (¬ hus (enp lo hi) S i (1132 + 5 * i) < Int32.ofNat lo ∧ ¬ Int32.ofNat hi < hus (enp lo hi) S i (1132 + 5 * i)) ∧ cst (hus (enp lo hi) S i) i = 1
    · have q2 : enp lo hi (hus (enp lo hi) S i) i = true := decide_eq_true q
      obtain ⟨V2, ew, sw, fw⟩ := st_write (c := 1368 + 5 * i + 4) 1 hst (by omega) (by omega)
      have es : f_X7_set 1368 60 5 (Int32.ofNat i) 4 1 V' = f_X4_write (Int32.ofNat (1368 + 5 * i + 4)) 1 V' := scue (c := 4) 1 (by omega) (by omega)
      refine ⟨(Int32.ofNat (i + 1), V2), ?_, rfl, ?_, hfr.tr fw⟩
      · simp only [f_X0_endRunning_B16, f_X0_endRunning_j76, n1, if_false, eg, ec, bsm, q.1.1, q.1.2, eq_true q.2, if_true, es, ew, nat_succ]
      · show St O B 1360 (hcs (enp lo hi) (V 0) S (i + 1)) 0 0 V2
        rw [hcs_succ, if_pos q2]; exact sw
    · have q2 : ¬ enp lo hi (hus (enp lo hi) S i) i = true := fun e => q (of_decide_eq_true e)
      refine ⟨(Int32.ofNat (i + 1), V'), ?_, rfl, ?_, hfr⟩
      · by_cases q3 : hus (enp lo hi) S i (1132 + 5 * i) < Int32.ofNat lo
        · simp only [f_X0_endRunning_B16, f_X0_endRunning_j76, n1, if_false, eg, bsm, q3, if_true, nat_succ]
        · by_cases q4 : Int32.ofNat hi < hus (enp lo hi) S i (1132 + 5 * i)
          · simp only [f_X0_endRunning_B16, f_X0_endRunning_j76, n1, if_false, eg, bsm, q3, q4, if_true, nat_succ]
          · have q5 : ¬ cst (hus (enp lo hi) S i) i = 1 := fun e => q ⟨⟨q3, q4⟩, e⟩
            simp only [f_X0_endRunning_B16, f_X0_endRunning_j76, n1, if_false, eg, bsm, q3, q4, ec, q5, nat_succ]
      · show St O B 1360 (hcs (enp lo hi) (V 0) S (i + 1)) 0 0 V'
        rw [hcs_succ, if_neg q2]; exact hst
  · obtain ⟨b, V'⟩ := s
    rw [Nat.zero_add] at hI
    obtain ⟨h2, hst, hfr⟩ := hI
    have h2 : b = Int32.ofNat m := h2
    subst h2
    refine ⟨V', ?_, hst, hfr⟩
    simp only [f_X0_endRunning_B16, Int32.le_refl, if_true, bsm]
theorem m_end {m : Nat} {M : VT} {lo hi : Nat} (v1 v2 : Int32) (hm : m ≤ 60) (hN : M 0 1642 = Int32.ofNat m) : f_X12_tick_j180 v1 v2 (Int32.ofNat lo) (Int32.ofNat hi) 1 M = some (.inl (v1, v2, setRow M 0 (hus (enp lo hi) (M 0) m))) := by
  have kN : ckA 1646 (1642 : Int32) = some 1642 := ck_lit (k := 1642) rfl (by omega) (by omega)
  have e0 : setRow M 0 (hus (enp lo hi) (M 0) 0) = M := setRow_id
  have key := lp_iter (f := f_X12_tick_B183 v1 v2 (Int32.ofNat lo) (Int32.ofNat hi) 1) (y := .inl (v1, v2, setRow M 0 (hus (enp lo hi) (M 0) m))) (fun i => (Int32.ofNat i, setRow M 0 (hus (enp lo hi) (M 0) i))) m 0 fuel (fun i _ hi2 => ?_) ?_ (fuel_big (by omega))
  · simp only [e0] at key
    unfold f_X12_tick_j180
    rw [bsm]
    exact key
  · have hi2 : i < m := by omega
    have n1 : ¬ Int32.ofNat m ≤ Int32.ofNat i := fun q => by have := (nat_le (by omega) (by omega)).mp q; omega
    have rN : setRow M 0 (hus (enp lo hi) (M 0) i) 0 1642 = Int32.ofNat m := by rw [setRow_eq, hus_oth (fun c hc => by omega) i (by omega), hN]
    have eq0 : f_X12_cueIs (Int32.ofNat i) 0 (setRow M 0 (hus (enp lo hi) (M 0) i)) = some (hus (enp lo hi) (M 0) i (1132 + 5 * i)) := by
      have := m_cueIs (M := setRow M 0 (hus (enp lo hi) (M 0) i)) (c := i) (i := 0) (by omega) (by omega)
      rw [setRow_eq] at this; exact this
    have er := m_runs (M := setRow M 0 (hus (enp lo hi) (M 0) i)) (c := i) (by omega)
    rw [setRow_eq] at er
    have ek : ckA 1646 ((1132 : Int32) + 5 * Int32.ofNat i + 4) = some (1132 + 5 * i + 4) := ck_lit (by rw [Int32.ofNat_add, Int32.ofNat_add, Int32.ofNat_mul]; rfl) (by omega) (by omega)
    have ei := in_eq (v := hus (enp lo hi) (M 0) i (1132 + 5 * i)) (a := Int32.ofNat lo) (b := Int32.ofNat hi) (M := setRow M 0 (hus (enp lo hi) (M 0) i))
    rw [hus_succ]
    by_cases q : (¬ hus (enp lo hi) (M 0) i (1132 + 5 * i) < Int32.ofNat lo ∧ ¬ Int32.ofNat hi < hus (enp lo hi) (M 0) i (1132 + 5 * i)) ∧ cst (hus (enp lo hi) (M 0) i) i = 1
    · have q2 : enp lo hi (hus (enp lo hi) (M 0) i) i = true := decide_eq_true q
      rw [if_pos q2]
      rw [if_neg (fun e => e.elim q.1.1 q.1.2)] at ei
      rw [if_pos q.2] at er
      simp only [f_X12_tick_B183, f_X12_tick_j242, kN, rN, n1, if_false, eq0, ei, er, i10, ek, bsm, nat_succ, setRow_u2]
    · have q2 : ¬ enp lo hi (hus (enp lo hi) (M 0) i) i = true := fun e => q (of_decide_eq_true e)
      rw [if_neg q2]
      by_cases q3 : hus (enp lo hi) (M 0) i (1132 + 5 * i) < Int32.ofNat lo ∨ Int32.ofNat hi < hus (enp lo hi) (M 0) i (1132 + 5 * i)
      · rw [if_pos q3] at ei
        simp only [f_X12_tick_B183, f_X12_tick_j242, kN, rN, n1, if_false, eq0, ei, i10, if_true, bsm, nat_succ]
      · rw [if_neg q3] at ei
        rw [if_neg (fun e => q ⟨⟨fun x => q3 (Or.inl x), fun x => q3 (Or.inr x)⟩, e⟩)] at er
        simp only [f_X12_tick_B183, f_X12_tick_j242, kN, rN, n1, if_false, eq0, ei, er, i10, if_true, bsm, nat_succ]
  · rw [Nat.zero_add]
    have rN : setRow M 0 (hus (enp lo hi) (M 0) m) 0 1642 = Int32.ofNat m := by rw [setRow_eq, hus_oth (fun c hc => by omega) m (by omega), hN]
    simp only [f_X12_tick_B183, f_X12_tick_j248, kN, rN, Int32.le_refl, if_true, bsm]
theorem m_noEnd {M : VT} (v1 v2 v3 v4 : Int32) : f_X12_tick_j180 v1 v2 v3 v4 0 M = some (.inl (v1, v2, M)) := by
  have kN : ckA 1646 (1642 : Int32) = some 1642 := ck_lit (k := 1642) rfl (by omega) (by omega)
  obtain ⟨F, hF⟩ : ∃ F, fuel = F + 1 := ⟨fuel - 1, by have := fuel_big (k := 1) (by omega); omega⟩
  unfold f_X12_tick_j180
  rw [bsm, hF]
  refine lp_last ?_
  simp only [f_X12_tick_B183, f_X12_tick_j248, kN, bsm, if_true, ite_self]
/-- what a cue of a bar behind hi is, an end of the group's cues leaves -/
theorem hus_bar {S : AT} {lo hi c b : Nat} (hb : hi < b) (hb2 : b < 12) (hc : c < 60) (e : S (1132 + 5 * c) = Int32.ofNat b) : ∀ k, k ≤ 60 → hus (enp lo hi) S k (1132 + 5 * c + 4) = S (1132 + 5 * c + 4) := by
  intro k
  induction k with
  | zero => intro _; rfl
  | succ k ih =>
    intro hk
    rw [hus_succ]
    by_cases q : enp lo hi (hus (enp lo hi) S k) k = true
    · rw [if_pos q]
      by_cases e2 : k = c
      · subst e2
        have q2 := of_decide_eq_true q
        rw [hus_oth (fun c hc => by omega) k (by omega), e] at q2
        exact absurd ((nat_lt (by omega) (by omega)).mpr hb) q2.1.2
      · rw [upd_ne (by omega)]; exact ih (by omega)
    · rw [if_neg q]; exact ih (by omega)
/-! heights -/
def mvs (S : AT) (d : Int32) (lo : Nat) : Nat → AT
  | 0 => S
  | k + 1 => upd (mvs S d lo k) (21 * (lo + k) + 3) (mvs S d lo k (21 * (lo + k) + 3) + d)
def mvc (C : AT) (d : Int32) (lo : Nat) : Nat → AT
  | 0 => C
  | k + 1 => upd (mvc C d lo k) (4 * (lo + k) + 2) (mvc C d lo k (4 * (lo + k) + 2) + d)
theorem mvs_succ {S : AT} {d : Int32} {lo k : Nat} : mvs S d lo (k + 1) = upd (mvs S d lo k) (21 * (lo + k) + 3) (mvs S d lo k (21 * (lo + k) + 3) + d) := rfl
theorem mvc_succ {C : AT} {d : Int32} {lo k : Nat} : mvc C d lo (k + 1) = upd (mvc C d lo k) (4 * (lo + k) + 2) (mvc C d lo k (4 * (lo + k) + 2) + d) := rfl
theorem mvs_oth {S : AT} {d : Int32} {lo j : Nat} : ∀ k, (∀ i, i < k → j ≠ 21 * (lo + i) + 3) → mvs S d lo k j = S j := by
  intro k
  induction k with
  | zero => intro _; rfl
  | succ k ih =>
    intro h
    rw [mvs_succ, upd_ne (h k (by omega))]
    exact ih (fun i hi => h i (by omega))
theorem gg_move {n : Nat} {C C2 S S2 : AT} (h0 : GG n C S) (uC : ∀ j, (∀ b : Nat, b < 12 → j ≠ 4 * b + 2) → C j = C2 j) (uS : ∀ j, (∀ b : Nat, b < 12 → j ≠ 21 * b + 3) → S j = S2 j) (a_rb2 : R_rb2 C2 S2) (a_wbh : W_wbh n S2) (a_wb4 : W_wb4 n S2) : GG n C2 S2 := by
  have h := h0
  exact ⟨⟨R_rb0_rg (fun b _ => uC (4 * b) (fun _ _ => by omega)) (fun b _ => uS (21 * b + 1) (fun _ _ => by omega)) h.1.rb0, R_rb1_rg (fun b _ => uC (4 * b + 1) (fun _ _ => by omega)) (fun b _ => uS (21 * b + 2) (fun _ _ => by omega)) h.1.rb1, a_rb2, R_rb3_rg (fun b _ => uC (4 * b + 3) (fun _ _ => by omega)) (fun b _ => uS (21 * b + 4) (fun _ _ => by omega)) h.1.rb3, R_rc_rg (fun b p _ _ => uC (48 + 16 * b + p) (fun _ _ => by omega)) (fun b p _ _ => uS (21 * b + 5 + p) (fun _ _ => by omega)) h.1.rc, R_rl0_rg (fun l _ => uC (240 + 12 * l) (fun _ _ => by omega)) (fun l _ => uS (252 + 12 * l) (fun _ _ => by omega)) h.1.rl0, R_rl1_rg (fun l _ => uC (240 + 12 * l + 1) (fun _ _ => by omega)) (fun l _ => uS (252 + 12 * l + 1) (fun _ _ => by omega)) h.1.rl1, R_rl2_rg (fun l _ => uC (240 + 12 * l + 2) (fun _ _ => by omega)) (fun l _ => uS (252 + 12 * l + 2) (fun _ _ => by omega)) h.1.rl2, R_rl3_rg (fun l _ => uC (240 + 12 * l + 3) (fun _ _ => by omega)) (fun l _ => uS (252 + 12 * l + 3) (fun _ _ => by omega)) h.1.rl3, R_rls_rg (fun l i _ _ => uC (240 + 12 * l + 4 + i) (fun _ _ => by omega)) (fun l i _ _ => uS (252 + 12 * l + 4 + i) (fun _ _ => by omega)) h.1.rls, R_rt0_rg (fun t _ => uC (720 + 8 * t) (fun _ _ => by omega)) (fun t _ => uS (732 + 5 * t) (fun _ _ => by omega)) h.1.rt0, R_rt1_rg (fun t _ => uC (720 + 8 * t + 1) (fun _ _ => by omega)) (fun t _ => uS (732 + 5 * t + 1) (fun _ _ => by omega)) h.1.rt1, R_rt2_rg (fun t _ => uC (720 + 8 * t + 2) (fun _ _ => by omega)) (fun t _ => uS (732 + 5 * t + 2) (fun _ _ => by omega)) h.1.rt2, R_rt3_rg (fun t _ => uC (720 + 8 * t + 3) (fun _ _ => by omega)) (fun t _ => uS (732 + 5 * t + 3) (fun _ _ => by omega)) h.1.rt3, R_rh_rg (fun t _ => uC (720 + 8 * t + 5) (fun _ _ => by omega)) (fun t _ => uS (732 + 5 * t + 4) (fun _ _ => by omega)) h.1.rh, R_rf_rg (fun k _ => uC (1360 + k) (fun _ _ => by omega)) (fun k _ => uS (1432 + k) (fun _ _ => by omega)) h.1.rf, R_rq0_rg (fun c _ => uC (1368 + 5 * c) (fun _ _ => by omega)) (fun c _ => uS (1132 + 5 * c) (fun _ _ => by omega)) h.1.rq0, R_rq1_rg (fun c _ => uC (1368 + 5 * c + 1) (fun _ _ => by omega)) (fun c _ => uS (1132 + 5 * c + 1) (fun _ _ => by omega)) h.1.rq1, R_rq2_rg (fun c _ => uC (1368 + 5 * c + 2) (fun _ _ => by omega)) (fun c _ => uS (1132 + 5 * c + 2) (fun _ _ => by omega)) h.1.rq2, R_rq3_rg (fun c _ => uC (1368 + 5 * c + 3) (fun _ _ => by omega)) (fun c _ => uS (1132 + 5 * c + 3) (fun _ _ => by omega)) h.1.rq3, R_rq4_rg (fun c _ => uC (1368 + 5 * c + 4) (fun _ _ => by omega)) (fun c _ => uS (1132 + 5 * c + 4) (fun _ _ => by omega)) h.1.rq4, R_rn0_rg (uC (1868) (fun _ _ => by omega)) (uS (1640) (fun _ _ => by omega)) h.1.rn0, R_rn1_rg (uC (1869) (fun _ _ => by omega)) (uS (1641) (fun _ _ => by omega)) h.1.rn1, R_rn2_rg (uC (1870) (fun _ _ => by omega)) (uS (1642) (fun _ _ => by omega)) h.1.rn2, R_rn3_rg (uC (1871) (fun _ _ => by omega)) (uS (1643) (fun _ _ => by omega)) h.1.rn3, R_rn4_rg (uC (1872) (fun _ _ => by omega)) (uS (1644) (fun _ _ => by omega)) h.1.rn4, R_rn5_rg (uC (1873) (fun _ _ => by omega)) (uS (1645) (fun _ _ => by omega)) h.1.rn5, R_rg_rg (uS (1641) (fun _ _ => by omega)) (fun t _ => uS (732 + 5 * t) (fun _ _ => by omega)) (fun t _ => uS (732 + 5 * t + 3) (fun _ _ => by omega)) (fun t _ => uC (720 + 8 * t + 4) (fun _ _ => by omega)) h.1.rg, R_rp_rg (uS (1641) (fun _ _ => by omega)) (fun t _ => uS (732 + 5 * t) (fun _ _ => by omega)) (fun b p _ _ => uS (21 * b + 5 + p) (fun _ _ => by omega)) (fun t _ => uC (720 + 8 * t + 6) (fun _ _ => by omega)) (fun t _ => uC (720 + 8 * t + 7) (fun _ _ => by omega)) h.1.rp, R_rs_rg (uS (1643) (fun _ _ => by omega)) (fun k _ => uS (1440 + k) (fun _ _ => by omega)) (fun k _ => uC (1668 + k) (fun _ _ => by omega)) h.1.rs⟩, ⟨W_wn0_rg (uS (1640) (fun _ _ => by omega)) h.2.wn0, W_wn1_rg (uS (1641) (fun _ _ => by omega)) h.2.wn1, W_wn2_rg (uS (1642) (fun _ _ => by omega)) h.2.wn2, W_wn3_rg (uS (1643) (fun _ _ => by omega)) h.2.wn3, W_wn4_rg (uS (1644) (fun _ _ => by omega)) h.2.wn4, W_wn5_rg (uS (1645) (fun _ _ => by omega)) h.2.wn5, W_wb0_rg (fun b _ => uS (21 * b) (fun _ _ => by omega)) h.2.wb0, W_wbp_rg (fun b _ => uS (21 * b) (fun _ _ => by omega)) (fun b _ => uS (21 * b + 1) (fun _ _ => by omega)) h.2.wbp, W_wbg_rg (fun b _ => uS (21 * b) (fun _ _ => by omega)) (fun b _ => uS (21 * b + 2) (fun _ _ => by omega)) h.2.wbg, a_wbh, W_wbk_rg (fun b _ => uS (21 * b) (fun _ _ => by omega)) (fun b _ => uS (21 * b + 4) (fun _ _ => by omega)) h.2.wbk, W_wb2_rg (fun b _ => uS (21 * b) (fun _ _ => by omega)) (fun b _ => uS (21 * b + 1) (fun _ _ => by omega)) h.2.wb2, W_wb2g_rg (fun b _ => uS (21 * b) (fun _ _ => by omega)) (fun b _ => uS (21 * b + 2) (fun _ _ => by omega)) h.2.wb2g, W_wb3_rg (fun b _ => uS (21 * b + 1) (fun _ _ => by omega)) (fun b p _ _ => uS (21 * b + 5 + p) (fun _ _ => by omega)) h.2.wb3, a_wb4, W_wb4k_rg (fun b _ => uS (21 * b + 4) (fun _ _ => by omega)) h.2.wb4k, W_wb5_rg (fun b p _ _ => uS (21 * b + 5 + p) (fun _ _ => by omega)) (uS (1641) (fun _ _ => by omega)) h.2.wb5, W_wl0_rg (uS (1640) (fun _ _ => by omega)) (fun l _ => uS (252 + 12 * l + 3) (fun _ _ => by omega)) h.2.wl0, W_wla_rg (uS (1640) (fun _ _ => by omega)) (fun l _ => uS (252 + 12 * l) (fun _ _ => by omega)) h.2.wla, W_wlb_rg (uS (1640) (fun _ _ => by omega)) (fun l _ => uS (252 + 12 * l + 1) (fun _ _ => by omega)) h.2.wlb, W_wlc_rg (uS (1640) (fun _ _ => by omega)) (fun l _ => uS (252 + 12 * l + 2) (fun _ _ => by omega)) h.2.wlc, W_wld_rg (uS (1640) (fun _ _ => by omega)) (fun l _ => uS (252 + 12 * l + 3) (fun _ _ => by omega)) h.2.wld, W_wl2_rg (uS (1640) (fun _ _ => by omega)) (fun l _ => uS (252 + 12 * l + 2) (fun _ _ => by omega)) (fun l i _ _ => uS (252 + 12 * l + 4 + i) (fun _ _ => by omega)) h.2.wl2, W_wl4_rg (fun l _ => uS (252 + 12 * l + 3) (fun _ _ => by omega)) (fun l _ => uS (252 + 12 * l) (fun _ _ => by omega)) (fun l _ => uS (252 + 12 * l + 1) (fun _ _ => by omega)) h.2.wl4, W_wt0_rg (uS (1641) (fun _ _ => by omega)) (fun t _ => uS (732 + 5 * t) (fun _ _ => by omega)) h.2.wt0, W_wt1_rg (uS (1641) (fun _ _ => by omega)) (fun t _ => uS (732 + 5 * t + 1) (fun _ _ => by omega)) h.2.wt1, W_wt2_rg (uS (1641) (fun _ _ => by omega)) (fun t _ => uS (732 + 5 * t + 2) (fun _ _ => by omega)) h.2.wt2, W_wt3_rg (uS (1641) (fun _ _ => by omega)) (fun t _ => uS (732 + 5 * t + 3) (fun _ _ => by omega)) h.2.wt3, W_wt4_rg (uS (1641) (fun _ _ => by omega)) (fun t _ => uS (732 + 5 * t + 4) (fun _ _ => by omega)) (fun t _ => uS (732 + 5 * t) (fun _ _ => by omega)) h.2.wt4, W_wqa_rg (uS (1642) (fun _ _ => by omega)) (fun c _ => uS (1132 + 5 * c) (fun _ _ => by omega)) h.2.wqa, W_wqb_rg (uS (1642) (fun _ _ => by omega)) (fun c _ => uS (1132 + 5 * c + 1) (fun _ _ => by omega)) h.2.wqb, W_wqc_rg (uS (1642) (fun _ _ => by omega)) (fun c _ => uS (1132 + 5 * c + 2) (fun _ _ => by omega)) h.2.wqc, W_wqd_rg (uS (1642) (fun _ _ => by omega)) (fun c _ => uS (1132 + 5 * c + 3) (fun _ _ => by omega)) h.2.wqd, W_wqe_rg (uS (1642) (fun _ _ => by omega)) (fun c _ => uS (1132 + 5 * c + 4) (fun _ _ => by omega)) h.2.wqe, W_wq2_rg (uS (1642) (fun _ _ => by omega)) (fun c _ => uS (1132 + 5 * c) (fun _ _ => by omega)) (fun b _ => uS (21 * b) (fun _ _ => by omega)) (fun c _ => uS (1132 + 5 * c + 4) (fun _ _ => by omega)) (fun c _ => uS (1132 + 5 * c + 2) (fun _ _ => by omega)) (fun c _ => uS (1132 + 5 * c + 3) (fun _ _ => by omega)) (uS (1645) (fun _ _ => by omega)) h.2.wq2, W_wf_rg (fun k _ => uS (1432 + k) (fun _ _ => by omega)) h.2.wf, W_wh_rg (fun b p _ _ => uS (21 * b + 5 + p) (fun _ _ => by omega)) (fun t _ => uS (732 + 5 * t) (fun _ _ => by omega)) (fun t _ => uS (732 + 5 * t + 4) (fun _ _ => by omega)) h.2.wh⟩⟩
theorem gg_mv1 {n b : Nat} {C S : AT} {d : Int32} (h : GG n C S) (hb : b < 12) (h1 : S (21 * b) = 1) (hr : RG (S (21 * b + 3) + d) 0 100) : GG n (upd C (4 * b + 2) (C (4 * b + 2) + d)) (upd S (21 * b + 3) (S (21 * b + 3) + d)) := by
  refine gg_move h (fun j hj => by rw [upd_at, if_neg (hj b hb)]) (fun j hj => by rw [upd_at, if_neg (hj b hb)]) ?_ ?_ ?_
  · intro c hc
    rw [upd_at, upd_at]
    by_cases hcb : c = b
    · rw [if_pos (by omega), if_pos (by omega), h.1.rb2 b hb]
    · rw [if_neg (by omega), if_neg (by omega)]; exact h.1.rb2 c hc
  · intro c hc h0
    have h00 : S (21 * c) = 0 := by rw [upd_at, if_neg (by omega)] at h0; exact h0
    rw [upd_at, if_neg (fun e => by have hcb : c = b := by omega
                                    subst hcb; rw [h00] at h1; exact absurd h1 (by decide))]
    exact h.2.wbh c hc h00
  · intro c hc
    rw [upd_at]
    by_cases hcb : c = b
    · rw [if_pos (by omega)]; exact hr
    · rw [if_neg (by omega)]; exact h.2.wb4 c hc
theorem gg_mvs {n lo : Nat} {C S : AT} {d : Int32} (h : GG n C S) : ∀ k, lo + k ≤ 12 → (∀ i, lo ≤ i → i < lo + k → S (21 * i) = 1 ∧ ¬ P1 S d i) → GG n (mvc C d lo k) (mvs S d lo k) := by
  intro k
  induction k with
  | zero => intro _ _; exact h
  | succ k ih =>
    intro hk hi
    have g := ih (by omega) (fun i a b => hi i a (by omega))
    obtain ⟨h1, h2⟩ := hi (lo + k) (by omega) (by omega)
    rw [mvc_succ, mvs_succ]
    have ek : mvs S d lo k (21 * (lo + k) + 3) = S (21 * (lo + k) + 3) := mvs_oth k (fun i hi => by omega)
    refine gg_mv1 g (by omega) ?_ ?_
    · rw [mvs_oth k (fun i hi => by omega)]; exact h1
    · rw [ek]; exact rg_of (hi := 100) (by omega) (fun q => h2 (Or.inl q)) (fun q => h2 (Or.inr q))
theorem un_mvs {S : AT} {d : Int32} {lo k : Nat} (hk : lo + k ≤ 12) : UN S (mvs S d lo k) := fun j h1 _ _ => mvs_oth k (fun i hi => h1 (lo + i) (by omega))
theorem c_move {O : AT} {B V : VT} {lo hi : Nat} (v4 d v6 : Int32) (hlo : lo ≤ hi) (hh : hi < 12) (sb : St O B 1360 (V 0) 0 0 V) : ∃ V2, lp (f_X0_moveGroup_B153 (Int32.ofNat lo) (Int32.ofNat hi) v4 d v6) fuel (Int32.ofNat lo, V) = some (.inl (v6 + 1, V2)) ∧ St O B 1360 (mvc (V 0) d lo (hi + 1 - lo)) 0 0 V2 ∧ Fr V V2 := by
  have key := lp_inv (f := f_X0_moveGroup_B153 (Int32.ofNat lo) (Int32.ofNat hi) v4 d v6) (Q := fun y => ∃ V2, y = .inl (v6 + 1, V2) ∧ St O B 1360 (mvc (V 0) d lo (hi + 1 - lo)) 0 0 V2 ∧ Fr V V2) (fun i s => s.1 = Int32.ofNat (lo + i) ∧ St O B 1360 (mvc (V 0) d lo i) 0 0 s.2 ∧ Fr V s.2) (hi + 1 - lo) 0 fuel (Int32.ofNat lo, V) ⟨rfl, sb, Fr.rf⟩ (fun i s _ hi2 hI => ?_) (fun s hI => ?_) (fuel_big (by omega))
  · obtain ⟨y, e, V2, rfl, hy⟩ := key
    exact ⟨V2, e, hy⟩
  · obtain ⟨b, V'⟩ := s
    obtain ⟨h2, hst, hfr⟩ := hI
    have h2 : b = Int32.ofNat (lo + i) := h2
    subst h2
    have hst : St O B 1360 (mvc (V 0) d lo i) 0 0 V' := hst
    have hfr : Fr V V' := hfr
    have v0 : V' 0 = mvc (V 0) d lo i := hst.2.1
    have n1 : ¬ Int32.ofNat hi < Int32.ofNat (lo + i) := fun q => by have := (nat_lt (by omega) (by omega)).mp q; omega
    have eg : f_X7_get 0 12 4 (Int32.ofNat (lo + i)) 2 V' = some (mvc (V 0) d lo i (4 * (lo + i) + 2)) := by rw [← v0]; exact gbar (c := 2) (by omega) (by omega)
    obtain ⟨V2, ew, sw, fw⟩ := st_write (c := 4 * (lo + i) + 2) (mvc (V 0) d lo i (4 * (lo + i) + 2) + d) hst (by omega) (by omega)
    have es : ∀ X, f_X7_set 0 12 4 (Int32.ofNat (lo + i)) 2 X V' = f_X4_write (Int32.ofNat (4 * (lo + i) + 2)) X V' := fun X => sbar (c := 2) X (by omega) (by omega)
    refine ⟨(Int32.ofNat (lo + (i + 1)), V2), ?_, rfl, sw, hfr.tr fw⟩
    simp only [f_X0_moveGroup_B153, n1, if_false, eg, es, ew, bsm, nat_succ, Nat.add_assoc]
  · obtain ⟨b, V'⟩ := s
    rw [Nat.zero_add] at hI
    obtain ⟨h2, hst, hfr⟩ := hI
    have h2 : b = Int32.ofNat (lo + (hi + 1 - lo)) := h2
    subst h2
    have n1 : Int32.ofNat hi < Int32.ofNat (lo + (hi + 1 - lo)) := (nat_lt (by omega) (by omega)).mpr (by omega)
    refine ⟨.inl (v6 + 1, V'), ?_, V', rfl, hst, hfr⟩
    simp only [f_X0_moveGroup_B153, n1, if_true, bsm]
theorem m_move {M : VT} {lo hi : Nat} (v1 v2 v6 d v8 v9 : Int32) (hlo : lo ≤ hi) (hh : hi < 12) : lp (f_X12_tick_B141 v1 v2 (Int32.ofNat lo) (Int32.ofNat hi) v6 d v8 v9) fuel (Int32.ofNat lo, M) = some (.inl (v1 + 1, v8, v9 + 1, setRow M 0 (mvs (M 0) d lo (hi + 1 - lo)))) := by
  have e0 : setRow M 0 (mvs (M 0) d lo 0) = M := setRow_id
  have key := lp_iter (f := f_X12_tick_B141 v1 v2 (Int32.ofNat lo) (Int32.ofNat hi) v6 d v8 v9) (y := .inl (v1 + 1, v8, v9 + 1, setRow M 0 (mvs (M 0) d lo (hi + 1 - lo)))) (fun i => (Int32.ofNat (lo + i), setRow M 0 (mvs (M 0) d lo i))) (hi + 1 - lo) 0 fuel (fun i _ hi2 => ?_) ?_ (fuel_big (by omega))
  · simp only [e0, Nat.add_zero] at key
    exact key
  · have n1 : ¬ Int32.ofNat hi < Int32.ofNat (lo + i) := fun q => by have := (nat_lt (by omega) (by omega)).mp q; omega
    have ek : ckA 1646 (Int32.ofNat (21 * (lo + i)) + 3) = some (21 * (lo + i) + 3) := ck_lit (Int32.ofNat_add (21 * (lo + i)) 3).symm (by omega) (by omega)
    rw [mvs_succ]
    simp only [f_X12_tick_B141, n1, if_false, m_bar0, ek, bsm, nat_succ, setRow_u2, setRow_eq, Nat.add_assoc]
  · rw [Nat.zero_add]
    have n1 : Int32.ofNat hi < Int32.ofNat (lo + (hi + 1 - lo)) := (nat_lt (by omega) (by omega)).mpr (by omega)
    simp only [f_X12_tick_B141, f_X12_tick_j174, n1, if_true, bsm]
