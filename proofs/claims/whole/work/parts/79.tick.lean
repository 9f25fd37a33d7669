/-! go: a group's step, a tick -/
theorem cue_way {n : Nat} {C S : AT} {c : Nat} (h : GG n C S) (hc : c < 60) (ht : Int32.ofNat c < S 1642) : ∃ (U : Nat) (d : Int32), U ≤ 5 ∧ (if 0 ≤ S (1132 + 5 * c + 1) then S (1132 + 5 * c + 1) else 0 - S (1132 + 5 * c + 1)) = Int32.ofNat U ∧ S (1132 + 5 * c + 1) * d = Int32.ofNat U ∧ ((0 ≤ S (1132 + 5 * c + 1) ∧ d = 1) ∨ (¬ 0 ≤ S (1132 + 5 * c + 1) ∧ d = -1)) := by
  obtain ⟨z, h1, h2, h3, e⟩ := h.2.wqb c hc ht
  rw [e]
  have hz : z = -5 ∨ z = -4 ∨ z = -3 ∨ z = -2 ∨ z = -1 ∨ z = 1 ∨ z = 2 ∨ z = 3 ∨ z = 4 ∨ z = 5 := by omega
  rcases hz with rfl | rfl | rfl | rfl | rfl | rfl | rfl | rfl | rfl | rfl
  · exact ⟨5, -1, by omega, by decide, by decide, Or.inr ⟨by decide, rfl⟩⟩
  · exact ⟨4, -1, by omega, by decide, by decide, Or.inr ⟨by decide, rfl⟩⟩
  · exact ⟨3, -1, by omega, by decide, by decide, Or.inr ⟨by decide, rfl⟩⟩
  · exact ⟨2, -1, by omega, by decide, by decide, Or.inr ⟨by decide, rfl⟩⟩
  · exact ⟨1, -1, by omega, by decide, by decide, Or.inr ⟨by decide, rfl⟩⟩
  · exact ⟨1, 1, by omega, by decide, by decide, Or.inl ⟨by decide, rfl⟩⟩
  · exact ⟨2, 1, by omega, by decide, by decide, Or.inl ⟨by decide, rfl⟩⟩
  · exact ⟨3, 1, by omega, by decide, by decide, Or.inl ⟨by decide, rfl⟩⟩
  · exact ⟨4, 1, by omega, by decide, by decide, Or.inl ⟨by decide, rfl⟩⟩
  · exact ⟨5, 1, by omega, by decide, by decide, Or.inl ⟨by decide, rfl⟩⟩
theorem dec_rig {C S : AT} {b c m : Nat} (h : GG 1000 C S) (hb : b < 12) (hm : m ≤ 60) (hN : S 1642 = Int32.ofNat m) (e : dec S b m = some c) : S (21 * b) = 1 := by
  obtain ⟨⟨h1, h2, h3⟩, -⟩ := dec_some m e
  have ht : Int32.ofNat c < S 1642 := by rw [hN]; exact (nat_lt (by omega) (by omega)).mpr h1
  refine (h.2.wb0 b hb).resolve_left (fun q => ?_)
  obtain ⟨e0, e1⟩ := (nov_cst h (Nat.le_refl _) (by omega) ht).mp (Or.inr h3)
  rcases h.2.wq2 c b (by omega) hb ht h2 q with p | p
  · rw [e0] at p; exact absurd p (by decide)
  · exact e1 p
theorem grp_rig {n : Nat} {C S : AT} {lo k : Nat} (h : GG n C S) (hlo : lo < 12) (h1 : lo ≤ k) (h2 : k ≤ ghi S lo) (hk : S (21 * k) = 1) : ∀ b, lo ≤ b → b ≤ ghi S lo → S (21 * b) = 1 := by
  intro b x y
  have hh := (ghi_le (S := S) hlo).2
  by_cases e : lo = ghi S lo
  · have : b = k := by omega
    rw [this]; exact hk
  · by_cases e2 : b = lo
    · have ht : tdb S (lo + 1) = true := gup_in (11 - lo) lo lo (Nat.le_refl _) (by unfold ghi at e y; omega)
      have := (tied_rig h (by omega) ht).2
      rw [show lo + 1 - 1 = lo by omega] at this
      rw [e2]; exact this
    · have ht : tdb S (b - 1 + 1) = true := gup_in (11 - lo) lo (b - 1) (by omega) (by unfold ghi at y; omega)
      rw [show b - 1 + 1 = b by omega] at ht
      exact (tied_rig h (by omega) ht).1
theorem fuel_sub {k : Nat} (h : k < 1000) : ∃ F, fuel = F + 1 + 1 + k ∧ 1000 < F := ⟨fuel - k - 2, by have := fuel_big (k := 900000) (by omega); omega, by have := fuel_big (k := 900000) (by omega); omega⟩
theorem group_step {O : AT} {B : VT} {S0 : AT} {M1 : VT} {s : Nat} {t : Int32} {V M : VT} {lo mc : Nat} (acc : Int32) (hlo : lo < 12) (hs : s < 1200000) (hP : PQ O B S0 M1 s t V M) (hmc : mc ≤ 60) (hNc : M 0 1642 = Int32.ofNat mc) (hD : ∀ b, lo ≤ b → b < 12 → V 9 b = o32 (-1000000000) (dec (M 0) b mc)) : ∃ (u : Nat) (V2 M2 : VT), u ≤ 5 ∧ f_X0_moveGroup (Int32.ofNat lo) (Int32.ofNat (ghi (M 0) lo)) V = some (Int32.ofNat u, V2) ∧ f_X12_tick_B4 (acc, Int32.ofNat lo, M) = some (.inl (acc + Int32.ofNat u, Int32.ofNat (ghi (M 0) lo + 1), M2)) ∧ PQ O B S0 M1 (s + 1) t V2 M2 ∧ UN (M 0) (M2 0) ∧ ∀ b, ghi (M 0) lo < b → b < 12 → V2 9 b = o32 (-1000000000) (dec (M2 0) b mc) := by
  have hg := hP.2.2.1
  obtain ⟨hlh, hh⟩ := ghi_le (S := M 0) hlo
  have el := m_last hg hlo
  generalize hhi : ghi (M 0) lo = hi at *
  have n12 : ¬ (12 : Int32) ≤ Int32.ofNat lo := fun q => by have := (nat_le (a := 12) (by omega) (by omega)).mp q; omega
  have eB4 : f_X12_tick_B4 (acc, Int32.ofNat lo, M) = lp (f_X12_tick_B30 acc (Int32.ofNat (hi + 1)) (Int32.ofNat lo) (Int32.ofNat hi) M) fuel (-1, Int32.ofNat lo) := by
    unfold f_X12_tick_B4
    rw [if_neg n12, el, bsm, bsm, bsm, nat_succ]
  have eMG : f_X0_moveGroup (Int32.ofNat lo) (Int32.ofNat hi) V = f_X0_moveGroup_j54 (Int32.ofNat lo) (Int32.ofNat hi) (gdv V lo (hi + 1 - lo) (-1000000000)) V := by
    unfold f_X0_moveGroup
    rw [bsm]
    have := c_gd (V := V) (lo := lo) hh (hi + 1 - lo) (-1000000000) fuel (by omega) (fuel_big (by omega))
    rw [show lo + (hi + 1 - lo) = hi + 1 by omega, m1_at (by omega), show hi + 1 - 1 = hi by omega] at this
    exact this
  obtain ⟨k, a1, b1, c1, d1⟩ := first_in (fun b => ¬ dec (M 0) b mc = none) (lo := lo) (hi := hi) (by omega)
  have c1 : ∀ i, lo ≤ i → i < k → dec (M 0) i mc = none := fun i x y => Classical.byContradiction (c1 i x y)
  have cN : ∀ i, lo ≤ i → i < k → V 9 i = -1000000000 := fun i x y => by rw [hD i x (by omega), c1 i x y]; rfl
  have mst : ∀ i, lo ≤ i → i < lo + (k - lo) → f_X12_tick_B30 acc (Int32.ofNat (hi + 1)) (Int32.ofNat lo) (Int32.ofNat hi) M ((fun i => ((-1 : Int32), Int32.ofNat i)) i) = some (.inl ((fun i => ((-1 : Int32), Int32.ofNat i)) (i + 1))) := by
    intro i x y
    have n1 : ¬ Int32.ofNat hi < Int32.ofNat i := fun q => by have := (nat_lt (by omega) (by omega)).mp q; omega
    have n2 : ¬ (0 : Int32) ≤ -1 := by decide
    have e1 := m_rigged (M := M) (b := i) (by omega)
    have e2 := m_running (M := M) (b := i) hmc hNc (by omega)
    rw [c1 i x (by omega)] at e2
    have e2 : f_X12_running (Int32.ofNat i) M = some (-1) := e2
    by_cases q : M 0 (21 * i) = 1
    · rw [if_pos q] at e1
      simp only [f_X12_tick_B30, f_X12_tick_j61, n1, n2, e1, e2, nat_succ, bsm, if_true, if_false, ite_self, i10, i01, ite01, ite10, true_or, or_true, false_or, or_false, ite_not, not_true_eq_false, not_false_eq_true]
    · rw [if_neg q] at e1
      simp only [f_X12_tick_B30, f_X12_tick_j61, n1, n2, e1, nat_succ, bsm, if_true, if_false, ite_self, i10, i01, ite01, ite10, true_or, or_true, false_or, or_false, ite_not, not_true_eq_false, not_false_eq_true]
  by_cases qk : k ≤ hi
  · obtain ⟨c, ec⟩ : ∃ c, dec (M 0) k mc = some c := by
      cases e : dec (M 0) k mc with
      | none => exact absurd e (d1 qk)
      | some c => exact ⟨c, rfl⟩
    obtain ⟨⟨hc1, -, -⟩, -⟩ := dec_some mc ec
    have ht : Int32.ofNat c < M 0 1642 := by rw [hNc]; exact (nat_lt (by omega) (by omega)).mpr hc1
    have hkr := dec_rig hg (by omega) hmc hNc ec
    have hrig := grp_rig hg hlo a1 (by rw [hhi]; exact qk) hkr
    rw [hhi] at hrig
    obtain ⟨U, d, hU, s1, s2, s3⟩ := cue_way hg (c := c) (by omega) ht
    have v9 : V 9 k = Int32.ofNat c := by rw [hD k a1 (by omega), ec]; rfl
    have nn : ¬ Int32.ofNat c = (-1000000000 : Int32) := none_ne (by omega)
    rw [gdv_at a1 (by rw [v9]; exact nn) cN _ _ (by omega), v9] at eMG
    have eq1 : f_X7_get 1368 60 5 (Int32.ofNat c) 1 V = some (M 0 (1132 + 5 * c + 1)) := qget (i := 1) hg (by omega) (by omega)
    have em1 : f_X12_cueIs (Int32.ofNat c) 1 M = some (M 0 (1132 + 5 * c + 1)) := m_cueIs (i := 1) (by omega) (by omega)
    obtain ⟨u, V2, M2, hu, e1, e2, e3, e4, e5, e6⟩ := unit_loop (v4 := M 0 (1132 + 5 * c + 1)) (v6 := M 0 (1132 + 5 * c + 1)) (nx := Int32.ofNat (hi + 1)) hlh hh hs s1 s2 hU U 0 V M acc fuel fuel (by omega) (fuel_big (by omega)) (fuel_big (by omega)) hP hrig
    rw [Nat.zero_add] at e1
    refine ⟨u, V2, M2, by omega, ?_, ?_, e3, e5, fun b x y => ?_⟩
    · rw [eMG]
      unfold f_X0_moveGroup_j54 f_X0_moveGroup_j86
      rw [if_neg nn, eq1, bsm]
      rcases s3 with ⟨q, rfl⟩ | ⟨q, rfl⟩
      · rw [if_pos q, bsm]; exact e1
      · rw [if_neg q, bsm]; exact e1
    · rw [eB4]
      obtain ⟨F, hF, hF2⟩ := fuel_sub (k := k - lo) (by omega)
      have key := lp_go (f := f_X12_tick_B30 acc (Int32.ofNat (hi + 1)) (Int32.ofNat lo) (Int32.ofNat hi) M) (fun i => ((-1 : Int32), Int32.ofNat i)) (k - lo) lo (F + 1 + 1) mst
      rw [hF, key, show lo + (k - lo) = k by omega]
      have n1 : ¬ Int32.ofNat hi < Int32.ofNat k := fun q => by have := (nat_lt (by omega) (by omega)).mp q; omega
      have n2 : ¬ (0 : Int32) ≤ -1 := by decide
      have r1 := m_rigged (M := M) (b := k) (by omega)
      rw [if_pos hkr] at r1
      have r2 := m_running (M := M) (b := k) hmc hNc (by omega)
      rw [ec] at r2
      have r2 : f_X12_running (Int32.ofNat k) M = some (Int32.ofNat c) := r2
      have st1 : f_X12_tick_B30 acc (Int32.ofNat (hi + 1)) (Int32.ofNat lo) (Int32.ofNat hi) M ((-1 : Int32), Int32.ofNat k) = some (.inl (Int32.ofNat c, Int32.ofNat (k + 1))) := by
        simp only [f_X12_tick_B30, f_X12_tick_j61, n1, n2, r1, r2, nat_succ, bsm, if_true, if_false, ite_self, i10, i01, ite01, ite10, true_or, or_true, false_or, or_false, ite_not, not_true_eq_false, not_false_eq_true]
      have p0 : (0 : Int32) ≤ Int32.ofNat c := (nat_le (a := 0) (by omega) (by omega)).mpr (Nat.zero_le _)
      have eX : lp (f_X12_tick_B30 acc (Int32.ofNat (hi + 1)) (Int32.ofNat lo) (Int32.ofNat hi) M) (F + 1) (Int32.ofNat c, Int32.ofNat (k + 1)) = f_X12_tick_j69 acc (Int32.ofNat (hi + 1)) (Int32.ofNat lo) (Int32.ofNat hi) (Int32.ofNat c) M := by
        refine lp_endX ?_
        unfold f_X12_tick_B30
        by_cases q : Int32.ofNat hi < Int32.ofNat (k + 1)
        · rw [if_pos q]
        · rw [if_neg q, if_pos p0]
      show lp _ (F + 1 + 1) ((-1 : Int32), Int32.ofNat k) = _
      rw [lp_step st1, eX]
      unfold f_X12_tick_j69 f_X12_tick_j96
      rw [if_pos p0, em1, bsm]
      rcases s3 with ⟨q, rfl⟩ | ⟨q, rfl⟩
      · rw [if_pos q, bsm, bsm]; exact e2
      · rw [if_neg q, bsm, bsm]; exact e2
    · have e9 : V2 9 b = V 9 b := by rw [e6]
      rw [e9, hD b (by omega) y, dec_cg e5 (by rw [e3.2.2.2.2.2.2.2, hP.2.2.2.2.2.2.2]) e4 x y mc hmc]
  · have ek : k = hi + 1 := by omega
    subst ek
    rw [gdv_no _ _ (fun i x y => cN i x (by omega))] at eMG
    refine ⟨0, V, M, by omega, ?_, ?_, pq_mono hP (by omega), UN.rf, fun b x y => hD b (by omega) y⟩
    · rw [eMG]
      unfold f_X0_moveGroup_j54
      rw [if_pos rfl]; rfl
    · rw [eB4]
      obtain ⟨F, hF, hF2⟩ := fuel_sub (k := hi + 1 - lo) (by omega)
      have key := lp_go (f := f_X12_tick_B30 acc (Int32.ofNat (hi + 1)) (Int32.ofNat lo) (Int32.ofNat hi) M) (fun i => ((-1 : Int32), Int32.ofNat i)) (hi + 1 - lo) lo (F + 1 + 1) mst
      rw [hF, key, show lo + (hi + 1 - lo) = hi + 1 by omega]
      have n1 : Int32.ofNat hi < Int32.ofNat (hi + 1) := (nat_lt (by omega) (by omega)).mpr (by omega)
      have n2 : ¬ (0 : Int32) ≤ -1 := by decide
      refine lp_last ?_
      simp only [f_X12_tick_B30, f_X12_tick_j69, n1, n2, show acc + Int32.ofNat 0 = acc from Int32.add_zero _, bsm, if_true, if_false, ite_self, i10, i01, ite01, ite10, true_or, or_true, false_or, or_false, ite_not, not_true_eq_false, not_false_eq_true]
/-! time goes on -/
theorem gg_time {n : Nat} {C C2 S S2 : AT} (h0 : GG n C S) (uC : ∀ j, j ≠ 1873 → C j = C2 j) (uS : ∀ j, j ≠ 1645 → S j = S2 j) (a_rn5 : R_rn5 C2 S2) (a_wn5 : W_wn5 n S2) (a_wq2 : W_wq2 n S2) : GG n C2 S2 := by
  have h := h0
  exact ⟨⟨R_rb0_rg (fun b _ => uC (4 * b) (by omega)) (fun b _ => uS (21 * b + 1) (by omega)) h.1.rb0, R_rb1_rg (fun b _ => uC (4 * b + 1) (by omega)) (fun b _ => uS (21 * b + 2) (by omega)) h.1.rb1, R_rb2_rg (fun b _ => uC (4 * b + 2) (by omega)) (fun b _ => uS (21 * b + 3) (by omega)) h.1.rb2, R_rb3_rg (fun b _ => uC (4 * b + 3) (by omega)) (fun b _ => uS (21 * b + 4) (by omega)) h.1.rb3, R_rc_rg (fun b p _ _ => uC (48 + 16 * b + p) (by omega)) (fun b p _ _ => uS (21 * b + 5 + p) (by omega)) h.1.rc, R_rl0_rg (fun l _ => uC (240 + 12 * l) (by omega)) (fun l _ => uS (252 + 12 * l) (by omega)) h.1.rl0, R_rl1_rg (fun l _ => uC (240 + 12 * l + 1) (by omega)) (fun l _ => uS (252 + 12 * l + 1) (by omega)) h.1.rl1, R_rl2_rg (fun l _ => uC (240 + 12 * l + 2) (by omega)) (fun l _ => uS (252 + 12 * l + 2) (by omega)) h.1.rl2, R_rl3_rg (fun l _ => uC (240 + 12 * l + 3) (by omega)) (fun l _ => uS (252 + 12 * l + 3) (by omega)) h.1.rl3, R_rls_rg (fun l i _ _ => uC (240 + 12 * l + 4 + i) (by omega)) (fun l i _ _ => uS (252 + 12 * l + 4 + i) (by omega)) h.1.rls, R_rt0_rg (fun t _ => uC (720 + 8 * t) (by omega)) (fun t _ => uS (732 + 5 * t) (by omega)) h.1.rt0, R_rt1_rg (fun t _ => uC (720 + 8 * t + 1) (by omega)) (fun t _ => uS (732 + 5 * t + 1) (by omega)) h.1.rt1, R_rt2_rg (fun t _ => uC (720 + 8 * t + 2) (by omega)) (fun t _ => uS (732 + 5 * t + 2) (by omega)) h.1.rt2, R_rt3_rg (fun t _ => uC (720 + 8 * t + 3) (by omega)) (fun t _ => uS (732 + 5 * t + 3) (by omega)) h.1.rt3, R_rh_rg (fun t _ => uC (720 + 8 * t + 5) (by omega)) (fun t _ => uS (732 + 5 * t + 4) (by omega)) h.1.rh, R_rf_rg (fun k _ => uC (1360 + k) (by omega)) (fun k _ => uS (1432 + k) (by omega)) h.1.rf, R_rq0_rg (fun c _ => uC (1368 + 5 * c) (by omega)) (fun c _ => uS (1132 + 5 * c) (by omega)) h.1.rq0, R_rq1_rg (fun c _ => uC (1368 + 5 * c + 1) (by omega)) (fun c _ => uS (1132 + 5 * c + 1) (by omega)) h.1.rq1, R_rq2_rg (fun c _ => uC (1368 + 5 * c + 2) (by omega)) (fun c _ => uS (1132 + 5 * c + 2) (by omega)) h.1.rq2, R_rq3_rg (fun c _ => uC (1368 + 5 * c + 3) (by omega)) (fun c _ => uS (1132 + 5 * c + 3) (by omega)) h.1.rq3, R_rq4_rg (fun c _ => uC (1368 + 5 * c + 4) (by omega)) (fun c _ => uS (1132 + 5 * c + 4) (by omega)) h.1.rq4, R_rn0_rg (uC (1868) (by omega)) (uS (1640) (by omega)) h.1.rn0, R_rn1_rg (uC (1869) (by omega)) (uS (1641) (by omega)) h.1.rn1, R_rn2_rg (uC (1870) (by omega)) (uS (1642) (by omega)) h.1.rn2, R_rn3_rg (uC (1871) (by omega)) (uS (1643) (by omega)) h.1.rn3, R_rn4_rg (uC (1872) (by omega)) (uS (1644) (by omega)) h.1.rn4, a_rn5, R_rg_rg (uS (1641) (by omega)) (fun t _ => uS (732 + 5 * t) (by omega)) (fun t _ => uS (732 + 5 * t + 3) (by omega)) (fun t _ => uC (720 + 8 * t + 4) (by omega)) h.1.rg, R_rp_rg (uS (1641) (by omega)) (fun t _ => uS (732 + 5 * t) (by omega)) (fun b p _ _ => uS (21 * b + 5 + p) (by omega)) (fun t _ => uC (720 + 8 * t + 6) (by omega)) (fun t _ => uC (720 + 8 * t + 7) (by omega)) h.1.rp, R_rs_rg (uS (1643) (by omega)) (fun k _ => uS (1440 + k) (by omega)) (fun k _ => uC (1668 + k) (by omega)) h.1.rs⟩, ⟨W_wn0_rg (uS (1640) (by omega)) h.2.wn0, W_wn1_rg (uS (1641) (by omega)) h.2.wn1, W_wn2_rg (uS (1642) (by omega)) h.2.wn2, W_wn3_rg (uS (1643) (by omega)) h.2.wn3, W_wn4_rg (uS (1644) (by omega)) h.2.wn4, a_wn5, W_wb0_rg (fun b _ => uS (21 * b) (by omega)) h.2.wb0, W_wbp_rg (fun b _ => uS (21 * b) (by omega)) (fun b _ => uS (21 * b + 1) (by omega)) h.2.wbp, W_wbg_rg (fun b _ => uS (21 * b) (by omega)) (fun b _ => uS (21 * b + 2) (by omega)) h.2.wbg, W_wbh_rg (fun b _ => uS (21 * b) (by omega)) (fun b _ => uS (21 * b + 3) (by omega)) h.2.wbh, W_wbk_rg (fun b _ => uS (21 * b) (by omega)) (fun b _ => uS (21 * b + 4) (by omega)) h.2.wbk, W_wb2_rg (fun b _ => uS (21 * b) (by omega)) (fun b _ => uS (21 * b + 1) (by omega)) h.2.wb2, W_wb2g_rg (fun b _ => uS (21 * b) (by omega)) (fun b _ => uS (21 * b + 2) (by omega)) h.2.wb2g, W_wb3_rg (fun b _ => uS (21 * b + 1) (by omega)) (fun b p _ _ => uS (21 * b + 5 + p) (by omega)) h.2.wb3, W_wb4_rg (fun b _ => uS (21 * b + 3) (by omega)) h.2.wb4, W_wb4k_rg (fun b _ => uS (21 * b + 4) (by omega)) h.2.wb4k, W_wb5_rg (fun b p _ _ => uS (21 * b + 5 + p) (by omega)) (uS (1641) (by omega)) h.2.wb5, W_wl0_rg (uS (1640) (by omega)) (fun l _ => uS (252 + 12 * l + 3) (by omega)) h.2.wl0, W_wla_rg (uS (1640) (by omega)) (fun l _ => uS (252 + 12 * l) (by omega)) h.2.wla, W_wlb_rg (uS (1640) (by omega)) (fun l _ => uS (252 + 12 * l + 1) (by omega)) h.2.wlb, W_wlc_rg (uS (1640) (by omega)) (fun l _ => uS (252 + 12 * l + 2) (by omega)) h.2.wlc, W_wld_rg (uS (1640) (by omega)) (fun l _ => uS (252 + 12 * l + 3) (by omega)) h.2.wld, W_wl2_rg (uS (1640) (by omega)) (fun l _ => uS (252 + 12 * l + 2) (by omega)) (fun l i _ _ => uS (252 + 12 * l + 4 + i) (by omega)) h.2.wl2, W_wl4_rg (fun l _ => uS (252 + 12 * l + 3) (by omega)) (fun l _ => uS (252 + 12 * l) (by omega)) (fun l _ => uS (252 + 12 * l + 1) (by omega)) h.2.wl4, W_wt0_rg (uS (1641) (by omega)) (fun t _ => uS (732 + 5 * t) (by omega)) h.2.wt0, W_wt1_rg (uS (1641) (by omega)) (fun t _ => uS (732 + 5 * t + 1) (by omega)) h.2.wt1, W_wt2_rg (uS (1641) (by omega)) (fun t _ => uS (732 + 5 * t + 2) (by omega)) h.2.wt2, W_wt3_rg (uS (1641) (by omega)) (fun t _ => uS (732 + 5 * t + 3) (by omega)) h.2.wt3, W_wt4_rg (uS (1641) (by omega)) (fun t _ => uS (732 + 5 * t + 4) (by omega)) (fun t _ => uS (732 + 5 * t) (by omega)) h.2.wt4, W_wqa_rg (uS (1642) (by omega)) (fun c _ => uS (1132 + 5 * c) (by omega)) h.2.wqa, W_wqb_rg (uS (1642) (by omega)) (fun c _ => uS (1132 + 5 * c + 1) (by omega)) h.2.wqb, W_wqc_rg (uS (1642) (by omega)) (fun c _ => uS (1132 + 5 * c + 2) (by omega)) h.2.wqc, W_wqd_rg (uS (1642) (by omega)) (fun c _ => uS (1132 + 5 * c + 3) (by omega)) h.2.wqd, W_wqe_rg (uS (1642) (by omega)) (fun c _ => uS (1132 + 5 * c + 4) (by omega)) h.2.wqe, a_wq2, W_wf_rg (fun k _ => uS (1432 + k) (by omega)) h.2.wf, W_wh_rg (fun b p _ _ => uS (21 * b + 5 + p) (by omega)) (fun t _ => uS (732 + 5 * t) (by omega)) (fun t _ => uS (732 + 5 * t + 4) (by omega)) h.2.wh⟩⟩
theorem gg_time2 {C S : AT} {T : Nat} (h : GG 1000 C S) (hT : T < 100000) (e : S 1645 = Int32.ofNat T) : GG 1000 (upd C 1873 (Int32.ofNat (T + 1))) (upd S 1645 (Int32.ofNat (T + 1))) := by
  refine gg_time h (fun j hj => by rw [upd_ne hj]) (fun j hj => by rw [upd_ne hj]) ?_ ?_ ?_
  · rw [R_rn5, upd_same, upd_same]
  · rw [W_wn5, upd_same]; exact ⟨T + 1, by omega, by omega, rfl⟩
  · intro c b hc hb h1 h2 h3
    rw [upd_ne (by omega)] at h1 h2 h3
    rw [upd_ne (by omega), upd_ne (by omega), upd_ne (by omega), upd_same]
    rcases h.2.wq2 c b hc hb h1 h2 h3 with p | p
    · exact Or.inl p
    · refine Or.inr (Int32.le_trans p ?_)
      rw [e]; exact (nat_le (by omega) (by omega)).mpr (by omega)
theorem pq_time {O : AT} {B : VT} {S0 : AT} {M1 : VT} {s T : Nat} {V M : VT} (h : PQ O B S0 M1 s (Int32.ofNat T) V M) (hT : T < 100000) : ∃ V2, f_X3_time V = some (Int32.ofNat T) ∧ f_X7_set 1868 1 6 (0 : Int32) (5 : Int32) (Int32.ofNat T + 1) V = some V2 ∧ PQ O B S0 M1 s (Int32.ofNat (T + 1)) V2 (u2 M 0 1645 (Int32.ofNat T + 1)) := by
  obtain ⟨p1, p2, p3, p4, p5, ⟨m, hm, hN⟩, p7, p8⟩ := h
  have et := c_time p3
  rw [p8] at et
  obtain ⟨V2, ew, sw, fw⟩ := st_write (c := 1873) (Int32.ofNat (T + 1)) p1 (by omega) (by omega)
  have es : f_X7_set 1868 1 6 (0 : Int32) (5 : Int32) (Int32.ofNat (T + 1)) V = f_X4_write (Int32.ofNat 1873) (Int32.ofNat (T + 1)) V := scount (c := 5) _ (by omega)
  have hu : UN (M 0) (upd (M 0) 1645 (Int32.ofNat (T + 1))) := fun j _ _ h => upd_ne (by omega)
  have v0 : V2 0 = upd (V 0) 1873 (Int32.ofNat (T + 1)) := sw.2.1
  refine ⟨V2, et, by rw [nat_succ, es]; exact ew, ?_⟩
  rw [nat_succ]
  have m0 : u2 M 0 1645 (Int32.ofNat (T + 1)) 0 = upd (M 0) 1645 (Int32.ofNat (T + 1)) := u2_eq
  unfold PQ
  rw [m0, v0]
  refine ⟨sw, ms_put _ p2 (by omega), gg_time2 p3 hT p8, rw_fr (rw_un p3 hu p4) fw, p5.tr hu, ⟨m, hm, by rw [upd_ne (by omega)]; exact hN⟩, by rw [upd_ne (by omega)]; exact p7, upd_same⟩
theorem tick_loop {O : AT} {B : VT} {S0 : AT} {M1 : VT} {T mc : Nat} (hT : T < 100000) (hmc : mc ≤ 60) : ∀ (N lo : Nat), lo ≤ 12 → 12 - lo ≤ N → ∀ (s : Nat) (V M : VT) (acc : Int32) (f g : Nat), s + 12 < 1200000 + lo → 12 - lo < f → 12 - lo < g → PQ O B S0 M1 s (Int32.ofNat T) V M → M 0 1642 = Int32.ofNat mc → (∀ b, lo ≤ b → b < 12 → V 9 b = o32 (-1000000000) (dec (M 0) b mc)) → ∃ (u : Nat) (V2 M2 : VT), u ≤ 5 * (12 - lo) ∧ lp f_X0_runTick_B10 f (acc, Int32.ofNat lo, Int32.ofNat lo, V) = some (acc + Int32.ofNat u, V2) ∧ lp f_X12_tick_B4 g (acc, Int32.ofNat lo, M) = some (acc + Int32.ofNat u, M2) ∧ PQ O B S0 M1 (s + (12 - lo)) (Int32.ofNat (T + 1)) V2 M2 := by
  intro N
  induction N with
  | zero =>
    intro lo hlo hN s V M acc f g hs hf hg hP hNc hD
    have e : lo = 12 := by omega
    subst e
    obtain ⟨F, rfl⟩ : ∃ F, f = F + 1 := ⟨f - 1, by omega⟩
    obtain ⟨H, rfl⟩ : ∃ H, g = H + 1 := ⟨g - 1, by omega⟩
    obtain ⟨V2, e1, e2, p2⟩ := pq_time hP hT
    have n1 : (12 : Int32) ≤ Int32.ofNat 12 := by decide
    have k45 : ckA 1646 (1645 : Int32) = some 1645 := ck_lit (k := 1645) rfl (by omega) (by omega)
    have t45 : M 0 1645 = Int32.ofNat T := hP.2.2.2.2.2.2.2
    refine ⟨0, V2, u2 M 0 1645 (Int32.ofNat T + 1), by omega, lp_last ?_, lp_last ?_, p2⟩
    · simp only [f_X0_runTick_B10, n1, e1, e2, show acc + Int32.ofNat 0 = acc from Int32.add_zero _, bsm, if_true, if_false, ite_self, i10, i01, ite01, ite10, true_or, or_true, false_or, or_false, ite_not, not_true_eq_false, not_false_eq_true]
    · simp only [f_X12_tick_B4, n1, k45, t45, show acc + Int32.ofNat 0 = acc from Int32.add_zero _, bsm, if_true, if_false, ite_self, i10, i01, ite01, ite10, true_or, or_true, false_or, or_false, ite_not, not_true_eq_false, not_false_eq_true]
  | succ N ih =>
    intro lo hlo hN s V M acc f g hs hf hg hP hNc hD
    by_cases q12 : lo = 12
    · exact ih lo hlo (by omega) s V M acc f g hs hf hg hP hNc hD
    · obtain ⟨u, V2, M2, hu, e1, e2, e3, e4, e5⟩ := group_step acc (by omega) (by omega) hP hmc hNc hD
      obtain ⟨hlh, hh⟩ := ghi_le (S := M 0) (b := lo) (by omega)
      have gi : ∀ j, lo ≤ j → j < ghi (M 0) lo → tdb (M 0) (j + 1) = true := fun j x y => gup_in (11 - lo) lo j x y
      have ge : ghi (M 0) lo = 11 ∨ ¬ tdb (M 0) (ghi (M 0) lo + 1) = true := by
        rcases gup_end (S := M 0) (11 - lo) lo with p | p
        · exact Or.inl (by unfold ghi; omega)
        · exact Or.inr p
      generalize ghi (M 0) lo = hi at *
      obtain ⟨F, rfl⟩ : ∃ F, f = F + 1 + (hi - lo) := ⟨f - 1 - (hi - lo), by omega⟩
      obtain ⟨H, rfl⟩ : ∃ H, g = H + 1 := ⟨g - 1, by omega⟩
      have n12 : ∀ j, j < 12 → ¬ (12 : Int32) ≤ Int32.ofNat j := fun j hj q => by have := (nat_le (a := 12) (by omega) (by omega)).mp q; omega
      have ck : ∀ j, j < 11 → ckA 12 (Int32.ofNat (j + 1)) = some (j + 1) := fun j hj => ck_nat (by omega) (by omega)
      have key := lp_go (f := f_X0_runTick_B10) (fun j => (acc, Int32.ofNat lo, Int32.ofNat j, V)) (hi - lo) lo (F + 1) (fun j x y => by
        have r := (hP.2.2.2.1 (j + 1) (by omega)).1
        rw [if_pos (gi j x (by omega))] at r
        have n11 : ¬ Int32.ofNat j = 11 := fun q => by have := (nat_eq (b := 11) (by omega) (by omega)).mp q; omega
        have a1 := n12 j (by omega)
        have a2 := ck j (by omega)
        simp only [f_X0_runTick_B10, f_X0_runTick_j46, a1, n11, a2, r, nat_succ, bsm, if_true, if_false, ite_self, i10, i01, ite01, ite10, true_or, or_true, false_or, or_false, ite_not, not_true_eq_false, not_false_eq_true])
      have st : f_X0_runTick_B10 (acc, Int32.ofNat lo, Int32.ofNat hi, V) = some (.inl (acc + Int32.ofNat u, Int32.ofNat (hi + 1), Int32.ofNat (hi + 1), V2)) := by
        have a1 := n12 hi hh
        by_cases q11 : hi = 11
        · subst q11
          have n11 : Int32.ofNat 11 = 11 := rfl
          simp only [f_X0_runTick_B10, f_X0_runTick_j33, f_X0_runTick_j46, a1, eq_true n11, e1, nat_succ, bsm, if_true, if_false, ite_self, i10, i01, ite01, ite10, true_or, or_true, false_or, or_false, ite_not, not_true_eq_false, not_false_eq_true]
        · have n11 : ¬ Int32.ofNat hi = 11 := fun q => q11 ((nat_eq (b := 11) (by omega) (by omega)).mp q)
          have a2 := ck hi (by omega)
          have r := (hP.2.2.2.1 (hi + 1) (by omega)).1
          rw [if_neg (ge.resolve_left q11)] at r
          simp only [f_X0_runTick_B10, f_X0_runTick_j33, f_X0_runTick_j46, a1, n11, a2, r, e1, nat_succ, bsm, if_true, if_false, ite_self, i10, i01, ite01, ite10, true_or, or_true, false_or, or_false, ite_not, not_true_eq_false, not_false_eq_true]
      obtain ⟨u2', V3, M3, hu2, e6, e7, e8⟩ := ih (hi + 1) (by omega) (by omega) (s + 1) V2 M2 (acc + Int32.ofNat u) F H (by omega) (by omega) (by omega) e3 (by rw [e4 1642 (fun _ _ => by omega) (fun _ _ => by omega) (by omega)]; exact hNc) (fun b x y => e5 b (by omega) y)
      refine ⟨u + u2', V3, M3, by omega, ?_, ?_, pq_mono e8 (by omega)⟩
      · rw [key, show lo + (hi - lo) = hi by omega]
        show lp _ (F + 1) (acc, Int32.ofNat lo, Int32.ofNat hi, V) = _
        rw [lp_step st, e6, Int32.add_assoc, add32]
      · rw [lp_step e2, e7, Int32.add_assoc, add32]
theorem tick_both {O : AT} {B : VT} {S0 : AT} {M1 : VT} {s T : Nat} {V M : VT} (hT : T < 100000) (hs : s + 12 < 1200000) (hP : PQ O B S0 M1 s (Int32.ofNat T) V M) : ∃ (u : Nat) (V2 M2 : VT), u ≤ 60 ∧ f_X0_runTick V = some (Int32.ofNat u, V2) ∧ f_X12_tick M = some (Int32.ofNat u, M2) ∧ PQ O B S0 M1 (s + 12) (Int32.ofNat (T + 1)) V2 M2 := by
  obtain ⟨mc, -, hmc, hNc⟩ := hP.2.2.1.2.wn2
  obtain ⟨V1, ef, k1, r9⟩ := c_find hP.2.2.1 hmc hNc
  have p1 : PQ O B S0 M1 s (Int32.ofNat T) V1 M := by
    obtain ⟨h1, h2, h3, h4, h5⟩ := hP
    refine ⟨?_, h2, ?_, ?_, h5⟩
    · rw [k1 0 (by omega)]
      exact st_scr h1 (fun k hk => k1 k (by omega)) (k1 10 (by omega)) (fun i _ => by rw [k1 11 (by omega)])
    · rw [k1 0 (by omega)]; exact h3
    · intro b hb
      rw [k1 6 (by omega), k1 7 (by omega), k1 8 (by omega)]; exact h4 b hb
  obtain ⟨u, V2, M2, hu, e1, e2, e3⟩ := tick_loop hT hmc 12 0 (by omega) (by omega) s V1 M 0 fuel fuel (by omega) (fuel_big (by omega)) (fuel_big (by omega)) p1 hNc (fun b _ hb => r9 b hb)
  rw [Int32.zero_add] at e1 e2
  refine ⟨u, V2, M2, by omega, ?_, ?_, e3⟩
  · unfold f_X0_runTick
    rw [ef, bsm, bsm, bsm, bsm]
    exact e1
  · unfold f_X12_tick
    rw [bsm, bsm]
    exact e2
