/-! the reference looks for what is too hot; heat -/
theorem m_hot5 {n : Nat} {C : AT} {M : VT} {b p t : Nat} (v1 : Int32) (h : GG n C (M 0)) (hb : b < 12) (hp : p < 16) : (nrP (M 0) b p → lp (f_X12_scorched_B66 v1 (Int32.ofNat b) (Int32.ofNat p) (Int32.ofNat t) M) fuel ((0 : Int32), Int32.ofNat p - 2) = (f_X12_lesser v1 (Int32.ofNat t) M).bind fun r => some (.inl (r, Int32.ofNat (p + 1)))) ∧ (¬ nrP (M 0) b p → lp (f_X12_scorched_B66 v1 (Int32.ofNat b) (Int32.ofNat p) (Int32.ofNat t) M) fuel ((0 : Int32), Int32.ofNat p - 2) = some (.inl (v1, Int32.ofNat (p + 1)))) := by
  obtain ⟨P, hP, hS⟩ := places_any h hb
  have look : ∀ k, k < 5 → (2 ≤ p + k ∧ p + k - 2 < 16 ∧ htP (M 0) b (p + k - 2) → f_X12_scorched_B66 v1 (Int32.ofNat b) (Int32.ofNat p) (Int32.ofNat t) M (0, Int32.ofNat p - 2 + Int32.ofNat k) = some (.inl (1, Int32.ofNat p - 2 + Int32.ofNat (k + 1)))) ∧ (¬ (2 ≤ p + k ∧ p + k - 2 < 16 ∧ htP (M 0) b (p + k - 2)) → f_X12_scorched_B66 v1 (Int32.ofNat b) (Int32.ofNat p) (Int32.ofNat t) M (0, Int32.ofNat p - 2 + Int32.ofNat k) = some (.inl (0, Int32.ofNat p - 2 + Int32.ofNat (k + 1)))) ∧ f_X12_scorched_B66 v1 (Int32.ofNat b) (Int32.ofNat p) (Int32.ofNat t) M (1, Int32.ofNat p - 2 + Int32.ofNat k) = some (.inl (1, Int32.ofNat p - 2 + Int32.ofNat (k + 1))) := by
    intro k hk
    have n1 : ¬ Int32.ofNat p + 2 < Int32.ofNat p - 2 + Int32.ofNat k := fun q => (nb_end hp (by omega)).mp q hk
    have third : f_X12_scorched_B66 v1 (Int32.ofNat b) (Int32.ofNat p) (Int32.ofNat t) M (1, Int32.ofNat p - 2 + Int32.ofNat k) = some (.inl (1, Int32.ofNat p - 2 + Int32.ofNat (k + 1))) := by
      simp only [f_X12_scorched_B66, f_X12_scorched_j116, f_X12_scorched_j121, n1, if_false, i10, bsm, nb_succ]
    have epl := m_isPlace (M := M) (Int32.ofNat p - 2 + Int32.ofNat k) hb
    rw [hS] at epl
    by_cases q : 2 ≤ p + k ∧ p + k - 2 < P
    · have npl : ¬ (Int32.ofNat p - 2 + Int32.ofNat k < 0 ∨ Int32.ofNat P ≤ Int32.ofNat p - 2 + Int32.ofNat k) := by
        rw [nb_in hp (by omega) q.1]
        intro x
        rcases x with x | x
        · exact nat_nneg (by omega) x
        · have := (nat_le (by omega) (by omega)).mp x; omega
      rw [if_neg npl, nb_in hp (by omega) q.1] at epl
      have eh := m_held (M := M) hb (p := p + k - 2) (by omega)
      have en := nb_in hp (show k < 6 by omega) q.1
      rcases low_ct h hb (p := p + k - 2) (by omega) with ⟨hl, ho⟩ | ⟨hl, u, hu, htl, e⟩
      · refine ⟨fun hh => ?_, fun _ => ?_, third⟩
        · obtain ⟨-, -, u, hu, e, -⟩ := hh
          exact absurd e (ne_thing ho hu)
        · rw [en] at n1 ⊢
          simp only [f_X12_scorched_B66, f_X12_scorched_j120, f_X12_scorched_j121, n1, if_false, if_true, epl, i10, eh, hl, bsm]
          rw [← en, nb_succ]
      · rw [e] at eh
        have hl2 : ¬ Int32.ofNat (2 + u) < 2 := by rw [← e]; exact hl
        have ehot := m_isHot h hu htl
        refine ⟨fun hh => ?_, fun hno => ?_, third⟩
        · obtain ⟨-, -, u2, hu2, e2, hne⟩ := hh
          have : u = u2 := thing_inj hu hu2 (e.symm.trans e2)
          subst this
          rw [if_neg hne] at ehot
          rw [en] at n1 ⊢
          simp only [f_X12_scorched_B66, f_X12_scorched_j116, f_X12_scorched_j121, n1, if_false, if_true, epl, i10, eh, hl2, sub2, ehot, bsm]
          rw [← en, nb_succ]
        · have hle : M 0 (732 + 5 * u + 4) ≤ 0 := Classical.byContradiction (fun x => hno ⟨q.1, by omega, u, hu, e, x⟩)
          rw [if_pos hle] at ehot
          rw [en] at n1 ⊢
          simp only [f_X12_scorched_B66, f_X12_scorched_j120, f_X12_scorched_j121, n1, if_false, if_true, epl, i10, eh, hl2, sub2, ehot, bsm]
          rw [← en, nb_succ]
    · have ypl : Int32.ofNat p - 2 + Int32.ofNat k < 0 ∨ Int32.ofNat P ≤ Int32.ofNat p - 2 + Int32.ofNat k := by
        by_cases q1 : 2 ≤ p + k
        · refine Or.inr ?_
          rw [nb_in hp (by omega) q1]
          exact (nat_le (by omega) (by omega)).mpr (by omega)
        · exact Or.inl (nb_lo hp (by omega) q1)
      rw [if_pos ypl] at epl
      refine ⟨fun hh => ?_, fun _ => ?_, third⟩
      · obtain ⟨x1, x2, u, hu, e, -⟩ := hh
        have := h.2.wb3 b (p + k - 2) hb x2 (by rw [hS]; exact (nat_le (by omega) (by omega)).mpr (by omega))
        exact absurd e (ne_thing (Or.inl this) hu)
      · simp only [f_X12_scorched_B66, f_X12_scorched_j120, f_X12_scorched_j121, n1, if_false, if_true, epl, bsm, nb_succ]
  have nE : Int32.ofNat p + 2 < Int32.ofNat p - 2 + Int32.ofNat 5 := (nb_end hp (by omega)).mpr (by omega)
  constructor
  · rintro ⟨k0, hk0, hh0⟩
    rcases first_of (fun k => 2 ≤ p + k ∧ p + k - 2 < 16 ∧ htP (M 0) b (p + k - 2)) 5 with hno | ⟨k, hk, h1, h2⟩
    · exact absurd hh0 (hno k0 hk0)
    · rw [nb_0]
      refine lp_run (fun i => (if k < i then 1 else 0, Int32.ofNat p - 2 + Int32.ofNat i)) 5 0 fuel (fun i _ hi => ?_) ?_ (fuel_big (by omega))
      · rcases (show i < k ∨ i = k ∨ k < i by omega) with q | q | q
        · simp only [show ¬ k < i by omega, show ¬ k < i + 1 by omega, if_false]
          exact (look i (by omega)).2.1 (h2 i q)
        · subst q
          simp only [show ¬ i < i by omega, show i < i + 1 by omega, if_false, if_true]
          exact (look i (by omega)).1 h1
        · simp only [q, show k < i + 1 by omega, if_true]
          exact (look i (by omega)).2.2
      · rw [Nat.zero_add]
        simp only [hk, if_true]
        unfold f_X12_scorched_B66 f_X12_scorched_j141
        simp only [nE, if_true, i10, if_false, bsm, nat_succ]
  · intro hno
    rw [nb_0]
    refine lp_iter (fun i => (0, Int32.ofNat p - 2 + Int32.ofNat i)) 5 0 fuel (fun i _ hi => (look i (by omega)).2.1 (fun q => hno ⟨i, by omega, q⟩)) ?_ (fuel_big (by omega))
    rw [Nat.zero_add]
    simp only [f_X12_scorched_B66, f_X12_scorched_j141, nE, if_true, bsm, nat_succ]
theorem mhm_tail {S : AT} {b P : Nat} {m : Option Nat} : ∀ k, (∀ p, P ≤ p → p < P + k → S (21 * b + 5 + p) = 0) → mhm S b m (P + k) = mhm S b m P := by
  intro k
  induction k with
  | zero => intro _; rfl
  | succ k ih =>
    intro h
    rw [show P + (k + 1) = P + k + 1 from rfl, mhm_succ, if_neg (fun x => by
      obtain ⟨⟨t, ht, e, -⟩, -⟩ := scb_iff.mp x
      exact absurd e (ne_thing (Or.inl (h (P + k) (by omega) (by omega))) ht))]
    exact ih (fun p h1 h2 => h p h1 (by omega))
theorem m_scBar {n : Nat} {C : AT} {M : VT} {b : Nat} {m : Option Nat} (h : GG n C (M 0)) (hb : b < 12) (hm : ∀ a, m = some a → a < 80) : lp (f_X12_scorched_B12 (Int32.ofNat b) M) fuel (o32 (-1) m, (0 : Int32)) = some (.inl (o32 (-1) (mhm (M 0) b m 16), Int32.ofNat (b + 1))) := by
  obtain ⟨P, hP, hS⟩ := places_any h hb
  have ep := m_places (M := M) hb
  rw [hS] at ep
  have htail : mhm (M 0) b m 16 = mhm (M 0) b m P := by
    have := mhm_tail (S := M 0) (b := b) (P := P) (m := m) (16 - P) (fun p h1 h2 => h.2.wb3 b p hb (by omega) (by rw [hS]; exact (nat_le (by omega) (by omega)).mpr h1))
    rw [show P + (16 - P) = 16 by omega] at this; exact this
  rw [htail]
  refine lp_iter (fun i => (o32 (-1) (mhm (M 0) b m i), Int32.ofNat i)) P 0 fuel (fun i _ hi => ?_) ?_ (fuel_big (by omega))
  · have hi : i < P := by omega
    have n1 : ¬ Int32.ofNat P ≤ Int32.ofNat i := fun q => by have := (nat_le (by omega) (by omega)).mp q; omega
    have er := m_rigged (M := M) hb
    have hr : M 0 (21 * b) = 1 := (h.2.wb0 b hb).resolve_left (fun z => by
      have := h.2.wbp b hb z
      rw [hS] at this
      have := (nat_eq (b := 0) (by omega) (by omega)).mp this
      omega)
    rw [if_pos hr] at er
    have eh := m_held (M := M) hb (p := i) (by omega)
    have hlt := mhm_lt (m := m) h hb hm i (by omega)
    rw [mhm_succ]
    rcases low_ct h hb (p := i) (by omega) with ⟨hl, ho⟩ | ⟨hl, t, ht, htl, e⟩
    · rw [if_neg (fun x => by obtain ⟨⟨t, ht, e, -⟩, -⟩ := scb_iff.mp x; exact absurd e (ne_thing ho ht))]
      simp only [f_X12_scorched_B12, f_X12_scorched_j141, ep, n1, if_false, er, i10, eh, low_sub ho, if_true, bsm, nat_succ]
    · rw [e] at eh
      have nn : ¬ Int32.ofNat t < 0 := nat_nneg (by omega)
      have t0 : f_X12_thingIs (Int32.ofNat t) 0 M = some (M 0 (732 + 5 * t)) := m_thingIs (c := 0) ht (by omega)
      obtain ⟨kd, -, kd2, kd3⟩ := h.2.wt0 t ht htl
      obtain ⟨f1, f2⟩ := m_hot5 (t := t) (o32 (-1) (mhm (M 0) b m i)) h hb (p := i) (by omega)
      by_cases hk : M 0 (732 + 5 * t) = 0 ∨ M 0 (732 + 5 * t) = 1
      · have hle : M 0 (732 + 5 * t) ≤ 1 := by rcases hk with z | z <;> rw [z] <;> decide
        by_cases hh : nrP (M 0) b i
        · rw [if_pos (scb_iff.mpr ⟨⟨t, ht, e, hk⟩, hh⟩), tix_at ht e]
          simp only [f_X12_scorched_B12, ep, n1, if_false, er, i10, eh, sub2, nn, t0, hle, if_true, f1 hh, m_lesser hlt ht, bsm]
        · rw [if_neg (fun x => hh (scb_iff.mp x).2)]
          simp only [f_X12_scorched_B12, ep, n1, if_false, er, i10, eh, sub2, nn, t0, hle, if_true, f2 hh, bsm]
      · have hle : ¬ M 0 (732 + 5 * t) ≤ 1 := by
          rw [kd3]
          intro x
          have := (nat_le (b := 1) (by omega) (by omega)).mp x
          rcases (show kd = 0 ∨ kd = 1 by omega) with z | z
          · exact hk (Or.inl (by rw [kd3, z]; rfl))
          · exact hk (Or.inr (by rw [kd3, z]; rfl))
        rw [if_neg (fun x => by
          obtain ⟨⟨t2, ht2, e2, hk2⟩, -⟩ := scb_iff.mp x
          have := thing_inj ht ht2 (e.symm.trans e2)
          subst this
          exact hk hk2)]
        simp only [f_X12_scorched_B12, f_X12_scorched_j141, ep, n1, if_false, er, i10, eh, sub2, nn, t0, hle, bsm, nat_succ]
  · rw [Nat.zero_add]
    simp only [f_X12_scorched_B12, f_X12_scorched_j147, ep, Int32.le_refl, if_true, bsm, nat_succ]
theorem m_scorched {n : Nat} {C : AT} {M : VT} {B : Nat} (h : GG n C (M 0)) (hB : B < 12) (hno : ∀ b p, b < 12 → p < 16 → b ≠ B → ¬ scP (M 0) b p) : f_X12_scorched M = some (o32 (-1) (mhm (M 0) B none 16)) := by
  have hlt := mhm_lt (m := none) h hB (fun a ha => by cases ha) 16 (by omega)
  unfold f_X12_scorched
  rw [bsm, bsm]
  refine lp_iter (fun i => (o32 (-1) (if B < i then mhm (M 0) B none 16 else none), Int32.ofNat i)) 12 0 fuel (fun i _ hi => ?_) ?_ (fuel_big (by omega))
  · have hi : i < 12 := by omega
    have n1 : ¬ (12 : Int32) ≤ Int32.ofNat i := fun q => by have := (nat_le (a := 12) (by omega) (by omega)).mp q; omega
    have eb := m_scBar (m := if B < i then mhm (M 0) B none 16 else none) h hi (by
      intro a ha
      split at ha
      · exact hlt a ha
      · cases ha)
    simp only [f_X12_scorched_B4, n1, if_false, eb, bsm]
    by_cases e : i = B
    · subst e
      rw [if_neg (by omega), if_pos (by omega)]
    · rw [mhm_no (fun p hp => hno i p hi hp e) 16 (by omega)]
      by_cases q : B < i
      · rw [if_pos q, if_pos (by omega)]
      · rw [if_neg q, if_neg (by omega)]
  · rw [Nat.zero_add]
    have n1 : (12 : Int32) ≤ Int32.ofNat 12 := by decide
    simp only [f_X12_scorched_B4, n1, if_true, hB, bsm]
/-- lifting to where 'too hot' is not asked -/
theorem gg_lift {C S : AT} : ∀ k n, GG n C S → GG (n + k) C S := by
  intro k
  induction k with
  | zero => intro n h; exact h
  | succ k ih => intro n h; exact gg_ok.1 _ _ _ (ih n h)
theorem gg_999 {n : Nat} {C S : AT} (h : GG n C S) (hn : n < 600) : GG 999 C S := by
  have := gg_lift (999 - n) n h
  rw [show n + (999 - n) = 999 by omega] at this; exact this
theorem wh_1000 {S : AT} : W_wh (999 + 1) S := fun _ _ _ _ _ _ _ _ _ _ _ _ hn => by omega
theorem gg_heat {n : Nat} {C C2 S S2 : AT} (h0 : GG n C S) (uC : ∀ j, (∀ t : Nat, t < 80 → j ≠ 720 + 8 * t + 5) → C j = C2 j) (uS : ∀ j, (∀ t : Nat, t < 80 → j ≠ 732 + 5 * t + 4) → S j = S2 j) (a_rh : R_rh C2 S2) (a_wt4 : W_wt4 (n + 1) S2) (a_wh : W_wh (n + 1) S2) : GG (n + 1) C2 S2 := by
  have h := gg_ok.1 _ _ _ h0
  exact ⟨⟨R_rb0_rg (fun b _ => uC (4 * b) (fun _ _ => by omega)) (fun b _ => uS (21 * b + 1) (fun _ _ => by omega)) h.1.rb0, R_rb1_rg (fun b _ => uC (4 * b + 1) (fun _ _ => by omega)) (fun b _ => uS (21 * b + 2) (fun _ _ => by omega)) h.1.rb1, R_rb2_rg (fun b _ => uC (4 * b + 2) (fun _ _ => by omega)) (fun b _ => uS (21 * b + 3) (fun _ _ => by omega)) h.1.rb2, R_rb3_rg (fun b _ => uC (4 * b + 3) (fun _ _ => by omega)) (fun b _ => uS (21 * b + 4) (fun _ _ => by omega)) h.1.rb3, R_rc_rg (fun b p _ _ => uC (48 + 16 * b + p) (fun _ _ => by omega)) (fun b p _ _ => uS (21 * b + 5 + p) (fun _ _ => by omega)) h.1.rc, R_rl0_rg (fun l _ => uC (240 + 12 * l) (fun _ _ => by omega)) (fun l _ => uS (252 + 12 * l) (fun _ _ => by omega)) h.1.rl0, R_rl1_rg (fun l _ => uC (240 + 12 * l + 1) (fun _ _ => by omega)) (fun l _ => uS (252 + 12 * l + 1) (fun _ _ => by omega)) h.1.rl1, R_rl2_rg (fun l _ => uC (240 + 12 * l + 2) (fun _ _ => by omega)) (fun l _ => uS (252 + 12 * l + 2) (fun _ _ => by omega)) h.1.rl2, R_rl3_rg (fun l _ => uC (240 + 12 * l + 3) (fun _ _ => by omega)) (fun l _ => uS (252 + 12 * l + 3) (fun _ _ => by omega)) h.1.rl3, R_rls_rg (fun l i _ _ => uC (240 + 12 * l + 4 + i) (fun _ _ => by omega)) (fun l i _ _ => uS (252 + 12 * l + 4 + i) (fun _ _ => by omega)) h.1.rls, R_rt0_rg (fun t _ => uC (720 + 8 * t) (fun _ _ => by omega)) (fun t _ => uS (732 + 5 * t) (fun _ _ => by omega)) h.1.rt0, R_rt1_rg (fun t _ => uC (720 + 8 * t + 1) (fun _ _ => by omega)) (fun t _ => uS (732 + 5 * t + 1) (fun _ _ => by omega)) h.1.rt1, R_rt2_rg (fun t _ => uC (720 + 8 * t + 2) (fun _ _ => by omega)) (fun t _ => uS (732 + 5 * t + 2) (fun _ _ => by omega)) h.1.rt2, R_rt3_rg (fun t _ => uC (720 + 8 * t + 3) (fun _ _ => by omega)) (fun t _ => uS (732 + 5 * t + 3) (fun _ _ => by omega)) h.1.rt3, a_rh, R_rf_rg (fun k _ => uC (1360 + k) (fun _ _ => by omega)) (fun k _ => uS (1432 + k) (fun _ _ => by omega)) h.1.rf, R_rq0_rg (fun c _ => uC (1368 + 5 * c) (fun _ _ => by omega)) (fun c _ => uS (1132 + 5 * c) (fun _ _ => by omega)) h.1.rq0, R_rq1_rg (fun c _ => uC (1368 + 5 * c + 1) (fun _ _ => by omega)) (fun c _ => uS (1132 + 5 * c + 1) (fun _ _ => by omega)) h.1.rq1, R_rq2_rg (fun c _ => uC (1368 + 5 * c + 2) (fun _ _ => by omega)) (fun c _ => uS (1132 + 5 * c + 2) (fun _ _ => by omega)) h.1.rq2, R_rq3_rg (fun c _ => uC (1368 + 5 * c + 3) (fun _ _ => by omega)) (fun c _ => uS (1132 + 5 * c + 3) (fun _ _ => by omega)) h.1.rq3, R_rq4_rg (fun c _ => uC (1368 + 5 * c + 4) (fun _ _ => by omega)) (fun c _ => uS (1132 + 5 * c + 4) (fun _ _ => by omega)) h.1.rq4, R_rn0_rg (uC (1868) (fun _ _ => by omega)) (uS (1640) (fun _ _ => by omega)) h.1.rn0, R_rn1_rg (uC (1869) (fun _ _ => by omega)) (uS (1641) (fun _ _ => by omega)) h.1.rn1, R_rn2_rg (uC (1870) (fun _ _ => by omega)) (uS (1642) (fun _ _ => by omega)) h.1.rn2, R_rn3_rg (uC (1871) (fun _ _ => by omega)) (uS (1643) (fun _ _ => by omega)) h.1.rn3, R_rn4_rg (uC (1872) (fun _ _ => by omega)) (uS (1644) (fun _ _ => by omega)) h.1.rn4, R_rn5_rg (uC (1873) (fun _ _ => by omega)) (uS (1645) (fun _ _ => by omega)) h.1.rn5, R_rg_rg (uS (1641) (fun _ _ => by omega)) (fun t _ => uS (732 + 5 * t) (fun _ _ => by omega)) (fun t _ => uS (732 + 5 * t + 3) (fun _ _ => by omega)) (fun t _ => uC (720 + 8 * t + 4) (fun _ _ => by omega)) h.1.rg, R_rp_rg (uS (1641) (fun _ _ => by omega)) (fun t _ => uS (732 + 5 * t) (fun _ _ => by omega)) (fun b p _ _ => uS (21 * b + 5 + p) (fun _ _ => by omega)) (fun t _ => uC (720 + 8 * t + 6) (fun _ _ => by omega)) (fun t _ => uC (720 + 8 * t + 7) (fun _ _ => by omega)) h.1.rp, R_rs_rg (uS (1643) (fun _ _ => by omega)) (fun k _ => uS (1440 + k) (fun _ _ => by omega)) (fun k _ => uC (1668 + k) (fun _ _ => by omega)) h.1.rs⟩, ⟨W_wn0_rg (uS (1640) (fun _ _ => by omega)) h.2.wn0, W_wn1_rg (uS (1641) (fun _ _ => by omega)) h.2.wn1, W_wn2_rg (uS (1642) (fun _ _ => by omega)) h.2.wn2, W_wn3_rg (uS (1643) (fun _ _ => by omega)) h.2.wn3, W_wn4_rg (uS (1644) (fun _ _ => by omega)) h.2.wn4, W_wn5_rg (uS (1645) (fun _ _ => by omega)) h.2.wn5, W_wb0_rg (fun b _ => uS (21 * b) (fun _ _ => by omega)) h.2.wb0, W_wbp_rg (fun b _ => uS (21 * b) (fun _ _ => by omega)) (fun b _ => uS (21 * b + 1) (fun _ _ => by omega)) h.2.wbp, W_wbg_rg (fun b _ => uS (21 * b) (fun _ _ => by omega)) (fun b _ => uS (21 * b + 2) (fun _ _ => by omega)) h.2.wbg, W_wbh_rg (fun b _ => uS (21 * b) (fun _ _ => by omega)) (fun b _ => uS (21 * b + 3) (fun _ _ => by omega)) h.2.wbh, W_wbk_rg (fun b _ => uS (21 * b) (fun _ _ => by omega)) (fun b _ => uS (21 * b + 4) (fun _ _ => by omega)) h.2.wbk, W_wb2_rg (fun b _ => uS (21 * b) (fun _ _ => by omega)) (fun b _ => uS (21 * b + 1) (fun _ _ => by omega)) h.2.wb2, W_wb2g_rg (fun b _ => uS (21 * b) (fun _ _ => by omega)) (fun b _ => uS (21 * b + 2) (fun _ _ => by omega)) h.2.wb2g, W_wb3_rg (fun b _ => uS (21 * b + 1) (fun _ _ => by omega)) (fun b p _ _ => uS (21 * b + 5 + p) (fun _ _ => by omega)) h.2.wb3, W_wb4_rg (fun b _ => uS (21 * b + 3) (fun _ _ => by omega)) h.2.wb4, W_wb4k_rg (fun b _ => uS (21 * b + 4) (fun _ _ => by omega)) h.2.wb4k, W_wb5_rg (fun b p _ _ => uS (21 * b + 5 + p) (fun _ _ => by omega)) (uS (1641) (fun _ _ => by omega)) h.2.wb5, W_wl0_rg (uS (1640) (fun _ _ => by omega)) (fun l _ => uS (252 + 12 * l + 3) (fun _ _ => by omega)) h.2.wl0, W_wla_rg (uS (1640) (fun _ _ => by omega)) (fun l _ => uS (252 + 12 * l) (fun _ _ => by omega)) h.2.wla, W_wlb_rg (uS (1640) (fun _ _ => by omega)) (fun l _ => uS (252 + 12 * l + 1) (fun _ _ => by omega)) h.2.wlb, W_wlc_rg (uS (1640) (fun _ _ => by omega)) (fun l _ => uS (252 + 12 * l + 2) (fun _ _ => by omega)) h.2.wlc, W_wld_rg (uS (1640) (fun _ _ => by omega)) (fun l _ => uS (252 + 12 * l + 3) (fun _ _ => by omega)) h.2.wld, W_wl2_rg (uS (1640) (fun _ _ => by omega)) (fun l _ => uS (252 + 12 * l + 2) (fun _ _ => by omega)) (fun l i _ _ => uS (252 + 12 * l + 4 + i) (fun _ _ => by omega)) h.2.wl2, W_wl4_rg (fun l _ => uS (252 + 12 * l + 3) (fun _ _ => by omega)) (fun l _ => uS (252 + 12 * l) (fun _ _ => by omega)) (fun l _ => uS (252 + 12 * l + 1) (fun _ _ => by omega)) h.2.wl4, W_wt0_rg (uS (1641) (fun _ _ => by omega)) (fun t _ => uS (732 + 5 * t) (fun _ _ => by omega)) h.2.wt0, W_wt1_rg (uS (1641) (fun _ _ => by omega)) (fun t _ => uS (732 + 5 * t + 1) (fun _ _ => by omega)) h.2.wt1, W_wt2_rg (uS (1641) (fun _ _ => by omega)) (fun t _ => uS (732 + 5 * t + 2) (fun _ _ => by omega)) h.2.wt2, W_wt3_rg (uS (1641) (fun _ _ => by omega)) (fun t _ => uS (732 + 5 * t + 3) (fun _ _ => by omega)) h.2.wt3, a_wt4, W_wqa_rg (uS (1642) (fun _ _ => by omega)) (fun c _ => uS (1132 + 5 * c) (fun _ _ => by omega)) h.2.wqa, W_wqb_rg (uS (1642) (fun _ _ => by omega)) (fun c _ => uS (1132 + 5 * c + 1) (fun _ _ => by omega)) h.2.wqb, W_wqc_rg (uS (1642) (fun _ _ => by omega)) (fun c _ => uS (1132 + 5 * c + 2) (fun _ _ => by omega)) h.2.wqc, W_wqd_rg (uS (1642) (fun _ _ => by omega)) (fun c _ => uS (1132 + 5 * c + 3) (fun _ _ => by omega)) h.2.wqd, W_wqe_rg (uS (1642) (fun _ _ => by omega)) (fun c _ => uS (1132 + 5 * c + 4) (fun _ _ => by omega)) h.2.wqe, W_wq2_rg (uS (1642) (fun _ _ => by omega)) (fun c _ => uS (1132 + 5 * c) (fun _ _ => by omega)) (fun b _ => uS (21 * b) (fun _ _ => by omega)) (fun c _ => uS (1132 + 5 * c + 4) (fun _ _ => by omega)) (fun c _ => uS (1132 + 5 * c + 2) (fun _ _ => by omega)) (fun c _ => uS (1132 + 5 * c + 3) (fun _ _ => by omega)) (uS (1645) (fun _ _ => by omega)) h.2.wq2, W_wf_rg (fun k _ => uS (1432 + k) (fun _ _ => by omega)) h.2.wf, a_wh⟩⟩
theorem gg_heat2 {n t : Nat} {C S : AT} {x : Int32} (h : GG n C S) (ht : t < 80) (hk : S (732 + 5 * t) = 2) (hx : RG x 0 80000) (hw : W_wh (n + 1) (upd S (732 + 5 * t + 4) x)) : GG (n + 1) (upd C (720 + 8 * t + 5) x) (upd S (732 + 5 * t + 4) x) := by
  refine gg_heat h (fun j hj => by rw [upd_ne (hj t ht)]) (fun j hj => by rw [upd_ne (hj t ht)]) ?_ ?_ hw
  · intro u hu
    by_cases e : u = t
    · subst e; rw [upd_same, upd_same]
    · rw [upd_ne (by omega), upd_ne (by omega)]; exact h.1.rh u hu
  · intro u hu q
    rw [upd_ne (by omega)] at q
    by_cases e : u = t
    · subst e
      rw [upd_same, upd_ne (by omega)]
      exact ⟨hx, Or.inr hk⟩
    · rw [upd_ne (by omega), upd_ne (by omega)]; exact h.2.wt4 u hu q
/-- the reference refuses behind what it wrote -/
theorem aok_back {cy : Option (Int32 × VT × JT)} {mz : Option (Int32 × VT)} {n : Nat} {O : AT} {B V2 : VT} {J : JT} {M M1 M2 : VT} {C2 S2 : AT} {r : Int32} (f s : Int32) (hf : f ≠ 0) (sb : St O B 1360 C2 f s V2) (hc : cy = some (r, V2, J)) (sm : Ms (M 0) M1 S2 0 0 M2) (hm : ∀ M3 M4, f_X12_is 1 f M2 = some (1, M3) → f_X12_takenBack (u2 M3 7 3 s) = some (-1000000000, M4) → mz = some (-1000000000, M4)) : AO n O B M M1 cy mz := by
  obtain ⟨M3, ei, si⟩ := is_yes f sm hf
  have si2 := ms_sub s si
  obtain ⟨M4, e4, h4⟩ := mtaken_ok si2
  exact Or.inl ⟨f, s, r, V2, J, C2, _, M4, hf, hc, sb, hm M3 M4 ei e4, ⟨_, si2⟩, h4⟩
theorem aok_heat (v1 v2 : Int32) : AOK (noJ (f_X2_heatLamp v1 v2)) (f_X12_heat v1 v2) := by
  intro n O B V J M M1 hn sb hgg em sm
  have hf0 : M1 7 2 = 0 := sm.2.2.2.1
  have m0 : M1 0 = M 0 := sm.1
  have ei := c_isThing v1 hgg
  have e2 := m_isTold (M := M1) v1
  rw [m0] at e2
  by_cases hv : v1 < 0 ∨ M 0 1641 ≤ v1
  · rw [if_pos hv] at ei e2
    refine aok_ref 2 (by decide) sb sm (fun V2 er sr => ?_) (fun M2 M3 ei2 er2 => ?_)
    · simp only [f_X2_heatLamp, ei, er, bsm, if_true, if_false, ite_self, i10, i01, ite01, ite10, true_or, or_true, false_or, or_false, leN, ite_not, not_true_eq_false, not_false_eq_true]
    · simp only [f_X12_heat, f_X12_heat_j18, f_X12_heat_j72, em, e2, ei2, er2, bsm, if_true, if_false, ite_self, i10, i01, ite01, ite10, true_or, or_true, false_or, or_false, leN, ite_not, not_true_eq_false, not_false_eq_true]
  · rw [if_neg hv] at ei e2
    obtain ⟨t, ht, rfl, htl⟩ := thing_of hgg hv
    have ekk := c_isKind 2 hgg ht
    have t0 : f_X12_thingIs (Int32.ofNat t) 0 M1 = some (M 0 (732 + 5 * t)) := by rw [← m0]; exact m_thingIs (c := 0) ht (by omega)
    have i2 := is_no 2 hf0
    have i4 := is_no 4 hf0
    have i7 := is_no 7 hf0
    by_cases hk : M 0 (732 + 5 * t) = 2
    · rw [if_pos hk] at ekk
      by_cases hw : v2 < 0 ∨ 80000 < v2
      · refine aok_ref 7 (by decide) sb sm (fun V2 er sr => ?_) (fun M2 M3 ei2 er2 => ?_)
        · rcases hw with hw | hw
          all_goals simp only [f_X2_heatLamp, f_X2_heatLamp_j51, ei, ekk, hw, er, bsm, if_true, if_false, ite_self, i10, i01, ite01, ite10, true_or, or_true, false_or, or_false, leN, ite_not, not_true_eq_false, not_false_eq_true]
        · rcases hw with hw | hw
          all_goals simp only [f_X12_heat, f_X12_heat_j18, f_X12_heat_j41, f_X12_heat_j64, f_X12_heat_j72, em, e2, i2, t0, eq_true hk, i4, in_eq, hw, ei2, er2, bsm, if_true, if_false, ite_self, i10, i01, ite01, ite10, true_or, or_true, false_or, or_false, leN, ite_not, not_true_eq_false, not_false_eq_true]
      · have w1 : ¬ v2 < 0 := fun q => hw (Or.inl q)
        have w2 : ¬ 80000 < v2 := fun q => hw (Or.inr q)
        have hx := rg_of (hi := 80000) (by omega) w1 w2
        have g5 : f_X7_get 720 80 8 (Int32.ofNat t) 5 V = some (M 0 (732 + 5 * t + 4)) := by rw [← hgg.1.rh t ht]; exact tget (c := 5) ht (by omega)
        have es : f_X7_set 720 80 8 (Int32.ofNat t) 5 v2 V = f_X4_write (Int32.ofNat (720 + 8 * t + 5)) v2 V := sthing (c := 5) v2 ht (by omega)
        obtain ⟨V2, ew, sw, -⟩ := st_write (c := 720 + 8 * t + 5) v2 sb (by omega) (by omega)
        have v0 : V2 0 = upd (V 0) (720 + 8 * t + 5) v2 := sw.2.1
        have sm2 := ms_put (k := 732 + 5 * t + 4) v2 sm (by omega)
        have m20 : u2 M1 0 (732 + 5 * t + 4) v2 0 = upd (M 0) (732 + 5 * t + 4) v2 := sm2.1
        have hmid : GG (999 + 1) (upd (V 0) (720 + 8 * t + 5) v2) (upd (M 0) (732 + 5 * t + 4) v2) := gg_heat2 (gg_999 hgg hn) ht hk hx wh_1000
        have g6 : f_X7_get 720 80 8 (Int32.ofNat t) 6 V2 = some (V 0 (720 + 8 * t + 6)) := by
          have : f_X7_get 720 80 8 (Int32.ofNat t) 6 V2 = some (V2 0 (720 + 8 * t + 6)) := tget (c := 6) ht (by omega)
          rw [this, v0, upd_ne (by omega)]
        have t4 : f_X12_thingIs (Int32.ofNat t) 4 M1 = some (M 0 (732 + 5 * t + 4)) := by rw [← m0]; exact m_thingIs (c := 4) ht (by omega)
        have ek : ckA 1646 ((732 : Int32) + 5 * Int32.ofNat t + 4) = some (732 + 5 * t + 4) := ck_lit (by rw [Int32.ofNat_add, Int32.ofNat_add, Int32.ofNat_mul]; rfl) (by omega) (by omega)
        have hold : ∀ b p, b < 12 → p < 16 → (∀ q, q < 16 → M 0 (21 * b + 5 + q) ≠ Int32.ofNat (2 + t)) → ¬ scP (upd (M 0) (732 + 5 * t + 4) v2) b p := by
          intro b p hb hp hnt
          rintro ⟨⟨t2, ht2, x1, x2⟩, k, hk5, k2, k3, u, hu, x3, x4⟩
          rw [upd_ne (by omega)] at x1
          rw [upd_ne (by omega)] at x3
          rw [upd_ne (by omega)] at x2
          have hut : u ≠ t := fun e => by subst e; exact hnt _ k3 x3
          rw [upd_ne (by omega)] at x4
          exact no_sc hgg (by omega) hb hp ⟨⟨t2, ht2, x1, x2⟩, k, hk5, k2, k3, u, hu, x3, x4⟩
        have done : (∀ b p, b < 12 → p < 16 → ¬ scP (upd (M 0) (732 + 5 * t + 4) v2) b p) → f_X5_leastTooHot (V 0 (720 + 8 * t + 6)) V2 = some (-1000000000) → f_X12_scorched (u2 M1 0 (732 + 5 * t + 4) v2) = some (-1) → AO n O B M M1 (noJ (f_X2_heatLamp (Int32.ofNat t) v2) V J) (f_X12_heat (Int32.ofNat t) v2 M) := by
          intro hno x1 x2
          have i14 : f_X12_is 0 14 (u2 M1 0 (732 + 5 * t + 4) v2) = some (0, u2 M1 0 (732 + 5 * t + 4) v2) := is_no 14 sm2.2.2.2.1
          have nn : (-1 : Int32) < 0 := by decide
          refine aok_done (r := M 0 (732 + 5 * t + 4)) sw sm2 ?_ ?_ (gg_heat2 hgg ht hk hx (wh_of hmid hno))
          · simp only [f_X2_heatLamp, ei, ekk, w1, w2, g5, es, ew, g6, x1, bsm, if_true, if_false, ite_self, i10, i01, ite01, ite10, true_or, or_true, false_or, or_false, leN, ite_not, not_true_eq_false, not_false_eq_true]
          · simp only [f_X12_heat, f_X12_heat_j18, f_X12_heat_j41, f_X12_heat_j64, f_X12_heat_j116, em, e2, i2, t0, eq_true hk, i4, in_eq, w1, w2, i7, t4, ek, x2, nn, i14, bsm, if_true, if_false, ite_self, i10, i01, ite01, ite10, true_or, or_true, false_or, or_false, leN, ite_not, not_true_eq_false, not_false_eq_true]
        rcases hgg.1.rp t ht htl with ⟨x1, x2, hl⟩ | ⟨b, p, hb, hp, x1, x2, hat, -, hun⟩
        · have hall : ∀ b p, b < 12 → p < 16 → ¬ scP (upd (M 0) (732 + 5 * t + 4) v2) b p := fun b p hb hp => hold b p hb hp (fun q hq => by have := hl b q hb hq; rw [ctS_at hb hq] at this; exact this)
          refine done hall ?_ ?_
          · rw [x1]; exact c_tooHot_out (Or.inl (by decide))
          · have := m_scorched (M := u2 M1 0 (732 + 5 * t + 4) v2) (B := 0) (by rw [m20]; exact hmid) (by omega) (fun b p hb hp _ => by rw [m20]; exact hall b p hb hp)
            rw [m20, mhm_no (fun p hp => hall 0 p (by omega) hp) 16 (by omega)] at this
            exact this
        · have oth : ∀ b2 p2, b2 < 12 → p2 < 16 → b2 ≠ b → ¬ scP (upd (M 0) (732 + 5 * t + 4) v2) b2 p2 := fun b2 p2 hb2 hp2 hne => hold b2 p2 hb2 hp2 (fun q hq e => by
            have := hun b2 q hb2 hq (by rw [ctS_at hb2 hq]; exact e)
            rcases this.2 with y | ⟨y, -⟩
            · exact hne y
            · rw [hk] at y; exact absurd y (by decide))
          have eh := c_tooHot (V := V2) (by rw [v0]; exact hmid) hb
          have es2 := m_scorched (M := u2 M1 0 (732 + 5 * t + 4) v2) (B := b) (by rw [m20]; exact hmid) hb (fun b2 p2 h2 h3 h4 => by rw [m20]; exact oth b2 p2 h2 h3 h4)
          rw [m20] at es2
          rw [← x1] at eh
          have hlt := mhm_lt (m := none) hmid hb (fun a ha => by cases ha) 16 (by omega)
          cases hm : mhm (upd (M 0) (732 + 5 * t + 4) v2) b none 16 with
          | none =>
            rw [hm] at eh es2
            refine done (fun b2 p2 h2 h3 => ?_) eh es2
            by_cases e : b2 = b
            · subst e; exact mhm_none 16 hm p2 h3
            · exact oth b2 p2 h2 h3 e
          | some a =>
            have ha := hlt a hm
            rw [hm] at eh es2
            have eh : f_X5_leastTooHot (V 0 (720 + 8 * t + 6)) V2 = some (Int32.ofNat a) := eh
            have es2 : f_X12_scorched (u2 M1 0 (732 + 5 * t + 4) v2) = some (Int32.ofNat a) := es2
            obtain ⟨V3, er, sr⟩ := st_refuse 14 (Int32.ofNat a) sw
            have na : ¬ Int32.ofNat a = (-1000000000 : Int32) := none_ne (by omega)
            have nn : ¬ Int32.ofNat a < 0 := nat_nneg (by omega)
            refine aok_back 14 (Int32.ofNat a) (by decide) sr (noJ_eq (r := -1000000000) ?_) sm2 (fun M3 M4 ei2 e4 => ?_)
            · simp only [f_X2_heatLamp, ei, ekk, w1, w2, g5, es, ew, g6, eh, na, er, bsm, if_true, if_false, ite_self, i10, i01, ite01, ite10, true_or, or_true, false_or, or_false, leN, ite_not, not_true_eq_false, not_false_eq_true]
            · simp only [f_X12_heat, f_X12_heat_j18, f_X12_heat_j41, f_X12_heat_j64, f_X12_heat_j116, em, e2, i2, t0, eq_true hk, i4, in_eq, w1, w2, i7, t4, ek, es2, nn, ei2, e4, bsm, if_true, if_false, ite_self, i10, i01, ite01, ite10, true_or, or_true, false_or, or_false, leN, ite_not, not_true_eq_false, not_false_eq_true]
    · rw [if_neg hk] at ekk
      refine aok_ref 4 (by decide) sb sm (fun V2 er sr => ?_) (fun M2 M3 ei2 er2 => ?_)
      · simp only [f_X2_heatLamp, ei, ekk, er, bsm, if_true, if_false, ite_self, i10, i01, ite01, ite10, true_or, or_true, false_or, or_false, leN, ite_not, not_true_eq_false, not_false_eq_true]
      · simp only [f_X12_heat, f_X12_heat_j18, f_X12_heat_j41, f_X12_heat_j72, em, e2, i2, t0, hk, ei2, er2, bsm, if_true, if_false, ite_self, i10, i01, ite01, ite10, true_or, or_true, false_or, or_false, leN, ite_not, not_true_eq_false, not_false_eq_true]
theorem o_heat : O_heat (IG GG) := fun _ _ _ _ _ v1 v2 hn hI => aok_run (aok_heat v1 v2) hn hI aok_nF
