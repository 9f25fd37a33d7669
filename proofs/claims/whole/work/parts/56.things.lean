/-! things: readers, where they hang; of, told, stop -/
theorem tget {V : VT} {t c : Nat} (ht : t < 80) (hc : c < 8) : f_X7_get 720 80 8 (Int32.ofNat t) (Int32.ofNat c) V = some (V 0 (720 + 8 * t + c)) := gthing ht hc
theorem m_thingIs {M : VT} {t c : Nat} (ht : t < 80) (hc : c < 5) : f_X12_thingIs (Int32.ofNat t) (Int32.ofNat c) M = some (M 0 (732 + 5 * t + c)) := by
  unfold f_X12_thingIs
  rw [show (732 : Int32) + 5 * Int32.ofNat t + Int32.ofNat c = Int32.ofNat (732 + 5 * t + c) by rw [Int32.ofNat_add, Int32.ofNat_add, Int32.ofNat_mul]; rfl, ck_nat (by omega) (by omega), bsm]
theorem c_isThing {n : Nat} {V : VT} {S : AT} (v : Int32) (h : GG n (V 0) S) : f_X3_isThing v V = some (if v < 0 ∨ S 1641 ≤ v then 0 else 1) := by
  have e : f_X7_get 1868 1 6 0 1 V = some (S 1641) := nget (i := 1) h (by omega)
  unfold f_X3_isThing f_X3_isThing_j21
  by_cases h1 : v < 0
  · rw [if_pos h1, if_pos (Or.inl h1)]
  · rw [if_neg h1, e, bsm]
    by_cases h2 : S 1641 ≤ v
    · rw [if_pos h2, if_pos (Or.inr h2)]
    · rw [if_neg h2, if_neg (fun q => q.elim h1 h2)]
theorem m_isTold {M : VT} (v : Int32) : f_X12_isTold v M = some (if v < 0 ∨ M 0 1641 ≤ v then 0 else 1) := by
  have e : ckA 1646 (1641 : Int32) = some 1641 := ck_lit (k := 1641) rfl (by omega) (by omega)
  unfold f_X12_isTold f_X12_isTold_j20
  by_cases h1 : v < 0
  · rw [if_pos h1, if_pos (Or.inl h1)]
  · rw [if_neg h1, e, bsm]
    by_cases h2 : M 0 1641 ≤ v
    · rw [if_pos h2, if_pos (Or.inr h2)]
    · rw [if_neg h2, if_neg (fun q => q.elim h1 h2)]
theorem thing_of {n : Nat} {C S : AT} {v : Int32} (h : GG n C S) (hv : ¬ (v < 0 ∨ S 1641 ≤ v)) : ∃ t : Nat, t < 80 ∧ v = Int32.ofNat t ∧ Int32.ofNat t < S 1641 := by
  obtain ⟨m, m1, m2, m3⟩ := h.2.wn1
  have q1 : ¬ v < 0 := fun q => hv (Or.inl q)
  have q2 : ¬ S 1641 ≤ v := fun q => hv (Or.inr q)
  rcases rng m (by omega) v with ⟨c, hc, e⟩ | hh
  · refine ⟨c, by omega, e, ?_⟩
    rw [← e]; exact nle_lt q2
  · rw [← m3] at hh; exact absurd hh (fun q => q.elim q1 q2)
theorem ctS_at {S : AT} {b p : Nat} (hb : b < 12) (hp : p < 16) : ctS S b p = S (21 * b + 5 + p) := by unfold ctS; rw [if_pos ⟨hb, hp⟩]
/-- a bar that holds something in a place is rigged and has the place -/
theorem full_rig {n : Nat} {C S : AT} {b p : Nat} (h : GG n C S) (hb : b < 12) (hp : p < 16) (h0 : ¬ S (21 * b + 5 + p) = 0) : S (21 * b) = 1 ∧ ∃ P : Nat, 2 ≤ P ∧ P ≤ 16 ∧ p < P ∧ S (21 * b + 1) = Int32.ofNat P := by
  have h1 : S (21 * b) = 1 := by
    refine (h.2.wb0 b hb).resolve_left (fun q => h0 (h.2.wb3 b p hb hp ?_))
    rw [h.2.wbp b hb q]; exact nlt_le (nat_nneg (by omega))
  obtain ⟨P, p1, p2, p3⟩ := h.2.wb2 b hb h1
  refine ⟨h1, P, p1, p2, Classical.byContradiction (fun q => h0 (h.2.wb3 b p hb hp ?_)), p3⟩
  rw [p3]; exact (nat_le (by omega) (by omega)).mpr (by omega)
theorem two_plus {t : Nat} : (2 : Int32) + Int32.ofNat t = Int32.ofNat (2 + t) := (Int32.ofNat_add 2 t).symm
theorem thing_ne0 {x : Int32} {t : Nat} (ht : t < 80) (h : x = Int32.ofNat (2 + t)) : ¬ x = 0 := by
  rw [h]; exact fun e => ne_thing (Or.inl rfl) ht e.symm
theorem m_placeOn_no {M : VT} {b t P : Nat} (hb : b < 12) (hP : P ≤ 16) (hS : M 0 (21 * b + 1) = Int32.ofNat P) (hn : ∀ p, p < P → ¬ M 0 (21 * b + 5 + p) = Int32.ofNat (2 + t)) : f_X12_placeOn (Int32.ofNat b) (Int32.ofNat t) M = some (-1) := by
  have ep := m_places (M := M) hb
  rw [hS] at ep
  unfold f_X12_placeOn
  rw [bsm]
  refine lp_iter (fun i => Int32.ofNat i) P 0 fuel (fun i _ hi => ?_) ?_ (fuel_big (by omega))
  · have n1 : ¬ Int32.ofNat P ≤ Int32.ofNat i := fun q => by have := (nat_le (by omega) (by omega)).mp q; omega
    have eh := m_held (M := M) hb (p := i) (by omega)
    simp only [f_X12_placeOn_B2, ep, bsm, n1, if_false, eh, two_plus, hn i (by omega), nat_succ]
  · rw [Nat.zero_add]
    simp only [f_X12_placeOn_B2, ep, bsm, Int32.le_refl, if_true]
theorem m_placeOn_yes {M : VT} {b t P p : Nat} (hb : b < 12) (hP : P ≤ 16) (hS : M 0 (21 * b + 1) = Int32.ofNat P) (hp : p < P) (h1 : M 0 (21 * b + 5 + p) = Int32.ofNat (2 + t)) (hn : ∀ q, q < p → ¬ M 0 (21 * b + 5 + q) = Int32.ofNat (2 + t)) : f_X12_placeOn (Int32.ofNat b) (Int32.ofNat t) M = some (Int32.ofNat p) := by
  have ep := m_places (M := M) hb
  rw [hS] at ep
  unfold f_X12_placeOn
  rw [bsm]
  refine lp_iter (fun i => Int32.ofNat i) p 0 fuel (fun i _ hi => ?_) ?_ (fuel_big (by omega))
  · have n1 : ¬ Int32.ofNat P ≤ Int32.ofNat i := fun q => by have := (nat_le (by omega) (by omega)).mp q; omega
    have eh := m_held (M := M) hb (p := i) (by omega)
    simp only [f_X12_placeOn_B2, ep, bsm, n1, if_false, eh, two_plus, hn i (by omega), nat_succ]
  · rw [Nat.zero_add]
    have n1 : ¬ Int32.ofNat P ≤ Int32.ofNat p := fun q => by have := (nat_le (by omega) (by omega)).mp q; omega
    have eh := m_held (M := M) hb (p := p) (by omega)
    simp only [f_X12_placeOn_B2, ep, bsm, n1, if_false, eh, two_plus, eq_true h1, if_true]
theorem places_any {n : Nat} {C S : AT} {b : Nat} (h : GG n C S) (hb : b < 12) : ∃ P : Nat, P ≤ 16 ∧ S (21 * b + 1) = Int32.ofNat P := by
  rcases h.2.wb0 b hb with q | q
  · exact ⟨0, by omega, h.2.wbp b hb q⟩
  · obtain ⟨P, -, p2, p3⟩ := h.2.wb2 b hb q
    exact ⟨P, p2, p3⟩
/-- where the reference finds a thing -/
theorem m_barWith {n : Nat} {C : AT} {M : VT} {t : Nat} {k tb tp : Int32} (h : GG n C (M 0)) (ht : t < 80) (hu : Hung (ctS (M 0)) k tb tp t) : f_X12_barWith (Int32.ofNat t) M = some tb ∧ (tb = -1000000000 ∧ tp = -1000000000 ∧ (∀ b p, b < 12 → p < 16 → ¬ (M 0) (21 * b + 5 + p) = Int32.ofNat (2 + t)) ∨ ∃ b p : Nat, b < 12 ∧ p < 16 ∧ tb = Int32.ofNat b ∧ tp = Int32.ofNat p ∧ (M 0) (21 * b + 5 + p) = Int32.ofNat (2 + t) ∧ (k = 4 → b + 1 < 12 ∧ (M 0) (21 * (b + 1) + 5 + p) = Int32.ofNat (2 + t)) ∧ (∀ b2 p2, b2 < 12 → p2 < 16 → (M 0) (21 * b2 + 5 + p2) = Int32.ofNat (2 + t) → p2 = p ∧ (b2 = b ∨ (k = 4 ∧ b2 = b + 1))) ∧ f_X12_placeOn (Int32.ofNat b) (Int32.ofNat t) M = some (Int32.ofNat p)) := by
  have step : ∀ b, b < 12 → (∀ p, p < 16 → ¬ (M 0) (21 * b + 5 + p) = Int32.ofNat (2 + t)) → f_X12_barWith_B2 (Int32.ofNat t) M (Int32.ofNat b) = some (.inl (Int32.ofNat (b + 1))) := by
    intro b hb hno
    have n1 : ¬ (12 : Int32) ≤ Int32.ofNat b := fun q => by have := (nat_le (a := 12) (by omega) (by omega)).mp q; omega
    have er := m_rigged (M := M) hb
    obtain ⟨P, hP, hS⟩ := places_any h hb
    have ep := m_placeOn_no (M := M) hb hP hS (fun p hp => hno p (by omega))
    have nn : (-1 : Int32) < 0 := by decide
    by_cases q : (M 0) (21 * b) = 1
    · rw [if_pos q] at er
      simp only [f_X12_barWith_B2, f_X12_barWith_j27, n1, if_false, er, bsm, i10, ep, nn, if_true, nat_succ]
    · rw [if_neg q] at er
      simp only [f_X12_barWith_B2, f_X12_barWith_j27, n1, if_false, er, bsm, if_true, nat_succ]
  rcases hu with ⟨e1, e2, hno⟩ | ⟨b, p, hb, hp, e1, e2, hc, hk, hun⟩
  · have hno : ∀ b p, b < 12 → p < 16 → ¬ (M 0) (21 * b + 5 + p) = Int32.ofNat (2 + t) := fun b p hb hp => by have := hno b p hb hp; rw [ctS_at hb hp] at this; exact this
    refine ⟨?_, Or.inl ⟨e1, e2, hno⟩⟩
    unfold f_X12_barWith
    rw [bsm, e1]
    refine lp_iter (fun i => Int32.ofNat i) 12 0 fuel (fun i _ hi => step i (by omega) (fun p hp => hno i p (by omega) hp)) ?_ (fuel_big (by omega))
    rw [Nat.zero_add]
    have n1 : (12 : Int32) ≤ Int32.ofNat 12 := by decide
    simp only [f_X12_barWith_B2, n1, if_true, bsm]
  · rw [ctS_at hb hp] at hc
    have hun : ∀ b2 p2, b2 < 12 → p2 < 16 → (M 0) (21 * b2 + 5 + p2) = Int32.ofNat (2 + t) → p2 = p ∧ (b2 = b ∨ (k = 4 ∧ b2 = b + 1)) := fun b2 p2 h2 h3 q => hun b2 p2 h2 h3 (by rw [ctS_at h2 h3]; exact q)
    have hk : k = 4 → b + 1 < 12 ∧ (M 0) (21 * (b + 1) + 5 + p) = Int32.ofNat (2 + t) := fun q => by
      obtain ⟨x, y⟩ := hk q
      rw [ctS_at x hp] at y; exact ⟨x, y⟩
    obtain ⟨h1, P, -, hP, hpP, hS⟩ := full_rig h hb hp (thing_ne0 ht hc)
    have ep := m_placeOn_yes (M := M) hb hP hS hpP hc (fun q hq e => by have := (hun b q hb (by omega) e).1; omega)
    refine ⟨?_, Or.inr ⟨b, p, hb, hp, e1, e2, hc, hk, hun, ep⟩⟩
    unfold f_X12_barWith
    rw [bsm, e1]
    refine lp_iter (fun i => Int32.ofNat i) b 0 fuel (fun i _ hi => step i (by omega) (fun q hq e => by have := (hun i q (by omega) hq e).2; omega)) ?_ (fuel_big (by omega))
    rw [Nat.zero_add]
    have n1 : ¬ (12 : Int32) ≤ Int32.ofNat b := fun q => by have := (nat_le (a := 12) (by omega) (by omega)).mp q; omega
    have er := m_rigged (M := M) hb
    rw [if_pos h1] at er
    have nn : ¬ Int32.ofNat p < 0 := nat_nneg (by omega)
    simp only [f_X12_barWith_B2, n1, if_false, er, bsm, i10, ep, nn]
theorem hung_no {b : Nat} (hb : b < 12) : ¬ Int32.ofNat b = (-1000000000 : Int32) := by
  intro e
  have h1 := congrArg Int32.toInt e
  rw [ti_nat (by omega), show (-1000000000 : Int32).toInt = -1000000000 by decide] at h1
  omega
/-! burden -/
theorem c_burden {V : VT} {t e : Nat} {k : Int32} (ht : t < 80) (e3 : V 0 (720 + 8 * t + 3) = Int32.ofNat e) (he : e ≤ 400000) (e0 : V 0 (720 + 8 * t) = k) : f_X10_burden (Int32.ofNat t) V = some (burd k (Int32.ofNat e)) := by
  have g3 : f_X7_get 720 80 8 (Int32.ofNat t) 3 V = some (Int32.ofNat e) := by rw [← e3]; exact tget (c := 3) ht (by omega)
  have g0 : f_X7_get 720 80 8 (Int32.ofNat t) 0 V = some k := by rw [← e0]; exact tget (c := 0) ht (by omega)
  have h1 := fv_half he
  have h2 := fv_burd (k := 4) he
  have c1 := ck_notnan (wk_nan h1)
  have c2 := fv_ck h2
  unfold burd at c2
  rw [if_pos rfl] at c2
  unfold f_X10_burden burd
  rw [g3, bsm, c1, bsm, g0, bsm]
  by_cases q : k = 4
  · rw [if_pos q, if_pos q, c2, bsm]
  · rw [if_neg q, if_neg q]
theorem m_burden {M : VT} {t e : Nat} {k : Int32} (ht : t < 80) (e3 : M 0 (732 + 5 * t + 3) = Int32.ofNat e) (he : e ≤ 400000) (e0 : M 0 (732 + 5 * t) = k) : f_X12_burden (Int32.ofNat t) M = some (burd k (Int32.ofNat e)) := by
  have g3 : f_X12_thingIs (Int32.ofNat t) 3 M = some (Int32.ofNat e) := by rw [← e3]; exact m_thingIs (c := 3) ht (by omega)
  have g0 : f_X12_thingIs (Int32.ofNat t) 0 M = some k := by rw [← e0]; exact m_thingIs (c := 0) ht (by omega)
  have h1 := fv_half he
  have h2 := fv_burd (k := 4) he
  have c1 := ck_notnan (wk_nan h1)
  have c2 := fv_ck h2
  unfold burd at c2
  rw [if_pos rfl] at c2
  unfold f_X12_burden burd
  rw [g3, bsm, c1, bsm, g0, bsm]
  by_cases q : k = 4
  · rw [if_pos q, if_pos q, c2, bsm]
  · rw [if_neg q, if_neg q]
theorem m_grams {n : Nat} {C : AT} {M : VT} {t : Nat} (h : GG n C (M 0)) (ht : t < 80) (htl : Int32.ofNat t < M 0 1641) : f_X12_grams (Int32.ofNat t) M = some (C (720 + 8 * t + 4)) := by
  obtain ⟨e, -, he, e3⟩ := h.2.wt3 t ht htl
  unfold f_X12_grams
  rw [m_burden ht e3 he rfl, bsm, h.1.rg t ht htl, e3]
theorem hot_iff {n : Nat} {C S : AT} {t : Nat} (h : GG n C S) (ht : t < 80) (htl : Int32.ofNat t < S 1641) : (S (732 + 5 * t) = 2 ∧ ¬ S (732 + 5 * t + 4) ≤ 0) ↔ ¬ S (732 + 5 * t + 4) ≤ 0 := by
  constructor
  · exact fun q => q.2
  · intro q
    refine ⟨(h.2.wt4 t ht htl).2.resolve_left (fun e => q ?_), q⟩
    rw [e]; exact Int32.le_refl _
theorem m_isHot {n : Nat} {C : AT} {M : VT} {t : Nat} (h : GG n C (M 0)) (ht : t < 80) (htl : Int32.ofNat t < M 0 1641) : f_X12_isHot (Int32.ofNat t) M = some (if M 0 (732 + 5 * t + 4) ≤ 0 then 0 else 1) := by
  have g0 : f_X12_thingIs (Int32.ofNat t) 0 M = some (M 0 (732 + 5 * t)) := m_thingIs (c := 0) ht (by omega)
  have g4 : f_X12_thingIs (Int32.ofNat t) 4 M = some (M 0 (732 + 5 * t + 4)) := m_thingIs (c := 4) ht (by omega)
  unfold f_X12_isHot f_X12_isHot_j23
  rw [g0, bsm]
  by_cases q : M 0 (732 + 5 * t) = 2
  · rw [if_pos q, g4, bsm]
    by_cases q2 : M 0 (732 + 5 * t + 4) ≤ 0
    · rw [if_pos q2, if_pos q2]
    · rw [if_neg q2, if_neg q2]
  · rw [if_neg q]
    have q2 : M 0 (732 + 5 * t + 4) ≤ 0 := Classical.byContradiction (fun p => q ((hot_iff h ht htl).mpr p).1)
    rw [if_pos q2]
theorem o_of : O_of (IG GG) := by
  intro n V J dd M v1 v2 hn hI
  have hI2 := ig_skip gg_ok n V J dd M hn hI
  have hgg := ig_gg hI
  have ei := c_isThing v1 hgg
  have em := m_isTold (M := M) v1
  by_cases hv : v1 < 0 ∨ (M 0) 1641 ≤ v1
  · rw [if_pos hv] at ei em
    refine ⟨-1000000000, -1000000000, ?_, ?_, rfl, hI2⟩
    · unfold f_X11_of; rw [ei, bsm, if_pos rfl]
    · unfold f_X12_of; rw [em, bsm, if_pos rfl]
  · rw [if_neg hv] at ei em
    obtain ⟨t, ht, rfl, htl⟩ := thing_of hgg hv
    obtain ⟨ebw, hcase⟩ := m_barWith hgg ht (hgg.1.rp t ht htl)
    have ec : ∀ v2, f_X11_of (Int32.ofNat t) v2 V = (if v2 = 0 then ((f_X7_get 720 80 8 (Int32.ofNat t) (0 : Int32) V).bind fun r2 =>
  some (r2)) else if v2 = 1 then ((f_X7_get 720 80 8 (Int32.ofNat t) (1 : Int32) V).bind fun r3 =>
  some (r3)) else if v2 = 2 then ((f_X7_get 720 80 8 (Int32.ofNat t) (2 : Int32) V).bind fun r4 =>
  some (r4)) else if v2 = 3 then ((f_X7_get 720 80 8 (Int32.ofNat t) (6 : Int32) V).bind fun r5 =>
  some (r5)) else if v2 = 4 then ((f_X7_get 720 80 8 (Int32.ofNat t) (7 : Int32) V).bind fun r6 =>
  some (r6)) else if v2 = 5 then ((f_X7_get 720 80 8 (Int32.ofNat t) (4 : Int32) V).bind fun r7 =>
  some (r7)) else if v2 = 6 then ((f_X7_get 720 80 8 (Int32.ofNat t) (5 : Int32) V).bind fun r8 =>
  if r8 ≤ 0 then (some ((0 : Int32))) else (some ((1 : Int32)))) else (some ((-1000000000 : Int32)))) := by
      intro v2; unfold f_X11_of; rw [ei, bsm, if_neg (by decide)]
    have g0 : f_X7_get 720 80 8 (Int32.ofNat t) 0 V = some (M 0 (732 + 5 * t)) := by rw [← hgg.1.rt0 t ht]; exact tget (c := 0) ht (by omega)
    have g1 : f_X7_get 720 80 8 (Int32.ofNat t) 1 V = some (M 0 (732 + 5 * t + 1)) := by rw [← hgg.1.rt1 t ht]; exact tget (c := 1) ht (by omega)
    have g2 : f_X7_get 720 80 8 (Int32.ofNat t) 2 V = some (M 0 (732 + 5 * t + 2)) := by rw [← hgg.1.rt2 t ht]; exact tget (c := 2) ht (by omega)
    have g5 : f_X7_get 720 80 8 (Int32.ofNat t) 5 V = some (M 0 (732 + 5 * t + 4)) := by rw [← hgg.1.rh t ht]; exact tget (c := 5) ht (by omega)
    have g4 : f_X7_get 720 80 8 (Int32.ofNat t) 4 V = some (V 0 (720 + 8 * t + 4)) := tget (c := 4) ht (by omega)
    have g6 : f_X7_get 720 80 8 (Int32.ofNat t) 6 V = some (V 0 (720 + 8 * t + 6)) := tget (c := 6) ht (by omega)
    have g7 : f_X7_get 720 80 8 (Int32.ofNat t) 7 V = some (V 0 (720 + 8 * t + 7)) := tget (c := 7) ht (by omega)
    have t0 : f_X12_thingIs (Int32.ofNat t) 0 M = some (M 0 (732 + 5 * t)) := m_thingIs (c := 0) ht (by omega)
    have t1 : f_X12_thingIs (Int32.ofNat t) 1 M = some (M 0 (732 + 5 * t + 1)) := m_thingIs (c := 1) ht (by omega)
    have t2 : f_X12_thingIs (Int32.ofNat t) 2 M = some (M 0 (732 + 5 * t + 2)) := m_thingIs (c := 2) ht (by omega)
    have tg := m_grams hgg ht htl
    have th := m_isHot hgg ht htl
    have hofm : f_X12_of (Int32.ofNat t) v2 M = (if v2 = 0 then ((f_X12_thingIs (Int32.ofNat t) (0 : Int32) M).bind fun r3 =>
  some (r3)) else if v2 = 1 then ((f_X12_thingIs (Int32.ofNat t) (1 : Int32) M).bind fun r4 =>
  some (r4)) else if v2 = 2 then ((f_X12_thingIs (Int32.ofNat t) (2 : Int32) M).bind fun r5 =>
  some (r5)) else if v2 = 3 then (some (V 0 (720 + 8 * t + 6))) else if v2 = 4 then (if V 0 (720 + 8 * t + 6) = (-1000000000 : Int32) then (some ((-1000000000 : Int32))) else ((f_X12_placeOn (V 0 (720 + 8 * t + 6)) (Int32.ofNat t) M).bind fun r6 =>
  some (r6))) else if v2 = 5 then ((f_X12_grams (Int32.ofNat t) M).bind fun r7 =>
  some (r7)) else if v2 = 6 then ((f_X12_isHot (Int32.ofNat t) M).bind fun r8 =>
  if r8 = 0 then (some ((0 : Int32))) else (some ((1 : Int32)))) else (some ((-1000000000 : Int32)))) := by
      unfold f_X12_of; rw [em, bsm, if_neg (by decide), ebw, bsm]
    by_cases c0 : v2 = 0
    · refine ⟨M 0 (732 + 5 * t), M 0 (732 + 5 * t), ?_, ?_, rfl, hI2⟩
      · rw [ec, if_pos c0, g0, bsm]
      · rw [hofm, if_pos c0, t0, bsm]
    by_cases c1 : v2 = 1
    · refine ⟨M 0 (732 + 5 * t + 1), M 0 (732 + 5 * t + 1), ?_, ?_, rfl, hI2⟩
      · rw [ec, if_neg c0, if_pos c1, g1, bsm]
      · rw [hofm, if_neg c0, if_pos c1, t1, bsm]
    by_cases c2 : v2 = 2
    · refine ⟨M 0 (732 + 5 * t + 2), M 0 (732 + 5 * t + 2), ?_, ?_, rfl, hI2⟩
      · rw [ec, if_neg c0, if_neg c1, if_pos c2, g2, bsm]
      · rw [hofm, if_neg c0, if_neg c1, if_pos c2, t2, bsm]
    by_cases c3 : v2 = 3
    · refine ⟨V 0 (720 + 8 * t + 6), V 0 (720 + 8 * t + 6), ?_, ?_, rfl, hI2⟩
      · rw [ec, if_neg c0, if_neg c1, if_neg c2, if_pos c3, g6, bsm]
      · rw [hofm, if_neg c0, if_neg c1, if_neg c2, if_pos c3]
    by_cases c4 : v2 = 4
    · refine ⟨V 0 (720 + 8 * t + 7), V 0 (720 + 8 * t + 7), ?_, ?_, rfl, hI2⟩
      · rw [ec, if_neg c0, if_neg c1, if_neg c2, if_neg c3, if_pos c4, g7, bsm]
      · rw [hofm, if_neg c0, if_neg c1, if_neg c2, if_neg c3, if_pos c4]
        rcases hcase with ⟨x1, x2, -⟩ | ⟨b, p, hb, hp, x1, x2, -, -, -, ep⟩
        · rw [x1, x2, if_pos rfl]
        · rw [x1, x2, if_neg (hung_no hb), ep, bsm]
    by_cases c5 : v2 = 5
    · refine ⟨V 0 (720 + 8 * t + 4), V 0 (720 + 8 * t + 4), ?_, ?_, rfl, hI2⟩
      · rw [ec, if_neg c0, if_neg c1, if_neg c2, if_neg c3, if_neg c4, if_pos c5, g4, bsm]
      · rw [hofm, if_neg c0, if_neg c1, if_neg c2, if_neg c3, if_neg c4, if_pos c5, tg, bsm]
    by_cases c6 : v2 = 6
    · refine ⟨if M 0 (732 + 5 * t + 4) ≤ 0 then 0 else 1, if M 0 (732 + 5 * t + 4) ≤ 0 then 0 else 1, ?_, ?_, rfl, hI2⟩
      · rw [ec, if_neg c0, if_neg c1, if_neg c2, if_neg c3, if_neg c4, if_neg c5, if_pos c6, g5, bsm]
        by_cases q : M 0 (732 + 5 * t + 4) ≤ 0
        · rw [if_pos q, if_pos q]
        · rw [if_neg q, if_neg q]
      · rw [hofm, if_neg c0, if_neg c1, if_neg c2, if_neg c3, if_neg c4, if_neg c5, if_pos c6, th, bsm]
        by_cases q : M 0 (732 + 5 * t + 4) ≤ 0
        · rw [if_pos q, if_pos rfl]
        · rw [if_neg q, if_neg (by decide)]
    · refine ⟨-1000000000, -1000000000, ?_, ?_, rfl, hI2⟩
      · rw [ec, if_neg c0, if_neg c1, if_neg c2, if_neg c3, if_neg c4, if_neg c5, if_neg c6]
      · rw [hofm, if_neg c0, if_neg c1, if_neg c2, if_neg c3, if_neg c4, if_neg c5, if_neg c6]
