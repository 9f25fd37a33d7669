/-! strike, thing -/
theorem hung_iff {ct ct2 : Nat → Nat → Int32} {k tb tp : Int32} {t : Nat} (h : Hung ct k tb tp t) (hc : ∀ b p, b < 12 → p < 16 → (ct2 b p = Int32.ofNat (2 + t) ↔ ct b p = Int32.ofNat (2 + t))) : Hung ct2 k tb tp t := by
  rcases h with ⟨e1, e2, hno⟩ | ⟨b, p, hb, hp, e1, e2, hcc, hk, hun⟩
  · exact Or.inl ⟨e1, e2, fun b p hb hp q => hno b p hb hp ((hc b p hb hp).mp q)⟩
  · refine Or.inr ⟨b, p, hb, hp, e1, e2, (hc b p hb hp).mpr hcc, fun q => ?_, fun b2 p2 h2 h3 q => hun b2 p2 h2 h3 ((hc b2 p2 h2 h3).mp q)⟩
    obtain ⟨x, y⟩ := hk q
    exact ⟨x, (hc (b + 1) p x hp).mpr y⟩
theorem thing_inj {t u : Nat} (ht : t < 80) (hu : u < 80) (h : Int32.ofNat (2 + t) = Int32.ofNat (2 + u)) : t = u := by
  have := (nat_eq (by omega) (by omega)).mp h
  omega
theorem gg_strike {n : Nat} {C C2 S S2 : AT} (h0 : GG n C S) (uC : ∀ j, (∀ b p : Nat, b < 12 → p < 16 → j ≠ 48 + 16 * b + p) → (∀ t : Nat, t < 80 → j ≠ 720 + 8 * t + 6) → (∀ t : Nat, t < 80 → j ≠ 720 + 8 * t + 7) → C j = C2 j) (uS : ∀ j, (∀ b p : Nat, b < 12 → p < 16 → j ≠ 21 * b + 5 + p) → S j = S2 j) (a_rc : R_rc C2 S2) (a_rp : R_rp C2 S2) (a_wb3 : W_wb3 (n + 1) S2) (a_wb5 : W_wb5 (n + 1) S2) (a_wh : W_wh (n + 1) S2) : GG (n + 1) C2 S2 := by
  have h := gg_ok.1 _ _ _ h0
  exact ⟨⟨R_rb0_rg (fun b _ => uC (4 * b) (fun _ _ _ _ => by omega) (fun _ _ => by omega) (fun _ _ => by omega)) (fun b _ => uS (21 * b + 1) (fun _ _ _ _ => by omega)) h.1.rb0, R_rb1_rg (fun b _ => uC (4 * b + 1) (fun _ _ _ _ => by omega) (fun _ _ => by omega) (fun _ _ => by omega)) (fun b _ => uS (21 * b + 2) (fun _ _ _ _ => by omega)) h.1.rb1, R_rb2_rg (fun b _ => uC (4 * b + 2) (fun _ _ _ _ => by omega) (fun _ _ => by omega) (fun _ _ => by omega)) (fun b _ => uS (21 * b + 3) (fun _ _ _ _ => by omega)) h.1.rb2, R_rb3_rg (fun b _ => uC (4 * b + 3) (fun _ _ _ _ => by omega) (fun _ _ => by omega) (fun _ _ => by omega)) (fun b _ => uS (21 * b + 4) (fun _ _ _ _ => by omega)) h.1.rb3, a_rc, R_rl0_rg (fun l _ => uC (240 + 12 * l) (fun _ _ _ _ => by omega) (fun _ _ => by omega) (fun _ _ => by omega)) (fun l _ => uS (252 + 12 * l) (fun _ _ _ _ => by omega)) h.1.rl0, R_rl1_rg (fun l _ => uC (240 + 12 * l + 1) (fun _ _ _ _ => by omega) (fun _ _ => by omega) (fun _ _ => by omega)) (fun l _ => uS (252 + 12 * l + 1) (fun _ _ _ _ => by omega)) h.1.rl1, R_rl2_rg (fun l _ => uC (240 + 12 * l + 2) (fun _ _ _ _ => by omega) (fun _ _ => by omega) (fun _ _ => by omega)) (fun l _ => uS (252 + 12 * l + 2) (fun _ _ _ _ => by omega)) h.1.rl2, R_rl3_rg (fun l _ => uC (240 + 12 * l + 3) (fun _ _ _ _ => by omega) (fun _ _ => by omega) (fun _ _ => by omega)) (fun l _ => uS (252 + 12 * l + 3) (fun _ _ _ _ => by omega)) h.1.rl3, R_rls_rg (fun l i _ _ => uC (240 + 12 * l + 4 + i) (fun _ _ _ _ => by omega) (fun _ _ => by omega) (fun _ _ => by omega)) (fun l i _ _ => uS (252 + 12 * l + 4 + i) (fun _ _ _ _ => by omega)) h.1.rls, R_rt0_rg (fun t _ => uC (720 + 8 * t) (fun _ _ _ _ => by omega) (fun _ _ => by omega) (fun _ _ => by omega)) (fun t _ => uS (732 + 5 * t) (fun _ _ _ _ => by omega)) h.1.rt0, R_rt1_rg (fun t _ => uC (720 + 8 * t + 1) (fun _ _ _ _ => by omega) (fun _ _ => by omega) (fun _ _ => by omega)) (fun t _ => uS (732 + 5 * t + 1) (fun _ _ _ _ => by omega)) h.1.rt1, R_rt2_rg (fun t _ => uC (720 + 8 * t + 2) (fun _ _ _ _ => by omega) (fun _ _ => by omega) (fun _ _ => by omega)) (fun t _ => uS (732 + 5 * t + 2) (fun _ _ _ _ => by omega)) h.1.rt2, R_rt3_rg (fun t _ => uC (720 + 8 * t + 3) (fun _ _ _ _ => by omega) (fun _ _ => by omega) (fun _ _ => by omega)) (fun t _ => uS (732 + 5 * t + 3) (fun _ _ _ _ => by omega)) h.1.rt3, R_rh_rg (fun t _ => uC (720 + 8 * t + 5) (fun _ _ _ _ => by omega) (fun _ _ => by omega) (fun _ _ => by omega)) (fun t _ => uS (732 + 5 * t + 4) (fun _ _ _ _ => by omega)) h.1.rh, R_rf_rg (fun k _ => uC (1360 + k) (fun _ _ _ _ => by omega) (fun _ _ => by omega) (fun _ _ => by omega)) (fun k _ => uS (1432 + k) (fun _ _ _ _ => by omega)) h.1.rf, R_rq0_rg (fun c _ => uC (1368 + 5 * c) (fun _ _ _ _ => by omega) (fun _ _ => by omega) (fun _ _ => by omega)) (fun c _ => uS (1132 + 5 * c) (fun _ _ _ _ => by omega)) h.1.rq0, R_rq1_rg (fun c _ => uC (1368 + 5 * c + 1) (fun _ _ _ _ => by omega) (fun _ _ => by omega) (fun _ _ => by omega)) (fun c _ => uS (1132 + 5 * c + 1) (fun _ _ _ _ => by omega)) h.1.rq1, R_rq2_rg (fun c _ => uC (1368 + 5 * c + 2) (fun _ _ _ _ => by omega) (fun _ _ => by omega) (fun _ _ => by omega)) (fun c _ => uS (1132 + 5 * c + 2) (fun _ _ _ _ => by omega)) h.1.rq2, R_rq3_rg (fun c _ => uC (1368 + 5 * c + 3) (fun _ _ _ _ => by omega) (fun _ _ => by omega) (fun _ _ => by omega)) (fun c _ => uS (1132 + 5 * c + 3) (fun _ _ _ _ => by omega)) h.1.rq3, R_rq4_rg (fun c _ => uC (1368 + 5 * c + 4) (fun _ _ _ _ => by omega) (fun _ _ => by omega) (fun _ _ => by omega)) (fun c _ => uS (1132 + 5 * c + 4) (fun _ _ _ _ => by omega)) h.1.rq4, R_rn0_rg (uC (1868) (fun _ _ _ _ => by omega) (fun _ _ => by omega) (fun _ _ => by omega)) (uS (1640) (fun _ _ _ _ => by omega)) h.1.rn0, R_rn1_rg (uC (1869) (fun _ _ _ _ => by omega) (fun _ _ => by omega) (fun _ _ => by omega)) (uS (1641) (fun _ _ _ _ => by omega)) h.1.rn1, R_rn2_rg (uC (1870) (fun _ _ _ _ => by omega) (fun _ _ => by omega) (fun _ _ => by omega)) (uS (1642) (fun _ _ _ _ => by omega)) h.1.rn2, R_rn3_rg (uC (1871) (fun _ _ _ _ => by omega) (fun _ _ => by omega) (fun _ _ => by omega)) (uS (1643) (fun _ _ _ _ => by omega)) h.1.rn3, R_rn4_rg (uC (1872) (fun _ _ _ _ => by omega) (fun _ _ => by omega) (fun _ _ => by omega)) (uS (1644) (fun _ _ _ _ => by omega)) h.1.rn4, R_rn5_rg (uC (1873) (fun _ _ _ _ => by omega) (fun _ _ => by omega) (fun _ _ => by omega)) (uS (1645) (fun _ _ _ _ => by omega)) h.1.rn5, R_rg_rg (uS (1641) (fun _ _ _ _ => by omega)) (fun t _ => uS (732 + 5 * t) (fun _ _ _ _ => by omega)) (fun t _ => uS (732 + 5 * t + 3) (fun _ _ _ _ => by omega)) (fun t _ => uC (720 + 8 * t + 4) (fun _ _ _ _ => by omega) (fun _ _ => by omega) (fun _ _ => by omega)) h.1.rg, a_rp, R_rs_rg (uS (1643) (fun _ _ _ _ => by omega)) (fun k _ => uS (1440 + k) (fun _ _ _ _ => by omega)) (fun k _ => uC (1668 + k) (fun _ _ _ _ => by omega) (fun _ _ => by omega) (fun _ _ => by omega)) h.1.rs⟩, ⟨W_wn0_rg (uS (1640) (fun _ _ _ _ => by omega)) h.2.wn0, W_wn1_rg (uS (1641) (fun _ _ _ _ => by omega)) h.2.wn1, W_wn2_rg (uS (1642) (fun _ _ _ _ => by omega)) h.2.wn2, W_wn3_rg (uS (1643) (fun _ _ _ _ => by omega)) h.2.wn3, W_wn4_rg (uS (1644) (fun _ _ _ _ => by omega)) h.2.wn4, W_wn5_rg (uS (1645) (fun _ _ _ _ => by omega)) h.2.wn5, W_wb0_rg (fun b _ => uS (21 * b) (fun _ _ _ _ => by omega)) h.2.wb0, W_wbp_rg (fun b _ => uS (21 * b) (fun _ _ _ _ => by omega)) (fun b _ => uS (21 * b + 1) (fun _ _ _ _ => by omega)) h.2.wbp, W_wbg_rg (fun b _ => uS (21 * b) (fun _ _ _ _ => by omega)) (fun b _ => uS (21 * b + 2) (fun _ _ _ _ => by omega)) h.2.wbg, W_wbh_rg (fun b _ => uS (21 * b) (fun _ _ _ _ => by omega)) (fun b _ => uS (21 * b + 3) (fun _ _ _ _ => by omega)) h.2.wbh, W_wbk_rg (fun b _ => uS (21 * b) (fun _ _ _ _ => by omega)) (fun b _ => uS (21 * b + 4) (fun _ _ _ _ => by omega)) h.2.wbk, W_wb2_rg (fun b _ => uS (21 * b) (fun _ _ _ _ => by omega)) (fun b _ => uS (21 * b + 1) (fun _ _ _ _ => by omega)) h.2.wb2, W_wb2g_rg (fun b _ => uS (21 * b) (fun _ _ _ _ => by omega)) (fun b _ => uS (21 * b + 2) (fun _ _ _ _ => by omega)) h.2.wb2g, a_wb3, W_wb4_rg (fun b _ => uS (21 * b + 3) (fun _ _ _ _ => by omega)) h.2.wb4, W_wb4k_rg (fun b _ => uS (21 * b + 4) (fun _ _ _ _ => by omega)) h.2.wb4k, a_wb5, W_wl0_rg (uS (1640) (fun _ _ _ _ => by omega)) (fun l _ => uS (252 + 12 * l + 3) (fun _ _ _ _ => by omega)) h.2.wl0, W_wla_rg (uS (1640) (fun _ _ _ _ => by omega)) (fun l _ => uS (252 + 12 * l) (fun _ _ _ _ => by omega)) h.2.wla, W_wlb_rg (uS (1640) (fun _ _ _ _ => by omega)) (fun l _ => uS (252 + 12 * l + 1) (fun _ _ _ _ => by omega)) h.2.wlb, W_wlc_rg (uS (1640) (fun _ _ _ _ => by omega)) (fun l _ => uS (252 + 12 * l + 2) (fun _ _ _ _ => by omega)) h.2.wlc, W_wld_rg (uS (1640) (fun _ _ _ _ => by omega)) (fun l _ => uS (252 + 12 * l + 3) (fun _ _ _ _ => by omega)) h.2.wld, W_wl2_rg (uS (1640) (fun _ _ _ _ => by omega)) (fun l _ => uS (252 + 12 * l + 2) (fun _ _ _ _ => by omega)) (fun l i _ _ => uS (252 + 12 * l + 4 + i) (fun _ _ _ _ => by omega)) h.2.wl2, W_wl4_rg (fun l _ => uS (252 + 12 * l + 3) (fun _ _ _ _ => by omega)) (fun l _ => uS (252 + 12 * l) (fun _ _ _ _ => by omega)) (fun l _ => uS (252 + 12 * l + 1) (fun _ _ _ _ => by omega)) h.2.wl4, W_wt0_rg (uS (1641) (fun _ _ _ _ => by omega)) (fun t _ => uS (732 + 5 * t) (fun _ _ _ _ => by omega)) h.2.wt0, W_wt1_rg (uS (1641) (fun _ _ _ _ => by omega)) (fun t _ => uS (732 + 5 * t + 1) (fun _ _ _ _ => by omega)) h.2.wt1, W_wt2_rg (uS (1641) (fun _ _ _ _ => by omega)) (fun t _ => uS (732 + 5 * t + 2) (fun _ _ _ _ => by omega)) h.2.wt2, W_wt3_rg (uS (1641) (fun _ _ _ _ => by omega)) (fun t _ => uS (732 + 5 * t + 3) (fun _ _ _ _ => by omega)) h.2.wt3, W_wt4_rg (uS (1641) (fun _ _ _ _ => by omega)) (fun t _ => uS (732 + 5 * t + 4) (fun _ _ _ _ => by omega)) (fun t _ => uS (732 + 5 * t) (fun _ _ _ _ => by omega)) h.2.wt4, W_wqa_rg (uS (1642) (fun _ _ _ _ => by omega)) (fun c _ => uS (1132 + 5 * c) (fun _ _ _ _ => by omega)) h.2.wqa, W_wqb_rg (uS (1642) (fun _ _ _ _ => by omega)) (fun c _ => uS (1132 + 5 * c + 1) (fun _ _ _ _ => by omega)) h.2.wqb, W_wqc_rg (uS (1642) (fun _ _ _ _ => by omega)) (fun c _ => uS (1132 + 5 * c + 2) (fun _ _ _ _ => by omega)) h.2.wqc, W_wqd_rg (uS (1642) (fun _ _ _ _ => by omega)) (fun c _ => uS (1132 + 5 * c + 3) (fun _ _ _ _ => by omega)) h.2.wqd, W_wqe_rg (uS (1642) (fun _ _ _ _ => by omega)) (fun c _ => uS (1132 + 5 * c + 4) (fun _ _ _ _ => by omega)) h.2.wqe, W_wq2_rg (uS (1642) (fun _ _ _ _ => by omega)) (fun c _ => uS (1132 + 5 * c) (fun _ _ _ _ => by omega)) (fun b _ => uS (21 * b) (fun _ _ _ _ => by omega)) (fun c _ => uS (1132 + 5 * c + 4) (fun _ _ _ _ => by omega)) (fun c _ => uS (1132 + 5 * c + 2) (fun _ _ _ _ => by omega)) (fun c _ => uS (1132 + 5 * c + 3) (fun _ _ _ _ => by omega)) (uS (1645) (fun _ _ _ _ => by omega)) h.2.wq2, W_wf_rg (fun k _ => uS (1432 + k) (fun _ _ _ _ => by omega)) h.2.wf, a_wh⟩⟩
/-- a thing is taken down: where it was is free behind it -/
theorem gg_strike2 {n t b p : Nat} {C S C2 S2 : AT} (h : GG n C S) (ht : t < 80) (htl : Int32.ofNat t < S 1641) (hb : b < 12) (hp : p < 16) (hat : S (21 * b + 5 + p) = Int32.ofNat (2 + t)) (hk : S (732 + 5 * t) = 4 → b + 1 < 12 ∧ S (21 * (b + 1) + 5 + p) = Int32.ofNat (2 + t)) (hun : ∀ b2 p2, b2 < 12 → p2 < 16 → S (21 * b2 + 5 + p2) = Int32.ofNat (2 + t) → p2 = p ∧ (b2 = b ∨ (S (732 + 5 * t) = 4 ∧ b2 = b + 1)))
  (c6 : C2 (720 + 8 * t + 6) = -1000000000) (c7 : C2 (720 + 8 * t + 7) = -1000000000) (cn : ∀ j, j ≠ 720 + 8 * t + 6 → j ≠ 720 + 8 * t + 7 → (∀ c q, c < 12 → q < 16 → j ≠ 48 + 16 * c + q) → C2 j = C j) (sn : ∀ j, (∀ c q, c < 12 → q < 16 → j ≠ 21 * c + 5 + q) → S2 j = S j)
  (cc : ∀ c q, c < 12 → q < 16 → C2 (48 + 16 * c + q) = S2 (21 * c + 5 + q)) (sc : ∀ c q, c < 12 → q < 16 → S2 (21 * c + 5 + q) = if S (21 * c + 5 + q) = Int32.ofNat (2 + t) then 0 else S (21 * c + 5 + q)) : GG (n + 1) C2 S2 := by
  have key : ∀ c q u, c < 12 → q < 16 → u < 80 → S2 (21 * c + 5 + q) = Int32.ofNat (2 + u) → S (21 * c + 5 + q) = Int32.ofNat (2 + u) ∧ u ≠ t := by
    intro c q u hc hq hu e
    rw [sc c q hc hq] at e
    by_cases g : S (21 * c + 5 + q) = Int32.ofNat (2 + t)
    · rw [if_pos g] at e
      exact absurd e (ne_thing (Or.inl rfl) hu)
    · rw [if_neg g] at e
      exact ⟨e, fun q => g (by rw [← q]; exact e)⟩
  refine gg_strike h (fun j h0 h1 h2 => (cn j (h1 t ht) (h2 t ht) h0).symm) (fun j h0 => (sn j h0).symm) cc ?_ ?_ ?_ ?_
  · intro u hu q
    rw [sn 1641 (by intros; omega)] at q
    rw [sn (732 + 5 * u) (by intros; omega)]
    by_cases e : u = t
    · subst e
      rw [c6, c7]
      refine Or.inl ⟨rfl, rfl, fun c q hc hq e => ?_⟩
      rw [ctS_at hc hq] at e
      exact (key c q u hc hq hu e).2 rfl
    · rw [cn _ (by omega) (by omega) (by intros; omega), cn _ (by omega) (by omega) (by intros; omega)]
      refine hung_iff (h.1.rp u hu q) (fun c q hc hq => ?_)
      rw [ctS_at hc hq, ctS_at hc hq]
      constructor
      · exact fun g => (key c q u hc hq hu g).1
      · intro g
        rw [sc c q hc hq, if_neg (fun x => e (thing_inj hu ht (g.symm.trans x)))]; exact g
  · intro c q hc hq hle
    rw [sn (21 * c + 1) (by intros; omega)] at hle
    rw [sc c q hc hq]
    have := h.2.wb3 c q hc hq hle
    rw [this]
    split <;> rfl
  · intro c q hc hq
    rw [sc c q hc hq, sn 1641 (by intros; omega)]
    by_cases g : S (21 * c + 5 + q) = Int32.ofNat (2 + t)
    · rw [if_pos g]; exact Or.inl rfl
    · rw [if_neg g]; exact h.2.wb5 c q hc hq
  · intro c q r u v hc hq hr g1 g2 hu hv hn1 e1 e2 e3
    rw [sn _ (by intros; omega)] at e3 ⊢
    exact h.2.wh c q r u v hc hq hr g1 g2 hu hv (by omega) (key c q u hc hq hu e1).1 (key c r v hc hr hv e2).1 e3
theorem c_isKind {n : Nat} {V : VT} {S : AT} {t : Nat} (v : Int32) (h : GG n (V 0) S) (ht : t < 80) : f_X3_isKind (Int32.ofNat t) v V = some (if S (732 + 5 * t) = v then 1 else 0) := by
  have g0 : f_X7_get 720 80 8 (Int32.ofNat t) 0 V = some (S (732 + 5 * t)) := by rw [← h.1.rt0 t ht]; exact tget (c := 0) ht (by omega)
  unfold f_X3_isKind
  rw [g0, bsm]
  by_cases q : S (732 + 5 * t) = v
  · rw [if_pos q, if_pos q]
  · rw [if_neg q, if_neg q]
theorem aok_strike (v1 : Int32) : AOK (noJ (f_X2_takeDown v1)) (f_X12_strike v1) := by
  intro n O B V J M M1 hn sb hgg em sm
  have hf0 : M1 7 2 = 0 := sm.2.2.2.1
  have m0 : M1 0 = M 0 := sm.1
  have ei := c_isThing v1 hgg
  have e2 := m_isTold (M := M1) v1
  rw [m0] at e2
  by_cases hv : v1 < 0 ∨ M 0 1641 ≤ v1
  · rw [if_pos hv] at ei e2
    refine aok_ref 2 (by decide) sb sm (fun V2 er sr => ?_) (fun M2 M3 ei2 er2 => ?_)
    · simp only [f_X2_takeDown, ei, er, bsm, if_true, if_false, ite_self, i10, i01, ite01, ite10, true_or, or_true, false_or, or_false, leN, ite_not, not_true_eq_false, not_false_eq_true]
    · simp only [f_X12_strike, f_X12_strike_j18, f_X12_strike_j49, em, e2, ei2, er2, bsm, if_true, if_false, ite_self, i10, i01, ite01, ite10, true_or, or_true, false_or, or_false, leN, ite_not, not_true_eq_false, not_false_eq_true]
  · rw [if_neg hv] at ei e2
    obtain ⟨t, ht, rfl, htl⟩ := thing_of hgg hv
    obtain ⟨ebw, hcase⟩ := m_barWith (M := M1) (k := M 0 (732 + 5 * t)) (tb := V 0 (720 + 8 * t + 6)) (tp := V 0 (720 + 8 * t + 7)) (by rw [m0]; exact hgg) ht (by rw [m0]; exact hgg.1.rp t ht htl)
    rw [m0] at hcase
    have g6 : f_X7_get 720 80 8 (Int32.ofNat t) 6 V = some (V 0 (720 + 8 * t + 6)) := tget (c := 6) ht (by omega)
    have g7 : f_X7_get 720 80 8 (Int32.ofNat t) 7 V = some (V 0 (720 + 8 * t + 7)) := tget (c := 7) ht (by omega)
    have i2 := is_no 2 hf0
    have i9 := is_no 9 hf0
    have i10' := is_no 10 hf0
    rcases hcase with ⟨x1, x2, -⟩ | ⟨b, p, hb, hp, x1, x2, hat, hk4, hun, epo⟩
    · rw [x1] at ebw g6
      refine aok_ref 9 (by decide) sb sm (fun V2 er sr => ?_) (fun M2 M3 ei2 er2 => ?_)
      · simp only [f_X2_takeDown, f_X3_hangs, ei, g6, er, bsm, if_true, if_false, ite_self, i10, i01, ite01, ite10, true_or, or_true, false_or, or_false, leN, ite_not, not_true_eq_false, not_false_eq_true]
      · simp only [f_X12_strike, f_X12_strike_j18, f_X12_strike_j41, f_X12_strike_j49, em, e2, i2, ebw, ei2, er2, bsm, if_true, if_false, ite_self, i10, i01, ite01, ite10, true_or, or_true, false_or, or_false, leN, ite_not, not_true_eq_false, not_false_eq_true]
    · rw [x1] at ebw g6
      rw [x2] at g7
      have hnn := eq_false (hung_no hb)
      have ekk := c_isKind 4 hgg ht
      have t0 : f_X12_thingIs (Int32.ofNat t) 0 M1 = some (M 0 (732 + 5 * t)) := by rw [← m0]; exact m_thingIs (c := 0) ht (by omega)
      have hi1 := c_isHigh hgg hb
      have mh1 := m_height (M := M1) hb
      rw [m0] at mh1
      have sw6 : ∀ x V, f_X7_set 720 80 8 (Int32.ofNat t) 6 x V = f_X4_write (Int32.ofNat (720 + 8 * t + 6)) x V := fun x V => sthing (c := 6) x ht (by omega)
      have sw7 : ∀ x V, f_X7_set 720 80 8 (Int32.ofNat t) 7 x V = f_X4_write (Int32.ofNat (720 + 8 * t + 7)) x V := fun x V => sthing (c := 7) x ht (by omega)
      have sc1 : ∀ x V, f_X7_set 48 12 16 (Int32.ofNat b) (Int32.ofNat p) x V = f_X4_write (Int32.ofNat (48 + 16 * b + p)) x V := fun x V => scon x hb hp
      have mp1 : ∀ M : VT, f_X12_put (Int32.ofNat b) (Int32.ofNat p) 0 M = some (u2 M 0 (21 * b + 5 + p) 0) := fun M => m_put 0 hb hp
      obtain ⟨W1, ew1, s1, -⟩ := st_write (c := 48 + 16 * b + p) 0 sb (by omega) (by omega)
      have r1 := ms_put (k := 21 * b + 5 + p) 0 sm (by omega)
      by_cases hk : M 0 (732 + 5 * t) = 4
      · obtain ⟨hb1, hat1⟩ := hk4 hk
        rw [if_pos hk] at ekk
        have hi2 := c_isHigh hgg hb1
        have mh2 := m_height (M := M1) hb1
        rw [m0] at mh2
        by_cases hh : M 0 (21 * b + 3) = 0 ∧ M 0 (21 * (b + 1) + 3) = 0
        · rw [if_pos hh.1] at hi1
          rw [if_pos hh.2] at hi2
          have sc2 : ∀ x V, f_X7_set 48 12 16 (Int32.ofNat (b + 1)) (Int32.ofNat p) x V = f_X4_write (Int32.ofNat (48 + 16 * (b + 1) + p)) x V := fun x V => scon x hb1 hp
          have mp2 : ∀ M : VT, f_X12_put (Int32.ofNat (b + 1)) (Int32.ofNat p) 0 M = some (u2 M 0 (21 * (b + 1) + 5 + p) 0) := fun M => m_put 0 hb1 hp
          obtain ⟨W2, ew2, s2, -⟩ := st_write (c := 48 + 16 * (b + 1) + p) 0 s1 (by omega) (by omega)
          obtain ⟨W3, ew3, s3, -⟩ := st_write (c := 720 + 8 * t + 6) (-1000000000) s2 (by omega) (by omega)
          obtain ⟨W4, ew4, s4, -⟩ := st_write (c := 720 + 8 * t + 7) (-1000000000) s3 (by omega) (by omega)
          have r2 := ms_put (k := 21 * (b + 1) + 5 + p) 0 r1 (by omega)
          refine aok_done (r := Int32.ofNat p) s4 r2 ?_ ?_ ?_
          · simp only [f_X2_takeDown, f_X2_takeDown_j74, f_X3_hangs, ei, g6, hnn, ekk, nat_succ, hi1, hi2, g7, sc1, ew1, sc2, ew2, sw6, ew3, sw7, ew4, bsm, if_true, if_false, ite_self, i10, i01, ite01, ite10, true_or, or_true, false_or, or_false, leN, ite_not, not_true_eq_false, not_false_eq_true]
          · simp only [f_X12_strike_j49, f_X12_strike_j147, f_X12_strike_j113, f_X12_strike_j108, f_X12_strike_j112, f_X12_strike_j82, f_X12_strike_j41, f_X12_strike_j18, f_X12_strike, em, e2, i2, ebw, hnn, i9, epo, t0, hk, mh1, hh.1, nat_succ, mh2, hh.2, i10', mp1, mp2, bsm, if_true, if_false, ite_self, i10, i01, ite01, ite10, true_or, or_true, false_or, or_false, leN, ite_not, not_true_eq_false, not_false_eq_true]
          · refine gg_strike2 hgg ht htl hb hp hat hk4 hun ?_ ?_ ?_ ?_ ?_ ?_
            · rw [upd_ne (by omega), upd_same]
            · rw [upd_same]
            · intro j a1 a2 a3
              have a4 := a3 b p hb hp
              have a5 := a3 (b + 1) p hb1 hp
              rw [upd_ne a2, upd_ne a1, upd_ne a5, upd_ne a4]
            · intro j a1
              rw [upd_ne (a1 (b + 1) p hb1 hp), upd_ne (a1 b p hb hp)]
            · intro c q hc hq
              rw [upd_ne (by omega), upd_ne (by omega)]
              by_cases g1 : c = b + 1 ∧ q = p
              · obtain ⟨rfl, rfl⟩ := g1; rw [upd_same, upd_same]
              · rw [upd_ne (j := 48 + 16 * c + q) (by omega), upd_ne (j := 21 * c + 5 + q) (by omega)]
                by_cases g2 : c = b ∧ q = p
                · obtain ⟨rfl, rfl⟩ := g2; rw [upd_same, upd_same]
                · rw [upd_ne (j := 48 + 16 * c + q) (by omega), upd_ne (j := 21 * c + 5 + q) (by omega)]; exact hgg.1.rc c q hc hq
            · intro c q hc hq
              by_cases g1 : c = b + 1 ∧ q = p
              · obtain ⟨rfl, rfl⟩ := g1; rw [upd_same, if_pos hat1]
              · rw [upd_ne (by omega)]
                by_cases g2 : c = b ∧ q = p
                · obtain ⟨rfl, rfl⟩ := g2; rw [upd_same, if_pos hat]
                · rw [upd_ne (by omega), if_neg (fun e => by
                    have := hun c q hc hq e
                    rcases this with ⟨y1, y2 | ⟨-, y2⟩⟩
                    · exact g2 ⟨y2, y1⟩
                    · exact g1 ⟨y2, y1⟩)]
        · refine aok_ref 10 (by decide) sb sm (fun V2 er sr => ?_) (fun M2 M3 ei2 er2 => ?_)
          · by_cases ha : M 0 (21 * b + 3) = 0
            · have hbb : ¬ M 0 (21 * (b + 1) + 3) = 0 := fun q => hh ⟨ha, q⟩
              rw [if_pos ha] at hi1
              rw [if_neg hbb] at hi2
              simp only [f_X2_takeDown, f_X2_takeDown_j74, f_X2_takeDown_j97, f_X3_hangs, ei, g6, hnn, ekk, nat_succ, hi1, hi2, er, bsm, if_true, if_false, ite_self, i10, i01, ite01, ite10, true_or, or_true, false_or, or_false, leN, ite_not, not_true_eq_false, not_false_eq_true]
            · rw [if_neg ha] at hi1
              simp only [f_X2_takeDown, f_X2_takeDown_j74, f_X2_takeDown_j97, f_X3_hangs, ei, g6, hnn, ekk, nat_succ, hi1, er, bsm, if_true, if_false, ite_self, i10, i01, ite01, ite10, true_or, or_true, false_or, or_false, leN, ite_not, not_true_eq_false, not_false_eq_true]
          · by_cases ha : M 0 (21 * b + 3) = 0
            · have hbb : ¬ M 0 (21 * (b + 1) + 3) = 0 := fun q => hh ⟨ha, q⟩
              simp only [f_X12_strike_j49, f_X12_strike_j147, f_X12_strike_j113, f_X12_strike_j108, f_X12_strike_j112, f_X12_strike_j82, f_X12_strike_j41, f_X12_strike_j18, f_X12_strike, em, e2, i2, ebw, hnn, i9, epo, t0, hk, mh1, ha, nat_succ, mh2, hbb, ei2, er2, bsm, if_true, if_false, ite_self, i10, i01, ite01, ite10, true_or, or_true, false_or, or_false, leN, ite_not, not_true_eq_false, not_false_eq_true]
            · simp only [f_X12_strike_j49, f_X12_strike_j147, f_X12_strike_j113, f_X12_strike_j108, f_X12_strike_j112, f_X12_strike_j82, f_X12_strike_j41, f_X12_strike_j18, f_X12_strike, em, e2, i2, ebw, hnn, i9, epo, t0, hk, mh1, ha, ei2, er2, bsm, if_true, if_false, ite_self, i10, i01, ite01, ite10, true_or, or_true, false_or, or_false, leN, ite_not, not_true_eq_false, not_false_eq_true]
      · rw [if_neg hk] at ekk
        by_cases hh : M 0 (21 * b + 3) = 0
        · rw [if_pos hh] at hi1
          obtain ⟨W2, ew2, s2, -⟩ := st_write (c := 48 + 16 * b + p) 0 s1 (by omega) (by omega)
          obtain ⟨W3, ew3, s3, -⟩ := st_write (c := 720 + 8 * t + 6) (-1000000000) s2 (by omega) (by omega)
          obtain ⟨W4, ew4, s4, -⟩ := st_write (c := 720 + 8 * t + 7) (-1000000000) s3 (by omega) (by omega)
          refine aok_done (r := Int32.ofNat p) s4 r1 ?_ ?_ ?_
          · simp only [f_X2_takeDown, f_X2_takeDown_j74, f_X3_hangs, ei, g6, hnn, ekk, hi1, g7, sc1, ew1, ew2, sw6, ew3, sw7, ew4, bsm, if_true, if_false, ite_self, i10, i01, ite01, ite10, true_or, or_true, false_or, or_false, leN, ite_not, not_true_eq_false, not_false_eq_true]
          · simp only [f_X12_strike_j49, f_X12_strike_j147, f_X12_strike_j113, f_X12_strike_j108, f_X12_strike_j112, f_X12_strike_j82, f_X12_strike_j41, f_X12_strike_j18, f_X12_strike, em, e2, i2, ebw, hnn, i9, epo, t0, hk, mh1, hh, i10', mp1, bsm, if_true, if_false, ite_self, i10, i01, ite01, ite10, true_or, or_true, false_or, or_false, leN, ite_not, not_true_eq_false, not_false_eq_true]
          · refine gg_strike2 hgg ht htl hb hp hat hk4 hun ?_ ?_ ?_ ?_ ?_ ?_
            · rw [upd_ne (by omega), upd_same]
            · rw [upd_same]
            · intro j a1 a2 a3
              have a4 := a3 b p hb hp
              rw [upd_ne a2, upd_ne a1, upd_ne a4, upd_ne a4]
            · intro j a1
              rw [upd_ne (a1 b p hb hp)]
            · intro c q hc hq
              rw [upd_ne (by omega), upd_ne (by omega)]
              by_cases g2 : c = b ∧ q = p
              · obtain ⟨rfl, rfl⟩ := g2; rw [upd_same, upd_same]
              · rw [upd_ne (by omega), upd_ne (by omega), upd_ne (by omega)]; exact hgg.1.rc c q hc hq
            · intro c q hc hq
              by_cases g2 : c = b ∧ q = p
              · obtain ⟨rfl, rfl⟩ := g2; rw [upd_same, if_pos hat]
              · rw [upd_ne (by omega), if_neg (fun e => by
                  have := hun c q hc hq e
                  rcases this with ⟨y1, y2 | ⟨y3, -⟩⟩
                  · exact g2 ⟨y2, y1⟩
                  · exact hk y3)]
        · rw [if_neg hh] at hi1
          refine aok_ref 10 (by decide) sb sm (fun V2 er sr => ?_) (fun M2 M3 ei2 er2 => ?_)
          · simp only [f_X2_takeDown, f_X2_takeDown_j74, f_X2_takeDown_j97, f_X3_hangs, ei, g6, hnn, ekk, hi1, er, bsm, if_true, if_false, ite_self, i10, i01, ite01, ite10, true_or, or_true, false_or, or_false, leN, ite_not, not_true_eq_false, not_false_eq_true]
          · simp only [f_X12_strike_j49, f_X12_strike_j147, f_X12_strike_j113, f_X12_strike_j108, f_X12_strike_j112, f_X12_strike_j82, f_X12_strike_j41, f_X12_strike_j18, f_X12_strike, em, e2, i2, ebw, hnn, i9, epo, t0, hk, mh1, hh, ei2, er2, bsm, if_true, if_false, ite_self, i10, i01, ite01, ite10, true_or, or_true, false_or, or_false, leN, ite_not, not_true_eq_false, not_false_eq_true]
theorem o_strike : O_strike (IG GG) := fun _ _ _ _ _ v1 hn hI => aok_run (aok_strike v1) hn hI aok_nF
/-! thing -/
theorem gg_thing {n : Nat} {C C2 S S2 : AT} (h0 : GG n C S) (uC : ∀ j, j ≠ 1869 → (∀ t : Nat, t < 80 → j ≠ 720 + 8 * t) → (∀ t : Nat, t < 80 → j ≠ 720 + 8 * t + 1) → (∀ t : Nat, t < 80 → j ≠ 720 + 8 * t + 2) → (∀ t : Nat, t < 80 → j ≠ 720 + 8 * t + 3) → (∀ t : Nat, t < 80 → j ≠ 720 + 8 * t + 4) → (∀ t : Nat, t < 80 → j ≠ 720 + 8 * t + 5) → (∀ t : Nat, t < 80 → j ≠ 720 + 8 * t + 6) → (∀ t : Nat, t < 80 → j ≠ 720 + 8 * t + 7) → C j = C2 j) (uS : ∀ j, j ≠ 1641 → (∀ t : Nat, t < 80 → j ≠ 732 + 5 * t) → (∀ t : Nat, t < 80 → j ≠ 732 + 5 * t + 1) → (∀ t : Nat, t < 80 → j ≠ 732 + 5 * t + 2) → (∀ t : Nat, t < 80 → j ≠ 732 + 5 * t + 3) → (∀ t : Nat, t < 80 → j ≠ 732 + 5 * t + 4) → S j = S2 j) (a_rt0 : R_rt0 C2 S2) (a_rt1 : R_rt1 C2 S2) (a_rt2 : R_rt2 C2 S2) (a_rt3 : R_rt3 C2 S2) (a_rh : R_rh C2 S2) (a_rn1 : R_rn1 C2 S2) (a_rg : R_rg C2 S2) (a_rp : R_rp C2 S2) (a_wn1 : W_wn1 (n + 1) S2) (a_wb5 : W_wb5 (n + 1) S2) (a_wt0 : W_wt0 (n + 1) S2) (a_wt1 : W_wt1 (n + 1) S2) (a_wt2 : W_wt2 (n + 1) S2) (a_wt3 : W_wt3 (n + 1) S2) (a_wt4 : W_wt4 (n + 1) S2) (a_wh : W_wh (n + 1) S2) : GG (n + 1) C2 S2 := by
  have h := gg_ok.1 _ _ _ h0
  exact ⟨⟨R_rb0_rg (fun b _ => uC (4 * b) (by omega) (fun _ _ => by omega) (fun _ _ => by omega) (fun _ _ => by omega) (fun _ _ => by omega) (fun _ _ => by omega) (fun _ _ => by omega) (fun _ _ => by omega) (fun _ _ => by omega)) (fun b _ => uS (21 * b + 1) (by omega) (fun _ _ => by omega) (fun _ _ => by omega) (fun _ _ => by omega) (fun _ _ => by omega) (fun _ _ => by omega)) h.1.rb0, R_rb1_rg (fun b _ => uC (4 * b + 1) (by omega) (fun _ _ => by omega) (fun _ _ => by omega) (fun _ _ => by omega) (fun _ _ => by omega) (fun _ _ => by omega) (fun _ _ => by omega) (fun _ _ => by omega) (fun _ _ => by omega)) (fun b _ => uS (21 * b + 2) (by omega) (fun _ _ => by omega) (fun _ _ => by omega) (fun _ _ => by omega) (fun _ _ => by omega) (fun _ _ => by omega)) h.1.rb1, R_rb2_rg (fun b _ => uC (4 * b + 2) (by omega) (fun _ _ => by omega) (fun _ _ => by omega) (fun _ _ => by omega) (fun _ _ => by omega) (fun _ _ => by omega) (fun _ _ => by omega) (fun _ _ => by omega) (fun _ _ => by omega)) (fun b _ => uS (21 * b + 3) (by omega) (fun _ _ => by omega) (fun _ _ => by omega) (fun _ _ => by omega) (fun _ _ => by omega) (fun _ _ => by omega)) h.1.rb2, R_rb3_rg (fun b _ => uC (4 * b + 3) (by omega) (fun _ _ => by omega) (fun _ _ => by omega) (fun _ _ => by omega) (fun _ _ => by omega) (fun _ _ => by omega) (fun _ _ => by omega) (fun _ _ => by omega) (fun _ _ => by omega)) (fun b _ => uS (21 * b + 4) (by omega) (fun _ _ => by omega) (fun _ _ => by omega) (fun _ _ => by omega) (fun _ _ => by omega) (fun _ _ => by omega)) h.1.rb3, R_rc_rg (fun b p _ _ => uC (48 + 16 * b + p) (by omega) (fun _ _ => by omega) (fun _ _ => by omega) (fun _ _ => by omega) (fun _ _ => by omega) (fun _ _ => by omega) (fun _ _ => by omega) (fun _ _ => by omega) (fun _ _ => by omega)) (fun b p _ _ => uS (21 * b + 5 + p) (by omega) (fun _ _ => by omega) (fun _ _ => by omega) (fun _ _ => by omega) (fun _ _ => by omega) (fun _ _ => by omega)) h.1.rc, R_rl0_rg (fun l _ => uC (240 + 12 * l) (by omega) (fun _ _ => by omega) (fun _ _ => by omega) (fun _ _ => by omega) (fun _ _ => by omega) (fun _ _ => by omega) (fun _ _ => by omega) (fun _ _ => by omega) (fun _ _ => by omega)) (fun l _ => uS (252 + 12 * l) (by omega) (fun _ _ => by omega) (fun _ _ => by omega) (fun _ _ => by omega) (fun _ _ => by omega) (fun _ _ => by omega)) h.1.rl0, R_rl1_rg (fun l _ => uC (240 + 12 * l + 1) (by omega) (fun _ _ => by omega) (fun _ _ => by omega) (fun _ _ => by omega) (fun _ _ => by omega) (fun _ _ => by omega) (fun _ _ => by omega) (fun _ _ => by omega) (fun _ _ => by omega)) (fun l _ => uS (252 + 12 * l + 1) (by omega) (fun _ _ => by omega) (fun _ _ => by omega) (fun _ _ => by omega) (fun _ _ => by omega) (fun _ _ => by omega)) h.1.rl1, R_rl2_rg (fun l _ => uC (240 + 12 * l + 2) (by omega) (fun _ _ => by omega) (fun _ _ => by omega) (fun _ _ => by omega) (fun _ _ => by omega) (fun _ _ => by omega) (fun _ _ => by omega) (fun _ _ => by omega) (fun _ _ => by omega)) (fun l _ => uS (252 + 12 * l + 2) (by omega) (fun _ _ => by omega) (fun _ _ => by omega) (fun _ _ => by omega) (fun _ _ => by omega) (fun _ _ => by omega)) h.1.rl2, R_rl3_rg (fun l _ => uC (240 + 12 * l + 3) (by omega) (fun _ _ => by omega) (fun _ _ => by omega) (fun _ _ => by omega) (fun _ _ => by omega) (fun _ _ => by omega) (fun _ _ => by omega) (fun _ _ => by omega) (fun _ _ => by omega)) (fun l _ => uS (252 + 12 * l + 3) (by omega) (fun _ _ => by omega) (fun _ _ => by omega) (fun _ _ => by omega) (fun _ _ => by omega) (fun _ _ => by omega)) h.1.rl3, R_rls_rg (fun l i _ _ => uC (240 + 12 * l + 4 + i) (by omega) (fun _ _ => by omega) (fun _ _ => by omega) (fun _ _ => by omega) (fun _ _ => by omega) (fun _ _ => by omega) (fun _ _ => by omega) (fun _ _ => by omega) (fun _ _ => by omega)) (fun l i _ _ => uS (252 + 12 * l + 4 + i) (by omega) (fun _ _ => by omega) (fun _ _ => by omega) (fun _ _ => by omega) (fun _ _ => by omega) (fun _ _ => by omega)) h.1.rls, a_rt0, a_rt1, a_rt2, a_rt3, a_rh, R_rf_rg (fun k _ => uC (1360 + k) (by omega) (fun _ _ => by omega) (fun _ _ => by omega) (fun _ _ => by omega) (fun _ _ => by omega) (fun _ _ => by omega) (fun _ _ => by omega) (fun _ _ => by omega) (fun _ _ => by omega)) (fun k _ => uS (1432 + k) (by omega) (fun _ _ => by omega) (fun _ _ => by omega) (fun _ _ => by omega) (fun _ _ => by omega) (fun _ _ => by omega)) h.1.rf, R_rq0_rg (fun c _ => uC (1368 + 5 * c) (by omega) (fun _ _ => by omega) (fun _ _ => by omega) (fun _ _ => by omega) (fun _ _ => by omega) (fun _ _ => by omega) (fun _ _ => by omega) (fun _ _ => by omega) (fun _ _ => by omega)) (fun c _ => uS (1132 + 5 * c) (by omega) (fun _ _ => by omega) (fun _ _ => by omega) (fun _ _ => by omega) (fun _ _ => by omega) (fun _ _ => by omega)) h.1.rq0, R_rq1_rg (fun c _ => uC (1368 + 5 * c + 1) (by omega) (fun _ _ => by omega) (fun _ _ => by omega) (fun _ _ => by omega) (fun _ _ => by omega) (fun _ _ => by omega) (fun _ _ => by omega) (fun _ _ => by omega) (fun _ _ => by omega)) (fun c _ => uS (1132 + 5 * c + 1) (by omega) (fun _ _ => by omega) (fun _ _ => by omega) (fun _ _ => by omega) (fun _ _ => by omega) (fun _ _ => by omega)) h.1.rq1, R_rq2_rg (fun c _ => uC (1368 + 5 * c + 2) (by omega) (fun _ _ => by omega) (fun _ _ => by omega) (fun _ _ => by omega) (fun _ _ => by omega) (fun _ _ => by omega) (fun _ _ => by omega) (fun _ _ => by omega) (fun _ _ => by omega)) (fun c _ => uS (1132 + 5 * c + 2) (by omega) (fun _ _ => by omega) (fun _ _ => by omega) (fun _ _ => by omega) (fun _ _ => by omega) (fun _ _ => by omega)) h.1.rq2, R_rq3_rg (fun c _ => uC (1368 + 5 * c + 3) (by omega) (fun _ _ => by omega) (fun _ _ => by omega) (fun _ _ => by omega) (fun _ _ => by omega) (fun _ _ => by omega) (fun _ _ => by omega) (fun _ _ => by omega) (fun _ _ => by omega)) (fun c _ => uS (1132 + 5 * c + 3) (by omega) (fun _ _ => by omega) (fun _ _ => by omega) (fun _ _ => by omega) (fun _ _ => by omega) (fun _ _ => by omega)) h.1.rq3, R_rq4_rg (fun c _ => uC (1368 + 5 * c + 4) (by omega) (fun _ _ => by omega) (fun _ _ => by omega) (fun _ _ => by omega) (fun _ _ => by omega) (fun _ _ => by omega) (fun _ _ => by omega) (fun _ _ => by omega) (fun _ _ => by omega)) (fun c _ => uS (1132 + 5 * c + 4) (by omega) (fun _ _ => by omega) (fun _ _ => by omega) (fun _ _ => by omega) (fun _ _ => by omega) (fun _ _ => by omega)) h.1.rq4, R_rn0_rg (uC (1868) (by omega) (fun _ _ => by omega) (fun _ _ => by omega) (fun _ _ => by omega) (fun _ _ => by omega) (fun _ _ => by omega) (fun _ _ => by omega) (fun _ _ => by omega) (fun _ _ => by omega)) (uS (1640) (by omega) (fun _ _ => by omega) (fun _ _ => by omega) (fun _ _ => by omega) (fun _ _ => by omega) (fun _ _ => by omega)) h.1.rn0, a_rn1, R_rn2_rg (uC (1870) (by omega) (fun _ _ => by omega) (fun _ _ => by omega) (fun _ _ => by omega) (fun _ _ => by omega) (fun _ _ => by omega) (fun _ _ => by omega) (fun _ _ => by omega) (fun _ _ => by omega)) (uS (1642) (by omega) (fun _ _ => by omega) (fun _ _ => by omega) (fun _ _ => by omega) (fun _ _ => by omega) (fun _ _ => by omega)) h.1.rn2, R_rn3_rg (uC (1871) (by omega) (fun _ _ => by omega) (fun _ _ => by omega) (fun _ _ => by omega) (fun _ _ => by omega) (fun _ _ => by omega) (fun _ _ => by omega) (fun _ _ => by omega) (fun _ _ => by omega)) (uS (1643) (by omega) (fun _ _ => by omega) (fun _ _ => by omega) (fun _ _ => by omega) (fun _ _ => by omega) (fun _ _ => by omega)) h.1.rn3, R_rn4_rg (uC (1872) (by omega) (fun _ _ => by omega) (fun _ _ => by omega) (fun _ _ => by omega) (fun _ _ => by omega) (fun _ _ => by omega) (fun _ _ => by omega) (fun _ _ => by omega) (fun _ _ => by omega)) (uS (1644) (by omega) (fun _ _ => by omega) (fun _ _ => by omega) (fun _ _ => by omega) (fun _ _ => by omega) (fun _ _ => by omega)) h.1.rn4, R_rn5_rg (uC (1873) (by omega) (fun _ _ => by omega) (fun _ _ => by omega) (fun _ _ => by omega) (fun _ _ => by omega) (fun _ _ => by omega) (fun _ _ => by omega) (fun _ _ => by omega) (fun _ _ => by omega)) (uS (1645) (by omega) (fun _ _ => by omega) (fun _ _ => by omega) (fun _ _ => by omega) (fun _ _ => by omega) (fun _ _ => by omega)) h.1.rn5, a_rg, a_rp, R_rs_rg (uS (1643) (by omega) (fun _ _ => by omega) (fun _ _ => by omega) (fun _ _ => by omega) (fun _ _ => by omega) (fun _ _ => by omega)) (fun k _ => uS (1440 + k) (by omega) (fun _ _ => by omega) (fun _ _ => by omega) (fun _ _ => by omega) (fun _ _ => by omega) (fun _ _ => by omega)) (fun k _ => uC (1668 + k) (by omega) (fun _ _ => by omega) (fun _ _ => by omega) (fun _ _ => by omega) (fun _ _ => by omega) (fun _ _ => by omega) (fun _ _ => by omega) (fun _ _ => by omega) (fun _ _ => by omega)) h.1.rs⟩, ⟨W_wn0_rg (uS (1640) (by omega) (fun _ _ => by omega) (fun _ _ => by omega) (fun _ _ => by omega) (fun _ _ => by omega) (fun _ _ => by omega)) h.2.wn0, a_wn1, W_wn2_rg (uS (1642) (by omega) (fun _ _ => by omega) (fun _ _ => by omega) (fun _ _ => by omega) (fun _ _ => by omega) (fun _ _ => by omega)) h.2.wn2, W_wn3_rg (uS (1643) (by omega) (fun _ _ => by omega) (fun _ _ => by omega) (fun _ _ => by omega) (fun _ _ => by omega) (fun _ _ => by omega)) h.2.wn3, W_wn4_rg (uS (1644) (by omega) (fun _ _ => by omega) (fun _ _ => by omega) (fun _ _ => by omega) (fun _ _ => by omega) (fun _ _ => by omega)) h.2.wn4, W_wn5_rg (uS (1645) (by omega) (fun _ _ => by omega) (fun _ _ => by omega) (fun _ _ => by omega) (fun _ _ => by omega) (fun _ _ => by omega)) h.2.wn5, W_wb0_rg (fun b _ => uS (21 * b) (by omega) (fun _ _ => by omega) (fun _ _ => by omega) (fun _ _ => by omega) (fun _ _ => by omega) (fun _ _ => by omega)) h.2.wb0, W_wbp_rg (fun b _ => uS (21 * b) (by omega) (fun _ _ => by omega) (fun _ _ => by omega) (fun _ _ => by omega) (fun _ _ => by omega) (fun _ _ => by omega)) (fun b _ => uS (21 * b + 1) (by omega) (fun _ _ => by omega) (fun _ _ => by omega) (fun _ _ => by omega) (fun _ _ => by omega) (fun _ _ => by omega)) h.2.wbp, W_wbg_rg (fun b _ => uS (21 * b) (by omega) (fun _ _ => by omega) (fun _ _ => by omega) (fun _ _ => by omega) (fun _ _ => by omega) (fun _ _ => by omega)) (fun b _ => uS (21 * b + 2) (by omega) (fun _ _ => by omega) (fun _ _ => by omega) (fun _ _ => by omega) (fun _ _ => by omega) (fun _ _ => by omega)) h.2.wbg, W_wbh_rg (fun b _ => uS (21 * b) (by omega) (fun _ _ => by omega) (fun _ _ => by omega) (fun _ _ => by omega) (fun _ _ => by omega) (fun _ _ => by omega)) (fun b _ => uS (21 * b + 3) (by omega) (fun _ _ => by omega) (fun _ _ => by omega) (fun _ _ => by omega) (fun _ _ => by omega) (fun _ _ => by omega)) h.2.wbh, W_wbk_rg (fun b _ => uS (21 * b) (by omega) (fun _ _ => by omega) (fun _ _ => by omega) (fun _ _ => by omega) (fun _ _ => by omega) (fun _ _ => by omega)) (fun b _ => uS (21 * b + 4) (by omega) (fun _ _ => by omega) (fun _ _ => by omega) (fun _ _ => by omega) (fun _ _ => by omega) (fun _ _ => by omega)) h.2.wbk, W_wb2_rg (fun b _ => uS (21 * b) (by omega) (fun _ _ => by omega) (fun _ _ => by omega) (fun _ _ => by omega) (fun _ _ => by omega) (fun _ _ => by omega)) (fun b _ => uS (21 * b + 1) (by omega) (fun _ _ => by omega) (fun _ _ => by omega) (fun _ _ => by omega) (fun _ _ => by omega) (fun _ _ => by omega)) h.2.wb2, W_wb2g_rg (fun b _ => uS (21 * b) (by omega) (fun _ _ => by omega) (fun _ _ => by omega) (fun _ _ => by omega) (fun _ _ => by omega) (fun _ _ => by omega)) (fun b _ => uS (21 * b + 2) (by omega) (fun _ _ => by omega) (fun _ _ => by omega) (fun _ _ => by omega) (fun _ _ => by omega) (fun _ _ => by omega)) h.2.wb2g, W_wb3_rg (fun b _ => uS (21 * b + 1) (by omega) (fun _ _ => by omega) (fun _ _ => by omega) (fun _ _ => by omega) (fun _ _ => by omega) (fun _ _ => by omega)) (fun b p _ _ => uS (21 * b + 5 + p) (by omega) (fun _ _ => by omega) (fun _ _ => by omega) (fun _ _ => by omega) (fun _ _ => by omega) (fun _ _ => by omega)) h.2.wb3, W_wb4_rg (fun b _ => uS (21 * b + 3) (by omega) (fun _ _ => by omega) (fun _ _ => by omega) (fun _ _ => by omega) (fun _ _ => by omega) (fun _ _ => by omega)) h.2.wb4, W_wb4k_rg (fun b _ => uS (21 * b + 4) (by omega) (fun _ _ => by omega) (fun _ _ => by omega) (fun _ _ => by omega) (fun _ _ => by omega) (fun _ _ => by omega)) h.2.wb4k, a_wb5, W_wl0_rg (uS (1640) (by omega) (fun _ _ => by omega) (fun _ _ => by omega) (fun _ _ => by omega) (fun _ _ => by omega) (fun _ _ => by omega)) (fun l _ => uS (252 + 12 * l + 3) (by omega) (fun _ _ => by omega) (fun _ _ => by omega) (fun _ _ => by omega) (fun _ _ => by omega) (fun _ _ => by omega)) h.2.wl0, W_wla_rg (uS (1640) (by omega) (fun _ _ => by omega) (fun _ _ => by omega) (fun _ _ => by omega) (fun _ _ => by omega) (fun _ _ => by omega)) (fun l _ => uS (252 + 12 * l) (by omega) (fun _ _ => by omega) (fun _ _ => by omega) (fun _ _ => by omega) (fun _ _ => by omega) (fun _ _ => by omega)) h.2.wla, W_wlb_rg (uS (1640) (by omega) (fun _ _ => by omega) (fun _ _ => by omega) (fun _ _ => by omega) (fun _ _ => by omega) (fun _ _ => by omega)) (fun l _ => uS (252 + 12 * l + 1) (by omega) (fun _ _ => by omega) (fun _ _ => by omega) (fun _ _ => by omega) (fun _ _ => by omega) (fun _ _ => by omega)) h.2.wlb, W_wlc_rg (uS (1640) (by omega) (fun _ _ => by omega) (fun _ _ => by omega) (fun _ _ => by omega) (fun _ _ => by omega) (fun _ _ => by omega)) (fun l _ => uS (252 + 12 * l + 2) (by omega) (fun _ _ => by omega) (fun _ _ => by omega) (fun _ _ => by omega) (fun _ _ => by omega) (fun _ _ => by omega)) h.2.wlc, W_wld_rg (uS (1640) (by omega) (fun _ _ => by omega) (fun _ _ => by omega) (fun _ _ => by omega) (fun _ _ => by omega) (fun _ _ => by omega)) (fun l _ => uS (252 + 12 * l + 3) (by omega) (fun _ _ => by omega) (fun _ _ => by omega) (fun _ _ => by omega) (fun _ _ => by omega) (fun _ _ => by omega)) h.2.wld, W_wl2_rg (uS (1640) (by omega) (fun _ _ => by omega) (fun _ _ => by omega) (fun _ _ => by omega) (fun _ _ => by omega) (fun _ _ => by omega)) (fun l _ => uS (252 + 12 * l + 2) (by omega) (fun _ _ => by omega) (fun _ _ => by omega) (fun _ _ => by omega) (fun _ _ => by omega) (fun _ _ => by omega)) (fun l i _ _ => uS (252 + 12 * l + 4 + i) (by omega) (fun _ _ => by omega) (fun _ _ => by omega) (fun _ _ => by omega) (fun _ _ => by omega) (fun _ _ => by omega)) h.2.wl2, W_wl4_rg (fun l _ => uS (252 + 12 * l + 3) (by omega) (fun _ _ => by omega) (fun _ _ => by omega) (fun _ _ => by omega) (fun _ _ => by omega) (fun _ _ => by omega)) (fun l _ => uS (252 + 12 * l) (by omega) (fun _ _ => by omega) (fun _ _ => by omega) (fun _ _ => by omega) (fun _ _ => by omega) (fun _ _ => by omega)) (fun l _ => uS (252 + 12 * l + 1) (by omega) (fun _ _ => by omega) (fun _ _ => by omega) (fun _ _ => by omega) (fun _ _ => by omega) (fun _ _ => by omega)) h.2.wl4, a_wt0, a_wt1, a_wt2, a_wt3, a_wt4, W_wqa_rg (uS (1642) (by omega) (fun _ _ => by omega) (fun _ _ => by omega) (fun _ _ => by omega) (fun _ _ => by omega) (fun _ _ => by omega)) (fun c _ => uS (1132 + 5 * c) (by omega) (fun _ _ => by omega) (fun _ _ => by omega) (fun _ _ => by omega) (fun _ _ => by omega) (fun _ _ => by omega)) h.2.wqa, W_wqb_rg (uS (1642) (by omega) (fun _ _ => by omega) (fun _ _ => by omega) (fun _ _ => by omega) (fun _ _ => by omega) (fun _ _ => by omega)) (fun c _ => uS (1132 + 5 * c + 1) (by omega) (fun _ _ => by omega) (fun _ _ => by omega) (fun _ _ => by omega) (fun _ _ => by omega) (fun _ _ => by omega)) h.2.wqb, W_wqc_rg (uS (1642) (by omega) (fun _ _ => by omega) (fun _ _ => by omega) (fun _ _ => by omega) (fun _ _ => by omega) (fun _ _ => by omega)) (fun c _ => uS (1132 + 5 * c + 2) (by omega) (fun _ _ => by omega) (fun _ _ => by omega) (fun _ _ => by omega) (fun _ _ => by omega) (fun _ _ => by omega)) h.2.wqc, W_wqd_rg (uS (1642) (by omega) (fun _ _ => by omega) (fun _ _ => by omega) (fun _ _ => by omega) (fun _ _ => by omega) (fun _ _ => by omega)) (fun c _ => uS (1132 + 5 * c + 3) (by omega) (fun _ _ => by omega) (fun _ _ => by omega) (fun _ _ => by omega) (fun _ _ => by omega) (fun _ _ => by omega)) h.2.wqd, W_wqe_rg (uS (1642) (by omega) (fun _ _ => by omega) (fun _ _ => by omega) (fun _ _ => by omega) (fun _ _ => by omega) (fun _ _ => by omega)) (fun c _ => uS (1132 + 5 * c + 4) (by omega) (fun _ _ => by omega) (fun _ _ => by omega) (fun _ _ => by omega) (fun _ _ => by omega) (fun _ _ => by omega)) h.2.wqe, W_wq2_rg (uS (1642) (by omega) (fun _ _ => by omega) (fun _ _ => by omega) (fun _ _ => by omega) (fun _ _ => by omega) (fun _ _ => by omega)) (fun c _ => uS (1132 + 5 * c) (by omega) (fun _ _ => by omega) (fun _ _ => by omega) (fun _ _ => by omega) (fun _ _ => by omega) (fun _ _ => by omega)) (fun b _ => uS (21 * b) (by omega) (fun _ _ => by omega) (fun _ _ => by omega) (fun _ _ => by omega) (fun _ _ => by omega) (fun _ _ => by omega)) (fun c _ => uS (1132 + 5 * c + 4) (by omega) (fun _ _ => by omega) (fun _ _ => by omega) (fun _ _ => by omega) (fun _ _ => by omega) (fun _ _ => by omega)) (fun c _ => uS (1132 + 5 * c + 2) (by omega) (fun _ _ => by omega) (fun _ _ => by omega) (fun _ _ => by omega) (fun _ _ => by omega) (fun _ _ => by omega)) (fun c _ => uS (1132 + 5 * c + 3) (by omega) (fun _ _ => by omega) (fun _ _ => by omega) (fun _ _ => by omega) (fun _ _ => by omega) (fun _ _ => by omega)) (uS (1645) (by omega) (fun _ _ => by omega) (fun _ _ => by omega) (fun _ _ => by omega) (fun _ _ => by omega) (fun _ _ => by omega)) h.2.wq2, W_wf_rg (fun k _ => uS (1432 + k) (by omega) (fun _ _ => by omega) (fun _ _ => by omega) (fun _ _ => by omega) (fun _ _ => by omega) (fun _ _ => by omega)) h.2.wf, a_wh⟩⟩
theorem gg_thing2 {n m : Nat} {C S C2 S2 : AT} {v1 v2 v3 v4 : Int32} (h : GG n C S) (hm : m < 80) (hS : S 1641 = Int32.ofNat m) (g1 : RG v1 0 4) (g2 : RG v2 1 15) (g3 : RG v3 1 40) (g4 : RG v4 0 400000) (c0 : C2 (720 + 8 * m) = v1) (c1 : C2 (720 + 8 * m + 1) = v2) (c2 : C2 (720 + 8 * m + 2) = v3) (c3 : C2 (720 + 8 * m + 3) = v4) (c4 : C2 (720 + 8 * m + 4) = FP.f2i (burd v1 v4)) (c5 : C2 (720 + 8 * m + 5) = 0) (c6 : C2 (720 + 8 * m + 6) = -1000000000) (c7 : C2 (720 + 8 * m + 7) = -1000000000) (s0 : S2 (732 + 5 * m) = v1) (s1 : S2 (732 + 5 * m + 1) = v2) (s2 : S2 (732 + 5 * m + 2) = v3) (s3 : S2 (732 + 5 * m + 3) = v4) (s4 : S2 (732 + 5 * m + 4) = 0) (cN : C2 1869 = Int32.ofNat (m + 1)) (sN : S2 1641 = Int32.ofNat (m + 1)) (cn : ∀ j, (j < 720 + 8 * m ∨ 720 + 8 * m + 7 < j) → j ≠ 1869 → C2 j = C j) (sn : ∀ j, (j < 732 + 5 * m ∨ 732 + 5 * m + 4 < j) → j ≠ 1641 → S2 j = S j) : GG (n + 1) C2 S2 := by
  have tl : ∀ c, c < 80 → c ≠ m → Int32.ofNat c < S2 1641 → Int32.ofNat c < S 1641 := by
    intro c hc hne q
    rw [sN] at q
    have := (nat_lt (by omega) (by omega)).mp q
    rw [hS]
    exact (nat_lt (by omega) (by omega)).mpr (by omega)
  have hcN : ∀ c, c < 80 → c ≠ m → ∀ i, i < 8 → C2 (720 + 8 * c + i) = C (720 + 8 * c + i) := fun c hc hne i hi => cn _ (by omega) (by omega)
  have hsN : ∀ c, c < 80 → c ≠ m → ∀ i, i < 5 → S2 (732 + 5 * c + i) = S (732 + 5 * c + i) := fun c hc hne i hi => sn _ (by omega) (by omega)
  have hs0 : ∀ c, c < 80 → c ≠ m → S2 (732 + 5 * c) = S (732 + 5 * c) := fun c hc hne => sn _ (by omega) (by omega)
  have hct : ctS S2 = ctS S := ctS_rg (fun b p hb hp => (sn _ (by omega) (by omega)).symm)
  have told : ∀ b p t, b < 12 → p < 16 → t < 80 → S (21 * b + 5 + p) = Int32.ofNat (2 + t) → Int32.ofNat t < S 1641 ∧ t ≠ m := by
    intro b p t hb hp ht e
    rcases h.2.wb5 b p hb hp with q | q | ⟨u, hu, q1, q2⟩
    · exact absurd e (ne_thing (Or.inl q) ht)
    · exact absurd e (ne_thing (Or.inr q) ht)
    · have : t = u := thing_inj ht hu (e.symm.trans q2)
      subst this
      refine ⟨q1, fun e2 => ?_⟩
      rw [hS] at q1
      have := (nat_lt (by omega) (by omega)).mp q1
      omega
  refine gg_thing h (fun j h0 h1 h2 h3 h4 h5 h6 h7 h8 => (cn j (Classical.byContradiction (fun q => by have a0 := h1 m hm; have a1 := h2 m hm; have a2 := h3 m hm; have a3 := h4 m hm; have a4 := h5 m hm; have a5 := h6 m hm; have a6 := h7 m hm; have a7 := h8 m hm; omega)) h0).symm) (fun j h0 h1 h2 h3 h4 h5 => (sn j (Classical.byContradiction (fun q => by have a0 := h1 m hm; have a1 := h2 m hm; have a2 := h3 m hm; have a3 := h4 m hm; have a4 := h5 m hm; omega)) h0).symm) ?_ ?_ ?_ ?_ ?_ ?_ ?_ ?_ ?_ ?_ ?_ ?_ ?_ ?_ ?_ ?_
  · intro c hc
    by_cases e : c = m
    · subst e; rw [c0, s0]
    · exact (hcN c hc e 0 (by omega)).trans ((h.1.rt0 c hc).trans (hsN c hc e 0 (by omega)).symm)
  · intro c hc
    by_cases e : c = m
    · subst e; rw [c1, s1]
    · exact (hcN c hc e 1 (by omega)).trans ((h.1.rt1 c hc).trans (hsN c hc e 1 (by omega)).symm)
  · intro c hc
    by_cases e : c = m
    · subst e; rw [c2, s2]
    · exact (hcN c hc e 2 (by omega)).trans ((h.1.rt2 c hc).trans (hsN c hc e 2 (by omega)).symm)
  · intro c hc
    by_cases e : c = m
    · subst e; rw [c3, s3]
    · exact (hcN c hc e 3 (by omega)).trans ((h.1.rt3 c hc).trans (hsN c hc e 3 (by omega)).symm)
  · intro c hc
    by_cases e : c = m
    · subst e; rw [c5, s4]
    · exact (hcN c hc e 5 (by omega)).trans ((h.1.rh c hc).trans (hsN c hc e 4 (by omega)).symm)
  · show C2 1869 = S2 1641
    rw [cN, sN]
  · intro c hc q
    by_cases e : c = m
    · subst e; rw [c4, s0, s3]
    · rw [hcN c hc e 4 (by omega), hs0 c hc e, hsN c hc e 3 (by omega)]; exact h.1.rg c hc (tl c hc e q)
  · intro c hc q
    rw [hct]
    by_cases e : c = m
    · subst e
      rw [c6, c7]
      refine Or.inl ⟨rfl, rfl, fun b p hb hp e => ?_⟩
      rw [ctS_at hb hp] at e
      exact (told b p c hb hp hc e).2 rfl
    · rw [hcN c hc e 6 (by omega), hcN c hc e 7 (by omega), hs0 c hc e]; exact h.1.rp c hc (tl c hc e q)
  · show RG (S2 1641) 0 80
    rw [sN]; exact ⟨m + 1, by omega, by omega, rfl⟩
  · intro b p hb hp
    rw [sn (21 * b + 5 + p) (by omega) (by omega), sN]
    rcases h.2.wb5 b p hb hp with q | q | ⟨u, hu, q1, q2⟩
    · exact Or.inl q
    · exact Or.inr (Or.inl q)
    · refine Or.inr (Or.inr ⟨u, hu, ?_, q2⟩)
      rw [hS] at q1
      have := (nat_lt (by omega) (by omega)).mp q1
      exact (nat_lt (by omega) (by omega)).mpr (by omega)
  · intro c hc q
    by_cases e : c = m
    · subst e; rw [s0]; exact g1
    · have := h.2.wt0 c hc (tl c hc e q)
      rw [show S2 (732 + 5 * c) = S (732 + 5 * c) from hsN c hc e 0 (by omega)]; exact this
  · intro c hc q
    by_cases e : c = m
    · subst e; rw [s1]; exact g2
    · have := h.2.wt1 c hc (tl c hc e q)
      rw [show S2 (732 + 5 * c + 1) = S (732 + 5 * c + 1) from hsN c hc e 1 (by omega)]; exact this
  · intro c hc q
    by_cases e : c = m
    · subst e; rw [s2]; exact g3
    · have := h.2.wt2 c hc (tl c hc e q)
      rw [show S2 (732 + 5 * c + 2) = S (732 + 5 * c + 2) from hsN c hc e 2 (by omega)]; exact this
  · intro c hc q
    by_cases e : c = m
    · subst e; rw [s3]; exact g4
    · have := h.2.wt3 c hc (tl c hc e q)
      rw [show S2 (732 + 5 * c + 3) = S (732 + 5 * c + 3) from hsN c hc e 3 (by omega)]; exact this
  · intro c hc q
    by_cases e : c = m
    · subst e; rw [s4]; exact ⟨⟨0, by omega, by omega, rfl⟩, Or.inl rfl⟩
    · have := h.2.wt4 c hc (tl c hc e q)
      rw [hsN c hc e 4 (by omega), hs0 c hc e]; exact this
  · intro b p q t u hb hp hq a1 a2 ht hu hn1 e1 e2 e3
    rw [sn (21 * b + 5 + p) (by omega) (by omega)] at e1
    rw [sn (21 * b + 5 + q) (by omega) (by omega)] at e2
    have t1 := (told b p t hb hp ht e1).2
    have t2 := (told b q u hb hq hu e2).2
    rw [hs0 t ht t1] at e3
    rw [hsN u hu t2 4 (by omega)]
    exact h.2.wh b p q t u hb hp hq a1 a2 ht hu (by omega) e1 e2 e3
theorem aok_thing (v1 v2 v3 v4 : Int32) : AOK (noJ (f_X2_addThing v1 v2 v3 v4)) (f_X12_thing v1 v2 v3 v4) := by
  intro n O B V J M M1 hn sb hgg em sm
  have hf0 : M1 7 2 = 0 := sm.2.2.2.1
  have m0 : M1 0 = M 0 := sm.1
  have i7 := is_no 7 hf0
  have i11 := is_no 11 hf0
  have kN : ckA 1646 (1641 : Int32) = some 1641 := ck_lit (k := 1641) rfl (by omega) (by omega)
  have eN : f_X7_get 1868 1 6 0 1 V = some (M 0 1641) := nget (i := 1) hgg (by omega)
  obtain ⟨T, hT, hT2, hT3⟩ : ∃ T : Int32, (T = if v1 = 1 then 6 else 40) ∧ (f_X2_addThing v1 v2 v3 v4 V = f_X2_addThing_j12 v1 v2 v3 v4 T V) ∧ ∀ M, (if v1 = 1 then f_X12_thing_j37 v1 v2 v3 v4 v3 1 6 M else f_X12_thing_j37 v1 v2 v3 v4 v3 1 40 M) = f_X12_thing_j37 v1 v2 v3 v4 v3 1 T M := by
    by_cases q : v1 = 1
    · exact ⟨6, by rw [if_pos q], by unfold f_X2_addThing; rw [if_pos q], fun M => by rw [if_pos q]⟩
    · exact ⟨40, by rw [if_neg q], by unfold f_X2_addThing; rw [if_neg q], fun M => by rw [if_neg q]⟩
  by_cases hv : v1 < 0 ∨ 4 < v1 ∨ v2 < 1 ∨ 15 < v2 ∨ v3 < 1 ∨ T < v3 ∨ v4 < 0 ∨ 400000 < v4
  · refine aok_ref 7 (by decide) sb sm (fun V2 er sr => ?_) (fun M2 M3 ei er2 => ?_)
    · rw [hT2]
      rcases hv with hv | hv | hv | hv | hv | hv | hv | hv
      all_goals simp only [f_X2_addThing_j12, f_X2_addThing_j57, hv, er, bsm, if_true, if_false, ite_self, i10, i01, ite01, ite10, true_or, or_true, false_or, or_false, leN, ite_not, not_true_eq_false, not_false_eq_true]
    · unfold f_X12_thing
      simp only [hT3]
      rcases hv with hv | hv | hv | hv | hv | hv | hv | hv
      all_goals simp only [f_X12_thing_j37, f_X12_thing_j54, f_X12_thing_j59, f_X12_thing_j99, em, in_eq, hv, ei, er2, bsm, if_true, if_false, ite_self, i10, i01, ite01, ite10, true_or, or_true, false_or, or_false, leN, ite_not, not_true_eq_false, not_false_eq_true]
  · have q1 : ¬ v1 < 0 := fun q => hv (Or.inl q)
    have q2 : ¬ 4 < v1 := fun q => hv (Or.inr (Or.inl q))
    have q3 : ¬ v2 < 1 := fun q => hv (Or.inr (Or.inr (Or.inl q)))
    have q4 : ¬ 15 < v2 := fun q => hv (Or.inr (Or.inr (Or.inr (Or.inl q))))
    have q5 : ¬ v3 < 1 := fun q => hv (Or.inr (Or.inr (Or.inr (Or.inr (Or.inl q)))))
    have q6 : ¬ T < v3 := fun q => hv (Or.inr (Or.inr (Or.inr (Or.inr (Or.inr (Or.inl q))))))
    have q7 : ¬ v4 < 0 := fun q => hv (Or.inr (Or.inr (Or.inr (Or.inr (Or.inr (Or.inr (Or.inl q)))))))
    have q8 : ¬ 400000 < v4 := fun q => hv (Or.inr (Or.inr (Or.inr (Or.inr (Or.inr (Or.inr (Or.inr q)))))))
    obtain ⟨m, -, m2, hm⟩ := hgg.2.wn1
    by_cases hf : m = 80
    · subst hf
      have c1 : ¬ M 0 1641 < (80 : Int32) := by rw [hm]; decide
      have c2 : M 0 1641 = (80 : Int32) := hm
      refine aok_ref 11 (by decide) sb sm (fun V2 er sr => ?_) (fun M2 M3 ei er2 => ?_)
      · rw [hT2]
        simp only [f_X2_addThing_j12, q1, q2, q3, q4, q5, q6, q7, q8, eN, c1, er, bsm, if_true, if_false, ite_self, i10, i01, ite01, ite10, true_or, or_true, false_or, or_false, leN, ite_not, not_true_eq_false, not_false_eq_true]
      · unfold f_X12_thing
        simp only [hT3]
        simp only [f_X12_thing_j37, f_X12_thing_j59, f_X12_thing_j91, f_X12_thing_j99, em, in_eq, q1, q2, q3, q4, q5, q6, q7, q8, i7, kN, m0, c2, ei, er2, bsm, if_true, if_false, ite_self, i10, i01, ite01, ite10, true_or, or_true, false_or, or_false, leN, ite_not, not_true_eq_false, not_false_eq_true]
    · have hm8 : m < 80 := by omega
      have c1 : Int32.ofNat m < (80 : Int32) := (nat_lt (b := 80) (by omega) (by omega)).mpr hm8
      have c2 : ¬ Int32.ofNat m = (80 : Int32) := fun q => hf ((nat_eq (b := 80) (by omega) (by omega)).mp q)
      have eC : ∀ x V, f_X7_set 1868 1 6 0 1 x V = f_X4_write (Int32.ofNat 1869) x V := fun x V => scount (c := 1) x (by omega)
      obtain ⟨e, -, he, rfl⟩ := rg_of (hi := 400000) (by omega) q7 q8
      have es0 : ∀ x V, f_X7_set 720 80 8 (Int32.ofNat m) 0 x V = f_X4_write (Int32.ofNat (720 + 8 * m + 0)) x V := fun x V => sthing (c := 0) x hm8 (by omega)
      have es1 : ∀ x V, f_X7_set 720 80 8 (Int32.ofNat m) 1 x V = f_X4_write (Int32.ofNat (720 + 8 * m + 1)) x V := fun x V => sthing (c := 1) x hm8 (by omega)
      have es2 : ∀ x V, f_X7_set 720 80 8 (Int32.ofNat m) 2 x V = f_X4_write (Int32.ofNat (720 + 8 * m + 2)) x V := fun x V => sthing (c := 2) x hm8 (by omega)
      have es3 : ∀ x V, f_X7_set 720 80 8 (Int32.ofNat m) 3 x V = f_X4_write (Int32.ofNat (720 + 8 * m + 3)) x V := fun x V => sthing (c := 3) x hm8 (by omega)
      have es4 : ∀ x V, f_X7_set 720 80 8 (Int32.ofNat m) 4 x V = f_X4_write (Int32.ofNat (720 + 8 * m + 4)) x V := fun x V => sthing (c := 4) x hm8 (by omega)
      have es5 : ∀ x V, f_X7_set 720 80 8 (Int32.ofNat m) 5 x V = f_X4_write (Int32.ofNat (720 + 8 * m + 5)) x V := fun x V => sthing (c := 5) x hm8 (by omega)
      have es6 : ∀ x V, f_X7_set 720 80 8 (Int32.ofNat m) 6 x V = f_X4_write (Int32.ofNat (720 + 8 * m + 6)) x V := fun x V => sthing (c := 6) x hm8 (by omega)
      have es7 : ∀ x V, f_X7_set 720 80 8 (Int32.ofNat m) 7 x V = f_X4_write (Int32.ofNat (720 + 8 * m + 7)) x V := fun x V => sthing (c := 7) x hm8 (by omega)
      obtain ⟨W0, ew0, sw0, -⟩ := st_write (c := 1869) (Int32.ofNat (m + 1)) sb (by omega) (by omega)
      obtain ⟨W1, ew1, sw1, -⟩ := st_write (c := 720 + 8 * m + 0) v1 sw0 (by omega) (by omega)
      obtain ⟨W2, ew2, sw2, -⟩ := st_write (c := 720 + 8 * m + 1) v2 sw1 (by omega) (by omega)
      obtain ⟨W3, ew3, sw3, -⟩ := st_write (c := 720 + 8 * m + 2) v3 sw2 (by omega) (by omega)
      obtain ⟨W4, ew4, sw4, -⟩ := st_write (c := 720 + 8 * m + 3) (Int32.ofNat e) sw3 (by omega) (by omega)
      obtain ⟨W5, ew5, sw5, -⟩ := st_write (c := 720 + 8 * m + 4) (FP.f2i (burd v1 (Int32.ofNat e))) sw4 (by omega) (by omega)
      obtain ⟨W6, ew6, sw6, -⟩ := st_write (c := 720 + 8 * m + 5) 0 sw5 (by omega) (by omega)
      obtain ⟨W7, ew7, sw7, -⟩ := st_write (c := 720 + 8 * m + 6) (-1000000000) sw6 (by omega) (by omega)
      obtain ⟨W8, ew8, sw8, -⟩ := st_write (c := 720 + 8 * m + 7) (-1000000000) sw7 (by omega) (by omega)
      have eb : f_X10_burden (Int32.ofNat m) W4 = some (burd v1 (Int32.ofNat e)) := by
        refine c_burden hm8 ?_ he ?_
        · rw [sw4.2.1, upd_same]
        · rw [sw4.2.1, upd_ne (by omega), upd_ne (by omega), upd_ne (by omega), upd_at, if_pos (by omega)]
      have t0 := sm
      have t1 := ms_put (k := 732 + 5 * m) v1 t0 (by omega)
      have t2 := ms_put (k := 732 + 5 * m + 1) v2 t1 (by omega)
      have t3 := ms_put (k := 732 + 5 * m + 2) v3 t2 (by omega)
      have t4 := ms_put (k := 732 + 5 * m + 3) (Int32.ofNat e) t3 (by omega)
      have t5 := ms_put (k := 732 + 5 * m + 4) 0 t4 (by omega)
      have t6 := ms_put (k := 1641) (Int32.ofNat (m + 1)) t5 (by omega)
      have ea : (732 : Int32) + 5 * Int32.ofNat m = Int32.ofNat (732 + 5 * m) := by rw [Int32.ofNat_add, Int32.ofNat_mul]; rfl
      have k0 : ckA 1646 (Int32.ofNat (732 + 5 * m)) = some (732 + 5 * m) := ck_nat (by omega) (by omega)
      have k1 : ckA 1646 (Int32.ofNat (732 + 5 * m + 1)) = some (732 + 5 * m + 1) := ck_nat (by omega) (by omega)
      have k2 : ckA 1646 (Int32.ofNat (732 + 5 * m) + 2) = some (732 + 5 * m + 2) := ck_lit (Int32.ofNat_add (732 + 5 * m) 2).symm (by omega) (by omega)
      have k3 : ckA 1646 (Int32.ofNat (732 + 5 * m) + 3) = some (732 + 5 * m + 3) := ck_lit (Int32.ofNat_add (732 + 5 * m) 3).symm (by omega) (by omega)
      have k4 : ckA 1646 (Int32.ofNat (732 + 5 * m) + 4) = some (732 + 5 * m + 4) := ck_lit (Int32.ofNat_add (732 + 5 * m) 4).symm (by omega) (by omega)
      have r1 : (u2 (u2 (u2 (u2 (u2 M1 0 (732 + 5 * m) v1) 0 (732 + 5 * m + 1) v2) 0 (732 + 5 * m + 2) v3) 0 (732 + 5 * m + 3) (Int32.ofNat e)) 0 (732 + 5 * m + 4) 0) 0 1641 = Int32.ofNat m := by rw [u2r_ne (by omega), u2r_ne (by omega), u2r_ne (by omega), u2r_ne (by omega), u2r_ne (by omega), m0]; exact hm
      have es : Int32.ofNat (m + 1) - 1 = Int32.ofNat m := by rw [← nat_succ]; exact add_sub1
      refine aok_done (r := Int32.ofNat m) sw8 t6 ?_ ?_ ?_
      · rw [hT2]
        simp only [f_X2_addThing_j12, q1, q2, q3, q4, q5, q6, q7, q8, eN, hm, c1, nat_succ, eC, ew0, es0, ew1, es1, ew2, es2, ew3, es3, ew4, eb, es4, ew5, es5, ew6, es6, ew7, es7, ew8, bsm, if_true, if_false, ite_self, i10, i01, ite01, ite10, true_or, or_true, false_or, or_false, leN, ite_not, not_true_eq_false, not_false_eq_true]
      · unfold f_X12_thing
        simp only [hT3]
        simp only [f_X12_thing_j37, f_X12_thing_j59, f_X12_thing_j91, em, in_eq, q1, q2, q3, q4, q5, q6, q7, q8, i7, kN, m0, hm, c2, i11, ea, k0, k1, k2, k3, k4, r1, nat_succ, u2r_eq, es, bsm, if_true, if_false, ite_self, i10, i01, ite01, ite10, true_or, or_true, false_or, or_false, leN, ite_not, not_true_eq_false, not_false_eq_true]
      · have g3 : RG v3 1 40 := by
          refine rg_of2 (lo := 1) (hi := 40) (by omega) (by omega) q5 (fun q => q6 ?_)
          rw [hT]
          split
          · rw [Int32.lt_iff_toInt_lt] at q ⊢
            rw [ti_nat (by omega)] at q
            rw [show (6 : Int32).toInt = 6 by decide]; omega
          · exact q
        refine gg_thing2 hgg hm8 hm (rg_of2 (lo := 0) (hi := 4) (by omega) (by omega) q1 q2) (rg_of2 (lo := 1) (hi := 15) (by omega) (by omega) q3 q4) g3 ⟨e, by omega, he, rfl⟩ ?_ ?_ ?_ ?_ ?_ ?_ ?_ ?_ ?_ ?_ ?_ ?_ ?_ ?_ ?_ ?_ ?_
        · rw [upd_ne (by omega), upd_ne (by omega), upd_ne (by omega), upd_ne (by omega), upd_ne (by omega), upd_ne (by omega), upd_ne (by omega), upd_at, if_pos (by omega)]
        · rw [upd_ne (by omega), upd_ne (by omega), upd_ne (by omega), upd_ne (by omega), upd_ne (by omega), upd_ne (by omega), upd_at, if_pos (by omega)]
        · rw [upd_ne (by omega), upd_ne (by omega), upd_ne (by omega), upd_ne (by omega), upd_ne (by omega), upd_at, if_pos (by omega)]
        · rw [upd_ne (by omega), upd_ne (by omega), upd_ne (by omega), upd_ne (by omega), upd_at, if_pos (by omega)]
        · rw [upd_ne (by omega), upd_ne (by omega), upd_ne (by omega), upd_at, if_pos (by omega)]
        · rw [upd_ne (by omega), upd_ne (by omega), upd_at, if_pos (by omega)]
        · rw [upd_ne (by omega), upd_at, if_pos (by omega)]
        · rw [upd_at, if_pos (by omega)]
        · rw [upd_ne (by omega), upd_ne (by omega), upd_ne (by omega), upd_ne (by omega), upd_ne (by omega), upd_same]
        · rw [upd_ne (by omega), upd_ne (by omega), upd_ne (by omega), upd_ne (by omega), upd_same]
        · rw [upd_ne (by omega), upd_ne (by omega), upd_ne (by omega), upd_same]
        · rw [upd_ne (by omega), upd_ne (by omega), upd_same]
        · rw [upd_ne (by omega), upd_same]
        · rw [upd_ne (by omega), upd_ne (by omega), upd_ne (by omega), upd_ne (by omega), upd_ne (by omega), upd_ne (by omega), upd_ne (by omega), upd_ne (by omega), upd_same]
        · rw [upd_same]
        · intro j a1 a2; rw [upd_ne (by omega), upd_ne (by omega), upd_ne (by omega), upd_ne (by omega), upd_ne (by omega), upd_ne (by omega), upd_ne (by omega), upd_ne (by omega), upd_ne (by omega)]
        · intro j a1 a2; rw [upd_ne (by omega), upd_ne (by omega), upd_ne (by omega), upd_ne (by omega), upd_ne (by omega), upd_ne (by omega)]
theorem o_thing : O_thing (IG GG) := fun _ _ _ _ _ v1 v2 v3 v4 hn hI => aok_run (aok_thing v1 v2 v3 v4) hn hI aok_nF
