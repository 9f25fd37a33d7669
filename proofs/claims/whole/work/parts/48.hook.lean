/-! hook -/
theorem scon {V : VT} {b p : Nat} (x : Int32) (hb : b < 12) (hp : p < 16) : f_X7_set 48 12 16 (Int32.ofNat b) (Int32.ofNat p) x V = f_X4_write (Int32.ofNat (48 + 16 * b + p)) x V := by
  have := set_nat (B := 48) (R := 12) (C := 16) (r := b) (c := p) V x hb hp (by omega) (by omega)
  rw [show 48 + b * 16 + p = 48 + 16 * b + p by omega] at this
  exact this
theorem sbar {V : VT} {b c : Nat} (x : Int32) (hb : b < 12) (hc : c < 4) : f_X7_set 0 12 4 (Int32.ofNat b) (Int32.ofNat c) x V = f_X4_write (Int32.ofNat (4 * b + c)) x V := by
  have := set_nat (B := 0) (R := 12) (C := 4) (r := b) (c := c) V x hb hc (by omega) (by omega)
  rw [show 0 + b * 4 + c = 4 * b + c by omega] at this
  exact this
theorem sline {V : VT} {l c : Nat} (x : Int32) (hl : l < 40) (hc : c < 12) : f_X7_set 240 40 12 (Int32.ofNat l) (Int32.ofNat c) x V = f_X4_write (Int32.ofNat (240 + 12 * l + c)) x V := by
  have := set_nat (B := 240) (R := 40) (C := 12) (r := l) (c := c) V x hl hc (by omega) (by omega)
  rw [show 240 + l * 12 + c = 240 + 12 * l + c by omega] at this
  exact this
theorem sthing {V : VT} {t c : Nat} (x : Int32) (ht : t < 80) (hc : c < 8) : f_X7_set 720 80 8 (Int32.ofNat t) (Int32.ofNat c) x V = f_X4_write (Int32.ofNat (720 + 8 * t + c)) x V := by
  have := set_nat (B := 720) (R := 80) (C := 8) (r := t) (c := c) V x ht hc (by omega) (by omega)
  rw [show 720 + t * 8 + c = 720 + 8 * t + c by omega] at this
  exact this
theorem scue {V : VT} {q c : Nat} (x : Int32) (hq : q < 60) (hc : c < 5) : f_X7_set 1368 60 5 (Int32.ofNat q) (Int32.ofNat c) x V = f_X4_write (Int32.ofNat (1368 + 5 * q + c)) x V := by
  have := set_nat (B := 1368) (R := 60) (C := 5) (r := q) (c := c) V x hq hc (by omega) (by omega)
  rw [show 1368 + q * 5 + c = 1368 + 5 * q + c by omega] at this
  exact this
theorem scount {V : VT} {c : Nat} (x : Int32) (hc : c < 6) : f_X7_set 1868 1 6 0 (Int32.ofNat c) x V = f_X4_write (Int32.ofNat (1868 + c)) x V := by
  have := set_nat (B := 1868) (R := 1) (C := 6) (r := 0) (c := c) V x (by omega) hc (by omega) (by omega)
  rw [show 1868 + 0 * 6 + c = 1868 + c by omega] at this
  exact this
theorem m_put {M : VT} {b p : Nat} (x : Int32) (hb : b < 12) (hp : p < 16) : f_X12_put (Int32.ofNat b) (Int32.ofNat p) x M = some (u2 M 0 (21 * b + 5 + p) x) := by
  unfold f_X12_put
  rw [m_bar0]; simp only [Option.bind_some]
  rw [show Int32.ofNat (21 * b) + 5 + Int32.ofNat p = Int32.ofNat (21 * b + 5 + p) by rw [Int32.ofNat_add, Int32.ofNat_add]; rfl, ck_nat (by omega) (by omega)]; rfl
/-- what a place holds is below 2: nothing or a hook -/
theorem low_ct {n : Nat} {C S : AT} {b p : Nat} (h : GG n C S) (hb : b < 12) (hp : p < 16) : (S (21 * b + 5 + p) < 2 ∧ (S (21 * b + 5 + p) = 0 ∨ S (21 * b + 5 + p) = 1)) ∨ (¬ S (21 * b + 5 + p) < 2 ∧ ∃ t : Nat, t < 80 ∧ Int32.ofNat t < S 1641 ∧ S (21 * b + 5 + p) = Int32.ofNat (2 + t)) := by
  rcases h.2.wb5 b p hb hp with e | e | ⟨t, ht, h2, e⟩
  · exact Or.inl ⟨by rw [e]; decide, Or.inl e⟩
  · exact Or.inl ⟨by rw [e]; decide, Or.inr e⟩
  · refine Or.inr ⟨?_, t, ht, h2, e⟩
    rw [e]
    exact fun q => by
      have := (nat_lt (b := 2) (by omega) (by omega)).mp q
      omega
theorem gg_hook {n : Nat} {C C2 S S2 : AT} (h0 : GG n C S) (uC : ∀ j, (∀ b p : Nat, b < 12 → p < 16 → j ≠ 48 + 16 * b + p) → C j = C2 j) (uS : ∀ j, (∀ b p : Nat, b < 12 → p < 16 → j ≠ 21 * b + 5 + p) → S j = S2 j) (a_rc : R_rc C2 S2) (a_rp : R_rp C2 S2) (a_wb3 : W_wb3 (n + 1) S2) (a_wb5 : W_wb5 (n + 1) S2) (a_wh : W_wh (n + 1) S2) : GG (n + 1) C2 S2 := by
  have h := gg_ok.1 _ _ _ h0
  exact ⟨⟨R_rb0_rg (fun b _ => uC (4 * b) (fun _ _ _ _ => by omega)) (fun b _ => uS (21 * b + 1) (fun _ _ _ _ => by omega)) h.1.rb0, R_rb1_rg (fun b _ => uC (4 * b + 1) (fun _ _ _ _ => by omega)) (fun b _ => uS (21 * b + 2) (fun _ _ _ _ => by omega)) h.1.rb1, R_rb2_rg (fun b _ => uC (4 * b + 2) (fun _ _ _ _ => by omega)) (fun b _ => uS (21 * b + 3) (fun _ _ _ _ => by omega)) h.1.rb2, R_rb3_rg (fun b _ => uC (4 * b + 3) (fun _ _ _ _ => by omega)) (fun b _ => uS (21 * b + 4) (fun _ _ _ _ => by omega)) h.1.rb3, a_rc, R_rl0_rg (fun l _ => uC (240 + 12 * l) (fun _ _ _ _ => by omega)) (fun l _ => uS (252 + 12 * l) (fun _ _ _ _ => by omega)) h.1.rl0, R_rl1_rg (fun l _ => uC (240 + 12 * l + 1) (fun _ _ _ _ => by omega)) (fun l _ => uS (252 + 12 * l + 1) (fun _ _ _ _ => by omega)) h.1.rl1, R_rl2_rg (fun l _ => uC (240 + 12 * l + 2) (fun _ _ _ _ => by omega)) (fun l _ => uS (252 + 12 * l + 2) (fun _ _ _ _ => by omega)) h.1.rl2, R_rl3_rg (fun l _ => uC (240 + 12 * l + 3) (fun _ _ _ _ => by omega)) (fun l _ => uS (252 + 12 * l + 3) (fun _ _ _ _ => by omega)) h.1.rl3, R_rls_rg (fun l i _ _ => uC (240 + 12 * l + 4 + i) (fun _ _ _ _ => by omega)) (fun l i _ _ => uS (252 + 12 * l + 4 + i) (fun _ _ _ _ => by omega)) h.1.rls, R_rt0_rg (fun t _ => uC (720 + 8 * t) (fun _ _ _ _ => by omega)) (fun t _ => uS (732 + 5 * t) (fun _ _ _ _ => by omega)) h.1.rt0, R_rt1_rg (fun t _ => uC (720 + 8 * t + 1) (fun _ _ _ _ => by omega)) (fun t _ => uS (732 + 5 * t + 1) (fun _ _ _ _ => by omega)) h.1.rt1, R_rt2_rg (fun t _ => uC (720 + 8 * t + 2) (fun _ _ _ _ => by omega)) (fun t _ => uS (732 + 5 * t + 2) (fun _ _ _ _ => by omega)) h.1.rt2, R_rt3_rg (fun t _ => uC (720 + 8 * t + 3) (fun _ _ _ _ => by omega)) (fun t _ => uS (732 + 5 * t + 3) (fun _ _ _ _ => by omega)) h.1.rt3, R_rh_rg (fun t _ => uC (720 + 8 * t + 5) (fun _ _ _ _ => by omega)) (fun t _ => uS (732 + 5 * t + 4) (fun _ _ _ _ => by omega)) h.1.rh, R_rf_rg (fun k _ => uC (1360 + k) (fun _ _ _ _ => by omega)) (fun k _ => uS (1432 + k) (fun _ _ _ _ => by omega)) h.1.rf, R_rq0_rg (fun c _ => uC (1368 + 5 * c) (fun _ _ _ _ => by omega)) (fun c _ => uS (1132 + 5 * c) (fun _ _ _ _ => by omega)) h.1.rq0, R_rq1_rg (fun c _ => uC (1368 + 5 * c + 1) (fun _ _ _ _ => by omega)) (fun c _ => uS (1132 + 5 * c + 1) (fun _ _ _ _ => by omega)) h.1.rq1, R_rq2_rg (fun c _ => uC (1368 + 5 * c + 2) (fun _ _ _ _ => by omega)) (fun c _ => uS (1132 + 5 * c + 2) (fun _ _ _ _ => by omega)) h.1.rq2, R_rq3_rg (fun c _ => uC (1368 + 5 * c + 3) (fun _ _ _ _ => by omega)) (fun c _ => uS (1132 + 5 * c + 3) (fun _ _ _ _ => by omega)) h.1.rq3, R_rq4_rg (fun c _ => uC (1368 + 5 * c + 4) (fun _ _ _ _ => by omega)) (fun c _ => uS (1132 + 5 * c + 4) (fun _ _ _ _ => by omega)) h.1.rq4, R_rn0_rg (uC (1868) (fun _ _ _ _ => by omega)) (uS (1640) (fun _ _ _ _ => by omega)) h.1.rn0, R_rn1_rg (uC (1869) (fun _ _ _ _ => by omega)) (uS (1641) (fun _ _ _ _ => by omega)) h.1.rn1, R_rn2_rg (uC (1870) (fun _ _ _ _ => by omega)) (uS (1642) (fun _ _ _ _ => by omega)) h.1.rn2, R_rn3_rg (uC (1871) (fun _ _ _ _ => by omega)) (uS (1643) (fun _ _ _ _ => by omega)) h.1.rn3, R_rn4_rg (uC (1872) (fun _ _ _ _ => by omega)) (uS (1644) (fun _ _ _ _ => by omega)) h.1.rn4, R_rn5_rg (uC (1873) (fun _ _ _ _ => by omega)) (uS (1645) (fun _ _ _ _ => by omega)) h.1.rn5, R_rg_rg (uS (1641) (fun _ _ _ _ => by omega)) (fun t _ => uS (732 + 5 * t) (fun _ _ _ _ => by omega)) (fun t _ => uS (732 + 5 * t + 3) (fun _ _ _ _ => by omega)) (fun t _ => uC (720 + 8 * t + 4) (fun _ _ _ _ => by omega)) h.1.rg, a_rp, R_rs_rg (uS (1643) (fun _ _ _ _ => by omega)) (fun k _ => uS (1440 + k) (fun _ _ _ _ => by omega)) (fun k _ => uC (1668 + k) (fun _ _ _ _ => by omega)) h.1.rs⟩, ⟨W_wn0_rg (uS (1640) (fun _ _ _ _ => by omega)) h.2.wn0, W_wn1_rg (uS (1641) (fun _ _ _ _ => by omega)) h.2.wn1, W_wn2_rg (uS (1642) (fun _ _ _ _ => by omega)) h.2.wn2, W_wn3_rg (uS (1643) (fun _ _ _ _ => by omega)) h.2.wn3, W_wn4_rg (uS (1644) (fun _ _ _ _ => by omega)) h.2.wn4, W_wn5_rg (uS (1645) (fun _ _ _ _ => by omega)) h.2.wn5, W_wb0_rg (fun b _ => uS (21 * b) (fun _ _ _ _ => by omega)) h.2.wb0, W_wbp_rg (fun b _ => uS (21 * b) (fun _ _ _ _ => by omega)) (fun b _ => uS (21 * b + 1) (fun _ _ _ _ => by omega)) h.2.wbp, W_wbg_rg (fun b _ => uS (21 * b) (fun _ _ _ _ => by omega)) (fun b _ => uS (21 * b + 2) (fun _ _ _ _ => by omega)) h.2.wbg, W_wbh_rg (fun b _ => uS (21 * b) (fun _ _ _ _ => by omega)) (fun b _ => uS (21 * b + 3) (fun _ _ _ _ => by omega)) h.2.wbh, W_wbk_rg (fun b _ => uS (21 * b) (fun _ _ _ _ => by omega)) (fun b _ => uS (21 * b + 4) (fun _ _ _ _ => by omega)) h.2.wbk, W_wb2_rg (fun b _ => uS (21 * b) (fun _ _ _ _ => by omega)) (fun b _ => uS (21 * b + 1) (fun _ _ _ _ => by omega)) h.2.wb2, W_wb2g_rg (fun b _ => uS (21 * b) (fun _ _ _ _ => by omega)) (fun b _ => uS (21 * b + 2) (fun _ _ _ _ => by omega)) h.2.wb2g, a_wb3, W_wb4_rg (fun b _ => uS (21 * b + 3) (fun _ _ _ _ => by omega)) h.2.wb4, W_wb4k_rg (fun b _ => uS (21 * b + 4) (fun _ _ _ _ => by omega)) h.2.wb4k, a_wb5, W_wl0_rg (uS (1640) (fun _ _ _ _ => by omega)) (fun l _ => uS (252 + 12 * l + 3) (fun _ _ _ _ => by omega)) h.2.wl0, W_wla_rg (uS (1640) (fun _ _ _ _ => by omega)) (fun l _ => uS (252 + 12 * l) (fun _ _ _ _ => by omega)) h.2.wla, W_wlb_rg (uS (1640) (fun _ _ _ _ => by omega)) (fun l _ => uS (252 + 12 * l + 1) (fun _ _ _ _ => by omega)) h.2.wlb, W_wlc_rg (uS (1640) (fun _ _ _ _ => by omega)) (fun l _ => uS (252 + 12 * l + 2) (fun _ _ _ _ => by omega)) h.2.wlc, W_wld_rg (uS (1640) (fun _ _ _ _ => by omega)) (fun l _ => uS (252 + 12 * l + 3) (fun _ _ _ _ => by omega)) h.2.wld, W_wl2_rg (uS (1640) (fun _ _ _ _ => by omega)) (fun l _ => uS (252 + 12 * l + 2) (fun _ _ _ _ => by omega)) (fun l i _ _ => uS (252 + 12 * l + 4 + i) (fun _ _ _ _ => by omega)) h.2.wl2, W_wl4_rg (fun l _ => uS (252 + 12 * l + 3) (fun _ _ _ _ => by omega)) (fun l _ => uS (252 + 12 * l) (fun _ _ _ _ => by omega)) (fun l _ => uS (252 + 12 * l + 1) (fun _ _ _ _ => by omega)) h.2.wl4, W_wt0_rg (uS (1641) (fun _ _ _ _ => by omega)) (fun t _ => uS (732 + 5 * t) (fun _ _ _ _ => by omega)) h.2.wt0, W_wt1_rg (uS (1641) (fun _ _ _ _ => by omega)) (fun t _ => uS (732 + 5 * t + 1) (fun _ _ _ _ => by omega)) h.2.wt1, W_wt2_rg (uS (1641) (fun _ _ _ _ => by omega)) (fun t _ => uS (732 + 5 * t + 2) (fun _ _ _ _ => by omega)) h.2.wt2, W_wt3_rg (uS (1641) (fun _ _ _ _ => by omega)) (fun t _ => uS (732 + 5 * t + 3) (fun _ _ _ _ => by omega)) h.2.wt3, W_wt4_rg (uS (1641) (fun _ _ _ _ => by omega)) (fun t _ => uS (732 + 5 * t + 4) (fun _ _ _ _ => by omega)) (fun t _ => uS (732 + 5 * t) (fun _ _ _ _ => by omega)) h.2.wt4, W_wqa_rg (uS (1642) (fun _ _ _ _ => by omega)) (fun c _ => uS (1132 + 5 * c) (fun _ _ _ _ => by omega)) h.2.wqa, W_wqb_rg (uS (1642) (fun _ _ _ _ => by omega)) (fun c _ => uS (1132 + 5 * c + 1) (fun _ _ _ _ => by omega)) h.2.wqb, W_wqc_rg (uS (1642) (fun _ _ _ _ => by omega)) (fun c _ => uS (1132 + 5 * c + 2) (fun _ _ _ _ => by omega)) h.2.wqc, W_wqd_rg (uS (1642) (fun _ _ _ _ => by omega)) (fun c _ => uS (1132 + 5 * c + 3) (fun _ _ _ _ => by omega)) h.2.wqd, W_wqe_rg (uS (1642) (fun _ _ _ _ => by omega)) (fun c _ => uS (1132 + 5 * c + 4) (fun _ _ _ _ => by omega)) h.2.wqe, W_wq2_rg (uS (1642) (fun _ _ _ _ => by omega)) (fun c _ => uS (1132 + 5 * c) (fun _ _ _ _ => by omega)) (fun b _ => uS (21 * b) (fun _ _ _ _ => by omega)) (fun c _ => uS (1132 + 5 * c + 4) (fun _ _ _ _ => by omega)) (fun c _ => uS (1132 + 5 * c + 2) (fun _ _ _ _ => by omega)) (fun c _ => uS (1132 + 5 * c + 3) (fun _ _ _ _ => by omega)) (uS (1645) (fun _ _ _ _ => by omega)) h.2.wq2, W_wf_rg (fun k _ => uS (1432 + k) (fun _ _ _ _ => by omega)) h.2.wf, a_wh⟩⟩
/-- a place that no thing hangs in, before and behind -/
theorem hung_low {ct ct2 : Nat → Nat → Int32} {k tb tp : Int32} {t b p : Nat} (ht : t < 80) (h : Hung ct k tb tp t) (hc : ∀ b2 p2, ¬ (b2 = b ∧ p2 = p) → ct2 b2 p2 = ct b2 p2) (h1 : ∀ t, t < 80 → ct b p ≠ Int32.ofNat (2 + t)) (h2 : ∀ t, t < 80 → ct2 b p ≠ Int32.ofNat (2 + t)) : Hung ct2 k tb tp t := by
  have key : ∀ b2 p2, ct2 b2 p2 = Int32.ofNat (2 + t) ↔ ct b2 p2 = Int32.ofNat (2 + t) := by
    intro b2 p2
    by_cases q : b2 = b ∧ p2 = p
    · rw [q.1, q.2]
      exact ⟨fun e => absurd e (h2 t ht), fun e => absurd e (h1 t ht)⟩
    · rw [hc b2 p2 q]
  unfold Hung at h ⊢
  simp only [ne_eq, key]
  exact h
theorem ne_thing {x : Int32} (h : x = 0 ∨ x = 1) {t : Nat} (ht : t < 80) : x ≠ Int32.ofNat (2 + t) := by
  intro e
  rcases h with h | h
  · rw [h] at e
    have := (nat_eq (a := 0) (by omega) (by omega)).mp e
    omega
  · rw [h] at e
    have := (nat_eq (a := 1) (by omega) (by omega)).mp e
    omega
theorem gg_hook2 {n : Nat} {C S : AT} {b p : Nat} {x : Int32} (h : GG n C S) (hb : b < 12) (hp : p < 16) (hx : x = 0 ∨ x = 1) (ho : S (21 * b + 5 + p) = 0 ∨ S (21 * b + 5 + p) = 1) (hpl : ¬ S (21 * b + 1) ≤ Int32.ofNat p) : GG (n + 1) (upd C (48 + 16 * b + p) x) (upd S (21 * b + 5 + p) x) := by
  have kt : ∀ c q, c < 12 → q < 16 → ∀ t, t < 80 → (upd S (21 * b + 5 + p) x (21 * c + 5 + q) = Int32.ofNat (2 + t)) → S (21 * c + 5 + q) = Int32.ofNat (2 + t) := by
    intro c q hc hq t ht e
    by_cases hh : c = b ∧ q = p
    · obtain ⟨rfl, rfl⟩ := hh
      rw [upd_same] at e
      exact absurd e (ne_thing hx ht)
    · rw [upd_ne (by omega)] at e; exact e
  refine gg_hook h (fun j hj => by rw [upd_at, if_neg (hj b p hb hp)]) (fun j hj => by rw [upd_at, if_neg (hj b p hb hp)]) ?_ ?_ ?_ ?_ ?_
  · intro c q hc hq
    by_cases hh : c = b ∧ q = p
    · obtain ⟨rfl, rfl⟩ := hh
      rw [upd_same, upd_same]
    · rw [upd_ne (by omega), upd_ne (by omega)]; exact h.1.rc c q hc hq
  · intro t ht h2
    rw [upd_ne (by omega)] at h2
    rw [upd_ne (by omega), upd_ne (by omega), upd_ne (by omega)]
    refine hung_low (b := b) (p := p) ht (h.1.rp t ht h2) (fun b2 p2 hh => ?_) (fun t ht => ?_) (fun t ht => ?_)
    · unfold ctS
      by_cases q : b2 < 12 ∧ p2 < 16
      · rw [if_pos q, if_pos q, upd_ne (by omega)]
      · rw [if_neg q, if_neg q]
    · unfold ctS; rw [if_pos ⟨hb, hp⟩]; exact ne_thing ho ht
    · unfold ctS; rw [if_pos ⟨hb, hp⟩, upd_same]; exact ne_thing hx ht
  · intro c q hc hq hle
    rw [upd_ne (by omega)] at hle
    by_cases hh : c = b ∧ q = p
    · obtain ⟨rfl, rfl⟩ := hh
      exact absurd hle hpl
    · rw [upd_ne (by omega)]; exact h.2.wb3 c q hc hq hle
  · intro c q hc hq
    by_cases hh : c = b ∧ q = p
    · obtain ⟨rfl, rfl⟩ := hh
      rw [upd_same]
      exact hx.imp id (fun e => Or.inl e)
    · rw [upd_ne (by omega), upd_ne (by omega)]; exact h.2.wb5 c q hc hq
  · intro c q r t u hc hq hr g1 g2 ht hu hn1 e1 e2 e3
    have e1 := kt c q hc hq t ht e1
    have e2 := kt c r hc hr u hu e2
    rw [upd_ne (by omega)] at e3 ⊢
    exact h.2.wh c q r t u hc hq hr g1 g2 ht hu (by omega) e1 e2 e3
theorem aok_hook (v1 v2 v3 : Int32) (h3 : v3 = 0 ∨ v3 = 1) : AOK (noJ (f_X6_setHook v1 v2 v3)) (f_X12_hook v1 v2 v3) := by
  intro n O B V J M M1 hn sb hgg em sm
  have hf0 : M1 7 2 = 0 := sm.2.2.2.1
  have h5 : V 11 5 = 0 := sb.2.2.2.2.1
  have m0 : M1 0 = M 0 := sm.1
  rcases rng 12 (by omega) v1 with ⟨b, hb, rfl⟩ | hbad
  · have e3 := m_isBar_yes (M := M1) hb
    have e4 := m_rigged (M := M1) hb
    rw [m0] at e4
    have eb := m_bar0 (b := b) (M := M1)
    have i2 := is_no 2 hf0
    have i1 := is_no 1 hf0
    by_cases h1 : M 0 (21 * b) = 1
    · have e1 := c_refBar_yes h5 hgg hb h1
      have e5 := c_hasPlace v2 hgg hb
      have e6 := m_isPlace (M := M1) v2 hb
      rw [m0] at e6
      have i2' := is_no 12 hf0
      by_cases hv : v2 < 0 ∨ M 0 (21 * b + 1) ≤ v2
      · rw [if_pos hv] at e5 e6
        refine aok_ref 2 (by decide) sb sm (fun V2 er sr => ?_) (fun M2 M3 ei er2 => ?_)
        · simp only [f_X6_setHook_j87, f_X6_setHook, e1, e5, er, Option.bind_some, if_true, if_false, ite_self, i10, i01, ite01, ite10, true_or, or_true, false_or, or_false, leN, ite_not, not_true_eq_false, not_false_eq_true]
        · simp only [f_X12_hook_j91, f_X12_hook_j116, f_X12_hook_j83, f_X12_hook_j60, f_X12_hook_j38, f_X12_hook_j17, f_X12_hook, em, e3, i2, e4, h1, i1, e6, ei, er2, Option.bind_some, if_true, if_false, ite_self, i10, i01, ite01, ite10, true_or, or_true, false_or, or_false, leN, ite_not, not_true_eq_false, not_false_eq_true]
      · rw [if_neg hv] at e5 e6
        obtain ⟨p, hp, rfl⟩ := place_of hgg hb h1 hv
        have e7 := m_held (M := M1) hb hp
        rw [m0] at e7
        have e8 : f_X7_get 48 12 16 (Int32.ofNat b) (Int32.ofNat p) V = some (M 0 (21 * b + 5 + p)) := by rw [← hgg.1.rc b p hb hp]; exact gcon hb hp
        rcases low_ct hgg hb hp with ⟨hl, ho⟩ | ⟨hl, -⟩
        · have done : ∀ x : Int32, (x = 0 ∨ x = 1) → (∀ y V2, f_X4_write (Int32.ofNat (48 + 16 * b + p)) x V = some V2 → y = M 0 (21 * b + 5 + p) → f_X6_setHook (Int32.ofNat b) (Int32.ofNat p) v3 V = some (y, V2)) → (f_X12_hook (Int32.ofNat b) (Int32.ofNat p) v3 M = (f_X12_keep (M 0 (21 * b + 5 + p)) (u2 M1 0 (21 * b + 5 + p) x)).bind fun r => some (r.1, r.2)) → AO n O B M M1 (noJ (f_X6_setHook (Int32.ofNat b) (Int32.ofNat p) v3) V J) (f_X12_hook (Int32.ofNat b) (Int32.ofNat p) v3 M) := by
            intro x hx hc hm
            obtain ⟨V2, ew, sw, -⟩ := st_write (c := 48 + 16 * b + p) x sb (by omega) (by omega)
            exact aok_done sw (ms_put (k := 21 * b + 5 + p) x sm (by omega)) (hc _ V2 ew rfl) hm (gg_hook2 hgg hb hp hx ho (fun q => hv (Or.inr q)))
          have es0 := scon (V := V) 0 hb hp
          have es1 := scon (V := V) 1 hb hp
          have ep0 := m_put (M := M1) 0 hb hp
          have ep1 := m_put (M := M1) 1 hb hp
          have hl1 : M 0 (21 * b + 5 + p) = 0 ∧ ¬ M 0 (21 * b + 5 + p) = 1 ∨ M 0 (21 * b + 5 + p) = 1 := ho.imp (fun e => ⟨e, by rw [e]; decide⟩) id
          rcases h3 with h3 | h3
          · refine done 0 (Or.inl rfl) (fun y V2 ew hy => ?_) ?_
            · rcases hl1 with ⟨q, q2⟩ | q
              · simp only [f_X6_setHook_j87, f_X6_setHook, e1, e5, e8, hl, h3, es0, ew, q2, Option.bind_some, if_true, if_false, ite_self, i10, i01, ite01, ite10, true_or, or_true, false_or, or_false, leN, ite_not, not_true_eq_false, not_false_eq_true]; rw [hy, q]
              · simp only [f_X6_setHook_j87, f_X6_setHook, e1, e5, e8, hl, h3, es0, ew, eq_true q, Option.bind_some, if_true, if_false, ite_self, i10, i01, ite01, ite10, true_or, or_true, false_or, or_false, leN, ite_not, not_true_eq_false, not_false_eq_true]; rw [hy, q]
            · simp only [f_X12_hook_j91, f_X12_hook_j116, f_X12_hook_j83, f_X12_hook_j60, f_X12_hook_j38, f_X12_hook_j17, f_X12_hook, em, e3, i2, e4, h1, i1, e6, e7, hl, i2', h3, ep0, Option.bind_some, if_true, if_false, ite_self, i10, i01, ite01, ite10, true_or, or_true, false_or, or_false, leN, ite_not, not_true_eq_false, not_false_eq_true]
          · refine done 1 (Or.inr rfl) (fun y V2 ew hy => ?_) ?_
            · rcases hl1 with ⟨q, q2⟩ | q
              · simp only [f_X6_setHook_j87, f_X6_setHook, e1, e5, e8, hl, h3, es1, ew, q2, Option.bind_some, if_true, if_false, ite_self, i10, i01, ite01, ite10, true_or, or_true, false_or, or_false, leN, ite_not, not_true_eq_false, not_false_eq_true]; rw [hy, q]
              · simp only [f_X6_setHook_j87, f_X6_setHook, e1, e5, e8, hl, h3, es1, ew, eq_true q, Option.bind_some, if_true, if_false, ite_self, i10, i01, ite01, ite10, true_or, or_true, false_or, or_false, leN, ite_not, not_true_eq_false, not_false_eq_true]; rw [hy, q]
            · simp only [f_X12_hook_j91, f_X12_hook_j116, f_X12_hook_j83, f_X12_hook_j60, f_X12_hook_j38, f_X12_hook_j17, f_X12_hook, em, e3, i2, e4, h1, i1, e6, e7, hl, i2', h3, ep1, Option.bind_some, if_true, if_false, ite_self, i10, i01, ite01, ite10, true_or, or_true, false_or, or_false, leN, ite_not, not_true_eq_false, not_false_eq_true]
        · refine aok_ref 12 (by decide) sb sm (fun V2 er sr => ?_) (fun M2 M3 ei er2 => ?_)
          · simp only [f_X6_setHook_j87, f_X6_setHook, e1, e5, e8, hl, er, Option.bind_some, if_true, if_false, ite_self, i10, i01, ite01, ite10, true_or, or_true, false_or, or_false, leN, ite_not, not_true_eq_false, not_false_eq_true]
          · simp only [f_X12_hook_j91, f_X12_hook_j116, f_X12_hook_j83, f_X12_hook_j60, f_X12_hook_j38, f_X12_hook_j17, f_X12_hook, em, e3, i2, e4, h1, i1, e6, e7, hl, ei, er2, Option.bind_some, if_true, if_false, ite_self, i10, i01, ite01, ite10, true_or, or_true, false_or, or_false, leN, ite_not, not_true_eq_false, not_false_eq_true]
    · refine aok_ref 1 (by decide) sb sm (fun V2 er sr => ?_) (fun M2 M3 ei er2 => ?_)
      · have e1 := c_bar_ref (by decide) (Or.inr ⟨b, n, _, rfl, hb, hgg, h1, rfl⟩) er sr
        simp only [f_X6_setHook_j87, f_X6_setHook, e1, Option.bind_some, if_true, if_false, ite_self, i10, i01, ite01, ite10, true_or, or_true, false_or, or_false, leN, ite_not, not_true_eq_false, not_false_eq_true]
      · simp only [f_X12_hook_j91, f_X12_hook_j116, f_X12_hook_j83, f_X12_hook_j60, f_X12_hook_j38, f_X12_hook_j17, f_X12_hook, em, e3, i2, e4, h1, ei, er2, Option.bind_some, if_true, if_false, ite_self, i10, i01, ite01, ite10, true_or, or_true, false_or, or_false, leN, ite_not, not_true_eq_false, not_false_eq_true]
  · have e3 := m_isBar_no (M := M1) hbad
    refine aok_ref 2 (by decide) sb sm (fun V2 er sr => ?_) (fun M2 M3 ei er2 => ?_)
    · have e1 := c_bar_ref (by decide) (Or.inl ⟨hbad, rfl⟩) er sr
      simp only [f_X6_setHook_j87, f_X6_setHook, e1, Option.bind_some, if_true, if_false, ite_self, i10, i01, ite01, ite10, true_or, or_true, false_or, or_false, leN, ite_not, not_true_eq_false, not_false_eq_true]
    · simp only [f_X12_hook_j91, f_X12_hook_j116, f_X12_hook_j83, f_X12_hook_j60, f_X12_hook_j38, f_X12_hook_j17, f_X12_hook, em, e3, ei, er2, Option.bind_some, if_true, if_false, ite_self, i10, i01, ite01, ite10, true_or, or_true, false_or, or_false, leN, ite_not, not_true_eq_false, not_false_eq_true]
theorem o_hook : O_hook (IG GG) := fun _ _ _ _ _ v1 v2 v3 hn h3 hI => aok_run (aok_hook v1 v2 v3 h3) hn hI aok_nF
