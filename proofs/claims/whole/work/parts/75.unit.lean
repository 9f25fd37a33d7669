/-! go: clashes with the bars beside a group -/
noncomputable def kl (S : AT) (d : Int32) (lo hi b p : Nat) : Option Nat := if b = lo ∧ 1 ≤ b ∧ clb S b (S (21 * b + 3) + d) (b - 1) p = true then some (b - 1) else if b = hi ∧ b + 1 < 12 ∧ clb S b (S (21 * b + 3) + d) (b + 1) p = true then some (b + 1) else none
theorem m1_at {b : Nat} (h : 1 ≤ b) : Int32.ofNat b - 1 = Int32.ofNat (b - 1) := sub32 (b := 1) h
theorem c_wl {W : VT} {S : AT} {b p : Nat} (v : Int32) (h : GG 1000 (W 0) S) (hb : b < 12) (hp : p < 16) : f_X5_wouldClash (Int32.ofNat b) v (Int32.ofNat b - 1) (Int32.ofNat p) W = some (if 1 ≤ b ∧ clb S b v (b - 1) p = true then 1 else 0) := by
  by_cases b0 : 1 ≤ b
  · rw [m1_at b0, c_would v h hb (by omega) hp]
    by_cases q : clb S b v (b - 1) p = true
    · rw [if_pos q, if_pos ⟨b0, q⟩]
    · rw [if_neg q, if_neg (fun e => q e.2)]
  · have e : b = 0 := by omega
    subst e
    rw [if_neg (fun e => b0 e.1)]
    exact c_would_out (Or.inl (by decide)) ⟨_, gcon hb hp⟩
theorem c_wr {W : VT} {S : AT} {b p : Nat} (v : Int32) (h : GG 1000 (W 0) S) (hb : b < 12) (hp : p < 16) : f_X5_wouldClash (Int32.ofNat b) v (Int32.ofNat b + 1) (Int32.ofNat p) W = some (if b + 1 < 12 ∧ clb S b v (b + 1) p = true then 1 else 0) := by
  rw [nat_succ]
  by_cases b0 : b + 1 < 12
  · rw [c_would v h hb (by omega) hp]
    by_cases q : clb S b v (b + 1) p = true
    · rw [if_pos q, if_pos ⟨b0, q⟩]
    · rw [if_neg q, if_neg (fun e => q e.2)]
  · rw [if_neg (fun e => b0 e.1)]
    exact c_would_out (Or.inr ((nat_le (a := 12) (by omega) (by omega)).mpr (by omega))) ⟨_, gcon hb hp⟩
theorem c_klStep {V : VT} {S : AT} {d v6 : Int32} {lo hi b p : Nat} (h : GG 1000 (V 0) S) (hlo : lo ≤ hi) (hh : hi < 12) (hb : b = lo ∨ b = hi) (hp : p < 16) (hv : ¬ v6 ≤ Int32.ofNat p) : ∃ V2, SC V V2 ∧ ((kl S d lo hi b p = none ∧ f_X0_willClash_B59 (Int32.ofNat lo) (Int32.ofNat hi) d (Int32.ofNat b) (S (21 * b + 3) + d) v6 (Int32.ofNat p, V) = some (.inl (Int32.ofNat (p + 1), V2))) ∨ ∃ o, kl S d lo hi b p = some o ∧ f_X0_willClash_B59 (Int32.ofNat lo) (Int32.ofNat hi) d (Int32.ofNat b) (S (21 * b + 3) + d) v6 (Int32.ofNat p, V) = some (.inr (.inr (1, V2))) ∧ V2 11 8 = Int32.ofNat b ∧ V2 11 9 = Int32.ofNat o ∧ V2 11 10 = Int32.ofNat p) := by
  have hb12 : b < 12 := by omega
  obtain ⟨W, hW⟩ : ∃ W, W = u2 (u2 (u2 V 11 8 (Int32.ofNat b)) 11 10 (Int32.ofNat p)) 11 9 (Int32.ofNat b - 1) := ⟨_, rfl⟩
  obtain ⟨W2, hW2⟩ : ∃ W2, W2 = u2 W 11 9 (Int32.ofNat b + 1) := ⟨_, rfl⟩
  have s1 : SC V W := by rw [hW]; exact ((sc_u _ (by omega)).tr (sc_u _ (by omega))).tr (sc_u _ (by omega))
  have s2 : SC V W2 := by rw [hW2]; exact s1.tr (sc_u _ (by omega))
  have w9 : W 11 9 = Int32.ofNat b - 1 := by rw [hW, u2_at, if_pos ⟨rfl, rfl⟩]
  have w8 : W 11 8 = Int32.ofNat b := by rw [hW, u2_at, if_neg (by omega), u2_at, if_neg (by omega), u2_at, if_pos ⟨rfl, rfl⟩]
  have w10 : W 11 10 = Int32.ofNat p := by rw [hW, u2_at, if_neg (by omega), u2_at, if_pos ⟨rfl, rfl⟩]
  have x9 : W2 11 9 = Int32.ofNat b + 1 := by rw [hW2, u2_at, if_pos ⟨rfl, rfl⟩]
  have x8 : W2 11 8 = Int32.ofNat b := by rw [hW2, u2_at, if_neg (by omega)]; exact w8
  have x10 : W2 11 10 = Int32.ofNat p := by rw [hW2, u2_at, if_neg (by omega)]; exact w10
  have hL := c_wl (W := W) (S (21 * b + 3) + d) (by rw [s1.1 0 (by omega)]; exact h) hb12 hp
  have hR := c_wr (W := W2) (S (21 * b + 3) + d) (by rw [s2.1 0 (by omega)]; exact h) hb12 hp
  have elo : (Int32.ofNat b = Int32.ofNat lo) ↔ b = lo := nat_eq (by omega) (by omega)
  have ehi : (Int32.ofNat b = Int32.ofNat hi) ↔ b = hi := nat_eq (by omega) (by omega)
  have ps : Int32.ofNat p + 1 = Int32.ofNat (p + 1) := nat_succ
  unfold kl
  by_cases qa : b = lo ∧ 1 ≤ b ∧ clb S b (S (21 * b + 3) + d) (b - 1) p = true
  · refine ⟨W, s1, Or.inr ⟨b - 1, by rw [if_pos qa], ?_, w8, by rw [w9, m1_at qa.2.1], w10⟩⟩
    rw [if_pos qa.2] at hL
    have e1 : Int32.ofNat b = Int32.ofNat lo := elo.mpr qa.1
    simp only [f_X0_willClash_B59, hv, ← hW, w9, eq_true e1, hL, bsm, if_true, if_false, ite_self, i10, i01, ite01, ite10, true_or, or_true, false_or, or_false, ite_not, not_true_eq_false, not_false_eq_true]
  · have j1 : f_X0_willClash_B59 (Int32.ofNat lo) (Int32.ofNat hi) d (Int32.ofNat b) (S (21 * b + 3) + d) v6 (Int32.ofNat p, V) = f_X0_willClash_j114 (Int32.ofNat lo) (Int32.ofNat hi) d (Int32.ofNat b) (S (21 * b + 3) + d) v6 (Int32.ofNat p) W := by
      by_cases bl : b = lo
      · rw [if_neg (fun e => qa ⟨bl, e⟩)] at hL
        have e1 : Int32.ofNat b = Int32.ofNat lo := elo.mpr bl
        simp only [f_X0_willClash_B59, hv, ← hW, w9, eq_true e1, hL, bsm, if_true, if_false, ite_self, i10, i01, ite01, ite10, true_or, or_true, false_or, or_false, ite_not, not_true_eq_false, not_false_eq_true]
      · simp only [f_X0_willClash_B59, hv, ← hW, elo, bl, bsm, if_true, if_false, ite_self, i10, i01, ite01, ite10, true_or, or_true, false_or, or_false, ite_not, not_true_eq_false, not_false_eq_true]
    rw [j1, if_neg qa]
    by_cases qb : b = hi ∧ b + 1 < 12 ∧ clb S b (S (21 * b + 3) + d) (b + 1) p = true
    · refine ⟨W2, s2, Or.inr ⟨b + 1, by rw [if_pos qb], ?_, x8, by rw [x9, nat_succ], x10⟩⟩
      rw [if_pos qb.2] at hR
      have e1 : Int32.ofNat b = Int32.ofNat hi := ehi.mpr qb.1
      simp only [f_X0_willClash_j114, ← hW2, x9, eq_true e1, hR, bsm, if_true, if_false, ite_self, i10, i01, ite01, ite10, true_or, or_true, false_or, or_false, ite_not, not_true_eq_false, not_false_eq_true]
    · refine ⟨W2, s2, Or.inl ⟨by rw [if_neg qb], ?_⟩⟩
      by_cases bh : b = hi
      · rw [if_neg (fun e => qb ⟨bh, e⟩)] at hR
        have e1 : Int32.ofNat b = Int32.ofNat hi := ehi.mpr bh
        simp only [f_X0_willClash_j114, f_X0_willClash_j150, ← hW2, x9, eq_true e1, hR, ps, bsm, if_true, if_false, ite_self, i10, i01, ite01, ite10, true_or, or_true, false_or, or_false, ite_not, not_true_eq_false, not_false_eq_true]
      · simp only [f_X0_willClash_j114, f_X0_willClash_j150, ← hW2, ehi, bh, ps, bsm, if_true, if_false, ite_self, i10, i01, ite01, ite10, true_or, or_true, false_or, or_false, ite_not, not_true_eq_false, not_false_eq_true]
/-- one bar's places: q the first that clashes, P their number -/
theorem c_klBar {V : VT} {S : AT} {d : Int32} {lo hi b q P : Nat} (h : GG 1000 (V 0) S) (hlo : lo ≤ hi) (hh : hi < 12) (hb : b = lo ∨ b = hi) (hP : P ≤ 16) (eP : S (21 * b + 1) = Int32.ofNat P) (hq : q ≤ P) (h1 : ∀ p, p < q → kl S d lo hi b p = none) : ∃ V2, SC V V2 ∧ (q = P → f_X0_willClash_j24 (Int32.ofNat lo) (Int32.ofNat hi) d (Int32.ofNat b) V = some (.inl (Int32.ofNat (b + 1), V2))) ∧ (∀ o, q < P → kl S d lo hi b q = some o → f_X0_willClash_j24 (Int32.ofNat lo) (Int32.ofNat hi) d (Int32.ofNat b) V = some (.inr (1, V2)) ∧ V2 11 8 = Int32.ofNat b ∧ V2 11 9 = Int32.ofNat o ∧ V2 11 10 = Int32.ofNat q) := by
  have hb12 : b < 12 := by omega
  have e2 : f_X7_get 0 12 4 (Int32.ofNat b) 2 V = some (S (21 * b + 3)) := by rw [← h.1.rb2 b hb12]; exact gbar (c := 2) hb12 (by omega)
  have e0 : f_X7_get 0 12 4 (Int32.ofNat b) 0 V = some (Int32.ofNat P) := by rw [← eP, ← h.1.rb0 b hb12]; exact gbar (c := 0) hb12 (by omega)
  by_cases hs : q = P ∨ ∃ o, kl S d lo hi b q = some o
  · have key := lp_inv (f := f_X0_willClash_B59 (Int32.ofNat lo) (Int32.ofNat hi) d (Int32.ofNat b) (S (21 * b + 3) + d) (Int32.ofNat P)) (Q := fun y => ∃ V2, SC V V2 ∧ (q = P → y = .inl (Int32.ofNat (b + 1), V2)) ∧ (∀ o, q < P → kl S d lo hi b q = some o → y = .inr (1, V2) ∧ V2 11 8 = Int32.ofNat b ∧ V2 11 9 = Int32.ofNat o ∧ V2 11 10 = Int32.ofNat q)) (fun i s => s.1 = Int32.ofNat i ∧ SC V s.2) q 0 fuel ((0 : Int32), V) ⟨rfl, SC.rf⟩ (fun i s _ hi2 hI => ?_) (fun s hI => ?_) (fuel_big (by omega))
    · obtain ⟨y, ey, V2, s2, y1, y2⟩ := key
      refine ⟨V2, s2, fun e => ?_, fun o a b => ?_⟩
      · unfold f_X0_willClash_j24
        simp only [e2, e0, bsm]
        rw [ey, y1 e]
      · obtain ⟨y3, y4⟩ := y2 o a b
        refine ⟨?_, y4⟩
        unfold f_X0_willClash_j24
        simp only [e2, e0, bsm]
        rw [ey, y3]
    · obtain ⟨x, V'⟩ := s
      obtain ⟨hx, hsc⟩ := hI
      have hx : x = Int32.ofNat i := hx
      subst hx
      have hsc : SC V V' := hsc
      have hv : ¬ Int32.ofNat P ≤ Int32.ofNat i := fun q => by have := (nat_le (by omega) (by omega)).mp q; omega
      obtain ⟨V2, s2, hc⟩ := c_klStep (V := V') (d := d) (by rw [hsc.1 0 (by omega)]; exact h) hlo hh hb (p := i) (by omega) hv
      rcases hc with ⟨-, e⟩ | ⟨o, ko, -⟩
      · exact ⟨(Int32.ofNat (i + 1), V2), e, rfl, hsc.tr s2⟩
      · rw [h1 i (by omega)] at ko; cases ko
    · obtain ⟨x, V'⟩ := s
      rw [Nat.zero_add] at hI
      obtain ⟨hx, hsc⟩ := hI
      have hx : x = Int32.ofNat q := hx
      subst hx
      have hsc : SC V V' := hsc
      by_cases qP : q = P
      · have hv : Int32.ofNat P ≤ Int32.ofNat q := by rw [qP]; exact Int32.le_refl _
        refine ⟨.inl (Int32.ofNat (b + 1), V'), ?_, V', hsc, fun _ => rfl, fun o a => by omega⟩
        simp only [f_X0_willClash_B59, f_X0_willClash_j156, hv, nat_succ, bsm, if_true, if_false, ite_self, i10, i01, ite01, ite10, true_or, or_true, false_or, or_false, ite_not, not_true_eq_false, not_false_eq_true]
      · obtain ⟨o, ko⟩ := hs.resolve_left qP
        have hv : ¬ Int32.ofNat P ≤ Int32.ofNat q := fun q2 => by have := (nat_le (by omega) (by omega)).mp q2; omega
        obtain ⟨V2, s2, hc⟩ := c_klStep (V := V') (d := d) (by rw [hsc.1 0 (by omega)]; exact h) hlo hh hb (p := q) (by omega) hv
        rcases hc with ⟨kn, -⟩ | ⟨o2, ko2, e, r⟩
        · rw [ko] at kn; cases kn
        · refine ⟨.inr (1, V2), e, V2, hsc.tr s2, fun q3 => absurd q3 qP, fun o3 _ ko3 => ⟨rfl, ?_⟩⟩
          rw [ko2] at ko3
          cases ko3
          exact r
  · exact ⟨V, SC.rf, fun e => absurd (Or.inl e) hs, fun o _ ko => absurd (Or.inr ⟨o, ko⟩) hs⟩
theorem m_klStep {C : AT} {M : VT} {d : Int32} {lo hi b p m : Nat} (h : GG 1000 C (M 0)) (h1 : lo ≤ b) (h2 : b ≤ hi) (hh : hi < 12) (hp : p < 16) (hm : m ≤ 2000000) (hN : M 0 1643 = Int32.ofNat m) : (kl (M 0) d lo hi b p = none → lp (f_X12_stops_B160 (Int32.ofNat lo) (Int32.ofNat hi) d (Int32.ofNat b) (Int32.ofNat p) M) fuel (Int32.ofNat b - 1) = some (.inl (Int32.ofNat (p + 1)))) ∧ (∀ o, kl (M 0) d lo hi b p = some o → lp (f_X12_stops_B160 (Int32.ofNat lo) (Int32.ofNat hi) d (Int32.ofNat b) (Int32.ofNat p) M) fuel (Int32.ofNat b - 1) = some (.inr (.inr (1, setRow M 0 (ntS (M 0) m 4 (Int32.ofNat b) (Int32.ofNat o) (Int32.ofNat p)))))) := by
  obtain ⟨F, hF⟩ : ∃ F, fuel = F + 1 + 1 + 1 := ⟨fuel - 3, by have := fuel_big (k := 3) (by omega); omega⟩
  have eb := m_height (M := M) (b := b) (by omega)
  have fA : f_X12_stops_B160 (Int32.ofNat lo) (Int32.ofNat hi) d (Int32.ofNat b) (Int32.ofNat p) M (Int32.ofNat b - 1) = if b = lo ∧ 1 ≤ b ∧ clb (M 0) b (M 0 (21 * b + 3) + d) (b - 1) p = true then some (.inr (.inr (.inr (1, setRow M 0 (ntS (M 0) m 4 (Int32.ofNat b) (Int32.ofNat (b - 1)) (Int32.ofNat p)))))) else some (.inl (Int32.ofNat (b + 1))) := by
    by_cases b0 : 1 ≤ b
    · rw [m1_at b0]
      have n1 : ¬ Int32.ofNat (b + 1) < Int32.ofNat (b - 1) := fun q => by have := (nat_lt (by omega) (by omega)).mp q; omega
      have a2 : Int32.ofNat (b - 1) + 2 = Int32.ofNat (b + 1) := by rw [show b + 1 = b - 1 + 2 by omega, Int32.ofNat_add (b - 1) 2]; rfl
      have ei := in_eq (v := Int32.ofNat (b - 1)) (a := Int32.ofNat lo) (b := Int32.ofNat hi) (M := M)
      by_cases bl : b = lo
      · rw [if_pos (Or.inl ((nat_lt (by omega) (by omega)).mpr (by omega)))] at ei
        have e1 := m_isBar_yes (M := M) (b := b - 1) (by omega)
        have e2 := m_height (M := M) (b := b - 1) (by omega)
        have e3 := m_clash (o := b - 1) (p := p) (M 0 (21 * b + 3) + d) h (b := b) (by omega) (by omega) hp
        by_cases q : clb (M 0) b (M 0 (21 * b + 3) + d) (b - 1) p = true
        · rw [if_pos ⟨bl, b0, q⟩]
          rw [if_pos q] at e3
          simp only [f_X12_stops_B160, nat_succ, n1, ei, e1, eb, e2, e3, m_note 4 (Int32.ofNat b) (Int32.ofNat (b - 1)) (Int32.ofNat p) hm hN, bsm, if_true, if_false, ite_self, i10, i01, ite01, ite10, true_or, or_true, false_or, or_false, ite_not, not_true_eq_false, not_false_eq_true]
        · rw [if_neg (fun e => q e.2.2)]
          rw [if_neg q] at e3
          simp only [f_X12_stops_B160, f_X12_stops_j230, nat_succ, n1, ei, e1, eb, e2, e3, a2, bsm, if_true, if_false, ite_self, i10, i01, ite01, ite10, true_or, or_true, false_or, or_false, ite_not, not_true_eq_false, not_false_eq_true]
      · rw [if_neg (fun e => e.elim (fun e => by have := (nat_lt (by omega) (by omega)).mp e; omega) (fun e => by have := (nat_lt (by omega) (by omega)).mp e; omega))] at ei
        rw [if_neg (fun e => bl e.1)]
        simp only [f_X12_stops_B160, f_X12_stops_j230, nat_succ, n1, ei, a2, bsm, if_true, if_false, ite_self, i10, i01, ite01, ite10, true_or, or_true, false_or, or_false, ite_not, not_true_eq_false, not_false_eq_true]
    · have e : b = 0 := by omega
      subst e
      have el : lo = 0 := by omega
      subst el
      rw [if_neg (fun e => b0 e.2.1)]
      have ei := in_eq (v := Int32.ofNat 0 - 1) (a := Int32.ofNat 0) (b := Int32.ofNat hi) (M := M)
      rw [if_pos (Or.inl (by decide))] at ei
      have e1 := m_isBar_no (M := M) (v := Int32.ofNat 0 - 1) (Or.inl (by decide))
      have n1 : ¬ Int32.ofNat 0 + 1 < Int32.ofNat 0 - 1 := by decide
      have a2 : Int32.ofNat 0 - 1 + 2 = Int32.ofNat (0 + 1) := by decide
      simp only [f_X12_stops_B160, f_X12_stops_j230, n1, ei, e1, a2, bsm, if_true, if_false, ite_self, i10, i01, ite01, ite10, true_or, or_true, false_or, or_false, ite_not, not_true_eq_false, not_false_eq_true]
  have fB : f_X12_stops_B160 (Int32.ofNat lo) (Int32.ofNat hi) d (Int32.ofNat b) (Int32.ofNat p) M (Int32.ofNat (b + 1)) = if b = hi ∧ b + 1 < 12 ∧ clb (M 0) b (M 0 (21 * b + 3) + d) (b + 1) p = true then some (.inr (.inr (.inr (1, setRow M 0 (ntS (M 0) m 4 (Int32.ofNat b) (Int32.ofNat (b + 1)) (Int32.ofNat p)))))) else some (.inl (Int32.ofNat (b + 3))) := by
    have n1 : ¬ Int32.ofNat (b + 1) < Int32.ofNat (b + 1) := Int32.lt_irrefl
    have a2 : Int32.ofNat (b + 1) + 2 = Int32.ofNat (b + 3) := by rw [show b + 3 = b + 1 + 2 by omega, Int32.ofNat_add (b + 1) 2]; rfl
    have ei := in_eq (v := Int32.ofNat (b + 1)) (a := Int32.ofNat lo) (b := Int32.ofNat hi) (M := M)
    by_cases bh : b = hi
    · rw [if_pos (Or.inr ((nat_lt (by omega) (by omega)).mpr (by omega)))] at ei
      by_cases b0 : b + 1 < 12
      · have e1 := m_isBar_yes (M := M) (b := b + 1) (by omega)
        have e2 := m_height (M := M) (b := b + 1) (by omega)
        have e3 := m_clash (o := b + 1) (p := p) (M 0 (21 * b + 3) + d) h (b := b) (by omega) (by omega) hp
        by_cases q : clb (M 0) b (M 0 (21 * b + 3) + d) (b + 1) p = true
        · rw [if_pos ⟨bh, b0, q⟩]
          rw [if_pos q] at e3
          simp only [f_X12_stops_B160, nat_succ, n1, ei, e1, eb, e2, e3, m_note 4 (Int32.ofNat b) (Int32.ofNat (b + 1)) (Int32.ofNat p) hm hN, bsm, if_true, if_false, ite_self, i10, i01, ite01, ite10, true_or, or_true, false_or, or_false, ite_not, not_true_eq_false, not_false_eq_true]
        · rw [if_neg (fun e => q e.2.2)]
          rw [if_neg q] at e3
          simp only [f_X12_stops_B160, f_X12_stops_j230, nat_succ, n1, ei, e1, eb, e2, e3, a2, bsm, if_true, if_false, ite_self, i10, i01, ite01, ite10, true_or, or_true, false_or, or_false, ite_not, not_true_eq_false, not_false_eq_true]
      · have e1 := m_isBar_no (M := M) (v := Int32.ofNat (b + 1)) (Or.inr ((nat_le (a := 12) (by omega) (by omega)).mpr (by omega)))
        rw [if_neg (fun e => b0 e.2.1)]
        simp only [f_X12_stops_B160, f_X12_stops_j230, nat_succ, n1, ei, e1, a2, bsm, if_true, if_false, ite_self, i10, i01, ite01, ite10, true_or, or_true, false_or, or_false, ite_not, not_true_eq_false, not_false_eq_true]
    · rw [if_neg (fun e => e.elim (fun e => by have := (nat_lt (by omega) (by omega)).mp e; omega) (fun e => by have := (nat_lt (by omega) (by omega)).mp e; omega))] at ei
      rw [if_neg (fun e => bh e.1)]
      simp only [f_X12_stops_B160, f_X12_stops_j230, nat_succ, n1, ei, a2, bsm, if_true, if_false, ite_self, i10, i01, ite01, ite10, true_or, or_true, false_or, or_false, ite_not, not_true_eq_false, not_false_eq_true]
  have fC : f_X12_stops_B160 (Int32.ofNat lo) (Int32.ofNat hi) d (Int32.ofNat b) (Int32.ofNat p) M (Int32.ofNat (b + 3)) = some (.inr (.inl (Int32.ofNat (p + 1)))) := by
    have n1 : Int32.ofNat (b + 1) < Int32.ofNat (b + 3) := (nat_lt (by omega) (by omega)).mpr (by omega)
    simp only [f_X12_stops_B160, nat_succ, n1, bsm, if_true, if_false, ite_self, i10, i01, ite01, ite10, true_or, or_true, false_or, or_false, ite_not, not_true_eq_false, not_false_eq_true]
  rw [hF]
  unfold kl
  by_cases qa : b = lo ∧ 1 ≤ b ∧ clb (M 0) b (M 0 (21 * b + 3) + d) (b - 1) p = true
  · rw [if_pos qa] at fA ⊢
    refine ⟨fun e => (by cases e), fun o e => ?_⟩
    cases e
    exact lp_last fA
  · rw [if_neg qa] at fA ⊢
    by_cases qb : b = hi ∧ b + 1 < 12 ∧ clb (M 0) b (M 0 (21 * b + 3) + d) (b + 1) p = true
    · rw [if_pos qb] at fB ⊢
      refine ⟨fun e => (by cases e), fun o e => ?_⟩
      cases e
      rw [lp_step fA]
      exact lp_last fB
    · rw [if_neg qb] at fB ⊢
      refine ⟨fun _ => ?_, fun o e => by cases e⟩
      rw [lp_step fA, lp_step fB]
      exact lp_last fC
theorem m_klBar {C : AT} {M : VT} {d : Int32} {lo hi b q P m : Nat} (h : GG 1000 C (M 0)) (h1 : lo ≤ b) (h2 : b ≤ hi) (hh : hi < 12) (hP : P ≤ 16) (eP : M 0 (21 * b + 1) = Int32.ofNat P) (hq : q ≤ P) (hn : ∀ p, p < q → kl (M 0) d lo hi b p = none) (hm : m ≤ 2000000) (hN : M 0 1643 = Int32.ofNat m) : (q = P → lp (f_X12_stops_B143 (Int32.ofNat lo) (Int32.ofNat hi) d (Int32.ofNat b) M) fuel (Int32.ofNat 0) = some (.inl (Int32.ofNat (b + 1)))) ∧ (∀ o, q < P → kl (M 0) d lo hi b q = some o → lp (f_X12_stops_B143 (Int32.ofNat lo) (Int32.ofNat hi) d (Int32.ofNat b) M) fuel (Int32.ofNat 0) = some (.inr (1, setRow M 0 (ntS (M 0) m 4 (Int32.ofNat b) (Int32.ofNat o) (Int32.ofNat q))))) := by
  have ep := m_places (M := M) (b := b) (by omega)
  rw [eP] at ep
  have hst : ∀ i, 0 ≤ i → i < q → f_X12_stops_B143 (Int32.ofNat lo) (Int32.ofNat hi) d (Int32.ofNat b) M (Int32.ofNat i) = some (.inl (Int32.ofNat (i + 1))) := by
    intro i _ hi2
    have n1 : ¬ Int32.ofNat P ≤ Int32.ofNat i := fun q => by have := (nat_le (by omega) (by omega)).mp q; omega
    have e := (m_klStep (p := i) h h1 h2 hh (by omega) hm hN).1 (hn i hi2)
    unfold f_X12_stops_B143
    rw [ep, bsm, if_neg n1, bsm]
    exact e
  refine ⟨fun e => ?_, fun o a ko => ?_⟩
  · refine scan q (Nat.zero_le _) (by omega) hst ?_
    have n1 : Int32.ofNat P ≤ Int32.ofNat q := by rw [e]; exact Int32.le_refl _
    simp only [f_X12_stops_B143, ep, n1, nat_succ, bsm, if_true, if_false, ite_self, i10, i01, ite01, ite10, true_or, or_true, false_or, or_false, ite_not, not_true_eq_false, not_false_eq_true]
  · refine scan q (Nat.zero_le _) (by omega) hst ?_
    have n1 : ¬ Int32.ofNat P ≤ Int32.ofNat q := fun q2 => by have := (nat_le (by omega) (by omega)).mp q2; omega
    have e := (m_klStep (p := q) h h1 h2 hh (by omega) hm hN).2 o ko
    unfold f_X12_stops_B143
    rw [ep, bsm, if_neg n1, bsm, e, bsm]
theorem clash_both {V M : VT} {d : Int32} {lo hi m : Nat} (hg : GG 1000 (V 0) (M 0)) (hlo : lo ≤ hi) (hh : hi < 12) (hm : m ≤ 2000000) (hN : M 0 1643 = Int32.ofNat m) : ∃ V2, SC V V2 ∧ ((f_X0_willClash (Int32.ofNat lo) (Int32.ofNat hi) d V = some (0, V2) ∧ lp (f_X12_stops_B134 (Int32.ofNat lo) (Int32.ofNat hi) d M) fuel (Int32.ofNat lo) = some (0, M)) ∨ (f_X0_willClash (Int32.ofNat lo) (Int32.ofNat hi) d V = some (1, V2) ∧ lp (f_X12_stops_B134 (Int32.ofNat lo) (Int32.ofNat hi) d M) fuel (Int32.ofNat lo) = some (1, setRow M 0 (ntS (M 0) m 4 (V2 11 8) (V2 11 9) (V2 11 10))))) := by
  have pl : ∀ b, b < 12 → ∃ P, P ≤ 16 ∧ M 0 (21 * b + 1) = Int32.ofNat P := fun b hb => places_any hg hb
  obtain ⟨k, a1, b1, c1, d1⟩ := first_in (fun b => ∃ P, P ≤ 16 ∧ M 0 (21 * b + 1) = Int32.ofNat P ∧ ∃ p, p < P ∧ ¬ kl (M 0) d lo hi b p = none) (lo := lo) (hi := hi) (by omega)
  -- the bars before k
  have hno : ∀ b P, lo ≤ b → b < k → P ≤ 16 → M 0 (21 * b + 1) = Int32.ofNat P → ∀ p, p < P → kl (M 0) d lo hi b p = none := fun b P x y hP eP p hp => Classical.byContradiction (fun q => c1 b x y ⟨P, hP, eP, p, hp, q⟩)
  have mst : ∀ b, lo ≤ b → b < k → f_X12_stops_B134 (Int32.ofNat lo) (Int32.ofNat hi) d M (Int32.ofNat b) = some (.inl (Int32.ofNat (b + 1))) := by
    intro b x y
    obtain ⟨P, hP, eP⟩ := pl b (by omega)
    have n1 : ¬ Int32.ofNat hi < Int32.ofNat b := fun q => by have := (nat_lt (by omega) (by omega)).mp q; omega
    unfold f_X12_stops_B134
    rw [if_neg n1, bsm]
    exact (m_klBar (q := P) hg x (by omega) hh hP eP (Nat.le_refl _) (hno b P x y hP eP) hm hN).1 rfl
  have cst2 : ∀ b V', SC V V' → lo ≤ b → b < k → ∃ V2, SC V V2 ∧ f_X0_willClash_B3 (Int32.ofNat lo) (Int32.ofNat hi) d (Int32.ofNat b, V') = some (.inl (Int32.ofNat (b + 1), V2)) := by
    intro b V' hs x y
    have n1 : ¬ Int32.ofNat hi < Int32.ofNat b := fun q => by have := (nat_lt (by omega) (by omega)).mp q; omega
    have elo : (Int32.ofNat b = Int32.ofNat lo) ↔ b = lo := nat_eq (by omega) (by omega)
    have ehi : (Int32.ofNat b = Int32.ofNat hi) ↔ b = hi := nat_eq (by omega) (by omega)
    by_cases q : b = lo ∨ b = hi
    · obtain ⟨P, hP, eP⟩ := pl b (by omega)
      obtain ⟨V2, s2, e, -⟩ := c_klBar (V := V') (q := P) (by rw [hs.1 0 (by omega)]; exact hg) hlo hh q hP eP (Nat.le_refl _) (hno b P x y hP eP)
      refine ⟨V2, hs.tr s2, ?_⟩
      unfold f_X0_willClash_B3
      rw [if_neg n1]
      by_cases bl : b = lo
      · rw [if_pos (elo.mpr bl)]; exact e rfl
      · rw [if_neg (fun e => bl (elo.mp e)), if_pos (ehi.mpr (q.resolve_left bl))]; exact e rfl
    · refine ⟨V', hs, ?_⟩
      unfold f_X0_willClash_B3 f_X0_willClash_j156
      rw [if_neg n1, if_neg (fun e => q (Or.inl (elo.mp e))), if_neg (fun e => q (Or.inr (ehi.mp e))), bsm, nat_succ]
  by_cases qk : k ≤ hi
  · obtain ⟨P, hP, eP, p0, hp0, hk0⟩ := d1 qk
    rcases first_of (fun p => ¬ kl (M 0) d lo hi k p = none) P with hf | ⟨q, hq, hq1, hq2⟩
    · exact absurd hk0 (hf p0 hp0)
    have hq2 : ∀ p, p < q → kl (M 0) d lo hi k p = none := fun p hp => Classical.byContradiction (hq2 p hp)
    obtain ⟨o, ko⟩ : ∃ o, kl (M 0) d lo hi k q = some o := by
      cases e : kl (M 0) d lo hi k q with
      | none => exact absurd e hq1
      | some o => exact ⟨o, rfl⟩
    have hkb : k = lo ∨ k = hi := by
      refine Classical.byContradiction (fun n => hq1 ?_)
      unfold kl
      rw [if_neg (fun e => n (Or.inl e.1)), if_neg (fun e => n (Or.inr e.1))]
    have n1 : ¬ Int32.ofNat hi < Int32.ofNat k := fun q => by have := (nat_lt (by omega) (by omega)).mp q; omega
    have elo : (Int32.ofNat k = Int32.ofNat lo) ↔ k = lo := nat_eq (by omega) (by omega)
    have ehi : (Int32.ofNat k = Int32.ofNat hi) ↔ k = hi := nat_eq (by omega) (by omega)
    have em : lp (f_X12_stops_B134 (Int32.ofNat lo) (Int32.ofNat hi) d M) fuel (Int32.ofNat lo) = some (1, setRow M 0 (ntS (M 0) m 4 (Int32.ofNat k) (Int32.ofNat o) (Int32.ofNat q))) := by
      refine scan k a1 (by omega) mst ?_
      have e := (m_klBar (q := q) hg a1 qk hh hP eP (by omega) hq2 hm hN).2 o hq ko
      unfold f_X12_stops_B134
      rw [if_neg n1, bsm, bsm]
      exact e
    have key := lp_inv (f := f_X0_willClash_B3 (Int32.ofNat lo) (Int32.ofNat hi) d) (Q := fun y => ∃ V2, SC V V2 ∧ y = (1, V2) ∧ V2 11 8 = Int32.ofNat k ∧ V2 11 9 = Int32.ofNat o ∧ V2 11 10 = Int32.ofNat q) (fun i s => s.1 = Int32.ofNat i ∧ SC V s.2) (k - lo) lo fuel (Int32.ofNat lo, V) ⟨rfl, SC.rf⟩ (fun i s x y hI => ?_) (fun s hI => ?_) (fuel_big (by omega))
    · obtain ⟨y, ey, V2, s2, rfl, r8, r9, r10⟩ := key
      refine ⟨V2, s2, Or.inr ⟨ey, ?_⟩⟩
      rw [r8, r9, r10]; exact em
    · obtain ⟨z, V'⟩ := s
      obtain ⟨hx, hsc⟩ := hI
      have hx : z = Int32.ofNat i := hx
      subst hx
      have hsc : SC V V' := hsc
      obtain ⟨V2, s2, e⟩ := cst2 i V' hsc x (by omega)
      exact ⟨_, e, rfl, s2⟩
    · obtain ⟨z, V'⟩ := s
      rw [show lo + (k - lo) = k by omega] at hI
      obtain ⟨hx, hsc⟩ := hI
      have hx : z = Int32.ofNat k := hx
      subst hx
      have hsc : SC V V' := hsc
      obtain ⟨V2, s2, -, e⟩ := c_klBar (V := V') (q := q) (by rw [hsc.1 0 (by omega)]; exact hg) hlo hh hkb hP eP (by omega) hq2
      obtain ⟨e1, r⟩ := e o hq ko
      refine ⟨(1, V2), ?_, V2, hsc.tr s2, rfl, r⟩
      unfold f_X0_willClash_B3
      rw [if_neg n1]
      by_cases bl : k = lo
      · rw [if_pos (elo.mpr bl)]; exact e1
      · rw [if_neg (fun e => bl (elo.mp e)), if_pos (ehi.mpr (hkb.resolve_left bl))]; exact e1
  · have ek : k = hi + 1 := by omega
    subst ek
    have n1 : Int32.ofNat hi < Int32.ofNat (hi + 1) := (nat_lt (by omega) (by omega)).mpr (by omega)
    have em : lp (f_X12_stops_B134 (Int32.ofNat lo) (Int32.ofNat hi) d M) fuel (Int32.ofNat lo) = some (0, M) := by
      refine scan (hi + 1) a1 (by omega) mst ?_
      unfold f_X12_stops_B134
      rw [if_pos n1]
    have key := lp_inv (f := f_X0_willClash_B3 (Int32.ofNat lo) (Int32.ofNat hi) d) (Q := fun y => ∃ V2, SC V V2 ∧ y = (0, V2)) (fun i s => s.1 = Int32.ofNat i ∧ SC V s.2) (hi + 1 - lo) lo fuel (Int32.ofNat lo, V) ⟨rfl, SC.rf⟩ (fun i s x y hI => ?_) (fun s hI => ?_) (fuel_big (by omega))
    · obtain ⟨y, ey, V2, s2, rfl⟩ := key
      exact ⟨V2, s2, Or.inl ⟨ey, em⟩⟩
    · obtain ⟨z, V'⟩ := s
      obtain ⟨hx, hsc⟩ := hI
      have hx : z = Int32.ofNat i := hx
      subst hx
      have hsc : SC V V' := hsc
      obtain ⟨V2, s2, e⟩ := cst2 i V' hsc x (by omega)
      exact ⟨_, e, rfl, s2⟩
    · obtain ⟨z, V'⟩ := s
      rw [show lo + (hi + 1 - lo) = hi + 1 by omega] at hI
      obtain ⟨hx, hsc⟩ := hI
      have hx : z = Int32.ofNat (hi + 1) := hx
      subst hx
      have hsc : SC V V' := hsc
      refine ⟨(0, V'), ?_, V', hsc, rfl⟩
      unfold f_X0_willClash_B3
      rw [if_pos n1, bsm]
theorem unit_both {V M : VT} {d : Int32} {lo hi m : Nat} (hg : GG 1000 (V 0) (M 0)) (hr : RW (M 0) V) (hlo : lo ≤ hi) (hh : hi < 12) (hm : m ≤ 2000000) (hN : M 0 1643 = Int32.ofNat m) : ∃ (w : Int32) (V2 : VT), SC V V2 ∧ (∀ (α : Type) (K : Int32 → VT → Option α), ((f_X0_whyStop (Int32.ofNat lo) (Int32.ofNat hi) d V).bind fun r6 => if r6.1 = 0 then ((f_X0_willClash (Int32.ofNat lo) (Int32.ofNat hi) d r6.2).bind fun r15 => if r15.1 = 0 then K r6.1 r15.2 else ((some (4 : Int32)).bind fun a16 => K a16 r15.2)) else K r6.1 r6.2) = K w V2) ∧ ((w = 0 ∧ (∀ i, lo ≤ i → i ≤ hi → ¬ P1 (M 0) d i) ∧ f_X12_stops (Int32.ofNat lo) (Int32.ofNat hi) d M = some (0, M)) ∨ (w ≠ 0 ∧ f_X12_stops (Int32.ofNat lo) (Int32.ofNat hi) d M = some (1, setRow M 0 (ntS (M 0) m w (V2 11 8) (V2 11 9) (V2 11 10))))) := by
  rcases why_both (d := d) hg hr hlo hh hm hN with ⟨w, k, hw, ec, em⟩ | ⟨hp, ec, em⟩
  · refine ⟨w, _, ((sc_u (i := 9) (-1000000000) (by omega)).tr (sc_u (i := 10) (-1000000000) (by omega))).tr (sc_u (i := 8) (Int32.ofNat k) (by omega)), fun α K => ?_, Or.inr ⟨hw, ?_⟩⟩
    · rw [ec, bsm, if_neg hw]
    · rw [em, u2_at, if_pos ⟨rfl, rfl⟩, u2_at, if_neg (by omega), u2_at, if_neg (by omega), u2_at, if_pos ⟨rfl, rfl⟩, u2_at, if_neg (by omega), u2_at, if_pos ⟨rfl, rfl⟩]
  · have hs : SC V (u2 (u2 V 11 9 (-1000000000)) 11 10 (-1000000000)) := (sc_u (i := 9) (-1000000000) (by omega)).tr (sc_u (i := 10) (-1000000000) (by omega))
    obtain ⟨V2, s2, hc⟩ := clash_both (V := u2 (u2 V 11 9 (-1000000000)) 11 10 (-1000000000)) (d := d) (by rw [hs.1 0 (by omega)]; exact hg) hlo hh hm hN
    rcases hc with ⟨e1, e2⟩ | ⟨e1, e2⟩
    · refine ⟨0, V2, hs.tr s2, fun α K => ?_, Or.inl ⟨rfl, hp, em.trans e2⟩⟩
      rw [ec, bsm, if_pos rfl, e1, bsm, if_pos rfl]
    · refine ⟨4, V2, hs.tr s2, fun α K => ?_, Or.inr ⟨by decide, em.trans e2⟩⟩
      rw [ec, bsm, if_pos rfl, e1, bsm, if_neg (show ¬ (1 : Int32) = 0 by decide), bsm]
