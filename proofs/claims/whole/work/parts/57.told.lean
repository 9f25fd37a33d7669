/-! told, stop -/
def rigb (S : AT) (b : Nat) : Bool := decide (S (21 * b) = 1)
def lnb (S : AT) (l : Nat) : Bool := decide (S (252 + 12 * l + 3) = 1)
def hgb (C : AT) (t : Nat) : Bool := decide (¬ C (720 + 8 * t + 6) = -1000000000)
theorem cnt_succ {p : Nat → Bool} {i : Nat} : cnt p (i + 1) = if p i = true then cnt p i + 1 else cnt p i := rfl
theorem c_rigBars {n : Nat} {V : VT} {S : AT} (h : GG n (V 0) S) : f_X3_riggedBars V = some (Int32.ofNat (cnt (rigb S) 12)) := by
  unfold f_X3_riggedBars
  rw [bsm, bsm]
  refine lp_iter (fun i => (Int32.ofNat (cnt (rigb S) i), Int32.ofNat i)) 12 0 fuel (fun i _ hi => ?_) ?_ (fuel_big (by omega))
  · have n1 : ¬ (12 : Int32) ≤ Int32.ofNat i := fun q => by have := (nat_le (a := 12) (by omega) (by omega)).mp q; omega
    have eh := c_rigged h (b := i) (by omega)
    rw [cnt_succ]
    by_cases q : S (21 * i) = 1
    · rw [if_pos q] at eh
      rw [if_pos (show rigb S i = true from decide_eq_true q)]
      simp only [f_X3_riggedBars_B4, f_X3_riggedBars_j21, n1, if_false, eh, bsm, i10, nat_succ]
    · rw [if_neg q] at eh
      rw [if_neg (show ¬ rigb S i = true from fun e => q (of_decide_eq_true e))]
      simp only [f_X3_riggedBars_B4, f_X3_riggedBars_j21, n1, if_false, if_true, eh, bsm, nat_succ]
  · rw [Nat.zero_add]
    have n1 : (12 : Int32) ≤ Int32.ofNat 12 := by decide
    simp only [f_X3_riggedBars_B4, n1, if_true, bsm]
theorem m_rigBars {M : VT} : lp (f_X12_told_B58 M) fuel ((0 : Int32), (0 : Int32)) = some (Int32.ofNat (cnt (rigb (M 0)) 12)) := by
  refine lp_iter (fun i => (Int32.ofNat (cnt (rigb (M 0)) i), Int32.ofNat i)) 12 0 fuel (fun i _ hi => ?_) ?_ (fuel_big (by omega))
  · have n1 : ¬ (12 : Int32) ≤ Int32.ofNat i := fun q => by have := (nat_le (a := 12) (by omega) (by omega)).mp q; omega
    have eh := m_rigged (M := M) (b := i) (by omega)
    rw [cnt_succ]
    by_cases q : M 0 (21 * i) = 1
    · rw [if_pos q] at eh
      rw [if_pos (show rigb (M 0) i = true from decide_eq_true q)]
      simp only [f_X12_told_B58, f_X12_told_j78, n1, if_false, eh, bsm, i10, nat_succ]
    · rw [if_neg q] at eh
      rw [if_neg (show ¬ rigb (M 0) i = true from fun e => q (of_decide_eq_true e))]
      simp only [f_X12_told_B58, f_X12_told_j78, n1, if_false, if_true, eh, bsm, Int32.add_zero, nat_succ]
  · rw [Nat.zero_add]
    have n1 : (12 : Int32) ≤ Int32.ofNat 12 := by decide
    simp only [f_X12_told_B58, n1, if_true, bsm]
theorem c_lnThere {n : Nat} {V : VT} {S : AT} (h : GG n (V 0) S) : f_X3_linesThere V = some (Int32.ofNat (cnt (lnb S) 40)) := by
  unfold f_X3_linesThere
  rw [bsm, bsm]
  refine lp_iter (fun i => (Int32.ofNat (cnt (lnb S) i), Int32.ofNat i)) 40 0 fuel (fun i _ hi => ?_) ?_ (fuel_big (by omega))
  · have n1 : ¬ (40 : Int32) ≤ Int32.ofNat i := fun q => by have := (nat_le (a := 40) (by omega) (by omega)).mp q; omega
    have eh := c_isLineThere h (l := i) (by omega)
    rw [cnt_succ]
    by_cases q : S (252 + 12 * i + 3) = 1
    · rw [if_pos q] at eh
      rw [if_pos (show lnb S i = true from decide_eq_true q)]
      simp only [f_X3_linesThere_B4, f_X3_linesThere_j21, n1, if_false, eh, bsm, i10, nat_succ]
    · rw [if_neg q] at eh
      rw [if_neg (show ¬ lnb S i = true from fun e => q (of_decide_eq_true e))]
      simp only [f_X3_linesThere_B4, f_X3_linesThere_j21, n1, if_false, if_true, eh, bsm, nat_succ]
  · rw [Nat.zero_add]
    have n1 : (40 : Int32) ≤ Int32.ofNat 40 := by decide
    simp only [f_X3_linesThere_B4, n1, if_true, bsm]
theorem m_lnThere {M : VT} {m : Nat} (hm : m ≤ 40) (hN : M 0 1640 = Int32.ofNat m) : lp (f_X12_told_B90 M) fuel ((0 : Int32), (0 : Int32)) = some (Int32.ofNat (cnt (lnb (M 0)) m)) := by
  have kN : ckA 1646 (1640 : Int32) = some 1640 := ck_lit (k := 1640) rfl (by omega) (by omega)
  refine lp_iter (fun i => (Int32.ofNat (cnt (lnb (M 0)) i), Int32.ofNat i)) m 0 fuel (fun i _ hi => ?_) ?_ (fuel_big (by omega))
  · have n1 : ¬ Int32.ofNat m ≤ Int32.ofNat i := fun q => by have := (nat_le (by omega) (by omega)).mp q; omega
    have eh := m_isLineThere (M := M) (l := i) (by omega)
    rw [cnt_succ]
    by_cases q : M 0 (252 + 12 * i + 3) = 1
    · rw [if_pos q] at eh
      rw [if_pos (show lnb (M 0) i = true from decide_eq_true q)]
      simp only [f_X12_told_B90, f_X12_told_j116, kN, hN, n1, if_false, eh, bsm, i10, nat_succ]
    · rw [if_neg q] at eh
      rw [if_neg (show ¬ lnb (M 0) i = true from fun e => q (of_decide_eq_true e))]
      simp only [f_X12_told_B90, f_X12_told_j116, kN, hN, n1, if_false, if_true, eh, bsm, Int32.add_zero, nat_succ]
  · rw [Nat.zero_add]
    simp only [f_X12_told_B90, kN, hN, Int32.le_refl, if_true, bsm]
theorem ln_cnt {n : Nat} {C S : AT} {m : Nat} (h : GG n C S) (hN : S 1640 = Int32.ofNat m) (hm : m ≤ 40) : cnt (lnb S) 40 = cnt (lnb S) m := by
  have := cnt_tail (p := lnb S) (a := m) (40 - m) (fun i h1 h2 => decide_eq_false (fun q => by
    have := h.2.wl0 i (by omega) (by rw [hN]; exact (nat_le (by omega) (by omega)).mpr h1)
    rw [q] at this; exact absurd this (by decide)))
  rw [show m + (40 - m) = 40 by omega] at this; exact this
theorem c_hanging {n : Nat} {V : VT} {S : AT} {m : Nat} (h : GG n (V 0) S) (hm : m ≤ 80) (hN : S 1641 = Int32.ofNat m) : f_X3_hangingThings V = some (Int32.ofNat (cnt (hgb (V 0)) m)) := by
  have eN : f_X7_get 1868 1 6 0 1 V = some (Int32.ofNat m) := by rw [← hN]; exact nget (i := 1) h (by omega)
  unfold f_X3_hangingThings
  rw [bsm, bsm]
  refine lp_iter (fun i => (Int32.ofNat (cnt (hgb (V 0)) i), Int32.ofNat i)) m 0 fuel (fun i _ hi => ?_) ?_ (fuel_big (by omega))
  · have n1 : ¬ Int32.ofNat m ≤ Int32.ofNat i := fun q => by have := (nat_le (by omega) (by omega)).mp q; omega
    have g6 : f_X7_get 720 80 8 (Int32.ofNat i) 6 V = some (V 0 (720 + 8 * i + 6)) := tget (c := 6) (by omega) (by omega)
    rw [cnt_succ]
    by_cases q : V 0 (720 + 8 * i + 6) = -1000000000
    · rw [if_neg (show ¬ hgb (V 0) i = true from fun e => (of_decide_eq_true e) q)]
      simp only [f_X3_hangingThings_B4, f_X3_hangingThings_j28, f_X3_hangs, eN, n1, if_false, if_true, g6, eq_true q, bsm, nat_succ]
    · rw [if_pos (show hgb (V 0) i = true from decide_eq_true q)]
      simp only [f_X3_hangingThings_B4, f_X3_hangingThings_j28, f_X3_hangs, eN, n1, if_false, g6, eq_false q, i10, bsm, nat_succ]
  · rw [Nat.zero_add]
    simp only [f_X3_hangingThings_B4, eN, Int32.le_refl, if_true, bsm]
theorem m_hanging {n : Nat} {C : AT} {M : VT} {m : Nat} (h : GG n C (M 0)) (hm : m ≤ 80) (hN : M 0 1641 = Int32.ofNat m) : lp (f_X12_told_B137 M) fuel ((0 : Int32), (0 : Int32)) = some (Int32.ofNat (cnt (hgb C) m)) := by
  have kN : ckA 1646 (1641 : Int32) = some 1641 := ck_lit (k := 1641) rfl (by omega) (by omega)
  refine lp_iter (fun i => (Int32.ofNat (cnt (hgb C) i), Int32.ofNat i)) m 0 fuel (fun i _ hi => ?_) ?_ (fuel_big (by omega))
  · have n1 : ¬ Int32.ofNat m ≤ Int32.ofNat i := fun q => by have := (nat_le (by omega) (by omega)).mp q; omega
    have eb := (m_barWith h (t := i) (by omega) (h.1.rp i (by omega) (by rw [hN]; exact (nat_lt (by omega) (by omega)).mpr (by omega)))).1
    rw [cnt_succ]
    by_cases q : C (720 + 8 * i + 6) = -1000000000
    · rw [if_neg (show ¬ hgb C i = true from fun e => (of_decide_eq_true e) q)]
      simp only [f_X12_told_B137, f_X12_told_j165, kN, hN, n1, if_false, if_true, eb, eq_true q, bsm, Int32.add_zero, nat_succ]
    · rw [if_pos (show hgb C i = true from decide_eq_true q)]
      simp only [f_X12_told_B137, f_X12_told_j165, kN, hN, n1, if_false, eb, eq_false q, bsm, nat_succ]
  · rw [Nat.zero_add]
    simp only [f_X12_told_B137, kN, hN, Int32.le_refl, if_true, bsm]
theorem o_told : O_told (IG GG) := by
  intro n V J dd M v1 hn hI
  have hI2 := ig_skip gg_ok n V J dd M hn hI
  have hgg := ig_gg hI
  have hst := hI.2
  obtain ⟨old, ct, s, b1, b2, b3, b4, b5, b6, b7, b8, b9, b10, b11, -⟩ := hst
  have q : ∀ x : Int32, f_X11_told v1 V = some x → f_X12_told v1 M = some x → ∃ (y z : Int32), f_X11_told v1 V = some y ∧ f_X12_told v1 M = some z ∧ y = z ∧ IG GG (n + 1) V J dd M := fun x e1 e2 => ⟨x, x, e1, e2, rfl, hI2⟩
  have kk : ∀ k : Nat, k < 6 → ckA 1646 (Int32.ofNat (1640 + k)) = some (1640 + k) := fun k hk => ck_nat (by omega) (by omega)
  have gg2 : ∀ k : Nat, k < 6 → f_X7_get 1868 1 6 0 (Int32.ofNat k) V = some (M 0 (1640 + k)) := fun k hk => nget hgg hk
  unfold f_X11_told f_X12_told at q
  simp only [bsm] at q
  unfold f_X11_told f_X12_told
  simp only [bsm]
  by_cases c0 : v1 = 0
  · refine q (Int32.ofNat (cnt (rigb (M 0)) 12)) ?_ ?_
    · rw [if_pos c0, c_rigBars hgg, bsm]
    · rw [if_pos c0]; exact m_rigBars
  by_cases c1 : v1 = 1
  · obtain ⟨m, -, m2, hm⟩ := hgg.2.wn0
    refine q (Int32.ofNat (cnt (lnb (M 0)) m)) ?_ ?_
    · rw [if_neg c0, if_pos c1, c_lnThere hgg, bsm, ln_cnt hgg hm m2]
    · rw [if_neg c0, if_pos c1]; exact m_lnThere m2 hm
  by_cases c2 : v1 = 2
  · refine q (M 0 1641) ?_ ?_
    · rw [if_neg c0, if_neg c1, if_pos c2, show f_X7_get 1868 1 6 0 1 V = some (M 0 1641) from gg2 1 (by omega), bsm]
    · rw [if_neg c0, if_neg c1, if_pos c2, show ckA 1646 (1641 : Int32) = some 1641 from kk 1 (by omega), bsm]
  by_cases c3 : v1 = 3
  · obtain ⟨m, -, m2, hm⟩ := hgg.2.wn1
    refine q (Int32.ofNat (cnt (hgb (V 0)) m)) ?_ ?_
    · rw [if_neg c0, if_neg c1, if_neg c2, if_pos c3, c_hanging hgg m2 hm, bsm]
    · rw [if_neg c0, if_neg c1, if_neg c2, if_pos c3]; exact m_hanging hgg m2 hm
  by_cases c4 : v1 = 4
  · refine q (M 0 1642) ?_ ?_
    · rw [if_neg c0, if_neg c1, if_neg c2, if_neg c3, if_pos c4, show f_X7_get 1868 1 6 0 2 V = some (M 0 1642) from gg2 2 (by omega), bsm]
    · rw [if_neg c0, if_neg c1, if_neg c2, if_neg c3, if_pos c4, show ckA 1646 (1642 : Int32) = some 1642 from kk 2 (by omega), bsm]
  by_cases c5 : v1 = 5
  · refine q (M 0 1643) ?_ ?_
    · rw [if_neg c0, if_neg c1, if_neg c2, if_neg c3, if_neg c4, if_pos c5, show f_X7_get 1868 1 6 0 3 V = some (M 0 1643) from gg2 3 (by omega), bsm]
    · rw [if_neg c0, if_neg c1, if_neg c2, if_neg c3, if_neg c4, if_pos c5, show ckA 1646 (1643 : Int32) = some 1643 from kk 3 (by omega), bsm]
  by_cases c6 : v1 = 6
  · refine q (M 7 0) ?_ ?_
    · rw [if_neg c0, if_neg c1, if_neg c2, if_neg c3, if_neg c4, if_neg c5, if_pos c6]
      unfold f_X4_keptActs
      rw [bsm, b5, b6]
    · rw [if_neg c0, if_neg c1, if_neg c2, if_neg c3, if_neg c4, if_neg c5, if_pos c6]
  by_cases c7 : v1 = 7
  · refine q (M 7 1) ?_ ?_
    · rw [if_neg c0, if_neg c1, if_neg c2, if_neg c3, if_neg c4, if_neg c5, if_neg c6, if_pos c7]
      unfold f_X8_size
      rw [bsm, b10, b11]
    · rw [if_neg c0, if_neg c1, if_neg c2, if_neg c3, if_neg c4, if_neg c5, if_neg c6, if_pos c7]
  by_cases c8 : v1 = 8
  · refine q (M 0 1644) ?_ ?_
    · rw [if_neg c0, if_neg c1, if_neg c2, if_neg c3, if_neg c4, if_neg c5, if_neg c6, if_neg c7, if_pos c8, show f_X7_get 1868 1 6 0 4 V = some (M 0 1644) from gg2 4 (by omega), bsm]
    · rw [if_neg c0, if_neg c1, if_neg c2, if_neg c3, if_neg c4, if_neg c5, if_neg c6, if_neg c7, if_pos c8, show ckA 1646 (1644 : Int32) = some 1644 from kk 4 (by omega), bsm]
  by_cases c9 : v1 = 9
  · refine q (M 0 1645) ?_ ?_
    · rw [if_neg c0, if_neg c1, if_neg c2, if_neg c3, if_neg c4, if_neg c5, if_neg c6, if_neg c7, if_neg c8, if_pos c9]
      unfold f_X3_time
      rw [show f_X7_get 1868 1 6 0 5 V = some (M 0 1645) from gg2 5 (by omega), bsm, bsm]
    · rw [if_neg c0, if_neg c1, if_neg c2, if_neg c3, if_neg c4, if_neg c5, if_neg c6, if_neg c7, if_neg c8, if_pos c9, show ckA 1646 (1645 : Int32) = some 1645 from kk 5 (by omega), bsm]
  · refine q (-1000000000) ?_ ?_
    · rw [if_neg c0, if_neg c1, if_neg c2, if_neg c3, if_neg c4, if_neg c5, if_neg c6, if_neg c7, if_neg c8, if_neg c9]
    · rw [if_neg c0, if_neg c1, if_neg c2, if_neg c3, if_neg c4, if_neg c5, if_neg c6, if_neg c7, if_neg c8, if_neg c9]
theorem o_stop : O_stop (IG GG) := by
  intro n V J dd M v1 v2 hn hI
  have hI2 := ig_skip gg_ok n V J dd M hn hI
  have hgg := ig_gg hI
  obtain ⟨m, -, m2, hm⟩ := hgg.2.wn3
  have eN : f_X7_get 1868 1 6 0 3 V = some (Int32.ofNat m) := by rw [← hm]; exact nget (i := 3) hgg (by omega)
  have kN : ckA 1646 (1643 : Int32) = some 1643 := ck_lit (k := 1643) rfl (by omega) (by omega)
  have hmm : ∀ v1 v2, f_X12_stop v1 v2 M = f_X12_stop_j26 v1 v2 (Int32.ofNat (if m < 40 then m else 40)) M := by
    intro v1 v2
    unfold f_X12_stop
    rw [kN, bsm, hm]
    by_cases q : m < 40
    · rw [if_neg (fun p => by have := (nat_le (a := 40) (by omega) (by omega)).mp p; omega), bsm, hm, if_pos q]
    · rw [if_pos (show (40 : Int32) ≤ Int32.ofNat m from (nat_le (a := 40) (by omega) (by omega)).mpr (by omega)), if_neg q]; rfl
  by_cases hv : v1 < 0 ∨ Int32.ofNat (if m < 40 then m else 40) ≤ v1 ∨ v2 < 0 ∨ 4 < v2
  · refine ⟨-1000000000, -1000000000, ?_, ?_, rfl, hI2⟩
    · unfold f_X11_stop
      rw [eN, bsm]
      have hv2 : v1 < 0 ∨ 40 ≤ v1 ∨ Int32.ofNat m ≤ v1 ∨ v2 < 0 ∨ ¬ v2 < 5 := by
        rcases hv with h | h | h | h
        · exact Or.inl h
        · by_cases q : m < 40
          · rw [if_pos q] at h; exact Or.inr (Or.inr (Or.inl h))
          · rw [if_neg q] at h; exact Or.inr (Or.inl h)
        · exact Or.inr (Or.inr (Or.inr (Or.inl h)))
        · refine Or.inr (Or.inr (Or.inr (Or.inr (fun q => ?_))))
          rw [Int32.lt_iff_toInt_lt, show (4 : Int32).toInt = 4 by decide] at h
          rw [Int32.lt_iff_toInt_lt, show (5 : Int32).toInt = 5 by decide] at q
          omega
      rcases hv2 with h | h | h | h | h
      all_goals simp only [h, if_true, if_false, ite_self]
    · rw [hmm]
      rcases hv with h | h | h | h
      all_goals simp only [f_X12_stop_j26, f_X12_stop_j45, in_eq, h, bsm, if_true, if_false, ite_self, i10, i01, ite01, ite10, true_or, or_true, false_or, or_false, ite_not, not_true_eq_false, not_false_eq_true]
  · have q1 : ¬ v1 < 0 := fun q => hv (Or.inl q)
    have q2 : ¬ Int32.ofNat (if m < 40 then m else 40) ≤ v1 := fun q => hv (Or.inr (Or.inl q))
    have q3 : ¬ v2 < 0 := fun q => hv (Or.inr (Or.inr (Or.inl q)))
    have q4 : ¬ 4 < v2 := fun q => hv (Or.inr (Or.inr (Or.inr q)))
    obtain ⟨k, hk, rfl⟩ : ∃ k : Nat, k < (if m < 40 then m else 40) ∧ v1 = Int32.ofNat k := by
      rcases rng (if m < 40 then m else 40) (by split <;> omega) v1 with h | h
      · exact h
      · exact absurd h (fun q => q.elim q1 q2)
    obtain ⟨i, -, hi, rfl⟩ := rg_of (hi := 4) (by omega) q3 q4
    have hk40 : k < 40 := by split at hk <;> omega
    have hkm : k < m := by split at hk <;> omega
    have hrs := hgg.1.rs m k i hk40 hkm (by omega) (by omega) hm
    refine ⟨_, _, ?_, ?_, hrs, hI2⟩
    · unfold f_X11_stop
      have a1 : ¬ (40 : Int32) ≤ Int32.ofNat k := fun q => by have := (nat_le (a := 40) (by omega) (by omega)).mp q; omega
      have a2 : ¬ Int32.ofNat m ≤ Int32.ofNat k := fun q => by have := (nat_le (by omega) (by omega)).mp q; omega
      have a3 : Int32.ofNat i < (5 : Int32) := (nat_lt (b := 5) (by omega) (by omega)).mpr (by omega)
      have ee : ckE (40 : Int32) = some () := by unfold ckE; rw [if_neg (by decide)]
      have es : Int32.ofNat m - 1 - Int32.ofNat k = Int32.ofNat (m - 1 - k) := by
        rw [Int32.ofNat_sub _ _ (by omega), Int32.ofNat_sub _ _ (by omega)]; rfl
      rw [eN, bsm, if_neg q1, if_neg a1, if_neg a2, if_neg q3, if_pos a3, ee, bsm, es]
      rw [show Int32.ofNat (m - 1 - k) - Int32.ofNat (m - 1 - k) / 40 * 40 = Int32.ofNat ((m - 1 - k) % 40) from nat_rem (d := 40) (by omega) (by omega)]
      have hg : f_X7_get 1668 40 5 (Int32.ofNat ((m - 1 - k) % 40)) (Int32.ofNat i) V = some (V 0 (1668 + (5 * ((m - 1 - k) % 40) + i))) := by
        have := get_nat (B := 1668) (R := 40) (C := 5) (r := (m - 1 - k) % 40) (c := i) V (by omega) (by omega) (by omega) (by omega) (by omega)
        rw [show 1668 + (m - 1 - k) % 40 * 5 + i = 1668 + (5 * ((m - 1 - k) % 40) + i) by omega] at this
        exact this
      rw [hg, bsm]
    · rw [hmm]
      generalize hH : (if m < 40 then m else 40) = H at *
      have hH40 : H ≤ 40 := by rw [← hH]; split <;> omega
      have es : Int32.ofNat H - 1 - Int32.ofNat k = Int32.ofNat (H - 1 - k) := by
        rw [Int32.ofNat_sub _ _ (by omega), Int32.ofNat_sub _ _ (by omega)]; rfl
      have ek : ckA 1646 ((1440 : Int32) + 5 * Int32.ofNat (H - 1 - k) + Int32.ofNat i) = some (1440 + (5 * (H - 1 - k) + i)) := ck_lit (by
        rw [show 1440 + (5 * (H - 1 - k) + i) = 1440 + 5 * (H - 1 - k) + i by omega, Int32.ofNat_add, Int32.ofNat_add, Int32.ofNat_mul]; rfl) (by omega) (by omega)
      unfold f_X12_stop_j26
      rw [if_neg q1, if_neg q2, in_yes q3 q4, bsm, if_neg (by decide), es, ek, bsm]
