/-! cueOf -/
theorem c_isCue {n : Nat} {V : VT} {S : AT} (v : Int32) (h : GG n (V 0) S) : f_X3_isCue v V = some (if v < 0 ∨ S 1642 ≤ v then 0 else 1) := by
  have e : f_X7_get 1868 1 6 0 2 V = some (S 1642) := nget (i := 2) h (by omega)
  unfold f_X3_isCue f_X3_isCue_j21
  by_cases h1 : v < 0
  · rw [if_pos h1, if_pos (Or.inl h1)]
  · rw [if_neg h1, e]; simp only [Option.bind_some]
    by_cases h2 : S 1642 ≤ v
    · rw [if_pos h2, if_pos (Or.inr h2)]
    · rw [if_neg h2, if_neg (fun q => q.elim h1 h2)]
theorem cue_of {n : Nat} {C S : AT} {v : Int32} (h : GG n C S) (hv : ¬ (v < 0 ∨ S 1642 ≤ v)) : ∃ c : Nat, c < 60 ∧ v = Int32.ofNat c ∧ Int32.ofNat c < S 1642 := by
  obtain ⟨m, m1, m2, m3⟩ := h.2.wn2
  have q1 : ¬ v < 0 := fun q => hv (Or.inl q)
  have q2 : ¬ S 1642 ≤ v := fun q => hv (Or.inr q)
  rcases rng m (by omega) v with ⟨c, hc, e⟩ | hh
  · refine ⟨c, by omega, e, ?_⟩
    rw [← e]; exact nle_lt q2
  · rw [← m3] at hh; exact absurd hh (fun q => q.elim q1 q2)
theorem o_cueOf : O_cueOf (IG GG) := by
  intro n V J dd M v1 v2 hn hI
  have hI2 := ig_skip gg_ok n V J dd M hn hI
  have hgg := ig_gg hI
  have ei := c_isCue v1 hgg
  have ek : ckA 1646 (1642 : Int32) = some 1642 := ck_lit (k := 1642) rfl (by omega) (by omega)
  have ek5 : ckA 1646 (1645 : Int32) = some 1645 := ck_lit (k := 1645) rfl (by omega) (by omega)
  by_cases hv : v1 < 0 ∨ (M 0) 1642 ≤ v1
  · rw [if_pos hv] at ei
    refine ⟨-1000000000, -1000000000, ?_, ?_, rfl, hI2⟩
    · unfold f_X11_cueOf; rw [ei]; simp only [Option.bind_some, if_true]
    · unfold f_X12_cueOf
      by_cases h1 : v1 < 0
      · rw [if_pos h1]
      · rw [if_neg h1, ek]; simp only [Option.bind_some]
        rw [if_pos (hv.resolve_left h1)]
  · rw [if_neg hv] at ei
    have q1 : ¬ v1 < 0 := fun q => hv (Or.inl q)
    have q2 : ¬ (M 0) 1642 ≤ v1 := fun q => hv (Or.inr q)
    obtain ⟨c, hc, rfl, ht⟩ := cue_of hgg hv
    have low : ∀ k : Nat, k < 4 → v2 = Int32.ofNat k → f_X11_cueOf (Int32.ofNat c) v2 V = some ((M 0) (1132 + 5 * c + k)) → ∃ (y z : Int32), f_X11_cueOf (Int32.ofNat c) v2 V = some y ∧ f_X12_cueOf (Int32.ofNat c) v2 M = some z ∧ y = z ∧ IG GG (n + 1) V J dd M := by
      intro k hk e2 e3
      refine ⟨_, _, e3, ?_, rfl, hI2⟩
      subst e2
      unfold f_X12_cueOf
      rw [if_neg q1, ek]; simp only [Option.bind_some]
      rw [if_neg q2, in_yes (nat_nneg (by omega)) (fun q => by have := (nat_lt (a := 4) (by omega) (by omega)).mp q; omega)]
      simp only [Option.bind_some]
      rw [if_neg (by decide), if_neg (fun q => by have := (nat_le (a := 4) (by omega) (by omega)).mp q; omega), m_cueIs hc (by omega)]; rfl
    by_cases c0 : v2 = 0
    · refine low 0 (by omega) c0 ?_
      unfold f_X11_cueOf; rw [ei]; simp only [Option.bind_some]
      rw [if_neg (by decide), if_pos c0, show f_X7_get 1368 60 5 (Int32.ofNat c) 0 V = some ((M 0) (1132 + 5 * c + 0)) from qget (i := 0) hgg hc (by omega)]; rfl
    by_cases c1 : v2 = 1
    · refine low 1 (by omega) c1 ?_
      unfold f_X11_cueOf; rw [ei]; simp only [Option.bind_some]
      rw [if_neg (by decide), if_neg c0, if_pos c1, show f_X7_get 1368 60 5 (Int32.ofNat c) 1 V = some ((M 0) (1132 + 5 * c + 1)) from qget (i := 1) hgg hc (by omega)]; rfl
    by_cases c2 : v2 = 2
    · refine low 2 (by omega) c2 ?_
      unfold f_X11_cueOf; rw [ei]; simp only [Option.bind_some]
      rw [if_neg (by decide), if_neg c0, if_neg c1, if_pos c2, show f_X7_get 1368 60 5 (Int32.ofNat c) 2 V = some ((M 0) (1132 + 5 * c + 2)) from qget (i := 2) hgg hc (by omega)]; rfl
    by_cases c3 : v2 = 3
    · refine low 3 (by omega) c3 ?_
      unfold f_X11_cueOf; rw [ei]; simp only [Option.bind_some]
      rw [if_neg (by decide), if_neg c0, if_neg c1, if_neg c2, if_pos c3, show f_X7_get 1368 60 5 (Int32.ofNat c) 3 V = some ((M 0) (1132 + 5 * c + 3)) from qget (i := 3) hgg hc (by omega)]; rfl
    by_cases c4 : v2 = 4
    · subst c4
      have ec : f_X11_cueOf (Int32.ofNat c) 4 V = some (cst (M 0) c) := by
        unfold f_X11_cueOf; rw [ei]; simp only [Option.bind_some]
        rw [if_neg (by decide), if_neg c0, if_neg c1, if_neg c2, if_neg c3, if_pos trivial, c_cueState hgg (by omega) hc ht]; rfl
      refine ⟨_, cst (M 0) c, ec, ?_, rfl, hI2⟩
      have e4 : f_X12_cueIs (Int32.ofNat c) 4 M = some (M 0 (1132 + 5 * c + 4)) := m_cueIs (i := 4) hc (by omega)
      have e2 : f_X12_cueIs (Int32.ofNat c) 2 M = some (M 0 (1132 + 5 * c + 2)) := m_cueIs (i := 2) hc (by omega)
      obtain ⟨-, -, -, -, ⟨x, x1, x2, x3⟩⟩ := hgg.2.wq c hc ht
      unfold f_X12_cueOf
      rw [if_neg q1, ek]; simp only [Option.bind_some]
      rw [if_neg q2, in_yes (by decide) (by decide)]; simp only [Option.bind_some]
      rw [if_neg (by decide), if_pos (by decide), e4]; simp only [Option.bind_some]
      rcases (show x = 0 ∨ x = 1 by omega) with rfl | rfl
      · have h0 : M 0 (1132 + 5 * c + 4) = 0 := x3
        rw [h0, if_neg (by decide), ek5]; simp only [Option.bind_some]
        rw [e2]; simp only [Option.bind_some]
        by_cases h1 : M 0 (1132 + 5 * c + 2) ≤ M 0 1645
        · rw [if_pos h1, m_runs hc]; simp only [Option.bind_some]
          by_cases h2 : M 0 (1132 + 5 * c + 2) + M 0 (1132 + 5 * c + 3) ≤ M 0 1645
          · have ec : cst (M 0) c = 2 := by unfold cst; rw [if_neg (fun q => q h0), if_pos h1, if_pos h2]
            rw [ec]; rfl
          · have ec : cst (M 0) c = 1 := by unfold cst; rw [if_neg (fun q => q h0), if_pos h1, if_neg h2]
            rw [ec]; rfl
        · have ec : cst (M 0) c = 0 := by unfold cst; rw [if_neg (fun q => q h0), if_neg h1]
          rw [if_neg h1, ec]
      · have h0 : M 0 (1132 + 5 * c + 4) = 1 := x3
        have ec : cst (M 0) c = 3 := by unfold cst; rw [if_pos (by rw [h0]; decide)]
        rw [if_pos h0, ec]
    · have n0 := ne_toInt (i := 0) c0 (by decide)
      have n1 := ne_toInt (i := 1) c1 (by decide)
      have n2 := ne_toInt (i := 2) c2 (by decide)
      have n3 := ne_toInt (i := 3) c3 (by decide)
      have n4 := ne_toInt (i := 4) c4 (by decide)
      have hb : v2 < 0 ∨ 4 < v2 := by
        rw [Int32.lt_iff_toInt_lt, Int32.lt_iff_toInt_lt, ti_lit0, show (4 : Int32).toInt = 4 by decide]; omega
      refine ⟨-1000000000, -1000000000, ?_, ?_, rfl, hI2⟩
      · unfold f_X11_cueOf; rw [ei]; simp only [Option.bind_some]
        rw [if_neg (by decide), if_neg c0, if_neg c1, if_neg c2, if_neg c3, if_neg c4]
      · unfold f_X12_cueOf
        rw [if_neg q1, ek]; simp only [Option.bind_some]
        rw [if_neg q2, in_no hb]; simp only [Option.bind_some, if_true]
