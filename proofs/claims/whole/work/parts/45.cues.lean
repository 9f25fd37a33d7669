/-! how a cue stands; cueOf -/
def cst (S : AT) (c : Nat) : Int32 := if ¬ S (1132 + 5 * c + 4) = 0 then 3 else if S (1132 + 5 * c + 2) ≤ S 1645 then (if S (1132 + 5 * c + 2) + S (1132 + 5 * c + 3) ≤ S 1645 then 2 else 1) else 0
theorem qget {n : Nat} {V : VT} {S : AT} {c i : Nat} (h : GG n (V 0) S) (hc : c < 60) (hi : i < 5) : f_X7_get 1368 60 5 (Int32.ofNat c) (Int32.ofNat i) V = some (S (1132 + 5 * c + i)) := by
  rw [gcue hc hi, show 1368 + (5 * c + i) = 1368 + 5 * c + i by omega, h.1.rq c i hc hi]
theorem nget {n : Nat} {V : VT} {S : AT} {i : Nat} (h : GG n (V 0) S) (hi : i < 6) : f_X7_get 1868 1 6 0 (Int32.ofNat i) V = some (S (1640 + i)) := by
  rw [gcount hi, h.1.rn i hi]
theorem cue_nums {n : Nat} {C S : AT} {c : Nat} (h : GG n C S) (hn : n ≤ 1000) (hc : c < 60) (ht : Int32.ofNat c < S 1642) : (S 1645 - S (1132 + 5 * c + 2)).toInt = (S 1645).toInt - (S (1132 + 5 * c + 2)).toInt ∧ (S (1132 + 5 * c + 2) + S (1132 + 5 * c + 3)).toInt = (S (1132 + 5 * c + 2)).toInt + (S (1132 + 5 * c + 3)).toInt := by
  obtain ⟨-, -, ⟨a, a1, a2, a3⟩, ⟨d, d1, d2, d3⟩, -⟩ := h.2.wq c hc ht
  obtain ⟨m, m1, m2, m3⟩ := h.2.wn5
  have e1 := ti_nat (n := a) (by omega)
  have e2 := ti_nat (n := d) (by omega)
  have e3 := ti_nat (n := m) (by omega)
  rw [a3, d3, m3]
  exact ⟨i32_sub (by omega) (by omega), i32_add (by omega) (by omega)⟩
theorem c_cueState {n : Nat} {V : VT} {S : AT} {c : Nat} (h : GG n (V 0) S) (hn : n ≤ 1000) (hc : c < 60) (ht : Int32.ofNat c < S 1642) : f_X3_cueState (Int32.ofNat c) V = some (cst S c) := by
  have e4 : f_X7_get 1368 60 5 (Int32.ofNat c) 4 V = some (S (1132 + 5 * c + 4)) := qget (i := 4) h hc (by omega)
  have e2 : f_X7_get 1368 60 5 (Int32.ofNat c) 2 V = some (S (1132 + 5 * c + 2)) := qget (i := 2) h hc (by omega)
  have e3 : f_X7_get 1368 60 5 (Int32.ofNat c) 3 V = some (S (1132 + 5 * c + 3)) := qget (i := 3) h hc (by omega)
  have e5 : f_X7_get 1868 1 6 0 5 V = some (S 1645) := nget (i := 5) h (by omega)
  obtain ⟨n1, n2⟩ := cue_nums h hn hc ht
  have q1 : (0 ≤ S 1645 - S (1132 + 5 * c + 2)) ↔ S (1132 + 5 * c + 2) ≤ S 1645 := by
    rw [Int32.le_iff_toInt_le, Int32.le_iff_toInt_le, n1, ti_lit0]; omega
  have q2 : (S (1132 + 5 * c + 3) ≤ S 1645 - S (1132 + 5 * c + 2)) ↔ S (1132 + 5 * c + 2) + S (1132 + 5 * c + 3) ≤ S 1645 := by
    rw [Int32.le_iff_toInt_le, Int32.le_iff_toInt_le, n1, n2]; omega
  unfold f_X3_cueState cst
  rw [e4]; simp only [Option.bind_some]
  by_cases h0 : S (1132 + 5 * c + 4) = 0
  · rw [if_pos h0, if_neg (fun q => q h0), e5]; simp only [Option.bind_some]
    rw [e2]; simp only [Option.bind_some]
    by_cases h1 : S (1132 + 5 * c + 2) ≤ S 1645
    · rw [if_pos (q1.mpr h1), if_pos h1, e3]; simp only [Option.bind_some]
      by_cases h2 : S (1132 + 5 * c + 2) + S (1132 + 5 * c + 3) ≤ S 1645
      · rw [if_pos (q2.mpr h2), if_pos h2]
      · rw [if_neg (fun q => h2 (q2.mp q)), if_neg h2]
    · rw [if_neg (fun q => h1 (q1.mp q)), if_neg h1]
  · rw [if_neg h0, if_pos h0]
theorem m_cueIs {M : VT} {c i : Nat} (hc : c < 60) (hi : i < 5) : f_X12_cueIs (Int32.ofNat c) (Int32.ofNat i) M = some (M 0 (1132 + 5 * c + i)) := by
  unfold f_X12_cueIs
  rw [show (1132 : Int32) + 5 * Int32.ofNat c + Int32.ofNat i = Int32.ofNat (1132 + 5 * c + i) by rw [Int32.ofNat_add, Int32.ofNat_add, Int32.ofNat_mul]; rfl, ck_nat (by omega) (by omega)]; rfl
theorem ck_lit {N k : Nat} {x : Int32} (hx : x = Int32.ofNat k) (h : k < N) (hN : N ≤ 2147483648) : ckA N x = some k := by rw [hx]; exact ck_nat h hN
theorem m_runs {M : VT} {c : Nat} (hc : c < 60) : f_X12_runs (Int32.ofNat c) M = some (if cst (M 0) c = 1 then 1 else 0) := by
  have e4 : f_X12_cueIs (Int32.ofNat c) 4 M = some (M 0 (1132 + 5 * c + 4)) := m_cueIs (i := 4) hc (by omega)
  have e2 : f_X12_cueIs (Int32.ofNat c) 2 M = some (M 0 (1132 + 5 * c + 2)) := m_cueIs (i := 2) hc (by omega)
  have e3 : f_X12_cueIs (Int32.ofNat c) 3 M = some (M 0 (1132 + 5 * c + 3)) := m_cueIs (i := 3) hc (by omega)
  have ek : ckA 1646 (1645 : Int32) = some 1645 := ck_lit (k := 1645) rfl (by omega) (by omega)
  unfold f_X12_runs f_X12_runs_j54
  rw [e4]; simp only [Option.bind_some]
  by_cases h0 : M 0 (1132 + 5 * c + 4) = 0
  · by_cases h1 : M 0 (1132 + 5 * c + 2) ≤ M 0 1645
    · by_cases h2 : M 0 (1132 + 5 * c + 2) + M 0 (1132 + 5 * c + 3) ≤ M 0 1645
      · have ec : cst (M 0) c = 2 := by unfold cst; rw [if_neg (fun q => q h0), if_pos h1, if_pos h2]
        rw [ec, if_pos h0, ek]; simp only [Option.bind_some]
        rw [e2]; simp only [Option.bind_some]
        rw [if_neg (fun q => lt_nle q h1), e3]; simp only [Option.bind_some]
        rw [if_pos h2]; rfl
      · have ec : cst (M 0) c = 1 := by unfold cst; rw [if_neg (fun q => q h0), if_pos h1, if_neg h2]
        rw [ec, if_pos h0, ek]; simp only [Option.bind_some]
        rw [e2]; simp only [Option.bind_some]
        rw [if_neg (fun q => lt_nle q h1), e3]; simp only [Option.bind_some]
        rw [if_neg h2]; rfl
    · have ec : cst (M 0) c = 0 := by unfold cst; rw [if_neg (fun q => q h0), if_neg h1]
      rw [ec, if_pos h0, ek]; simp only [Option.bind_some]
      rw [e2]; simp only [Option.bind_some]
      rw [if_pos (nle_lt h1)]; rfl
  · have ec : cst (M 0) c = 3 := by unfold cst; rw [if_pos h0]
    rw [ec, if_neg h0]; rfl
