/-! each clause sees some columns alone -/
theorem ctS_rg {S S2 : AT} (hBC : ∀ b p : Nat, b < 12 → p < 16 → S (21 * b + 5 + p) = S2 (21 * b + 5 + p)) : ctS S2 = ctS S := by
  funext b p; unfold ctS; split
  · next h => rw [hBC b p h.1 h.2]
  · rfl
theorem R_rb0_rg {C C2 S S2 : AT} (hCB0 : ∀ b : Nat, b < 12 → C (4 * b) = C2 (4 * b)) (hBP : ∀ b : Nat, b < 12 → S (21 * b + 1) = S2 (21 * b + 1)) (h : R_rb0 C S) : R_rb0 C2 S2 := by
  intro b h0
  have h9 := h b h0
  simp only [← hCB0 b (by omega), ← hBP b (by omega)]
  exact h9
theorem R_rb1_rg {C C2 S S2 : AT} (hCB1 : ∀ b : Nat, b < 12 → C (4 * b + 1) = C2 (4 * b + 1)) (hBG : ∀ b : Nat, b < 12 → S (21 * b + 2) = S2 (21 * b + 2)) (h : R_rb1 C S) : R_rb1 C2 S2 := by
  intro b h0
  have h9 := h b h0
  simp only [← hCB1 b (by omega), ← hBG b (by omega)]
  exact h9
theorem R_rb2_rg {C C2 S S2 : AT} (hCB2 : ∀ b : Nat, b < 12 → C (4 * b + 2) = C2 (4 * b + 2)) (hBH : ∀ b : Nat, b < 12 → S (21 * b + 3) = S2 (21 * b + 3)) (h : R_rb2 C S) : R_rb2 C2 S2 := by
  intro b h0
  have h9 := h b h0
  simp only [← hCB2 b (by omega), ← hBH b (by omega)]
  exact h9
theorem R_rb3_rg {C C2 S S2 : AT} (hCB3 : ∀ b : Nat, b < 12 → C (4 * b + 3) = C2 (4 * b + 3)) (hBK : ∀ b : Nat, b < 12 → S (21 * b + 4) = S2 (21 * b + 4)) (h : R_rb3 C S) : R_rb3 C2 S2 := by
  intro b h0
  have h9 := h b h0
  simp only [← hCB3 b (by omega), ← hBK b (by omega)]
  exact h9
theorem R_rc_rg {C C2 S S2 : AT} (hCC : ∀ b p : Nat, b < 12 → p < 16 → C (48 + 16 * b + p) = C2 (48 + 16 * b + p)) (hBC : ∀ b p : Nat, b < 12 → p < 16 → S (21 * b + 5 + p) = S2 (21 * b + 5 + p)) (h : R_rc C S) : R_rc C2 S2 := by
  intro b p h0 h1
  have h9 := h b p h0 h1
  simp only [← hCC b p (by omega) (by omega), ← hBC b p (by omega) (by omega)]
  exact h9
theorem R_rl0_rg {C C2 S S2 : AT} (hCL0 : ∀ l : Nat, l < 40 → C (240 + 12 * l) = C2 (240 + 12 * l)) (hL0 : ∀ l : Nat, l < 40 → S (252 + 12 * l) = S2 (252 + 12 * l)) (h : R_rl0 C S) : R_rl0 C2 S2 := by
  intro l h0
  have h9 := h l h0
  simp only [← hCL0 l (by omega), ← hL0 l (by omega)]
  exact h9
theorem R_rl1_rg {C C2 S S2 : AT} (hCL1 : ∀ l : Nat, l < 40 → C (240 + 12 * l + 1) = C2 (240 + 12 * l + 1)) (hL1 : ∀ l : Nat, l < 40 → S (252 + 12 * l + 1) = S2 (252 + 12 * l + 1)) (h : R_rl1 C S) : R_rl1 C2 S2 := by
  intro l h0
  have h9 := h l h0
  simp only [← hCL1 l (by omega), ← hL1 l (by omega)]
  exact h9
theorem R_rl2_rg {C C2 S S2 : AT} (hCL2 : ∀ l : Nat, l < 40 → C (240 + 12 * l + 2) = C2 (240 + 12 * l + 2)) (hL2 : ∀ l : Nat, l < 40 → S (252 + 12 * l + 2) = S2 (252 + 12 * l + 2)) (h : R_rl2 C S) : R_rl2 C2 S2 := by
  intro l h0
  have h9 := h l h0
  simp only [← hCL2 l (by omega), ← hL2 l (by omega)]
  exact h9
theorem R_rl3_rg {C C2 S S2 : AT} (hCL3 : ∀ l : Nat, l < 40 → C (240 + 12 * l + 3) = C2 (240 + 12 * l + 3)) (hL3 : ∀ l : Nat, l < 40 → S (252 + 12 * l + 3) = S2 (252 + 12 * l + 3)) (h : R_rl3 C S) : R_rl3 C2 S2 := by
  intro l h0
  have h9 := h l h0
  simp only [← hCL3 l (by omega), ← hL3 l (by omega)]
  exact h9
theorem R_rls_rg {C C2 S S2 : AT} (hCLS : ∀ l i : Nat, l < 40 → i < 8 → C (240 + 12 * l + 4 + i) = C2 (240 + 12 * l + 4 + i)) (hLS : ∀ l i : Nat, l < 40 → i < 8 → S (252 + 12 * l + 4 + i) = S2 (252 + 12 * l + 4 + i)) (h : R_rls C S) : R_rls C2 S2 := by
  intro l i h0 h1
  have h9 := h l i h0 h1
  simp only [← hCLS l i (by omega) (by omega), ← hLS l i (by omega) (by omega)]
  exact h9
theorem R_rt0_rg {C C2 S S2 : AT} (hCT0 : ∀ t : Nat, t < 80 → C (720 + 8 * t) = C2 (720 + 8 * t)) (hT0 : ∀ t : Nat, t < 80 → S (732 + 5 * t) = S2 (732 + 5 * t)) (h : R_rt0 C S) : R_rt0 C2 S2 := by
  intro t h0
  have h9 := h t h0
  simp only [← hCT0 t (by omega), ← hT0 t (by omega)]
  exact h9
theorem R_rt1_rg {C C2 S S2 : AT} (hCT1 : ∀ t : Nat, t < 80 → C (720 + 8 * t + 1) = C2 (720 + 8 * t + 1)) (hT1 : ∀ t : Nat, t < 80 → S (732 + 5 * t + 1) = S2 (732 + 5 * t + 1)) (h : R_rt1 C S) : R_rt1 C2 S2 := by
  intro t h0
  have h9 := h t h0
  simp only [← hCT1 t (by omega), ← hT1 t (by omega)]
  exact h9
theorem R_rt2_rg {C C2 S S2 : AT} (hCT2 : ∀ t : Nat, t < 80 → C (720 + 8 * t + 2) = C2 (720 + 8 * t + 2)) (hT2 : ∀ t : Nat, t < 80 → S (732 + 5 * t + 2) = S2 (732 + 5 * t + 2)) (h : R_rt2 C S) : R_rt2 C2 S2 := by
  intro t h0
  have h9 := h t h0
  simp only [← hCT2 t (by omega), ← hT2 t (by omega)]
  exact h9
theorem R_rt3_rg {C C2 S S2 : AT} (hCT3 : ∀ t : Nat, t < 80 → C (720 + 8 * t + 3) = C2 (720 + 8 * t + 3)) (hT3 : ∀ t : Nat, t < 80 → S (732 + 5 * t + 3) = S2 (732 + 5 * t + 3)) (h : R_rt3 C S) : R_rt3 C2 S2 := by
  intro t h0
  have h9 := h t h0
  simp only [← hCT3 t (by omega), ← hT3 t (by omega)]
  exact h9
theorem R_rh_rg {C C2 S S2 : AT} (hCT5 : ∀ t : Nat, t < 80 → C (720 + 8 * t + 5) = C2 (720 + 8 * t + 5)) (hT4 : ∀ t : Nat, t < 80 → S (732 + 5 * t + 4) = S2 (732 + 5 * t + 4)) (h : R_rh C S) : R_rh C2 S2 := by
  intro t h0
  have h9 := h t h0
  simp only [← hCT5 t (by omega), ← hT4 t (by omega)]
  exact h9
theorem R_rf_rg {C C2 S S2 : AT} (hCF : ∀ k : Nat, k < 8 → C (1360 + k) = C2 (1360 + k)) (hF : ∀ k : Nat, k < 8 → S (1432 + k) = S2 (1432 + k)) (h : R_rf C S) : R_rf C2 S2 := by
  intro k h0
  have h9 := h k h0
  simp only [← hCF k (by omega), ← hF k (by omega)]
  exact h9
theorem R_rq0_rg {C C2 S S2 : AT} (hCQ0 : ∀ c : Nat, c < 60 → C (1368 + 5 * c) = C2 (1368 + 5 * c)) (hQ0 : ∀ c : Nat, c < 60 → S (1132 + 5 * c) = S2 (1132 + 5 * c)) (h : R_rq0 C S) : R_rq0 C2 S2 := by
  intro c h0
  have h9 := h c h0
  simp only [← hCQ0 c (by omega), ← hQ0 c (by omega)]
  exact h9
theorem R_rq1_rg {C C2 S S2 : AT} (hCQ1 : ∀ c : Nat, c < 60 → C (1368 + 5 * c + 1) = C2 (1368 + 5 * c + 1)) (hQ1 : ∀ c : Nat, c < 60 → S (1132 + 5 * c + 1) = S2 (1132 + 5 * c + 1)) (h : R_rq1 C S) : R_rq1 C2 S2 := by
  intro c h0
  have h9 := h c h0
  simp only [← hCQ1 c (by omega), ← hQ1 c (by omega)]
  exact h9
theorem R_rq2_rg {C C2 S S2 : AT} (hCQ2 : ∀ c : Nat, c < 60 → C (1368 + 5 * c + 2) = C2 (1368 + 5 * c + 2)) (hQ2 : ∀ c : Nat, c < 60 → S (1132 + 5 * c + 2) = S2 (1132 + 5 * c + 2)) (h : R_rq2 C S) : R_rq2 C2 S2 := by
  intro c h0
  have h9 := h c h0
  simp only [← hCQ2 c (by omega), ← hQ2 c (by omega)]
  exact h9
theorem R_rq3_rg {C C2 S S2 : AT} (hCQ3 : ∀ c : Nat, c < 60 → C (1368 + 5 * c + 3) = C2 (1368 + 5 * c + 3)) (hQ3 : ∀ c : Nat, c < 60 → S (1132 + 5 * c + 3) = S2 (1132 + 5 * c + 3)) (h : R_rq3 C S) : R_rq3 C2 S2 := by
  intro c h0
  have h9 := h c h0
  simp only [← hCQ3 c (by omega), ← hQ3 c (by omega)]
  exact h9
theorem R_rq4_rg {C C2 S S2 : AT} (hCQ4 : ∀ c : Nat, c < 60 → C (1368 + 5 * c + 4) = C2 (1368 + 5 * c + 4)) (hQ4 : ∀ c : Nat, c < 60 → S (1132 + 5 * c + 4) = S2 (1132 + 5 * c + 4)) (h : R_rq4 C S) : R_rq4 C2 S2 := by
  intro c h0
  have h9 := h c h0
  simp only [← hCQ4 c (by omega), ← hQ4 c (by omega)]
  exact h9
theorem R_rn0_rg {C C2 S S2 : AT} (hCN0 : C (1868) = C2 (1868)) (hN0 : S (1640) = S2 (1640)) (h : R_rn0 C S) : R_rn0 C2 S2 := by
  have h9 := h
  unfold R_rn0 at h9 ⊢
  simp only [← hCN0, ← hN0]
  exact h9
theorem R_rn1_rg {C C2 S S2 : AT} (hCN1 : C (1869) = C2 (1869)) (hN1 : S (1641) = S2 (1641)) (h : R_rn1 C S) : R_rn1 C2 S2 := by
  have h9 := h
  unfold R_rn1 at h9 ⊢
  simp only [← hCN1, ← hN1]
  exact h9
theorem R_rn2_rg {C C2 S S2 : AT} (hCN2 : C (1870) = C2 (1870)) (hN2 : S (1642) = S2 (1642)) (h : R_rn2 C S) : R_rn2 C2 S2 := by
  have h9 := h
  unfold R_rn2 at h9 ⊢
  simp only [← hCN2, ← hN2]
  exact h9
theorem R_rn3_rg {C C2 S S2 : AT} (hCN3 : C (1871) = C2 (1871)) (hN3 : S (1643) = S2 (1643)) (h : R_rn3 C S) : R_rn3 C2 S2 := by
  have h9 := h
  unfold R_rn3 at h9 ⊢
  simp only [← hCN3, ← hN3]
  exact h9
theorem R_rn4_rg {C C2 S S2 : AT} (hCN4 : C (1872) = C2 (1872)) (hN4 : S (1644) = S2 (1644)) (h : R_rn4 C S) : R_rn4 C2 S2 := by
  have h9 := h
  unfold R_rn4 at h9 ⊢
  simp only [← hCN4, ← hN4]
  exact h9
theorem R_rn5_rg {C C2 S S2 : AT} (hCN5 : C (1873) = C2 (1873)) (hN5 : S (1645) = S2 (1645)) (h : R_rn5 C S) : R_rn5 C2 S2 := by
  have h9 := h
  unfold R_rn5 at h9 ⊢
  simp only [← hCN5, ← hN5]
  exact h9
theorem R_rg_rg {C C2 S S2 : AT} (hN1 : S (1641) = S2 (1641)) (hT0 : ∀ t : Nat, t < 80 → S (732 + 5 * t) = S2 (732 + 5 * t)) (hT3 : ∀ t : Nat, t < 80 → S (732 + 5 * t + 3) = S2 (732 + 5 * t + 3)) (hCT4 : ∀ t : Nat, t < 80 → C (720 + 8 * t + 4) = C2 (720 + 8 * t + 4)) (h : R_rg C S) : R_rg C2 S2 := by
  intro t h0
  have h9 := h t h0
  simp only [← hN1, ← hT0 t (by omega), ← hT3 t (by omega), ← hCT4 t (by omega)]
  exact h9
theorem R_rp_rg {C C2 S S2 : AT} (hN1 : S (1641) = S2 (1641)) (hT0 : ∀ t : Nat, t < 80 → S (732 + 5 * t) = S2 (732 + 5 * t)) (hBC : ∀ b p : Nat, b < 12 → p < 16 → S (21 * b + 5 + p) = S2 (21 * b + 5 + p)) (hCT6 : ∀ t : Nat, t < 80 → C (720 + 8 * t + 6) = C2 (720 + 8 * t + 6)) (hCT7 : ∀ t : Nat, t < 80 → C (720 + 8 * t + 7) = C2 (720 + 8 * t + 7)) (h : R_rp C S) : R_rp C2 S2 := by
  intro t h0
  have h9 := h t h0
  simp only [← hN1, ← hT0 t (by omega), ctS_rg hBC, ← hCT6 t (by omega), ← hCT7 t (by omega)]
  exact h9
theorem R_rs_rg {C C2 S S2 : AT} (hN3 : S (1643) = S2 (1643)) (hP : ∀ k : Nat, k < 200 → S (1440 + k) = S2 (1440 + k)) (hCP : ∀ k : Nat, k < 200 → C (1668 + k) = C2 (1668 + k)) (h : R_rs C S) : R_rs C2 S2 := by
  intro m k i h0 h1 h2 h3
  have h9 := h m k i h0 h1 h2 h3
  have hb : 5 * ((if m < 40 then m else 40) - 1 - k) + i < 200 := by split <;> omega
  simp only [← hN3, ← hP _ hb, ← hCP (5 * ((m - 1 - k) % 40) + i) (by omega)]
  exact h9
theorem W_wn0_rg {n : Nat} {S S2 : AT} (hN0 : S (1640) = S2 (1640)) (h : W_wn0 n S) : W_wn0 n S2 := by
  have h9 := h
  unfold W_wn0 at h9 ⊢
  simp only [← hN0]
  exact h9
theorem W_wn1_rg {n : Nat} {S S2 : AT} (hN1 : S (1641) = S2 (1641)) (h : W_wn1 n S) : W_wn1 n S2 := by
  have h9 := h
  unfold W_wn1 at h9 ⊢
  simp only [← hN1]
  exact h9
theorem W_wn2_rg {n : Nat} {S S2 : AT} (hN2 : S (1642) = S2 (1642)) (h : W_wn2 n S) : W_wn2 n S2 := by
  have h9 := h
  unfold W_wn2 at h9 ⊢
  simp only [← hN2]
  exact h9
theorem W_wn3_rg {n : Nat} {S S2 : AT} (hN3 : S (1643) = S2 (1643)) (h : W_wn3 n S) : W_wn3 n S2 := by
  have h9 := h
  unfold W_wn3 at h9 ⊢
  simp only [← hN3]
  exact h9
theorem W_wn4_rg {n : Nat} {S S2 : AT} (hN4 : S (1644) = S2 (1644)) (h : W_wn4 n S) : W_wn4 n S2 := by
  have h9 := h
  unfold W_wn4 at h9 ⊢
  simp only [← hN4]
  exact h9
theorem W_wn5_rg {n : Nat} {S S2 : AT} (hN5 : S (1645) = S2 (1645)) (h : W_wn5 n S) : W_wn5 n S2 := by
  have h9 := h
  unfold W_wn5 at h9 ⊢
  simp only [← hN5]
  exact h9
theorem W_wb0_rg {n : Nat} {S S2 : AT} (hB0 : ∀ b : Nat, b < 12 → S (21 * b) = S2 (21 * b)) (h : W_wb0 n S) : W_wb0 n S2 := by
  intro b h0
  have h9 := h b h0
  simp only [← hB0 b (by omega)]
  exact h9
theorem W_wbp_rg {n : Nat} {S S2 : AT} (hB0 : ∀ b : Nat, b < 12 → S (21 * b) = S2 (21 * b)) (hBP : ∀ b : Nat, b < 12 → S (21 * b + 1) = S2 (21 * b + 1)) (h : W_wbp n S) : W_wbp n S2 := by
  intro b h0
  have h9 := h b h0
  simp only [← hB0 b (by omega), ← hBP b (by omega)]
  exact h9
theorem W_wbg_rg {n : Nat} {S S2 : AT} (hB0 : ∀ b : Nat, b < 12 → S (21 * b) = S2 (21 * b)) (hBG : ∀ b : Nat, b < 12 → S (21 * b + 2) = S2 (21 * b + 2)) (h : W_wbg n S) : W_wbg n S2 := by
  intro b h0
  have h9 := h b h0
  simp only [← hB0 b (by omega), ← hBG b (by omega)]
  exact h9
theorem W_wbh_rg {n : Nat} {S S2 : AT} (hB0 : ∀ b : Nat, b < 12 → S (21 * b) = S2 (21 * b)) (hBH : ∀ b : Nat, b < 12 → S (21 * b + 3) = S2 (21 * b + 3)) (h : W_wbh n S) : W_wbh n S2 := by
  intro b h0
  have h9 := h b h0
  simp only [← hB0 b (by omega), ← hBH b (by omega)]
  exact h9
theorem W_wbk_rg {n : Nat} {S S2 : AT} (hB0 : ∀ b : Nat, b < 12 → S (21 * b) = S2 (21 * b)) (hBK : ∀ b : Nat, b < 12 → S (21 * b + 4) = S2 (21 * b + 4)) (h : W_wbk n S) : W_wbk n S2 := by
  intro b h0
  have h9 := h b h0
  simp only [← hB0 b (by omega), ← hBK b (by omega)]
  exact h9
theorem W_wb2_rg {n : Nat} {S S2 : AT} (hB0 : ∀ b : Nat, b < 12 → S (21 * b) = S2 (21 * b)) (hBP : ∀ b : Nat, b < 12 → S (21 * b + 1) = S2 (21 * b + 1)) (h : W_wb2 n S) : W_wb2 n S2 := by
  intro b h0
  have h9 := h b h0
  simp only [← hB0 b (by omega), ← hBP b (by omega)]
  exact h9
theorem W_wb2g_rg {n : Nat} {S S2 : AT} (hB0 : ∀ b : Nat, b < 12 → S (21 * b) = S2 (21 * b)) (hBG : ∀ b : Nat, b < 12 → S (21 * b + 2) = S2 (21 * b + 2)) (h : W_wb2g n S) : W_wb2g n S2 := by
  intro b h0
  have h9 := h b h0
  simp only [← hB0 b (by omega), ← hBG b (by omega)]
  exact h9
theorem W_wb3_rg {n : Nat} {S S2 : AT} (hBP : ∀ b : Nat, b < 12 → S (21 * b + 1) = S2 (21 * b + 1)) (hBC : ∀ b p : Nat, b < 12 → p < 16 → S (21 * b + 5 + p) = S2 (21 * b + 5 + p)) (h : W_wb3 n S) : W_wb3 n S2 := by
  intro b p h0 h1
  have h9 := h b p h0 h1
  simp only [← hBP b (by omega), ← hBC b p (by omega) (by omega)]
  exact h9
theorem W_wb4_rg {n : Nat} {S S2 : AT} (hBH : ∀ b : Nat, b < 12 → S (21 * b + 3) = S2 (21 * b + 3)) (h : W_wb4 n S) : W_wb4 n S2 := by
  intro b h0
  have h9 := h b h0
  simp only [← hBH b (by omega)]
  exact h9
theorem W_wb4k_rg {n : Nat} {S S2 : AT} (hBK : ∀ b : Nat, b < 12 → S (21 * b + 4) = S2 (21 * b + 4)) (h : W_wb4k n S) : W_wb4k n S2 := by
  intro b h0
  have h9 := h b h0
  simp only [← hBK b (by omega)]
  exact h9
theorem W_wb5_rg {n : Nat} {S S2 : AT} (hBC : ∀ b p : Nat, b < 12 → p < 16 → S (21 * b + 5 + p) = S2 (21 * b + 5 + p)) (hN1 : S (1641) = S2 (1641)) (h : W_wb5 n S) : W_wb5 n S2 := by
  intro b p h0 h1
  have h9 := h b p h0 h1
  simp only [← hBC b p (by omega) (by omega), ← hN1]
  exact h9
theorem W_wl0_rg {n : Nat} {S S2 : AT} (hN0 : S (1640) = S2 (1640)) (hL3 : ∀ l : Nat, l < 40 → S (252 + 12 * l + 3) = S2 (252 + 12 * l + 3)) (h : W_wl0 n S) : W_wl0 n S2 := by
  intro l h0
  have h9 := h l h0
  simp only [← hN0, ← hL3 l (by omega)]
  exact h9
theorem W_wla_rg {n : Nat} {S S2 : AT} (hN0 : S (1640) = S2 (1640)) (hL0 : ∀ l : Nat, l < 40 → S (252 + 12 * l) = S2 (252 + 12 * l)) (h : W_wla n S) : W_wla n S2 := by
  intro l h0
  have h9 := h l h0
  simp only [← hN0, ← hL0 l (by omega)]
  exact h9
theorem W_wlb_rg {n : Nat} {S S2 : AT} (hN0 : S (1640) = S2 (1640)) (hL1 : ∀ l : Nat, l < 40 → S (252 + 12 * l + 1) = S2 (252 + 12 * l + 1)) (h : W_wlb n S) : W_wlb n S2 := by
  intro l h0
  have h9 := h l h0
  simp only [← hN0, ← hL1 l (by omega)]
  exact h9
theorem W_wlc_rg {n : Nat} {S S2 : AT} (hN0 : S (1640) = S2 (1640)) (hL2 : ∀ l : Nat, l < 40 → S (252 + 12 * l + 2) = S2 (252 + 12 * l + 2)) (h : W_wlc n S) : W_wlc n S2 := by
  intro l h0
  have h9 := h l h0
  simp only [← hN0, ← hL2 l (by omega)]
  exact h9
theorem W_wld_rg {n : Nat} {S S2 : AT} (hN0 : S (1640) = S2 (1640)) (hL3 : ∀ l : Nat, l < 40 → S (252 + 12 * l + 3) = S2 (252 + 12 * l + 3)) (h : W_wld n S) : W_wld n S2 := by
  intro l h0
  have h9 := h l h0
  simp only [← hN0, ← hL3 l (by omega)]
  exact h9
theorem W_wl2_rg {n : Nat} {S S2 : AT} (hN0 : S (1640) = S2 (1640)) (hL2 : ∀ l : Nat, l < 40 → S (252 + 12 * l + 2) = S2 (252 + 12 * l + 2)) (hLS : ∀ l i : Nat, l < 40 → i < 8 → S (252 + 12 * l + 4 + i) = S2 (252 + 12 * l + 4 + i)) (h : W_wl2 n S) : W_wl2 n S2 := by
  intro l i h0 h1
  have h9 := h l i h0 h1
  simp only [← hN0, ← hL2 l (by omega), ← hLS l i (by omega) (by omega)]
  exact h9
theorem W_wl4_rg {n : Nat} {S S2 : AT} (hL3 : ∀ l : Nat, l < 40 → S (252 + 12 * l + 3) = S2 (252 + 12 * l + 3)) (hL0 : ∀ l : Nat, l < 40 → S (252 + 12 * l) = S2 (252 + 12 * l)) (hL1 : ∀ l : Nat, l < 40 → S (252 + 12 * l + 1) = S2 (252 + 12 * l + 1)) (h : W_wl4 n S) : W_wl4 n S2 := by
  intro l m h0 h1 h2
  have h9 := h l m h0 h1 h2
  simp only [← hL3 l (by omega), ← hL3 m (by omega), ← hL0 l (by omega), ← hL0 m (by omega), ← hL1 l (by omega), ← hL1 m (by omega)]
  exact h9
theorem W_wt0_rg {n : Nat} {S S2 : AT} (hN1 : S (1641) = S2 (1641)) (hT0 : ∀ t : Nat, t < 80 → S (732 + 5 * t) = S2 (732 + 5 * t)) (h : W_wt0 n S) : W_wt0 n S2 := by
  intro t h0
  have h9 := h t h0
  simp only [← hN1, ← hT0 t (by omega)]
  exact h9
theorem W_wt1_rg {n : Nat} {S S2 : AT} (hN1 : S (1641) = S2 (1641)) (hT1 : ∀ t : Nat, t < 80 → S (732 + 5 * t + 1) = S2 (732 + 5 * t + 1)) (h : W_wt1 n S) : W_wt1 n S2 := by
  intro t h0
  have h9 := h t h0
  simp only [← hN1, ← hT1 t (by omega)]
  exact h9
theorem W_wt2_rg {n : Nat} {S S2 : AT} (hN1 : S (1641) = S2 (1641)) (hT2 : ∀ t : Nat, t < 80 → S (732 + 5 * t + 2) = S2 (732 + 5 * t + 2)) (h : W_wt2 n S) : W_wt2 n S2 := by
  intro t h0
  have h9 := h t h0
  simp only [← hN1, ← hT2 t (by omega)]
  exact h9
theorem W_wt3_rg {n : Nat} {S S2 : AT} (hN1 : S (1641) = S2 (1641)) (hT3 : ∀ t : Nat, t < 80 → S (732 + 5 * t + 3) = S2 (732 + 5 * t + 3)) (h : W_wt3 n S) : W_wt3 n S2 := by
  intro t h0
  have h9 := h t h0
  simp only [← hN1, ← hT3 t (by omega)]
  exact h9
theorem W_wt4_rg {n : Nat} {S S2 : AT} (hN1 : S (1641) = S2 (1641)) (hT4 : ∀ t : Nat, t < 80 → S (732 + 5 * t + 4) = S2 (732 + 5 * t + 4)) (hT0 : ∀ t : Nat, t < 80 → S (732 + 5 * t) = S2 (732 + 5 * t)) (h : W_wt4 n S) : W_wt4 n S2 := by
  intro t h0
  have h9 := h t h0
  simp only [← hN1, ← hT4 t (by omega), ← hT0 t (by omega)]
  exact h9
theorem W_wqa_rg {n : Nat} {S S2 : AT} (hN2 : S (1642) = S2 (1642)) (hQ0 : ∀ c : Nat, c < 60 → S (1132 + 5 * c) = S2 (1132 + 5 * c)) (h : W_wqa n S) : W_wqa n S2 := by
  intro c h0
  have h9 := h c h0
  simp only [← hN2, ← hQ0 c (by omega)]
  exact h9
theorem W_wqb_rg {n : Nat} {S S2 : AT} (hN2 : S (1642) = S2 (1642)) (hQ1 : ∀ c : Nat, c < 60 → S (1132 + 5 * c + 1) = S2 (1132 + 5 * c + 1)) (h : W_wqb n S) : W_wqb n S2 := by
  intro c h0
  have h9 := h c h0
  simp only [← hN2, ← hQ1 c (by omega)]
  exact h9
theorem W_wqc_rg {n : Nat} {S S2 : AT} (hN2 : S (1642) = S2 (1642)) (hQ2 : ∀ c : Nat, c < 60 → S (1132 + 5 * c + 2) = S2 (1132 + 5 * c + 2)) (h : W_wqc n S) : W_wqc n S2 := by
  intro c h0
  have h9 := h c h0
  simp only [← hN2, ← hQ2 c (by omega)]
  exact h9
theorem W_wqd_rg {n : Nat} {S S2 : AT} (hN2 : S (1642) = S2 (1642)) (hQ3 : ∀ c : Nat, c < 60 → S (1132 + 5 * c + 3) = S2 (1132 + 5 * c + 3)) (h : W_wqd n S) : W_wqd n S2 := by
  intro c h0
  have h9 := h c h0
  simp only [← hN2, ← hQ3 c (by omega)]
  exact h9
theorem W_wqe_rg {n : Nat} {S S2 : AT} (hN2 : S (1642) = S2 (1642)) (hQ4 : ∀ c : Nat, c < 60 → S (1132 + 5 * c + 4) = S2 (1132 + 5 * c + 4)) (h : W_wqe n S) : W_wqe n S2 := by
  intro c h0
  have h9 := h c h0
  simp only [← hN2, ← hQ4 c (by omega)]
  exact h9
theorem W_wq2_rg {n : Nat} {S S2 : AT} (hN2 : S (1642) = S2 (1642)) (hQ0 : ∀ c : Nat, c < 60 → S (1132 + 5 * c) = S2 (1132 + 5 * c)) (hB0 : ∀ b : Nat, b < 12 → S (21 * b) = S2 (21 * b)) (hQ4 : ∀ c : Nat, c < 60 → S (1132 + 5 * c + 4) = S2 (1132 + 5 * c + 4)) (hQ2 : ∀ c : Nat, c < 60 → S (1132 + 5 * c + 2) = S2 (1132 + 5 * c + 2)) (hQ3 : ∀ c : Nat, c < 60 → S (1132 + 5 * c + 3) = S2 (1132 + 5 * c + 3)) (hN5 : S (1645) = S2 (1645)) (h : W_wq2 n S) : W_wq2 n S2 := by
  intro c b h0 h1
  have h9 := h c b h0 h1
  simp only [← hN2, ← hQ0 c (by omega), ← hB0 b (by omega), ← hQ4 c (by omega), ← hQ2 c (by omega), ← hQ3 c (by omega), ← hN5]
  exact h9
theorem W_wf_rg {n : Nat} {S S2 : AT} (hF : ∀ k : Nat, k < 8 → S (1432 + k) = S2 (1432 + k)) (h : W_wf n S) : W_wf n S2 := by
  intro k h0
  have h9 := h k h0
  simp only [← hF k (by omega)]
  exact h9
theorem W_wh_rg {n : Nat} {S S2 : AT} (hBC : ∀ b p : Nat, b < 12 → p < 16 → S (21 * b + 5 + p) = S2 (21 * b + 5 + p)) (hT0 : ∀ t : Nat, t < 80 → S (732 + 5 * t) = S2 (732 + 5 * t)) (hT4 : ∀ t : Nat, t < 80 → S (732 + 5 * t + 4) = S2 (732 + 5 * t + 4)) (h : W_wh n S) : W_wh n S2 := by
  intro b p q t u h0 h1 h2 h3 h4 h5 h6 h7
  have h9 := h b p q t u h0 h1 h2 h3 h4 h5 h6 h7
  simp only [← hBC b p (by omega) (by omega), ← hBC b q (by omega) (by omega), ← hT0 t (by omega), ← hT4 u (by omega)]
  exact h9
theorem gg_start : GG 0 (V0 0) (M0 0) := by
  have z2 : ∀ t : Nat, t < 80 → ¬ Int32.ofNat t < (0 : Int32) := fun t ht => nat_nneg (by omega)
  have r0 : ∀ a b : Nat, RG 0 0 b := fun _ b => ⟨0, Nat.le_refl _, Nat.zero_le _, rfl⟩
  have a_rb0 : R_rb0 (V0 0) (M0 0) := fun _ _ => rfl
  have a_rb1 : R_rb1 (V0 0) (M0 0) := fun _ _ => rfl
  have a_rb2 : R_rb2 (V0 0) (M0 0) := fun _ _ => rfl
  have a_rb3 : R_rb3 (V0 0) (M0 0) := fun _ _ => rfl
  have a_rc : R_rc (V0 0) (M0 0) := fun _ _ _ _ => rfl
  have a_rl0 : R_rl0 (V0 0) (M0 0) := fun _ _ => rfl
  have a_rl1 : R_rl1 (V0 0) (M0 0) := fun _ _ => rfl
  have a_rl2 : R_rl2 (V0 0) (M0 0) := fun _ _ => rfl
  have a_rl3 : R_rl3 (V0 0) (M0 0) := fun _ _ => rfl
  have a_rls : R_rls (V0 0) (M0 0) := fun _ _ _ _ => rfl
  have a_rt0 : R_rt0 (V0 0) (M0 0) := fun _ _ => rfl
  have a_rt1 : R_rt1 (V0 0) (M0 0) := fun _ _ => rfl
  have a_rt2 : R_rt2 (V0 0) (M0 0) := fun _ _ => rfl
  have a_rt3 : R_rt3 (V0 0) (M0 0) := fun _ _ => rfl
  have a_rh : R_rh (V0 0) (M0 0) := fun _ _ => rfl
  have a_rf : R_rf (V0 0) (M0 0) := fun _ _ => rfl
  have a_rq0 : R_rq0 (V0 0) (M0 0) := fun _ _ => rfl
  have a_rq1 : R_rq1 (V0 0) (M0 0) := fun _ _ => rfl
  have a_rq2 : R_rq2 (V0 0) (M0 0) := fun _ _ => rfl
  have a_rq3 : R_rq3 (V0 0) (M0 0) := fun _ _ => rfl
  have a_rq4 : R_rq4 (V0 0) (M0 0) := fun _ _ => rfl
  have a_rn0 : R_rn0 (V0 0) (M0 0) := rfl
  have a_rn1 : R_rn1 (V0 0) (M0 0) := rfl
  have a_rn2 : R_rn2 (V0 0) (M0 0) := rfl
  have a_rn3 : R_rn3 (V0 0) (M0 0) := rfl
  have a_rn4 : R_rn4 (V0 0) (M0 0) := rfl
  have a_rn5 : R_rn5 (V0 0) (M0 0) := rfl
  have a_rg : R_rg (V0 0) (M0 0) := fun x0 y0 => (fun q => absurd q (z2 _ (by omega)))
  have a_rp : R_rp (V0 0) (M0 0) := fun x0 y0 => (fun q => absurd q (z2 _ (by omega)))
  have a_rs : R_rs (V0 0) (M0 0) := fun _ _ _ _ _ _ _ _ => rfl
  have a_wn0 : W_wn0 0 (M0 0) := r0 0 _
  have a_wn1 : W_wn1 0 (M0 0) := r0 0 _
  have a_wn2 : W_wn2 0 (M0 0) := r0 0 _
  have a_wn3 : W_wn3 0 (M0 0) := r0 0 _
  have a_wn4 : W_wn4 0 (M0 0) := r0 0 _
  have a_wn5 : W_wn5 0 (M0 0) := r0 0 _
  have a_wb0 : W_wb0 0 (M0 0) := fun _ _ => Or.inl rfl
  have a_wbp : W_wbp 0 (M0 0) := fun _ _ _ => rfl
  have a_wbg : W_wbg 0 (M0 0) := fun _ _ _ => rfl
  have a_wbh : W_wbh 0 (M0 0) := fun _ _ _ => rfl
  have a_wbk : W_wbk 0 (M0 0) := fun _ _ _ => rfl
  have a_wb2 : W_wb2 0 (M0 0) := fun _ _ q => absurd q (show ¬ (0 : Int32) = 1 by decide)
  have a_wb2g : W_wb2g 0 (M0 0) := fun _ _ q => absurd q (show ¬ (0 : Int32) = 1 by decide)
  have a_wb3 : W_wb3 0 (M0 0) := fun _ _ _ _ _ => rfl
  have a_wb4 : W_wb4 0 (M0 0) := fun _ _ => r0 0 _
  have a_wb4k : W_wb4k 0 (M0 0) := fun _ _ => r0 0 _
  have a_wb5 : W_wb5 0 (M0 0) := fun _ _ _ _ => Or.inl rfl
  have a_wl0 : W_wl0 0 (M0 0) := fun _ _ _ => rfl
  have a_wla : W_wla 0 (M0 0) := fun x0 y0 => (fun q => absurd q (z2 _ (by omega)))
  have a_wlb : W_wlb 0 (M0 0) := fun x0 y0 => (fun q => absurd q (z2 _ (by omega)))
  have a_wlc : W_wlc 0 (M0 0) := fun x0 y0 => (fun q => absurd q (z2 _ (by omega)))
  have a_wld : W_wld 0 (M0 0) := fun x0 y0 => (fun q => absurd q (z2 _ (by omega)))
  have a_wl2 : W_wl2 0 (M0 0) := fun x0 x1 y0 y1 => (fun q => absurd q (z2 _ (by omega)))
  have a_wl4 : W_wl4 0 (M0 0) := fun _ _ _ _ _ q => absurd q (show ¬ (0 : Int32) = 1 by decide)
  have a_wt0 : W_wt0 0 (M0 0) := fun x0 y0 => (fun q => absurd q (z2 _ (by omega)))
  have a_wt1 : W_wt1 0 (M0 0) := fun x0 y0 => (fun q => absurd q (z2 _ (by omega)))
  have a_wt2 : W_wt2 0 (M0 0) := fun x0 y0 => (fun q => absurd q (z2 _ (by omega)))
  have a_wt3 : W_wt3 0 (M0 0) := fun x0 y0 => (fun q => absurd q (z2 _ (by omega)))
  have a_wt4 : W_wt4 0 (M0 0) := fun x0 y0 => (fun q => absurd q (z2 _ (by omega)))
  have a_wqa : W_wqa 0 (M0 0) := fun x0 y0 => (fun q => absurd q (z2 _ (by omega)))
  have a_wqb : W_wqb 0 (M0 0) := fun x0 y0 => (fun q => absurd q (z2 _ (by omega)))
  have a_wqc : W_wqc 0 (M0 0) := fun x0 y0 => (fun q => absurd q (z2 _ (by omega)))
  have a_wqd : W_wqd 0 (M0 0) := fun x0 y0 => (fun q => absurd q (z2 _ (by omega)))
  have a_wqe : W_wqe 0 (M0 0) := fun x0 y0 => (fun q => absurd q (z2 _ (by omega)))
  have a_wq2 : W_wq2 0 (M0 0) := fun x0 x1 y0 y1 => (fun q => absurd q (z2 _ (by omega)))
  have a_wf : W_wf 0 (M0 0) := fun _ _ => r0 0 _
  have a_wh : W_wh 0 (M0 0) := fun b p q t u _ _ _ _ _ ht hu _ h => absurd h (fun e => by
    have := (nat_eq (a := 0) (b := 2 + t) (by omega) (by omega)).mp e
    omega)
  exact ⟨⟨a_rb0, a_rb1, a_rb2, a_rb3, a_rc, a_rl0, a_rl1, a_rl2, a_rl3, a_rls, a_rt0, a_rt1, a_rt2, a_rt3, a_rh, a_rf, a_rq0, a_rq1, a_rq2, a_rq3, a_rq4, a_rn0, a_rn1, a_rn2, a_rn3, a_rn4, a_rn5, a_rg, a_rp, a_rs⟩, ⟨a_wn0, a_wn1, a_wn2, a_wn3, a_wn4, a_wn5, a_wb0, a_wbp, a_wbg, a_wbh, a_wbk, a_wb2, a_wb2g, a_wb3, a_wb4, a_wb4k, a_wb5, a_wl0, a_wla, a_wlb, a_wlc, a_wld, a_wl2, a_wl4, a_wt0, a_wt1, a_wt2, a_wt3, a_wt4, a_wqa, a_wqb, a_wqc, a_wqd, a_wqe, a_wq2, a_wf, a_wh⟩⟩
theorem pure_start : IG GG 0 V0 J0 (fun _ => none) M0 := by
  refine ⟨⟨by decide, by decide, fun c _ => Int.le_refl (0 : Int32).toInt⟩, 0, 0, 0, by omega, by omega, by omega, rfl, rfl, rfl, rfl, rfl, rfl, rfl, rfl, fun _ _ => rfl, fun i hi => by omega, gg_start, ⟨fun _ => V0 0, rfl, fun i hi => by omega⟩⟩
