/-! each clause sees some regions alone -/
theorem ctS_rg {S S2 : AT} (hB : ∀ k, 0 ≤ k → k < 252 → S k = S2 k) : ctS S2 = ctS S := by
  funext b p; unfold ctS; split
  · next h => rw [hB _ (by omega) (by omega)]
  · rfl
theorem R_rb_rg {C C2 S S2 : AT} (hCB : ∀ k, 0 ≤ k → k < 48 → C k = C2 k) (hB : ∀ k, 0 ≤ k → k < 252 → S k = S2 k) (h : R_rb C S) : R_rb C2 S2 := by
  intro b i h0 h1
  have h9 := h b i h0 h1
  simp only [← hB (21 * b + 1 + i) (by omega) (by omega), ← hCB (4 * b + i) (by omega) (by omega)]
  exact h9
theorem R_rc_rg {C C2 S S2 : AT} (hCC : ∀ k, 48 ≤ k → k < 240 → C k = C2 k) (hB : ∀ k, 0 ≤ k → k < 252 → S k = S2 k) (h : R_rc C S) : R_rc C2 S2 := by
  intro b p h0 h1
  have h9 := h b p h0 h1
  simp only [← hB (21 * b + 5 + p) (by omega) (by omega), ← hCC (48 + 16 * b + p) (by omega) (by omega)]
  exact h9
theorem R_rl_rg {C C2 S S2 : AT} (hCL : ∀ k, 240 ≤ k → k < 720 → C k = C2 k) (hL : ∀ k, 252 ≤ k → k < 732 → S k = S2 k) (h : R_rl C S) : R_rl C2 S2 := by
  intro i h0
  have h9 := h i h0
  simp only [← hL (252 + i) (by omega) (by omega), ← hCL (240 + i) (by omega) (by omega)]
  exact h9
theorem R_rt_rg {C C2 S S2 : AT} (hCT : ∀ k, 720 ≤ k → k < 1360 → C k = C2 k) (hT : ∀ k, 732 ≤ k → k < 1132 → S k = S2 k) (h : R_rt C S) : R_rt C2 S2 := by
  intro t i h0 h1
  have h9 := h t i h0 h1
  simp only [← hT (732 + 5 * t + i) (by omega) (by omega), ← hCT (720 + 8 * t + i) (by omega) (by omega)]
  exact h9
theorem R_rh_rg {C C2 S S2 : AT} (hCT : ∀ k, 720 ≤ k → k < 1360 → C k = C2 k) (hT : ∀ k, 732 ≤ k → k < 1132 → S k = S2 k) (h : R_rh C S) : R_rh C2 S2 := by
  intro t h0
  have h9 := h t h0
  simp only [← hT (732 + 5 * t + 4) (by omega) (by omega), ← hCT (720 + 8 * t + 5) (by omega) (by omega)]
  exact h9
theorem R_rf_rg {C C2 S S2 : AT} (hCF : ∀ k, 1360 ≤ k → k < 1368 → C k = C2 k) (hF : ∀ k, 1432 ≤ k → k < 1440 → S k = S2 k) (h : R_rf C S) : R_rf C2 S2 := by
  intro k h0
  have h9 := h k h0
  simp only [← hF (1432 + k) (by omega) (by omega), ← hCF (1360 + k) (by omega) (by omega)]
  exact h9
theorem R_rq_rg {C C2 S S2 : AT} (hCQ : ∀ k, 1368 ≤ k → k < 1668 → C k = C2 k) (hQ : ∀ k, 1132 ≤ k → k < 1432 → S k = S2 k) (h : R_rq C S) : R_rq C2 S2 := by
  intro i h0
  have h9 := h i h0
  simp only [← hQ (1132 + i) (by omega) (by omega), ← hCQ (1368 + i) (by omega) (by omega)]
  exact h9
theorem R_rn_rg {C C2 S S2 : AT} (hCN : ∀ k, 1868 ≤ k → k < 1874 → C k = C2 k) (hN : ∀ k, 1640 ≤ k → k < 1646 → S k = S2 k) (h : R_rn C S) : R_rn C2 S2 := by
  intro i h0
  have h9 := h i h0
  simp only [← hN (1640 + i) (by omega) (by omega), ← hCN (1868 + i) (by omega) (by omega)]
  exact h9
theorem R_rg_rg {C C2 S S2 : AT} (hCT : ∀ k, 720 ≤ k → k < 1360 → C k = C2 k) (hN1 : S 1641 = S2 1641) (hT : ∀ k, 732 ≤ k → k < 1132 → S k = S2 k) (h : R_rg C S) : R_rg C2 S2 := by
  intro t h0
  have h9 := h t h0
  simp only [← hN1, ← hT (732 + 5 * t) (by omega) (by omega), ← hT (732 + 5 * t + 3) (by omega) (by omega), ← hCT (720 + 8 * t + 4) (by omega) (by omega)]
  exact h9
theorem R_rp_rg {C C2 S S2 : AT} (hCT : ∀ k, 720 ≤ k → k < 1360 → C k = C2 k) (hN1 : S 1641 = S2 1641) (hT : ∀ k, 732 ≤ k → k < 1132 → S k = S2 k) (hB : ∀ k, 0 ≤ k → k < 252 → S k = S2 k) (h : R_rp C S) : R_rp C2 S2 := by
  intro t h0
  have h9 := h t h0
  simp only [← hN1, ← hT (732 + 5 * t) (by omega) (by omega), ctS_rg hB, ← hCT (720 + 8 * t + 6) (by omega) (by omega), ← hCT (720 + 8 * t + 7) (by omega) (by omega)]
  exact h9
theorem R_rs_rg {C C2 S S2 : AT} (hCP : ∀ k, 1668 ≤ k → k < 1868 → C k = C2 k) (hN3 : S 1643 = S2 1643) (hP : ∀ k, 1440 ≤ k → k < 1640 → S k = S2 k) (h : R_rs C S) : R_rs C2 S2 := by
  intro m k i h0 h1 h2
  have h9 := h m k i h0 h1 h2
  have hb : 1440 + 5 * ((if m < 40 then m else 40) - 1 - k) + i < 1640 := by split <;> omega
  have hb1 : 1440 ≤ 1440 + 5 * ((if m < 40 then m else 40) - 1 - k) + i := by omega
  simp only [← hN3, ← hP _ hb1 hb, ← hCP (1668 + 5 * ((m - 1 - k) % 40) + i) (by omega) (by omega)]
  exact h9
theorem W_wn0_rg {n : Nat} {S S2 : AT} (hN0 : S 1640 = S2 1640) (h : W_wn0 n S) : W_wn0 n S2 := by
  have h9 := h
  unfold W_wn0 at h9 ⊢
  simp only [← hN0]
  exact h9
theorem W_wn1_rg {n : Nat} {S S2 : AT} (hN1 : S 1641 = S2 1641) (h : W_wn1 n S) : W_wn1 n S2 := by
  have h9 := h
  unfold W_wn1 at h9 ⊢
  simp only [← hN1]
  exact h9
theorem W_wn2_rg {n : Nat} {S S2 : AT} (hN2 : S 1642 = S2 1642) (h : W_wn2 n S) : W_wn2 n S2 := by
  have h9 := h
  unfold W_wn2 at h9 ⊢
  simp only [← hN2]
  exact h9
theorem W_wn3_rg {n : Nat} {S S2 : AT} (hN3 : S 1643 = S2 1643) (h : W_wn3 n S) : W_wn3 n S2 := by
  have h9 := h
  unfold W_wn3 at h9 ⊢
  simp only [← hN3]
  exact h9
theorem W_wn4_rg {n : Nat} {S S2 : AT} (hN4 : S 1644 = S2 1644) (h : W_wn4 n S) : W_wn4 n S2 := by
  have h9 := h
  unfold W_wn4 at h9 ⊢
  simp only [← hN4]
  exact h9
theorem W_wn5_rg {n : Nat} {S S2 : AT} (hN5 : S 1645 = S2 1645) (h : W_wn5 n S) : W_wn5 n S2 := by
  have h9 := h
  unfold W_wn5 at h9 ⊢
  simp only [← hN5]
  exact h9
theorem W_wb0_rg {n : Nat} {S S2 : AT} (hB : ∀ k, 0 ≤ k → k < 252 → S k = S2 k) (h : W_wb0 n S) : W_wb0 n S2 := by
  intro b h0
  have h9 := h b h0
  simp only [← hB (21 * b) (by omega) (by omega)]
  exact h9
theorem W_wb1_rg {n : Nat} {S S2 : AT} (hB : ∀ k, 0 ≤ k → k < 252 → S k = S2 k) (h : W_wb1 n S) : W_wb1 n S2 := by
  intro b i h0 h1
  have h9 := h b i h0 h1
  simp only [← hB (21 * b) (by omega) (by omega), ← hB (21 * b + 1 + i) (by omega) (by omega)]
  exact h9
theorem W_wb2_rg {n : Nat} {S S2 : AT} (hB : ∀ k, 0 ≤ k → k < 252 → S k = S2 k) (h : W_wb2 n S) : W_wb2 n S2 := by
  intro b h0
  have h9 := h b h0
  simp only [← hB (21 * b) (by omega) (by omega), ← hB (21 * b + 1) (by omega) (by omega), ← hB (21 * b + 2) (by omega) (by omega)]
  exact h9
theorem W_wb3_rg {n : Nat} {S S2 : AT} (hB : ∀ k, 0 ≤ k → k < 252 → S k = S2 k) (h : W_wb3 n S) : W_wb3 n S2 := by
  intro b p h0 h1
  have h9 := h b p h0 h1
  simp only [← hB (21 * b + 1) (by omega) (by omega), ← hB (21 * b + 5 + p) (by omega) (by omega)]
  exact h9
theorem W_wb4_rg {n : Nat} {S S2 : AT} (hB : ∀ k, 0 ≤ k → k < 252 → S k = S2 k) (h : W_wb4 n S) : W_wb4 n S2 := by
  intro b h0
  have h9 := h b h0
  simp only [← hB (21 * b + 3) (by omega) (by omega), ← hB (21 * b + 4) (by omega) (by omega)]
  exact h9
theorem W_wb5_rg {n : Nat} {S S2 : AT} (hB : ∀ k, 0 ≤ k → k < 252 → S k = S2 k) (hN1 : S 1641 = S2 1641) (h : W_wb5 n S) : W_wb5 n S2 := by
  intro b p h0 h1
  have h9 := h b p h0 h1
  simp only [← hB (21 * b + 5 + p) (by omega) (by omega), ← hN1]
  exact h9
theorem W_wl0_rg {n : Nat} {S S2 : AT} (hN0 : S 1640 = S2 1640) (hL : ∀ k, 252 ≤ k → k < 732 → S k = S2 k) (h : W_wl0 n S) : W_wl0 n S2 := by
  intro l h0
  have h9 := h l h0
  simp only [← hN0, ← hL (252 + 12 * l + 3) (by omega) (by omega)]
  exact h9
theorem W_wl1_rg {n : Nat} {S S2 : AT} (hN0 : S 1640 = S2 1640) (hL : ∀ k, 252 ≤ k → k < 732 → S k = S2 k) (h : W_wl1 n S) : W_wl1 n S2 := by
  intro l h0
  have h9 := h l h0
  simp only [← hN0, ← hL (252 + 12 * l) (by omega) (by omega), ← hL (252 + 12 * l + 1) (by omega) (by omega), ← hL (252 + 12 * l + 2) (by omega) (by omega), ← hL (252 + 12 * l + 3) (by omega) (by omega)]
  exact h9
theorem W_wl2_rg {n : Nat} {S S2 : AT} (hN0 : S 1640 = S2 1640) (hL : ∀ k, 252 ≤ k → k < 732 → S k = S2 k) (h : W_wl2 n S) : W_wl2 n S2 := by
  intro l i h0 h1
  have h9 := h l i h0 h1
  simp only [← hN0, ← hL (252 + 12 * l + 2) (by omega) (by omega), ← hL (252 + 12 * l + 4 + i) (by omega) (by omega)]
  exact h9
theorem W_wl3_rg {n : Nat} {S S2 : AT} (hL : ∀ k, 252 ≤ k → k < 732 → S k = S2 k) (hB : ∀ k, 0 ≤ k → k < 252 → S k = S2 k) (h : W_wl3 n S) : W_wl3 n S2 := by
  intro l b h0 h1
  have h9 := h l b h0 h1
  simp only [← hL (252 + 12 * l + 3) (by omega) (by omega), ← hL (252 + 12 * l) (by omega) (by omega), ← hL (252 + 12 * l + 1) (by omega) (by omega), ← hB (21 * b + 1) (by omega) (by omega)]
  exact h9
theorem W_wl4_rg {n : Nat} {S S2 : AT} (hL : ∀ k, 252 ≤ k → k < 732 → S k = S2 k) (h : W_wl4 n S) : W_wl4 n S2 := by
  intro l m h0 h1 h2
  have h9 := h l m h0 h1 h2
  simp only [← hL (252 + 12 * l + 3) (by omega) (by omega), ← hL (252 + 12 * m + 3) (by omega) (by omega), ← hL (252 + 12 * l) (by omega) (by omega), ← hL (252 + 12 * m) (by omega) (by omega), ← hL (252 + 12 * l + 1) (by omega) (by omega), ← hL (252 + 12 * m + 1) (by omega) (by omega)]
  exact h9
theorem W_wt_rg {n : Nat} {S S2 : AT} (hN1 : S 1641 = S2 1641) (hT : ∀ k, 732 ≤ k → k < 1132 → S k = S2 k) (h : W_wt n S) : W_wt n S2 := by
  intro t h0
  have h9 := h t h0
  simp only [← hN1, ← hT (732 + 5 * t) (by omega) (by omega), ← hT (732 + 5 * t + 1) (by omega) (by omega), ← hT (732 + 5 * t + 2) (by omega) (by omega), ← hT (732 + 5 * t + 3) (by omega) (by omega), ← hT (732 + 5 * t + 4) (by omega) (by omega)]
  exact h9
theorem W_wq_rg {n : Nat} {S S2 : AT} (hN2 : S 1642 = S2 1642) (hQ : ∀ k, 1132 ≤ k → k < 1432 → S k = S2 k) (h : W_wq n S) : W_wq n S2 := by
  intro c h0
  have h9 := h c h0
  simp only [← hN2, ← hQ (1132 + 5 * c) (by omega) (by omega), ← hQ (1132 + 5 * c + 1) (by omega) (by omega), ← hQ (1132 + 5 * c + 2) (by omega) (by omega), ← hQ (1132 + 5 * c + 3) (by omega) (by omega), ← hQ (1132 + 5 * c + 4) (by omega) (by omega)]
  exact h9
theorem W_wq2_rg {n : Nat} {S S2 : AT} (hN2 : S 1642 = S2 1642) (hQ : ∀ k, 1132 ≤ k → k < 1432 → S k = S2 k) (hB : ∀ k, 0 ≤ k → k < 252 → S k = S2 k) (hN5 : S 1645 = S2 1645) (h : W_wq2 n S) : W_wq2 n S2 := by
  intro c b h0 h1
  have h9 := h c b h0 h1
  simp only [← hN2, ← hQ (1132 + 5 * c) (by omega) (by omega), ← hB (21 * b) (by omega) (by omega), ← hQ (1132 + 5 * c + 4) (by omega) (by omega), ← hQ (1132 + 5 * c + 2) (by omega) (by omega), ← hQ (1132 + 5 * c + 3) (by omega) (by omega), ← hN5]
  exact h9
theorem W_wf_rg {n : Nat} {S S2 : AT} (hF : ∀ k, 1432 ≤ k → k < 1440 → S k = S2 k) (h : W_wf n S) : W_wf n S2 := by
  intro k h0
  have h9 := h k h0
  simp only [← hF (1432 + k) (by omega) (by omega)]
  exact h9
theorem W_wh_rg {n : Nat} {S S2 : AT} (hB : ∀ k, 0 ≤ k → k < 252 → S k = S2 k) (hT : ∀ k, 732 ≤ k → k < 1132 → S k = S2 k) (h : W_wh n S) : W_wh n S2 := by
  intro b p q t u h0 h1 h2 h3 h4 h5 h6
  have h9 := h b p q t u h0 h1 h2 h3 h4 h5 h6
  simp only [← hB (21 * b + 5 + p) (by omega) (by omega), ← hB (21 * b + 5 + q) (by omega) (by omega), ← hT (732 + 5 * t) (by omega) (by omega), ← hT (732 + 5 * u + 4) (by omega) (by omega)]
  exact h9
theorem gg_start : GG 0 (V0 0) (M0 0) := by
  have z : ∀ t : Nat, t < 80 → ¬ Int32.ofNat t < (M0 0) 1641 := fun t ht => nat_nneg (by omega)
  have z2 : ∀ t : Nat, t < 80 → ¬ Int32.ofNat t < (0 : Int32) := fun t ht => nat_nneg (by omega)
  have c0 : ∀ k, V0 0 k = 0 := fun k => rfl
  have r0 : ∀ a b : Nat, RG 0 0 b := fun _ b => ⟨0, Nat.le_refl _, Nat.zero_le _, rfl⟩
  refine ⟨⟨?_, ?_, ?_, ?_, ?_, ?_, ?_, ?_, ?_, ?_, ?_⟩, ⟨r0 0 _, r0 0 _, r0 0 _, r0 0 _, r0 0 _, r0 0 _, ?_, ?_, ?_, ?_, ?_, ?_, ?_, ?_, ?_, ?_, ?_, ?_, ?_, ?_, ?_, ?_⟩⟩
  · intro b i _ _; rfl
  · intro b p _ _; rfl
  · intro i _; rfl
  · intro t i _ _; rfl
  · intro t _; rfl
  · intro k _; rfl
  · intro i _; rfl
  · intro i _; rfl
  · intro t ht q; exact absurd q (z t ht)
  · intro t ht q; exact absurd q (z t ht)
  · intro m k i _ _ _ _; rfl
  · intro b _; exact Or.inl rfl
  · intro b i _ _ _; rfl
  · intro b _ q; exact absurd q (show ¬ (0 : Int32) = 1 by decide)
  · intro b p _ _ _; rfl
  · intro b _; exact ⟨r0 0 _, r0 0 _⟩
  · intro b p _ _; exact Or.inr (r0 0 _)
  · intro l _ _; rfl
  · intro l hl q; exact absurd q (z2 l (by omega))
  · intro l i hl _ q; exact absurd q (z2 l (by omega))
  · intro l b _ _ q; exact absurd q (show ¬ (0 : Int32) = 1 by decide)
  · intro l m _ _ _ q; exact absurd q (show ¬ (0 : Int32) = 1 by decide)
  · intro t ht q; exact absurd q (z2 t ht)
  · intro c hc q; exact absurd q (z2 c (by omega))
  · intro c b hc _ q; exact absurd q (z2 c (by omega))
  · intro k _; exact r0 0 _
  · intro b p q t u _ _ _ _ _ ht hu h; exact absurd h (fun e => by
      have := (nat_eq (a := 0) (b := 2 + t) (by omega) (by omega)).mp e
      omega)
theorem pure_start : IG GG 0 V0 J0 (fun _ => none) M0 := by
  refine ⟨⟨by decide, by decide, fun c _ => Int.le_refl (0 : Int32).toInt⟩, 0, 0, 0, by omega, by omega, by omega, rfl, rfl, rfl, rfl, rfl, rfl, rfl, rfl, fun _ _ => rfl, fun i hi => by omega, gg_start, ⟨fun _ => V0 0, rfl, fun i hi => by omega⟩⟩
