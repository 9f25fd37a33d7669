/-! places; at -/
theorem c_hasPlace {n : Nat} {V : VT} {S : AT} {b : Nat} (v : Int32) (h : GG n (V 0) S) (hb : b < 12) : f_X3_hasPlace (Int32.ofNat b) v V = some (if v < 0 ∨ S (21 * b + 1) ≤ v then 0 else 1) := by
  have hr := h.1.rb0 b hb
  have e : f_X7_get 0 12 4 (Int32.ofNat b) 0 V = some (S (21 * b + 1)) := by
    rw [show S (21 * b + 1) = V 0 (4 * b) from hr.symm]; exact gbar (c := 0) hb (by omega)
  unfold f_X3_hasPlace f_X3_hasPlace_j21
  by_cases h1 : v < 0
  · rw [if_pos h1, if_pos (Or.inl h1)]
  · rw [if_neg h1, e]; simp only [Option.bind_some]
    by_cases h2 : S (21 * b + 1) ≤ v
    · rw [if_pos h2, if_pos (Or.inr h2)]
    · rw [if_neg h2, if_neg (fun q => q.elim h1 h2)]
theorem c_hasPlace_out {x v : Int32} {V : VT} (h : x < 0 ∨ 12 ≤ x) : f_X3_hasPlace x v V = some 0 := by
  unfold f_X3_hasPlace f_X3_hasPlace_j21
  by_cases h1 : v < 0
  · rw [if_pos h1]
  · rw [if_neg h1, get_row V h]; simp only [Option.bind_some]
    rw [if_pos (nlt_le h1)]
theorem m_isPlace {M : VT} {b : Nat} (v : Int32) (hb : b < 12) : f_X12_isPlace (Int32.ofNat b) v M = some (if v < 0 ∨ M 0 (21 * b + 1) ≤ v then 0 else 1) := by
  have e : f_X12_places (Int32.ofNat b) M = some (M 0 (21 * b + 1)) := by
    unfold f_X12_places
    rw [m_bar0]; simp only [Option.bind_some]
    rw [nat_succ, ck_nat (by omega) (by omega)]; rfl
  unfold f_X12_isPlace f_X12_isPlace_j17
  by_cases h1 : v < 0
  · rw [if_pos h1, if_pos (Or.inl h1)]
  · rw [if_neg h1, e]; simp only [Option.bind_some]
    by_cases h2 : M 0 (21 * b + 1) ≤ v
    · rw [if_pos h2, if_pos (Or.inr h2)]
    · rw [if_neg h2, if_neg (fun q => q.elim h1 h2)]
theorem m_held {M : VT} {b p : Nat} (hb : b < 12) (hp : p < 16) : f_X12_held (Int32.ofNat b) (Int32.ofNat p) M = some (M 0 (21 * b + 5 + p)) := by
  unfold f_X12_held
  rw [m_bar0]; simp only [Option.bind_some]
  rw [show Int32.ofNat (21 * b) + 5 + Int32.ofNat p = Int32.ofNat (21 * b + 5 + p) by rw [Int32.ofNat_add, Int32.ofNat_add]; rfl, ck_nat (by omega) (by omega)]; rfl
/-- a place of a rigged bar -/
theorem place_of {n : Nat} {C S : AT} {b : Nat} {v : Int32} (h : GG n C S) (hb : b < 12) (h1 : S (21 * b) = 1) (hv : ¬ (v < 0 ∨ S (21 * b + 1) ≤ v)) : ∃ p : Nat, p < 16 ∧ v = Int32.ofNat p := by
  obtain ⟨m, m1, m2, m3⟩ := h.2.wb2 b hb h1
  have q1 : ¬ v < 0 := fun q => hv (Or.inl q)
  have q2 : ¬ S (21 * b + 1) ≤ v := fun q => hv (Or.inr q)
  rw [m3] at q2
  rcases rng m (by omega) v with ⟨p, hp, e⟩ | hh
  · exact ⟨p, by omega, e⟩
  · exact absurd hh (fun q => q.elim q1 q2)
theorem o_at : O_at (IG GG) := by
  intro n V J dd M v1 v2 hn hI
  have hI2 := ig_skip gg_ok n V J dd M hn hI
  have hgg := ig_gg hI
  rcases rng 12 (by omega) v1 with ⟨b, hb, rfl⟩ | hbad
  · have ec := c_hasPlace v2 hgg hb
    by_cases h1 : (M 0) (21 * b) = 1
    · by_cases hv : v2 < 0 ∨ (M 0) (21 * b + 1) ≤ v2
      · rw [if_pos hv] at ec
        refine ⟨-1000000000, -1000000000, ?_, ?_, rfl, hI2⟩
        · unfold f_X11_at; rw [ec]; simp only [Option.bind_some, if_true]
        · unfold f_X12_at f_X12_at_j33
          rw [m_isBar_yes hb]; simp only [Option.bind_some]
          rw [if_neg (by decide), m_rigged hb, if_pos h1]; simp only [Option.bind_some]
          rw [if_neg (by decide), m_isPlace v2 hb, if_pos hv]; simp only [Option.bind_some, if_true]
      · rw [if_neg hv] at ec
        obtain ⟨p, hp, rfl⟩ := place_of hgg hb h1 hv
        refine ⟨V 0 (48 + 16 * b + p), M 0 (21 * b + 5 + p), ?_, ?_, hgg.1.rc b p hb hp, hI2⟩
        · unfold f_X11_at; rw [ec]; simp only [Option.bind_some]
          rw [if_neg (by decide), gcon hb hp]; rfl
        · unfold f_X12_at
          rw [m_isBar_yes hb]; simp only [Option.bind_some]
          rw [if_neg (by decide), m_rigged hb, if_pos h1]; simp only [Option.bind_some]
          rw [if_neg (by decide), m_isPlace _ hb, if_neg hv]; simp only [Option.bind_some]
          rw [if_neg (by decide), m_held hb hp]; rfl
    · have h0 : (M 0) (21 * b) = 0 := (hgg.2.wb0 b hb).resolve_right h1
      have hp0 : (M 0) (21 * b + 1) = 0 := hgg.2.wbp b hb h0
      have hv : v2 < 0 ∨ (M 0) (21 * b + 1) ≤ v2 := by
        by_cases q : v2 < 0
        · exact Or.inl q
        · exact Or.inr (by rw [hp0]; exact nlt_le q)
      rw [if_pos hv] at ec
      refine ⟨-1000000000, -1000000000, ?_, ?_, rfl, hI2⟩
      · unfold f_X11_at; rw [ec]; simp only [Option.bind_some, if_true]
      · unfold f_X12_at f_X12_at_j33
        rw [m_isBar_yes hb]; simp only [Option.bind_some]
        rw [if_neg (by decide), m_rigged hb, if_neg h1]; simp only [Option.bind_some, if_true]
  · refine ⟨-1000000000, -1000000000, ?_, ?_, rfl, hI2⟩
    · unfold f_X11_at; rw [c_hasPlace_out hbad]; simp only [Option.bind_some, if_true]
    · unfold f_X12_at f_X12_at_j33
      rw [m_isBar_no hbad]; simp only [Option.bind_some, if_true]
