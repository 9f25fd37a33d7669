/-! tell -/
theorem act_nat {x : Int32} (h1 : ¬ x < 1) (h2 : ¬ 5 < x) : ∃ a : Nat, 1 ≤ a ∧ a ≤ 5 ∧ x = Int32.ofNat a := by
  have e1 : (1 : Int32).toInt = 1 := by decide
  have e5 : (5 : Int32).toInt = 5 := by decide
  have q1 : ¬ x.toInt < 1 := fun q => h1 (Int32.lt_iff_toInt_lt.mpr (by rw [e1]; exact q))
  have q2 : ¬ 5 < x.toInt := fun q => h2 (Int32.lt_iff_toInt_lt.mpr (by rw [e5]; exact q))
  have q0 : ¬ x < 0 := fun q => by
    have := Int32.lt_iff_toInt_lt.mp q
    rw [ti_lit0] at this
    omega
  have hx := nat_of q0
  have ht : x.toInt = (x.toNatClampNeg : Int) := i32_nn q0
  exact ⟨x.toNatClampNeg, by omega, by omega, hx⟩
theorem in_no {v a b : Int32} {M : VT} (h : v < a ∨ b < v) : f_X12_in v a b M = some 0 := by
  unfold f_X12_in f_X12_in_j14
  by_cases h1 : v < a
  · rw [if_pos h1]
  · rw [if_neg h1, if_pos (h.resolve_left h1)]
theorem in_yes {v a b : Int32} {M : VT} (h1 : ¬ v < a) (h2 : ¬ b < v) : f_X12_in v a b M = some 1 := by
  unfold f_X12_in; rw [if_neg h1, if_neg h2]
theorem o_tell {G : GT} (hG : GOK G) : O_tell (IG G) := by
  intro n V J dd M v1 v2 v3 v4 v5 hn hI
  obtain ⟨V1, eb, sb, c1, c3, c4, c7, c11, c10⟩ := begin_ok 0 (by omega) (ig_rest hn hI)
  obtain ⟨M1, em, sm, k1, k3, k4, k6, k70, k71, k74⟩ := mbegin_ok M
  have hst := hI.2
  obtain ⟨old, cnt, s, b1, b2, b3, b4, b5, b6, b7, b8, b9, b10, b11, b12, b13, -⟩ := hst
  have hf0 : M1 7 2 = 0 := sm.2.2.2.1
  by_cases hbad : v1 < 1 ∨ 5 < v1
  · -- refused: NUMBER
    have ea : f_X8_isAct v1 V1 = some 0 := by
      unfold f_X8_isAct f_X8_isAct_j14
      by_cases h1 : v1 < 1
      · rw [if_pos h1]
      · rw [if_neg h1, if_pos (hbad.resolve_left h1)]
    obtain ⟨V2, er, sr⟩ := st_ref 7 sb
    obtain ⟨V3, es, hR⟩ := settle_no (-1000000000) (by omega) sr (by decide)
    obtain ⟨M2, ei, si⟩ := is_yes 7 sm (by decide)
    obtain ⟨M3, e3, hm⟩ := mref_ok si
    refine ⟨(-1000000000, V3), (-1000000000, M3), ?_, ?_, rfl, ?_⟩
    · unfold f_X11_tell f_X8_addStep
      rw [eb]; simp only [Option.bind_some]
      rw [ea]; simp only [Option.bind_some, if_true]
      rw [er]; simp only [Option.bind_some]
      rw [es]; rfl
    · unfold f_X12_tell f_X12_tell_j19 f_X12_tell_j50
      rw [em]; simp only [Option.bind_some]
      rw [in_no hbad]; simp only [Option.bind_some, if_true]
      rw [ei]; simp only [Option.bind_some]
      rw [if_neg (by decide), e3]; rfl
    · exact ig_rf hG hn (by omega) hI eb sr hR ⟨by rw [si.2.2.2.2.2.2.2.2.2.2.2, k74], by rw [si.2.2.2.2.2.2.2.2.2.1, k70], by rw [si.2.2.2.2.2.2.2.2.2.2.1, k71], by rw [si.2.2.2.2.2.1, k1], by rw [si.2.2.2.2.2.2.2.1, k4]⟩ hm
  · have g1 : ¬ v1 < 1 := fun q => hbad (Or.inl q)
    have g2 : ¬ 5 < v1 := fun q => hbad (Or.inr q)
    have ea : f_X8_isAct v1 V1 = some 1 := by
      unfold f_X8_isAct; rw [if_neg g1, if_neg g2]
    have hs11 : V1 11 11 = Int32.ofNat s := by rw [c11]; exact b10
    have hm71 : M1 7 1 = Int32.ofNat s := by rw [k71]; exact b11
    by_cases hfull : s = 40
    · subst hfull
      obtain ⟨V2, er, sr⟩ := st_ref 11 sb
      obtain ⟨V3, es, hR⟩ := settle_no (-1000000000) (by omega) sr (by decide)
      obtain ⟨M2, ei, si⟩ := is_yes 11 sm (by decide)
      obtain ⟨M3, e3, hm⟩ := mref_ok si
      refine ⟨(-1000000000, V3), (-1000000000, M3), ?_, ?_, rfl, ?_⟩
      · unfold f_X11_tell f_X8_addStep
        rw [eb]; simp only [Option.bind_some]
        rw [ea]; simp only [Option.bind_some]
        rw [if_neg (by decide), if_neg (fun q => by rw [hs11] at q; exact absurd q (by decide)), er]
        simp only [Option.bind_some]
        rw [es]; rfl
      · unfold f_X12_tell f_X12_tell_j19 f_X12_tell_j42 f_X12_tell_j50
        rw [em]; simp only [Option.bind_some]
        rw [in_yes g1 g2]; simp only [Option.bind_some]
        rw [if_neg (by decide), is_no 7 hf0]; simp only [Option.bind_some, if_true]
        rw [if_pos (by rw [hm71]; rfl), ei]; simp only [Option.bind_some]
        rw [if_neg (by decide), e3]; rfl
      · exact ig_rf hG hn (by omega) hI eb sr hR ⟨by rw [si.2.2.2.2.2.2.2.2.2.2.2, k74], by rw [si.2.2.2.2.2.2.2.2.2.1, k70], by rw [si.2.2.2.2.2.2.2.2.2.2.1, k71], by rw [si.2.2.2.2.2.1, k1], by rw [si.2.2.2.2.2.2.2.1, k4]⟩ hm
    · have hs : s < 40 := by omega
      have es1 : V1 11 11 + 1 = Int32.ofNat (s + 1) := by rw [hs11, nat_succ]
      have p0 : f_X8_put 0 v1 (u2 V1 11 11 (V1 11 11 + 1)) = some (u2 (u2 V1 11 11 (V1 11 11 + 1)) 10 (5 * s + 0) v1) := put_ok (k := 0) v1 hs (by omega) (by simp [u2_at]; exact hs11)
      have p1 : f_X8_put 1 v2 (u2 (u2 V1 11 11 (V1 11 11 + 1)) 10 (5 * s + 0) v1) = some (u2 (u2 (u2 V1 11 11 (V1 11 11 + 1)) 10 (5 * s + 0) v1) 10 (5 * s + 1) v2) := put_ok (k := 1) v2 hs (by omega) (by simp [u2_at]; exact hs11)
      have p2 : f_X8_put 2 v3 (u2 (u2 (u2 V1 11 11 (V1 11 11 + 1)) 10 (5 * s + 0) v1) 10 (5 * s + 1) v2) = some (u2 (u2 (u2 (u2 V1 11 11 (V1 11 11 + 1)) 10 (5 * s + 0) v1) 10 (5 * s + 1) v2) 10 (5 * s + 2) v3) := put_ok (k := 2) v3 hs (by omega) (by simp [u2_at]; exact hs11)
      have p3 : f_X8_put 3 v4 (u2 (u2 (u2 (u2 V1 11 11 (V1 11 11 + 1)) 10 (5 * s + 0) v1) 10 (5 * s + 1) v2) 10 (5 * s + 2) v3) = some (u2 (u2 (u2 (u2 (u2 V1 11 11 (V1 11 11 + 1)) 10 (5 * s + 0) v1) 10 (5 * s + 1) v2) 10 (5 * s + 2) v3) 10 (5 * s + 3) v4) := put_ok (k := 3) v4 hs (by omega) (by simp [u2_at]; exact hs11)
      have p4 : f_X8_put 4 v5 (u2 (u2 (u2 (u2 (u2 V1 11 11 (V1 11 11 + 1)) 10 (5 * s + 0) v1) 10 (5 * s + 1) v2) 10 (5 * s + 2) v3) 10 (5 * s + 3) v4) = some (u2 (u2 (u2 (u2 (u2 (u2 V1 11 11 (V1 11 11 + 1)) 10 (5 * s + 0) v1) 10 (5 * s + 1) v2) 10 (5 * s + 2) v3) 10 (5 * s + 3) v4) 10 (5 * s + 4) v5) := put_ok (k := 4) v5 hs (by omega) (by simp [u2_at]; exact hs11)
      obtain ⟨V2, hV2⟩ : ∃ V2, V2 = u2 (u2 (u2 (u2 (u2 (u2 V1 11 11 (V1 11 11 + 1)) 10 (5 * s + 0) v1) 10 (5 * s + 1) v2) 10 (5 * s + 2) v3) 10 (5 * s + 3) v4) 10 (5 * s + 4) v5 := ⟨_, rfl⟩
      obtain ⟨M2, hM2⟩ : ∃ M2, M2 = u2 (u2 (u2 (u2 (u2 (u2 M1 4 (5 * s) v1) 4 (5 * s + 1) v2) 4 (5 * s + 2) v3) 4 (5 * s + 3) v4) 4 (5 * s + 4) v5) 7 1 (Int32.ofNat (s + 1)) := ⟨_, rfl⟩
      have i0 : ckA 200 ((5 : Int32) * Int32.ofNat s) = some (5 * s) := by
        rw [show (5 : Int32) * Int32.ofNat s = Int32.ofNat (5 * s) by rw [Int32.ofNat_mul]; rfl]; exact ck_nat (by omega) (by omega)
      have ik : ∀ k : Nat, k < 5 → ckA 200 ((5 : Int32) * Int32.ofNat s + Int32.ofNat k) = some (5 * s + k) := fun k hk => by
        rw [show (5 : Int32) * Int32.ofNat s + Int32.ofNat k = Int32.ofNat (5 * s + k) by rw [Int32.ofNat_add, Int32.ofNat_mul]; rfl]; exact ck_nat (by omega) (by omega)
      have i1 : ckA 200 ((5 : Int32) * Int32.ofNat s + 1) = some (5 * s + 1) := ik 1 (by omega)
      have i2 : ckA 200 ((5 : Int32) * Int32.ofNat s + 2) = some (5 * s + 2) := ik 2 (by omega)
      have i3 : ckA 200 ((5 : Int32) * Int32.ofNat s + 3) = some (5 * s + 3) := ik 3 (by omega)
      have i4 : ckA 200 ((5 : Int32) * Int32.ofNat s + 4) = some (5 * s + 4) := ik 4 (by omega)
      have v11 : ∀ i, i ≠ 11 → V2 11 i = V1 11 i := fun i hi => by rw [hV2]; simp [u2_at, hi]
      have v1111 : V2 11 11 = Int32.ofNat (s + 1) := by rw [hV2]; simp [u2_at]; exact hs11
      have m7 : ∀ i, i ≠ 1 → M2 7 i = M1 7 i := fun i hi => by rw [hM2]; simp [u2_at, hi]
      have m71 : M2 7 1 = Int32.ofNat (s + 1) := by rw [hM2]; simp [u2_at]
      have ec : f_X11_tell v1 v2 v3 v4 v5 V = some (Int32.ofNat (s + 1), V2) := by
        unfold f_X11_tell f_X8_addStep
        rw [eb]; simp only [Option.bind_some]
        rw [ea]; simp only [Option.bind_some]
        rw [if_neg (by decide), if_pos (by rw [hs11]; exact (nat_lt (b := 40) (by omega) (by omega)).mpr hs)]
        rw [p0]; simp only [Option.bind_some]
        rw [p1]; simp only [Option.bind_some]
        rw [p2]; simp only [Option.bind_some]
        rw [p3]; simp only [Option.bind_some]
        rw [p4]; simp only [Option.bind_some]
        rw [← hV2, v1111, settle_yes _ (by rw [v11 5 (by omega)]; exact sb.2.2.2.2.1)]
        rfl
      have emm : f_X12_tell v1 v2 v3 v4 v5 M = some (Int32.ofNat (s + 1), M2) := by
        unfold f_X12_tell f_X12_tell_j19 f_X12_tell_j42
        rw [em]; simp only [Option.bind_some]
        rw [in_yes g1 g2]; simp only [Option.bind_some]
        rw [if_neg (by decide), is_no 7 hf0]; simp only [Option.bind_some, if_true]
        rw [if_neg (fun q => by rw [hm71] at q; have := (nat_eq (b := 40) (by omega) (by omega)).mp q; omega), is_no 11 hf0]
        simp only [Option.bind_some, if_true]
        have r1 : ∀ (k : Nat) (x : Int32) (W : VT), u2 W 4 k x 7 1 = W 7 1 := fun k x W => by rw [u2_ne (by omega)]
        simp only [r1, hm71, i0, i1, i2, i3, i4, Option.bind_some]
        rw [nat_succ, ← hM2]
        congr 2
      have r10 : ∀ i, V2 10 i = if i = 5 * s + 4 then v5 else if i = 5 * s + 3 then v4 else if i = 5 * s + 2 then v3 else if i = 5 * s + 1 then v2 else if i = 5 * s then v1 else V1 10 i := fun i => by rw [hV2]; simp [u2_at]
      have r4 : ∀ i, M2 4 i = if i = 5 * s + 4 then v5 else if i = 5 * s + 3 then v4 else if i = 5 * s + 2 then v3 else if i = 5 * s + 1 then v2 else if i = 5 * s then v1 else M1 4 i := fun i => by rw [hM2]; simp [u2_at]
      refine ⟨_, _, ec, emm, rfl, ?_⟩
      show IG G (n + 1) V2 J dd M2
      refine ig_ok hG hn hI (s + 1) (by omega) ?_ ?_ ?_ ?_ ?_ ?_ ?_ ?_ v1111 ?_ ?_ ?_ ?_ m71 ?_ ?_
      · rw [hV2, u2_ne (by omega), u2_ne (by omega), u2_ne (by omega), u2_ne (by omega), u2_ne (by omega), u2_ne (by omega)]; exact sb.2.1
      · intro c hc
        rw [v11 1 (by omega), show V2 1 = V1 1 by rw [hV2, u2_ne (by omega), u2_ne (by omega), u2_ne (by omega), u2_ne (by omega), u2_ne (by omega), u2_ne (by omega)]]
        exact rest_of sb c hc
      · rw [v11 1 (by omega)]; exact c1
      · rw [v11 3 (by omega)]; exact c3
      · rw [v11 4 (by omega)]; exact c4
      · rw [v11 5 (by omega), m7 2 (by omega), hf0]; exact sb.2.2.2.2.1
      · rw [v11 6 (by omega), m7 3 (by omega), sm.2.2.2.2.1]; exact sb.2.2.2.2.2.1
      · rw [v11 7 (by omega)]; exact c7
      · rw [hM2, u2_ne (by omega), u2_ne (by omega), u2_ne (by omega), u2_ne (by omega), u2_ne (by omega), u2_ne (by omega)]; exact sm.1
      · rw [hM2, u2_ne (by omega), u2_ne (by omega), u2_ne (by omega), u2_ne (by omega), u2_ne (by omega), u2_ne (by omega)]; exact k1
      · rw [m7 0 (by omega)]; exact k70
      · rw [m7 4 (by omega)]; exact k74
      · intro i hi; rw [r10, r4, c10, k4, b12 i hi]
      · intro i hi
        rw [r4, if_neg (by omega), if_neg (by omega), if_neg (by omega), if_neg (by omega)]
        by_cases his : i = s
        · rw [if_pos (by omega)]; exact act_nat g1 g2
        · rw [if_neg (by omega), k4]; exact b13 i (by omega)
