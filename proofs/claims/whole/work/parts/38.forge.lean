/-! forge -/
theorem cell_no {v1 v2 : Int32} {V : VT} (h : v1 < 0 ∨ V 11 11 ≤ v1 ∨ v2 < 0 ∨ 5 ≤ v2) : f_X8_cellOf v1 v2 V = some (-1000000000) := by
  unfold f_X8_cellOf f_X8_cellOf_j25 f_X8_cellOf_j26
  by_cases h1 : v1 < 0
  · rw [if_pos h1]; rfl
  · rw [if_neg h1]
    by_cases h2 : V 11 11 ≤ v1
    · rw [if_pos h2]; rfl
    · rw [if_neg h2]
      by_cases h3 : v2 < 0
      · rw [if_pos h3]; rfl
      · rw [if_neg h3, if_pos (((h.resolve_left h1).resolve_left h2).resolve_left h3)]; rfl
theorem cell_yes {a k s : Nat} {V : VT} (hs : s ≤ 40) (ha : a < s) (hk : k < 5) (h : V 11 11 = Int32.ofNat s) : f_X8_cellOf (Int32.ofNat a) (Int32.ofNat k) V = some (Int32.ofNat (5 * a + k)) := by
  have e2 : Int32.ofNat a * 5 + Int32.ofNat k = Int32.ofNat (5 * a + k) := by
    rw [Int32.ofNat_add, show 5 * a = a * 5 from Nat.mul_comm 5 a, Int32.ofNat_mul]; rfl
  unfold f_X8_cellOf f_X8_cellOf_j26
  rw [if_neg (nat_nneg (by omega)), if_neg (fun q => by rw [h] at q; have := (nat_le (by omega) (by omega)).mp q; omega), if_neg (nat_nneg (by omega)), if_neg (fun q => by have := (nat_le (a := 5) (by omega) (by omega)).mp q; omega), if_neg (by decide), e2]
theorem ms_same {B : VT} {S0 S : AT} {f s : Int32} {M M0 : VT} (si : Ms S0 B S f s M) (k1 : B 1 = M0 1) (k4 : B 4 = M0 4) (k70 : B 7 0 = M0 7 0) (k71 : B 7 1 = M0 7 1) (k74 : B 7 4 = M0 7 4) : M 7 4 = M0 7 4 ∧ M 7 0 = M0 7 0 ∧ M 7 1 = M0 7 1 ∧ M 1 = M0 1 ∧ M 4 = M0 4 := by
  obtain ⟨-, -, -, -, -, b1, -, b4, -, c0, c1, c4⟩ := si
  exact ⟨by rw [c4, k74], by rw [c0, k70], by rw [c1, k71], by rw [b1, k1], by rw [b4, k4]⟩
theorem o_forge {G : GT} (hG : GOK G) : O_forge (IG G) := by
  intro n V J dd M v1 v2 v3 hn hI
  obtain ⟨V1, eb, sb, c1, c3, c4, c7, c11, c10⟩ := begin_ok 0 (by omega) (ig_rest hn hI)
  obtain ⟨M1, em, sm, k1, k3, k4, k6, k70, k71, k74⟩ := mbegin_ok M
  have hst := hI.2
  obtain ⟨old, cnt, s, b1, b2, b3, b4, b5, b6, b7, b8, b9, b10, b11, b12, b13, -⟩ := hst
  have hf0 : M1 7 2 = 0 := sm.2.2.2.1
  have hs11 : V1 11 11 = Int32.ofNat s := by rw [c11]; exact b10
  have hm71 : M1 7 1 = Int32.ofNat s := by rw [k71]; exact b11
  have e45 : ∀ x : Int32, (4 < x) ↔ (5 ≤ x) := fun x => by
    rw [Int32.lt_iff_toInt_lt, Int32.le_iff_toInt_le, show (4 : Int32).toInt = 4 by decide, show (5 : Int32).toInt = 5 by decide]; omega
  by_cases hbad : v1 < 0 ∨ V1 11 11 ≤ v1 ∨ v2 < 0 ∨ 5 ≤ v2
  · obtain ⟨V2, er, sr⟩ := st_ref 2 sb
    obtain ⟨V3, es, hR⟩ := settle_no (-1000000000) (by omega) sr (by decide)
    obtain ⟨M2, ei, si⟩ := is_yes 2 sm (by decide)
    obtain ⟨M3, e3, hm⟩ := mref_ok si
    refine ⟨(-1000000000, V3), (-1000000000, M3), ?_, ?_, rfl, ?_⟩
    · unfold f_X11_forge f_X8_change f_X8_change_j23
      rw [eb]; simp only [Option.bind_some]
      rw [cell_no hbad]; simp only [Option.bind_some]
      rw [if_pos (by decide), er]; simp only [Option.bind_some]
      rw [es]; rfl
    · have ej : f_X12_forge_j31 v1 v2 v3 1 M1 = some (-1000000000, M3) := by
        unfold f_X12_forge_j31 f_X12_forge_j65
        rw [ei]; simp only [Option.bind_some]
        rw [if_neg (by decide), e3]; rfl
      unfold f_X12_forge f_X12_forge_j26
      rw [em]; simp only [Option.bind_some]
      by_cases h1 : v1 < 0
      · rw [if_pos h1]; exact ej
      · rw [if_neg h1]
        by_cases h2 : V1 11 11 ≤ v1
        · rw [if_pos (by rw [hm71, ← hs11]; exact h2)]; exact ej
        · rw [if_neg (by rw [hm71, ← hs11]; exact h2)]
          have h3 := (hbad.resolve_left h1).resolve_left h2
          rw [in_no (h3.imp id (fun q => (e45 v2).mpr q))]
          simp only [Option.bind_some, if_true]
          exact ej
    · exact ig_rf hG hn (by omega) hI eb sr hR (ms_same si k1 k4 k70 k71 k74) hm
  · have g1 : ¬ v1 < 0 := fun q => hbad (Or.inl q)
    have g2 : ¬ V1 11 11 ≤ v1 := fun q => hbad (Or.inr (Or.inl q))
    have g3 : ¬ v2 < 0 := fun q => hbad (Or.inr (Or.inr (Or.inl q)))
    have g4 : ¬ 5 ≤ v2 := fun q => hbad (Or.inr (Or.inr (Or.inr q)))
    obtain ⟨a, ha, rfl⟩ : ∃ a : Nat, a < s ∧ v1 = Int32.ofNat a := by
      rcases rng s (by omega) v1 with h | h
      · exact h
      · rw [← hs11] at h; exact absurd h (fun q => q.elim g1 g2)
    obtain ⟨k, hk, rfl⟩ : ∃ k : Nat, k < 5 ∧ v2 = Int32.ofNat k := by
      rcases rng 5 (by omega) v2 with h | h
      · exact h
      · exact absurd h (fun q => q.elim g3 g4)
    have ec := cell_yes (V := V1) b3 ha hk hs11
    have n1 : ¬ Int32.ofNat (5 * a + k) < 0 := nat_nneg (by omega)
    have n2 : Int32.ofNat (5 * a + k) < (200 : Int32) := (nat_lt (b := 200) (by omega) (by omega)).mpr (by omega)
    have ck : ckA 200 (Int32.ofNat (5 * a + k)) = some (5 * a + k) := ck_nat (by omega) (by omega)
    have ck2 : ckA 200 ((5 : Int32) * Int32.ofNat a + Int32.ofNat k) = some (5 * a + k) := by
      rw [show (5 : Int32) * Int32.ofNat a + Int32.ofNat k = Int32.ofNat (5 * a + k) by rw [Int32.ofNat_add, Int32.ofNat_mul]; rfl]; exact ck
    have hm4 : ¬ M1 7 1 ≤ Int32.ofNat a := by rw [hm71, ← hs11]; exact g2
    have hin : f_X12_in (Int32.ofNat k) 0 4 M1 = some 1 := in_yes g3 (fun q => g4 ((e45 _).mp q))
    have isn : f_X12_is 0 2 M1 = some (0, M1) := is_no 2 hf0
    by_cases hnum : Int32.ofNat k = 0 ∧ (v3 < 1 ∨ 5 < v3)
    · obtain ⟨hk0, hv⟩ := hnum
      have ea : f_X8_isAct v3 V1 = some 0 := by
        unfold f_X8_isAct f_X8_isAct_j14
        by_cases h1 : v3 < 1
        · rw [if_pos h1]
        · rw [if_neg h1, if_pos (hv.resolve_left h1)]
      obtain ⟨V2, er, sr⟩ := st_ref 7 sb
      obtain ⟨V3, es, hR⟩ := settle_no (-1000000000) (by omega) sr (by decide)
      obtain ⟨M2, ei, si⟩ := is_yes 7 sm (by decide)
      obtain ⟨M3, e3, hm⟩ := mref_ok si
      refine ⟨(-1000000000, V3), (-1000000000, M3), ?_, ?_, rfl, ?_⟩
      · unfold f_X11_forge f_X8_change
        rw [eb]; simp only [Option.bind_some]
        rw [ec]; simp only [Option.bind_some]
        rw [if_neg n1, if_pos n2, if_pos hk0, ea]; simp only [Option.bind_some, if_true]
        rw [er]; simp only [Option.bind_some]
        rw [es]; rfl
      · unfold f_X12_forge f_X12_forge_j31 f_X12_forge_j57 f_X12_forge_j65
        rw [em]; simp only [Option.bind_some]
        rw [if_neg g1, if_neg hm4, hin]; simp only [Option.bind_some]
        rw [if_neg (by decide), isn]; simp only [Option.bind_some, if_true]
        rw [if_pos hk0, in_no hv]; simp only [Option.bind_some, if_true]
        rw [ei]; simp only [Option.bind_some]
        rw [if_neg (by decide), e3]; rfl
      · exact ig_rf hG hn (by omega) hI eb sr hR (ms_same si k1 k4 k70 k71 k74) hm
    · have ecc : f_X11_forge (Int32.ofNat a) (Int32.ofNat k) v3 V = some (V1 10 (5 * a + k), u2 V1 10 (5 * a + k) v3) := by
        have e53 : f_X8_change_j53 v3 (Int32.ofNat (5 * a + k)) V1 = some (V1 10 (5 * a + k), u2 V1 10 (5 * a + k) v3) := by
          unfold f_X8_change_j53; rw [ck]; rfl
        have e5 : f_X8_change (Int32.ofNat a) (Int32.ofNat k) v3 V1 = some (V1 10 (5 * a + k), u2 V1 10 (5 * a + k) v3) := by
          unfold f_X8_change
          rw [ec]; simp only [Option.bind_some]
          rw [if_neg n1, if_pos n2]
          by_cases hk0 : Int32.ofNat k = 0
          · rw [if_pos hk0]
            have ea : f_X8_isAct v3 V1 = some 1 := by
              unfold f_X8_isAct
              rw [if_neg (fun q => hnum ⟨hk0, Or.inl q⟩), if_neg (fun q => hnum ⟨hk0, Or.inr q⟩)]
            rw [ea]; simp only [Option.bind_some]
            rw [if_neg (by decide)]; exact e53
          · rw [if_neg hk0]; exact e53
        unfold f_X11_forge
        rw [eb]; simp only [Option.bind_some]
        rw [e5]; simp only [Option.bind_some]
        rw [settle_yes _ (by simp [u2_at]; exact sb.2.2.2.2.1)]; rfl
      have emm : f_X12_forge (Int32.ofNat a) (Int32.ofNat k) v3 M = some (M1 4 (5 * a + k), u2 M1 4 (5 * a + k) v3) := by
        have e57 : f_X12_forge_j57 (Int32.ofNat a) (Int32.ofNat k) v3 0 M1 = some (M1 4 (5 * a + k), u2 M1 4 (5 * a + k) v3) := by
          unfold f_X12_forge_j57
          rw [is_no 7 hf0]; simp only [Option.bind_some, if_true]
          rw [ck2]; rfl
        unfold f_X12_forge f_X12_forge_j31 f_X12_forge_j56
        rw [em]; simp only [Option.bind_some]
        rw [if_neg g1, if_neg hm4, hin]; simp only [Option.bind_some]
        rw [if_neg (by decide), isn]; simp only [Option.bind_some, if_true]
        by_cases hk0 : Int32.ofNat k = 0
        · rw [if_pos hk0, in_yes (fun q => hnum ⟨hk0, Or.inl q⟩) (fun q => hnum ⟨hk0, Or.inr q⟩)]
          simp only [Option.bind_some]
          rw [if_neg (by decide)]; exact e57
        · rw [if_neg hk0]; exact e57
      refine ⟨_, _, ecc, emm, ?_, ?_⟩
      · show V1 10 (5 * a + k) = M1 4 (5 * a + k)
        rw [c10, k4]; exact b12 _ (by omega)
      · show IG G (n + 1) (u2 V1 10 (5 * a + k) v3) J dd (u2 M1 4 (5 * a + k) v3)
        refine ig_ok hG hn hI s b3 ?_ ?_ ?_ ?_ ?_ ?_ ?_ ?_ ?_ ?_ ?_ ?_ ?_ ?_ ?_ ?_
        · rw [u2_ne (by omega)]; exact sb.2.1
        · intro c hc; rw [u2_ne (by omega), u2_ne (by omega)]; exact rest_of sb c hc
        · rw [u2_ne (by omega)]; exact c1
        · rw [u2_ne (by omega)]; exact c3
        · rw [u2_ne (by omega)]; exact c4
        · rw [u2_ne (by omega), u2_ne (by omega), hf0]; exact sb.2.2.2.2.1
        · rw [u2_ne (by omega), u2_ne (by omega), sm.2.2.2.2.1]; exact sb.2.2.2.2.2.1
        · rw [u2_ne (by omega)]; exact c7
        · rw [u2_ne (by omega)]; exact hs11
        · rw [u2_ne (by omega)]; exact sm.1
        · rw [u2_ne (by omega)]; exact k1
        · rw [u2_ne (by omega)]; exact k70
        · rw [u2_ne (by omega)]; exact k74
        · rw [u2_ne (by omega)]; exact hm71
        · intro i hi
          rw [u2_at, u2_at]
          by_cases h : i = 5 * a + k
          · rw [if_pos ⟨rfl, h⟩, if_pos ⟨rfl, h⟩]
          · rw [if_neg (fun q => h q.2), if_neg (fun q => h q.2), c10, k4]; exact b12 i hi
        · intro i hi
          rw [u2_at]
          by_cases h : 5 * i = 5 * a + k
          · rw [if_pos ⟨rfl, h⟩]
            have hk0 : k = 0 := by omega
            subst hk0
            exact act_nat (fun q => hnum ⟨rfl, Or.inl q⟩) (fun q => hnum ⟨rfl, Or.inr q⟩)
          · rw [if_neg (fun q => h q.2), k4]; exact b13 i hi
