/-! shift -/
theorem mv_facts {n : Nat} {C S Z : AT} {b F T N : Nat} (h : GG n C S) (hb : b < 12) (hF : F + N ≤ 16) (hT : T + N ≤ 16) : ∀ i, i ≤ N → (∀ j, (∀ t, t < 80 → j ≠ 720 + 8 * t + 7) → (∀ k, k < i → j ≠ 48 + 16 * b + (T + k)) → mv S Z b F T i j = Z j) ∧ (∀ k, k < i → mv S Z b F T i (48 + 16 * b + (T + k)) = if S (21 * b + 5 + (F + k)) < 2 then Z (48 + 16 * b + (T + k)) else S (21 * b + 5 + (F + k))) ∧ (∀ t, t < 80 → (∀ k, k < i → S (21 * b + 5 + (F + k)) ≠ Int32.ofNat (2 + t)) → mv S Z b F T i (720 + 8 * t + 7) = Z (720 + 8 * t + 7)) ∧ (∀ t k, t < 80 → k < i → S (21 * b + 5 + (F + k)) = Int32.ofNat (2 + t) → (∀ k2, k2 < N → S (21 * b + 5 + (F + k2)) = Int32.ofNat (2 + t) → k2 = k) → mv S Z b F T i (720 + 8 * t + 7) = Int32.ofNat (T + k)) := by
  intro i
  induction i with
  | zero => intro _; exact ⟨fun j _ _ => rfl, fun k hk => by omega, fun t _ _ => rfl, fun t k _ hk => by omega⟩
  | succ i ih =>
    intro hi
    obtain ⟨a1, a2, a3, a4⟩ := ih (by omega)
    rw [mv_succ]
    rcases low_ct h hb (p := F + i) (by omega) with ⟨hl, ho⟩ | ⟨hl, u, hu, hul, e⟩
    · rw [if_pos hl]
      refine ⟨fun j h1 h2 => a1 j h1 (fun k hk => h2 k (by omega)), fun k hk => ?_, fun t ht h1 => a3 t ht (fun k hk => h1 k (by omega)), fun t k ht hk e1 h1 => ?_⟩
      · by_cases ek : k = i
        · subst ek
          rw [if_pos hl]
          exact a1 _ (fun t ht => by omega) (fun k2 hk2 => by omega)
        · exact a2 k (by omega)
      · by_cases ek : k = i
        · subst ek; exact absurd e1 (ne_thing ho ht)
        · exact a4 t k ht (by omega) e1 h1
    · rw [if_neg hl, tix_at hu e]
      refine ⟨fun j h1 h2 => ?_, fun k hk => ?_, fun t ht h1 => ?_, fun t k ht hk e1 h1 => ?_⟩
      · rw [upd_ne (h1 u hu), upd_ne (h2 i (by omega))]
        exact a1 j h1 (fun k hk => h2 k (by omega))
      · rw [upd_ne (by omega)]
        by_cases ek : k = i
        · subst ek; rw [upd_same, if_neg hl]
        · rw [upd_ne (by omega)]; exact a2 k (by omega)
      · have htu : t ≠ u := fun z => h1 i (by omega) (by rw [z]; exact e)
        rw [upd_ne (by omega), upd_ne (by omega)]
        exact a3 t ht (fun k hk => h1 k (by omega))
      · by_cases htu : t = u
        · subst htu
          have := h1 i (by omega) e
          subst this
          rw [upd_same]
        · rw [upd_ne (by omega), upd_ne (by omega)]
          by_cases ek : k = i
          · subst ek; exact absurd (thing_inj ht hu (e1.symm.trans e)) htu
          · exact a4 t k ht (by omega) e1 h1
theorem gg_shift2 {n b F T N : Nat} {C S C2 S2 : AT} (h : GG n C S) (hb : b < 12) (hF : F + N ≤ 16) (hT : T + N ≤ 16) (hpl : ∀ q, q < 16 → S (21 * b + 1) ≤ Int32.ofNat q → F + N ≤ q ∧ T + N ≤ q) (hst : ∀ i, i < N → ¬ stk S b F i) (hwy : ∀ i, i < N → ¬ wyP S b F T N i)
  (sB : ∀ q, q < 16 → S2 (21 * b + 5 + q) = if T ≤ q ∧ q < T + N then S (21 * b + 5 + (F + (q - T))) else if F ≤ q ∧ q < F + N then 0 else S (21 * b + 5 + q)) (sn : ∀ j, (∀ q, q < 16 → j ≠ 21 * b + 5 + q) → S2 j = S j)
  (cc : ∀ c q, c < 12 → q < 16 → C2 (48 + 16 * c + q) = S2 (21 * c + 5 + q)) (cT : ∀ t i, t < 80 → i < N → S (21 * b + 5 + (F + i)) = Int32.ofNat (2 + t) → C2 (720 + 8 * t + 7) = Int32.ofNat (T + i)) (cO : ∀ t, t < 80 → (∀ i, i < N → S (21 * b + 5 + (F + i)) ≠ Int32.ofNat (2 + t)) → C2 (720 + 8 * t + 7) = C (720 + 8 * t + 7)) (cn : ∀ j, (∀ t, t < 80 → j ≠ 720 + 8 * t + 7) → (∀ c q, c < 12 → q < 16 → j ≠ 48 + 16 * c + q) → C2 j = C j) (hw : W_wh (n + 1) S2) : GG (n + 1) C2 S2 := by
  have sO : ∀ c q, c < 12 → q < 16 → c ≠ b → S2 (21 * c + 5 + q) = S (21 * c + 5 + q) := fun c q hc hq hne => sn _ (fun r hr => by omega)
  -- where a thing of the new row was
  have back : ∀ c q u, c < 12 → q < 16 → u < 80 → S2 (21 * c + 5 + q) = Int32.ofNat (2 + u) → (c = b ∧ T ≤ q ∧ q < T + N ∧ S (21 * b + 5 + (F + (q - T))) = Int32.ofNat (2 + u)) ∨ (¬ (c = b ∧ ((T ≤ q ∧ q < T + N) ∨ (F ≤ q ∧ q < F + N))) ∧ S (21 * c + 5 + q) = Int32.ofNat (2 + u)) := by
    intro c q u hc hq hu e
    by_cases ec : c = b
    · subst ec
      rw [sB q hq] at e
      by_cases g1 : T ≤ q ∧ q < T + N
      · rw [if_pos g1] at e; exact Or.inl ⟨rfl, g1.1, g1.2, e⟩
      · rw [if_neg g1] at e
        by_cases g2 : F ≤ q ∧ q < F + N
        · rw [if_pos g2] at e; exact absurd e (ne_thing (Or.inl rfl) hu)
        · rw [if_neg g2] at e; exact Or.inr ⟨fun z => by rcases z with ⟨-, z | z⟩; exact g1 z; exact g2 z, e⟩
    · rw [sO c q hc hq ec] at e; exact Or.inr ⟨fun z => ec z.1, e⟩
  -- a thing that is not carried stays where it is
  have stay : ∀ c q u, c < 12 → q < 16 → u < 80 → S (21 * c + 5 + q) = Int32.ofNat (2 + u) → ¬ (c = b ∧ F ≤ q ∧ q < F + N) → S2 (21 * c + 5 + q) = Int32.ofNat (2 + u) ∧ ¬ (c = b ∧ T ≤ q ∧ q < T + N) := by
    intro c q u hc hq hu e hno
    by_cases ec : c = b
    · subst ec
      have g1 : ¬ (T ≤ q ∧ q < T + N) := fun z => by
        refine hwy (q - T) (by omega) ⟨fun w => ?_, fun w => ?_⟩
        · exact hno ⟨rfl, by omega, by omega⟩
        · rw [show T + (q - T) = q by omega] at w
          exact absurd e (ne_thing (Or.inl w) hu)
      refine ⟨?_, fun z => g1 z.2⟩
      rw [sB q hq, if_neg g1, if_neg (fun z => hno ⟨rfl, z⟩)]; exact e
    · exact ⟨by rw [sO c q hc hq ec]; exact e, fun z => ec z.1⟩
  refine gg_strike h (fun j h0 h1 h2 => (cn j h2 h0).symm) (fun j h0 => (sn j (fun q hq => h0 b q hb hq)).symm) cc ?_ ?_ ?_ hw
  · intro u hu q
    rw [sn 1641 (by intros; omega)] at q
    rw [sn (732 + 5 * u) (by intros; omega), cn (720 + 8 * u + 6) (by intros; omega) (by intros; omega)]
    have hh := h.1.rp u hu q
    by_cases hc : ∃ i, i < N ∧ S (21 * b + 5 + (F + i)) = Int32.ofNat (2 + u)
    · obtain ⟨i, hi, ei⟩ := hc
      rw [cT u i hu hi ei]
      have k4 : ¬ S (732 + 5 * u) = 4 := fun z => hst i hi (Or.inr ⟨u, hu, ei, z⟩)
      rcases hh with ⟨-, -, hno⟩ | ⟨b0, p0, hb0, hp0, e1, e2, hat, -, hun⟩
      · exact absurd (by rw [ctS_at hb (by omega)]; exact ei) (hno b (F + i) hb (by omega))
      · have z := hun b (F + i) hb (by omega) (by rw [ctS_at hb (by omega)]; exact ei)
        have zb : b = b0 := by
          rcases z.2 with w | ⟨w, -⟩
          · exact w
          · exact absurd w k4
        subst zb
        refine Or.inr ⟨b, T + i, hb, by omega, e1, rfl, ?_, fun w => absurd w k4, fun c2 q2 hc2 hq2 e => ?_⟩
        · rw [ctS_at hb (by omega), sB (T + i) (by omega), if_pos (by omega), show T + i - T = i by omega]; exact ei
        · rw [ctS_at hc2 hq2] at e
          rcases back c2 q2 u hc2 hq2 hu e with ⟨w1, w2, w3, w4⟩ | ⟨w1, w2⟩
          · have := hun b (F + (q2 - T)) hb (by omega) (by rw [ctS_at hb (by omega)]; exact w4)
            have h9 := this.1
            have h8 := z.1
            exact ⟨by omega, Or.inl w1⟩
          · have := hun c2 q2 hc2 hq2 (by rw [ctS_at hc2 hq2]; exact w2)
            have hcb : c2 = b := by
              rcases this.2 with w | ⟨w, -⟩
              · exact w
              · exact absurd w k4
            have h9 := this.1
            have h8 := z.1
            exact absurd ⟨hcb, Or.inr (by omega)⟩ w1
    · have hno : ∀ i, i < N → S (21 * b + 5 + (F + i)) ≠ Int32.ofNat (2 + u) := fun i hi z => hc ⟨i, hi, z⟩
      rw [cO u hu hno]
      refine hung_iff hh (fun c2 q2 hc2 hq2 => ?_)
      rw [ctS_at hc2 hq2, ctS_at hc2 hq2]
      constructor
      · intro e
        rcases back c2 q2 u hc2 hq2 hu e with ⟨w1, w2, w3, w4⟩ | ⟨-, w2⟩
        · exact absurd w4 (hno (q2 - T) (by omega))
        · exact w2
      · intro e
        refine (stay c2 q2 u hc2 hq2 hu e (fun z => ?_)).1
        have := hno (q2 - F) (by omega)
        rw [show F + (q2 - F) = q2 by omega, ← z.1] at this
        exact this e
  · intro c q hc hq hle
    rw [sn (21 * c + 1) (by intros; omega)] at hle
    by_cases ec : c = b
    · subst ec
      obtain ⟨z1, z2⟩ := hpl q hq hle
      rw [sB q hq, if_neg (by omega), if_neg (by omega)]
      exact h.2.wb3 c q hc hq hle
    · rw [sO c q hc hq ec]; exact h.2.wb3 c q hc hq hle
  · intro c q hc hq
    rw [sn 1641 (by intros; omega)]
    by_cases ec : c = b
    · subst ec
      rw [sB q hq]
      by_cases g1 : T ≤ q ∧ q < T + N
      · rw [if_pos g1]; exact h.2.wb5 c (F + (q - T)) hc (by omega)
      · rw [if_neg g1]
        by_cases g2 : F ≤ q ∧ q < F + N
        · rw [if_pos g2]; exact Or.inl rfl
        · rw [if_neg g2]; exact h.2.wb5 c q hc hq
    · rw [sO c q hc hq ec]; exact h.2.wb5 c q hc hq
theorem range_no {s k P : Int32} {V : VT} (h : s < 0 ∨ k < 0 ∨ P < s ∨ P - s < k) : f_X2_isRange s k P V = some 0 := by
  unfold f_X2_isRange f_X2_isRange_j24
  rcases h with h | h | h | h
  all_goals simp only [h, if_true, ite_self]
theorem range_yes {s k P : Nat} {V : VT} (hP : P ≤ 16) (h : s + k ≤ P) : f_X2_isRange (Int32.ofNat s) (Int32.ofNat k) (Int32.ofNat P) V = some 1 := by
  have n1 : ¬ Int32.ofNat s < 0 := nat_nneg (by omega)
  have n2 : ¬ Int32.ofNat k < 0 := nat_nneg (by omega)
  have n3 : ¬ Int32.ofNat P < Int32.ofNat s := fun q => by have := (nat_lt (by omega) (by omega)).mp q; omega
  have n4 : ¬ Int32.ofNat P - Int32.ofNat s < Int32.ofNat k := by
    rw [sub32 (by omega)]
    exact fun q => by have := (nat_lt (by omega) (by omega)).mp q; omega
  simp only [f_X2_isRange, n1, n2, n3, n4, if_false]
/-- a stretch is within the places, or it is not -/
theorem range_cases {s k : Int32} {P : Nat} (hP : P ≤ 16) : (∃ a m : Nat, s = Int32.ofNat a ∧ k = Int32.ofNat m ∧ a + m ≤ P) ∨ ((s < 0 ∨ k < 0 ∨ Int32.ofNat P < s ∨ Int32.ofNat P - s < k) ∧ (s < 0 ∨ k < 0 ∨ 0 < lg_cmp (Int32.toInt64 s + Int32.toInt64 k) (Int32.toInt64 (Int32.ofNat P)))) := by
  by_cases h1 : s < 0
  · exact Or.inr ⟨Or.inl h1, Or.inl h1⟩
  · by_cases h2 : k < 0
    · exact Or.inr ⟨Or.inr (Or.inl h2), Or.inr (Or.inl h2)⟩
    · have e1 := nat_of h1
      have e2 := nat_of h2
      have b1 := Int32.toNatClampNeg_lt s
      have b2 := Int32.toNatClampNeg_lt k
      generalize s.toNatClampNeg = a at e1 b1
      generalize k.toNatClampNeg = m at e2 b2
      subst e1
      subst e2
      by_cases h3 : a + m ≤ P
      · exact Or.inl ⟨a, m, rfl, rfl, h3⟩
      · refine Or.inr ⟨?_, Or.inr (Or.inr ?_)⟩
        · by_cases h4 : P < a
          · exact Or.inr (Or.inr (Or.inl ((nat_lt (by omega) (by omega)).mpr h4)))
          · refine Or.inr (Or.inr (Or.inr ?_))
            rw [sub32 (by omega)]
            exact (nat_lt (by omega) (by omega)).mpr (by omega)
        · rw [lg_gt, l64 (by omega), l64 (by omega), l64 (by omega), ← Int64.ofNat_add, Int64.lt_iff_toInt_lt, t64 (by omega), t64 (by omega)]; omega
theorem aok_shift (v1 v2 v3 v4 : Int32) : AOK (f_X2_carry v1 v2 v3 v4) (f_X12_shift v1 v2 v3 v4) := by
  intro n O B V J M M1 hn sb hgg em sm
  have hf0 : M1 7 2 = 0 := sm.2.2.2.1
  have h5 : V 11 5 = 0 := sb.2.2.2.2.1
  have m0 : M1 0 = M 0 := sm.1
  rcases rng 12 (by omega) v1 with ⟨b, hb, rfl⟩ | hbad
  · have e3 := m_isBar_yes (M := M1) hb
    have e4 := m_rigged (M := M1) hb
    rw [m0] at e4
    have i2 := is_no 2 hf0
    have i1 := is_no 1 hf0
    have i10' := is_no 10 hf0
    have i5 := is_no 5 hf0
    by_cases h1 : M 0 (21 * b) = 1
    · have e1 := c_refBar_yes h5 hgg hb h1
      rw [if_pos h1] at e4
      have a7 := c_isHigh hgg hb
      have d7 := m_height (M := M1) hb
      rw [m0] at d7
      by_cases hh : M 0 (21 * b + 3) = 0
      · rw [if_pos hh] at a7
        rw [hh] at d7
        obtain ⟨P, -, hP, hS⟩ := hgg.2.wb2 b hb h1
        have gp : f_X7_get 0 12 4 (Int32.ofNat b) 0 V = some (Int32.ofNat P) := by rw [← hS, ← hgg.1.rb0 b hb]; exact gbar (c := 0) hb (by omega)
        have dp := m_places (M := M1) hb
        rw [m0, hS] at dp
        have mhead : f_X12_shift (Int32.ofNat b) v2 v3 v4 M = f_X12_shift_j59 (Int32.ofNat b) v2 v3 v4 0 M1 := by
          simp only [f_X12_shift, f_X12_shift_j17, f_X12_shift_j38, em, e3, i2, e4, i1, d7, bsm, i10, if_false, if_true]
        rcases range_cases (s := v2) (k := v4) hP with ⟨F, N, rfl, rfl, hFN⟩ | ⟨rc, rm⟩
        · rcases range_cases (s := v3) (k := Int32.ofNat N) hP with ⟨T, N2, rfl, eN, hTN⟩ | ⟨rc, rm⟩
          · -- both stretches are there
            have hP2 : ∀ x : Nat, Int32.ofNat N = Int32.ofNat x → x ≤ 16 → N ≤ 2147483647 → N = x := fun x z hx _ => (nat_eq (by omega) (by omega)).mp z
            have hNs : N < 2147483648 := by omega
            have : N = N2 := (nat_eq (by omega) (by omega)).mp eN
            subst this
            have y1 := range_yes (V := V) hP hFN
            have y2 := range_yes (V := V) hP hTN
            have nF : ¬ Int32.ofNat F < 0 := nat_nneg (by omega)
            have nT : ¬ Int32.ofNat T < 0 := nat_nneg (by omega)
            have nN : ¬ Int32.ofNat N < 0 := nat_nneg (by omega)
            have l1 : ¬ 0 < lg_cmp (Int32.toInt64 (Int32.ofNat F) + Int32.toInt64 (Int32.ofNat N)) (Int32.toInt64 (Int32.ofNat P)) := by
              rw [lg_gt, l64 (by omega), l64 (by omega), l64 (by omega), ← Int64.ofNat_add, Int64.lt_iff_toInt_lt, t64 (by omega), t64 (by omega)]; omega
            have l2 : lg_cmp (Int32.toInt64 (Int32.ofNat T) + Int32.toInt64 (Int32.ofNat N)) (Int32.toInt64 (Int32.ofNat P)) ≤ 0 := by
              rw [lg_le0, l64 (by omega), l64 (by omega), l64 (by omega), ← Int64.ofNat_add, Int64.le_iff_toInt_le, t64 (by omega), t64 (by omega)]; omega
            have mh2 : f_X12_shift (Int32.ofNat b) (Int32.ofNat F) (Int32.ofNat T) (Int32.ofNat N) M = lp (f_X12_shift_B148 (Int32.ofNat b) (Int32.ofNat F) (Int32.ofNat T) (Int32.ofNat N)) fuel ((0 : Int32), (0 : Int32), (0 : Int32), M1) := by
              rw [mhead]
              simp only [f_X12_shift_j59, f_X12_shift_j122, i10', nN, nF, nT, dp, l1, l2, i5, bsm, if_false, if_true]
            have hc1 : f_X2_carry (Int32.ofNat b) (Int32.ofNat F) (Int32.ofNat T) (Int32.ofNat N) V J = (f_X2_isStuck (Int32.ofNat b) (Int32.ofNat F) (Int32.ofNat N) V).bind fun r7 => if r7 = 0 then ((f_X2_isInTheWay (Int32.ofNat b) (Int32.ofNat F) (Int32.ofNat T) (Int32.ofNat N) V).bind fun r9 => if r9 = 0 then ((f_X2_moveAll (Int32.ofNat b) (Int32.ofNat F) (Int32.ofNat T) (Int32.ofNat N) V).bind fun r10 => (f_X2_judge (Int32.ofNat b) (Int32.ofNat b) (Int32.ofNat T) (Int32.ofNat N) r10.2 J).bind fun r11 => some (r10.1, r11.1, r11.2)) else (f_X2_carry_j107 V J)) else (f_X2_carry_j107 V J) := by
              simp only [f_X2_carry, e1, a7, gp, y1, y2, bsm, i10, if_false, if_true]
            have hgm1 : GG n (V 0) (M1 0) := by rw [m0]; exact hgg
            have hms : ∀ f : Int32, f ≠ 0 → ∃ M2 M3, f_X12_is 1 f (setRow M1 5 (crr (M1 0) (M1 5) b F N)) = some (1, M2) ∧ f_X12_refused M2 = some (-1000000000, M3) ∧ Ms (M 0) M1 (M 0) f 0 M2 ∧ Mf (M 0) f 0 M2 M3 := by
              intro f hf
              obtain ⟨M2, ei, si⟩ := is_yes f (ms_row5 (crr (M1 0) (M1 5) b F N) sm) hf
              obtain ⟨M3, e3, hm⟩ := mref_ok si
              exact ⟨M2, M3, ei, e3, si, hm⟩
            have taken : (∃ i, i < N ∧ (stk (M 0) b F i ∨ wyP (M 0) b F T N i)) → (∀ V2, f_X9_refuse 12 V = some (-1000000000, V2) → f_X2_carry (Int32.ofNat b) (Int32.ofNat F) (Int32.ofNat T) (Int32.ofNat N) V J = some (-1000000000, V2, J)) → AO n O B M M1 (f_X2_carry (Int32.ofNat b) (Int32.ofNat F) (Int32.ofNat T) (Int32.ofNat N) V J) (f_X12_shift (Int32.ofNat b) (Int32.ofNat F) (Int32.ofNat T) (Int32.ofNat N) M) := by
              intro hex hcv
              have hl := m_takeLoop (M := M1) (b := b) (F := F) (T := T) (N := N) 1 hgm1 hb (by omega) (by omega) (Or.inl ⟨rfl, by rw [m0]; exact hex⟩)
              obtain ⟨V2, er, sr⟩ := st_ref 12 sb
              obtain ⟨M2, M3, ei, er2, si, hmf⟩ := hms 12 (by decide)
              refine Or.inl ⟨12, 0, -1000000000, V2, J, _, M2, M3, by decide, hcv V2 er, sr, ?_, ⟨_, si⟩, hmf⟩
              rw [mh2, hl]
              simp only [shiftX, ei, er2, bsm, i10, if_false]
            rcases c_stuck hgg hb (F := F) (N := N) (by omega) with ⟨es, i, hi, hsi⟩ | ⟨es, hst⟩
            · refine taken ⟨i, hi, Or.inl hsi⟩ (fun V2 er => ?_)
              rw [hc1]
              simp only [es, f_X2_carry_j107, er, bsm, i10, if_false]
            · rcases c_inWay hgg hb (F := F) (T := T) (N := N) (by omega) (by omega) with ⟨ew, i, hi, hwi⟩ | ⟨ew, hwy⟩
              · refine taken ⟨i, hi, Or.inr hwi⟩ (fun V2 er => ?_)
                rw [hc1]
                simp only [es, ew, f_X2_carry_j107, er, bsm, i10, if_false, if_true]
              · -- all is carried
                have hl := m_takeLoop (M := M1) (b := b) (F := F) (T := T) (N := N) 0 hgm1 hb (by omega) (by omega) (Or.inr ⟨rfl, fun i hi => by rw [m0]; exact fun z => by rcases z with z | z; exact hst i hi z; exact hwy i hi z⟩)
                have sm5 := ms_row5 (crr (M1 0) (M1 5) b F N) sm
                have i12 := is_no 12 sm5.2.2.2.1
                have r50 : setRow M1 5 (crr (M1 0) (M1 5) b F N) 0 = M 0 := sm5.1
                have hz := m_zero (M := setRow M1 5 (crr (M1 0) (M1 5) b F N)) (Int32.ofNat T) (Int32.ofNat (cnt (cab (M1 0) b F) N)) hb (F := F) (N := N) (by omega)
                rw [r50] at hz
                have hd := m_drop (M := setRow (setRow M1 5 (crr (M1 0) (M1 5) b F N)) 0 (fil (M 0) (21 * b + 5 + F) 0 N)) (S := M 0) (F := F) (Int32.ofNat (cnt (cab (M1 0) b F) N)) hb (T := T) (N := N) (by omega) (fun j hj => by
                  rw [setRow_ne (by omega), setRow_eq]; unfold crr; rw [if_pos hj, m0])
                rw [setRow_eq] at hd
                have sm6 := ms_row (fil (M 0) (21 * b + 5 + F) 0 N) sm5 (fun k hk => fil_out (by omega))
                have sm7 := ms_row (ptr (M 0) (fil (M 0) (21 * b + 5 + F) 0 N) b F T N) sm6 (fun k hk => by unfold ptr; rw [if_neg (by omega)])
                generalize hM2 : setRow (setRow (setRow M1 5 (crr (M1 0) (M1 5) b F N)) 0 (fil (M 0) (21 * b + 5 + F) 0 N)) 0 (ptr (M 0) (fil (M 0) (21 * b + 5 + F) 0 N) b F T N) = M2 at hd sm7
                have mm : f_X12_shift (Int32.ofNat b) (Int32.ofNat F) (Int32.ofNat T) (Int32.ofNat N) M = lp (f_X12_shift_B369 (Int32.ofNat b) (Int32.ofNat T) (Int32.ofNat N) (Int32.ofNat (cnt (cab (M 0) b F) N)) M2) fuel ((-1 : Int32), (0 : Int32)) := by
                  rw [mh2, hl]
                  unfold shiftX
                  rw [i12, bsm, if_pos rfl, bsm, hz, hd, m0]
                have hX : ∀ V2, f_X2_moveAll_j67 (Int32.ofNat b) (Int32.ofNat T) (Int32.ofNat N) 0 V2 = f_X2_moveAll_j67 (Int32.ofNat b) (Int32.ofNat T) (Int32.ofNat N) 0 V2 := fun _ => rfl
                obtain ⟨V2, el, s2, r5⟩ := c_lift (X := fun V2 => f_X2_moveAll_j67 (Int32.ofNat b) (Int32.ofNat T) (Int32.ofNat N) 0 V2) (Int32.ofNat T) hgg sb hb (F := F) (N := N) (by omega) hX
                obtain ⟨V3, ed, s3⟩ := c_drop (T := T) hgg s2 hb (F := F) (N := N) (by omega) (by omega) r5
                have emv : f_X2_moveAll (Int32.ofNat b) (Int32.ofNat F) (Int32.ofNat T) (Int32.ofNat N) V = some (Int32.ofNat (cnt (cab (M 0) b F) N), V3) := by
                  unfold f_X2_moveAll
                  rw [bsm, bsm, el]
                  exact ed
                obtain ⟨q1, q2, q3, q4⟩ := mv_facts (Z := fil (V 0) (48 + 16 * b + F) 0 N) hgg hb (F := F) (T := T) (N := N) (by omega) (by omega) N (Nat.le_refl N)
                generalize hC2 : mv (M 0) (fil (V 0) (48 + 16 * b + F) 0 N) b F T N = C2 at s3 q1 q2 q3 q4
                generalize hS2 : ptr (M 0) (fil (M 0) (21 * b + 5 + F) 0 N) b F T N = S2 at sm7
                have sB : ∀ q, q < 16 → S2 (21 * b + 5 + q) = if T ≤ q ∧ q < T + N then M 0 (21 * b + 5 + (F + (q - T))) else if F ≤ q ∧ q < F + N then 0 else M 0 (21 * b + 5 + q) := by
                  intro q hq
                  rw [← hS2]
                  unfold ptr
                  by_cases g1 : T ≤ q ∧ q < T + N
                  · rw [if_pos (by omega), if_pos g1, show 21 * b + 5 + q - (21 * b + 5 + T) = q - T by omega]
                  · rw [if_neg (by omega), if_neg g1]
                    by_cases g2 : F ≤ q ∧ q < F + N
                    · rw [if_pos g2, fil_in (by omega)]
                    · rw [if_neg g2, fil_out (by omega)]
                have sn : ∀ j, (∀ q, q < 16 → j ≠ 21 * b + 5 + q) → S2 j = M 0 j := by
                  intro j hj
                  have hj2 : ¬ (21 * b + 5 ≤ j ∧ j < 21 * b + 5 + 16) := fun z => hj (j - (21 * b + 5)) (by omega) (by omega)
                  rw [← hS2]
                  unfold ptr
                  rw [if_neg (by omega), fil_out (by omega)]
                have uniq : ∀ t i i2, t < 80 → i < N → i2 < N → M 0 (21 * b + 5 + (F + i)) = Int32.ofNat (2 + t) → M 0 (21 * b + 5 + (F + i2)) = Int32.ofNat (2 + t) → i2 = i := by
                  intro t i i2 ht hi hi2 x1 x2
                  have htl := told_ct hgg hb (p := F + i) (by omega) ht x1
                  rcases hgg.1.rp t ht htl with ⟨-, -, hno⟩ | ⟨b0, p0, -, -, -, -, -, -, hun⟩
                  · exact absurd (by rw [ctS_at hb (by omega)]; exact x1) (hno b (F + i) hb (by omega))
                  · have z1 := (hun b (F + i) hb (by omega) (by rw [ctS_at hb (by omega)]; exact x1)).1
                    have z2 := (hun b (F + i2) hb (by omega) (by rw [ctS_at hb (by omega)]; exact x2)).1
                    omega
                have mkGG : ∀ k, GG k (V 0) (M 0) → W_wh (k + 1) S2 → GG (k + 1) C2 S2 := by
                  intro k hg hw
                  refine gg_shift2 hg hb (F := F) (T := T) (N := N) (by omega) (by omega) (fun q hq hle => ?_) hst hwy sB sn (fun c q hc hq => ?_) (fun t i ht hi e => ?_) (fun t ht hno => ?_) (fun j z1 z2 => ?_) hw
                  · rw [hS] at hle
                    have := (nat_le (by omega) (by omega)).mp hle
                    omega
                  · by_cases ec : c = b
                    · subst ec
                      rw [sB q hq]
                      by_cases g1 : T ≤ q ∧ q < T + N
                      · rw [if_pos g1]
                        have := q2 (q - T) (by omega)
                        rw [show T + (q - T) = q by omega] at this
                        rw [this]
                        by_cases g3 : M 0 (21 * c + 5 + (F + (q - T))) < 2
                        · rw [if_pos g3]
                          have hz0 : M 0 (21 * c + 5 + (F + (q - T))) = 0 := by
                            rcases low_ct hgg hc (p := F + (q - T)) (by omega) with ⟨-, w | w⟩ | ⟨w, -⟩
                            · exact w
                            · exact absurd (Or.inl w) (hst (q - T) (by omega))
                            · exact absurd g3 w
                          rw [hz0]
                          by_cases g2 : F ≤ q ∧ q < F + N
                          · exact fil_in (by omega)
                          · rw [fil_out (by omega), hgg.1.rc c q hc hq]
                            refine Classical.byContradiction (fun w => hwy (q - T) (by omega) ⟨fun y => g2 (by omega), ?_⟩)
                            rw [show T + (q - T) = q by omega]; exact w
                        · rw [if_neg g3]
                      · rw [if_neg g1, q1 _ (fun t ht => by omega) (fun k hk => by omega)]
                        by_cases g2 : F ≤ q ∧ q < F + N
                        · rw [if_pos g2, fil_in (by omega)]
                        · rw [if_neg g2, fil_out (by omega)]; exact hgg.1.rc c q hc hq
                    · rw [sn _ (fun r hr => by omega), q1 _ (fun t ht => by omega) (fun k hk => by omega), fil_out (by omega)]
                      exact hgg.1.rc c q hc hq
                  · exact q4 t i ht hi e (fun i2 hi2 e2 => uniq t i i2 ht hi hi2 e e2)
                  · rw [q3 t ht hno, fil_out (by omega)]
                  · rw [q1 j z1 (fun k hk => z2 b (T + k) hb (by omega)), fil_out (fun w => z2 b (j - (48 + 16 * b)) hb (by omega) (by omega))]
                have hmid := mkGG 999 (gg_999 hgg hn) wh_1000
                have v3' : V3 0 = C2 := s3.2.1
                have m2 : M2 0 = S2 := sm7.1
                have hg3 : GG 1000 (V3 0) S2 := by rw [v3']; exact hmid
                have hgm : GG 1000 C2 (M2 0) := by rw [m2]; exact hmid
                obtain ⟨V5, J5, ej, hcase⟩ := c_judge (J := J) (fr := T) (k := N) hg3 (by rw [v3']; exact s3) hb hb (Or.inl rfl) (by omega)
                rw [v3'] at hcase
                have hcl : cl2 S2 b b T N = ckf S2 b T none N := by unfold cl2; rw [if_pos rfl]
                rw [hcl] at hcase
                have hcy : f_X2_carry (Int32.ofNat b) (Int32.ofNat F) (Int32.ofNat T) (Int32.ofNat N) V J = some (Int32.ofNat (cnt (cab (M 0) b F) N), V5, J5) := by
                  rw [hc1]
                  simp only [es, ew, emv, ej, bsm, if_true]
                have mcl := m_clLoop (Int32.ofNat (cnt (cab (M 0) b F) N)) hgm hb (T := T) (N := N) (by omega)
                rw [m2] at mcl
                have oth : ∀ c q, c < 12 → q < 16 → c ≠ b → ¬ scP S2 c q := by
                  intro c q hc hq hne
                  rintro ⟨⟨t2, ht2, x1, x2⟩, k, hk5, k2, k3, u, hu, x3, x4⟩
                  rw [sn _ (fun r hr => by omega)] at x1 x3 x2 x4
                  exact no_sc hgg (by omega) hc hq ⟨⟨t2, ht2, x1, x2⟩, k, hk5, k2, k3, u, hu, x3, x4⟩
                have esco := m_scorched (B := b) hgm hb (fun c q hc hq hne => by rw [m2]; exact oth c q hc hq hne)
                rw [m2] at esco
                have eh1 := m_isHeld hgm hb
                rw [m2] at eh1
                have nn : (-1 : Int32) < 0 := by decide
                have fi13 := is_no 13 sm7.2.2.2.1
                have fi14 := is_no 14 sm7.2.2.2.1
                have fi15 := is_no 15 sm7.2.2.2.1
                have nnat : ∀ a : Nat, a < 80 → ¬ Int32.ofNat a < 0 := fun a ha => nat_nneg (by omega)
                rw [hcy, mm, mcl]
                rcases hcase with ⟨a, ha, hc, z⟩ | ⟨hc, a, ha, hm, z⟩ | ⟨hc, hm, ⟨hd', z⟩ | ⟨hd', hd2, z⟩ | ⟨hd', hd2, z⟩⟩
                · rw [hc]
                  refine aok_back 13 (Int32.ofNat a) (by decide) z rfl sm7 (fun M3 M4 ei e4 => ?_)
                  simp only [o32, nnat a ha, if_false, f_X12_shift_j409, ei, e4, bsm, i10]
                · rw [hc]
                  rw [hm] at esco
                  simp only [o32] at esco
                  refine aok_back 14 (Int32.ofNat a) (by decide) z rfl sm7 (fun M3 M4 ei e4 => ?_)
                  simp only [o32, nn, if_true, f_X12_shift_j409, f_X12_shift_j445, fi13, esco, nnat a ha, if_false, ei, e4, bsm, i10]
                · rw [hc]
                  rw [hm] at esco
                  simp only [o32] at esco
                  rw [if_neg hd'] at eh1
                  refine aok_back 15 (Int32.ofNat b) (by decide) z rfl sm7 (fun M3 M4 ei e4 => ?_)
                  simp only [o32, nn, if_true, f_X12_shift_j409, f_X12_shift_j445, f_X12_shift_j478, fi13, esco, fi14, eh1, if_false, ei, e4, bsm, i10]
                · exact absurd hd' hd2
                · rw [hc]
                  rw [hm] at esco
                  simp only [o32] at esco
                  rw [if_pos hd'] at eh1
                  refine Or.inr ⟨Int32.ofNat (cnt (cab (M 0) b F) N), V5, J5, C2, S2, M2, rfl, z, sm7, ?_, mkGG n hgg (wh_of hmid (fun c q hc2 hq => ?_))⟩
                  · simp only [o32, nn, if_true, f_X12_shift_j409, f_X12_shift_j445, f_X12_shift_j478, fi13, esco, fi14, eh1, fi15, if_false, bsm, i10]
                  · by_cases e : c = b
                    · subst e; exact mhm_none 16 hm q hq
                    · exact oth c q hc2 hq e
          · have y1 := range_yes (V := V) hP hFN
            refine aok_refJ (J := J) 5 (by decide) sb sm (fun V2 er sr => ?_) (fun M2 M3 ei er2 => ?_)
            · simp only [f_X2_carry, f_X2_carry_j75, e1, a7, gp, y1, range_no (V := V) rc, er, bsm, i10, if_false, if_true]
            · rw [mhead]
              have nF : ¬ Int32.ofNat F < 0 := nat_nneg (by omega)
              have nN : ¬ Int32.ofNat N < 0 := nat_nneg (by omega)
              have l1 : ¬ 0 < lg_cmp (Int32.toInt64 (Int32.ofNat F) + Int32.toInt64 (Int32.ofNat N)) (Int32.toInt64 (Int32.ofNat P)) := by
                rw [lg_gt, l64 (by omega), l64 (by omega), l64 (by omega), ← Int64.ofNat_add, Int64.lt_iff_toInt_lt, t64 (by omega), t64 (by omega)]; omega
              by_cases q3 : v3 < 0
              · simp only [f_X12_shift_j59, f_X12_shift_j117, f_X12_shift_j122, i10', nN, nF, q3, ei, er2, bsm, i10, if_false, if_true]
              · have q4 : 0 < lg_cmp (Int32.toInt64 v3 + Int32.toInt64 (Int32.ofNat N)) (Int32.toInt64 (Int32.ofNat P)) := (rm.resolve_left q3).resolve_left nN
                have q5 : ¬ lg_cmp (Int32.toInt64 v3 + Int32.toInt64 (Int32.ofNat N)) (Int32.toInt64 (Int32.ofNat P)) ≤ 0 := lt_nle q4
                simp only [f_X12_shift_j59, f_X12_shift_j117, f_X12_shift_j122, i10', nN, nF, q3, dp, l1, q5, ei, er2, bsm, i10, if_false, if_true]
        · refine aok_refJ (J := J) 5 (by decide) sb sm (fun V2 er sr => ?_) (fun M2 M3 ei er2 => ?_)
          · simp only [f_X2_carry, f_X2_carry_j75, e1, a7, gp, range_no (V := V) rc, er, bsm, i10, if_false, if_true]
          · rw [mhead]
            by_cases q1 : v4 < 0
            · simp only [f_X12_shift_j59, f_X12_shift_j117, f_X12_shift_j122, i10', q1, ei, er2, bsm, i10, if_false, if_true]
            · by_cases q2 : v2 < 0
              · simp only [f_X12_shift_j59, f_X12_shift_j117, f_X12_shift_j122, i10', q1, q2, ei, er2, bsm, i10, if_false, if_true]
              · have q4 : 0 < lg_cmp (Int32.toInt64 v2 + Int32.toInt64 v4) (Int32.toInt64 (Int32.ofNat P)) := (rm.resolve_left q2).resolve_left q1
                by_cases q3 : v3 < 0
                · simp only [f_X12_shift_j59, f_X12_shift_j117, f_X12_shift_j122, i10', q1, q2, q3, ei, er2, bsm, i10, if_false, if_true]
                · simp only [f_X12_shift_j59, f_X12_shift_j117, f_X12_shift_j122, i10', q1, q2, q3, dp, q4, ei, er2, bsm, i10, if_false, if_true]
      · rw [if_neg hh] at a7
        refine aok_refJ (J := J) 10 (by decide) sb sm (fun V2 er sr => ?_) (fun M2 M3 ei er2 => ?_)
        · simp only [f_X2_carry, e1, a7, er, bsm, i10, if_false, if_true]
        · simp only [f_X12_shift, f_X12_shift_j17, f_X12_shift_j38, f_X12_shift_j59, f_X12_shift_j67, em, e3, i2, e4, i1, d7, hh, ei, er2, bsm, i10, if_false, if_true]
    · rw [if_neg h1] at e4
      refine aok_refJ (J := J) 1 (by decide) sb sm (fun V2 er sr => ?_) (fun M2 M3 ei er2 => ?_)
      · have e1 := c_bar_ref (by decide) (Or.inr ⟨b, n, _, rfl, hb, hgg, h1, rfl⟩) er sr
        simp only [f_X2_carry, e1, bsm, i10, if_false]
      · simp only [f_X12_shift, f_X12_shift_j17, f_X12_shift_j38, f_X12_shift_j67, em, e3, i2, e4, ei, er2, bsm, i10, if_false, if_true]
  · have e3 := m_isBar_no (M := M1) hbad
    refine aok_refJ (J := J) 2 (by decide) sb sm (fun V2 er sr => ?_) (fun M2 M3 ei er2 => ?_)
    · have e1 := c_bar_ref (by decide) (Or.inl ⟨hbad, rfl⟩) er sr
      simp only [f_X2_carry, e1, bsm, i10, if_false]
    · simp only [f_X12_shift, f_X12_shift_j17, f_X12_shift_j67, em, e3, ei, er2, bsm, i10, if_false, if_true]
theorem o_shift : O_shift (IG GG) := fun _ _ _ _ _ v1 v2 v3 v4 hn hI => aok_run (aok_shift v1 v2 v3 v4) hn hI rfl
