/-! undo, status, the tape's acts that the loft doesn't see -/
theorem bind_lp {α : Type} {L : Int32 × VT → Option α} {M : VT} : ((some (0 : Int32)).bind fun a => L (a, M)) = L (Int32.ofNat 0, M) := rfl
theorem mundo_loop {M : VT} {q : Nat} (hq : q < 60) (h0 : M 7 0 = Int32.ofNat q) : lp f_X12_undo_B48 fuel (Int32.ofNat 0, M) = some (Int32.ofNat q, setRow M 0 (cpyTo (fun k => M 1 (1646 * q + k)) (M 0) 1646)) := by
  have key := lp_iter (f := f_X12_undo_B48) (y := (Int32.ofNat q, setRow M 0 (cpyTo (fun k => M 1 (1646 * q + k)) (M 0) 1646))) (fun j => (Int32.ofNat j, setRow M 0 (cpyTo (fun k => M 1 (1646 * q + k)) (M 0) j))) 1646 0 fuel (fun j _ hj => ?_) ?_ (fuel_big (by omega))
  · simp only [cpy_0, setRow_id] at key
    exact key
  · have hj : j < 1646 := by omega
    unfold f_X12_undo_B48
    have n1 : ¬ (1646 : Int32) ≤ Int32.ofNat j := fun q => by have := (nat_le (a := 1646) (by omega) (by omega)).mp q; omega
    simp only [n1, if_false]
    rw [setRow_ne (by omega), h0, show (1646 : Int32) * Int32.ofNat q + Int32.ofNat j = Int32.ofNat (1646 * q + j) by rw [Int32.ofNat_add, Int32.ofNat_mul]; rfl, ck_nat (by omega) (by omega)]
    simp only [Option.bind_some]
    rw [ck_nat hj (by omega)]
    simp only [Option.bind_some]
    rw [setRow_u2, nat_succ, setRow_ne (by omega)]
    rw [show M 1 (1646 * q + j) = (fun k => M 1 (1646 * q + k)) j from rfl, cpy_succ]
  · unfold f_X12_undo_B48
    rw [Nat.zero_add, if_pos (show (1646 : Int32) ≤ Int32.ofNat 1646 by decide)]
    simp only [Option.bind_some]
    rw [setRow_ne (by omega), h0]
theorem mundo_no {M : VT} (h : M 7 0 = 0) : f_X12_undo M = some (-1000000000, u2 (u2 (u2 (u2 M 7 2 0) 7 3 0) 7 2 17) 7 4 (M 7 4 + 1)) := by
  have e0 : (u2 (u2 M 7 2 0) 7 3 0) 7 0 = 0 := by simp [u2_at]; exact h
  have e2 : (u2 (u2 M 7 2 0) 7 3 0) 7 2 = 0 := by simp [u2_at]
  have e3 : f_X12_is 1 17 (u2 (u2 M 7 2 0) 7 3 0) = some (1, u2 (u2 (u2 M 7 2 0) 7 3 0) 7 2 17) := by
    unfold f_X12_is f_X12_is_j16
    rw [if_neg (by decide), if_pos e2, if_neg (by simp [u2_at])]
  unfold f_X12_undo f_X12_undo_j23
  generalize lp f_X12_undo_B48 fuel = L
  rw [if_pos e0, e3]
  simp only [Option.bind_some]
  rw [if_neg (by decide)]
  unfold f_X12_refused
  simp only [Option.bind_some]
  simp [u2_at]
theorem mundo_yes {M : VT} {q : Nat} (hq : q < 60) (h : M 7 0 = Int32.ofNat (q + 1)) : ∃ M3, f_X12_undo M = some (Int32.ofNat q, M3) ∧ M3 7 0 = Int32.ofNat q ∧ M3 7 2 = 0 ∧ M3 7 3 = 0 ∧ M3 7 4 = M 7 4 ∧ M3 7 1 = M 7 1 ∧ M3 1 = M 1 ∧ M3 4 = M 4 ∧ ∀ k, k < 1646 → M3 0 k = M 1 (1646 * q + k) := by
  obtain ⟨M2, hM2⟩ : ∃ M2, M2 = u2 (u2 (u2 M 7 2 0) 7 3 0) 7 0 ((u2 (u2 M 7 2 0) 7 3 0) 7 0 - 1) := ⟨_, rfl⟩
  have e0 : ¬ (u2 (u2 M 7 2 0) 7 3 0) 7 0 = 0 := by
    simp [u2_at]; rw [h]; intro z
    have := (nat_eq (a := q + 1) (b := 0) (by omega) (by omega)).mp z
    omega
  have e2 : (u2 (u2 M 7 2 0) 7 3 0) 7 2 = 0 := by simp [u2_at]
  have m0 : M2 7 0 = Int32.ofNat q := by
    rw [hM2]
    have : (u2 (u2 M 7 2 0) 7 3 0) 7 0 = Int32.ofNat (q + 1) := by simp only [u2_at]; simp; simpa using h
    rw [this, show Int32.ofNat (q + 1) - 1 = Int32.ofNat q from (Int32.ofNat_sub (q + 1) 1 (by omega)).symm]
    simp [u2_at]
  have e : f_X12_undo M = lp f_X12_undo_B48 fuel (Int32.ofNat 0, M2) := by
    unfold f_X12_undo f_X12_undo_j23
    generalize lp f_X12_undo_B48 fuel = L
    rw [if_neg e0, is_no 17 e2]
    simp only [Option.bind_some, if_true]
    rw [hM2]; rfl
  refine ⟨_, e.trans (mundo_loop hq m0), ?_, ?_, ?_, ?_, ?_, ?_, ?_, ?_⟩
  · rw [setRow_ne (by omega)]; exact m0
  · rw [setRow_ne (by omega), hM2]; simp [u2_at]
  · rw [setRow_ne (by omega), hM2]; simp [u2_at]
  · rw [setRow_ne (by omega), hM2]; simp [u2_at]
  · rw [setRow_ne (by omega), hM2]; simp [u2_at]
  · rw [setRow_ne (by omega), hM2, u2_ne (by omega), u2_ne (by omega), u2_ne (by omega)]
  · rw [setRow_ne (by omega), hM2, u2_ne (by omega), u2_ne (by omega), u2_ne (by omega)]
  · intro k hk
    rw [setRow_eq]; unfold cpyTo
    rw [if_pos hk, hM2, u2_ne (by omega), u2_ne (by omega), u2_ne (by omega)]
theorem o_undo {G : GT} (hG : GOK G) : O_undo (IG G) := by
  intro n V J dd M hn hI
  obtain ⟨V1, eb, sb, c1, c3, c4, c7, c11, c10⟩ := begin_ok 0 (by omega) (ig_rest hn hI)
  have hle := rest_of sb
  obtain ⟨⟨a1, a2, a3⟩, old, cnt, steps, b1, b2, b3, b4, b5, b6, b7, b8, b9, b10, b11, b12, b13, b14, b15⟩ := hI
  have ea := act_inc hn a1 a2
  have e1 : (1 : Int32).toInt = 1 := by decide
  cases cnt with
  | zero =>
    have h4 : V1 11 4 = 0 := by rw [c4]; exact b5
    obtain ⟨V2, er, sr⟩ := st_ref 17 sb
    obtain ⟨V3, es, d0, d5, d6, d7, d1, d3, d4, d11, d10, dr⟩ := settle_no (-1000000000) (by omega) sr (by decide)
    have ec : f_X11_undo V dd = some (-1000000000, V3, none) := by
      unfold f_X11_undo f_X4_takeBack
      rw [eb]
      simp only [Option.bind_some]
      rw [if_pos h4]
      simp only [Option.bind_some, if_true]
      rw [er]
      simp only [Option.bind_some]
      rw [es]; rfl
    obtain ⟨-, s0, -, s10, s5, s6, s1, s3, s4, s7, s11⟩ := sr
    have e11 : (V2 11 1).toInt = (V 11 1).toInt + 1 := by rw [s1, c1, ea]
    have e12 : (V3 11 1).toInt = (V 11 1).toInt + 2 := by rw [d1, i32_add (by omega) (by omega), e11, e1]; omega
    have hr2 : V2 1 = V1 1 := by
      unfold f_X9_refuse f_X9_refuseOver at er
      simp only [Option.bind_some] at er
      cases er
      rw [u2_ne (by omega), u2_ne (by omega)]
    refine ⟨_, _, ec, mundo_no (by rw [b6]; rfl), rfl, ?_⟩
    show IG G (n + 1) V3 J (ddU dd none) (u2 (u2 (u2 (u2 M 7 2 0) 7 3 0) 7 2 17) 7 4 (M 7 4 + 1))
    refine ⟨⟨by omega, by omega, fun c hc => ?_⟩, old, 0, steps, b1, b2, b3, ?_, ?_, ?_, ?_, ?_, ?_, ?_, ?_, ?_, ?_, ?_, ?_⟩
    · have := hle c hc
      rw [dr, hr2]
      rw [c1, ea] at this
      omega
    · rw [d3, s3, c3]; exact b4
    · rw [d4, s4, c4]; exact b5
    · simp [u2_at]; exact b6
    · rw [d5]; simp [u2_at]
    · rw [d6]; simp [u2_at]
    · rw [d7, s7, c7, b9]; simp [u2_at]
    · rw [d11, s11, c11]; exact b10
    · simp [u2_at]; exact b11
    · intro i hi; rw [d10, s10, c10, u2_ne (by omega), u2_ne (by omega), u2_ne (by omega), u2_ne (by omega)]; exact b12 i hi
    · intro i hi; rw [u2_ne (by omega), u2_ne (by omega), u2_ne (by omega), u2_ne (by omega)]; exact b13 i hi
    · rw [d0, u2_ne (by omega), u2_ne (by omega), u2_ne (by omega), u2_ne (by omega)]; exact hG.1 _ _ _ b14
    · rw [d0, u2_ne (by omega), u2_ne (by omega), u2_ne (by omega), u2_ne (by omega)]; exact b15.mono hG
  | succ q =>
    obtain ⟨ch, h0, h1⟩ := b15
    obtain ⟨⟨m, f, g, hd, hrs⟩, hGq⟩ := h1 q (by omega)
    rw [h0] at hrs
    obtain ⟨M3, em, m0, m2, m3, m4, m1, mr1, mr4, mS⟩ := mundo_yes (by omega) b6
    have h4 : V1 11 4 = Int32.ofNat (q + 1) := by rw [c4]; exact b5
    have n4 : ¬ V1 11 4 = 0 := by
      rw [h4]; intro z
      have := (nat_eq (a := q + 1) (b := 0) (by omega) (by omega)).mp z
      omega
    have hV0 : V1 0 = V 0 := sb.2.1
    have eq1 : Int32.ofNat (q + 1) - 1 = Int32.ofNat q := (Int32.ofNat_sub (q + 1) 1 (by omega)).symm
    have es : ckA 60 (((u2 V1 11 4 (V1 11 4 - 1)) 11 3 + (u2 V1 11 4 (V1 11 4 - 1)) 11 4) - ((u2 V1 11 4 (V1 11 4 - 1)) 11 3 + (u2 V1 11 4 (V1 11 4 - 1)) 11 4) / 60 * 60) = some ((old + q) % 60) := by
      have q3 : (u2 V1 11 4 (V1 11 4 - 1)) 11 3 = Int32.ofNat old := by simp [u2_at]; rw [c3]; exact b4
      have q4 : (u2 V1 11 4 (V1 11 4 - 1)) 11 4 = Int32.ofNat q := by rw [h4, eq1]; simp [u2_at]
      rw [q3, q4, ← Int32.ofNat_add]
      rw [show Int32.ofNat (old + q) - Int32.ofNat (old + q) / 60 * 60 = Int32.ofNat ((old + q) % 60) from nat_rem (d := 60) (by omega) (by omega)]
      exact ck_nat (Nat.mod_lt _ (by omega)) (by omega)
    have er := restore_d_ok (V := u2 V1 11 4 (V1 11 4 - 1)) hrs (by rw [u2_ne (by omega)]; exact hV0)
    have et : f_X4_takeBack V1 dd = some (1, setRow (u2 V1 11 4 (V1 11 4 - 1)) 0 (ch q), some ((old + q) % 60)) := by
      unfold f_X4_takeBack
      rw [if_neg n4]
      simp only [Option.bind_some]
      rw [es]
      simp only [Option.bind_some]
      rw [hd]
      simp only [Option.bind_some]
      rw [er]; rfl
    have ek : f_X4_keptActs (setRow (u2 V1 11 4 (V1 11 4 - 1)) 0 (ch q)) = some (Int32.ofNat q) := by
      unfold f_X4_keptActs
      rw [setRow_ne (by omega), h4, eq1]
      simp [u2_at]
    have h5 : setRow (u2 V1 11 4 (V1 11 4 - 1)) 0 (ch q) 11 5 = 0 := by
      rw [setRow_ne (by omega)]; simp [u2_at]; exact sb.2.2.2.2.1
    have ec : f_X11_undo V dd = some (Int32.ofNat q, setRow (u2 V1 11 4 (V1 11 4 - 1)) 0 (ch q), some ((old + q) % 60)) := by
      unfold f_X11_undo
      rw [eb]
      simp only [Option.bind_some]
      rw [et]
      simp only [Option.bind_some]
      rw [if_neg (by decide), ek]
      simp only [Option.bind_some]
      rw [settle_yes _ h5]; rfl
    have v11 : ∀ i, i ≠ 4 → setRow (u2 V1 11 4 (V1 11 4 - 1)) 0 (ch q) 11 i = V1 11 i := fun i hi => by
      rw [setRow_ne (by omega)]; simp [u2_at, hi]
    have vr : ∀ k, k ≠ 0 → k ≠ 11 → setRow (u2 V1 11 4 (V1 11 4 - 1)) 0 (ch q) k = V1 k := fun k h1 h2 => by
      rw [setRow_ne h1, u2_ne h2]
    refine ⟨_, _, ec, em, rfl, ?_⟩
    show IG G (n + 1) (setRow (u2 V1 11 4 (V1 11 4 - 1)) 0 (ch q)) J (ddU dd (some ((old + q) % 60))) M3
    refine ⟨⟨?_, ?_, fun c hc => ?_⟩, old, q, steps, b1, by omega, b3, ?_, ?_, m0, ?_, ?_, ?_, ?_, ?_, ?_, ?_, ?_, ?_⟩
    · rw [v11 1 (by omega), c1, ea]; omega
    · rw [v11 1 (by omega), c1, ea]; omega
    · rw [v11 1 (by omega), vr 1 (by omega) (by omega)]; exact hle c hc
    · rw [v11 3 (by omega), c3]; exact b4
    · rw [setRow_ne (by omega), h4, eq1]; simp [u2_at]
    · rw [h5, m2]
    · rw [v11 6 (by omega), m3]; exact sb.2.2.2.2.2.1
    · rw [v11 7 (by omega), c7, m4]; exact b9
    · rw [v11 11 (by omega), c11]; exact b10
    · rw [m1]; exact b11
    · intro i hi; rw [vr 10 (by omega) (by omega), c10, mr4]; exact b12 i hi
    · intro i hi; rw [mr4]; exact b13 i hi
    · rw [setRow_eq]
      exact hG.2 _ _ _ _ (fun k hk => (mS k hk).symm) (hG.1 _ _ _ hGq)
    · rw [setRow_eq, mr1]
      refine ⟨ch, rfl, fun i hi => ?_⟩
      obtain ⟨⟨m', f', g', q1, q2⟩, q3⟩ := h1 i (by omega)
      refine ⟨⟨m', f', g', ?_, q2⟩, hG.1 _ _ _ q3⟩
      show va_up dd ((old + q) % 60) none ((old + i) % 60) = _
      rw [va_up_ne _ _ (by omega)]; exact q1
theorem o_status {G : GT} (hG : GOK G) : O_status (IG G) := by
  intro n V J dd M v1 hn hI
  have hI2 := ig_skip hG n V J dd M hn hI
  obtain ⟨-, old, cnt, steps, b1, b2, b3, b4, b5, b6, b7, b8, b9, -⟩ := hI
  unfold f_X11_status f_X12_status f_X9_finding f_X9_subject f_X9_refusals
  by_cases h0 : v1 = 0
  · rw [if_pos h0, if_pos h0]; exact ⟨_, _, rfl, rfl, b7, hI2⟩
  · rw [if_neg h0, if_neg h0]
    by_cases h1 : v1 = 1
    · rw [if_pos h1, if_pos h1]; exact ⟨_, _, rfl, rfl, b8, hI2⟩
    · rw [if_neg h1, if_neg h1]
      by_cases h2 : v1 = 2
      · rw [if_pos h2, if_pos h2]; exact ⟨_, _, rfl, rfl, b9, hI2⟩
      · rw [if_neg h2, if_neg h2]; exact ⟨_, _, rfl, rfl, rfl, hI2⟩
