/-! acts that are not kept: refused, or done with the loft as it was; clear and tell -/
theorem ig_rf {G : GT} (hG : GOK G) {n : Nat} {V : VT} {J J2 : JT} {dd : DT} {M V1 V2 V3 M2 M3 : VT} {z : Nat} {C2 : AT} {f s : Int32} (hn : n < 512) (hz : z < 1874) (hI : IG G n V J dd M) (eb : f_X11_begin V = some V1) (hs : St (V 0) V1 z C2 f s V2) (hR : Rf (V 0) f s V2 V3) (hM2 : M2 7 4 = M 7 4 ∧ M2 7 0 = M 7 0 ∧ M2 7 1 = M 7 1 ∧ M2 1 = M 1 ∧ M2 4 = M 4) (hm : Mf (M 0) f s M2 M3) : IG G (n + 1) V3 J2 dd M3 := by
  obtain ⟨V1', eb', sb, c1, c3, c4, c7, c11, c10⟩ := begin_ok z hz (ig_rest hn hI)
  rw [eb] at eb'
  cases eb'
  obtain ⟨d0, d5, d6, d7, d1, d3, d4, d11, d10, dr⟩ := hR
  have hle := rest_of hs
  obtain ⟨-, s0, -, s10, s5, s6, s1, s3, s4, s7, s11⟩ := hs
  obtain ⟨⟨a1, a2, a3⟩, old, cnt, steps, b1, b2, b3, b4, b5, b6, b7, b8, b9, b10, b11, b12, b13, b14, b15⟩ := hI
  obtain ⟨m74, m70, m71, m1, m4⟩ := hM2
  obtain ⟨f0, f2, f3, f4, f00, f01, f1, -, ff4, -⟩ := hm
  have ea := act_inc hn a1 a2
  have e11 : (V2 11 1).toInt = (V 11 1).toInt + 1 := by rw [s1, c1, ea]
  have e1 : (1 : Int32).toInt = 1 := by decide
  have e12 : (V3 11 1).toInt = (V 11 1).toInt + 2 := by
    rw [d1, i32_add (by omega) (by omega), e11, e1]; omega
  refine ⟨⟨by omega, by omega, fun c hc => ?_⟩, old, cnt, steps, b1, b2, b3, ?_, ?_, ?_, ?_, ?_, ?_, ?_, ?_, ?_, ?_, ?_, ?_⟩
  · have := hle c hc
    rw [dr]; omega
  · rw [d3, s3, c3]; exact b4
  · rw [d4, s4, c4]; exact b5
  · rw [f00, m70]; exact b6
  · rw [d5, f2]
  · rw [d6, f3]
  · rw [d7, s7, c7, f4, m74, b9]
  · rw [d11, s11, c11]; exact b10
  · rw [f01, m71]; exact b11
  · intro i hi; rw [d10, s10, c10, ff4, m4]; exact b12 i hi
  · intro i hi; rw [ff4, m4]; exact b13 i hi
  · rw [d0, f0]; exact hG.1 _ _ _ b14
  · rw [d0, f1, m1]; exact b15.mono hG
theorem ig_ok {G : GT} (hG : GOK G) {n : Nat} {V : VT} {J J2 : JT} {dd : DT} {M V2 M2 : VT} (hn : n < 512) (hI : IG G n V J dd M) (steps2 : Nat) (hst : steps2 ≤ 40) (h0 : V2 0 = V 0) (hle : ∀ c, c < 1874 → (V2 1 c).toInt ≤ (V2 11 1).toInt) (ha : V2 11 1 = V 11 1 + 1) (h3 : V2 11 3 = V 11 3) (h4 : V2 11 4 = V 11 4) (h5 : V2 11 5 = M2 7 2) (h6 : V2 11 6 = M2 7 3) (h7 : V2 11 7 = V 11 7) (h11 : V2 11 11 = Int32.ofNat steps2) (m0 : M2 0 = M 0) (m1 : M2 1 = M 1) (m70 : M2 7 0 = M 7 0) (m74 : M2 7 4 = M 7 4) (m71 : M2 7 1 = Int32.ofNat steps2) (ht : ∀ i, i < 200 → V2 10 i = M2 4 i) (hta : ∀ i, i < steps2 → ∃ a : Nat, 1 ≤ a ∧ a ≤ 5 ∧ M2 4 (5 * i) = Int32.ofNat a) : IG G (n + 1) V2 J2 dd M2 := by
  obtain ⟨⟨a1, a2, a3⟩, old, cnt, steps, b1, b2, b3, b4, b5, b6, b7, b8, b9, b10, b11, b12, b13, b14, b15⟩ := hI
  have ea := act_inc hn a1 a2
  have e11 : (V2 11 1).toInt = (V 11 1).toInt + 1 := by rw [ha, ea]
  refine ⟨⟨by omega, by omega, hle⟩, old, cnt, steps2, b1, b2, hst, by rw [h3]; exact b4, by rw [h4]; exact b5, by rw [m70]; exact b6, h5, h6, by rw [h7, m74]; exact b9, h11, m71, ht, hta, ?_, ?_⟩
  · rw [h0, m0]; exact hG.1 _ _ _ b14
  · rw [h0, m1]; exact b15.mono hG
theorem o_clear {G : GT} (hG : GOK G) : O_clear (IG G) := by
  intro n V J dd M hn hI
  obtain ⟨V1, eb, sb, c1, c3, c4, c7, c11, c10⟩ := begin_ok 0 (by omega) (ig_rest hn hI)
  obtain ⟨M1, em, sm, k1, k3, k4, k6, k70, k71, k74⟩ := mbegin_ok M
  have hle := rest_of sb
  obtain ⟨-, s0, -, s10, s5, s6, -⟩ := sb
  obtain ⟨g0, -, -, gf, gs, -⟩ := sm
  have hst := hI.2
  obtain ⟨old, cnt, steps, b1, b2, b3, b4, b5, b6, b7, b8, b9, b10, b11, b12, b13, -⟩ := hst
  refine ⟨(V1 11 11, u2 V1 11 11 0), (M1 7 1, u2 M1 7 1 0), ?_, ?_, ?_, ?_⟩
  · unfold f_X11_clear f_X8_empty; rw [eb]; rfl
  · unfold f_X12_clear; rw [em]; rfl
  · show V1 11 11 = M1 7 1
    rw [c11, k71, b10, b11]
  · show IG G (n + 1) (u2 V1 11 11 0) J dd (u2 M1 7 1 0)
    refine ig_ok hG hn hI 0 (by omega) ?_ ?_ ?_ ?_ ?_ ?_ ?_ ?_ ?_ ?_ ?_ ?_ ?_ ?_ ?_ ?_
    · rw [u2_ne (by omega)]; exact s0
    · intro c hc
      rw [u2_ne (by omega)]
      simp [u2_at]
      exact hle c hc
    · simp [u2_at]; exact c1
    · simp [u2_at]; exact c3
    · simp [u2_at]; exact c4
    · simp [u2_at]; rw [s5, gf]
    · simp [u2_at]; rw [s6, gs]
    · simp [u2_at]; exact c7
    · simp [u2_at]
    · rw [u2_ne (by omega)]; exact g0
    · rw [u2_ne (by omega)]; exact k1
    · simp [u2_at]; exact k70
    · simp [u2_at]; exact k74
    · simp [u2_at]
    · intro i hi; rw [u2_ne (by omega), u2_ne (by omega), c10, k4]; exact b12 i hi
    · intro i hi; omega
theorem put_ok {V : VT} {k s : Nat} (x : Int32) (hs : s < 40) (hk : k < 5) (h : V 11 11 = Int32.ofNat (s + 1)) : f_X8_put (Int32.ofNat k) x V = some (u2 V 10 (5 * s + k) x) := by
  have e1 : V 11 11 - 1 = Int32.ofNat s := by rw [h]; exact (Int32.ofNat_sub (s + 1) 1 (by omega)).symm
  have e2 : Int32.ofNat s * 5 + Int32.ofNat k = Int32.ofNat (5 * s + k) := by
    rw [Int32.ofNat_add, show 5 * s = s * 5 from Nat.mul_comm 5 s, Int32.ofNat_mul]; rfl
  have ec : f_X8_cellOf (V 11 11 - 1) (Int32.ofNat k) V = some (Int32.ofNat (5 * s + k)) := by
    rw [e1]
    unfold f_X8_cellOf f_X8_cellOf_j26
    rw [if_neg (nat_nneg (by omega)), if_neg (fun q => by rw [h] at q; have := (nat_le (by omega) (by omega)).mp q; omega), if_neg (nat_nneg (by omega)), if_neg (fun q => by have := (nat_le (a := 5) (by omega) (by omega)).mp q; omega), if_neg (by decide), e2]
  unfold f_X8_put
  rw [ec]
  simp only [Option.bind_some]
  rw [if_neg (nat_nneg (by omega)), if_neg (fun q => by have := (nat_le (a := 200) (by omega) (by omega)).mp q; omega), ck_nat (by omega) (by omega)]
  rfl
