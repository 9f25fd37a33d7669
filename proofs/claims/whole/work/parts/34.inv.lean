/-! the invariant, over a relation G n C S of the component's values and the reference's row (n: calls so far) -/
abbrev GT : Type := Nat → AT → AT → Prop
/-- what is asked of G -/
def GOK (G : GT) : Prop := (∀ n C S, G n C S → G (n + 1) C S) ∧ ∀ n C S S2, (∀ k, k < 1646 → S k = S2 k) → G n C S → G n C S2
/-- the kept acts: going back by the deeds meets the reference's copies -/
def Ch (G : GT) (n old cnt : Nat) (dd : DT) (K C : AT) : Prop := ∃ ch : Nat → AT, ch cnt = C ∧ ∀ i, i < cnt → (∃ (m : Nat) (f g : AT), dd ((old + i) % 60) = some (m, f, g) ∧ RS m f g (ch (i + 1)) (ch i)) ∧ G n (ch i) (fun k => K (1646 * i + k))
def IG (G : GT) : IT := fun n V _ dd M => (0 ≤ (V 11 1).toInt ∧ (V 11 1).toInt ≤ 2 * (n : Int) ∧ ∀ c, c < 1874 → (V 1 c).toInt ≤ (V 11 1).toInt) ∧ ∃ old cnt steps : Nat, old < 60 ∧ cnt ≤ 60 ∧ steps ≤ 40 ∧ V 11 3 = Int32.ofNat old ∧ V 11 4 = Int32.ofNat cnt ∧ M 7 0 = Int32.ofNat cnt ∧ V 11 5 = M 7 2 ∧ V 11 6 = M 7 3 ∧ V 11 7 = M 7 4 ∧ V 11 11 = Int32.ofNat steps ∧ M 7 1 = Int32.ofNat steps ∧ (∀ i, i < 200 → V 10 i = M 4 i) ∧ (∀ i, i < steps → ∃ a : Nat, 1 ≤ a ∧ a ≤ 5 ∧ M 4 (5 * i) = Int32.ofNat a) ∧ G n (V 0) (M 0) ∧ Ch G n old cnt dd (M 1) (V 0)
theorem Ch.mono {G : GT} (hG : GOK G) {n old cnt : Nat} {dd : DT} {K C : AT} (h : Ch G n old cnt dd K C) : Ch G (n + 1) old cnt dd K C := by
  obtain ⟨ch, h0, h1⟩ := h
  exact ⟨ch, h0, fun i hi => ⟨(h1 i hi).1, hG.1 _ _ _ (h1 i hi).2⟩⟩
theorem ig_skip {G : GT} (hG : GOK G) : O_skip (IG G) := by
  intro n V J dd M hn h
  obtain ⟨⟨a1, a2, a3⟩, old, cnt, steps, b1, b2, b3, b4, b5, b6, b7, b8, b9, b10, b11, b12, b13, b14, b15⟩ := h
  exact ⟨⟨a1, by omega, a3⟩, old, cnt, steps, b1, b2, b3, b4, b5, b6, b7, b8, b9, b10, b11, b12, b13, hG.1 _ _ _ b14, b15.mono hG⟩
theorem ig_rest {G : GT} {n : Nat} {V : VT} {J : JT} {dd : DT} {M : VT} (hn : n < 512) (h : IG G n V J dd M) : Rest V := by
  obtain ⟨⟨a1, a2, a3⟩, -⟩ := h
  exact ⟨a1, by omega, a3⟩
theorem act_inc {x : Int32} {n : Nat} (hn : n < 512) (h0 : 0 ≤ x.toInt) (h1 : x.toInt ≤ 2 * (n : Int)) : (x + 1).toInt = x.toInt + 1 := by
  have e1 : (1 : Int32).toInt = 1 := by decide
  rw [i32_add (by omega) (by omega), e1]
/-- an act that both refuse -/
theorem act_ref {G : GT} (hG : GOK G) {n : Nat} {V : VT} {J J2 : JT} {dd : DT} {M V1 M1 V2 M2 M3 : VT} {z : Nat} {C2 : AT} {f s : Int32} (hn : n < 512) (hz : z < 1874) (hI : IG G n V J dd M) (eb : f_X11_begin V = some V1) (hs : St (V 0) V1 z C2 f s V2) (hf : f ≠ 0) (em : f_X12_begin M = some M1) (hM2 : M2 7 4 = M 7 4 ∧ M2 7 0 = M 7 0 ∧ M2 7 1 = M 7 1 ∧ M2 1 = M 1 ∧ M2 4 = M 4) (hm : Mf (M 0) f s M2 M3) (r : Int32) : ∃ V3, f_X11_keep r V2 = some (-1000000000, V3, none) ∧ IG G (n + 1) V3 J2 (ddK dd none) M3 := by
  obtain ⟨V1', eb', sb, c1, c3, c4, c7, c11, c10⟩ := begin_ok z hz (ig_rest hn hI)
  rw [eb] at eb'
  cases eb'
  obtain ⟨V3, e, d0, d5, d6, d7, d1, d3, d4, d11, d10, dr⟩ := keep_no r hz hs hf
  have hle := rest_of hs
  obtain ⟨-, s0, -, s10, s5, s6, s1, s3, s4, s7, s11⟩ := hs
  obtain ⟨⟨a1, a2, a3⟩, old, cnt, steps, b1, b2, b3, b4, b5, b6, b7, b8, b9, b10, b11, b12, b13, b14, b15⟩ := hI
  obtain ⟨m74, m70, m71, m1, m4⟩ := hM2
  obtain ⟨f0, f2, f3, f4, f00, f01, f1, -, ff4, -⟩ := hm
  have ea := act_inc hn a1 a2
  have e11 : (V2 11 1).toInt = (V 11 1).toInt + 1 := by rw [s1, c1, ea]
  have e1 : (1 : Int32).toInt = 1 := by decide
  have e12 : (V3 11 1).toInt = (V 11 1).toInt + 2 := by
    rw [d1, i32_add (by omega) (by omega), e11, e1]; omega
  refine ⟨V3, e, ⟨by omega, by omega, fun c hc => ?_⟩, old, cnt, steps, b1, b2, b3, ?_, ?_, ?_, ?_, ?_, ?_, ?_, ?_, ?_, ?_, ?_, ?_⟩
  · have := hle c hc
    rw [dr]; omega
  · rw [d3, s3, c3]; exact b4
  · rw [d4, s4, c4]; exact b5
  · rw [f00, m70]; exact b6
  · rw [d5, f2]
  · rw [d6, f3]
  · rw [d7, s7, c7, f4, m74, b9]
  · rw [d11, s11, c11]; exact b10
  · rw [f01, m71]; exact b11
  · intro i hi; rw [d10, s10, c10, ff4, m4]; exact b12 i hi
  · intro i hi; rw [ff4, m4]; exact b13 i hi
  · rw [d0, f0]; exact hG.1 _ _ _ b14
  · rw [d0, f1, m1]; exact b15.mono hG
/-- an act that both do -/
theorem act_done {G : GT} (hG : GOK G) {n : Nat} {V : VT} {J J2 : JT} {dd : DT} {M V1 M1 V2 M2 : VT} {z : Nat} {C2 S2 : AT} {s : Int32} (hn : n < 512) (hz : z < 1874) (hI : IG G n V J dd M) (eb : f_X11_begin V = some V1) (hs : St (V 0) V1 z C2 0 s V2) (em : f_X12_begin M = some M1) (hm : Ms (M 0) M1 S2 0 s M2) (hG2 : G (n + 1) C2 S2) (r : Int32) : ∃ V3 ko M3, f_X11_keep r V2 = some (r, V3, ko) ∧ f_X12_keep r M2 = some (r, M3) ∧ IG G (n + 1) V3 J2 (ddK dd ko) M3 := by
  obtain ⟨V1', eb', sb, c1, c3, c4, c7, c11, c10⟩ := begin_ok z hz (ig_rest hn hI)
  rw [eb] at eb'
  cases eb'
  obtain ⟨M1', em', -, k1, k3, k4, k6, k70, k71, k74⟩ := mbegin_ok M
  rw [em] at em'
  cases em'
  obtain ⟨⟨a1, a2, a3⟩, old, cnt, steps, b1, b2, b3, b4, b5, b6, b7, b8, b9, b10, b11, b12, b13, b14, b15⟩ := hI
  have hle := rest_of hs
  obtain ⟨V3, m, f, g, e, hrs, d0, d5, d6, d7, d1, d3, d4, d11, d10, dr⟩ := keep_yes r hz hs b1 b2 (by rw [hs.2.2.2.2.2.2.2.1, c3]; exact b4) (by rw [hs.2.2.2.2.2.2.2.2.1, c4]; exact b5)
  obtain ⟨M3, e2, f0, f2, f3, f4, f70, f71, -, ff4, -, fk⟩ := mkeep_ok r hm b2 (by rw [hm.2.2.2.2.2.2.2.2.2.1, k70]; exact b6)
  obtain ⟨-, s0, -, s10, s5, s6, s1, s3, s4, s7, s11⟩ := hs
  obtain ⟨g0, g2, gt, gf, gs, g1, g3, g4, g6, g70, g71, g74⟩ := hm
  have ea := act_inc hn a1 a2
  have e11 : (V3 11 1).toInt = (V 11 1).toInt + 1 := by rw [d1, s1, c1, ea]
  refine ⟨V3, _, M3, e, e2, ⟨by omega, by omega, fun c hc => ?_⟩, if cnt < 60 then old else (old + 1) % 60, if cnt < 60 then cnt + 1 else cnt, steps, ?_, ?_, b3, d3, d4, f70, ?_, ?_, ?_, ?_, ?_, ?_, ?_, ?_, ?_⟩
  · have := hle c hc
    rw [dr]
    rw [s1, c1, ea] at this
    omega
  · split
    · exact b1
    · omega
  · split <;> omega
  · rw [d5, f2]
  · rw [d6, f3]
  · rw [d7, s7, c7, f4, g74, k74, b9]
  · rw [d11, s11, c11]; exact b10
  · rw [f71, g71, k71]; exact b11
  · intro i hi; rw [d10, s10, c10, ff4, g4, k4]; exact b12 i hi
  · intro i hi; rw [ff4, g4, k4]; exact b13 i hi
  · rw [d0, f0]; exact hG2
  · obtain ⟨ch, h0, h1⟩ := b15
    rw [d0]
    show Ch G (n + 1) _ _ (va_up dd ((old + cnt) % 60) (some (m, f, g))) (M3 1) C2
    by_cases hlt : cnt < 60
    · rw [if_pos hlt, if_pos hlt]
      rw [if_pos hlt] at fk
      refine ⟨fun i => if i ≤ cnt then ch i else C2, if_neg (by omega), fun i hi => ?_⟩
      by_cases hic : i < cnt
      · obtain ⟨⟨m1, f1, g1', q1, q2⟩, q3⟩ := h1 i hic
        refine ⟨⟨m1, f1, g1', ?_, ?_⟩, ?_⟩
        · rw [va_up_ne _ _ (by omega)]; exact q1
        · simp only [show i ≤ cnt by omega, show i + 1 ≤ cnt by omega, if_true]; exact q2
        · simp only [show i ≤ cnt by omega, if_true]
          refine hG.2 _ _ _ _ (fun k hk => ?_) (hG.1 _ _ _ q3)
          show M 1 (1646 * i + k) = M3 1 (1646 * i + k)
          rw [fk.1 i k hic hk, g1, k1]
      · have : i = cnt := by omega
        subst this
        refine ⟨⟨m, f, g, va_up_self _ _ _, ?_⟩, ?_⟩
        · simp only [Nat.le_refl, show ¬ i + 1 ≤ i by omega, if_true, if_false]
          rw [h0]; exact hrs
        · simp only [Nat.le_refl, if_true]
          rw [h0]
          refine hG.2 _ _ _ _ (fun k hk => ?_) (hG.1 _ _ _ b14)
          exact (fk.2 k hk).symm
    · have hcc : cnt = 60 := by omega
      subst hcc
      rw [if_neg hlt, if_neg hlt]
      rw [if_neg hlt] at fk
      refine ⟨fun i => if i < 60 then ch (i + 1) else C2, by simp, fun i hi => ?_⟩
      by_cases hic : i < 59
      · obtain ⟨⟨m1, f1, g1', q1, q2⟩, q3⟩ := h1 (i + 1) (by omega)
        refine ⟨⟨m1, f1, g1', ?_, ?_⟩, ?_⟩
        · rw [va_up_ne _ _ (by omega)]
          rw [show ((old + 1) % 60 + i) % 60 = (old + (i + 1)) % 60 by omega]; exact q1
        · simp only [show i < 60 by omega, show i + 1 < 60 by omega, if_true]; exact q2
        · simp only [show i < 60 by omega, if_true]
          refine hG.2 _ _ _ _ (fun k hk => ?_) (hG.1 _ _ _ q3)
          show M 1 (1646 * (i + 1) + k) = M3 1 (1646 * i + k)
          rw [fk.1 i k hic hk, g1, k1]
      · have : i = 59 := by omega
        subst this
        refine ⟨⟨m, f, g, ?_, ?_⟩, ?_⟩
        · rw [show ((old + 1) % 60 + 59) % 60 = (old + 60) % 60 by omega]
          exact va_up_self _ _ _
        · simp only [show (59 : Nat) < 60 by omega, show ¬ 59 + 1 < 60 by omega, if_true, if_false]
          rw [h0]; exact hrs
        · simp only [show (59 : Nat) < 60 by omega, if_true]
          rw [h0]
          refine hG.2 _ _ _ _ (fun k hk => ?_) (hG.1 _ _ _ b14)
          exact (fk.2 k hk).symm
