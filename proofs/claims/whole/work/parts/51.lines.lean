/-! lines: readers, weakest part; strength, cut, wear -/
theorem first_of (P : Nat → Prop) : ∀ N : Nat, (∀ i, i < N → ¬ P i) ∨ ∃ k, k < N ∧ P k ∧ ∀ i, i < k → ¬ P i := by
  intro N
  induction N with
  | zero => exact Or.inl (fun i hi => by omega)
  | succ N ih =>
    rcases ih with h | ⟨k, hk, h1, h2⟩
    · by_cases q : P N
      · exact Or.inr ⟨N, by omega, q, h⟩
      · refine Or.inl (fun i hi => ?_)
        by_cases e : i = N
        · rw [e]; exact q
        · exact h i (by omega)
    · exact Or.inr ⟨k, by omega, h1, h2⟩
theorem lp_inv {S Y : Type} {f : S → Option (S ⊕ Y)} (I : Nat → S → Prop) {Q : Y → Prop} : ∀ (k a n : Nat) (s : S), I a s → (∀ i s, a ≤ i → i < a + k → I i s → ∃ s2, f s = some (.inl s2) ∧ I (i + 1) s2) → (∀ s, I (a + k) s → ∃ y, f s = some (.inr y) ∧ Q y) → k < n → ∃ y, lp f n s = some y ∧ Q y := by
  intro k
  induction k with
  | zero =>
    intro a n s hI _ he hn
    obtain ⟨n, rfl⟩ : ∃ q, n = q + 1 := ⟨n - 1, by omega⟩
    obtain ⟨y, h1, h2⟩ := he s hI
    refine ⟨y, ?_, h2⟩
    show (f s).bind _ = some y
    rw [h1]; rfl
  | succ k ih =>
    intro a n s hI hs he hn
    obtain ⟨n, rfl⟩ : ∃ q, n = q + 1 := ⟨n - 1, by omega⟩
    obtain ⟨s2, h1, h2⟩ := hs a s (by omega) (by omega) hI
    obtain ⟨y, h3, h4⟩ := ih (a + 1) n s2 h2 (fun i s b1 b2 b3 => hs i s (by omega) (by omega) b3) (fun s b => he s (by rw [show a + (k + 1) = a + 1 + k by omega]; exact b)) (by omega)
    refine ⟨y, ?_, h4⟩
    show (f s).bind _ = some y
    rw [h1]; exact h3
theorem lget {n : Nat} {V : VT} {S : AT} {l c : Nat} (h : GG n (V 0) S) (hl : l < 40) (hc : c < 12) : f_X7_get 240 40 12 (Int32.ofNat l) (Int32.ofNat c) V = some (S (252 + 12 * l + c)) := by
  rw [gline hl hc, show 240 + (12 * l + c) = 240 + 12 * l + c by omega, h.1.rl l c hl hc]
theorem m_lineIs {M : VT} {l c : Nat} (hl : l < 40) (hc : c < 12) : f_X12_lineIs (Int32.ofNat l) (Int32.ofNat c) M = some (M 0 (252 + 12 * l + c)) := by
  unfold f_X12_lineIs
  rw [show (252 : Int32) + 12 * Int32.ofNat l + Int32.ofNat c = Int32.ofNat (252 + 12 * l + c) by rw [Int32.ofNat_add, Int32.ofNat_add, Int32.ofNat_mul]; rfl, ck_nat (by omega) (by omega)]; rfl
theorem c_isLine {n : Nat} {V : VT} {S : AT} (v : Int32) (h : GG n (V 0) S) : f_X3_isLine v V = some (if v < 0 ∨ S 1640 ≤ v then 0 else 1) := by
  have e : f_X7_get 1868 1 6 0 0 V = some (S 1640) := nget (i := 0) h (by omega)
  unfold f_X3_isLine f_X3_isLine_j21
  by_cases h1 : v < 0
  · rw [if_pos h1, if_pos (Or.inl h1)]
  · rw [if_neg h1, e]; simp only [Option.bind_some]
    by_cases h2 : S 1640 ≤ v
    · rw [if_pos h2, if_pos (Or.inr h2)]
    · rw [if_neg h2, if_neg (fun q => q.elim h1 h2)]
theorem m_isLineTold {M : VT} (v : Int32) : f_X12_isLineTold v M = some (if v < 0 ∨ M 0 1640 ≤ v then 0 else 1) := by
  have e : ckA 1646 (1640 : Int32) = some 1640 := ck_lit (k := 1640) rfl (by omega) (by omega)
  unfold f_X12_isLineTold f_X12_isLineTold_j20
  by_cases h1 : v < 0
  · rw [if_pos h1, if_pos (Or.inl h1)]
  · rw [if_neg h1, e]; simp only [Option.bind_some]
    by_cases h2 : M 0 1640 ≤ v
    · rw [if_pos h2, if_pos (Or.inr h2)]
    · rw [if_neg h2, if_neg (fun q => q.elim h1 h2)]
theorem line_of {n : Nat} {C S : AT} {v : Int32} (h : GG n C S) (hv : ¬ (v < 0 ∨ S 1640 ≤ v)) : ∃ l : Nat, l < 40 ∧ v = Int32.ofNat l ∧ Int32.ofNat l < S 1640 := by
  obtain ⟨m, m1, m2, m3⟩ := h.2.wn0
  have q1 : ¬ v < 0 := fun q => hv (Or.inl q)
  have q2 : ¬ S 1640 ≤ v := fun q => hv (Or.inr q)
  rcases rng m (by omega) v with ⟨c, hc, e⟩ | hh
  · refine ⟨c, by omega, e, ?_⟩
    rw [← e]; exact nle_lt q2
  · rw [← m3] at hh; exact absurd hh (fun q => q.elim q1 q2)
theorem c_isLineThere {n : Nat} {V : VT} {S : AT} {l : Nat} (h : GG n (V 0) S) (hl : l < 40) : f_X3_isLineThere (Int32.ofNat l) V = some (if S (252 + 12 * l + 3) = 1 then 1 else 0) := by
  have e3 : f_X7_get 240 40 12 (Int32.ofNat l) 3 V = some (S (252 + 12 * l + 3)) := lget (c := 3) h hl (by omega)
  simp only [f_X3_isLineThere_j25, f_X3_isLineThere, c_isLine _ h, e3, Option.bind_some, if_true, if_false, ite_self, i10, i01, ite01, ite10, true_or, or_true, false_or, or_false, leN, ite_not, not_true_eq_false, not_false_eq_true]
  by_cases q : S 1640 ≤ Int32.ofNat l
  · have hz := h.2.wl0 l hl q
    rw [hz]
    have q2 : ¬ Int32.ofNat l < S 1640 := fun p => lt_nle p q
    simp only [q2, Option.bind_some, if_true, if_false, ite_self, i10, i01, ite01, ite10, true_or, or_true, false_or, or_false, leN, ite_not, not_true_eq_false, not_false_eq_true]
  · have q2 : Int32.ofNat l < S 1640 := nle_lt q
    have q3 : ¬ Int32.ofNat l < 0 := nat_nneg (by omega)
    by_cases q4 : S (252 + 12 * l + 3) = 1
    · simp only [q2, q3, q4, Option.bind_some, if_true, if_false, ite_self, i10, i01, ite01, ite10, true_or, or_true, false_or, or_false, leN, ite_not, not_true_eq_false, not_false_eq_true]
    · simp only [q2, q3, q4, Option.bind_some, if_true, if_false, ite_self, i10, i01, ite01, ite10, true_or, or_true, false_or, or_false, leN, ite_not, not_true_eq_false, not_false_eq_true]
theorem m_isLineThere {M : VT} {l : Nat} (hl : l < 40) : f_X12_isLineThere (Int32.ofNat l) M = some (if M 0 (252 + 12 * l + 3) = 1 then 1 else 0) := by
  have e3 : f_X12_lineIs (Int32.ofNat l) 3 M = some (M 0 (252 + 12 * l + 3)) := m_lineIs (c := 3) hl (by omega)
  unfold f_X12_isLineThere
  rw [e3]; simp only [Option.bind_some]
  by_cases q : M 0 (252 + 12 * l + 3) = 1
  · rw [if_pos q, if_pos q]
  · rw [if_neg q, if_neg q]
/-- the weakest of the parts 0 to k of a line -/
def wkf (S : AT) (l : Nat) : Nat → Int32
  | 0 => S (252 + 12 * l + 4)
  | k + 1 => if S (252 + 12 * l + 4 + (k + 1)) < wkf S l k then S (252 + 12 * l + 4 + (k + 1)) else wkf S l k
theorem wkf_cg {S S2 : AT} {l : Nat} : ∀ k, (∀ i, i ≤ k → S (252 + 12 * l + 4 + i) = S2 (252 + 12 * l + 4 + i)) → wkf S l k = wkf S2 l k := by
  intro k
  induction k with
  | zero => intro h; exact h 0 (by omega)
  | succ k ih =>
    intro h
    unfold wkf
    rw [ih (fun i hi => h i (by omega)), h (k + 1) (by omega)]
theorem c_weakest {V : VT} {S : AT} {l P : Nat} (hl : l < 40) (hP : 1 ≤ P) (hP2 : P ≤ 8) (e2 : V 0 (240 + 12 * l + 2) = Int32.ofNat P) (es : ∀ i, i < 8 → V 0 (240 + 12 * l + 4 + i) = S (252 + 12 * l + 4 + i)) (hr : ∀ i, i < P → RG (S (252 + 12 * l + 4 + i)) 0 30000) : f_X3_weakestPart (Int32.ofNat l) V = some (wkf S l (P - 1)) := by
  have g2 : f_X7_get 240 40 12 (Int32.ofNat l) 2 V = some (Int32.ofNat P) := by
    rw [show f_X7_get 240 40 12 (Int32.ofNat l) 2 V = some (V 0 (240 + (12 * l + 2))) from gline (c := 2) hl (by omega), show 240 + (12 * l + 2) = 240 + 12 * l + 2 by omega, e2]
  have gi : ∀ i, i < 8 → f_X7_get 240 40 12 (Int32.ofNat l) (4 + Int32.ofNat i) V = some (S (252 + 12 * l + 4 + i)) := by
    intro i hi
    rw [show (4 : Int32) + Int32.ofNat i = Int32.ofNat (4 + i) from (Int32.ofNat_add 4 i).symm, gline hl (by omega), show 240 + (12 * l + (4 + i)) = 240 + 12 * l + 4 + i by omega, es i hi]
  have key := lp_iter (f := f_X3_weakestPart_B17 (Int32.ofNat l) (Int32.ofNat P) V) (y := wkf S l (P - 1)) (fun i => if i = 0 then ((30000 : Int32), (0 : Int32)) else (wkf S l (i - 1), Int32.ofNat i)) P 0 fuel (fun i _ hi => ?_) ?_ (fuel_big (by omega))
  · unfold f_X3_weakestPart
    simp only [Option.bind_some]
    rw [g2]; simp only [Option.bind_some]
    exact key
  · have hi : i < P := by omega
    have n1 : ¬ Int32.ofNat P ≤ Int32.ofNat i := fun q => by have := (nat_le (by omega) (by omega)).mp q; omega
    by_cases h0 : i = 0
    · subst h0
      have ge : f_X7_get 240 40 12 (Int32.ofNat l) (4 + 0) V = some (S (252 + 12 * l + 4 + 0)) := gi 0 (by omega)
      have n2 : ¬ Int32.ofNat P ≤ 0 := n1
      simp only [if_true, show ¬ (0 + 1 = 0) by omega, if_false, f_X3_weakestPart_B17, n2, ge, Option.bind_some]
      obtain ⟨x, x1, x2, x3⟩ := hr 0 hi
      have ew : (if S (252 + 12 * l + 4 + 0) < 30000 then S (252 + 12 * l + 4 + 0) else 30000) = wkf S l 0 := by
        show _ = S (252 + 12 * l + 4)
        rw [show 252 + 12 * l + 4 + 0 = 252 + 12 * l + 4 from rfl] at x3 ⊢
        rw [x3]
        by_cases q : x = 30000
        · subst q; rfl
        · rw [if_pos (show Int32.ofNat x < (30000 : Int32) from (nat_lt (b := 30000) (by omega) (by omega)).mpr (by omega))]
      rw [ew]; rfl
    · obtain ⟨j, rfl⟩ : ∃ j, i = j + 1 := ⟨i - 1, by omega⟩
      simp only [h0, if_false, show ¬ (j + 1 + 1 = 0) by omega, f_X3_weakestPart_B17, n1, gi (j + 1) (by omega), Option.bind_some, nat_succ, Nat.add_sub_cancel]
      rfl
  · rw [Nat.zero_add]
    have n1 : Int32.ofNat P ≤ Int32.ofNat P := Int32.le_refl _
    simp only [show ¬ P = 0 by omega, if_false, f_X3_weakestPart_B17, n1, if_true, Option.bind_some]
theorem m_weakest {M : VT} {l P : Nat} (hl : l < 40) (hP : 1 ≤ P) (hP2 : P ≤ 8) (e2 : M 0 (252 + 12 * l + 2) = Int32.ofNat P) : f_X12_weakest (Int32.ofNat l) M = some (wkf (M 0) l (P - 1)) := by
  have g2 : f_X12_lineIs (Int32.ofNat l) 2 M = some (Int32.ofNat P) := by rw [← e2]; exact m_lineIs (c := 2) hl (by omega)
  have g4 : f_X12_lineIs (Int32.ofNat l) 4 M = some (M 0 (252 + 12 * l + 4)) := m_lineIs (c := 4) hl (by omega)
  have gi : ∀ i, i < 8 → f_X12_lineIs (Int32.ofNat l) (4 + Int32.ofNat i) M = some (M 0 (252 + 12 * l + 4 + i)) := by
    intro i hi
    rw [show (4 : Int32) + Int32.ofNat i = Int32.ofNat (4 + i) from (Int32.ofNat_add 4 i).symm, m_lineIs hl (by omega), show 252 + 12 * l + (4 + i) = 252 + 12 * l + 4 + i by omega]
  have key := lp_iter (f := f_X12_weakest_B9 (Int32.ofNat l) M) (y := wkf (M 0) l (P - 1)) (fun i => (wkf (M 0) l i, Int32.ofNat (i + 1))) (P - 1) 0 fuel (fun i _ hi => ?_) ?_ (fuel_big (by omega))
  · unfold f_X12_weakest
    rw [g4]; simp only [Option.bind_some]
    exact key
  · have n1 : ¬ Int32.ofNat P ≤ Int32.ofNat (i + 1) := fun q => by have := (nat_le (by omega) (by omega)).mp q; omega
    simp only [f_X12_weakest_B9, f_X12_weakest_j40, g2, n1, if_false, gi (i + 1) (by omega), Option.bind_some, nat_succ]
    by_cases q : wkf (M 0) l i ≤ M 0 (252 + 12 * l + 4 + (i + 1))
    · rw [if_pos q]
      have ew : wkf (M 0) l (i + 1) = wkf (M 0) l i := by
        show (if _ then _ else _) = _
        rw [if_neg (fun p => lt_nle p q)]
      rw [ew]
    · rw [if_neg q]
      have ew : wkf (M 0) l (i + 1) = M 0 (252 + 12 * l + 4 + (i + 1)) := by
        show (if _ then _ else _) = _
        rw [if_pos (nle_lt q)]
      rw [ew]
  · have n1 : Int32.ofNat P ≤ Int32.ofNat (P - 1 + 1) := by rw [show P - 1 + 1 = P by omega]; exact Int32.le_refl _
    rw [Nat.zero_add]
    simp only [f_X12_weakest_B9, g2, n1, if_true, Option.bind_some]
theorem line_nums {n : Nat} {C S : AT} {l : Nat} (h : GG n C S) (hl : l < 40) (ht : Int32.ofNat l < S 1640) : ∃ P : Nat, 1 ≤ P ∧ P ≤ 8 ∧ S (252 + 12 * l + 2) = Int32.ofNat P ∧ ∀ i, i < P → RG (S (252 + 12 * l + 4 + i)) 0 30000 := by
  obtain ⟨P, p1, p2, p3⟩ := h.2.wlc l hl ht
  exact ⟨P, p1, p2, p3, fun i hi => h.2.wl2 l i hl (by omega) ht (by rw [p3]; exact (nat_lt (by omega) (by omega)).mpr hi)⟩
theorem c_weakest_g {n : Nat} {V : VT} {S : AT} {l P : Nat} (h : GG n (V 0) S) (hl : l < 40) (hP : 1 ≤ P) (hP2 : P ≤ 8) (e2 : S (252 + 12 * l + 2) = Int32.ofNat P) (hr : ∀ i, i < P → RG (S (252 + 12 * l + 4 + i)) 0 30000) : f_X3_weakestPart (Int32.ofNat l) V = some (wkf S l (P - 1)) :=
  c_weakest hl hP hP2 (by rw [h.1.rl2 l hl]; exact e2) (fun i hi => h.1.rls l i hl hi) hr
theorem o_strength : O_strength (IG GG) := by
  intro n V J dd M v1 hn hI
  have hI2 := ig_skip gg_ok n V J dd M hn hI
  have hgg := ig_gg hI
  by_cases hv : v1 < 0 ∨ (M 0) 1640 ≤ v1
  · refine ⟨-1000000000, -1000000000, ?_, ?_, rfl, hI2⟩
    · have e := c_isLine v1 hgg
      rw [if_pos hv] at e
      simp only [f_X11_strength, f_X3_isLineThere_j25, f_X3_isLineThere, e, Option.bind_some, if_true, if_false, ite_self, i10, i01, ite01, ite10, true_or, or_true, false_or, or_false, leN, ite_not, not_true_eq_false, not_false_eq_true]
    · have e := m_isLineTold (M := M) v1
      rw [if_pos hv] at e
      simp only [f_X12_strength_j24, f_X12_strength, e, Option.bind_some, if_true, if_false, ite_self, i10, i01, ite01, ite10, true_or, or_true, false_or, or_false, leN, ite_not, not_true_eq_false, not_false_eq_true]
  · have em := m_isLineTold (M := M) v1
    rw [if_neg hv] at em
    obtain ⟨l, hl, rfl, ht⟩ := line_of hgg hv
    have ec := c_isLineThere hgg hl
    have e3 := m_isLineThere (M := M) hl
    by_cases q : M 0 (252 + 12 * l + 3) = 1
    · obtain ⟨P, p1, p2, p3, p4⟩ := line_nums hgg hl ht
      have ew := c_weakest_g hgg hl p1 p2 p3 p4
      have ew2 := m_weakest (M := M) hl p1 p2 p3
      refine ⟨wkf (M 0) l (P - 1), wkf (M 0) l (P - 1), ?_, ?_, rfl, hI2⟩
      · simp only [f_X11_strength, ec, q, ew, Option.bind_some, if_true, if_false, ite_self, i10, i01, ite01, ite10, true_or, or_true, false_or, or_false, leN, ite_not, not_true_eq_false, not_false_eq_true]
      · simp only [f_X12_strength_j24, f_X12_strength, em, e3, q, ew2, Option.bind_some, if_true, if_false, ite_self, i10, i01, ite01, ite10, true_or, or_true, false_or, or_false, leN, ite_not, not_true_eq_false, not_false_eq_true]
    · refine ⟨-1000000000, -1000000000, ?_, ?_, rfl, hI2⟩
      · simp only [f_X11_strength, ec, q, Option.bind_some, if_true, if_false, ite_self, i10, i01, ite01, ite10, true_or, or_true, false_or, or_false, leN, ite_not, not_true_eq_false, not_false_eq_true]
      · simp only [f_X12_strength_j24, f_X12_strength, em, e3, q, Option.bind_some, if_true, if_false, ite_self, i10, i01, ite01, ite10, true_or, or_true, false_or, or_false, leN, ite_not, not_true_eq_false, not_false_eq_true]
/-! a line is refused -/
theorem c_refLine_yes {n : Nat} {V : VT} {S : AT} {l : Nat} (h5 : V 11 5 = 0) (hg : GG n (V 0) S) (hl : l < 40) (ht : Int32.ofNat l < S 1640) (h1 : S (252 + 12 * l + 3) = 1) : f_X9_refusesLine (Int32.ofNat l) V = some (0, V) := by
  have q3 : ¬ Int32.ofNat l < 0 := nat_nneg (by omega)
  unfold f_X9_refusesLine
  rw [c_isLine _ hg, if_neg (fun q => q.elim q3 (lt_nle ht))]; simp only [Option.bind_some]
  rw [if_neg (by decide), c_isLineThere hg hl, if_pos h1]; simp only [Option.bind_some]
  rw [if_neg (by decide)]
  unfold f_X9_refusesLine_j31 f_X9_isRefusal
  rw [if_pos h5]; rfl
theorem c_refLine_j {O : AT} {B : VT} {z : Nat} {C : AT} {f s : Int32} {V : VT} (h : St O B z C f s V) (hf : f ≠ 0) : f_X9_refusesLine_j31 V = some (1, V) := by
  unfold f_X9_refusesLine_j31 f_X9_isRefusal
  rw [if_neg (by rw [h.2.2.2.2.1]; exact hf)]
  rfl
theorem c_line_ref {O : AT} {B V V2 : VT} {C S : AT} {n : Nat} {f : Int32} {v : Int32} (hf : f ≠ 0) (hg : GG n (V 0) S) (h : (v < 0 ∨ S 1640 ≤ v) ∧ f = 2 ∨ ∃ l : Nat, v = Int32.ofNat l ∧ l < 40 ∧ Int32.ofNat l < S 1640 ∧ ¬ S (252 + 12 * l + 3) = 1 ∧ f = 1) (er : f_X9_refuse f V = some (-1000000000, V2)) (sr : St O B 1360 C f 0 V2) : f_X9_refusesLine v V = some (1, V2) := by
  rcases h with ⟨hv, rfl⟩ | ⟨l, rfl, hl, ht, h0, rfl⟩
  · unfold f_X9_refusesLine
    rw [c_isLine _ hg, if_pos hv]; simp only [Option.bind_some, if_true]
    rw [er]; simp only [Option.bind_some]
    exact c_refLine_j sr hf
  · have q3 : ¬ Int32.ofNat l < 0 := nat_nneg (by omega)
    unfold f_X9_refusesLine
    rw [c_isLine _ hg, if_neg (fun q => q.elim q3 (lt_nle ht))]; simp only [Option.bind_some]
    rw [if_neg (by decide), c_isLineThere hg hl, if_neg h0]; simp only [Option.bind_some, if_true]
    rw [er]; simp only [Option.bind_some]
    exact c_refLine_j sr hf
theorem gg_cut {n : Nat} {C C2 S S2 : AT} (h0 : GG n C S) (uC : ∀ j, (∀ l : Nat, l < 40 → j ≠ 240 + 12 * l + 3) → C j = C2 j) (uS : ∀ j, (∀ l : Nat, l < 40 → j ≠ 252 + 12 * l + 3) → S j = S2 j) (a_rl3 : R_rl3 C2 S2) (a_wl0 : W_wl0 (n + 1) S2) (a_wld : W_wld (n + 1) S2) (a_wl4 : W_wl4 (n + 1) S2) : GG (n + 1) C2 S2 := by
  have h := gg_ok.1 _ _ _ h0
  exact ⟨⟨R_rb0_rg (fun b _ => uC (4 * b) (fun _ _ => by omega)) (fun b _ => uS (21 * b + 1) (fun _ _ => by omega)) h.1.rb0, R_rb1_rg (fun b _ => uC (4 * b + 1) (fun _ _ => by omega)) (fun b _ => uS (21 * b + 2) (fun _ _ => by omega)) h.1.rb1, R_rb2_rg (fun b _ => uC (4 * b + 2) (fun _ _ => by omega)) (fun b _ => uS (21 * b + 3) (fun _ _ => by omega)) h.1.rb2, R_rb3_rg (fun b _ => uC (4 * b + 3) (fun _ _ => by omega)) (fun b _ => uS (21 * b + 4) (fun _ _ => by omega)) h.1.rb3, R_rc_rg (fun b p _ _ => uC (48 + 16 * b + p) (fun _ _ => by omega)) (fun b p _ _ => uS (21 * b + 5 + p) (fun _ _ => by omega)) h.1.rc, R_rl0_rg (fun l _ => uC (240 + 12 * l) (fun _ _ => by omega)) (fun l _ => uS (252 + 12 * l) (fun _ _ => by omega)) h.1.rl0, R_rl1_rg (fun l _ => uC (240 + 12 * l + 1) (fun _ _ => by omega)) (fun l _ => uS (252 + 12 * l + 1) (fun _ _ => by omega)) h.1.rl1, R_rl2_rg (fun l _ => uC (240 + 12 * l + 2) (fun _ _ => by omega)) (fun l _ => uS (252 + 12 * l + 2) (fun _ _ => by omega)) h.1.rl2, a_rl3, R_rls_rg (fun l i _ _ => uC (240 + 12 * l + 4 + i) (fun _ _ => by omega)) (fun l i _ _ => uS (252 + 12 * l + 4 + i) (fun _ _ => by omega)) h.1.rls, R_rt0_rg (fun t _ => uC (720 + 8 * t) (fun _ _ => by omega)) (fun t _ => uS (732 + 5 * t) (fun _ _ => by omega)) h.1.rt0, R_rt1_rg (fun t _ => uC (720 + 8 * t + 1) (fun _ _ => by omega)) (fun t _ => uS (732 + 5 * t + 1) (fun _ _ => by omega)) h.1.rt1, R_rt2_rg (fun t _ => uC (720 + 8 * t + 2) (fun _ _ => by omega)) (fun t _ => uS (732 + 5 * t + 2) (fun _ _ => by omega)) h.1.rt2, R_rt3_rg (fun t _ => uC (720 + 8 * t + 3) (fun _ _ => by omega)) (fun t _ => uS (732 + 5 * t + 3) (fun _ _ => by omega)) h.1.rt3, R_rh_rg (fun t _ => uC (720 + 8 * t + 5) (fun _ _ => by omega)) (fun t _ => uS (732 + 5 * t + 4) (fun _ _ => by omega)) h.1.rh, R_rf_rg (fun k _ => uC (1360 + k) (fun _ _ => by omega)) (fun k _ => uS (1432 + k) (fun _ _ => by omega)) h.1.rf, R_rq0_rg (fun c _ => uC (1368 + 5 * c) (fun _ _ => by omega)) (fun c _ => uS (1132 + 5 * c) (fun _ _ => by omega)) h.1.rq0, R_rq1_rg (fun c _ => uC (1368 + 5 * c + 1) (fun _ _ => by omega)) (fun c _ => uS (1132 + 5 * c + 1) (fun _ _ => by omega)) h.1.rq1, R_rq2_rg (fun c _ => uC (1368 + 5 * c + 2) (fun _ _ => by omega)) (fun c _ => uS (1132 + 5 * c + 2) (fun _ _ => by omega)) h.1.rq2, R_rq3_rg (fun c _ => uC (1368 + 5 * c + 3) (fun _ _ => by omega)) (fun c _ => uS (1132 + 5 * c + 3) (fun _ _ => by omega)) h.1.rq3, R_rq4_rg (fun c _ => uC (1368 + 5 * c + 4) (fun _ _ => by omega)) (fun c _ => uS (1132 + 5 * c + 4) (fun _ _ => by omega)) h.1.rq4, R_rn0_rg (uC (1868) (fun _ _ => by omega)) (uS (1640) (fun _ _ => by omega)) h.1.rn0, R_rn1_rg (uC (1869) (fun _ _ => by omega)) (uS (1641) (fun _ _ => by omega)) h.1.rn1, R_rn2_rg (uC (1870) (fun _ _ => by omega)) (uS (1642) (fun _ _ => by omega)) h.1.rn2, R_rn3_rg (uC (1871) (fun _ _ => by omega)) (uS (1643) (fun _ _ => by omega)) h.1.rn3, R_rn4_rg (uC (1872) (fun _ _ => by omega)) (uS (1644) (fun _ _ => by omega)) h.1.rn4, R_rn5_rg (uC (1873) (fun _ _ => by omega)) (uS (1645) (fun _ _ => by omega)) h.1.rn5, R_rg_rg (uS (1641) (fun _ _ => by omega)) (fun t _ => uS (732 + 5 * t) (fun _ _ => by omega)) (fun t _ => uS (732 + 5 * t + 3) (fun _ _ => by omega)) (fun t _ => uC (720 + 8 * t + 4) (fun _ _ => by omega)) h.1.rg, R_rp_rg (uS (1641) (fun _ _ => by omega)) (fun t _ => uS (732 + 5 * t) (fun _ _ => by omega)) (fun b p _ _ => uS (21 * b + 5 + p) (fun _ _ => by omega)) (fun t _ => uC (720 + 8 * t + 6) (fun _ _ => by omega)) (fun t _ => uC (720 + 8 * t + 7) (fun _ _ => by omega)) h.1.rp, R_rs_rg (uS (1643) (fun _ _ => by omega)) (fun k _ => uS (1440 + k) (fun _ _ => by omega)) (fun k _ => uC (1668 + k) (fun _ _ => by omega)) h.1.rs⟩, ⟨W_wn0_rg (uS (1640) (fun _ _ => by omega)) h.2.wn0, W_wn1_rg (uS (1641) (fun _ _ => by omega)) h.2.wn1, W_wn2_rg (uS (1642) (fun _ _ => by omega)) h.2.wn2, W_wn3_rg (uS (1643) (fun _ _ => by omega)) h.2.wn3, W_wn4_rg (uS (1644) (fun _ _ => by omega)) h.2.wn4, W_wn5_rg (uS (1645) (fun _ _ => by omega)) h.2.wn5, W_wb0_rg (fun b _ => uS (21 * b) (fun _ _ => by omega)) h.2.wb0, W_wbp_rg (fun b _ => uS (21 * b) (fun _ _ => by omega)) (fun b _ => uS (21 * b + 1) (fun _ _ => by omega)) h.2.wbp, W_wbg_rg (fun b _ => uS (21 * b) (fun _ _ => by omega)) (fun b _ => uS (21 * b + 2) (fun _ _ => by omega)) h.2.wbg, W_wbh_rg (fun b _ => uS (21 * b) (fun _ _ => by omega)) (fun b _ => uS (21 * b + 3) (fun _ _ => by omega)) h.2.wbh, W_wbk_rg (fun b _ => uS (21 * b) (fun _ _ => by omega)) (fun b _ => uS (21 * b + 4) (fun _ _ => by omega)) h.2.wbk, W_wb2_rg (fun b _ => uS (21 * b) (fun _ _ => by omega)) (fun b _ => uS (21 * b + 1) (fun _ _ => by omega)) h.2.wb2, W_wb2g_rg (fun b _ => uS (21 * b) (fun _ _ => by omega)) (fun b _ => uS (21 * b + 2) (fun _ _ => by omega)) h.2.wb2g, W_wb3_rg (fun b _ => uS (21 * b + 1) (fun _ _ => by omega)) (fun b p _ _ => uS (21 * b + 5 + p) (fun _ _ => by omega)) h.2.wb3, W_wb4_rg (fun b _ => uS (21 * b + 3) (fun _ _ => by omega)) h.2.wb4, W_wb4k_rg (fun b _ => uS (21 * b + 4) (fun _ _ => by omega)) h.2.wb4k, W_wb5_rg (fun b p _ _ => uS (21 * b + 5 + p) (fun _ _ => by omega)) (uS (1641) (fun _ _ => by omega)) h.2.wb5, a_wl0, W_wla_rg (uS (1640) (fun _ _ => by omega)) (fun l _ => uS (252 + 12 * l) (fun _ _ => by omega)) h.2.wla, W_wlb_rg (uS (1640) (fun _ _ => by omega)) (fun l _ => uS (252 + 12 * l + 1) (fun _ _ => by omega)) h.2.wlb, W_wlc_rg (uS (1640) (fun _ _ => by omega)) (fun l _ => uS (252 + 12 * l + 2) (fun _ _ => by omega)) h.2.wlc, a_wld, W_wl2_rg (uS (1640) (fun _ _ => by omega)) (fun l _ => uS (252 + 12 * l + 2) (fun _ _ => by omega)) (fun l i _ _ => uS (252 + 12 * l + 4 + i) (fun _ _ => by omega)) h.2.wl2, a_wl4, W_wt0_rg (uS (1641) (fun _ _ => by omega)) (fun t _ => uS (732 + 5 * t) (fun _ _ => by omega)) h.2.wt0, W_wt1_rg (uS (1641) (fun _ _ => by omega)) (fun t _ => uS (732 + 5 * t + 1) (fun _ _ => by omega)) h.2.wt1, W_wt2_rg (uS (1641) (fun _ _ => by omega)) (fun t _ => uS (732 + 5 * t + 2) (fun _ _ => by omega)) h.2.wt2, W_wt3_rg (uS (1641) (fun _ _ => by omega)) (fun t _ => uS (732 + 5 * t + 3) (fun _ _ => by omega)) h.2.wt3, W_wt4_rg (uS (1641) (fun _ _ => by omega)) (fun t _ => uS (732 + 5 * t + 4) (fun _ _ => by omega)) (fun t _ => uS (732 + 5 * t) (fun _ _ => by omega)) h.2.wt4, W_wqa_rg (uS (1642) (fun _ _ => by omega)) (fun c _ => uS (1132 + 5 * c) (fun _ _ => by omega)) h.2.wqa, W_wqb_rg (uS (1642) (fun _ _ => by omega)) (fun c _ => uS (1132 + 5 * c + 1) (fun _ _ => by omega)) h.2.wqb, W_wqc_rg (uS (1642) (fun _ _ => by omega)) (fun c _ => uS (1132 + 5 * c + 2) (fun _ _ => by omega)) h.2.wqc, W_wqd_rg (uS (1642) (fun _ _ => by omega)) (fun c _ => uS (1132 + 5 * c + 3) (fun _ _ => by omega)) h.2.wqd, W_wqe_rg (uS (1642) (fun _ _ => by omega)) (fun c _ => uS (1132 + 5 * c + 4) (fun _ _ => by omega)) h.2.wqe, W_wq2_rg (uS (1642) (fun _ _ => by omega)) (fun c _ => uS (1132 + 5 * c) (fun _ _ => by omega)) (fun b _ => uS (21 * b) (fun _ _ => by omega)) (fun c _ => uS (1132 + 5 * c + 4) (fun _ _ => by omega)) (fun c _ => uS (1132 + 5 * c + 2) (fun _ _ => by omega)) (fun c _ => uS (1132 + 5 * c + 3) (fun _ _ => by omega)) (uS (1645) (fun _ _ => by omega)) h.2.wq2, W_wf_rg (fun k _ => uS (1432 + k) (fun _ _ => by omega)) h.2.wf, W_wh_rg (fun b p _ _ => uS (21 * b + 5 + p) (fun _ _ => by omega)) (fun t _ => uS (732 + 5 * t) (fun _ _ => by omega)) (fun t _ => uS (732 + 5 * t + 4) (fun _ _ => by omega)) h.2.wh⟩⟩
theorem aok_cut (v1 : Int32) : AOK (noJ (f_X6_cutLine v1)) (f_X12_cut v1) := by
  intro n O B V J M M1 hn sb hgg em sm
  have hf0 : M1 7 2 = 0 := sm.2.2.2.1
  have h5 : V 11 5 = 0 := sb.2.2.2.2.1
  have m0 : M1 0 = M 0 := sm.1
  have e3 := m_isLineTold (M := M1) v1
  rw [m0] at e3
  by_cases hbad : v1 < 0 ∨ M 0 1640 ≤ v1
  · rw [if_pos hbad] at e3
    refine aok_ref 2 (by decide) sb sm (fun V2 er sr => ?_) (fun M2 M3 ei er2 => ?_)
    · have e1 := c_line_ref (by decide) hgg (Or.inl ⟨hbad, rfl⟩) er sr
      simp only [f_X6_cutLine, e1, Option.bind_some, if_true, if_false, ite_self, i10, i01, ite01, ite10, true_or, or_true, false_or, or_false, leN, ite_not, not_true_eq_false, not_false_eq_true]
    · simp only [f_X12_cut_j46, f_X12_cut_j39, f_X12_cut_j18, f_X12_cut, em, e3, ei, er2, Option.bind_some, if_true, if_false, ite_self, i10, i01, ite01, ite10, true_or, or_true, false_or, or_false, leN, ite_not, not_true_eq_false, not_false_eq_true]
  · rw [if_neg hbad] at e3
    obtain ⟨l, hl, rfl, ht⟩ := line_of hgg hbad
    have e4 := m_isLineThere (M := M1) hl
    rw [m0] at e4
    have i2 := is_no 2 hf0
    have i1 := is_no 1 hf0
    by_cases h1 : M 0 (252 + 12 * l + 3) = 1
    · have e1 := c_refLine_yes h5 hgg hl ht h1
      obtain ⟨P, p1, p2, p3, p4⟩ := line_nums hgg hl ht
      have es : f_X7_set 240 40 12 (Int32.ofNat l) 3 0 V = f_X4_write (Int32.ofNat (240 + 12 * l + 3)) 0 V := sline (c := 3) 0 hl (by omega)
      obtain ⟨V2, ew, sw, -⟩ := st_write (c := 240 + 12 * l + 3) 0 sb (by omega) (by omega)
      have sm2 := ms_put (k := 252 + 12 * l + 3) 0 sm (by omega)
      have v0 : V2 0 = upd (V 0) (240 + 12 * l + 3) 0 := sw.2.1
      have e5 : f_X3_weakestPart (Int32.ofNat l) V2 = some (wkf (M 0) l (P - 1)) := by
        refine c_weakest hl p1 p2 ?_ (fun i hi => ?_) p4
        · rw [v0, upd_ne (by omega), hgg.1.rl2 l hl]; exact p3
        · rw [v0, upd_ne (by omega)]; exact hgg.1.rls l i hl hi
      have e6 := m_weakest (M := M1) hl p1 p2 (by rw [m0]; exact p3)
      rw [m0] at e6
      have ek : ckA 1646 ((252 : Int32) + 12 * Int32.ofNat l + 3) = some (252 + 12 * l + 3) := ck_lit (by rw [Int32.ofNat_add, Int32.ofNat_add, Int32.ofNat_mul]; rfl) (by omega) (by omega)
      refine aok_done (r := wkf (M 0) l (P - 1)) sw sm2 ?_ ?_ ?_
      · simp only [f_X6_cutLine, e1, es, ew, e5, Option.bind_some, if_true, if_false, ite_self, i10, i01, ite01, ite10, true_or, or_true, false_or, or_false, leN, ite_not, not_true_eq_false, not_false_eq_true]
      · simp only [f_X12_cut_j46, f_X12_cut_j39, f_X12_cut_j18, f_X12_cut, em, e3, i2, e4, h1, i1, e6, ek, Option.bind_some, if_true, if_false, ite_self, i10, i01, ite01, ite10, true_or, or_true, false_or, or_false, leN, ite_not, not_true_eq_false, not_false_eq_true]
      · refine gg_cut hgg (fun j hj => by rw [upd_ne (hj l hl)]) (fun j hj => by rw [upd_ne (hj l hl)]) ?_ ?_ ?_ ?_
        · intro c hc
          by_cases e : c = l
          · subst e; rw [upd_same, upd_same]
          · rw [upd_ne (by omega), upd_ne (by omega)]; exact hgg.1.rl3 c hc
        · intro c hc q
          rw [upd_ne (by omega)] at q
          by_cases e : c = l
          · subst e; rw [upd_same]
          · rw [upd_ne (by omega)]; exact hgg.2.wl0 c hc q
        · intro c hc q
          rw [upd_ne (by omega)] at q
          by_cases e : c = l
          · subst e; rw [upd_same]; exact ⟨0, by omega, by omega, rfl⟩
          · rw [upd_ne (by omega)]; exact hgg.2.wld c hc q
        · intro c d hc hd hne q1 q2
          have f1 : c ≠ l := fun e => by subst e; rw [upd_same] at q1; exact absurd q1 (by decide)
          have f2 : d ≠ l := fun e => by subst e; rw [upd_same] at q2; exact absurd q2 (by decide)
          rw [upd_ne (by omega)] at q1
          rw [upd_ne (by omega)] at q2
          rw [upd_ne (by omega), upd_ne (by omega), upd_ne (by omega), upd_ne (by omega)]
          exact hgg.2.wl4 c d hc hd hne q1 q2
    · refine aok_ref 1 (by decide) sb sm (fun V2 er sr => ?_) (fun M2 M3 ei er2 => ?_)
      · have e1 := c_line_ref (by decide) hgg (Or.inr ⟨l, rfl, hl, ht, h1, rfl⟩) er sr
        simp only [f_X6_cutLine, e1, Option.bind_some, if_true, if_false, ite_self, i10, i01, ite01, ite10, true_or, or_true, false_or, or_false, leN, ite_not, not_true_eq_false, not_false_eq_true]
      · simp only [f_X12_cut_j46, f_X12_cut_j39, f_X12_cut_j18, f_X12_cut, em, e3, i2, e4, h1, ei, er2, Option.bind_some, if_true, if_false, ite_self, i10, i01, ite01, ite10, true_or, or_true, false_or, or_false, leN, ite_not, not_true_eq_false, not_false_eq_true]
theorem o_cut : O_cut (IG GG) := fun _ _ _ _ _ v1 hn hI => aok_run (aok_cut v1) hn hI aok_nF
/-! wear -/
theorem gg_wear {n : Nat} {C C2 S S2 : AT} (h0 : GG n C S) (uC : ∀ j, (∀ l i : Nat, l < 40 → i < 8 → j ≠ 240 + 12 * l + 4 + i) → C j = C2 j) (uS : ∀ j, (∀ l i : Nat, l < 40 → i < 8 → j ≠ 252 + 12 * l + 4 + i) → S j = S2 j) (a_rls : R_rls C2 S2) (a_wl2 : W_wl2 (n + 1) S2) : GG (n + 1) C2 S2 := by
  have h := gg_ok.1 _ _ _ h0
  exact ⟨⟨R_rb0_rg (fun b _ => uC (4 * b) (fun _ _ _ _ => by omega)) (fun b _ => uS (21 * b + 1) (fun _ _ _ _ => by omega)) h.1.rb0, R_rb1_rg (fun b _ => uC (4 * b + 1) (fun _ _ _ _ => by omega)) (fun b _ => uS (21 * b + 2) (fun _ _ _ _ => by omega)) h.1.rb1, R_rb2_rg (fun b _ => uC (4 * b + 2) (fun _ _ _ _ => by omega)) (fun b _ => uS (21 * b + 3) (fun _ _ _ _ => by omega)) h.1.rb2, R_rb3_rg (fun b _ => uC (4 * b + 3) (fun _ _ _ _ => by omega)) (fun b _ => uS (21 * b + 4) (fun _ _ _ _ => by omega)) h.1.rb3, R_rc_rg (fun b p _ _ => uC (48 + 16 * b + p) (fun _ _ _ _ => by omega)) (fun b p _ _ => uS (21 * b + 5 + p) (fun _ _ _ _ => by omega)) h.1.rc, R_rl0_rg (fun l _ => uC (240 + 12 * l) (fun _ _ _ _ => by omega)) (fun l _ => uS (252 + 12 * l) (fun _ _ _ _ => by omega)) h.1.rl0, R_rl1_rg (fun l _ => uC (240 + 12 * l + 1) (fun _ _ _ _ => by omega)) (fun l _ => uS (252 + 12 * l + 1) (fun _ _ _ _ => by omega)) h.1.rl1, R_rl2_rg (fun l _ => uC (240 + 12 * l + 2) (fun _ _ _ _ => by omega)) (fun l _ => uS (252 + 12 * l + 2) (fun _ _ _ _ => by omega)) h.1.rl2, R_rl3_rg (fun l _ => uC (240 + 12 * l + 3) (fun _ _ _ _ => by omega)) (fun l _ => uS (252 + 12 * l + 3) (fun _ _ _ _ => by omega)) h.1.rl3, a_rls, R_rt0_rg (fun t _ => uC (720 + 8 * t) (fun _ _ _ _ => by omega)) (fun t _ => uS (732 + 5 * t) (fun _ _ _ _ => by omega)) h.1.rt0, R_rt1_rg (fun t _ => uC (720 + 8 * t + 1) (fun _ _ _ _ => by omega)) (fun t _ => uS (732 + 5 * t + 1) (fun _ _ _ _ => by omega)) h.1.rt1, R_rt2_rg (fun t _ => uC (720 + 8 * t + 2) (fun _ _ _ _ => by omega)) (fun t _ => uS (732 + 5 * t + 2) (fun _ _ _ _ => by omega)) h.1.rt2, R_rt3_rg (fun t _ => uC (720 + 8 * t + 3) (fun _ _ _ _ => by omega)) (fun t _ => uS (732 + 5 * t + 3) (fun _ _ _ _ => by omega)) h.1.rt3, R_rh_rg (fun t _ => uC (720 + 8 * t + 5) (fun _ _ _ _ => by omega)) (fun t _ => uS (732 + 5 * t + 4) (fun _ _ _ _ => by omega)) h.1.rh, R_rf_rg (fun k _ => uC (1360 + k) (fun _ _ _ _ => by omega)) (fun k _ => uS (1432 + k) (fun _ _ _ _ => by omega)) h.1.rf, R_rq0_rg (fun c _ => uC (1368 + 5 * c) (fun _ _ _ _ => by omega)) (fun c _ => uS (1132 + 5 * c) (fun _ _ _ _ => by omega)) h.1.rq0, R_rq1_rg (fun c _ => uC (1368 + 5 * c + 1) (fun _ _ _ _ => by omega)) (fun c _ => uS (1132 + 5 * c + 1) (fun _ _ _ _ => by omega)) h.1.rq1, R_rq2_rg (fun c _ => uC (1368 + 5 * c + 2) (fun _ _ _ _ => by omega)) (fun c _ => uS (1132 + 5 * c + 2) (fun _ _ _ _ => by omega)) h.1.rq2, R_rq3_rg (fun c _ => uC (1368 + 5 * c + 3) (fun _ _ _ _ => by omega)) (fun c _ => uS (1132 + 5 * c + 3) (fun _ _ _ _ => by omega)) h.1.rq3, R_rq4_rg (fun c _ => uC (1368 + 5 * c + 4) (fun _ _ _ _ => by omega)) (fun c _ => uS (1132 + 5 * c + 4) (fun _ _ _ _ => by omega)) h.1.rq4, R_rn0_rg (uC (1868) (fun _ _ _ _ => by omega)) (uS (1640) (fun _ _ _ _ => by omega)) h.1.rn0, R_rn1_rg (uC (1869) (fun _ _ _ _ => by omega)) (uS (1641) (fun _ _ _ _ => by omega)) h.1.rn1, R_rn2_rg (uC (1870) (fun _ _ _ _ => by omega)) (uS (1642) (fun _ _ _ _ => by omega)) h.1.rn2, R_rn3_rg (uC (1871) (fun _ _ _ _ => by omega)) (uS (1643) (fun _ _ _ _ => by omega)) h.1.rn3, R_rn4_rg (uC (1872) (fun _ _ _ _ => by omega)) (uS (1644) (fun _ _ _ _ => by omega)) h.1.rn4, R_rn5_rg (uC (1873) (fun _ _ _ _ => by omega)) (uS (1645) (fun _ _ _ _ => by omega)) h.1.rn5, R_rg_rg (uS (1641) (fun _ _ _ _ => by omega)) (fun t _ => uS (732 + 5 * t) (fun _ _ _ _ => by omega)) (fun t _ => uS (732 + 5 * t + 3) (fun _ _ _ _ => by omega)) (fun t _ => uC (720 + 8 * t + 4) (fun _ _ _ _ => by omega)) h.1.rg, R_rp_rg (uS (1641) (fun _ _ _ _ => by omega)) (fun t _ => uS (732 + 5 * t) (fun _ _ _ _ => by omega)) (fun b p _ _ => uS (21 * b + 5 + p) (fun _ _ _ _ => by omega)) (fun t _ => uC (720 + 8 * t + 6) (fun _ _ _ _ => by omega)) (fun t _ => uC (720 + 8 * t + 7) (fun _ _ _ _ => by omega)) h.1.rp, R_rs_rg (uS (1643) (fun _ _ _ _ => by omega)) (fun k _ => uS (1440 + k) (fun _ _ _ _ => by omega)) (fun k _ => uC (1668 + k) (fun _ _ _ _ => by omega)) h.1.rs⟩, ⟨W_wn0_rg (uS (1640) (fun _ _ _ _ => by omega)) h.2.wn0, W_wn1_rg (uS (1641) (fun _ _ _ _ => by omega)) h.2.wn1, W_wn2_rg (uS (1642) (fun _ _ _ _ => by omega)) h.2.wn2, W_wn3_rg (uS (1643) (fun _ _ _ _ => by omega)) h.2.wn3, W_wn4_rg (uS (1644) (fun _ _ _ _ => by omega)) h.2.wn4, W_wn5_rg (uS (1645) (fun _ _ _ _ => by omega)) h.2.wn5, W_wb0_rg (fun b _ => uS (21 * b) (fun _ _ _ _ => by omega)) h.2.wb0, W_wbp_rg (fun b _ => uS (21 * b) (fun _ _ _ _ => by omega)) (fun b _ => uS (21 * b + 1) (fun _ _ _ _ => by omega)) h.2.wbp, W_wbg_rg (fun b _ => uS (21 * b) (fun _ _ _ _ => by omega)) (fun b _ => uS (21 * b + 2) (fun _ _ _ _ => by omega)) h.2.wbg, W_wbh_rg (fun b _ => uS (21 * b) (fun _ _ _ _ => by omega)) (fun b _ => uS (21 * b + 3) (fun _ _ _ _ => by omega)) h.2.wbh, W_wbk_rg (fun b _ => uS (21 * b) (fun _ _ _ _ => by omega)) (fun b _ => uS (21 * b + 4) (fun _ _ _ _ => by omega)) h.2.wbk, W_wb2_rg (fun b _ => uS (21 * b) (fun _ _ _ _ => by omega)) (fun b _ => uS (21 * b + 1) (fun _ _ _ _ => by omega)) h.2.wb2, W_wb2g_rg (fun b _ => uS (21 * b) (fun _ _ _ _ => by omega)) (fun b _ => uS (21 * b + 2) (fun _ _ _ _ => by omega)) h.2.wb2g, W_wb3_rg (fun b _ => uS (21 * b + 1) (fun _ _ _ _ => by omega)) (fun b p _ _ => uS (21 * b + 5 + p) (fun _ _ _ _ => by omega)) h.2.wb3, W_wb4_rg (fun b _ => uS (21 * b + 3) (fun _ _ _ _ => by omega)) h.2.wb4, W_wb4k_rg (fun b _ => uS (21 * b + 4) (fun _ _ _ _ => by omega)) h.2.wb4k, W_wb5_rg (fun b p _ _ => uS (21 * b + 5 + p) (fun _ _ _ _ => by omega)) (uS (1641) (fun _ _ _ _ => by omega)) h.2.wb5, W_wl0_rg (uS (1640) (fun _ _ _ _ => by omega)) (fun l _ => uS (252 + 12 * l + 3) (fun _ _ _ _ => by omega)) h.2.wl0, W_wla_rg (uS (1640) (fun _ _ _ _ => by omega)) (fun l _ => uS (252 + 12 * l) (fun _ _ _ _ => by omega)) h.2.wla, W_wlb_rg (uS (1640) (fun _ _ _ _ => by omega)) (fun l _ => uS (252 + 12 * l + 1) (fun _ _ _ _ => by omega)) h.2.wlb, W_wlc_rg (uS (1640) (fun _ _ _ _ => by omega)) (fun l _ => uS (252 + 12 * l + 2) (fun _ _ _ _ => by omega)) h.2.wlc, W_wld_rg (uS (1640) (fun _ _ _ _ => by omega)) (fun l _ => uS (252 + 12 * l + 3) (fun _ _ _ _ => by omega)) h.2.wld, a_wl2, W_wl4_rg (fun l _ => uS (252 + 12 * l + 3) (fun _ _ _ _ => by omega)) (fun l _ => uS (252 + 12 * l) (fun _ _ _ _ => by omega)) (fun l _ => uS (252 + 12 * l + 1) (fun _ _ _ _ => by omega)) h.2.wl4, W_wt0_rg (uS (1641) (fun _ _ _ _ => by omega)) (fun t _ => uS (732 + 5 * t) (fun _ _ _ _ => by omega)) h.2.wt0, W_wt1_rg (uS (1641) (fun _ _ _ _ => by omega)) (fun t _ => uS (732 + 5 * t + 1) (fun _ _ _ _ => by omega)) h.2.wt1, W_wt2_rg (uS (1641) (fun _ _ _ _ => by omega)) (fun t _ => uS (732 + 5 * t + 2) (fun _ _ _ _ => by omega)) h.2.wt2, W_wt3_rg (uS (1641) (fun _ _ _ _ => by omega)) (fun t _ => uS (732 + 5 * t + 3) (fun _ _ _ _ => by omega)) h.2.wt3, W_wt4_rg (uS (1641) (fun _ _ _ _ => by omega)) (fun t _ => uS (732 + 5 * t + 4) (fun _ _ _ _ => by omega)) (fun t _ => uS (732 + 5 * t) (fun _ _ _ _ => by omega)) h.2.wt4, W_wqa_rg (uS (1642) (fun _ _ _ _ => by omega)) (fun c _ => uS (1132 + 5 * c) (fun _ _ _ _ => by omega)) h.2.wqa, W_wqb_rg (uS (1642) (fun _ _ _ _ => by omega)) (fun c _ => uS (1132 + 5 * c + 1) (fun _ _ _ _ => by omega)) h.2.wqb, W_wqc_rg (uS (1642) (fun _ _ _ _ => by omega)) (fun c _ => uS (1132 + 5 * c + 2) (fun _ _ _ _ => by omega)) h.2.wqc, W_wqd_rg (uS (1642) (fun _ _ _ _ => by omega)) (fun c _ => uS (1132 + 5 * c + 3) (fun _ _ _ _ => by omega)) h.2.wqd, W_wqe_rg (uS (1642) (fun _ _ _ _ => by omega)) (fun c _ => uS (1132 + 5 * c + 4) (fun _ _ _ _ => by omega)) h.2.wqe, W_wq2_rg (uS (1642) (fun _ _ _ _ => by omega)) (fun c _ => uS (1132 + 5 * c) (fun _ _ _ _ => by omega)) (fun b _ => uS (21 * b) (fun _ _ _ _ => by omega)) (fun c _ => uS (1132 + 5 * c + 4) (fun _ _ _ _ => by omega)) (fun c _ => uS (1132 + 5 * c + 2) (fun _ _ _ _ => by omega)) (fun c _ => uS (1132 + 5 * c + 3) (fun _ _ _ _ => by omega)) (uS (1645) (fun _ _ _ _ => by omega)) h.2.wq2, W_wf_rg (fun k _ => uS (1432 + k) (fun _ _ _ _ => by omega)) h.2.wf, W_wh_rg (fun b p _ _ => uS (21 * b + 5 + p) (fun _ _ _ _ => by omega)) (fun t _ => uS (732 + 5 * t) (fun _ _ _ _ => by omega)) (fun t _ => uS (732 + 5 * t + 4) (fun _ _ _ _ => by omega)) h.2.wh⟩⟩
theorem worn {r x : Int32} (h1 : RG r 0 30000) (h2 : RG x 0 30000) : ((0 < r - x) ↔ ¬ r ≤ x) ∧ RG (if 0 < r - x then r - x else 0) 0 30000 := by
  obtain ⟨a, a1, a2, rfl⟩ := h1
  obtain ⟨c, c1, c2, rfl⟩ := h2
  have e1 := ti_nat (n := a) (by omega)
  have e2 := ti_nat (n := c) (by omega)
  have e3 : (Int32.ofNat a - Int32.ofNat c).toInt = (a : Int) - (c : Int) := by rw [i32_sub (by omega) (by omega), e1, e2]
  have k : (0 < Int32.ofNat a - Int32.ofNat c) ↔ ¬ Int32.ofNat a ≤ Int32.ofNat c := by
    rw [Int32.lt_iff_toInt_lt, e3, ti_lit0, nat_le (by omega) (by omega)]; omega
  refine ⟨k, ?_⟩
  by_cases q : 0 < Int32.ofNat a - Int32.ofNat c
  · rw [if_pos q]
    have q2 : ¬ a ≤ c := fun p => k.mp q ((nat_le (by omega) (by omega)).mpr p)
    refine ⟨a - c, by omega, by omega, ?_⟩
    rw [Int32.ofNat_sub _ _ (by omega)]
  · rw [if_neg q]; exact ⟨0, by omega, by omega, rfl⟩
theorem aok_wear (v1 v2 v3 : Int32) : AOK (noJ (f_X6_wearPart v1 v2 v3)) (f_X12_wear v1 v2 v3) := by
  intro n O B V J M M1 hn sb hgg em sm
  have hf0 : M1 7 2 = 0 := sm.2.2.2.1
  have h5 : V 11 5 = 0 := sb.2.2.2.2.1
  have m0 : M1 0 = M 0 := sm.1
  have e3 := m_isLineTold (M := M1) v1
  rw [m0] at e3
  by_cases hbad : v1 < 0 ∨ M 0 1640 ≤ v1
  · rw [if_pos hbad] at e3
    refine aok_ref 2 (by decide) sb sm (fun V2 er sr => ?_) (fun M2 M3 ei er2 => ?_)
    · have e1 := c_line_ref (by decide) hgg (Or.inl ⟨hbad, rfl⟩) er sr
      simp only [f_X6_wearPart_j38, f_X6_wearPart_j58, f_X6_wearPart, e1, Option.bind_some, if_true, if_false, ite_self, i10, i01, ite01, ite10, true_or, or_true, false_or, or_false, leN, ite_not, not_true_eq_false, not_false_eq_true]
    · simp only [f_X12_wear_j98, f_X12_wear_j147, f_X12_wear_j90, f_X12_wear_j66, f_X12_wear_j61, f_X12_wear_j39, f_X12_wear_j18, f_X12_wear, em, e3, ei, er2, Option.bind_some, if_true, if_false, ite_self, i10, i01, ite01, ite10, true_or, or_true, false_or, or_false, leN, ite_not, not_true_eq_false, not_false_eq_true]
  · rw [if_neg hbad] at e3
    obtain ⟨l, hl, rfl, ht⟩ := line_of hgg hbad
    have e4 := m_isLineThere (M := M1) hl
    rw [m0] at e4
    have i2 := is_no 2 hf0
    have i1 := is_no 1 hf0
    by_cases h1 : M 0 (252 + 12 * l + 3) = 1
    · have e1 := c_refLine_yes h5 hgg hl ht h1
      obtain ⟨P, p1, p2, p3, p4⟩ := line_nums hgg hl ht
      have i7 := is_no 7 hf0
      have g2 : f_X7_get 240 40 12 (Int32.ofNat l) 2 V = some (Int32.ofNat P) := by rw [← p3]; exact lget (c := 2) hgg hl (by omega)
      have g3 : f_X12_lineIs (Int32.ofNat l) 2 M1 = some (Int32.ofNat P) := by rw [← p3, ← m0]; exact m_lineIs (c := 2) hl (by omega)
      by_cases hv : v2 < 0 ∨ ¬ v2 < Int32.ofNat P
      · refine aok_ref 2 (by decide) sb sm (fun V2 er sr => ?_) (fun M2 M3 ei er2 => ?_)
        · rcases hv with hv | hv
          all_goals simp only [f_X6_wearPart_j38, f_X6_wearPart_j58, f_X6_wearPart, e1, g2, hv, er, Option.bind_some, if_true, if_false, ite_self, i10, i01, ite01, ite10, true_or, or_true, false_or, or_false, leN, ite_not, not_true_eq_false, not_false_eq_true]
        · rcases hv with hv | hv
          all_goals simp only [f_X12_wear_j98, f_X12_wear_j147, f_X12_wear_j90, f_X12_wear_j66, f_X12_wear_j61, f_X12_wear_j39, f_X12_wear_j18, f_X12_wear, em, e3, i2, e4, h1, i1, g3, hv, ei, er2, Option.bind_some, if_true, if_false, ite_self, i10, i01, ite01, ite10, true_or, or_true, false_or, or_false, leN, ite_not, not_true_eq_false, not_false_eq_true]
      · have q1 : ¬ v2 < 0 := fun q => hv (Or.inl q)
        have q2 : v2 < Int32.ofNat P := Classical.byContradiction (fun q => hv (Or.inr q))
        obtain ⟨p, hp, rfl⟩ : ∃ p : Nat, p < P ∧ v2 = Int32.ofNat p := by
          rcases rng P (by omega) v2 with h | h
          · exact h
          · exact absurd h (fun q => q.elim q1 (lt_nle q2))
        by_cases hw : v3 < 0 ∨ 30000 < v3
        · refine aok_ref 7 (by decide) sb sm (fun V2 er sr => ?_) (fun M2 M3 ei er2 => ?_)
          · rcases hw with hw | hw
            all_goals simp only [f_X6_wearPart_j38, f_X6_wearPart_j58, f_X6_wearPart, e1, g2, q1, q2, hw, er, Option.bind_some, if_true, if_false, ite_self, i10, i01, ite01, ite10, true_or, or_true, false_or, or_false, leN, ite_not, not_true_eq_false, not_false_eq_true]
          · rcases hw with hw | hw
            all_goals simp only [f_X12_wear_j98, f_X12_wear_j147, f_X12_wear_j90, f_X12_wear_j66, f_X12_wear_j61, f_X12_wear_j39, f_X12_wear_j18, f_X12_wear, em, e3, i2, e4, h1, i1, g3, q1, q2, in_eq, hw, ei, er2, Option.bind_some, if_true, if_false, ite_self, i10, i01, ite01, ite10, true_or, or_true, false_or, or_false, leN, ite_not, not_true_eq_false, not_false_eq_true]
        · have w1 : ¬ v3 < 0 := fun q => hw (Or.inl q)
          have w2 : ¬ 30000 < v3 := fun q => hw (Or.inr q)
          obtain ⟨k1, k2⟩ := worn (p4 p hp) (rg_of (hi := 30000) (by omega) w1 w2)
          have g5 : f_X7_get 240 40 12 (Int32.ofNat l) (4 + Int32.ofNat p) V = some (M 0 (252 + 12 * l + 4 + p)) := by
            rw [show (4 : Int32) + Int32.ofNat p = Int32.ofNat (4 + p) from (Int32.ofNat_add 4 p).symm, lget hgg hl (by omega), show 252 + 12 * l + (4 + p) = 252 + 12 * l + 4 + p by omega]
          have es : ∀ x V, f_X7_set 240 40 12 (Int32.ofNat l) (4 + Int32.ofNat p) x V = f_X4_write (Int32.ofNat (240 + 12 * l + 4 + p)) x V := by
            intro x V
            rw [show (4 : Int32) + Int32.ofNat p = Int32.ofNat (4 + p) from (Int32.ofNat_add 4 p).symm, sline x hl (by omega), show 240 + 12 * l + (4 + p) = 240 + 12 * l + 4 + p by omega]
          have ek : ckA 1646 ((252 : Int32) + 12 * Int32.ofNat l + 4 + Int32.ofNat p) = some (252 + 12 * l + 4 + p) := ck_lit (by rw [Int32.ofNat_add, Int32.ofNat_add, Int32.ofNat_add, Int32.ofNat_mul]; rfl) (by omega) (by omega)
          generalize hx : (if 0 < M 0 (252 + 12 * l + 4 + p) - v3 then M 0 (252 + 12 * l + 4 + p) - v3 else 0) = x at k2
          obtain ⟨V2, ew, sw, -⟩ := st_write (c := 240 + 12 * l + 4 + p) x sb (by omega) (by omega)
          have sm2 := ms_put (k := 252 + 12 * l + 4 + p) x sm (by omega)
          refine aok_done (r := x) sw sm2 ?_ ?_ ?_
          · simp only [f_X6_wearPart_j38, f_X6_wearPart_j58, f_X6_wearPart, e1, g2, q1, q2, w1, w2, g5, hx, es, ew, Option.bind_some, if_true, if_false, ite_self, i10, i01, ite01, ite10, true_or, or_true, false_or, or_false, leN, ite_not, not_true_eq_false, not_false_eq_true]
          · by_cases c : M 0 (252 + 12 * l + 4 + p) ≤ v3
            · have hx0 : x = 0 := by rw [← hx, if_neg (fun q => (k1.mp q) c)]
              rw [hx0]
              have c2 : ¬ v3 < M 0 (252 + 12 * l + 4 + p) := fun q => lt_nle q c
              simp only [f_X12_wear_j98, f_X12_wear_j147, f_X12_wear_j90, f_X12_wear_j66, f_X12_wear_j61, f_X12_wear_j39, f_X12_wear_j18, f_X12_wear, em, e3, i2, e4, h1, i1, g3, q1, q2, in_eq, w1, w2, i7, ek, m0, c2, u2r_eq, Option.bind_some, if_true, if_false, ite_self, i10, i01, ite01, ite10, true_or, or_true, false_or, or_false, leN, ite_not, not_true_eq_false, not_false_eq_true]
            · have hx0 : x = M 0 (252 + 12 * l + 4 + p) - v3 := by rw [← hx, if_pos (k1.mpr c)]
              rw [hx0]
              have c2 : v3 < M 0 (252 + 12 * l + 4 + p) := nle_lt c
              simp only [f_X12_wear_j98, f_X12_wear_j147, f_X12_wear_j90, f_X12_wear_j66, f_X12_wear_j61, f_X12_wear_j39, f_X12_wear_j18, f_X12_wear, em, e3, i2, e4, h1, i1, g3, q1, q2, in_eq, w1, w2, i7, ek, m0, c2, u2r_eq, Option.bind_some, if_true, if_false, ite_self, i10, i01, ite01, ite10, true_or, or_true, false_or, or_false, leN, ite_not, not_true_eq_false, not_false_eq_true]
          · refine gg_wear hgg (fun j hj => by rw [upd_ne (hj l p hl (by omega))]) (fun j hj => by rw [upd_ne (hj l p hl (by omega))]) ?_ ?_
            · intro c i hc hi
              by_cases e : c = l ∧ i = p
              · obtain ⟨rfl, rfl⟩ := e; rw [upd_same, upd_same]
              · rw [upd_ne (by omega), upd_ne (by omega)]; exact hgg.1.rls c i hc hi
            · intro c i hc hi a1 a2
              rw [upd_ne (by omega)] at a1
              rw [upd_ne (by omega)] at a2
              by_cases e : c = l ∧ i = p
              · obtain ⟨rfl, rfl⟩ := e; rw [upd_same]; exact k2
              · rw [upd_ne (by omega)]; exact hgg.2.wl2 c i hc hi a1 a2
    · refine aok_ref 1 (by decide) sb sm (fun V2 er sr => ?_) (fun M2 M3 ei er2 => ?_)
      · have e1 := c_line_ref (by decide) hgg (Or.inr ⟨l, rfl, hl, ht, h1, rfl⟩) er sr
        simp only [f_X6_wearPart_j38, f_X6_wearPart_j58, f_X6_wearPart, e1, Option.bind_some, if_true, if_false, ite_self, i10, i01, ite01, ite10, true_or, or_true, false_or, or_false, leN, ite_not, not_true_eq_false, not_false_eq_true]
      · simp only [f_X12_wear_j98, f_X12_wear_j147, f_X12_wear_j90, f_X12_wear_j66, f_X12_wear_j61, f_X12_wear_j39, f_X12_wear_j18, f_X12_wear, em, e3, i2, e4, h1, ei, er2, Option.bind_some, if_true, if_false, ite_self, i10, i01, ite01, ite10, true_or, or_true, false_or, or_false, leN, ite_not, not_true_eq_false, not_false_eq_true]
theorem o_wear : O_wear (IG GG) := fun _ _ _ _ _ v1 v2 v3 hn hI => aok_run (aok_wear v1 v2 v3) hn hI aok_nF
