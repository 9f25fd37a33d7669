/-! go: which cue decides; a group's step of a tick -/
def dec (S : AT) (b : Nat) : Nat → Option Nat
  | 0 => none
  | k + 1 => if dec S b k = none ∧ S (1132 + 5 * k) = Int32.ofNat b ∧ cst S k = 1 then some k else dec S b k
theorem dec_succ {S : AT} {b k : Nat} : dec S b (k + 1) = if dec S b k = none ∧ S (1132 + 5 * k) = Int32.ofNat b ∧ cst S k = 1 then some k else dec S b k := rfl
theorem dec_some {S : AT} {b c : Nat} : ∀ k, dec S b k = some c → (c < k ∧ S (1132 + 5 * c) = Int32.ofNat b ∧ cst S c = 1) ∧ ∀ a, a < c → ¬ (S (1132 + 5 * a) = Int32.ofNat b ∧ cst S a = 1) := by
  suffices h : ∀ k, (∀ c, dec S b k = some c → (c < k ∧ S (1132 + 5 * c) = Int32.ofNat b ∧ cst S c = 1) ∧ ∀ a, a < c → ¬ (S (1132 + 5 * a) = Int32.ofNat b ∧ cst S a = 1)) ∧ (dec S b k = none → ∀ a, a < k → ¬ (S (1132 + 5 * a) = Int32.ofNat b ∧ cst S a = 1)) from fun k e => (h k).1 c e
  intro k
  induction k with
  | zero => exact ⟨fun c e => (by cases e), fun _ a ha => by omega⟩
  | succ k ih =>
    obtain ⟨i1, i2⟩ := ih
    rw [dec_succ]
    by_cases q : dec S b k = none ∧ S (1132 + 5 * k) = Int32.ofNat b ∧ cst S k = 1
    · rw [if_pos q]
      refine ⟨fun c e => ?_, fun e => by cases e⟩
      cases e
      exact ⟨⟨by omega, q.2⟩, i2 q.1⟩
    · rw [if_neg q]
      refine ⟨fun c e => ?_, fun e a ha => ?_⟩
      · obtain ⟨⟨j1, j2⟩, j3⟩ := i1 c e
        exact ⟨⟨by omega, j2⟩, j3⟩
      · by_cases e2 : a = k
        · subst e2; exact fun p => q ⟨e, p⟩
        · exact i2 e a (by omega)
theorem dec_none {S : AT} {b : Nat} : ∀ k, dec S b k = none → ∀ a, a < k → ¬ (S (1132 + 5 * a) = Int32.ofNat b ∧ cst S a = 1) := by
  intro k
  induction k with
  | zero => intro _ a ha; omega
  | succ k ih =>
    intro e a ha
    rw [dec_succ] at e
    by_cases q : dec S b k = none ∧ S (1132 + 5 * k) = Int32.ofNat b ∧ cst S k = 1
    · rw [if_pos q] at e; cases e
    · rw [if_neg q] at e
      by_cases e2 : a = k
      · subst e2; exact fun p => q ⟨e, p⟩
      · exact ih e a (by omega)
theorem dec_cg {S S2 : AT} {hi b : Nat} (hu : UN S S2) (h5 : S2 1645 = S 1645) (hl : LQ hi S S2) (hb : hi < b) (hb2 : b < 12) : ∀ k, k ≤ 60 → dec S2 b k = dec S b k := by
  intro k
  induction k with
  | zero => intro _; rfl
  | succ k ih =>
    intro hk
    rw [dec_succ, dec_succ, ih (by omega), un_q0 hu (by omega)]
    by_cases q : S (1132 + 5 * k) = Int32.ofNat b
    · have e : cst S2 k = cst S k := by
        unfold cst
        rw [hl k b (by omega) hb hb2 q, un_q (i := 2) hu (by omega) (by omega), un_q (i := 3) hu (by omega) (by omega), h5]
      rw [e]
    · rw [if_neg (fun e => q e.2.1), if_neg (fun e => q e.2.1)]
theorem m_running {M : VT} {b m : Nat} (hm : m ≤ 60) (hN : M 0 1642 = Int32.ofNat m) (hb : b < 12) : f_X12_running (Int32.ofNat b) M = some (o32 (-1) (dec (M 0) b m)) := by
  have kN : ckA 1646 (1642 : Int32) = some 1642 := ck_lit (k := 1642) rfl (by omega) (by omega)
  have hst : ∀ i, i < m → ¬ (M 0 (1132 + 5 * i) = Int32.ofNat b ∧ cst (M 0) i = 1) → f_X12_running_B2 (Int32.ofNat b) M (Int32.ofNat i) = some (.inl (Int32.ofNat (i + 1))) := by
    intro i hi q
    have n1 : ¬ Int32.ofNat m ≤ Int32.ofNat i := fun q => by have := (nat_le (by omega) (by omega)).mp q; omega
    have e0 : f_X12_cueIs (Int32.ofNat i) 0 M = some (M 0 (1132 + 5 * i)) := m_cueIs (i := 0) (by omega) (by omega)
    have er := m_runs (M := M) (c := i) (by omega)
    by_cases q1 : M 0 (1132 + 5 * i) = Int32.ofNat b
    · rw [if_neg (fun e => q ⟨q1, e⟩)] at er
      simp only [f_X12_running_B2, f_X12_running_j34, kN, hN, n1, e0, eq_true q1, er, nat_succ, bsm, if_true, if_false, ite_self, i10, i01, ite01, ite10, true_or, or_true, false_or, or_false, ite_not, not_true_eq_false, not_false_eq_true]
    · simp only [f_X12_running_B2, f_X12_running_j34, kN, hN, n1, e0, q1, nat_succ, bsm, if_true, if_false, ite_self, i10, i01, ite01, ite10, true_or, or_true, false_or, or_false, ite_not, not_true_eq_false, not_false_eq_true]
  unfold f_X12_running
  rw [bsm]
  cases e : dec (M 0) b m with
  | none =>
    refine scan (lo := 0) m (Nat.zero_le _) (by omega) (fun i _ hi => hst i hi (dec_none m e i hi)) ?_
    simp only [f_X12_running_B2, kN, hN, Int32.le_refl, bsm, if_true, if_false, ite_self, i10, i01, ite01, ite10, true_or, or_true, false_or, or_false, ite_not, not_true_eq_false, not_false_eq_true]
    rfl
  | some c =>
    obtain ⟨⟨h1, h2, h3⟩, h4⟩ := dec_some m e
    refine scan (lo := 0) c (Nat.zero_le _) (by omega) (fun i _ hi => hst i (by omega) (h4 i hi)) ?_
    have n1 : ¬ Int32.ofNat m ≤ Int32.ofNat c := fun q => by have := (nat_le (by omega) (by omega)).mp q; omega
    have e0 : f_X12_cueIs (Int32.ofNat c) 0 M = some (M 0 (1132 + 5 * c)) := m_cueIs (i := 0) (by omega) (by omega)
    have er := m_runs (M := M) (c := c) (by omega)
    rw [if_pos h3] at er
    simp only [f_X12_running_B2, kN, hN, n1, e0, eq_true h2, er, bsm, if_true, if_false, ite_self, i10, i01, ite01, ite10, true_or, or_true, false_or, or_false, ite_not, not_true_eq_false, not_false_eq_true]
    rfl
theorem c_fill29 {V : VT} (x : Int32) : f_fill_29 x V = some (setRow V 9 (fil (V 9) 0 x 12)) := by
  unfold f_fill_29
  rw [bsm, bsm]
  have e0 : setRow V 9 (fil (V 9) 0 x 0) = V := by rw [fil_0, setRow_id]
  have key := lp_iter (f := f_fill_29_B5 x 12) (y := setRow V 9 (fil (V 9) 0 x 12)) (fun i => (Int32.ofNat i, setRow V 9 (fil (V 9) 0 x i))) 12 0 fuel (fun i _ hi => ?_) ?_ (fuel_big (by omega))
  · simp only [e0] at key
    exact key
  · have n1 : ¬ (12 : Int32) ≤ Int32.ofNat i := fun q => by have := (nat_le (a := 12) (by omega) (by omega)).mp q; omega
    have ek : ckA 12 (Int32.ofNat i) = some i := ck_nat (by omega) (by omega)
    have ef : upd (fil (V 9) 0 x i) i x = fil (V 9) 0 x (i + 1) := by
      have := fil_succ (f := V 9) (k := 0) (x := x) (i := i)
      rw [Nat.zero_add] at this; exact this
    simp only [f_fill_29_B5, n1, if_false, ek, bsm, nat_succ, setRow_u2, ef]
  · rw [Nat.zero_add]
    have n1 : (12 : Int32) ≤ Int32.ofNat 12 := by decide
    simp only [f_fill_29_B5, n1, if_true, bsm]
theorem o32_N {o : Option Nat} (h : ∀ c, o = some c → c < 60) : (o32 (-1000000000) o = -1000000000) ↔ o = none := by
  cases o with
  | none => exact ⟨fun _ => rfl, fun _ => rfl⟩
  | some c => exact ⟨fun e => absurd e (none_ne (by have := h c rfl; omega)), fun e => by cases e⟩
theorem c_find {V : VT} {S : AT} {m : Nat} (hg : GG 1000 (V 0) S) (hm : m ≤ 60) (hN : S 1642 = Int32.ofNat m) : ∃ V2, f_X0_findDeciding V = some V2 ∧ (∀ k, k ≠ 9 → V2 k = V k) ∧ ∀ b, b < 12 → V2 9 b = o32 (-1000000000) (dec S b m) := by
  have k0 : ∀ k, k ≠ 9 → setRow V 9 (fil (V 9) 0 (-1000000000) 12) k = V k := fun k hk => setRow_ne hk
  have e2 : f_X7_get 1868 1 6 (0 : Int32) (2 : Int32) (setRow V 9 (fil (V 9) 0 (-1000000000) 12)) = some (Int32.ofNat m) := by
    rw [← hN]; exact nget (i := 2) (n := 1000) (by rw [k0 0 (by omega)]; exact hg) (by omega)
  have hz : ∀ b, b < 12 → setRow V 9 (fil (V 9) 0 (-1000000000) 12) 9 b = -1000000000 := fun b hb => by rw [setRow_eq, fil_in (by omega)]
  have key := lp_inv (f := f_X0_findDeciding_B24 (Int32.ofNat m)) (Q := fun y => (∀ k, k ≠ 9 → y k = V k) ∧ ∀ b, b < 12 → y 9 b = o32 (-1000000000) (dec S b m)) (fun i s => s.1 = Int32.ofNat i ∧ (∀ k, k ≠ 9 → s.2 k = V k) ∧ ∀ b, b < 12 → s.2 9 b = o32 (-1000000000) (dec S b i)) m 0 fuel ((0 : Int32), setRow V 9 (fil (V 9) 0 (-1000000000) 12)) ⟨rfl, k0, hz⟩ (fun i s _ hi2 hI => ?_) (fun s hI => ?_) (fuel_big (by omega))
  · obtain ⟨y, e, hy⟩ := key
    refine ⟨y, ?_, hy⟩
    unfold f_X0_findDeciding
    rw [c_fill29, bsm, e2, bsm, bsm]
    exact e
  · obtain ⟨x, V'⟩ := s
    obtain ⟨h1, h2, h3⟩ := hI
    have h1 : x = Int32.ofNat i := h1
    subst h1
    have h2 : ∀ k, k ≠ 9 → V' k = V k := h2
    have h3 : ∀ b, b < 12 → V' 9 b = o32 (-1000000000) (dec S b i) := h3
    have hgv : GG 1000 (V' 0) S := by rw [h2 0 (by omega)]; exact hg
    have n1 : ¬ Int32.ofNat m ≤ Int32.ofNat i := fun q => by have := (nat_le (by omega) (by omega)).mp q; omega
    have ht : Int32.ofNat i < S 1642 := by rw [hN]; exact (nat_lt (by omega) (by omega)).mpr (by omega)
    obtain ⟨b0, -, hb0, eb0⟩ := hg.2.wqa i (by omega) ht
    have eg : f_X7_get 1368 60 5 (Int32.ofNat i) 0 V' = some (Int32.ofNat b0) := by rw [← eb0]; exact qget (i := 0) hgv (by omega) (by omega)
    have ec := c_cueState hgv (by omega) (c := i) (by omega) ht
    have n2 : ¬ Int32.ofNat b0 < 0 := nat_nneg (by omega)
    have n3 : ¬ (12 : Int32) ≤ Int32.ofNat b0 := fun q => by have := (nat_le (a := 12) (by omega) (by omega)).mp q; omega
    have ck : ckA 12 (Int32.ofNat b0) = some b0 := ck_nat (by omega) (by omega)
    have hN0 : (V' 9 b0 = -1000000000) ↔ dec S b0 i = none := by
      rw [h3 b0 (by omega)]
      exact o32_N (fun c e => by have := (dec_some i e).1.1; omega)
    have oth : ∀ b, b < 12 → b ≠ b0 → dec S b (i + 1) = dec S b i := by
      intro b hb hne
      rw [dec_succ, if_neg (fun e => hne ?_)]
      have e3 := e.2.1
      rw [eb0] at e3
      exact ((nat_eq (by omega) (by omega)).mp e3).symm
    by_cases q : dec S b0 i = none ∧ cst S i = 1
    · refine ⟨(Int32.ofNat (i + 1), u2 V' 9 b0 (Int32.ofNat i)), ?_, rfl, fun k hk => ?_, fun b hb => ?_⟩
      · have q1 : V' 9 b0 = -1000000000 := hN0.mpr q.1
        simp only [f_X0_findDeciding_B24, f_X0_findDeciding_j85, n1, eg, n2, n3, ck, eq_true q1, ec, eq_true q.2, nat_succ, bsm, if_true, if_false, ite_self, i10, i01, ite01, ite10, true_or, or_true, false_or, or_false, ite_not, not_true_eq_false, not_false_eq_true]
      · show u2 V' 9 b0 _ k = V k
        rw [u2_ne hk]; exact h2 k hk
      · show u2 V' 9 b0 _ 9 b = _
        rw [u2_at]
        by_cases e : b = b0
        · rw [if_pos ⟨rfl, e⟩, e, dec_succ, if_pos ⟨q.1, eb0, q.2⟩]; rfl
        · rw [if_neg (fun e2 => e e2.2), oth b hb e]; exact h3 b hb
    · refine ⟨(Int32.ofNat (i + 1), V'), ?_, rfl, h2, fun b hb => ?_⟩
      · by_cases q1 : dec S b0 i = none
        · have q2 : V' 9 b0 = -1000000000 := hN0.mpr q1
          have q3 : ¬ cst S i = 1 := fun e => q ⟨q1, e⟩
          simp only [f_X0_findDeciding_B24, f_X0_findDeciding_j85, n1, eg, n2, n3, ck, eq_true q2, ec, q3, nat_succ, bsm, if_true, if_false, ite_self, i10, i01, ite01, ite10, true_or, or_true, false_or, or_false, ite_not, not_true_eq_false, not_false_eq_true]
        · have q2 : ¬ V' 9 b0 = -1000000000 := fun e => q1 (hN0.mp e)
          simp only [f_X0_findDeciding_B24, f_X0_findDeciding_j85, n1, eg, n2, n3, ck, q2, nat_succ, bsm, if_true, if_false, ite_self, i10, i01, ite01, ite10, true_or, or_true, false_or, or_false, ite_not, not_true_eq_false, not_false_eq_true]
      · show V' 9 b = _
        by_cases e : b = b0
        · rw [e, dec_succ, if_neg (fun e2 => q ⟨e2.1, e2.2.2⟩), ← e]; exact h3 b hb
        · rw [oth b hb e]; exact h3 b hb
  · obtain ⟨x, V'⟩ := s
    rw [Nat.zero_add] at hI
    obtain ⟨h1, h2⟩ := hI
    have h1 : x = Int32.ofNat m := h1
    subst h1
    refine ⟨V', ?_, h2⟩
    simp only [f_X0_findDeciding_B24, Int32.le_refl, bsm, if_true, if_false, ite_self, i10, i01, ite01, ite10, true_or, or_true, false_or, or_false, ite_not, not_true_eq_false, not_false_eq_true]
/-! the component looks for the group's deciding cue from above -/
def gdv (V : VT) (lo : Nat) : Nat → Int32 → Int32
  | 0, x => x
  | r + 1, x => gdv V lo r (if V 9 (lo + r) = -1000000000 then x else V 9 (lo + r))
theorem gdv_no {V : VT} {lo : Nat} : ∀ r x, (∀ i, lo ≤ i → i < lo + r → V 9 i = -1000000000) → gdv V lo r x = x := by
  intro r
  induction r with
  | zero => intro x _; rfl
  | succ r ih =>
    intro x h
    unfold gdv
    rw [if_pos (h (lo + r) (by omega) (by omega))]
    exact ih x (fun i a b => h i a (by omega))
theorem gdv_at {V : VT} {lo k : Nat} (hk : lo ≤ k) (h1 : ¬ V 9 k = -1000000000) (h2 : ∀ i, lo ≤ i → i < k → V 9 i = -1000000000) : ∀ r x, k < lo + r → gdv V lo r x = V 9 k := by
  intro r
  induction r with
  | zero => intro x h; omega
  | succ r ih =>
    intro x h
    unfold gdv
    by_cases e : k = lo + r
    · subst e
      rw [if_neg h1]
      exact gdv_no r _ h2
    · exact ih _ (by omega)
theorem c_gd {V : VT} {lo hi : Nat} (hh : hi < 12) : ∀ r x f, lo + r ≤ hi + 1 → r < f → lp (f_X0_moveGroup_B6 (Int32.ofNat lo) (Int32.ofNat hi) V) f (x, Int32.ofNat (lo + r) - 1) = f_X0_moveGroup_j54 (Int32.ofNat lo) (Int32.ofNat hi) (gdv V lo r x) V := by
  intro r
  induction r with
  | zero =>
    intro x f hr hf
    obtain ⟨F, rfl⟩ : ∃ F, f = F + 1 := ⟨f - 1, by omega⟩
    refine lp_endX ?_
    have n1 : Int32.ofNat (lo + 0) - 1 < Int32.ofNat lo := by
      rw [Nat.add_zero]
      by_cases q : 1 ≤ lo
      · rw [m1_at q]; exact (nat_lt (by omega) (by omega)).mpr (by omega)
      · have e : lo = 0 := by omega
        rw [e]; decide
    unfold f_X0_moveGroup_B6
    rw [if_pos n1]
    rfl
  | succ r ih =>
    intro x f hr hf
    obtain ⟨F, rfl⟩ : ∃ F, f = F + 1 := ⟨f - 1, by omega⟩
    have ex : Int32.ofNat (lo + (r + 1)) - 1 = Int32.ofNat (lo + r) := m1_at (b := lo + (r + 1)) (by omega)
    have n1 : ¬ Int32.ofNat (lo + r) < Int32.ofNat lo := fun q => by have := (nat_lt (by omega) (by omega)).mp q; omega
    have n2 : ¬ Int32.ofNat (lo + r) < 0 := nat_nneg (by omega)
    have n3 : ¬ (12 : Int32) ≤ Int32.ofNat (lo + r) := fun q => by have := (nat_le (a := 12) (by omega) (by omega)).mp q; omega
    have ck : ckA 12 (Int32.ofNat (lo + r)) = some (lo + r) := ck_nat (by omega) (by omega)
    have e : f_X0_moveGroup_B6 (Int32.ofNat lo) (Int32.ofNat hi) V (x, Int32.ofNat (lo + r)) = some (.inl (if V 9 (lo + r) = -1000000000 then x else V 9 (lo + r), Int32.ofNat (lo + r) - 1)) := by
      by_cases q : V 9 (lo + r) = -1000000000
      · simp only [f_X0_moveGroup_B6, f_X0_moveGroup_j47, n1, n2, n3, ck, eq_true q, Int32.sub_eq_add_neg, bsm, if_true, if_false, ite_self, i10, i01, ite01, ite10, true_or, or_true, false_or, or_false, ite_not, not_true_eq_false, not_false_eq_true]
      · simp only [f_X0_moveGroup_B6, f_X0_moveGroup_j47, n1, n2, n3, ck, q, Int32.sub_eq_add_neg, bsm, if_true, if_false, ite_self, i10, i01, ite01, ite10, true_or, or_true, false_or, or_false, ite_not, not_true_eq_false, not_false_eq_true]
    rw [ex, lp_step e, ih _ F (by omega) (by omega)]
    rfl
