/-! shift: the reference; the relation behind it -/
def crr (S f : AT) (b F i : Nat) : AT := fun j => if j < i then S (21 * b + 5 + (F + j)) else f j
theorem crr_succ {S f : AT} {b F i : Nat} : upd (crr S f b F i) i (S (21 * b + 5 + (F + i))) = crr S f b F (i + 1) := by
  funext j; rw [upd_at]; unfold crr
  by_cases h : j = i
  · subst h; rw [if_pos rfl, if_pos (by omega)]
  · rw [if_neg h]
    by_cases h2 : j < i
    · rw [if_pos h2, if_pos (by omega)]
    · rw [if_neg h2, if_neg (by omega)]
def ptr (S z : AT) (b F T i : Nat) : AT := fun j => if 21 * b + 5 + T ≤ j ∧ j < 21 * b + 5 + T + i then S (21 * b + 5 + (F + (j - (21 * b + 5 + T)))) else z j
theorem ptr_0 {S z : AT} {b F T : Nat} : ptr S z b F T 0 = z := by funext j; unfold ptr; rw [if_neg (by omega)]
theorem ptr_succ {S z : AT} {b F T i : Nat} : upd (ptr S z b F T i) (21 * b + 5 + (T + i)) (S (21 * b + 5 + (F + i))) = ptr S z b F T (i + 1) := by
  funext j; rw [upd_at]; unfold ptr
  by_cases h : j = 21 * b + 5 + (T + i)
  · subst h
    rw [if_pos rfl, if_pos (by omega), show 21 * b + 5 + (T + i) - (21 * b + 5 + T) = i by omega]
  · rw [if_neg h]
    by_cases h2 : 21 * b + 5 + T ≤ j ∧ j < 21 * b + 5 + T + i
    · rw [if_pos h2, if_pos (by omega)]
    · rw [if_neg h2, if_neg (by omega)]
theorem ms_row5 {S0 : AT} {B : VT} {S : AT} {f s : Int32} {M : VT} (g : AT) (h : Ms S0 B S f s M) : Ms S0 B S f s (setRow M 5 g) := by
  obtain ⟨a0, a2, at_, f1, f2, b1, b3, b4, b6, c0, c1, c4⟩ := h
  refine ⟨?_, ?_, at_, ?_, ?_, ?_, ?_, ?_, ?_, ?_, ?_, ?_⟩
  · rw [setRow_ne (by omega)]; exact a0
  · intro q hq; rw [setRow_ne (by omega)]; exact a2 q hq
  all_goals rw [setRow_ne (by omega)]; assumption
def shiftX (v1 v2 v3 v4 t many : Int32) (V : VT) : Option (Int32 × VT) := (f_X12_is t (12 : Int32) V).bind fun r14 =>
  if r14.1 = 0 then ((some (0 : Int32)).bind fun a15 =>
  lp (f_X12_shift_B308 v1 v2 v3 v4 many) fuel (a15, r14.2)) else ((f_X12_refused r14.2).bind fun r39 =>
  some (r39.1, r39.2))
theorem m_takeLoop {n : Nat} {C : AT} {M : VT} {b F T N : Nat} (t : Int32) (h : GG n C (M 0)) (hb : b < 12) (hF : F + N ≤ 16) (hT : T + N ≤ 16) (ht : t = 1 ∧ (∃ i, i < N ∧ (stk (M 0) b F i ∨ wyP (M 0) b F T N i)) ∨ t = 0 ∧ ∀ i, i < N → ¬ (stk (M 0) b F i ∨ wyP (M 0) b F T N i)) : lp (f_X12_shift_B148 (Int32.ofNat b) (Int32.ofNat F) (Int32.ofNat T) (Int32.ofNat N)) fuel ((0 : Int32), (0 : Int32), (0 : Int32), M) = shiftX (Int32.ofNat b) (Int32.ofNat F) (Int32.ofNat T) (Int32.ofNat N) t (Int32.ofNat (cnt (cab (M 0) b F) N)) (setRow M 5 (crr (M 0) (M 5) b F N)) := by
  have step : ∀ i, i < N → ∀ tk : Int32, (tk = 0 ∨ tk = 1) → f_X12_shift_B148 (Int32.ofNat b) (Int32.ofNat F) (Int32.ofNat T) (Int32.ofNat N) (tk, Int32.ofNat (cnt (cab (M 0) b F) i), Int32.ofNat i, setRow M 5 (crr (M 0) (M 5) b F i)) = some (.inl (@ite _ (tk = 1 ∨ stk (M 0) b F i ∨ wyP (M 0) b F T N i) (Classical.propDecidable _) 1 0, Int32.ofNat (cnt (cab (M 0) b F) (i + 1)), Int32.ofNat (i + 1), setRow M 5 (crr (M 0) (M 5) b F (i + 1)))) := by
    intro i hi tk htk
    have n1 : ¬ Int32.ofNat N ≤ Int32.ofNat i := fun q => by have := (nat_le (by omega) (by omega)).mp q; omega
    have r0 : ∀ g : AT, setRow M 5 g 0 = M 0 := fun g => setRow_ne (by omega)
    have eh := m_held (M := setRow M 5 (crr (M 0) (M 5) b F i)) hb (p := F + i) (by omega)
    rw [r0] at eh
    have ek : ckA 16 (Int32.ofNat i) = some i := ck_nat (by omega) (by omega)
    have erow : u2 (setRow M 5 (crr (M 0) (M 5) b F i)) 5 i (M 0 (21 * b + 5 + (F + i))) = setRow M 5 (crr (M 0) (M 5) b F (i + 1)) := by rw [setRow_u2, crr_succ]
    have eh2 := m_held (M := setRow M 5 (crr (M 0) (M 5) b F (i + 1))) hb (p := T + i) (by omega)
    rw [r0] at eh2
    -- the last two parts of a round
    have last : ∀ s0 many : Int32, (s0 = 0 ∨ s0 = 1) → f_X12_shift_j226 (Int32.ofNat b) (Int32.ofNat F) (Int32.ofNat T) (Int32.ofNat N) many (Int32.ofNat i) s0 (setRow M 5 (crr (M 0) (M 5) b F (i + 1))) = some (.inl (@ite _ (s0 = 1 ∨ wyP (M 0) b F T N i) (Classical.propDecidable _) 1 0, many, Int32.ofNat (i + 1), setRow M 5 (crr (M 0) (M 5) b F (i + 1)))) := by
      intro s0 many hs0
      have base : f_X12_shift_j226 (Int32.ofNat b) (Int32.ofNat F) (Int32.ofNat T) (Int32.ofNat N) many (Int32.ofNat i) s0 (setRow M 5 (crr (M 0) (M 5) b F (i + 1))) = f_X12_shift_j252 (Int32.ofNat b) (Int32.ofNat F) (Int32.ofNat T) (Int32.ofNat N) s0 many (Int32.ofNat i) (if F ≤ T + i ∧ T + i < F + N then 1 else 0) (setRow M 5 (crr (M 0) (M 5) b F (i + 1))) := by
        unfold f_X12_shift_j226 f_X12_shift_j251
        rw [add32, add32]
        by_cases q1 : T + i < F
        · rw [if_pos ((nat_lt (by omega) (by omega)).mpr q1), if_neg (fun z => by omega)]
        · rw [if_neg (fun z => q1 ((nat_lt (by omega) (by omega)).mp z))]
          by_cases q2 : F + N ≤ T + i
          · rw [if_pos ((nat_le (by omega) (by omega)).mpr q2), if_neg (fun z => by omega)]
          · rw [if_neg (fun z => q2 ((nat_le (by omega) (by omega)).mp z)), if_pos (by omega)]
      rw [base]
      unfold f_X12_shift_j252 f_X12_shift_j280 f_X12_shift_j276 f_X12_shift_j281
      rcases hs0 with z | z
      · subst z
        rw [if_pos rfl]
        by_cases q : F ≤ T + i ∧ T + i < F + N
        · rw [if_pos q, if_neg (by decide), bsm, nat_succ, @if_neg _ (Classical.propDecidable _) (fun z => by rcases z with z | z; exact absurd z (by decide); exact z.1 q)]
        · rw [if_neg q, if_pos rfl, add32, eh2, bsm]
          by_cases q2 : M 0 (21 * b + 5 + (T + i)) = 0
          · rw [if_pos q2, bsm, nat_succ, @if_neg _ (Classical.propDecidable _) (fun z => by rcases z with z | z; exact absurd z (by decide); exact z.2 q2)]
          · rw [if_neg q2, bsm, nat_succ, @if_pos _ (Classical.propDecidable _) (Or.inr ⟨q, q2⟩)]
      · subst z
        rw [if_neg (by decide), bsm, nat_succ, @if_pos _ (Classical.propDecidable _) (Or.inl rfl)]
    have mid : ∀ s1 : Int32, Int32.ofNat (cnt (cab (M 0) b F) i) + s1 = Int32.ofNat (cnt (cab (M 0) b F) (i + 1)) → f_X12_shift_j188 (Int32.ofNat b) (Int32.ofNat F) (Int32.ofNat T) (Int32.ofNat N) tk (Int32.ofNat i) (M 0 (21 * b + 5 + (F + i))) (Int32.ofNat (cnt (cab (M 0) b F) i)) s1 (setRow M 5 (crr (M 0) (M 5) b F (i + 1))) = some (.inl (@ite _ (tk = 1 ∨ stk (M 0) b F i ∨ wyP (M 0) b F T N i) (Classical.propDecidable _) 1 0, Int32.ofNat (cnt (cab (M 0) b F) (i + 1)), Int32.ofNat (i + 1), setRow M 5 (crr (M 0) (M 5) b F (i + 1)))) := by
      intro s1 hs1
      unfold f_X12_shift_j188 f_X12_shift_j221 f_X12_shift_j225
      rw [hs1, bsm]
      have y1 : ∀ P Q : Prop, P → (@ite Int32 (1 = (1 : Int32) ∨ Q) (Classical.propDecidable _) 1 0) = @ite Int32 P (Classical.propDecidable _) 1 0 := fun P Q hp => by
        rw [@if_pos _ (Classical.propDecidable _) hp, @if_pos _ (Classical.propDecidable _) (Or.inl rfl)]
      have y0 : ∀ P Q : Prop, (P ↔ Q) → (@ite Int32 (0 = (1 : Int32) ∨ Q) (Classical.propDecidable _) 1 0) = @ite Int32 P (Classical.propDecidable _) 1 0 := fun P Q hp => by
        by_cases q : P
        · rw [@if_pos _ (Classical.propDecidable _) q, @if_pos _ (Classical.propDecidable _) (Or.inr (hp.mp q))]
        · rw [@if_neg _ (Classical.propDecidable _) q, @if_neg _ (Classical.propDecidable _) (fun z => by rcases z with z | z; exact absurd z (by decide); exact q (hp.mpr z))]
      rcases htk with z | z
      · subst z
        rw [if_pos rfl]
        by_cases w1 : M 0 (21 * b + 5 + (F + i)) = 1
        · rw [if_pos w1, last 1 _ (Or.inr rfl), y1 ((0 : Int32) = 1 ∨ stk (M 0) b F i ∨ wyP (M 0) b F T N i) (wyP (M 0) b F T N i) (Or.inr (Or.inl (Or.inl w1)))]
        · rw [if_neg w1]
          rcases low_ct h hb (p := F + i) (by omega) with ⟨hl, ho⟩ | ⟨hl, u, hu, hul, e⟩
          · rw [if_pos hl, last 0 _ (Or.inl rfl), y0 ((0 : Int32) = 1 ∨ stk (M 0) b F i ∨ wyP (M 0) b F T N i) (wyP (M 0) b F T N i) ⟨fun z => by
              rcases z with z | z | z
              · exact absurd z (by decide)
              · rcases z with z | ⟨u, hu, z, -⟩
                · exact absurd z w1
                · exact absurd z (ne_thing ho hu)
              · exact z, fun z => Or.inr (Or.inr z)⟩]
          · have t0 : f_X12_thingIs (Int32.ofNat u) 0 (setRow M 5 (crr (M 0) (M 5) b F (i + 1))) = some (M 0 (732 + 5 * u)) := by
              have := m_thingIs (M := setRow M 5 (crr (M 0) (M 5) b F (i + 1))) (c := 0) hu (by omega)
              rw [r0] at this; exact this
            rw [if_neg hl, e, sub2, t0, bsm]
            by_cases k4 : M 0 (732 + 5 * u) = 4
            · rw [if_pos k4, last 1 _ (Or.inr rfl), y1 ((0 : Int32) = 1 ∨ stk (M 0) b F i ∨ wyP (M 0) b F T N i) (wyP (M 0) b F T N i) (Or.inr (Or.inl (Or.inr ⟨u, hu, e, k4⟩)))]
            · rw [if_neg k4, last 0 _ (Or.inl rfl), y0 ((0 : Int32) = 1 ∨ stk (M 0) b F i ∨ wyP (M 0) b F T N i) (wyP (M 0) b F T N i) ⟨fun z => by
                rcases z with z | z | z
                · exact absurd z (by decide)
                · rcases z with z | ⟨u2, hu2, z, z4⟩
                  · exact absurd z w1
                  · have := thing_inj hu hu2 (e.symm.trans z)
                    subst this
                    exact absurd z4 k4
                · exact z, fun z => Or.inr (Or.inr z)⟩]
      · subst z
        rw [if_neg (by decide), last 1 _ (Or.inr rfl), y1 ((1 : Int32) = 1 ∨ stk (M 0) b F i ∨ wyP (M 0) b F T N i) (wyP (M 0) b F T N i) (Or.inl rfl)]
    unfold f_X12_shift_B148
    simp only [n1, if_false, add32, eh, ek, bsm, erow]
    by_cases q : M 0 (21 * b + 5 + (F + i)) < 2
    · rw [if_pos q]
      refine mid 0 ?_
      rw [cnt_succ, if_neg (show ¬ cab (M 0) b F i = true from fun z => (of_decide_eq_true z) q), Int32.add_zero]
    · rw [if_neg q]
      refine mid 1 ?_
      rw [cnt_succ, if_pos (show cab (M 0) b F i = true from decide_eq_true q), nat_succ]
  have e0 : setRow M 5 (crr (M 0) (M 5) b F 0) = M := by
    have : crr (M 0) (M 5) b F 0 = M 5 := by funext j; unfold crr; rw [if_neg (by omega)]
    rw [this, setRow_id]
  have fin : ∀ t, f_X12_shift_B148 (Int32.ofNat b) (Int32.ofNat F) (Int32.ofNat T) (Int32.ofNat N) (t, Int32.ofNat (cnt (cab (M 0) b F) N), Int32.ofNat N, setRow M 5 (crr (M 0) (M 5) b F N)) = (shiftX (Int32.ofNat b) (Int32.ofNat F) (Int32.ofNat T) (Int32.ofNat N) t (Int32.ofNat (cnt (cab (M 0) b F) N)) (setRow M 5 (crr (M 0) (M 5) b F N))).bind fun y => some (.inr y) := by
    intro t
    unfold f_X12_shift_B148 shiftX
    simp only [Int32.le_refl, if_true]
  rcases ht with ⟨rfl, k0, hk0, hy0⟩ | ⟨rfl, hno⟩
  · rcases first_of (fun i => stk (M 0) b F i ∨ wyP (M 0) b F T N i) N with hno | ⟨k, hk, h1, h2⟩
    · exact absurd hy0 (hno k0 hk0)
    · have key := lp_run (f := f_X12_shift_B148 (Int32.ofNat b) (Int32.ofNat F) (Int32.ofNat T) (Int32.ofNat N)) (X := shiftX (Int32.ofNat b) (Int32.ofNat F) (Int32.ofNat T) (Int32.ofNat N) 1 (Int32.ofNat (cnt (cab (M 0) b F) N)) (setRow M 5 (crr (M 0) (M 5) b F N))) (fun i => (if k < i then 1 else 0, Int32.ofNat (cnt (cab (M 0) b F) i), Int32.ofNat i, setRow M 5 (crr (M 0) (M 5) b F i))) N 0 fuel (fun i _ hi => ?_) ?_ (fuel_big (by omega))
      · simp only [e0] at key
        exact key
      · have st := step i (by omega) (if k < i then 1 else 0) (by split; exact Or.inr rfl; exact Or.inl rfl)
        rw [st]
        rcases (show i < k ∨ i = k ∨ k < i by omega) with q | q | q
        · rw [if_neg (show ¬ k < i + 1 by omega), @if_neg _ (Classical.propDecidable _) (fun z => by
            rcases z with z | z
            · rw [if_neg (by omega)] at z; exact absurd z (by decide)
            · exact h2 i q z)]
        · subst q
          rw [if_pos (show i < i + 1 by omega), @if_pos _ (Classical.propDecidable _) (Or.inr h1)]
        · rw [if_pos (show k < i + 1 by omega), @if_pos _ (Classical.propDecidable _) (Or.inl (by rw [if_pos q]))]
      · rw [Nat.zero_add]
        simp only [hk, if_true]
        exact fin 1
  · have key := lp_run (f := f_X12_shift_B148 (Int32.ofNat b) (Int32.ofNat F) (Int32.ofNat T) (Int32.ofNat N)) (X := shiftX (Int32.ofNat b) (Int32.ofNat F) (Int32.ofNat T) (Int32.ofNat N) 0 (Int32.ofNat (cnt (cab (M 0) b F) N)) (setRow M 5 (crr (M 0) (M 5) b F N))) (fun i => (0, Int32.ofNat (cnt (cab (M 0) b F) i), Int32.ofNat i, setRow M 5 (crr (M 0) (M 5) b F i))) N 0 fuel (fun i _ hi => ?_) ?_ (fuel_big (by omega))
    · simp only [e0] at key
      exact key
    · rw [step i (by omega) 0 (Or.inl rfl), @if_neg _ (Classical.propDecidable _) (fun z => by
        rcases z with z | z
        · exact absurd z (by decide)
        · exact hno i (by omega) z)]
    · rw [Nat.zero_add]
      exact fin 0
theorem m_zero {M : VT} {b F N : Nat} (v3 v7 : Int32) (hb : b < 12) (hF : F + N ≤ 16) : lp (f_X12_shift_B308 (Int32.ofNat b) (Int32.ofNat F) v3 (Int32.ofNat N) v7) fuel ((0 : Int32), M) = lp (f_X12_shift_B334 (Int32.ofNat b) v3 (Int32.ofNat N) v7) fuel ((0 : Int32), setRow M 0 (fil (M 0) (21 * b + 5 + F) 0 N)) := by
  have e0 : setRow M 0 (fil (M 0) (21 * b + 5 + F) 0 0) = M := by rw [fil_0, setRow_id]
  have key := lp_run (f := f_X12_shift_B308 (Int32.ofNat b) (Int32.ofNat F) v3 (Int32.ofNat N) v7) (X := lp (f_X12_shift_B334 (Int32.ofNat b) v3 (Int32.ofNat N) v7) fuel ((0 : Int32), setRow M 0 (fil (M 0) (21 * b + 5 + F) 0 N))) (fun i => (Int32.ofNat i, setRow M 0 (fil (M 0) (21 * b + 5 + F) 0 i))) N 0 fuel (fun i _ hi => ?_) ?_ (fuel_big (by omega))
  · simp only [e0] at key
    exact key
  · have n1 : ¬ Int32.ofNat N ≤ Int32.ofNat i := fun q => by have := (nat_le (by omega) (by omega)).mp q; omega
    have ep := m_put (M := setRow M 0 (fil (M 0) (21 * b + 5 + F) 0 i)) 0 hb (p := F + i) (by omega)
    rw [setRow_u2, show 21 * b + 5 + (F + i) = 21 * b + 5 + F + i by omega, fil_succ] at ep
    simp only [f_X12_shift_B308, n1, if_false, add32, ep, bsm, nat_succ]
  · rw [Nat.zero_add]
    unfold f_X12_shift_B308
    simp only [Int32.le_refl, if_true, bsm]
theorem m_drop {M : VT} {S : AT} {b F T N : Nat} (v7 : Int32) (hb : b < 12) (hT : T + N ≤ 16) (h5 : ∀ j, j < N → M 5 j = S (21 * b + 5 + (F + j))) : lp (f_X12_shift_B334 (Int32.ofNat b) (Int32.ofNat T) (Int32.ofNat N) v7) fuel ((0 : Int32), M) = lp (f_X12_shift_B369 (Int32.ofNat b) (Int32.ofNat T) (Int32.ofNat N) v7 (setRow M 0 (ptr S (M 0) b F T N))) fuel ((-1 : Int32), (0 : Int32)) := by
  have e0 : setRow M 0 (ptr S (M 0) b F T 0) = M := by rw [ptr_0, setRow_id]
  have key := lp_run (f := f_X12_shift_B334 (Int32.ofNat b) (Int32.ofNat T) (Int32.ofNat N) v7) (X := lp (f_X12_shift_B369 (Int32.ofNat b) (Int32.ofNat T) (Int32.ofNat N) v7 (setRow M 0 (ptr S (M 0) b F T N))) fuel ((-1 : Int32), (0 : Int32))) (fun i => (Int32.ofNat i, setRow M 0 (ptr S (M 0) b F T i))) N 0 fuel (fun i _ hi => ?_) ?_ (fuel_big (by omega))
  · simp only [e0] at key
    exact key
  · have n1 : ¬ Int32.ofNat N ≤ Int32.ofNat i := fun q => by have := (nat_le (by omega) (by omega)).mp q; omega
    have ek : ckA 16 (Int32.ofNat i) = some i := ck_nat (by omega) (by omega)
    have e5 : setRow M 0 (ptr S (M 0) b F T i) 5 i = S (21 * b + 5 + (F + i)) := by rw [setRow_ne (by omega)]; exact h5 i (by omega)
    have ep := m_put (M := setRow M 0 (ptr S (M 0) b F T i)) (S (21 * b + 5 + (F + i))) hb (p := T + i) (by omega)
    rw [setRow_u2, ptr_succ] at ep
    simp only [f_X12_shift_B334, n1, if_false, ek, add32, e5, ep, bsm, nat_succ]
  · rw [Nat.zero_add]
    unfold f_X12_shift_B334
    simp only [Int32.le_refl, if_true, bsm]
theorem m_clLoop {n : Nat} {C : AT} {M : VT} {b T N : Nat} (v7 : Int32) (h : GG n C (M 0)) (hb : b < 12) (hT : T + N ≤ 16) : lp (f_X12_shift_B369 (Int32.ofNat b) (Int32.ofNat T) (Int32.ofNat N) v7 M) fuel ((-1 : Int32), (0 : Int32)) = if o32 (-1) (ckf (M 0) b T none N) < 0 then f_X12_shift_j409 (Int32.ofNat b) v7 (o32 (-1) (ckf (M 0) b T none N)) 0 M else f_X12_shift_j409 (Int32.ofNat b) v7 (o32 (-1) (ckf (M 0) b T none N)) 1 M := by
  have h0 : ∀ a, (none : Option Nat) = some a → a < 80 := fun a ha => by cases ha
  refine lp_run (fun i => (o32 (-1) (ckf (M 0) b T none i), Int32.ofNat i)) N 0 fuel (fun i _ hi => ?_) ?_ (fuel_big (by omega))
  · have n1 : ¬ Int32.ofNat N ≤ Int32.ofNat i := fun q => by have := (nat_le (by omega) (by omega)).mp q; omega
    have ec := m_clashing h hb (p := T + i) (by omega)
    have els := m_lesserP (V := M) (ckf_lt (fr := T) h hb h0 i (by omega)) (ck_lt h hb (p := T + i) (by omega) h0).2
    have e9 : ckf (M 0) b T none (i + 1) = lsP (ckf (M 0) b T none i) (ck2 (M 0) b (T + i) none) := ck2_P
    rw [e9]
    simp only [f_X12_shift_B369, n1, if_false, add32, ec, els, bsm, nat_succ]
  · rw [Nat.zero_add]
    simp only [f_X12_shift_B369, Int32.le_refl, if_true]
