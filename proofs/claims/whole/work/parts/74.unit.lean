/-! go: why a group stops, before one unit's way -/
def SC (V V2 : VT) : Prop := (∀ k, k ≠ 11 → V2 k = V k) ∧ ∀ i, i ≠ 8 → i ≠ 9 → i ≠ 10 → V2 11 i = V 11 i
theorem SC.rf {V : VT} : SC V V := ⟨fun _ _ => rfl, fun _ _ _ _ => rfl⟩
theorem SC.tr {V V2 V3 : VT} (h : SC V V2) (h2 : SC V2 V3) : SC V V3 := ⟨fun k a => (h2.1 k a).trans (h.1 k a), fun i a b c => (h2.2 i a b c).trans (h.2 i a b c)⟩
theorem sc_u {V : VT} {i : Nat} (x : Int32) (hi : i = 8 ∨ i = 9 ∨ i = 10) : SC V (u2 V 11 i x) := ⟨fun k hk => u2_ne hk, fun j a b c => by rw [u2_at, if_neg (by omega)]⟩
theorem sc_st {O : AT} {B : VT} {z : Nat} {C : AT} {f s : Int32} {V V2 : VT} (h : St O B z C f s V) (hs : SC V V2) : St O B z C f s V2 := st_scr h (fun k hk => hs.1 k (by omega)) (hs.1 10 (by omega)) (fun i hi => hs.2 i (by omega) (by omega) (by omega))
def RW (S : AT) (V : VT) : Prop := ∀ b, b < 12 → V 6 b = (if tdb S b = true then 1 else 0) ∧ V 7 b = (if bal (l16 S b 16) (S (21 * b + 4)).toInt then 1 else 0) ∧ V 8 b = (if hdb S b = true then 1 else 0)
theorem rw_sc {S : AT} {V V2 : VT} (h : RW S V) (hs : SC V V2) : RW S V2 := fun b hb => by
  rw [hs.1 6 (by omega), hs.1 7 (by omega), hs.1 8 (by omega)]; exact h b hb
theorem rw_un {n : Nat} {C S S2 : AT} {V : VT} (hg : GG n C S) (hu : UN S S2) (h : RW S V) : RW S2 V := fun b hb => by
  rw [un_tdb hu hb, un_l16 hg hu hb 16 (Nat.le_refl _), un_hdb hg hu hb, hu (21 * b + 4) (fun _ _ => by omega) (fun _ _ => by omega) (by omega)]; exact h b hb
theorem first_in (P : Nat → Prop) {lo hi : Nat} (hl : lo ≤ hi + 1) : ∃ k, lo ≤ k ∧ k ≤ hi + 1 ∧ (∀ i, lo ≤ i → i < k → ¬ P i) ∧ (k ≤ hi → P k) := by
  rcases first_of (fun i => P (lo + i)) (hi + 1 - lo) with h | ⟨k, hk, h1, h2⟩
  · refine ⟨hi + 1, hl, Nat.le_refl _, fun i a b q => h (i - lo) (by omega) ?_, fun q => by omega⟩
    show P (lo + (i - lo)); rw [show lo + (i - lo) = i by omega]; exact q
  · refine ⟨lo + k, by omega, by omega, fun i a b q => h2 (i - lo) (by omega) ?_, fun _ => h1⟩
    show P (lo + (i - lo)); rw [show lo + (i - lo) = i by omega]; exact q
theorem scan {Y : Type} {f : Int32 → Option (Int32 ⊕ Y)} {X : Option Y} {lo : Nat} (k : Nat) (hk : lo ≤ k) (hb : k ≤ 100) (h1 : ∀ i, lo ≤ i → i < k → f (Int32.ofNat i) = some (.inl (Int32.ofNat (i + 1)))) (h2 : f (Int32.ofNat k) = X.bind fun y => some (.inr y)) : lp f fuel (Int32.ofNat lo) = X := by
  have key := lp_run (f := f) (X := X) (fun i => Int32.ofNat i) (k - lo) lo fuel (fun i a b => h1 i a (by omega)) (by rw [show lo + (k - lo) = k by omega]; exact h2) (fuel_big (by omega))
  exact key
/-! the three first reasons -/
def P1 (S : AT) (d : Int32) (i : Nat) : Prop := S (21 * i + 3) + d < 0 ∨ 100 < S (21 * i + 3) + d
theorem c_w3 {V : VT} {S : AT} {lo hi k : Nat} (hr : RW S V) (hk : lo ≤ k) (hh : hi < 12) (hkh : k ≤ hi + 1) (h1 : ∀ i, lo ≤ i → i < k → hdb S i = true) (h2 : k ≤ hi → ¬ hdb S k = true) : lp (f_X0_whyStop_B115 (Int32.ofNat hi) V) fuel (Int32.ofNat lo) = if k ≤ hi then some (3, u2 V 11 8 (Int32.ofNat k)) else some (0, V) := by
  refine scan k hk (by omega) (fun i a b => ?_) ?_
  · have n1 : ¬ Int32.ofNat hi < Int32.ofNat i := fun q => by have := (nat_lt (by omega) (by omega)).mp q; omega
    have n2 : ¬ (12 : Int32) ≤ Int32.ofNat i := fun q => by have := (nat_le (a := 12) (by omega) (by omega)).mp q; omega
    have ck : ckA 12 (Int32.ofNat i) = some i := ck_nat (by omega) (by omega)
    have r := (hr i (by omega)).2.2
    rw [if_pos (h1 i a b)] at r
    simp only [f_X0_whyStop_B115, n1, n2, ck, r, nat_succ, bsm, if_true, if_false, ite_self, i10, i01, ite01, ite10, true_or, or_true, false_or, or_false, ite_not, not_true_eq_false, not_false_eq_true]
  · by_cases q : k ≤ hi
    · have n1 : ¬ Int32.ofNat hi < Int32.ofNat k := fun q => by have := (nat_lt (by omega) (by omega)).mp q; omega
      have n2 : ¬ (12 : Int32) ≤ Int32.ofNat k := fun q => by have := (nat_le (a := 12) (by omega) (by omega)).mp q; omega
      have ck : ckA 12 (Int32.ofNat k) = some k := ck_nat (by omega) (by omega)
      have r := (hr k (by omega)).2.2
      rw [if_neg (h2 q)] at r
      rw [if_pos q]
      simp only [f_X0_whyStop_B115, n1, n2, ck, r, bsm, if_true, if_false, ite_self, i10, i01, ite01, ite10, true_or, or_true, false_or, or_false, ite_not, not_true_eq_false, not_false_eq_true]
    · have n1 : Int32.ofNat hi < Int32.ofNat k := (nat_lt (by omega) (by omega)).mpr (by omega)
      rw [if_neg q]
      simp only [f_X0_whyStop_B115, n1, bsm, if_true, if_false, ite_self, i10, i01, ite01, ite10, true_or, or_true, false_or, or_false, ite_not, not_true_eq_false, not_false_eq_true]
theorem c_w2 {V : VT} {S : AT} {lo hi k : Nat} (hr : RW S V) (hk : lo ≤ k) (hh : hi < 12) (hkh : k ≤ hi + 1) (h1 : ∀ i, lo ≤ i → i < k → bal (l16 S i 16) (S (21 * i + 4)).toInt) (h2 : k ≤ hi → ¬ bal (l16 S k 16) (S (21 * k + 4)).toInt) : lp (f_X0_whyStop_B71 (Int32.ofNat lo) (Int32.ofNat hi) V) fuel (Int32.ofNat lo) = if k ≤ hi then some (2, u2 V 11 8 (Int32.ofNat k)) else lp (f_X0_whyStop_B115 (Int32.ofNat hi) V) fuel (Int32.ofNat lo) := by
  refine scan k hk (by omega) (fun i a b => ?_) ?_
  · have n1 : ¬ Int32.ofNat hi < Int32.ofNat i := fun q => by have := (nat_lt (by omega) (by omega)).mp q; omega
    have n2 : ¬ (12 : Int32) ≤ Int32.ofNat i := fun q => by have := (nat_le (a := 12) (by omega) (by omega)).mp q; omega
    have ck : ckA 12 (Int32.ofNat i) = some i := ck_nat (by omega) (by omega)
    have r := (hr i (by omega)).2.1
    rw [if_pos (h1 i a b)] at r
    simp only [f_X0_whyStop_B71, n1, n2, ck, r, nat_succ, bsm, if_true, if_false, ite_self, i10, i01, ite01, ite10, true_or, or_true, false_or, or_false, ite_not, not_true_eq_false, not_false_eq_true]
  · by_cases q : k ≤ hi
    · have n1 : ¬ Int32.ofNat hi < Int32.ofNat k := fun q => by have := (nat_lt (by omega) (by omega)).mp q; omega
      have n2 : ¬ (12 : Int32) ≤ Int32.ofNat k := fun q => by have := (nat_le (a := 12) (by omega) (by omega)).mp q; omega
      have ck : ckA 12 (Int32.ofNat k) = some k := ck_nat (by omega) (by omega)
      have r := (hr k (by omega)).2.1
      rw [if_neg (h2 q)] at r
      rw [if_pos q]
      simp only [f_X0_whyStop_B71, n1, n2, ck, r, bsm, if_true, if_false, ite_self, i10, i01, ite01, ite10, true_or, or_true, false_or, or_false, ite_not, not_true_eq_false, not_false_eq_true]
    · have n1 : Int32.ofNat hi < Int32.ofNat k := (nat_lt (by omega) (by omega)).mpr (by omega)
      have nn : ¬ Int32.ofNat lo < 0 := nat_nneg (by omega)
      rw [if_neg q]
      simp only [f_X0_whyStop_B71, f_X0_whyStop_j108, n1, nn, bsm, if_true, if_false, ite_self, i10, i01, ite01, ite10, true_or, or_true, false_or, or_false, ite_not, not_true_eq_false, not_false_eq_true]
theorem c_w1 {V : VT} {S : AT} {d : Int32} {lo hi k : Nat} (hg : GG 1000 (V 0) S) (hk : lo ≤ k) (hh : hi < 12) (hkh : k ≤ hi + 1) (h1 : ∀ i, lo ≤ i → i < k → ¬ P1 S d i) (h2 : k ≤ hi → P1 S d k) : lp (f_X0_whyStop_B15 (Int32.ofNat lo) (Int32.ofNat hi) d V) fuel (Int32.ofNat lo) = if k ≤ hi then some (1, u2 V 11 8 (Int32.ofNat k)) else lp (f_X0_whyStop_B71 (Int32.ofNat lo) (Int32.ofNat hi) V) fuel (Int32.ofNat lo) := by
  have eg : ∀ i, i < 12 → f_X7_get 0 12 4 (Int32.ofNat i) 2 V = some (S (21 * i + 3)) := fun i hi => by rw [← hg.1.rb2 i hi]; exact gbar (c := 2) hi (by omega)
  refine scan k hk (by omega) (fun i a b => ?_) ?_
  · have n1 : ¬ Int32.ofNat hi < Int32.ofNat i := fun q => by have := (nat_lt (by omega) (by omega)).mp q; omega
    have e := eg i (by omega)
    have q1 : ¬ S (21 * i + 3) + d < 0 := fun q => h1 i a b (Or.inl q)
    have q2 : ¬ 100 < S (21 * i + 3) + d := fun q => h1 i a b (Or.inr q)
    simp only [f_X0_whyStop_B15, n1, e, q1, q2, nat_succ, bsm, if_true, if_false, ite_self, i10, i01, ite01, ite10, true_or, or_true, false_or, or_false, leN, ite_not, not_true_eq_false, not_false_eq_true]
  · by_cases q : k ≤ hi
    · have n1 : ¬ Int32.ofNat hi < Int32.ofNat k := fun q => by have := (nat_lt (by omega) (by omega)).mp q; omega
      have e := eg k (by omega)
      rw [if_pos q]
      by_cases q1 : S (21 * k + 3) + d < 0
      · simp only [f_X0_whyStop_B15, f_X0_whyStop_j50, n1, e, q1, bsm, if_true, if_false, ite_self, i10, i01, ite01, ite10, true_or, or_true, false_or, or_false, leN, ite_not, not_true_eq_false, not_false_eq_true]
      · have q2 : 100 < S (21 * k + 3) + d := (h2 q).resolve_left q1
        simp only [f_X0_whyStop_B15, f_X0_whyStop_j50, n1, e, q1, q2, bsm, if_true, if_false, ite_self, i10, i01, ite01, ite10, true_or, or_true, false_or, or_false, leN, ite_not, not_true_eq_false, not_false_eq_true]
    · have n1 : Int32.ofNat hi < Int32.ofNat k := (nat_lt (by omega) (by omega)).mpr (by omega)
      have nn : ¬ Int32.ofNat lo < 0 := nat_nneg (by omega)
      rw [if_neg q]
      simp only [f_X0_whyStop_B15, n1, nn, bsm, if_true, if_false, ite_self, i10, i01, ite01, ite10, true_or, or_true, false_or, or_false, ite_not, not_true_eq_false, not_false_eq_true]
theorem m_s3 {C : AT} {M : VT} {d : Int32} {lo hi k m : Nat} (hg : GG 1000 C (M 0)) (hk : lo ≤ k) (hh : hi < 12) (hkh : k ≤ hi + 1) (h1 : ∀ i, lo ≤ i → i < k → hdb (M 0) i = true) (h2 : k ≤ hi → ¬ hdb (M 0) k = true) (hm : m ≤ 2000000) (hN : M 0 1643 = Int32.ofNat m) : lp (f_X12_stops_B97 (Int32.ofNat lo) (Int32.ofNat hi) d M) fuel (Int32.ofNat lo) = if k ≤ hi then some (1, setRow M 0 (ntS (M 0) m 3 (Int32.ofNat k) (-1000000000) (-1000000000))) else lp (f_X12_stops_B134 (Int32.ofNat lo) (Int32.ofNat hi) d M) fuel (Int32.ofNat lo) := by
  refine scan k hk (by omega) (fun i a b => ?_) ?_
  · have n1 : ¬ Int32.ofNat hi < Int32.ofNat i := fun q => by have := (nat_lt (by omega) (by omega)).mp q; omega
    have e := m_isHeld hg (b := i) (by omega)
    rw [if_pos (h1 i a b)] at e
    simp only [f_X12_stops_B97, n1, e, nat_succ, bsm, if_true, if_false, ite_self, i10, i01, ite01, ite10, true_or, or_true, false_or, or_false, ite_not, not_true_eq_false, not_false_eq_true]
  · by_cases q : k ≤ hi
    · have n1 : ¬ Int32.ofNat hi < Int32.ofNat k := fun q => by have := (nat_lt (by omega) (by omega)).mp q; omega
      have e := m_isHeld hg (b := k) (by omega)
      rw [if_neg (h2 q)] at e
      rw [if_pos q]
      simp only [f_X12_stops_B97, n1, e, m_note 3 (Int32.ofNat k) (-1000000000) (-1000000000) hm hN, bsm, if_true, if_false, ite_self, i10, i01, ite01, ite10, true_or, or_true, false_or, or_false, ite_not, not_true_eq_false, not_false_eq_true]
    · have n1 : Int32.ofNat hi < Int32.ofNat k := (nat_lt (by omega) (by omega)).mpr (by omega)
      rw [if_neg q]
      simp only [f_X12_stops_B97, n1, bsm, if_true, if_false, ite_self, i10, i01, ite01, ite10, true_or, or_true, false_or, or_false, ite_not, not_true_eq_false, not_false_eq_true]
theorem m_s2 {C : AT} {M : VT} {d : Int32} {lo hi k m : Nat} (hg : GG 1000 C (M 0)) (hk : lo ≤ k) (hh : hi < 12) (hkh : k ≤ hi + 1) (h1 : ∀ i, lo ≤ i → i < k → bal (l16 (M 0) i 16) (M 0 (21 * i + 4)).toInt) (h2 : k ≤ hi → ¬ bal (l16 (M 0) k 16) (M 0 (21 * k + 4)).toInt) (hm : m ≤ 2000000) (hN : M 0 1643 = Int32.ofNat m) : lp (f_X12_stops_B48 (Int32.ofNat lo) (Int32.ofNat hi) d M) fuel (Int32.ofNat lo) = if k ≤ hi then some (1, setRow M 0 (ntS (M 0) m 2 (Int32.ofNat k) (-1000000000) (-1000000000))) else lp (f_X12_stops_B97 (Int32.ofNat lo) (Int32.ofNat hi) d M) fuel (Int32.ofNat lo) := by
  have eB : ∀ i, i < 12 → f_X12_isBalanced (Int32.ofNat i) (M 0 (21 * i + 4)) M = some (if bal (l16 (M 0) i 16) (M 0 (21 * i + 4)).toInt then 1 else 0) := fun i hi => m_balanced hg hi (by
    obtain ⟨z, -, hz, ez⟩ := hg.2.wb4k i hi
    rw [ez, ti_nat (by omega)]; omega)
  have ek : ∀ i, i < 12 → ckA 1646 (Int32.ofNat (21 * i) + 4) = some (21 * i + 4) := fun i hi => ck_lit (Int32.ofNat_add (21 * i) 4).symm (by omega) (by omega)
  refine scan k hk (by omega) (fun i a b => ?_) ?_
  · have n1 : ¬ Int32.ofNat hi < Int32.ofNat i := fun q => by have := (nat_lt (by omega) (by omega)).mp q; omega
    have e := eB i (by omega)
    rw [if_pos (h1 i a b)] at e
    simp only [f_X12_stops_B48, n1, m_bar0, ek i (by omega), e, nat_succ, bsm, if_true, if_false, ite_self, i10, i01, ite01, ite10, true_or, or_true, false_or, or_false, ite_not, not_true_eq_false, not_false_eq_true]
  · by_cases q : k ≤ hi
    · have n1 : ¬ Int32.ofNat hi < Int32.ofNat k := fun q => by have := (nat_lt (by omega) (by omega)).mp q; omega
      have e := eB k (by omega)
      rw [if_neg (h2 q)] at e
      rw [if_pos q]
      simp only [f_X12_stops_B48, n1, m_bar0, ek k (by omega), e, m_note 2 (Int32.ofNat k) (-1000000000) (-1000000000) hm hN, bsm, if_true, if_false, ite_self, i10, i01, ite01, ite10, true_or, or_true, false_or, or_false, ite_not, not_true_eq_false, not_false_eq_true]
    · have n1 : Int32.ofNat hi < Int32.ofNat k := (nat_lt (by omega) (by omega)).mpr (by omega)
      rw [if_neg q]
      simp only [f_X12_stops_B48, n1, bsm, if_true, if_false, ite_self, i10, i01, ite01, ite10, true_or, or_true, false_or, or_false, ite_not, not_true_eq_false, not_false_eq_true]
theorem m_s1 {M : VT} {d : Int32} {lo hi k m : Nat} (hk : lo ≤ k) (hh : hi < 12) (hkh : k ≤ hi + 1) (h1 : ∀ i, lo ≤ i → i < k → ¬ P1 (M 0) d i) (h2 : k ≤ hi → P1 (M 0) d k) (hm : m ≤ 2000000) (hN : M 0 1643 = Int32.ofNat m) : f_X12_stops (Int32.ofNat lo) (Int32.ofNat hi) d M = if k ≤ hi then some (1, setRow M 0 (ntS (M 0) m 1 (Int32.ofNat k) (-1000000000) (-1000000000))) else lp (f_X12_stops_B48 (Int32.ofNat lo) (Int32.ofNat hi) d M) fuel (Int32.ofNat lo) := by
  unfold f_X12_stops
  refine scan k hk (by omega) (fun i a b => ?_) ?_
  · have n1 : ¬ Int32.ofNat hi < Int32.ofNat i := fun q => by have := (nat_lt (by omega) (by omega)).mp q; omega
    have e := m_height (M := M) (b := i) (by omega)
    have e2 := in_eq (v := M 0 (21 * i + 3) + d) (a := 0) (b := 100) (M := M)
    rw [if_neg (show ¬ (M 0 (21 * i + 3) + d < 0 ∨ 100 < M 0 (21 * i + 3) + d) from h1 i a b)] at e2
    simp only [f_X12_stops_B3, n1, e, e2, nat_succ, bsm, if_true, if_false, ite_self, i10, i01, ite01, ite10, true_or, or_true, false_or, or_false, ite_not, not_true_eq_false, not_false_eq_true]
  · by_cases q : k ≤ hi
    · have n1 : ¬ Int32.ofNat hi < Int32.ofNat k := fun q => by have := (nat_lt (by omega) (by omega)).mp q; omega
      have e := m_height (M := M) (b := k) (by omega)
      have e2 := in_eq (v := M 0 (21 * k + 3) + d) (a := 0) (b := 100) (M := M)
      rw [if_pos (show (M 0 (21 * k + 3) + d < 0 ∨ 100 < M 0 (21 * k + 3) + d) from h2 q)] at e2
      rw [if_pos q]
      simp only [f_X12_stops_B3, n1, e, e2, m_note 1 (Int32.ofNat k) (-1000000000) (-1000000000) hm hN, bsm, if_true, if_false, ite_self, i10, i01, ite01, ite10, true_or, or_true, false_or, or_false, ite_not, not_true_eq_false, not_false_eq_true]
    · have n1 : Int32.ofNat hi < Int32.ofNat k := (nat_lt (by omega) (by omega)).mpr (by omega)
      rw [if_neg q]
      simp only [f_X12_stops_B3, n1, bsm, if_true, if_false, ite_self, i10, i01, ite01, ite10, true_or, or_true, false_or, or_false, ite_not, not_true_eq_false, not_false_eq_true]
theorem why_both {V M : VT} {d : Int32} {lo hi m : Nat} (hg : GG 1000 (V 0) (M 0)) (hr : RW (M 0) V) (hlo : lo ≤ hi) (hh : hi < 12) (hm : m ≤ 2000000) (hN : M 0 1643 = Int32.ofNat m) : (∃ (w : Int32) (k : Nat), w ≠ 0 ∧ f_X0_whyStop (Int32.ofNat lo) (Int32.ofNat hi) d V = some (w, u2 (u2 (u2 V 11 9 (-1000000000)) 11 10 (-1000000000)) 11 8 (Int32.ofNat k)) ∧ f_X12_stops (Int32.ofNat lo) (Int32.ofNat hi) d M = some (1, setRow M 0 (ntS (M 0) m w (Int32.ofNat k) (-1000000000) (-1000000000)))) ∨ ((∀ i, lo ≤ i → i ≤ hi → ¬ P1 (M 0) d i) ∧ f_X0_whyStop (Int32.ofNat lo) (Int32.ofNat hi) d V = some (0, u2 (u2 V 11 9 (-1000000000)) 11 10 (-1000000000)) ∧ f_X12_stops (Int32.ofNat lo) (Int32.ofNat hi) d M = lp (f_X12_stops_B134 (Int32.ofNat lo) (Int32.ofNat hi) d M) fuel (Int32.ofNat lo)) := by
  have hs : SC V (u2 (u2 V 11 9 (-1000000000)) 11 10 (-1000000000)) := (sc_u _ (by omega)).tr (sc_u _ (by omega))
  unfold f_X0_whyStop
  generalize u2 (u2 V 11 9 (-1000000000)) 11 10 (-1000000000) = W at hs
  have hgW : GG 1000 (W 0) (M 0) := by rw [hs.1 0 (by omega)]; exact hg
  have hrW := rw_sc hr hs
  obtain ⟨k1, a1, b1, c1, d1⟩ := first_in (P1 (M 0) d) (lo := lo) (hi := hi) (by omega)
  rw [c_w1 hgW a1 hh b1 c1 d1, m_s1 a1 hh b1 c1 d1 hm hN]
  by_cases q1 : k1 ≤ hi
  · rw [if_pos q1, if_pos q1]
    exact Or.inl ⟨1, k1, by decide, rfl, rfl⟩
  · rw [if_neg q1, if_neg q1]
    obtain ⟨k2, a2, b2, c2, d2⟩ := first_in (fun i => ¬ bal (l16 (M 0) i 16) (M 0 (21 * i + 4)).toInt) (lo := lo) (hi := hi) (by omega)
    have c2 : ∀ i, lo ≤ i → i < k2 → bal (l16 (M 0) i 16) (M 0 (21 * i + 4)).toInt := fun i x y => Classical.byContradiction (c2 i x y)
    rw [c_w2 hrW a2 hh b2 c2 d2, m_s2 hgW a2 hh b2 c2 d2 hm hN]
    by_cases q2 : k2 ≤ hi
    · rw [if_pos q2, if_pos q2]
      exact Or.inl ⟨2, k2, by decide, rfl, rfl⟩
    · rw [if_neg q2, if_neg q2]
      obtain ⟨k3, a3, b3, c3, d3⟩ := first_in (fun i => ¬ hdb (M 0) i = true) (lo := lo) (hi := hi) (by omega)
      have c3 : ∀ i, lo ≤ i → i < k3 → hdb (M 0) i = true := fun i x y => Classical.byContradiction (c3 i x y)
      rw [c_w3 hrW a3 hh b3 c3 d3, m_s3 hgW a3 hh b3 c3 d3 hm hN]
      by_cases q3 : k3 ≤ hi
      · rw [if_pos q3, if_pos q3]
        exact Or.inl ⟨3, k3, by decide, rfl, rfl⟩
      · rw [if_neg q3, if_neg q3]
        exact Or.inr ⟨fun i x y => c1 i x (by omega), rfl, rfl⟩
