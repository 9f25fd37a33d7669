/-! shares -/
theorem l64 {n : Nat} (h : n < 2147483648) : Int32.toInt64 (Int32.ofNat n) = Int64.ofNat n := by
  rw [← Int64.toInt_inj, Int32.toInt_toInt64, ti_nat h, Int64.toInt_ofNat_of_lt (by omega)]
theorem t64 {n : Nat} (h : n < 9223372036854775808) : (Int64.ofNat n).toInt = (n : Int) := Int64.toInt_ofNat_of_lt (by omega)
def gm (S : AT) (t : Nat) : Nat := b16 (S (732 + 5 * t)) (S (732 + 5 * t + 3)).toNatClampNeg / 16
theorem gm_ok {n : Nat} {C S : AT} {t : Nat} (h : GG n C S) (ht : t < 80) (htl : Int32.ofNat t < S 1641) : C (720 + 8 * t + 4) = Int32.ofNat (gm S t) ∧ gm S t ≤ 50000 := by
  obtain ⟨e, -, he, e3⟩ := h.2.wt3 t ht htl
  have hb : b16 (S (732 + 5 * t)) e ≤ 800000 := by unfold b16; split <;> omega
  have e5 : (Int32.ofNat e).toNatClampNeg = e := tn_nat (by omega)
  unfold gm
  rw [h.1.rg t ht htl, e3, e5]
  exact ⟨fv_f2i (fv_burd he) (by omega), by omega⟩
def hln (S : AT) (b q : Nat) : Prop := ∃ l, l < 40 ∧ hat S (Int32.ofNat b) (Int32.ofNat q) l
noncomputable def lnp (S : AT) (b q : Nat) : Bool := @decide (hln S b q) (Classical.propDecidable _)
theorem lnp_iff {S : AT} {b q : Nat} : lnp S b q = true ↔ hln S b q := by
  unfold lnp
  exact @decide_eq_true_iff (hln S b q) (Classical.propDecidable _)
noncomputable def lef (S : AT) (b : Nat) : Nat → Option Nat
  | 0 => if lnp S b 0 = true then some 0 else none
  | p + 1 => if lnp S b (p + 1) = true then some (p + 1) else lef S b p
noncomputable def rgt (S : AT) (b : Nat) : Nat → Nat → Option Nat
  | 0, _ => none
  | k + 1, p => if lnp S b p = true then some p else rgt S b k (p + 1)
def o32 (d : Int32) : Option Nat → Int32
  | none => d
  | some q => Int32.ofNat q
theorem lef_some {S : AT} {b l : Nat} : ∀ p, lef S b p = some l → l ≤ p ∧ lnp S b l = true ∧ ∀ q, l < q → q ≤ p → ¬ lnp S b q = true := by
  intro p
  induction p with
  | zero =>
    intro h
    unfold lef at h
    by_cases q : lnp S b 0 = true
    · rw [if_pos q] at h; cases h; exact ⟨Nat.le_refl 0, q, fun _ _ _ => by omega⟩
    · rw [if_neg q] at h; cases h
  | succ p ih =>
    intro h
    unfold lef at h
    by_cases q : lnp S b (p + 1) = true
    · rw [if_pos q] at h; cases h; exact ⟨Nat.le_refl _, q, fun _ _ _ => by omega⟩
    · rw [if_neg q] at h
      obtain ⟨h1, h2, h3⟩ := ih h
      refine ⟨by omega, h2, fun r hr hr2 => ?_⟩
      by_cases e : r = p + 1
      · rw [e]; exact q
      · exact h3 r hr (by omega)
theorem lef_none {S : AT} {b : Nat} : ∀ p, lef S b p = none → ∀ q, q ≤ p → ¬ lnp S b q = true := by
  intro p
  induction p with
  | zero =>
    intro h q hq
    unfold lef at h
    by_cases r : lnp S b 0 = true
    · rw [if_pos r] at h; cases h
    · rw [show q = 0 by omega]; exact r
  | succ p ih =>
    intro h q hq
    unfold lef at h
    by_cases r : lnp S b (p + 1) = true
    · rw [if_pos r] at h; cases h
    · rw [if_neg r] at h
      by_cases e : q = p + 1
      · rw [e]; exact r
      · exact ih h q (by omega)
theorem rgt_some {S : AT} {b l : Nat} : ∀ k p, rgt S b k p = some l → p ≤ l ∧ l < p + k ∧ lnp S b l = true ∧ ∀ q, p ≤ q → q < l → ¬ lnp S b q = true := by
  intro k
  induction k with
  | zero => intro p h; cases h
  | succ k ih =>
    intro p h
    unfold rgt at h
    by_cases q : lnp S b p = true
    · rw [if_pos q] at h; cases h; exact ⟨Nat.le_refl _, by omega, q, fun _ _ _ => by omega⟩
    · rw [if_neg q] at h
      obtain ⟨h1, h2, h3, h4⟩ := ih (p + 1) h
      refine ⟨by omega, by omega, h3, fun r hr hr2 => ?_⟩
      by_cases e : r = p
      · rw [e]; exact q
      · exact h4 r (by omega) hr2
theorem rgt_none {S : AT} {b : Nat} : ∀ k p, rgt S b k p = none → ∀ q, p ≤ q → q < p + k → ¬ lnp S b q = true := by
  intro k
  induction k with
  | zero => intro p _ q h1 h2; omega
  | succ k ih =>
    intro p h q h1 h2
    unfold rgt at h
    by_cases r : lnp S b p = true
    · rw [if_pos r] at h; cases h
    · rw [if_neg r] at h
      by_cases e : q = p
      · rw [e]; exact r
      · exact ih (p + 1) h q (by omega) (by omega)
/-- the component's row of lines by places -/
def LAok (V : VT) (S : AT) (b : Nat) : Prop := ∀ q, q < 16 → (lnp S b q = true → ∃ l, l < 40 ∧ hat S (Int32.ofNat b) (Int32.ofNat q) l ∧ V 4 q = Int32.ofNat l) ∧ (¬ lnp S b q = true → V 4 q = -1000000000)
theorem la_neg {V : VT} {S : AT} {b q : Nat} (h : LAok V S b) (hq : q < 16) : (V 4 q < 0) ↔ ¬ lnp S b q = true := by
  constructor
  · intro h1 h2
    obtain ⟨l, hl, -, e⟩ := (h q hq).1 h2
    rw [e] at h1; exact nat_nneg (by omega) h1
  · intro h1; rw [(h q hq).2 h1]; decide
theorem c_before {V : VT} {S : AT} {b : Nat} (h : LAok V S b) : ∀ p, p < 16 → ∀ k, p + 1 < k → lp (f_X10_lineAtOrBefore_B2 V) k (Int32.ofNat p) = some (o32 (-1000000000) (lef S b p)) := by
  intro p
  induction p with
  | zero =>
    intro _ k hk
    obtain ⟨k, rfl⟩ : ∃ q, k = q + 2 := ⟨k - 2, by omega⟩
    have n0 : ¬ Int32.ofNat 0 < 0 := by decide
    have n1 : ¬ (16 : Int32) ≤ Int32.ofNat 0 := by decide
    have ek : ckA 16 (Int32.ofNat 0) = some 0 := ck_nat (by omega) (by omega)
    unfold lef
    by_cases q : lnp S b 0 = true
    · have hv : ¬ V 4 0 < 0 := fun p => (la_neg h (by omega)).mp p q
      rw [if_pos q]
      refine lp_last ?_
      simp only [f_X10_lineAtOrBefore_B2, n0, n1, if_false, ek, hv, bsm]
      rfl
    · have hv : V 4 0 < 0 := (la_neg h (by omega)).mpr q
      rw [if_neg q, lp_step (x2 := -1) (by simp only [f_X10_lineAtOrBefore_B2, n0, n1, if_false, ek, hv, if_true, bsm]; rfl)]
      refine lp_last ?_
      have nn : (-1 : Int32) < 0 := by decide
      simp only [f_X10_lineAtOrBefore_B2, nn, if_true, bsm]
      rfl
  | succ p ih =>
    intro hp k hk
    obtain ⟨k, rfl⟩ : ∃ q, k = q + 1 := ⟨k - 1, by omega⟩
    have n0 : ¬ Int32.ofNat (p + 1) < 0 := nat_nneg (by omega)
    have n1 : ¬ (16 : Int32) ≤ Int32.ofNat (p + 1) := fun q => by have := (nat_le (a := 16) (by omega) (by omega)).mp q; omega
    have ek : ckA 16 (Int32.ofNat (p + 1)) = some (p + 1) := ck_nat (by omega) (by omega)
    rw [show lef S b (p + 1) = if lnp S b (p + 1) = true then some (p + 1) else lef S b p from rfl]
    by_cases q : lnp S b (p + 1) = true
    · have hv : ¬ V 4 (p + 1) < 0 := fun r => (la_neg h hp).mp r q
      rw [if_pos q]
      refine lp_last ?_
      simp only [f_X10_lineAtOrBefore_B2, n0, n1, if_false, ek, hv, bsm]
      rfl
    · have hv : V 4 (p + 1) < 0 := (la_neg h hp).mpr q
      rw [if_neg q, lp_step (x2 := Int32.ofNat p) (by simp only [f_X10_lineAtOrBefore_B2, n0, n1, if_false, ek, hv, if_true, bsm, neg1])]
      exact ih (by omega) k (by omega)
theorem c_behind {V : VT} {S : AT} {b : Nat} (h : LAok V S b) : ∀ k p, p + k = 16 → ∀ f, k < f → lp (f_X10_lineAtOrBehind_B2 V) f (Int32.ofNat p) = some (o32 (-1000000000) (rgt S b k p)) := by
  intro k
  induction k with
  | zero =>
    intro p hp f hf
    obtain ⟨f, rfl⟩ : ∃ q, f = q + 1 := ⟨f - 1, by omega⟩
    have n0 : ¬ Int32.ofNat p < 0 := nat_nneg (by omega)
    have n1 : (16 : Int32) ≤ Int32.ofNat p := (nat_le (a := 16) (by omega) (by omega)).mpr (by omega)
    refine lp_last ?_
    simp only [f_X10_lineAtOrBehind_B2, n0, if_false, n1, if_true, bsm]
    rfl
  | succ k ih =>
    intro p hp f hf
    obtain ⟨f, rfl⟩ : ∃ q, f = q + 1 := ⟨f - 1, by omega⟩
    have n0 : ¬ Int32.ofNat p < 0 := nat_nneg (by omega)
    have n1 : ¬ (16 : Int32) ≤ Int32.ofNat p := fun q => by have := (nat_le (a := 16) (by omega) (by omega)).mp q; omega
    have ek : ckA 16 (Int32.ofNat p) = some p := ck_nat (by omega) (by omega)
    rw [show rgt S b (k + 1) p = if lnp S b p = true then some p else rgt S b k (p + 1) from rfl]
    by_cases q : lnp S b p = true
    · have hv : ¬ V 4 p < 0 := fun r => (la_neg h (by omega)).mp r q
      rw [if_pos q]
      refine lp_last ?_
      simp only [f_X10_lineAtOrBehind_B2, n0, n1, if_false, ek, hv, bsm]
      rfl
    · have hv : V 4 p < 0 := (la_neg h (by omega)).mpr q
      rw [if_neg q, lp_step (x2 := Int32.ofNat (p + 1)) (by simp only [f_X10_lineAtOrBehind_B2, n0, n1, if_false, ek, hv, if_true, bsm, nat_succ])]
      exact ih (p + 1) (by omega) f (by omega)
/-! the reference's nearest lines -/
theorem m_nearIn {n : Nat} {C : AT} {M : VT} {b p : Nat} (v3 : Int32) (h : GG n C (M 0)) (hp : p < 16) : lp (f_X12_nearest_B18 (Int32.ofNat b) v3 (Int32.ofNat p) M) fuel (0 : Int32) = some (if lnp (M 0) b p = true then .inr (Int32.ofNat p) else .inl (Int32.ofNat p + v3)) := by
  have kN : ckA 1646 (1640 : Int32) = some 1640 := ck_lit (k := 1640) rfl (by omega) (by omega)
  obtain ⟨m, -, m2, hN⟩ := h.2.wn0
  have step : ∀ l, l < m → ¬ hat (M 0) (Int32.ofNat b) (Int32.ofNat p) l → f_X12_nearest_B18 (Int32.ofNat b) v3 (Int32.ofNat p) M (Int32.ofNat l) = some (.inl (Int32.ofNat (l + 1))) := by
    intro l hl hno
    have n1 : ¬ Int32.ofNat m ≤ Int32.ofNat l := fun q => by have := (nat_le (by omega) (by omega)).mp q; omega
    have eh := m_holds (M := M) (Int32.ofNat b) (l := l) (by omega)
    have e1 : f_X12_lineIs (Int32.ofNat l) 1 M = some (M 0 (252 + 12 * l + 1)) := m_lineIs (c := 1) (by omega) (by omega)
    by_cases q : M 0 (252 + 12 * l + 3) = 1 ∧ M 0 (252 + 12 * l) = Int32.ofNat b
    · rw [if_pos q] at eh
      have q2 : ¬ M 0 (252 + 12 * l + 1) = Int32.ofNat p := fun r => hno ⟨q, r⟩
      simp only [f_X12_nearest_B18, f_X12_nearest_j56, kN, hN, n1, if_false, eh, i10, e1, q2, bsm, nat_succ]
    · rw [if_neg q] at eh
      simp only [f_X12_nearest_B18, f_X12_nearest_j56, kN, hN, n1, if_false, eh, if_true, bsm, nat_succ]
  rcases first_of (hat (M 0) (Int32.ofNat b) (Int32.ofNat p)) m with hno | ⟨k, hk, h1, h2⟩
  · rw [if_neg (fun e => by
      obtain ⟨l, hl, hh⟩ := lnp_iff.mp e
      have := hat_told h hl hh
      rw [hN] at this
      exact hno l ((nat_lt (by omega) (by omega)).mp this) hh)]
    refine lp_iter (fun i => Int32.ofNat i) m 0 fuel (fun i _ hi => step i (by omega) (hno i (by omega))) ?_ (fuel_big (by omega))
    rw [Nat.zero_add]
    simp only [f_X12_nearest_B18, kN, hN, Int32.le_refl, if_true, bsm]
  · rw [if_pos (lnp_iff.mpr ⟨k, by omega, h1⟩)]
    refine lp_iter (fun i => Int32.ofNat i) k 0 fuel (fun i _ hi => step i (by omega) (h2 i (by omega))) ?_ (fuel_big (by omega))
    rw [Nat.zero_add]
    have n1 : ¬ Int32.ofNat m ≤ Int32.ofNat k := fun q => by have := (nat_le (by omega) (by omega)).mp q; omega
    have eh := m_holds (M := M) (Int32.ofNat b) (l := k) (by omega)
    rw [if_pos h1.1] at eh
    have e1 : f_X12_lineIs (Int32.ofNat k) 1 M = some (M 0 (252 + 12 * k + 1)) := m_lineIs (c := 1) (by omega) (by omega)
    simp only [f_X12_nearest_B18, kN, hN, n1, if_false, eh, i10, e1, eq_true h1.2, if_true, bsm]
theorem m_before {n : Nat} {C : AT} {M : VT} {b : Nat} (h : GG n C (M 0)) : ∀ p, p < 16 → ∀ k, p + 1 < k → lp (f_X12_nearest_B3 (Int32.ofNat b) (-1) M) k (Int32.ofNat p) = some (o32 (-1) (lef (M 0) b p)) := by
  intro p
  induction p with
  | zero =>
    intro _ k hk
    obtain ⟨k, rfl⟩ : ∃ q, k = q + 2 := ⟨k - 2, by omega⟩
    have n0 : ¬ Int32.ofNat 0 < 0 := by decide
    have n1 : ¬ (16 : Int32) ≤ Int32.ofNat 0 := by decide
    have ei := m_nearIn (b := b) (p := 0) (-1) h (by omega)
    unfold lef
    by_cases q : lnp (M 0) b 0 = true
    · rw [if_pos q] at ei ⊢
      refine lp_last ?_
      simp only [f_X12_nearest_B3, n0, n1, if_false, ei, bsm]
      rfl
    · rw [if_neg q] at ei ⊢
      rw [lp_step (x2 := -1) (by simp only [f_X12_nearest_B3, n0, n1, if_false, ei, bsm]; rfl)]
      refine lp_last ?_
      have nn : (-1 : Int32) < 0 := by decide
      simp only [f_X12_nearest_B3, nn, if_true, bsm]
      rfl
  | succ p ih =>
    intro hp k hk
    obtain ⟨k, rfl⟩ : ∃ q, k = q + 1 := ⟨k - 1, by omega⟩
    have n0 : ¬ Int32.ofNat (p + 1) < 0 := nat_nneg (by omega)
    have n1 : ¬ (16 : Int32) ≤ Int32.ofNat (p + 1) := fun q => by have := (nat_le (a := 16) (by omega) (by omega)).mp q; omega
    have ei := m_nearIn (b := b) (p := p + 1) (-1) h hp
    rw [show lef (M 0) b (p + 1) = if lnp (M 0) b (p + 1) = true then some (p + 1) else lef (M 0) b p from rfl]
    by_cases q : lnp (M 0) b (p + 1) = true
    · rw [if_pos q] at ei ⊢
      refine lp_last ?_
      simp only [f_X12_nearest_B3, n0, n1, if_false, ei, bsm]
      rfl
    · rw [if_neg q] at ei ⊢
      rw [lp_step (x2 := Int32.ofNat p) (by simp only [f_X12_nearest_B3, n0, n1, if_false, ei, bsm, neg1])]
      exact ih (by omega) k (by omega)
theorem m_behind {n : Nat} {C : AT} {M : VT} {b : Nat} (h : GG n C (M 0)) : ∀ k p, p + k = 16 → ∀ f, k < f → lp (f_X12_nearest_B3 (Int32.ofNat b) 1 M) f (Int32.ofNat p) = some (o32 (-1) (rgt (M 0) b k p)) := by
  intro k
  induction k with
  | zero =>
    intro p hp f hf
    obtain ⟨f, rfl⟩ : ∃ q, f = q + 1 := ⟨f - 1, by omega⟩
    have n0 : ¬ Int32.ofNat p < 0 := nat_nneg (by omega)
    have n1 : (16 : Int32) ≤ Int32.ofNat p := (nat_le (a := 16) (by omega) (by omega)).mpr (by omega)
    refine lp_last ?_
    simp only [f_X12_nearest_B3, n0, if_false, n1, if_true, bsm]
    rfl
  | succ k ih =>
    intro p hp f hf
    obtain ⟨f, rfl⟩ : ∃ q, f = q + 1 := ⟨f - 1, by omega⟩
    have n0 : ¬ Int32.ofNat p < 0 := nat_nneg (by omega)
    have n1 : ¬ (16 : Int32) ≤ Int32.ofNat p := fun q => by have := (nat_le (a := 16) (by omega) (by omega)).mp q; omega
    have ei := m_nearIn (b := b) (p := p) 1 h (by omega)
    rw [show rgt (M 0) b (k + 1) p = if lnp (M 0) b p = true then some p else rgt (M 0) b k (p + 1) from rfl]
    by_cases q : lnp (M 0) b p = true
    · rw [if_pos q] at ei ⊢
      refine lp_last ?_
      simp only [f_X12_nearest_B3, n0, n1, if_false, ei, bsm]
      rfl
    · rw [if_neg q] at ei ⊢
      rw [lp_step (x2 := Int32.ofNat (p + 1)) (by simp only [f_X12_nearest_B3, n0, n1, if_false, ei, bsm, nat_succ])]
      exact ih (p + 1) (by omega) f (by omega)
/-- what the line at a place bears of g grams at another -/
def con (lo hi : Option Nat) (a p g : Nat) : Nat :=
  match lo, hi with
  | none, none => 0
  | some l, none => if a = l then 360360 * g else 0
  | none, some h => if a = h then 360360 * g else 0
  | some l, some h => if l = h then (if a = l then 360360 * g else 0) else if a = l then g * (h - p) * (360360 / (h - l)) else if a = h then g * (p - l) * (360360 / (h - l)) else 0
noncomputable def cn (S : AT) (b a p g : Nat) : Nat := con (lef S b p) (rgt S b (16 - p) p) a p g
noncomputable def shN (S : AT) (b a : Nat) : Nat → Nat
  | 0 => 0
  | p + 1 => if S (21 * b + 5 + p) < 2 then shN S b a p else shN S b a p + cn S b a p (gm S (tix (S (21 * b + 5 + p))))
theorem shN_succ {S : AT} {b a p : Nat} : shN S b a (p + 1) = if S (21 * b + 5 + p) < 2 then shN S b a p else shN S b a p + cn S b a p (gm S (tix (S (21 * b + 5 + p)))) := rfl
theorem c_addIn {V : VT} {J : JT} {q : Nat} (y : Int64) (hq : q < 16) : f_X10_addShare (Int32.ofNat q) y V J = some (vp_updL J q (J q + y)) := by
  have n0 : ¬ Int32.ofNat q < 0 := nat_nneg (by omega)
  have n1 : ¬ (16 : Int32) ≤ Int32.ofNat q := fun p => by have := (nat_le (a := 16) (by omega) (by omega)).mp p; omega
  have ek : ckA 16 (Int32.ofNat q) = some q := ck_nat hq (by omega)
  simp only [f_X10_addShare, n0, n1, if_false, ek, bsm]
theorem c_addOut {V : VT} {J : JT} (y : Int64) : f_X10_addShare (-1000000000) y V J = some J := by
  unfold f_X10_addShare
  rw [if_pos (by decide)]
theorem updL_at {J : JT} {k : Nat} {x : Int64} {j : Nat} : vp_updL J k x j = if j = k then x else J j := rfl
theorem mul64 {a b : Nat} : Int64.ofNat a * Int64.ofNat b = Int64.ofNat (a * b) := (Int64.ofNat_mul a b).symm
theorem sub32 {a b : Nat} (h : b ≤ a) : Int32.ofNat a - Int32.ofNat b = Int32.ofNat (a - b) := (Int32.ofNat_sub _ _ h).symm
theorem c_bear {V : VT} {S : AT} {b p g : Nat} {J : JT} {x : Nat → Nat} (hla : LAok V S b) (hp : p < 16) (hJ : ∀ a, a < 16 → J a = Int64.ofNat (x a)) : ∃ J2, f_X10_bear (Int32.ofNat p) (Int64.ofNat g) V J = some J2 ∧ ∀ a, a < 16 → J2 a = Int64.ofNat (x a + cn S b a p g) := by
  have e1 : f_X10_lineAtOrBefore (Int32.ofNat p) V = some (o32 (-1000000000) (lef S b p)) := c_before hla p hp fuel (fuel_big (by omega))
  have e2 : f_X10_lineAtOrBehind (Int32.ofNat p) V = some (o32 (-1000000000) (rgt S b (16 - p) p)) := c_behind hla (16 - p) p (by omega) fuel (fuel_big (by omega))
  have nn : (-1000000000 : Int32) < 0 := by decide
  have one : ∀ q, q < 16 → (∀ a, cn S b a p g = if a = q then 360360 * g else 0) → ∀ a, a < 16 → vp_updL J q (J q + Int64.ofNat g * 360360) a = Int64.ofNat (x a + cn S b a p g) := by
    intro q hq hc a ha
    rw [updL_at, hc a, hJ q hq]
    by_cases e : a = q
    · rw [if_pos e, if_pos e, show (Int64.ofNat g * 360360) = Int64.ofNat (360360 * g) by rw [Nat.mul_comm, ← mul64]; rfl, ← Int64.ofNat_add, e]
    · rw [if_neg e, if_neg e, Nat.add_zero]; exact hJ a ha
  unfold f_X10_bear f_X10_bear_j73 f_X10_bear_j86
  rw [e1, bsm, e2, bsm]
  unfold cn at one ⊢
  cases hl : lef S b p with
  | none =>
    cases hr : rgt S b (16 - p) p with
    | none =>
      simp only [o32, nn, if_true, c_addOut, bsm]
      exact ⟨J, rfl, fun a ha => by show J a = Int64.ofNat (x a + 0); rw [Nat.add_zero]; exact hJ a ha⟩
    | some h =>
      obtain ⟨h1, h2, -, -⟩ := rgt_some _ _ hr
      simp only [o32, nn, if_true, c_addIn _ (show h < 16 by omega), bsm]
      rw [hl, hr] at one
      exact ⟨_, rfl, one h (by omega) (fun a => rfl)⟩
  | some l =>
    obtain ⟨l1, l2, l3⟩ := lef_some _ hl
    have nl : ¬ Int32.ofNat l < 0 := nat_nneg (by omega)
    cases hr : rgt S b (16 - p) p with
    | none =>
      have nle : (-1000000000 : Int32) ≤ Int32.ofNat l := by
        rw [Int32.le_iff_toInt_le, ti_nat (by omega), show (-1000000000 : Int32).toInt = -1000000000 by decide]; omega
      simp only [o32, nl, if_false, nle, if_true, c_addIn _ (show l < 16 by omega), bsm]
      rw [hl, hr] at one
      exact ⟨_, rfl, one l (by omega) (fun a => rfl)⟩
    | some h =>
      obtain ⟨h1, h2, h3, h4⟩ := rgt_some _ _ hr
      by_cases hlh : l = h
      · subst hlh
        simp only [o32, nl, if_false, Int32.le_refl, if_true, c_addIn _ (show l < 16 by omega), bsm]
        rw [hl, hr] at one
        exact ⟨_, rfl, one l (by omega) (fun a => by simp only [con, if_true])⟩
      · have hlt : l < h := by omega
        have nle : ¬ Int32.ofNat h ≤ Int32.ofNat l := fun q => by have := (nat_le (by omega) (by omega)).mp q; omega
        have ed : Int32.toInt64 (Int32.ofNat h - Int32.ofNat l) = Int64.ofNat (h - l) := by rw [sub32 (by omega), l64 (by omega)]
        have eu : ckD (Int64.ofNat (h - l)) = some () := by
          unfold ckD
          rw [if_neg]
          intro e
          have := congrArg Int64.toInt e
          rw [t64 (by omega), show (0 : Int64).toInt = 0 by decide] at this
          omega
        have ea : (360360 : Int64) / Int64.ofNat (h - l) = Int64.ofNat (360360 / (h - l)) := (Int64.ofNat_div (a := 360360) (by omega) (by omega)).symm
        have ex : Int32.toInt64 (Int32.ofNat h - Int32.ofNat p) = Int64.ofNat (h - p) := by rw [sub32 (by omega), l64 (by omega)]
        have ey : Int32.toInt64 (Int32.ofNat p - Int32.ofNat l) = Int64.ofNat (p - l) := by rw [sub32 (by omega), l64 (by omega)]
        simp only [o32, nl, if_false, nle, ed, eu, ea, ex, ey, mul64, c_addIn _ (show l < 16 by omega), c_addIn _ (show h < 16 by omega), bsm]
        refine ⟨_, rfl, fun a ha => ?_⟩
        rw [updL_at, updL_at, updL_at]
        simp only [con, hlh, if_false]
        by_cases ah : a = h
        · subst ah
          rw [if_pos rfl, if_neg (fun e => hlh e.symm), if_neg (fun e => hlh e.symm), if_pos rfl, hJ a ha, ← Int64.ofNat_add]
        · rw [if_neg ah]
          by_cases al : a = l
          · subst al
            rw [if_pos rfl, if_pos rfl, hJ a ha, ← Int64.ofNat_add]
          · rw [if_neg al, if_neg al, if_neg ah, Nat.add_zero]; exact hJ a ha
theorem c_fillJ {V : VT} {J : JT} : ∃ J2, f_fillJ_24 0 V J = some J2 ∧ ∀ a, a < 16 → J2 a = Int64.ofNat 0 := by
  have key := lp_inv (f := f_fillJ_24_B6 0 16 V) (Q := fun y : JT => ∀ a, a < 16 → y a = Int64.ofNat 0) (fun i s => s.1 = Int32.ofNat i ∧ ∀ a, a < i → s.2 a = Int64.ofNat 0) 16 0 fuel ((0 : Int32), J) ⟨rfl, fun a ha => by omega⟩ (fun i s _ hi hI => ?_) (fun s hI => ?_) (fuel_big (by omega))
  · obtain ⟨y, e, hy⟩ := key
    refine ⟨y, ?_, hy⟩
    unfold f_fillJ_24
    rw [bsm, bsm]; exact e
  · obtain ⟨a, J'⟩ := s
    obtain ⟨rfl, hJ⟩ := hI
    have n1 : ¬ (16 : Int32) ≤ Int32.ofNat i := fun q => by have := (nat_le (a := 16) (by omega) (by omega)).mp q; omega
    have ek : ckA 16 (Int32.ofNat i) = some i := ck_nat (by omega) (by omega)
    refine ⟨(Int32.ofNat (i + 1), vp_updL J' i 0), ?_, rfl, fun a ha => ?_⟩
    · simp only [f_fillJ_24_B6, n1, if_false, ek, bsm, nat_succ]
    · show vp_updL J' i 0 a = Int64.ofNat 0
      rw [updL_at]
      by_cases e : a = i
      · rw [if_pos e]; rfl
      · rw [if_neg e]; exact hJ a (by omega)
  · obtain ⟨a, J'⟩ := s
    rw [Nat.zero_add] at hI
    obtain ⟨h1, hJ⟩ := hI
    have h1 : a = Int32.ofNat 16 := h1
    subst h1
    refine ⟨J', ?_, hJ⟩
    have n1 : (16 : Int32) ≤ Int32.ofNat 16 := by decide
    simp only [f_fillJ_24_B6, n1, if_true, bsm]
theorem c_spread {n : Nat} {V : VT} {S : AT} {b : Nat} {J : JT} (h : GG n (V 0) S) (hb : b < 12) (hla : LAok V S b) : ∃ J2, f_X10_spread (Int32.ofNat b) V J = some J2 ∧ ∀ a, a < 16 → J2 a = Int64.ofNat (shN S b a 16) := by
  obtain ⟨J1, ef, hJ1⟩ := c_fillJ (V := V) (J := J)
  have key := lp_inv (f := f_X10_spread_B10 (Int32.ofNat b) V) (Q := fun y : JT => ∀ a, a < 16 → y a = Int64.ofNat (shN S b a 16)) (fun i s => s.1 = Int32.ofNat i ∧ ∀ a, a < 16 → s.2 a = Int64.ofNat (shN S b a i)) 16 0 fuel ((0 : Int32), J1) ⟨rfl, hJ1⟩ (fun i s _ hi hI => ?_) (fun s hI => ?_) (fuel_big (by omega))
  · obtain ⟨y, e, hy⟩ := key
    refine ⟨y, ?_, hy⟩
    unfold f_X10_spread
    rw [ef, bsm, bsm]; exact e
  · obtain ⟨a, J'⟩ := s
    obtain ⟨rfl, hJ⟩ := hI
    have n1 : ¬ (16 : Int32) ≤ Int32.ofNat i := fun q => by have := (nat_le (a := 16) (by omega) (by omega)).mp q; omega
    have et := c_thingIn h hb (p := i) (by omega)
    rcases low_ct h hb (p := i) (by omega) with ⟨hl, ho⟩ | ⟨hl, t, ht, htl, e⟩
    · refine ⟨(Int32.ofNat (i + 1), J'), ?_, rfl, fun a ha => ?_⟩
      · simp only [f_X10_spread_B10, f_X10_spread_j48, n1, if_false, et, low_sub ho, if_true, bsm, nat_succ]
      · rw [shN_succ, if_pos hl]; exact hJ a ha
    · rw [e, sub2] at et
      obtain ⟨eg, -⟩ := gm_ok h ht htl
      have g4 : f_X7_get 720 80 8 (Int32.ofNat t) 4 V = some (Int32.ofNat (gm S t)) := by rw [← eg]; exact tget (c := 4) ht (by omega)
      have hgm := (gm_ok h ht htl).2
      obtain ⟨J2, eb, hJ2⟩ := c_bear (V := V) (S := S) (b := b) (p := i) (g := gm S t) (J := J') (x := fun a => shN S b a i) hla (by omega) hJ
      have nn : ¬ Int32.ofNat t < 0 := nat_nneg (by omega)
      refine ⟨(Int32.ofNat (i + 1), J2), ?_, rfl, fun a ha => ?_⟩
      · simp only [f_X10_spread_B10, f_X10_spread_j48, n1, if_false, et, nn, g4, l64 (show gm S t < 2147483648 by omega), eb, bsm, nat_succ]
      · show J2 a = Int64.ofNat (shN S b a (i + 1))
        rw [shN_succ, if_neg hl, tix_at ht e]; exact hJ2 a ha
  · obtain ⟨a, J'⟩ := s
    rw [Nat.zero_add] at hI
    obtain ⟨h1, hJ⟩ := hI
    have h1 : a = Int32.ofNat 16 := h1
    subst h1
    refine ⟨J', ?_, hJ⟩
    have n1 : (16 : Int32) ≤ Int32.ofNat 16 := by decide
    simp only [f_X10_spread_B10, n1, if_true, bsm]
