/-! one line alone; isHeld; barOf -/
def gsm (S : AT) (b : Nat) : Nat → Nat
  | 0 => 0
  | p + 1 => if S (21 * b + 5 + p) < 2 then gsm S b p else gsm S b p + gm S (tix (S (21 * b + 5 + p)))
def tsm (S : AT) (b q : Nat) : Nat → Int
  | 0 => 0
  | p + 1 => if S (21 * b + 5 + p) < 2 then tsm S b q p else tsm S b q p + (gm S (tix (S (21 * b + 5 + p))) : Int) * ((p : Int) - (q : Int))
theorem gsm_succ {S : AT} {b p : Nat} : gsm S b (p + 1) = if S (21 * b + 5 + p) < 2 then gsm S b p else gsm S b p + gm S (tix (S (21 * b + 5 + p))) := rfl
theorem tsm_succ {S : AT} {b q p : Nat} : tsm S b q (p + 1) = if S (21 * b + 5 + p) < 2 then tsm S b q p else tsm S b q p + (gm S (tix (S (21 * b + 5 + p))) : Int) * ((p : Int) - (q : Int)) := rfl
theorem mul_bd {g : Nat} {z : Int} (hg : g ≤ 50000) (hz : z.natAbs ≤ 15) : ((g : Int) * z).natAbs ≤ 750000 := by
  rw [Int.natAbs_mul, Int.natAbs_natCast]
  exact Nat.mul_le_mul hg hz
theorem sm_le {n : Nat} {C S : AT} {b q : Nat} (h : GG n C S) (hb : b < 12) (hq : q < 16) : ∀ p, p ≤ 16 → gsm S b p ≤ 50000 * p ∧ (tsm S b q p).natAbs ≤ 750000 * p := by
  intro p
  induction p with
  | zero => intro _; exact ⟨Nat.le_refl _, Nat.le_refl _⟩
  | succ p ih =>
    intro hp
    obtain ⟨i1, i2⟩ := ih (by omega)
    rw [gsm_succ, tsm_succ]
    rcases low_ct h hb (p := p) (by omega) with ⟨hl, -⟩ | ⟨hl, t, ht, htl, e⟩
    · rw [if_pos hl, if_pos hl]; omega
    · rw [if_neg hl, if_neg hl, tix_at ht e]
      have hg := (gm_ok h ht htl).2
      have hm := mul_bd (z := (p : Int) - (q : Int)) hg (by omega)
      generalize (gm S t : Int) * ((p : Int) - (q : Int)) = y at hm
      omega
theorem sm_tail {S : AT} {b q P : Nat} : ∀ k, (∀ p, P ≤ p → p < P + k → S (21 * b + 5 + p) = 0) → gsm S b (P + k) = gsm S b P ∧ tsm S b q (P + k) = tsm S b q P := by
  intro k
  induction k with
  | zero => intro _; exact ⟨rfl, rfl⟩
  | succ k ih =>
    intro h
    have hz : S (21 * b + 5 + (P + k)) < 2 := by rw [h (P + k) (by omega) (by omega)]; decide
    rw [show P + (k + 1) = P + k + 1 from rfl, gsm_succ, tsm_succ, if_pos hz, if_pos hz]
    exact ih (fun p h1 h2 => h p h1 (by omega))
theorem cnt_one {p : Nat → Bool} : ∀ k, cnt p k = 1 → ∃ l, l < k ∧ p l = true ∧ ∀ j, j < k → p j = true → j = l := by
  intro k
  induction k with
  | zero => intro h; cases h
  | succ k ih =>
    intro h
    rw [cnt_succ] at h
    by_cases q : p k = true
    · rw [if_pos q] at h
      have h0 : cnt p k = 0 := by omega
      refine ⟨k, by omega, q, fun j hj hp => ?_⟩
      refine Classical.byContradiction (fun hne => ?_)
      have := cnt_pos k (show j < k by omega) hp
      omega
    · rw [if_neg q] at h
      obtain ⟨l, hl, h1, h2⟩ := ih h
      refine ⟨l, by omega, h1, fun j hj hp => ?_⟩
      by_cases e : j = k
      · rw [e] at hp; exact absurd hp q
      · exact h2 j (by omega) hp
/-- the one line of a bar -/
theorem one_line {n : Nat} {C S : AT} {b : Nat} (h : GG n C S) (h1 : cnt (holdb S (Int32.ofNat b)) 40 = 1) : ∃ l, l < 40 ∧ (S (252 + 12 * l + 3) = 1 ∧ S (252 + 12 * l) = Int32.ofNat b) ∧ Int32.ofNat l < S 1640 ∧ S (252 + 12 * l + 1) = Int32.ofNat (pln S l) ∧ pln S l < 16 ∧ (∀ j, j < 40 → (S (252 + 12 * j + 3) = 1 ∧ S (252 + 12 * j) = Int32.ofNat b) → j = l) ∧ (∀ q, q < 16 → (lnp S b q = true ↔ q = pln S l)) := by
  obtain ⟨l, hl, e1, e2⟩ := cnt_one 40 h1
  have hh := of_decide_eq_true e1
  have htl := hold_tl h hl hh.1
  obtain ⟨ep, hp⟩ := pln_ok h hl htl
  have hu : ∀ j, j < 40 → (S (252 + 12 * j + 3) = 1 ∧ S (252 + 12 * j) = Int32.ofNat b) → j = l := fun j hj hc => e2 j hj (decide_eq_true hc)
  refine ⟨l, hl, hh, htl, ep, hp, hu, fun q hq => ?_⟩
  rw [lnp_iff]
  constructor
  · rintro ⟨j, hj, hc, hpl⟩
    have := hu j hj hc
    subst this
    exact (nat_eq (by omega) (by omega)).mp (hpl.symm.trans ep)
  · intro e
    rw [e]
    exact ⟨l, hl, hh, ep⟩
theorem cn_one {S : AT} {b q0 p g : Nat} (hq : q0 < 16) (hp : p < 16) (hu : ∀ q, q < 16 → (lnp S b q = true ↔ q = q0)) : cn S b q0 p g = 360360 * g := by
  unfold cn
  cases hl : lef S b p with
  | none =>
    cases hr : rgt S b (16 - p) p with
    | none =>
      have a1 := lef_none _ hl
      have a2 := rgt_none _ _ hr
      by_cases c : q0 ≤ p
      · exact absurd ((hu q0 hq).mpr rfl) (a1 q0 c)
      · exact absurd ((hu q0 hq).mpr rfl) (a2 q0 (by omega) (by omega))
    | some r =>
      obtain ⟨r1, r2, r3, -⟩ := rgt_some _ _ hr
      have : r = q0 := (hu r (by omega)).mp r3
      simp only [con, this, if_true]
  | some l =>
    obtain ⟨l1, l2, -⟩ := lef_some _ hl
    have e1 : l = q0 := (hu l (by omega)).mp l2
    cases hr : rgt S b (16 - p) p with
    | none => simp only [con, e1, if_true]
    | some r =>
      obtain ⟨r1, r2, r3, -⟩ := rgt_some _ _ hr
      have e2 : r = q0 := (hu r (by omega)).mp r3
      simp only [con, e1, e2, if_true]
theorem shN_one {S : AT} {b q0 : Nat} (hq : q0 < 16) (hu : ∀ q, q < 16 → (lnp S b q = true ↔ q = q0)) : ∀ p, p ≤ 16 → shN S b q0 p = 360360 * gsm S b p := by
  intro p
  induction p with
  | zero => intro _; rfl
  | succ p ih =>
    intro hp
    rw [shN_succ, gsm_succ, ih (by omega)]
    split
    · rfl
    · rw [cn_one hq (by omega) hu]; omega
theorem mid_one {S : AT} {b q0 : Nat} (hq : q0 < 16) (hu : ∀ q, q < 16 → (lnp S b q = true ↔ q = q0)) : rgt S b 16 0 = some q0 := by
  cases hr : rgt S b 16 0 with
  | none => exact absurd ((hu q0 hq).mpr rfl) (rgt_none _ _ hr q0 (by omega) (by omega))
  | some r =>
    obtain ⟨r1, r2, r3, -⟩ := rgt_some _ _ hr
    rw [(hu r (by omega)).mp r3]
theorem ofInt_0 {z : Int} (h : z.natAbs ≤ 12000000) : (Int32.ofInt z = 0) ↔ z = 0 := by
  rw [← Int32.toInt_inj, Int32.toInt_ofInt_of_le (by omega) (by omega), ti_lit0]
theorem ofInt64_0 {z : Int} (h : z.natAbs ≤ 12000000) : (Int64.ofInt z = 0) ↔ z = 0 := by
  rw [← Int64.toInt_inj, Int64.toInt_ofInt_of_le (by omega) (by omega), show (0 : Int64).toInt = 0 by decide]
theorem turn32 {t : Int} {g i q : Nat} : Int32.ofInt t + Int32.ofNat g * (Int32.ofNat i - Int32.ofNat q) = Int32.ofInt (t + (g : Int) * ((i : Int) - (q : Int))) := by
  rw [Int32.ofInt_add, Int32.ofInt_mul, Int32.ofInt_sub, Int32.ofInt_eq_ofNat, Int32.ofInt_eq_ofNat, Int32.ofInt_eq_ofNat]
theorem l64s {i q : Nat} (hi : i < 16) (hq : q < 16) : Int32.toInt64 (Int32.ofNat i - Int32.ofNat q) = Int64.ofInt ((i : Int) - (q : Int)) := by
  have e1 := ti_nat (n := i) (by omega)
  have e2 := ti_nat (n := q) (by omega)
  rw [← Int64.toInt_inj, Int32.toInt_toInt64, i32_sub (by omega) (by omega), e1, e2, Int64.toInt_ofInt_of_le (by omega) (by omega)]
theorem turn64 {t : Int} {g i q : Nat} (hg : g ≤ 50000) (hi : i < 16) (hq : q < 16) : Int64.ofInt t + Int32.toInt64 (Int32.ofNat g) * Int32.toInt64 (Int32.ofNat i - Int32.ofNat q) = Int64.ofInt (t + (g : Int) * ((i : Int) - (q : Int))) := by
  rw [l64 (by omega), l64s hi hq, Int64.ofInt_add, Int64.ofInt_mul, Int64.ofInt_eq_ofNat]
theorem c_upright {n : Nat} {V : VT} {S : AT} {b q0 : Nat} (h : GG n (V 0) S) (hb : b < 12) (hla : LAok V S b) (hq : q0 < 16) (hmid : rgt S b 16 0 = some q0) : f_X10_isUpright (Int32.ofNat b) V = some (if tsm S b q0 16 = 0 then 1 else 0) := by
  have e2 : f_X10_lineAtOrBehind 0 V = some (Int32.ofNat q0) := by
    have : f_X10_lineAtOrBehind (Int32.ofNat 0) V = some (o32 (-1000000000) (rgt S b 16 0)) := c_behind hla 16 0 (by omega) fuel (fuel_big (by omega))
    rw [hmid] at this; exact this
  unfold f_X10_isUpright
  rw [e2, bsm, bsm, bsm]
  refine lp_iter (fun i => (Int32.ofInt (tsm S b q0 i), Int32.ofNat i)) 16 0 fuel (fun i _ hi => ?_) ?_ (fuel_big (by omega))
  · have n1 : ¬ (16 : Int32) ≤ Int32.ofNat i := fun q => by have := (nat_le (a := 16) (by omega) (by omega)).mp q; omega
    have et := c_thingIn h hb (p := i) (by omega)
    rw [tsm_succ]
    rcases low_ct h hb (p := i) (by omega) with ⟨hl, ho⟩ | ⟨hl, t, ht, htl, e⟩
    · rw [if_pos hl]
      simp only [f_X10_isUpright_B11, f_X10_isUpright_j56, n1, if_false, et, low_sub ho, if_true, bsm, nat_succ]
    · rw [if_neg hl, tix_at ht e]
      rw [e, sub2] at et
      obtain ⟨eg, -⟩ := gm_ok h ht htl
      have g4 : f_X7_get 720 80 8 (Int32.ofNat t) 4 V = some (Int32.ofNat (gm S t)) := by rw [← eg]; exact tget (c := 4) ht (by omega)
      have nn : ¬ Int32.ofNat t < 0 := nat_nneg (by omega)
      simp only [f_X10_isUpright_B11, f_X10_isUpright_j56, n1, if_false, et, nn, g4, turn32, bsm, nat_succ]
  · rw [Nat.zero_add]
    have n1 : (16 : Int32) ≤ Int32.ofNat 16 := by decide
    have hz := ofInt_0 (z := tsm S b q0 16) (by have := (sm_le (q := q0) h hb hq 16 (by omega)).2; omega)
    by_cases q : tsm S b q0 16 = 0
    · rw [if_pos q]
      simp only [f_X10_isUpright_B11, n1, if_true, eq_true (hz.mpr q), bsm]
    · rw [if_neg q]
      have nz : ¬ Int32.ofInt (tsm S b q0 16) = 0 := fun p => q (hz.mp p)
      simp only [f_X10_isUpright_B11, n1, if_true, nz, if_false, bsm]
theorem lg_gt {x y : Int64} : (0 < lg_cmp x y) ↔ y < x := by
  have h1 := @lg_le0 x y
  constructor
  · intro q
    rw [Int64.lt_iff_toInt_lt]
    refine Classical.byContradiction (fun p => lt_nle q (h1.mpr ?_))
    rw [Int64.le_iff_toInt_le]; omega
  · intro q
    refine nle_lt (fun p => ?_)
    have := Int64.le_iff_toInt_le.mp (h1.mp p)
    have := Int64.lt_iff_toInt_lt.mp q
    omega
theorem lg_eq {x y : Int64} : (lg_cmp x y = 0) ↔ x = y := by
  unfold lg_cmp
  by_cases a : x > y
  · rw [if_pos a]
    refine ⟨fun q => absurd q (by decide), fun q => ?_⟩
    rw [q] at a
    have := Int64.lt_iff_toInt_lt.mp a
    omega
  · rw [if_neg a]
    by_cases c : x = y
    · rw [if_pos c]; exact ⟨fun _ => c, fun _ => rfl⟩
    · rw [if_neg c]; exact ⟨fun q => absurd q (by decide), fun q => absurd q c⟩
theorem m_oneLoop {n : Nat} {C : AT} {M : VT} {b l w : Nat} (h : GG n C (M 0)) (hb : b < 12) (hl : l < 40) (hp : pln (M 0) l < 16) (ep : M 0 (252 + 12 * l + 1) = Int32.ofNat (pln (M 0) l)) (ew : f_X12_weakest (Int32.ofNat l) M = some (Int32.ofNat w)) (hw : w ≤ 30000) : lp (f_X12_isHeld_B106 (Int32.ofNat b) (Int32.ofNat l) M) fuel ((0 : Int64), (0 : Int64), (0 : Int32)) = some (if gsm (M 0) b 16 ≤ w ∧ tsm (M 0) b (pln (M 0) l) 16 = 0 then 1 else 0) := by
  obtain ⟨P, hP, hS⟩ := places_any h hb
  have epl := m_places (M := M) hb
  rw [hS] at epl
  obtain ⟨t1, t2⟩ : gsm (M 0) b 16 = gsm (M 0) b P ∧ tsm (M 0) b (pln (M 0) l) 16 = tsm (M 0) b (pln (M 0) l) P := by
    have := sm_tail (S := M 0) (b := b) (q := pln (M 0) l) (P := P) (16 - P) (fun p h1 h2 => h.2.wb3 b p hb (by omega) (by rw [hS]; exact (nat_le (by omega) (by omega)).mpr h1))
    rw [show P + (16 - P) = 16 by omega] at this; exact this
  have hbd := sm_le (q := pln (M 0) l) h hb hp 16 (by omega)
  rw [t1, t2] at hbd ⊢
  have g1 : f_X12_lineIs (Int32.ofNat l) 1 M = some (Int32.ofNat (pln (M 0) l)) := by rw [← ep]; exact m_lineIs (c := 1) hl (by omega)
  refine lp_iter (fun i => (Int64.ofNat (gsm (M 0) b i), Int64.ofInt (tsm (M 0) b (pln (M 0) l) i), Int32.ofNat i)) P 0 fuel (fun i _ hi => ?_) ?_ (fuel_big (by omega))
  · have n1 : ¬ Int32.ofNat P ≤ Int32.ofNat i := fun q => by have := (nat_le (by omega) (by omega)).mp q; omega
    have eh := m_held (M := M) hb (p := i) (by omega)
    rw [gsm_succ, tsm_succ]
    rcases low_ct h hb (p := i) (by omega) with ⟨hlo, ho⟩ | ⟨hlo, t, ht, htl, e⟩
    · rw [if_pos hlo, if_pos hlo]
      have n2 : ¬ (2 : Int32) ≤ M 0 (21 * b + 5 + i) := fun q => lt_nle hlo q
      simp only [f_X12_isHeld_B106, f_X12_isHeld_j178, epl, n1, if_false, eh, n2, bsm, nat_succ]
    · rw [if_neg hlo, if_neg hlo, tix_at ht e]
      rw [e] at eh
      have n2 : (2 : Int32) ≤ Int32.ofNat (2 + t) := by rw [← e]; exact nlt_le hlo
      have eg := m_grams h ht htl
      obtain ⟨eg2, hg5⟩ := gm_ok h ht htl
      rw [eg2] at eg
      have ea : Int64.ofNat (gsm (M 0) b i) + Int32.toInt64 (Int32.ofNat (gm (M 0) t)) = Int64.ofNat (gsm (M 0) b i + gm (M 0) t) := by rw [l64 (by omega), Int64.ofNat_add]
      simp only [f_X12_isHeld_B106, f_X12_isHeld_j178, epl, n1, if_false, eh, n2, if_true, sub2, eg, g1, ea, turn64 hg5 (show i < 16 by omega) hp, bsm, nat_succ]
  · rw [Nat.zero_add]
    have k1 : (0 < lg_cmp (Int64.ofNat (gsm (M 0) b P)) (Int32.toInt64 (Int32.ofNat w))) ↔ w < gsm (M 0) b P := by
      rw [lg_gt, l64 (by omega), Int64.lt_iff_toInt_lt, t64 (by omega), t64 (by omega)]; omega
    have k2 : (lg_cmp (Int64.ofInt (tsm (M 0) b (pln (M 0) l) P)) 0 = 0) ↔ tsm (M 0) b (pln (M 0) l) P = 0 := by
      rw [lg_eq]; exact ofInt64_0 (by omega)
    by_cases c1 : w < gsm (M 0) b P
    · rw [if_neg (fun q => by have := q.1; omega)]
      simp only [f_X12_isHeld_B106, f_X12_isHeld_j207, epl, Int32.le_refl, if_true, ew, eq_true (k1.mpr c1), bsm]
    · have nc1 : ¬ 0 < lg_cmp (Int64.ofNat (gsm (M 0) b P)) (Int32.toInt64 (Int32.ofNat w)) := fun q => c1 (k1.mp q)
      by_cases c2 : tsm (M 0) b (pln (M 0) l) P = 0
      · rw [if_pos ⟨by omega, c2⟩]
        simp only [f_X12_isHeld_B106, f_X12_isHeld_j207, epl, Int32.le_refl, if_true, ew, nc1, if_false, eq_true (k2.mpr c2), bsm]
      · rw [if_neg (fun q => c2 q.2)]
        have nc2 : ¬ lg_cmp (Int64.ofInt (tsm (M 0) b (pln (M 0) l) P)) 0 = 0 := fun q => c2 (k2.mp q)
        simp only [f_X12_isHeld_B106, f_X12_isHeld_j207, epl, Int32.le_refl, if_true, ew, nc1, if_false, nc2, bsm]
/-- a bar is held -/
def hdP (S : AT) (b : Nat) : Prop := cnt (thb S b) 16 = 0 ∨ (cnt (holdb S (Int32.ofNat b)) 40 ≠ 0 ∧ (∀ l, l < 40 → ¬ bad S b l) ∧ (1 < cnt (holdb S (Int32.ofNat b)) 40 ∨ tsm S b ((rgt S b 16 0).getD 0) 16 = 0))
noncomputable def hdb (S : AT) (b : Nat) : Bool := @decide (hdP S b) (Classical.propDecidable _)
theorem hdb_iff {S : AT} {b : Nat} : hdb S b = true ↔ hdP S b := by
  unfold hdb
  exact @decide_eq_true_iff (hdP S b) (Classical.propDecidable _)
theorem c_isHeld {n : Nat} {V : VT} {S : AT} {b : Nat} {J : JT} (h : GG n (V 0) S) (hb : b < 12) : ∃ V2 J2, f_X10_isHeld (Int32.ofNat b) V J = some (if hdb S b = true then 1 else 0, V2, J2) ∧ ∀ k, k ≠ 4 → V2 k = V k := by
  have et := c_thingsOn h hb
  by_cases c0 : cnt (thb S b) 16 = 0
  · refine ⟨V, J, ?_, fun _ _ => rfl⟩
    rw [if_pos (hdb_iff.mpr (Or.inl c0))]
    rw [c0] at et
    unfold f_X10_isHeld
    rw [et, bsm, if_pos (show Int32.ofNat 0 = (0 : Int32) from rfl)]
  · have hle := cnt_le (p := thb S b) 16
    have nc0 : ¬ Int32.ofNat (cnt (thb S b) 16) = 0 := fun q => c0 ((nat_eq (b := 0) (by omega) (by omega)).mp q)
    obtain ⟨V2, ef, hla, hk⟩ := c_findLines (b := b) h
    have hg2 : GG n (V2 0) S := by rw [hk 0 (by omega)]; exact h
    obtain ⟨J2, es, hJ2⟩ := c_spread (J := J) hg2 hb hla
    have hlN := cnt_le (p := holdb S (Int32.ofNat b)) 40
    refine ⟨V2, J2, ?_, hk⟩
    unfold f_X10_isHeld f_X10_isHeld_j50
    rw [et, bsm, if_neg nc0, ef, bsm]
    simp only [es, bsm]
    by_cases cN : cnt (holdb S (Int32.ofNat b)) 40 = 0
    · have hd : ¬ hdb S b = true := fun q => (hdb_iff.mp q).elim c0 (fun x => x.1 cN)
      rw [if_neg hd, cN, if_pos (show Int32.ofNat 0 = (0 : Int32) from rfl)]
    · have ncN : ¬ Int32.ofNat (cnt (holdb S (Int32.ofNat b)) 40) = 0 := fun q => cN ((nat_eq (b := 0) (by omega) (by omega)).mp q)
      rw [if_neg ncN]
      rcases c_weak hg2 hb hla hJ2 with ⟨ew, l, hl, hbad⟩ | ⟨ew, hno⟩
      · have hd : ¬ hdb S b = true := fun q => (hdb_iff.mp q).elim c0 (fun x => x.2.1 l hl hbad)
        rw [if_neg hd, ew, bsm, if_neg (by decide)]
      · rw [ew, bsm, if_pos rfl]
        by_cases c1 : 1 < cnt (holdb S (Int32.ofNat b)) 40
        · rw [if_pos (hdb_iff.mpr (Or.inr ⟨cN, hno, Or.inl c1⟩)), if_pos (show (1 : Int32) < Int32.ofNat (cnt (holdb S (Int32.ofNat b)) 40) from (nat_lt (a := 1) (by omega) (by omega)).mpr c1)]
        · rw [if_neg (show ¬ (1 : Int32) < Int32.ofNat (cnt (holdb S (Int32.ofNat b)) 40) from fun q => c1 ((nat_lt (a := 1) (by omega) (by omega)).mp q))]
          obtain ⟨l, hl, hh, htl, ep, hp, hu, hu2⟩ := one_line h (b := b) (by omega)
          have hmid := mid_one hp hu2
          rw [c_upright hg2 hb hla hp hmid, bsm]
          by_cases c2 : tsm S b (pln S l) 16 = 0
          · rw [if_pos c2, if_neg (by decide), if_pos (hdb_iff.mpr (Or.inr ⟨cN, hno, Or.inr (by rw [hmid]; exact c2)⟩))]
          · rw [if_neg c2, if_pos rfl, if_neg (fun q => by
              rcases hdb_iff.mp q with x | ⟨-, -, x | x⟩
              · exact c0 x
              · exact c1 x
              · rw [hmid] at x; exact c2 x)]
theorem m_isHeld {n : Nat} {C : AT} {M : VT} {b : Nat} (h : GG n C (M 0)) (hb : b < 12) : f_X12_isHeld (Int32.ofNat b) M = some (if hdb (M 0) b = true then 1 else 0) := by
  have et := m_things h hb
  obtain ⟨m, -, m2, hN⟩ := h.2.wn0
  have el := m_lines (M := M) (Int32.ofNat b) m2 hN
  rw [← hold_cnt h hN m2] at el
  have hle := cnt_le (p := thb (M 0) b) 16
  have hlN := cnt_le (p := holdb (M 0) (Int32.ofNat b)) 40
  unfold f_X12_isHeld
  by_cases c0 : cnt (thb (M 0) b) 16 = 0
  · rw [if_pos (hdb_iff.mpr (Or.inl c0)), et, c0, bsm, if_pos (show Int32.ofNat 0 = (0 : Int32) from rfl)]
  · have nc0 : ¬ Int32.ofNat (cnt (thb (M 0) b) 16) = 0 := fun q => c0 ((nat_eq (b := 0) (by omega) (by omega)).mp q)
    rw [et, bsm, if_neg nc0, el, bsm]
    by_cases cN : cnt (holdb (M 0) (Int32.ofNat b)) 40 = 0
    · have hd : ¬ hdb (M 0) b = true := fun q => (hdb_iff.mp q).elim c0 (fun x => x.1 cN)
      rw [if_neg hd, cN, if_pos (show Int32.ofNat 0 = (0 : Int32) from rfl)]
    · have ncN : ¬ Int32.ofNat (cnt (holdb (M 0) (Int32.ofNat b)) 40) = 0 := fun q => cN ((nat_eq (b := 0) (by omega) (by omega)).mp q)
      rw [if_neg ncN]
      by_cases c1 : 1 < cnt (holdb (M 0) (Int32.ofNat b)) 40
      · rw [if_neg (show ¬ Int32.ofNat (cnt (holdb (M 0) (Int32.ofNat b)) 40) ≤ (1 : Int32) from fun q => by have := (nat_le (b := 1) (by omega) (by omega)).mp q; omega), bsm]
        rcases m_weakLoop h hb m2 hN with ⟨ew, l, hl, hbad⟩ | ⟨ew, hno⟩
        · have hd : ¬ hdb (M 0) b = true := fun q => (hdb_iff.mp q).elim c0 (fun x => x.2.1 l hl hbad)
          rw [ew, if_neg hd]
        · rw [ew, if_pos (hdb_iff.mpr (Or.inr ⟨cN, hno, Or.inl c1⟩))]
      · rw [if_pos (show Int32.ofNat (cnt (holdb (M 0) (Int32.ofNat b)) 40) ≤ (1 : Int32) from (nat_le (b := 1) (by omega) (by omega)).mpr (by omega)), bsm, bsm, bsm]
        obtain ⟨l, hl, hh, htl, ep, hp, hu, hu2⟩ := one_line h (b := b) (by omega)
        have hmid := mid_one hp hu2
        obtain ⟨P, p1, p2, p3, p4, p5, p6⟩ := wkn_ok h hl htl
        have ew := m_weakest (M := M) hl p1 p2 p3
        rw [p5] at ew
        have eone := m_oneLoop h hb hl hp ep ew p6
        have hsh := shN_one hp hu2 16 (by omega)
        have hbl : bad (M 0) b l ↔ wkn (M 0) l < gsm (M 0) b 16 := by
          unfold bad
          rw [hsh]
          constructor
          · intro q; have := q.2; omega
          · intro q; exact ⟨hh, by omega⟩
        have hiff : (gsm (M 0) b 16 ≤ wkn (M 0) l ∧ tsm (M 0) b (pln (M 0) l) 16 = 0) ↔ hdb (M 0) b = true := by
          rw [hdb_iff]
          constructor
          · intro q
            refine Or.inr ⟨cN, fun j hj hbad => ?_, Or.inr (by rw [hmid]; exact q.2)⟩
            have := hu j hj hbad.1
            subst this
            have := hbl.mp hbad
            omega
          · intro q
            rcases q with x | ⟨-, x, y | y⟩
            · exact absurd x c0
            · exact absurd y c1
            · rw [hmid] at y
              refine ⟨Classical.byContradiction (fun z => x l hl (hbl.mpr (by omega))), y⟩
        have hfin : (if gsm (M 0) b 16 ≤ wkn (M 0) l ∧ tsm (M 0) b (pln (M 0) l) 16 = 0 then (1 : Int32) else 0) = if hdb (M 0) b = true then 1 else 0 := by
          by_cases q : gsm (M 0) b 16 ≤ wkn (M 0) l ∧ tsm (M 0) b (pln (M 0) l) 16 = 0
          · rw [if_pos q, if_pos (hiff.mp q)]
          · rw [if_neg q, if_neg (fun z => q (hiff.mpr z))]
        rw [hfin] at eone
        refine lp_iter (fun i => Int32.ofNat i) l 0 fuel (fun i _ hi => ?_) ?_ (fuel_big (by omega))
        · have eh := m_holds (M := M) (Int32.ofNat b) (l := i) (by omega)
          rw [if_neg (fun q => by have := hu i (by omega) q; omega)] at eh
          simp only [f_X12_isHeld_B87, eh, if_true, bsm, nat_succ]
        · rw [Nat.zero_add]
          have eh := m_holds (M := M) (Int32.ofNat b) hl
          rw [if_pos hh] at eh
          simp only [f_X12_isHeld_B87, eh, i10, if_false, eone, bsm]
theorem o_barOf : O_barOf (IG GG) := by
  intro n V J dd M v1 v2 hn hI
  have hI2 := ig_skip gg_ok n V J dd M hn hI
  have hgg := ig_gg hI
  rcases rng 12 (by omega) v1 with ⟨b, hb, rfl⟩ | hbad
  · have er := c_rigged hgg hb
    have e2 := m_rigged (M := M) hb
    have e3 := m_isBar_yes (M := M) hb
    by_cases q : M 0 (21 * b) = 1
    · rw [if_pos q] at er e2
      have gb : ∀ i : Nat, i < 4 → f_X7_get 0 12 4 (Int32.ofNat b) (Int32.ofNat i) V = some (M 0 (21 * b + 1 + i)) := fun i hi => by rw [← hgg.1.rb b i hb hi]; exact gbar hb hi
      have ek4 : ckA 1646 (Int32.ofNat (21 * b) + 4) = some (21 * b + 4) := ck_lit (Int32.ofNat_add (21 * b) 4).symm (by omega) (by omega)
      have egap : f_X12_gap (Int32.ofNat b) M = some (M 0 (21 * b + 2)) := by
        unfold f_X12_gap
        rw [m_bar0, bsm, show Int32.ofNat (21 * b) + 2 = Int32.ofNat (21 * b + 2) from (Int32.ofNat_add (21 * b) 2).symm, ck_nat (by omega) (by omega), bsm]
      obtain ⟨B, -, hB2, hB⟩ := hgg.2.wb4k b hb
      have fin : ∀ x : Int32, f_X11_barOf (Int32.ofNat b) v2 V J = some (x, V, J) → f_X12_barOf (Int32.ofNat b) v2 M = some x → ∃ (y : Int32 × VT × JT) (z : Int32), f_X11_barOf (Int32.ofNat b) v2 V J = some y ∧ f_X12_barOf (Int32.ofNat b) v2 M = some z ∧ y.1 = z ∧ IG GG (n + 1) y.2.1 y.2.2 dd M := fun x a1 a2 => ⟨(x, V, J), x, a1, a2, rfl, hI2⟩
      unfold f_X11_barOf f_X12_barOf at fin ⊢
      simp only [er, e2, e3, bsm, i10, if_false] at fin ⊢
      by_cases c0 : v2 = 0
      · refine fin (M 0 (21 * b + 1)) ?_ ?_
        · rw [if_pos c0, show f_X7_get 0 12 4 (Int32.ofNat b) 0 V = some (M 0 (21 * b + 1)) from gb 0 (by omega), bsm]
        · rw [if_pos c0, m_places hb, bsm]
      by_cases c1 : v2 = 1
      · refine fin (M 0 (21 * b + 2)) ?_ ?_
        · rw [if_neg c0, if_pos c1, show f_X7_get 0 12 4 (Int32.ofNat b) 1 V = some (M 0 (21 * b + 2)) from gb 1 (by omega), bsm]
        · rw [if_neg c0, if_pos c1, egap, bsm]
      by_cases c2 : v2 = 2
      · refine fin (M 0 (21 * b + 3)) ?_ ?_
        · rw [if_neg c0, if_neg c1, if_pos c2, show f_X7_get 0 12 4 (Int32.ofNat b) 2 V = some (M 0 (21 * b + 3)) from gb 2 (by omega), bsm]
        · rw [if_neg c0, if_neg c1, if_pos c2, m_height hb, bsm]
      by_cases c3 : v2 = 3
      · refine fin (M 0 (21 * b + 4)) ?_ ?_
        · rw [if_neg c0, if_neg c1, if_neg c2, if_pos c3, show f_X7_get 0 12 4 (Int32.ofNat b) 3 V = some (M 0 (21 * b + 4)) from gb 3 (by omega), bsm]
        · rw [if_neg c0, if_neg c1, if_neg c2, if_pos c3, m_bar0, bsm, ek4, bsm]
      by_cases c4 : v2 = 4
      · refine fin (Int32.ofNat (cnt (thb (M 0) b) 16)) ?_ ?_
        · rw [if_neg c0, if_neg c1, if_neg c2, if_neg c3, if_pos c4, c_thingsOn hgg hb, bsm]
        · rw [if_neg c0, if_neg c1, if_neg c2, if_neg c3, if_pos c4, m_things hgg hb, bsm]
      by_cases c5 : v2 = 5
      · obtain ⟨m, -, m2, hm⟩ := hgg.2.wn0
        have el := m_lines (M := M) (Int32.ofNat b) m2 hm
        rw [← hold_cnt hgg hm m2] at el
        refine fin (Int32.ofNat (cnt (holdb (M 0) (Int32.ofNat b)) 40)) ?_ ?_
        · rw [if_neg c0, if_neg c1, if_neg c2, if_neg c3, if_neg c4, if_pos c5, c_linesOf _ hgg, bsm]
        · rw [if_neg c0, if_neg c1, if_neg c2, if_neg c3, if_neg c4, if_pos c5, el, bsm]
      by_cases c6 : v2 = 6
      · refine fin (Int32.ofNat (glo (M 0) b)) ?_ ?_
        · rw [if_neg c0, if_neg c1, if_neg c2, if_neg c3, if_neg c4, if_neg c5, if_pos c6, c_least hgg hb, bsm]
        · rw [if_neg c0, if_neg c1, if_neg c2, if_neg c3, if_neg c4, if_neg c5, if_pos c6, m_first hgg hb, bsm]
      by_cases c7 : v2 = 7
      · obtain ⟨V2, J2, eh, hk⟩ := c_isHeld (J := J) hgg hb
        have eh2 := m_isHeld hgg hb
        refine ⟨(if hdb (M 0) b = true then 1 else 0, V2, J2), if hdb (M 0) b = true then 1 else 0, ?_, ?_, rfl, ?_⟩
        · rw [if_neg c0, if_neg c1, if_neg c2, if_neg c3, if_neg c4, if_neg c5, if_neg c6, if_pos c7, eh, bsm]
          by_cases q7 : hdb (M 0) b = true
          · rw [if_pos q7]; rfl
          · rw [if_neg q7]; rfl
        · rw [if_neg c0, if_neg c1, if_neg c2, if_neg c3, if_neg c4, if_neg c5, if_neg c6, if_pos c7, eh2, bsm]
          by_cases q7 : hdb (M 0) b = true
          · rw [if_pos q7, if_neg (by decide)]
          · rw [if_neg q7, if_pos rfl]
        · exact ig_rows hI2 (hk 0 (by omega)) (hk 1 (by omega)) (hk 10 (by omega)) (hk 11 (by omega))
      by_cases c8 : v2 = 8
      · have eb := c_balanced hgg hb hB hB2
        have e5 := ti_nat (n := B) (by omega)
        have eb2 := m_balanced hgg hb (B := Int32.ofNat B) (by rw [e5]; omega)
        rw [e5] at eb2
        refine fin (if bal (l16 (M 0) b 16) B then 1 else 0) ?_ ?_
        · rw [if_neg c0, if_neg c1, if_neg c2, if_neg c3, if_neg c4, if_neg c5, if_neg c6, if_neg c7, if_pos c8, eb, bsm]
          by_cases q8 : bal (l16 (M 0) b 16) B
          · rw [if_pos q8, if_neg (by decide)]
          · rw [if_neg q8, if_pos rfl]
        · rw [if_neg c0, if_neg c1, if_neg c2, if_neg c3, if_neg c4, if_neg c5, if_neg c6, if_neg c7, if_pos c8, m_bar0, bsm, ek4, bsm, hB, eb2, bsm]
          by_cases q8 : bal (l16 (M 0) b 16) B
          · rw [if_pos q8, if_neg (by decide)]
          · rw [if_neg q8, if_pos rfl]
      · refine fin (-1000000000) ?_ ?_
        · rw [if_neg c0, if_neg c1, if_neg c2, if_neg c3, if_neg c4, if_neg c5, if_neg c6, if_neg c7, if_neg c8]
        · rw [if_neg c0, if_neg c1, if_neg c2, if_neg c3, if_neg c4, if_neg c5, if_neg c6, if_neg c7, if_neg c8]
    · rw [if_neg q] at er e2
      refine ⟨(-1000000000, V, J), -1000000000, ?_, ?_, rfl, hI2⟩
      · unfold f_X11_barOf; rw [er, bsm, if_pos rfl]
      · unfold f_X12_barOf; rw [e3, bsm, if_neg (by decide), e2, bsm, if_pos rfl]
  · refine ⟨(-1000000000, V, J), -1000000000, ?_, ?_, rfl, hI2⟩
    · unfold f_X11_barOf; rw [c_rigged_out hbad, bsm, if_pos rfl]
    · unfold f_X12_barOf; rw [m_isBar_no hbad, bsm, if_pos rfl]
