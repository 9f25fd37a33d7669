/-! too hot; heat -/
def htP (S : AT) (b q : Nat) : Prop := ∃ u, u < 80 ∧ S (21 * b + 5 + q) = Int32.ofNat (2 + u) ∧ ¬ S (732 + 5 * u + 4) ≤ 0
def nrP (S : AT) (b p : Nat) : Prop := ∃ k, k < 5 ∧ 2 ≤ p + k ∧ p + k - 2 < 16 ∧ htP S b (p + k - 2)
def scP (S : AT) (b p : Nat) : Prop := (∃ t, t < 80 ∧ S (21 * b + 5 + p) = Int32.ofNat (2 + t) ∧ (S (732 + 5 * t) = 0 ∨ S (732 + 5 * t) = 1)) ∧ nrP S b p
noncomputable def scb (S : AT) (b p : Nat) : Bool := @decide (scP S b p) (Classical.propDecidable _)
theorem scb_iff {S : AT} {b p : Nat} : scb S b p = true ↔ scP S b p := by
  unfold scb
  exact @decide_eq_true_iff (scP S b p) (Classical.propDecidable _)
theorem told_ct {n : Nat} {C S : AT} {b p t : Nat} (h : GG n C S) (hb : b < 12) (hp : p < 16) (ht : t < 80) (e : S (21 * b + 5 + p) = Int32.ofNat (2 + t)) : Int32.ofNat t < S 1641 := by
  rcases h.2.wb5 b p hb hp with q | q | ⟨u, hu, q1, q2⟩
  · exact absurd e (ne_thing (Or.inl q) ht)
  · exact absurd e (ne_thing (Or.inr q) ht)
  · rw [thing_inj ht hu (e.symm.trans q2)]; exact q1
theorem wh_of {n m : Nat} {C S : AT} (h : GG m C S) (hno : ∀ b p, b < 12 → p < 16 → ¬ scP S b p) : W_wh n S := by
  intro b p q t u hb hp hq a1 a2 ht hu _ e1 e2 e3
  refine Classical.byContradiction (fun hne => hno b p hb hp ⟨⟨t, ht, e1, e3⟩, q + 2 - p, by omega, by omega, by omega, u, hu, ?_, ?_⟩)
  · rw [show p + (q + 2 - p) - 2 = q by omega]; exact e2
  · intro hle
    obtain ⟨⟨x, -, hx, ex⟩, -⟩ := h.2.wt4 u hu (told_ct h hb hq hu e2)
    rw [ex] at hle hne
    have := (nat_le (b := 0) (by omega) (by omega)).mp hle
    exact hne (by rw [show x = 0 by omega]; rfl)
theorem no_sc {n : Nat} {C S : AT} (h : GG n C S) (hn : n < 1000) {b p : Nat} (hb : b < 12) (hp : p < 16) : ¬ scP S b p := by
  rintro ⟨⟨t, ht, e1, e3⟩, k, hk, k2, k3, u, hu, e2, hne⟩
  have := h.2.wh b p (p + k - 2) t u hb hp k3 (by omega) (by omega) ht hu hn e1 e2 e3
  exact hne (by rw [this]; exact Int32.le_refl _)
/-- the places around a place -/
theorem nb_at {p k : Nat} (hp : p < 16) (hk : k < 6) : (Int32.ofNat p - 2 + Int32.ofNat k).toInt = (p : Int) - 2 + k := by
  have e1 := ti_nat (n := p) (by omega)
  have e2 := ti_nat (n := k) (by omega)
  have e3 : (2 : Int32).toInt = 2 := by decide
  have e4 : (Int32.ofNat p - 2).toInt = (p : Int) - 2 := by rw [i32_sub (by omega) (by omega), e1, e3]
  rw [i32_add (by omega) (by omega), e4, e2]
theorem nb_lo {p k : Nat} (hp : p < 16) (hk : k < 6) (h : ¬ 2 ≤ p + k) : Int32.ofNat p - 2 + Int32.ofNat k < 0 := by
  rw [Int32.lt_iff_toInt_lt, nb_at hp hk, ti_lit0]; omega
theorem nb_in {p k : Nat} (hp : p < 16) (hk : k < 6) (h : 2 ≤ p + k) : Int32.ofNat p - 2 + Int32.ofNat k = Int32.ofNat (p + k - 2) := by
  rw [← Int32.toInt_inj, nb_at hp hk, ti_nat (by omega)]; omega
theorem nb_succ {p k : Nat} : Int32.ofNat p - 2 + Int32.ofNat k + 1 = Int32.ofNat p - 2 + Int32.ofNat (k + 1) := by
  rw [Int32.add_assoc, nat_succ]
theorem nb_end {p k : Nat} (hp : p < 16) (hk : k < 6) : (Int32.ofNat p + 2 < Int32.ofNat p - 2 + Int32.ofNat k) ↔ ¬ k < 5 := by
  have e : Int32.ofNat p + 2 = Int32.ofNat (p + 2) := (Int32.ofNat_add p 2).symm
  rw [Int32.lt_iff_toInt_lt, nb_at hp hk, e, ti_nat (by omega)]; omega
theorem nb_0 {p : Nat} : Int32.ofNat p - 2 = Int32.ofNat p - 2 + Int32.ofNat 0 := (Int32.add_zero _).symm
theorem c_thingX {n : Nat} {V : VT} {S : AT} {b p k : Nat} (h : GG n (V 0) S) (hb : b < 12) (hp : p < 16) (hk : k < 6) : ∃ y, f_X3_thingIn (Int32.ofNat b) (Int32.ofNat p - 2 + Int32.ofNat k) V = some y ∧ ((2 ≤ p + k ∧ p + k - 2 < 16) → y = S (21 * b + 5 + (p + k - 2)) - 2) ∧ (¬ (2 ≤ p + k ∧ p + k - 2 < 16) → y < 0) := by
  by_cases q : 2 ≤ p + k ∧ p + k - 2 < 16
  · refine ⟨_, ?_, fun _ => rfl, fun q2 => absurd q q2⟩
    rw [nb_in hp hk q.1]; exact c_thingIn h hb q.2
  · refine ⟨0 - 2, ?_, fun q2 => absurd q2 q, fun _ => by decide⟩
    unfold f_X3_thingIn
    have : f_X7_get 48 12 16 (Int32.ofNat b) (Int32.ofNat p - 2 + Int32.ofNat k) V = some 0 := by
      refine get_col V ?_
      by_cases q1 : 2 ≤ p + k
      · refine Or.inr ?_
        rw [nb_in hp hk q1]
        exact fun q3 => by have := (nat_lt (b := 16) (by omega) (by omega)).mp q3; omega
      · exact Or.inl (nb_lo hp hk q1)
    rw [this, bsm]
theorem c_hotAt {n : Nat} {V : VT} {S : AT} {b p : Nat} (h : GG n (V 0) S) (hb : b < 12) (hp : p < 16) : (f_X5_isHotAt (Int32.ofNat b) (Int32.ofNat p) V = some 1 ∧ nrP S b p) ∨ (f_X5_isHotAt (Int32.ofNat b) (Int32.ofNat p) V = some 0 ∧ ¬ nrP S b p) := by
  have look : ∀ k, k < 5 → (2 ≤ p + k ∧ p + k - 2 < 16 ∧ htP S b (p + k - 2) → f_X5_isHotAt_B4 (Int32.ofNat b) (Int32.ofNat p) V (Int32.ofNat p - 2 + Int32.ofNat k) = some (.inr 1)) ∧ (¬ (2 ≤ p + k ∧ p + k - 2 < 16 ∧ htP S b (p + k - 2)) → f_X5_isHotAt_B4 (Int32.ofNat b) (Int32.ofNat p) V (Int32.ofNat p - 2 + Int32.ofNat k) = some (.inl (Int32.ofNat p - 2 + Int32.ofNat (k + 1)))) := by
    intro k hk
    have n1 : ¬ Int32.ofNat p + 2 < Int32.ofNat p - 2 + Int32.ofNat k := fun q => (nb_end hp (by omega)).mp q hk
    obtain ⟨y, ey, y1, y2⟩ := c_thingX (k := k) h hb hp (by omega)
    by_cases q : 2 ≤ p + k ∧ p + k - 2 < 16
    · have y1 := y1 q
      rcases low_ct h hb (p := p + k - 2) q.2 with ⟨hl, ho⟩ | ⟨hl, u, hu, htl, e⟩
      · have hy : y < 0 := by rw [y1]; exact low_sub ho
        refine ⟨fun hh => ?_, fun _ => ?_⟩
        · obtain ⟨-, -, u, hu, e, -⟩ := hh
          exact absurd e (ne_thing ho hu)
        · simp only [f_X5_isHotAt_B4, f_X5_isHotAt_j45, n1, if_false, ey, hy, if_true, bsm, nb_succ]
      · rw [e, sub2] at y1
        rw [y1] at ey
        have nn : ¬ Int32.ofNat u < 0 := nat_nneg (by omega)
        have g5 : f_X7_get 720 80 8 (Int32.ofNat u) 5 V = some (S (732 + 5 * u + 4)) := by rw [← h.1.rh u hu]; exact tget (c := 5) hu (by omega)
        constructor
        · rintro ⟨-, -, u2, hu2, e2, hne⟩
          have : u = u2 := thing_inj hu hu2 (e.symm.trans e2)
          subst this
          simp only [f_X5_isHotAt_B4, n1, if_false, ey, nn, g5, hne, bsm]
        · intro hno
          have hle : S (732 + 5 * u + 4) ≤ 0 := Classical.byContradiction (fun x => hno ⟨q.1, q.2, u, hu, e, x⟩)
          simp only [f_X5_isHotAt_B4, f_X5_isHotAt_j45, n1, if_false, ey, nn, g5, hle, if_true, bsm, nb_succ]
    · refine ⟨fun hh => absurd ⟨hh.1, hh.2.1⟩ q, fun _ => ?_⟩
      simp only [f_X5_isHotAt_B4, f_X5_isHotAt_j45, n1, if_false, ey, y2 q, if_true, bsm, nb_succ]
  unfold f_X5_isHotAt
  rw [bsm, nb_0]
  rcases first_of (fun k => 2 ≤ p + k ∧ p + k - 2 < 16 ∧ htP S b (p + k - 2)) 5 with hno | ⟨k, hk, h1, h2⟩
  · refine Or.inr ⟨?_, fun ⟨k, hk, q⟩ => hno k hk q⟩
    refine lp_iter (fun k => Int32.ofNat p - 2 + Int32.ofNat k) 5 0 fuel (fun k _ hk => (look k (by omega)).2 (hno k (by omega))) ?_ (fuel_big (by omega))
    rw [Nat.zero_add]
    have n1 : Int32.ofNat p + 2 < Int32.ofNat p - 2 + Int32.ofNat 5 := (nb_end hp (by omega)).mpr (by omega)
    simp only [f_X5_isHotAt_B4, n1, if_true, bsm]
  · refine Or.inl ⟨?_, k, hk, h1⟩
    refine lp_iter (fun k => Int32.ofNat p - 2 + Int32.ofNat k) k 0 fuel (fun j _ hj => (look j (by omega)).2 (h2 j (by omega))) ?_ (fuel_big (by omega))
    rw [Nat.zero_add]
    exact (look k hk).1 h1
def lsO : Option Nat → Nat → Option Nat
  | none, t => some t
  | some a, t => some (if t < a then t else a)
noncomputable def mhm (S : AT) (b : Nat) (m : Option Nat) : Nat → Option Nat
  | 0 => m
  | p + 1 => if scb S b p = true then lsO (mhm S b m p) (tix (S (21 * b + 5 + p))) else mhm S b m p
theorem mhm_succ {S : AT} {b p : Nat} {m : Option Nat} : mhm S b m (p + 1) = if scb S b p = true then lsO (mhm S b m p) (tix (S (21 * b + 5 + p))) else mhm S b m p := rfl
theorem mhm_no {S : AT} {b : Nat} {m : Option Nat} (hno : ∀ p, p < 16 → ¬ scP S b p) : ∀ p, p ≤ 16 → mhm S b m p = m := by
  intro p
  induction p with
  | zero => intro _; rfl
  | succ p ih => intro hp; rw [mhm_succ, if_neg (fun e => hno p (by omega) (scb_iff.mp e))]; exact ih (by omega)
theorem mhm_none {S : AT} {b : Nat} : ∀ p, mhm S b none p = none → ∀ q, q < p → ¬ scP S b q := by
  intro p
  induction p with
  | zero => intro _ q hq; omega
  | succ p ih =>
    intro h q hq
    rw [mhm_succ] at h
    by_cases c : scb S b p = true
    · rw [if_pos c] at h
      cases hm : mhm S b none p with
      | none => rw [hm] at h; cases h
      | some a => rw [hm] at h; cases h
    · rw [if_neg c] at h
      by_cases e : q = p
      · rw [e]; exact fun x => c (scb_iff.mpr x)
      · exact ih h q (by omega)
theorem mhm_lt {n : Nat} {C S : AT} {b : Nat} {m : Option Nat} (h : GG n C S) (hb : b < 12) (hm : ∀ a, m = some a → a < 80) : ∀ p, p ≤ 16 → ∀ a, mhm S b m p = some a → a < 80 := by
  intro p
  induction p with
  | zero => intro _; exact hm
  | succ p ih =>
    intro hp a ha
    have ih := ih (by omega)
    rw [mhm_succ] at ha
    by_cases c : scb S b p = true
    · rw [if_pos c] at ha
      obtain ⟨⟨t, ht, e, -⟩, -⟩ := scb_iff.mp c
      rw [tix_at ht e] at ha
      cases hmm : mhm S b m p with
      | none => rw [hmm] at ha; cases ha; exact ht
      | some x =>
        rw [hmm] at ha
        have := ih x hmm
        cases ha
        split <;> omega
    · rw [if_neg c] at ha; exact ih a ha
theorem none_ne {q : Nat} (hq : q < 2147483648) : ¬ Int32.ofNat q = (-1000000000 : Int32) := by
  intro e
  have h1 := congrArg Int32.toInt e
  rw [ti_nat hq, show (-1000000000 : Int32).toInt = -1000000000 by decide] at h1
  omega
theorem c_lesser {V : VT} {m : Option Nat} {t : Nat} (hm : ∀ a, m = some a → a < 80) (ht : t < 80) : f_X5_lesser (o32 (-1000000000) m) (Int32.ofNat t) V = some (o32 (-1000000000) (lsO m t)) := by
  unfold f_X5_lesser
  cases m with
  | none => rw [if_pos (show o32 (-1000000000) none = -1000000000 from rfl)]; rfl
  | some a =>
    have ha := hm a rfl
    rw [if_neg (show ¬ o32 (-1000000000) (some a) = -1000000000 from none_ne (by omega))]
    show some (if Int32.ofNat t < Int32.ofNat a then Int32.ofNat t else Int32.ofNat a) = some (Int32.ofNat (if t < a then t else a))
    by_cases q : t < a
    · rw [if_pos q, if_pos ((nat_lt (by omega) (by omega)).mpr q)]
    · rw [if_neg q, if_neg (fun x => q ((nat_lt (by omega) (by omega)).mp x))]
theorem m_lesser {V : VT} {m : Option Nat} {t : Nat} (hm : ∀ a, m = some a → a < 80) (ht : t < 80) : f_X12_lesser (o32 (-1) m) (Int32.ofNat t) V = some (o32 (-1) (lsO m t)) := by
  unfold f_X12_lesser
  have nt : (0 : Int32) ≤ Int32.ofNat t := nlt_le (nat_nneg (by omega))
  cases m with
  | none => rw [if_neg (show ¬ (0 : Int32) ≤ o32 (-1) none from by show ¬ (0 : Int32) ≤ -1; decide)]; rfl
  | some a =>
    have ha := hm a rfl
    rw [if_pos (show (0 : Int32) ≤ o32 (-1) (some a) from nlt_le (nat_nneg (by omega))), if_pos nt]
    show (if Int32.ofNat t ≤ Int32.ofNat a then some (Int32.ofNat t) else some (Int32.ofNat a)) = some (Int32.ofNat (if t < a then t else a))
    by_cases q : t < a
    · rw [if_pos q, if_pos ((nat_le (by omega) (by omega)).mpr (by omega))]
    · rw [if_neg q]
      by_cases q2 : t = a
      · rw [if_pos (by rw [q2]; exact Int32.le_refl _), q2]
      · rw [if_neg (fun x => by have := (nat_le (by omega) (by omega)).mp x; omega)]
theorem c_tooHot {n : Nat} {V : VT} {S : AT} {b : Nat} (h : GG n (V 0) S) (hb : b < 12) : f_X5_leastTooHot (Int32.ofNat b) V = some (o32 (-1000000000) (mhm S b none 16)) := by
  unfold f_X5_leastTooHot
  rw [bsm, bsm]
  refine lp_iter (fun i => (o32 (-1000000000) (mhm S b none i), Int32.ofNat i)) 16 0 fuel (fun i _ hi => ?_) ?_ (fuel_big (by omega))
  · have hi : i < 16 := by omega
    have n1 : ¬ (16 : Int32) ≤ Int32.ofNat i := fun q => by have := (nat_le (a := 16) (by omega) (by omega)).mp q; omega
    have et := c_thingIn h hb hi
    have hlt := mhm_lt (m := none) h hb (fun a ha => by cases ha) i (by omega)
    rw [mhm_succ]
    rcases low_ct h hb (p := i) hi with ⟨hl, ho⟩ | ⟨hl, t, ht, htl, e⟩
    · rw [if_neg (fun x => by obtain ⟨⟨t, ht, e, -⟩, -⟩ := scb_iff.mp x; exact absurd e (ne_thing ho ht))]
      simp only [f_X5_leastTooHot_B5, f_X5_leastTooHot_j69, n1, if_false, et, low_sub ho, if_true, bsm, nat_succ]
    · rw [e, sub2] at et
      have nn : ¬ Int32.ofNat t < 0 := nat_nneg (by omega)
      have k0 := c_isKind 0 h ht
      have k1 := c_isKind 1 h ht
      by_cases hk : S (732 + 5 * t) = 0 ∨ S (732 + 5 * t) = 1
      · have hb53 : f_X5_leastTooHot_B5 (Int32.ofNat b) V (o32 (-1000000000) (mhm S b none i), Int32.ofNat i) = f_X5_leastTooHot_j53 (Int32.ofNat b) (o32 (-1000000000) (mhm S b none i)) (Int32.ofNat i) (Int32.ofNat t) V := by
          by_cases z0 : S (732 + 5 * t) = 0
          · rw [if_pos z0] at k0
            simp only [f_X5_leastTooHot_B5, n1, if_false, et, nn, k0, i10, bsm]
          · rw [if_neg z0] at k0
            rw [if_pos (hk.resolve_left z0)] at k1
            simp only [f_X5_leastTooHot_B5, n1, if_false, et, nn, k0, if_true, k1, i10, bsm]
        show f_X5_leastTooHot_B5 (Int32.ofNat b) V (o32 (-1000000000) (mhm S b none i), Int32.ofNat i) = _
        rw [hb53]
        unfold f_X5_leastTooHot_j53 f_X5_leastTooHot_j69
        rcases c_hotAt h hb hi with ⟨eh, hh⟩ | ⟨eh, hh⟩
        · rw [if_pos (scb_iff.mpr ⟨⟨t, ht, e, hk⟩, hh⟩), tix_at ht e, eh, bsm, if_neg (by decide), c_lesser hlt ht, bsm, bsm, nat_succ]
        · rw [if_neg (fun x => hh (scb_iff.mp x).2), eh, bsm, if_pos rfl, bsm, nat_succ]
      · rw [if_neg (fun x => by
          obtain ⟨⟨t2, ht2, e2, hk2⟩, -⟩ := scb_iff.mp x
          have := thing_inj ht ht2 (e.symm.trans e2)
          subst this
          exact hk hk2)]
        rw [if_neg (fun x => hk (Or.inl x))] at k0
        rw [if_neg (fun x => hk (Or.inr x))] at k1
        simp only [f_X5_leastTooHot_B5, f_X5_leastTooHot_j69, n1, if_false, et, nn, k0, k1, if_true, bsm, nat_succ]
  · rw [Nat.zero_add]
    have n1 : (16 : Int32) ≤ Int32.ofNat 16 := by decide
    simp only [f_X5_leastTooHot_B5, n1, if_true, bsm]
theorem c_tooHot_out {V : VT} {x : Int32} (hx : x < 0 ∨ 12 ≤ x) : f_X5_leastTooHot x V = some (-1000000000) := by
  unfold f_X5_leastTooHot
  rw [bsm, bsm]
  refine lp_iter (fun i => (-1000000000, Int32.ofNat i)) 16 0 fuel (fun i _ hi => ?_) ?_ (fuel_big (by omega))
  · have n1 : ¬ (16 : Int32) ≤ Int32.ofNat i := fun q => by have := (nat_le (a := 16) (by omega) (by omega)).mp q; omega
    have eg : f_X7_get 48 12 16 x (Int32.ofNat i) V = some 0 := get_row V hx
    have nn : (0 : Int32) - 2 < 0 := by decide
    simp only [f_X5_leastTooHot_B5, f_X5_leastTooHot_j69, f_X3_thingIn, n1, if_false, eg, nn, if_true, bsm, nat_succ]
  · rw [Nat.zero_add]
    have n1 : (16 : Int32) ≤ Int32.ofNat 16 := by decide
    simp only [f_X5_leastTooHot_B5, n1, if_true, bsm]
