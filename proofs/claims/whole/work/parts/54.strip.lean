/-! counting; strip -/
def cnt (p : Nat → Bool) : Nat → Nat
  | 0 => 0
  | k + 1 => if p k = true then cnt p k + 1 else cnt p k
theorem cnt_le {p : Nat → Bool} : ∀ k, cnt p k ≤ k := by
  intro k
  induction k with
  | zero => exact Nat.le_refl 0
  | succ k ih => unfold cnt; split <;> omega
theorem cnt_cg {p q : Nat → Bool} : ∀ k, (∀ i, i < k → p i = q i) → cnt p k = cnt q k := by
  intro k
  induction k with
  | zero => intro _; rfl
  | succ k ih => intro h; unfold cnt; rw [ih (fun i hi => h i (by omega)), h k (by omega)]
theorem cnt_tail {p : Nat → Bool} {a : Nat} : ∀ k, (∀ i, a ≤ i → i < a + k → p i = false) → cnt p (a + k) = cnt p a := by
  intro k
  induction k with
  | zero => intro _; rfl
  | succ k ih =>
    intro h
    rw [show cnt p (a + (k + 1)) = if p (a + k) = true then cnt p (a + k) + 1 else cnt p (a + k) from rfl, h (a + k) (by omega) (by omega), if_neg (by decide)]
    exact ih (fun i h1 h2 => h i h1 (by omega))
theorem cnt_pos {p : Nat → Bool} {i : Nat} : ∀ k, i < k → p i = true → 0 < cnt p k := by
  intro k
  induction k with
  | zero => intro h; omega
  | succ k ih =>
    intro h hp
    unfold cnt
    by_cases e : i = k
    · subst e; rw [if_pos hp]; omega
    · have := ih (by omega) hp
      split <;> omega
theorem cnt_zero {p : Nat → Bool} : ∀ k, (∀ i, i < k → p i = false) → cnt p k = 0 := by
  intro k h
  have := cnt_tail (p := p) (a := 0) k (fun i _ hi => h i (by omega))
  rw [Nat.zero_add] at this; exact this
def holdb (S : AT) (v : Int32) (l : Nat) : Bool := decide (S (252 + 12 * l + 3) = 1 ∧ S (252 + 12 * l) = v)
theorem hold_told {n : Nat} {C S : AT} {v : Int32} {l m : Nat} (h : GG n C S) (hN : S 1640 = Int32.ofNat m) (hm : m ≤ 40) (h1 : m ≤ l) (h2 : l < 40) : ¬ (S (252 + 12 * l + 3) = 1 ∧ S (252 + 12 * l) = v) := by
  intro q
  have := h.2.wl0 l h2 (by rw [hN]; exact (nat_le (by omega) (by omega)).mpr h1)
  rw [q.1] at this; exact absurd this (by decide)
theorem hold_cnt {n : Nat} {C S : AT} {v : Int32} {m : Nat} (h : GG n C S) (hN : S 1640 = Int32.ofNat m) (hm : m ≤ 40) : cnt (holdb S v) 40 = cnt (holdb S v) m := by
  have := cnt_tail (p := holdb S v) (a := m) (40 - m) (fun i h1 h2 => decide_eq_false (hold_told h hN hm h1 (by omega)))
  rw [show m + (40 - m) = 40 by omega] at this; exact this
theorem c_linesOf {n : Nat} {V : VT} {S : AT} (v : Int32) (h : GG n (V 0) S) : f_X3_linesOf v V = some (Int32.ofNat (cnt (holdb S v) 40)) := by
  unfold f_X3_linesOf
  rw [bsm, bsm]
  refine lp_iter (fun i => (Int32.ofNat (cnt (holdb S v) i), Int32.ofNat i)) 40 0 fuel (fun i _ hi => ?_) ?_ (fuel_big (by omega))
  · have n1 : ¬ (40 : Int32) ≤ Int32.ofNat i := fun q => by have := (nat_le (a := 40) (by omega) (by omega)).mp q; omega
    have eh := c_holdsBar v h (l := i) (by omega)
    rw [show cnt (holdb S v) (i + 1) = if holdb S v i = true then cnt (holdb S v) i + 1 else cnt (holdb S v) i from rfl]
    by_cases q : S (252 + 12 * i + 3) = 1 ∧ S (252 + 12 * i) = v
    · rw [if_pos q] at eh
      rw [if_pos (show holdb S v i = true from decide_eq_true q)]
      simp only [f_X3_linesOf_B4, f_X3_linesOf_j22, n1, if_false, eh, bsm, i10, nat_succ]
    · rw [if_neg q] at eh
      rw [if_neg (show ¬ holdb S v i = true from fun e => q (of_decide_eq_true e))]
      simp only [f_X3_linesOf_B4, f_X3_linesOf_j22, n1, if_false, if_true, eh, bsm, nat_succ]
  · rw [Nat.zero_add]
    have n1 : (40 : Int32) ≤ Int32.ofNat 40 := by decide
    simp only [f_X3_linesOf_B4, n1, if_true, bsm]
theorem m_lines {M : VT} {m : Nat} (v : Int32) (hm : m ≤ 40) (hN : M 0 1640 = Int32.ofNat m) : f_X12_lines v M = some (Int32.ofNat (cnt (holdb (M 0) v) m)) := by
  have kN : ckA 1646 (1640 : Int32) = some 1640 := ck_lit (k := 1640) rfl (by omega) (by omega)
  unfold f_X12_lines
  rw [bsm, bsm]
  refine lp_iter (fun i => (Int32.ofNat (cnt (holdb (M 0) v) i), Int32.ofNat i)) m 0 fuel (fun i _ hi => ?_) ?_ (fuel_big (by omega))
  · have n1 : ¬ Int32.ofNat m ≤ Int32.ofNat i := fun q => by have := (nat_le (by omega) (by omega)).mp q; omega
    have eh := m_holds (M := M) v (l := i) (by omega)
    rw [show cnt (holdb (M 0) v) (i + 1) = if holdb (M 0) v i = true then cnt (holdb (M 0) v) i + 1 else cnt (holdb (M 0) v) i from rfl]
    by_cases q : M 0 (252 + 12 * i + 3) = 1 ∧ M 0 (252 + 12 * i) = v
    · rw [if_pos q] at eh
      rw [if_pos (show holdb (M 0) v i = true from decide_eq_true q)]
      simp only [f_X12_lines_B4, f_X12_lines_j31, kN, hN, n1, if_false, eh, bsm, i10, nat_succ]
    · rw [if_neg q] at eh
      rw [if_neg (show ¬ holdb (M 0) v i = true from fun e => q (of_decide_eq_true e))]
      simp only [f_X12_lines_B4, f_X12_lines_j31, kN, hN, n1, if_false, if_true, eh, bsm, Int32.add_zero, nat_succ]
  · rw [Nat.zero_add]
    simp only [f_X12_lines_B4, kN, hN, Int32.le_refl, if_true, bsm]
theorem c_isHigh {n : Nat} {V : VT} {S : AT} {b : Nat} (h : GG n (V 0) S) (hb : b < 12) : f_X3_isHigh (Int32.ofNat b) V = some (if S (21 * b + 3) = 0 then 0 else 1) := by
  have e : f_X7_get 0 12 4 (Int32.ofNat b) 2 V = some (S (21 * b + 3)) := by rw [← h.1.rb2 b hb]; exact gbar (c := 2) hb (by omega)
  unfold f_X3_isHigh
  rw [e, bsm]
  by_cases q : S (21 * b + 3) = 0
  · rw [if_pos q, if_pos q]
  · rw [if_neg q, if_neg q]
theorem m_height {M : VT} {b : Nat} (hb : b < 12) : f_X12_height (Int32.ofNat b) M = some (M 0 (21 * b + 3)) := by
  unfold f_X12_height
  rw [m_bar0, bsm, show Int32.ofNat (21 * b) + 3 = Int32.ofNat (21 * b + 3) from (Int32.ofNat_add (21 * b) 3).symm, ck_nat (by omega) (by omega), bsm]
theorem m_places {M : VT} {b : Nat} (hb : b < 12) : f_X12_places (Int32.ofNat b) M = some (M 0 (21 * b + 1)) := by
  unfold f_X12_places
  rw [m_bar0, bsm, nat_succ, ck_nat (by omega) (by omega), bsm]
theorem c_isFree {n : Nat} {V : VT} {S : AT} {b p : Nat} (h : GG n (V 0) S) (hb : b < 12) (hp : p < 16) : f_X3_isFree (Int32.ofNat b) (Int32.ofNat p) V = some (if S (21 * b + 5 + p) = 0 then 1 else 0) := by
  have e : f_X7_get 48 12 16 (Int32.ofNat b) (Int32.ofNat p) V = some (S (21 * b + 5 + p)) := by rw [← h.1.rc b p hb hp]; exact gcon hb hp
  unfold f_X3_isFree
  rw [e, bsm]
  by_cases q : S (21 * b + 5 + p) = 0
  · rw [if_pos q, if_pos q]
  · rw [if_neg q, if_neg q]
/-- a cue of a bar is not over -/
def cued (S : AT) (v : Int32) (c : Nat) : Prop := S (1132 + 5 * c) = v ∧ nov S c
theorem c_barCued {n m : Nat} {V : VT} {S : AT} (v : Int32) (h : GG n (V 0) S) (hn : n ≤ 1000) (hm : m ≤ 60) (hN : S 1642 = Int32.ofNat m) : (f_X3_isBarCued v V = some 1 ∧ ∃ c, c < m ∧ cued S v c) ∨ (f_X3_isBarCued v V = some 0 ∧ ∀ c, c < m → ¬ cued S v c) := by
  have eN : f_X7_get 1868 1 6 0 2 V = some (Int32.ofNat m) := by rw [← hN]; exact nget (i := 2) h (by omega)
  have ep : ∀ c, c < m → f_X3_isPendingCue (Int32.ofNat c) v V = some (if S (1132 + 5 * c) = v ∧ nov S c then 1 else 0) := fun c hc => c_pending v h hn (by omega) (by rw [hN]; exact (nat_lt (by omega) (by omega)).mpr hc)
  have step : ∀ c, c < m → ¬ cued S v c → f_X3_isBarCued_B12 v (Int32.ofNat m) V (Int32.ofNat c) = some (.inl (Int32.ofNat (c + 1))) := by
    intro c hc hno
    have n1 : ¬ Int32.ofNat m ≤ Int32.ofNat c := fun q => by have := (nat_le (by omega) (by omega)).mp q; omega
    have e := ep c hc
    rw [if_neg (show ¬ (S (1132 + 5 * c) = v ∧ nov S c) from hno)] at e
    simp only [f_X3_isBarCued_B12, n1, if_false, e, bsm, if_true, nat_succ]
  rcases first_of (cued S v) m with hno | ⟨k, hk, h1, h2⟩
  · refine Or.inr ⟨?_, hno⟩
    unfold f_X3_isBarCued
    rw [eN, bsm, bsm]
    refine lp_iter (fun i => Int32.ofNat i) m 0 fuel (fun i _ hi => step i (by omega) (hno i (by omega))) ?_ (fuel_big (by omega))
    rw [Nat.zero_add]
    simp only [f_X3_isBarCued_B12, Int32.le_refl, if_true, bsm]
  · refine Or.inl ⟨?_, k, hk, h1⟩
    unfold f_X3_isBarCued
    rw [eN, bsm, bsm]
    refine lp_iter (fun i => Int32.ofNat i) k 0 fuel (fun i _ hi => step i (by omega) (h2 i (by omega))) ?_ (fuel_big (by omega))
    rw [Nat.zero_add]
    have n1 : ¬ Int32.ofNat m ≤ Int32.ofNat k := fun q => by have := (nat_le (by omega) (by omega)).mp q; omega
    have e := ep k hk
    rw [if_pos (show S (1132 + 5 * k) = v ∧ nov S k from h1)] at e
    simp only [f_X3_isBarCued_B12, n1, if_false, e, bsm, i10]
/-- what follows the first loop in the reference's strip() -/
def stripX (v1 t : Int32) (V : VT) : Option (Int32 × VT) := (f_X12_is t (18 : Int32) V).bind fun r13 =>
  if r13.1 = 0 then ((some (-1 : Int32)).bind fun a14 =>
  (f_X12_places v1 r13.2).bind fun r15 =>
  (some (r15 - (1 : Int32))).bind fun a16 =>
  lp (f_X12_strip_B148 v1 r13.2) fuel (a14, a16)) else ((f_X12_refused r13.2).bind fun r35 =>
  some (r35.1, r35.2))
theorem m_stripLoop {M : VT} {m : Nat} (v1 t : Int32) (hm : m ≤ 60) (hN : M 0 1642 = Int32.ofNat m) (ht : t = 1 ∧ (∃ c, c < m ∧ cued (M 0) v1 c) ∨ t = 0 ∧ ∀ c, c < m → ¬ cued (M 0) v1 c) : lp (f_X12_strip_B76 v1 M) fuel ((0 : Int32), (0 : Int32)) = stripX v1 t M := by
  have kN : ckA 1646 (1642 : Int32) = some 1642 := ck_lit (k := 1642) rfl (by omega) (by omega)
  have e0 : ∀ c, c < 60 → f_X12_cueIs (Int32.ofNat c) 0 M = some (M 0 (1132 + 5 * c)) := fun c hc => m_cueIs (i := 0) hc (by omega)
  have step0 : ∀ c, c < m → ¬ cued (M 0) v1 c → f_X12_strip_B76 v1 M (0, Int32.ofNat c) = some (.inl (0, Int32.ofNat (c + 1))) := by
    intro c hc hno
    have n1 : ¬ Int32.ofNat m ≤ Int32.ofNat c := fun q => by have := (nat_le (by omega) (by omega)).mp q; omega
    have en := m_notOver (M := M) (c := c) (by omega)
    by_cases q : M 0 (1132 + 5 * c) = v1
    · rw [if_neg (fun p => hno ⟨q, p⟩)] at en
      simp only [f_X12_strip_B76, f_X12_strip_j114, f_X12_strip_j115, kN, hN, n1, if_false, if_true, e0 c (by omega), eq_true q, en, bsm, nat_succ]
    · simp only [f_X12_strip_B76, f_X12_strip_j114, f_X12_strip_j115, kN, hN, n1, if_false, if_true, e0 c (by omega), eq_false q, bsm, nat_succ]
  have stepy : ∀ c, c < m → cued (M 0) v1 c → f_X12_strip_B76 v1 M (0, Int32.ofNat c) = some (.inl (1, Int32.ofNat (c + 1))) := by
    intro c hc hy
    have n1 : ¬ Int32.ofNat m ≤ Int32.ofNat c := fun q => by have := (nat_le (by omega) (by omega)).mp q; omega
    have en := m_notOver (M := M) (c := c) (by omega)
    rw [if_pos hy.2] at en
    simp only [f_X12_strip_B76, f_X12_strip_j110, f_X12_strip_j115, kN, hN, n1, if_false, if_true, e0 c (by omega), eq_true hy.1, en, i10, bsm, nat_succ]
  have step1 : ∀ c, c < m → f_X12_strip_B76 v1 M (1, Int32.ofNat c) = some (.inl (1, Int32.ofNat (c + 1))) := by
    intro c hc
    have n1 : ¬ Int32.ofNat m ≤ Int32.ofNat c := fun q => by have := (nat_le (by omega) (by omega)).mp q; omega
    simp only [f_X12_strip_B76, f_X12_strip_j110, f_X12_strip_j115, kN, hN, n1, if_false, i10, bsm, nat_succ]
  have fin : ∀ t, f_X12_strip_B76 v1 M (t, Int32.ofNat m) = (stripX v1 t M).bind fun y => some (.inr y) := by
    intro t
    unfold f_X12_strip_B76
    rw [kN, bsm, hN, if_pos (Int32.le_refl _)]
    rfl
  rcases ht with ⟨rfl, hex⟩ | ⟨rfl, hno⟩
  · rcases first_of (cued (M 0) v1) m with hno | ⟨k, hk, h1, h2⟩
    · obtain ⟨l, hl, hh⟩ := hex
      exact absurd hh (hno l hl)
    · refine lp_run (fun i => (if k < i then 1 else 0, Int32.ofNat i)) m 0 fuel (fun i _ hi => ?_) ?_ (fuel_big (by omega))
      · rcases (show i < k ∨ i = k ∨ k < i by omega) with q | q | q
        · simp only [show ¬ k < i by omega, show ¬ k < i + 1 by omega, if_false]
          exact step0 i (by omega) (h2 i q)
        · subst q
          simp only [show ¬ i < i by omega, show i < i + 1 by omega, if_false, if_true]
          exact stepy i (by omega) h1
        · simp only [q, show k < i + 1 by omega, if_true]
          exact step1 i (by omega)
      · rw [Nat.zero_add]
        simp only [hk, if_true]
        exact fin 1
  · refine lp_run (fun i => (0, Int32.ofNat i)) m 0 fuel (fun i _ hi => step0 i (by omega) (hno i (by omega))) ?_ (fuel_big (by omega))
    rw [Nat.zero_add]
    exact fin 0
/-- the least place that is not free, looked for from the last one down -/
def ful (S : AT) (b m : Nat) : Nat → Int32
  | 0 => -1
  | i + 1 => if S (21 * b + 5 + (m - 1 - i)) = 0 then ful S b m i else Int32.ofNat (m - 1 - i)
theorem ful_no {S : AT} {b m : Nat} : ∀ i, i ≤ m → (∀ p, p < m → S (21 * b + 5 + p) = 0) → ful S b m i = -1 := by
  intro i
  induction i with
  | zero => intro _ _; rfl
  | succ i ih =>
    intro hi h
    unfold ful
    rw [if_pos (h _ (by omega))]; exact ih (by omega) h
theorem ful_at {S : AT} {b m k : Nat} (hk : k < m) (h1 : ¬ S (21 * b + 5 + k) = 0) (h2 : ∀ p, p < k → S (21 * b + 5 + p) = 0) : ∀ i, i ≤ m → m - k ≤ i → ful S b m i = Int32.ofNat k := by
  intro i
  induction i with
  | zero => intro _ _; omega
  | succ i ih =>
    intro hi hl
    unfold ful
    by_cases e : m - 1 - i = k
    · rw [e, if_neg h1]
    · rw [if_pos (h2 _ (by omega))]; exact ih (by omega) (by omega)
theorem m_fulLoop {M : VT} {b m : Nat} (hb : b < 12) (hm : m ≤ 16) (h1 : 1 ≤ m) : lp (f_X12_strip_B148 (Int32.ofNat b) M) fuel ((-1 : Int32), Int32.ofNat m - 1) = if ful (M 0) b m m < 0 then f_X12_strip_j182 (Int32.ofNat b) (ful (M 0) b m m) 0 M else f_X12_strip_j182 (Int32.ofNat b) (ful (M 0) b m m) 1 M := by
  have e0 : Int32.ofNat m - 1 = if 0 < m then Int32.ofNat (m - 1 - 0) else -1 := by
    rw [if_pos (by omega), show Int32.ofNat (m - 1 - 0) = Int32.ofNat (m - 1) from rfl]
    obtain ⟨q, rfl⟩ : ∃ q, m = q + 1 := ⟨m - 1, by omega⟩
    rw [← nat_succ]; exact add_sub1
  rw [e0]
  refine lp_run (fun i => (ful (M 0) b m i, if i < m then Int32.ofNat (m - 1 - i) else -1)) m 0 fuel (fun i _ hi => ?_) ?_ (fuel_big (by omega))
  · have hi : i < m := by omega
    have n1 : ¬ Int32.ofNat (m - 1 - i) < 0 := nat_nneg (by omega)
    have e1 : Int32.ofNat (m - 1 - i) + (-1) = if i + 1 < m then Int32.ofNat (m - 1 - (i + 1)) else -1 := by
      by_cases q : i + 1 < m
      · rw [if_pos q]
        obtain ⟨x, hx⟩ : ∃ x, m - 1 - i = x + 1 := ⟨m - 1 - i - 1, by omega⟩
        rw [hx, show m - 1 - (i + 1) = x by omega, ← nat_succ, ← Int32.sub_eq_add_neg]; exact add_sub1
      · rw [if_neg q, show m - 1 - i = 0 by omega]; rfl
    have eh := m_held (M := M) hb (p := m - 1 - i) (by omega)
    simp only [hi, if_true, f_X12_strip_B148, f_X12_strip_j166, n1, if_false, eh, bsm, e1]
    rw [show ful (M 0) b m (i + 1) = if M 0 (21 * b + 5 + (m - 1 - i)) = 0 then ful (M 0) b m i else Int32.ofNat (m - 1 - i) from rfl]
    by_cases q : M 0 (21 * b + 5 + (m - 1 - i)) = 0
    · rw [if_pos q, if_pos q]
    · rw [if_neg q, if_neg q]
  · rw [Nat.zero_add]
    simp only [show ¬ m < m by omega, if_false, f_X12_strip_B148, show ((-1 : Int32) < 0) = True from eq_true (by decide), if_true]

/-! lines of a bar are taken away -/
theorem gg_cutS {n : Nat} {C C2 S S2 : AT} (h0 : GG n C S) (uC : ∀ j, (∀ l : Nat, l < 40 → j ≠ 240 + 12 * l + 3) → C j = C2 j) (uS : ∀ j, (∀ l : Nat, l < 40 → j ≠ 252 + 12 * l + 3) → S j = S2 j) (a_rl3 : R_rl3 C2 S2) (a_wl0 : W_wl0 n S2) (a_wld : W_wld n S2) (a_wl4 : W_wl4 n S2) : GG n C2 S2 := by
  have h := h0
  exact ⟨⟨R_rb0_rg (fun b _ => uC (4 * b) (fun _ _ => by omega)) (fun b _ => uS (21 * b + 1) (fun _ _ => by omega)) h.1.rb0, R_rb1_rg (fun b _ => uC (4 * b + 1) (fun _ _ => by omega)) (fun b _ => uS (21 * b + 2) (fun _ _ => by omega)) h.1.rb1, R_rb2_rg (fun b _ => uC (4 * b + 2) (fun _ _ => by omega)) (fun b _ => uS (21 * b + 3) (fun _ _ => by omega)) h.1.rb2, R_rb3_rg (fun b _ => uC (4 * b + 3) (fun _ _ => by omega)) (fun b _ => uS (21 * b + 4) (fun _ _ => by omega)) h.1.rb3, R_rc_rg (fun b p _ _ => uC (48 + 16 * b + p) (fun _ _ => by omega)) (fun b p _ _ => uS (21 * b + 5 + p) (fun _ _ => by omega)) h.1.rc, R_rl0_rg (fun l _ => uC (240 + 12 * l) (fun _ _ => by omega)) (fun l _ => uS (252 + 12 * l) (fun _ _ => by omega)) h.1.rl0, R_rl1_rg (fun l _ => uC (240 + 12 * l + 1) (fun _ _ => by omega)) (fun l _ => uS (252 + 12 * l + 1) (fun _ _ => by omega)) h.1.rl1, R_rl2_rg (fun l _ => uC (240 + 12 * l + 2) (fun _ _ => by omega)) (fun l _ => uS (252 + 12 * l + 2) (fun _ _ => by omega)) h.1.rl2, a_rl3, R_rls_rg (fun l i _ _ => uC (240 + 12 * l + 4 + i) (fun _ _ => by omega)) (fun l i _ _ => uS (252 + 12 * l + 4 + i) (fun _ _ => by omega)) h.1.rls, R_rt0_rg (fun t _ => uC (720 + 8 * t) (fun _ _ => by omega)) (fun t _ => uS (732 + 5 * t) (fun _ _ => by omega)) h.1.rt0, R_rt1_rg (fun t _ => uC (720 + 8 * t + 1) (fun _ _ => by omega)) (fun t _ => uS (732 + 5 * t + 1) (fun _ _ => by omega)) h.1.rt1, R_rt2_rg (fun t _ => uC (720 + 8 * t + 2) (fun _ _ => by omega)) (fun t _ => uS (732 + 5 * t + 2) (fun _ _ => by omega)) h.1.rt2, R_rt3_rg (fun t _ => uC (720 + 8 * t + 3) (fun _ _ => by omega)) (fun t _ => uS (732 + 5 * t + 3) (fun _ _ => by omega)) h.1.rt3, R_rh_rg (fun t _ => uC (720 + 8 * t + 5) (fun _ _ => by omega)) (fun t _ => uS (732 + 5 * t + 4) (fun _ _ => by omega)) h.1.rh, R_rf_rg (fun k _ => uC (1360 + k) (fun _ _ => by omega)) (fun k _ => uS (1432 + k) (fun _ _ => by omega)) h.1.rf, R_rq0_rg (fun c _ => uC (1368 + 5 * c) (fun _ _ => by omega)) (fun c _ => uS (1132 + 5 * c) (fun _ _ => by omega)) h.1.rq0, R_rq1_rg (fun c _ => uC (1368 + 5 * c + 1) (fun _ _ => by omega)) (fun c _ => uS (1132 + 5 * c + 1) (fun _ _ => by omega)) h.1.rq1, R_rq2_rg (fun c _ => uC (1368 + 5 * c + 2) (fun _ _ => by omega)) (fun c _ => uS (1132 + 5 * c + 2) (fun _ _ => by omega)) h.1.rq2, R_rq3_rg (fun c _ => uC (1368 + 5 * c + 3) (fun _ _ => by omega)) (fun c _ => uS (1132 + 5 * c + 3) (fun _ _ => by omega)) h.1.rq3, R_rq4_rg (fun c _ => uC (1368 + 5 * c + 4) (fun _ _ => by omega)) (fun c _ => uS (1132 + 5 * c + 4) (fun _ _ => by omega)) h.1.rq4, R_rn0_rg (uC (1868) (fun _ _ => by omega)) (uS (1640) (fun _ _ => by omega)) h.1.rn0, R_rn1_rg (uC (1869) (fun _ _ => by omega)) (uS (1641) (fun _ _ => by omega)) h.1.rn1, R_rn2_rg (uC (1870) (fun _ _ => by omega)) (uS (1642) (fun _ _ => by omega)) h.1.rn2, R_rn3_rg (uC (1871) (fun _ _ => by omega)) (uS (1643) (fun _ _ => by omega)) h.1.rn3, R_rn4_rg (uC (1872) (fun _ _ => by omega)) (uS (1644) (fun _ _ => by omega)) h.1.rn4, R_rn5_rg (uC (1873) (fun _ _ => by omega)) (uS (1645) (fun _ _ => by omega)) h.1.rn5, R_rg_rg (uS (1641) (fun _ _ => by omega)) (fun t _ => uS (732 + 5 * t) (fun _ _ => by omega)) (fun t _ => uS (732 + 5 * t + 3) (fun _ _ => by omega)) (fun t _ => uC (720 + 8 * t + 4) (fun _ _ => by omega)) h.1.rg, R_rp_rg (uS (1641) (fun _ _ => by omega)) (fun t _ => uS (732 + 5 * t) (fun _ _ => by omega)) (fun b p _ _ => uS (21 * b + 5 + p) (fun _ _ => by omega)) (fun t _ => uC (720 + 8 * t + 6) (fun _ _ => by omega)) (fun t _ => uC (720 + 8 * t + 7) (fun _ _ => by omega)) h.1.rp, R_rs_rg (uS (1643) (fun _ _ => by omega)) (fun k _ => uS (1440 + k) (fun _ _ => by omega)) (fun k _ => uC (1668 + k) (fun _ _ => by omega)) h.1.rs⟩, ⟨W_wn0_rg (uS (1640) (fun _ _ => by omega)) h.2.wn0, W_wn1_rg (uS (1641) (fun _ _ => by omega)) h.2.wn1, W_wn2_rg (uS (1642) (fun _ _ => by omega)) h.2.wn2, W_wn3_rg (uS (1643) (fun _ _ => by omega)) h.2.wn3, W_wn4_rg (uS (1644) (fun _ _ => by omega)) h.2.wn4, W_wn5_rg (uS (1645) (fun _ _ => by omega)) h.2.wn5, W_wb0_rg (fun b _ => uS (21 * b) (fun _ _ => by omega)) h.2.wb0, W_wbp_rg (fun b _ => uS (21 * b) (fun _ _ => by omega)) (fun b _ => uS (21 * b + 1) (fun _ _ => by omega)) h.2.wbp, W_wbg_rg (fun b _ => uS (21 * b) (fun _ _ => by omega)) (fun b _ => uS (21 * b + 2) (fun _ _ => by omega)) h.2.wbg, W_wbh_rg (fun b _ => uS (21 * b) (fun _ _ => by omega)) (fun b _ => uS (21 * b + 3) (fun _ _ => by omega)) h.2.wbh, W_wbk_rg (fun b _ => uS (21 * b) (fun _ _ => by omega)) (fun b _ => uS (21 * b + 4) (fun _ _ => by omega)) h.2.wbk, W_wb2_rg (fun b _ => uS (21 * b) (fun _ _ => by omega)) (fun b _ => uS (21 * b + 1) (fun _ _ => by omega)) h.2.wb2, W_wb2g_rg (fun b _ => uS (21 * b) (fun _ _ => by omega)) (fun b _ => uS (21 * b + 2) (fun _ _ => by omega)) h.2.wb2g, W_wb3_rg (fun b _ => uS (21 * b + 1) (fun _ _ => by omega)) (fun b p _ _ => uS (21 * b + 5 + p) (fun _ _ => by omega)) h.2.wb3, W_wb4_rg (fun b _ => uS (21 * b + 3) (fun _ _ => by omega)) h.2.wb4, W_wb4k_rg (fun b _ => uS (21 * b + 4) (fun _ _ => by omega)) h.2.wb4k, W_wb5_rg (fun b p _ _ => uS (21 * b + 5 + p) (fun _ _ => by omega)) (uS (1641) (fun _ _ => by omega)) h.2.wb5, a_wl0, W_wla_rg (uS (1640) (fun _ _ => by omega)) (fun l _ => uS (252 + 12 * l) (fun _ _ => by omega)) h.2.wla, W_wlb_rg (uS (1640) (fun _ _ => by omega)) (fun l _ => uS (252 + 12 * l + 1) (fun _ _ => by omega)) h.2.wlb, W_wlc_rg (uS (1640) (fun _ _ => by omega)) (fun l _ => uS (252 + 12 * l + 2) (fun _ _ => by omega)) h.2.wlc, a_wld, W_wl2_rg (uS (1640) (fun _ _ => by omega)) (fun l _ => uS (252 + 12 * l + 2) (fun _ _ => by omega)) (fun l i _ _ => uS (252 + 12 * l + 4 + i) (fun _ _ => by omega)) h.2.wl2, a_wl4, W_wt0_rg (uS (1641) (fun _ _ => by omega)) (fun t _ => uS (732 + 5 * t) (fun _ _ => by omega)) h.2.wt0, W_wt1_rg (uS (1641) (fun _ _ => by omega)) (fun t _ => uS (732 + 5 * t + 1) (fun _ _ => by omega)) h.2.wt1, W_wt2_rg (uS (1641) (fun _ _ => by omega)) (fun t _ => uS (732 + 5 * t + 2) (fun _ _ => by omega)) h.2.wt2, W_wt3_rg (uS (1641) (fun _ _ => by omega)) (fun t _ => uS (732 + 5 * t + 3) (fun _ _ => by omega)) h.2.wt3, W_wt4_rg (uS (1641) (fun _ _ => by omega)) (fun t _ => uS (732 + 5 * t + 4) (fun _ _ => by omega)) (fun t _ => uS (732 + 5 * t) (fun _ _ => by omega)) h.2.wt4, W_wqa_rg (uS (1642) (fun _ _ => by omega)) (fun c _ => uS (1132 + 5 * c) (fun _ _ => by omega)) h.2.wqa, W_wqb_rg (uS (1642) (fun _ _ => by omega)) (fun c _ => uS (1132 + 5 * c + 1) (fun _ _ => by omega)) h.2.wqb, W_wqc_rg (uS (1642) (fun _ _ => by omega)) (fun c _ => uS (1132 + 5 * c + 2) (fun _ _ => by omega)) h.2.wqc, W_wqd_rg (uS (1642) (fun _ _ => by omega)) (fun c _ => uS (1132 + 5 * c + 3) (fun _ _ => by omega)) h.2.wqd, W_wqe_rg (uS (1642) (fun _ _ => by omega)) (fun c _ => uS (1132 + 5 * c + 4) (fun _ _ => by omega)) h.2.wqe, W_wq2_rg (uS (1642) (fun _ _ => by omega)) (fun c _ => uS (1132 + 5 * c) (fun _ _ => by omega)) (fun b _ => uS (21 * b) (fun _ _ => by omega)) (fun c _ => uS (1132 + 5 * c + 4) (fun _ _ => by omega)) (fun c _ => uS (1132 + 5 * c + 2) (fun _ _ => by omega)) (fun c _ => uS (1132 + 5 * c + 3) (fun _ _ => by omega)) (uS (1645) (fun _ _ => by omega)) h.2.wq2, W_wf_rg (fun k _ => uS (1432 + k) (fun _ _ => by omega)) h.2.wf, W_wh_rg (fun b p _ _ => uS (21 * b + 5 + p) (fun _ _ => by omega)) (fun t _ => uS (732 + 5 * t) (fun _ _ => by omega)) (fun t _ => uS (732 + 5 * t + 4) (fun _ _ => by omega)) h.2.wh⟩⟩
theorem gg_cutS2 {n l : Nat} {C S : AT} (hgg : GG n C S) (hl : l < 40) : GG n (upd C (240 + 12 * l + 3) 0) (upd S (252 + 12 * l + 3) 0) := by
  refine gg_cutS hgg (fun j hj => by rw [upd_ne (hj l hl)]) (fun j hj => by rw [upd_ne (hj l hl)]) ?_ ?_ ?_ ?_
  · intro c hc
    by_cases e : c = l
    · subst e; rw [upd_same, upd_same]
    · rw [upd_ne (by omega), upd_ne (by omega)]; exact hgg.1.rl3 c hc
  · intro c hc q
    rw [upd_ne (by omega)] at q
    by_cases e : c = l
    · subst e; rw [upd_same]
    · rw [upd_ne (by omega)]; exact hgg.2.wl0 c hc q
  · intro c hc q
    rw [upd_ne (by omega)] at q
    by_cases e : c = l
    · subst e; rw [upd_same]; exact ⟨0, by omega, by omega, rfl⟩
    · rw [upd_ne (by omega)]; exact hgg.2.wld c hc q
  · intro c d hc hd hne q1 q2
    have f1 : c ≠ l := fun e => by subst e; rw [upd_same] at q1; exact absurd q1 (by decide)
    have f2 : d ≠ l := fun e => by subst e; rw [upd_same] at q2; exact absurd q2 (by decide)
    rw [upd_ne (by omega)] at q1
    rw [upd_ne (by omega)] at q2
    rw [upd_ne (by omega), upd_ne (by omega), upd_ne (by omega), upd_ne (by omega)]
    exact hgg.2.wl4 c d hc hd hne q1 q2
def lus (v : Int32) (S : AT) : Nat → AT
  | 0 => S
  | k + 1 => if lus v S k (252 + 12 * k + 3) = 1 ∧ lus v S k (252 + 12 * k) = v then upd (lus v S k) (252 + 12 * k + 3) 0 else lus v S k
def lcs (v : Int32) (C S : AT) : Nat → AT
  | 0 => C
  | k + 1 => if lus v S k (252 + 12 * k + 3) = 1 ∧ lus v S k (252 + 12 * k) = v then upd (lcs v C S k) (240 + 12 * k + 3) 0 else lcs v C S k
theorem lu_gg {n : Nat} {v : Int32} {C S : AT} (h : GG n C S) : ∀ k, k ≤ 40 → GG n (lcs v C S k) (lus v S k) := by
  intro k
  induction k with
  | zero => intro _; exact h
  | succ k ih =>
    intro hk
    have := ih (by omega)
    unfold lus lcs
    by_cases q : lus v S k (252 + 12 * k + 3) = 1 ∧ lus v S k (252 + 12 * k) = v
    · rw [if_pos q, if_pos q]; exact gg_cutS2 this (by omega)
    · rw [if_neg q, if_neg q]; exact this
theorem lus_oth {v : Int32} {S : AT} {j : Nat} (hj : ∀ c, c < 40 → j ≠ 252 + 12 * c + 3) : ∀ k, k ≤ 40 → lus v S k j = S j := by
  intro k
  induction k with
  | zero => intro _; rfl
  | succ k ih =>
    intro hk
    unfold lus
    by_cases q : lus v S k (252 + 12 * k + 3) = 1 ∧ lus v S k (252 + 12 * k) = v
    · rw [if_pos q, upd_ne (hj k (by omega))]; exact ih (by omega)
    · rw [if_neg q]; exact ih (by omega)
theorem lcs_oth {v : Int32} {C S : AT} {j : Nat} (hj : ∀ c, c < 40 → j ≠ 240 + 12 * c + 3) : ∀ k, k ≤ 40 → lcs v C S k j = C j := by
  intro k
  induction k with
  | zero => intro _; rfl
  | succ k ih =>
    intro hk
    unfold lcs
    by_cases q : lus v S k (252 + 12 * k + 3) = 1 ∧ lus v S k (252 + 12 * k) = v
    · rw [if_pos q, upd_ne (hj k (by omega))]; exact ih (by omega)
    · rw [if_neg q]; exact ih (by omega)
theorem lu_tail {n : Nat} {v : Int32} {C S : AT} {m : Nat} (h : GG n C S) (hN : S 1640 = Int32.ofNat m) (hm : m ≤ 40) : ∀ k, m + k ≤ 40 → lus v S (m + k) = lus v S m ∧ lcs v C S (m + k) = lcs v C S m := by
  intro k
  induction k with
  | zero => intro _; exact ⟨rfl, rfl⟩
  | succ k ih =>
    intro hk
    have ih := ih (by omega)
    have hg := lu_gg (v := v) h (m + k) (by omega)
    have q : ¬ (lus v S (m + k) (252 + 12 * (m + k) + 3) = 1 ∧ lus v S (m + k) (252 + 12 * (m + k)) = v) := hold_told hg (by rw [lus_oth (fun c hc => by omega) _ (by omega)]; exact hN) hm (by omega) (by omega)
    rw [show lus v S (m + (k + 1)) = if lus v S (m + k) (252 + 12 * (m + k) + 3) = 1 ∧ lus v S (m + k) (252 + 12 * (m + k)) = v then upd (lus v S (m + k)) (252 + 12 * (m + k) + 3) 0 else lus v S (m + k) from rfl, show lcs v C S (m + (k + 1)) = if lus v S (m + k) (252 + 12 * (m + k) + 3) = 1 ∧ lus v S (m + k) (252 + 12 * (m + k)) = v then upd (lcs v C S (m + k)) (240 + 12 * (m + k) + 3) 0 else lcs v C S (m + k) from rfl, if_neg q, if_neg q]; exact ih
theorem c_colLoop {O : AT} {B V : VT} {C : AT} {b : Nat} (x : Int32) (hb : b < 12) (sb : St O B 1360 C 0 0 V) : ∃ V2, lp (f_X6_stripBar_B147 (Int32.ofNat b) x) fuel ((0 : Int32), V) = some (x, V2) ∧ St O B 1360 (fil C (4 * b) 0 4) 0 0 V2 := by
  have key := lp_inv (f := f_X6_stripBar_B147 (Int32.ofNat b) x) (Q := fun y => y.1 = x ∧ St O B 1360 (fil C (4 * b) 0 4) 0 0 y.2) (fun i s => s.1 = Int32.ofNat i ∧ St O B 1360 (fil C (4 * b) 0 i) 0 0 s.2) 4 0 fuel ((0 : Int32), V) ⟨rfl, by rw [fil_0]; exact sb⟩ (fun i s _ hi hI => ?_) (fun s hI => ?_) (fuel_big (by omega))
  · obtain ⟨y, e, hy1, hy2⟩ := key
    refine ⟨y.2, ?_, hy2⟩
    rw [e, ← hy1]
  · obtain ⟨a, V'⟩ := s
    obtain ⟨rfl, hst⟩ := hI
    have n1 : ¬ (4 : Int32) ≤ Int32.ofNat i := fun q => by have := (nat_le (a := 4) (by omega) (by omega)).mp q; omega
    obtain ⟨V2, ew, sw, -⟩ := st_write (c := 4 * b + i) 0 hst (by omega) (by omega)
    refine ⟨(Int32.ofNat (i + 1), V2), ?_, rfl, ?_⟩
    · simp only [f_X6_stripBar_B147, n1, if_false, sbar (V := V') 0 hb (c := i) (by omega), ew, bsm, nat_succ]
    · rw [fil_succ] at sw; exact sw
  · obtain ⟨a, V'⟩ := s
    rw [Nat.zero_add] at hI
    obtain ⟨h1, hst⟩ := hI
    have h1 : a = Int32.ofNat 4 := h1
    subst h1
    refine ⟨(x, V'), ?_, rfl, hst⟩
    have n1 : (4 : Int32) ≤ Int32.ofNat 4 := by decide
    simp only [f_X6_stripBar_B147, n1, if_true, bsm]
theorem c_stripLoop {n b : Nat} {O : AT} {B V : VT} {S : AT} (x : Int32) (hb : b < 12) (sb : St O B 1360 (V 0) 0 0 V) (hg : GG n (V 0) S) : ∃ V2, lp (f_X6_stripBar_B108 (Int32.ofNat b) x) fuel ((0 : Int32), V) = some (x, V2) ∧ St O B 1360 (fil (lcs (Int32.ofNat b) (V 0) S 40) (4 * b) 0 4) 0 0 V2 := by
  have key := lp_inv (f := f_X6_stripBar_B108 (Int32.ofNat b) x) (Q := fun y => y.1 = x ∧ St O B 1360 (fil (lcs (Int32.ofNat b) (V 0) S 40) (4 * b) 0 4) 0 0 y.2) (fun i s => s.1 = Int32.ofNat i ∧ St O B 1360 (lcs (Int32.ofNat b) (V 0) S i) 0 0 s.2) 40 0 fuel ((0 : Int32), V) ⟨rfl, sb⟩ (fun i s _ hi hI => ?_) (fun s hI => ?_) (fuel_big (by omega))
  · obtain ⟨y, e, hy1, hy2⟩ := key
    refine ⟨y.2, ?_, hy2⟩
    rw [e, ← hy1]
  · obtain ⟨a, V'⟩ := s
    obtain ⟨rfl, hst⟩ := hI
    have hst : St O B 1360 (lcs (Int32.ofNat b) (V 0) S i) 0 0 V' := hst
    have n1 : ¬ (40 : Int32) ≤ Int32.ofNat i := fun q => by have := (nat_le (a := 40) (by omega) (by omega)).mp q; omega
    have v0 : V' 0 = lcs (Int32.ofNat b) (V 0) S i := hst.2.1
    have hgi := lu_gg (v := Int32.ofNat b) hg i (by omega)
    have eh := c_holdsBar (V := V') (Int32.ofNat b) (by rw [v0]; exact hgi) (l := i) (by omega)
    by_cases q : lus (Int32.ofNat b) S i (252 + 12 * i + 3) = 1 ∧ lus (Int32.ofNat b) S i (252 + 12 * i) = Int32.ofNat b
    · rw [if_pos q] at eh
      have es : f_X7_set 240 40 12 (Int32.ofNat i) 3 0 V' = f_X4_write (Int32.ofNat (240 + 12 * i + 3)) 0 V' := sline (c := 3) 0 (by omega) (by omega)
      obtain ⟨V2, ew, sw, -⟩ := st_write (c := 240 + 12 * i + 3) 0 hst (by omega) (by omega)
      refine ⟨(Int32.ofNat (i + 1), V2), ?_, rfl, ?_⟩
      · simp only [f_X6_stripBar_B108, f_X6_stripBar_j139, n1, if_false, eh, i10, es, ew, bsm, nat_succ]
      · show St O B 1360 (if lus (Int32.ofNat b) S i (252 + 12 * i + 3) = 1 ∧ lus (Int32.ofNat b) S i (252 + 12 * i) = Int32.ofNat b then upd (lcs (Int32.ofNat b) (V 0) S i) (240 + 12 * i + 3) 0 else lcs (Int32.ofNat b) (V 0) S i) 0 0 V2
        rw [if_pos q]; exact sw
    · rw [if_neg q] at eh
      refine ⟨(Int32.ofNat (i + 1), V'), ?_, rfl, ?_⟩
      · simp only [f_X6_stripBar_B108, f_X6_stripBar_j139, n1, if_false, eh, if_true, bsm, nat_succ]
      · show St O B 1360 (if lus (Int32.ofNat b) S i (252 + 12 * i + 3) = 1 ∧ lus (Int32.ofNat b) S i (252 + 12 * i) = Int32.ofNat b then upd (lcs (Int32.ofNat b) (V 0) S i) (240 + 12 * i + 3) 0 else lcs (Int32.ofNat b) (V 0) S i) 0 0 V'
        rw [if_neg q]; exact hst
  · obtain ⟨a, V'⟩ := s
    rw [Nat.zero_add] at hI
    obtain ⟨h1, hst⟩ := hI
    have h1 : a = Int32.ofNat 40 := h1
    subst h1
    obtain ⟨V2, e2, s2⟩ := c_colLoop x hb hst
    refine ⟨(x, V2), ?_, rfl, s2⟩
    have n1 : (40 : Int32) ≤ Int32.ofNat 40 := by decide
    simp only [f_X6_stripBar_B108, n1, if_true, e2, bsm]
theorem m_colLoop {M : VT} {b : Nat} (x : Int32) (hb : b < 12) : lp (f_X12_strip_B259 (Int32.ofNat b) x) fuel ((0 : Int32), M) = (f_X12_keep x (setRow M 0 (fil (M 0) (21 * b) 0 21))).bind fun r => some (r.1, r.2) := by
  have e0 : setRow M 0 (fil (M 0) (21 * b) 0 0) = M := by rw [fil_0, setRow_id]
  have key := lp_run (f := f_X12_strip_B259 (Int32.ofNat b) x) (X := (f_X12_keep x (setRow M 0 (fil (M 0) (21 * b) 0 21))).bind fun r => some (r.1, r.2)) (fun i => (Int32.ofNat i, setRow M 0 (fil (M 0) (21 * b) 0 i))) 21 0 fuel (fun i _ hi => ?_) ?_ (fuel_big (by omega))
  · simp only [e0] at key
    exact key
  · have n1 : ¬ (21 : Int32) ≤ Int32.ofNat i := fun q => by have := (nat_le (a := 21) (by omega) (by omega)).mp q; omega
    have ek : ckA 1646 (Int32.ofNat (21 * b) + Int32.ofNat i) = some (21 * b + i) := ck_lit (Int32.ofNat_add (21 * b) i).symm (by omega) (by omega)
    simp only [f_X12_strip_B259, n1, if_false, m_bar0, ek, bsm, nat_succ, setRow_u2, fil_succ]
  · rw [Nat.zero_add]
    have n1 : (21 : Int32) ≤ Int32.ofNat 21 := by decide
    simp only [f_X12_strip_B259, n1, if_true]
theorem m_stripLines {M : VT} {b m : Nat} (x : Int32) (hb : b < 12) (hm : m ≤ 40) (hN : M 0 1640 = Int32.ofNat m) : lp (f_X12_strip_B210 (Int32.ofNat b) x) fuel ((0 : Int32), M) = lp (f_X12_strip_B259 (Int32.ofNat b) x) fuel ((0 : Int32), setRow M 0 (lus (Int32.ofNat b) (M 0) m)) := by
  have kN : ckA 1646 (1640 : Int32) = some 1640 := ck_lit (k := 1640) rfl (by omega) (by omega)
  have e0 : setRow M 0 (lus (Int32.ofNat b) (M 0) 0) = M := setRow_id
  have key := lp_run (f := f_X12_strip_B210 (Int32.ofNat b) x) (X := lp (f_X12_strip_B259 (Int32.ofNat b) x) fuel ((0 : Int32), setRow M 0 (lus (Int32.ofNat b) (M 0) m))) (fun i => (Int32.ofNat i, setRow M 0 (lus (Int32.ofNat b) (M 0) i))) m 0 fuel (fun i _ hi => ?_) ?_ (fuel_big (by omega))
  · simp only [e0] at key
    exact key
  · have n1 : ¬ Int32.ofNat m ≤ Int32.ofNat i := fun q => by have := (nat_le (by omega) (by omega)).mp q; omega
    have rN : setRow M 0 (lus (Int32.ofNat b) (M 0) i) 0 1640 = Int32.ofNat m := by rw [setRow_eq, lus_oth (fun c hc => by omega) i (by omega), hN]
    have eh := m_holds (M := setRow M 0 (lus (Int32.ofNat b) (M 0) i)) (Int32.ofNat b) (l := i) (by omega)
    rw [setRow_eq] at eh
    have ek : ckA 1646 ((252 : Int32) + 12 * Int32.ofNat i + 3) = some (252 + 12 * i + 3) := ck_lit (by rw [Int32.ofNat_add, Int32.ofNat_add, Int32.ofNat_mul]; rfl) (by omega) (by omega)
    rw [show lus (Int32.ofNat b) (M 0) (i + 1) = if lus (Int32.ofNat b) (M 0) i (252 + 12 * i + 3) = 1 ∧ lus (Int32.ofNat b) (M 0) i (252 + 12 * i) = Int32.ofNat b then upd (lus (Int32.ofNat b) (M 0) i) (252 + 12 * i + 3) 0 else lus (Int32.ofNat b) (M 0) i from rfl]
    by_cases q : lus (Int32.ofNat b) (M 0) i (252 + 12 * i + 3) = 1 ∧ lus (Int32.ofNat b) (M 0) i (252 + 12 * i) = Int32.ofNat b
    · rw [if_pos q] at eh
      rw [if_pos q]
      simp only [f_X12_strip_B210, f_X12_strip_j250, kN, rN, n1, if_false, eh, i10, ek, bsm, nat_succ, setRow_u2]
    · rw [if_neg q] at eh
      rw [if_neg q]
      simp only [f_X12_strip_B210, f_X12_strip_j250, kN, rN, n1, if_false, if_true, eh, bsm, nat_succ]
  · rw [Nat.zero_add]
    have rN : setRow M 0 (lus (Int32.ofNat b) (M 0) m) 0 1640 = Int32.ofNat m := by rw [setRow_eq, lus_oth (fun c hc => by omega) m (by omega), hN]
    unfold f_X12_strip_B210
    rw [kN, bsm]
    simp only []
    rw [rN, if_pos (Int32.le_refl _), bsm]
theorem gg_strip {n : Nat} {C C2 S S2 : AT} (h0 : GG n C S) (uC : ∀ j, (∀ b : Nat, b < 12 → j ≠ 4 * b) → (∀ b : Nat, b < 12 → j ≠ 4 * b + 1) → (∀ b : Nat, b < 12 → j ≠ 4 * b + 2) → (∀ b : Nat, b < 12 → j ≠ 4 * b + 3) → C j = C2 j) (uS : ∀ j, (∀ b : Nat, b < 12 → j ≠ 21 * b) → (∀ b : Nat, b < 12 → j ≠ 21 * b + 1) → (∀ b : Nat, b < 12 → j ≠ 21 * b + 2) → (∀ b : Nat, b < 12 → j ≠ 21 * b + 3) → (∀ b : Nat, b < 12 → j ≠ 21 * b + 4) → S j = S2 j) (a_rb0 : R_rb0 C2 S2) (a_rb1 : R_rb1 C2 S2) (a_rb2 : R_rb2 C2 S2) (a_rb3 : R_rb3 C2 S2) (a_wb0 : W_wb0 (n + 1) S2) (a_wbp : W_wbp (n + 1) S2) (a_wbg : W_wbg (n + 1) S2) (a_wbh : W_wbh (n + 1) S2) (a_wbk : W_wbk (n + 1) S2) (a_wb2 : W_wb2 (n + 1) S2) (a_wb2g : W_wb2g (n + 1) S2) (a_wb3 : W_wb3 (n + 1) S2) (a_wb4 : W_wb4 (n + 1) S2) (a_wb4k : W_wb4k (n + 1) S2) (a_wq2 : W_wq2 (n + 1) S2) : GG (n + 1) C2 S2 := by
  have h := gg_ok.1 _ _ _ h0
  exact ⟨⟨a_rb0, a_rb1, a_rb2, a_rb3, R_rc_rg (fun b p _ _ => uC (48 + 16 * b + p) (fun _ _ => by omega) (fun _ _ => by omega) (fun _ _ => by omega) (fun _ _ => by omega)) (fun b p _ _ => uS (21 * b + 5 + p) (fun _ _ => by omega) (fun _ _ => by omega) (fun _ _ => by omega) (fun _ _ => by omega) (fun _ _ => by omega)) h.1.rc, R_rl0_rg (fun l _ => uC (240 + 12 * l) (fun _ _ => by omega) (fun _ _ => by omega) (fun _ _ => by omega) (fun _ _ => by omega)) (fun l _ => uS (252 + 12 * l) (fun _ _ => by omega) (fun _ _ => by omega) (fun _ _ => by omega) (fun _ _ => by omega) (fun _ _ => by omega)) h.1.rl0, R_rl1_rg (fun l _ => uC (240 + 12 * l + 1) (fun _ _ => by omega) (fun _ _ => by omega) (fun _ _ => by omega) (fun _ _ => by omega)) (fun l _ => uS (252 + 12 * l + 1) (fun _ _ => by omega) (fun _ _ => by omega) (fun _ _ => by omega) (fun _ _ => by omega) (fun _ _ => by omega)) h.1.rl1, R_rl2_rg (fun l _ => uC (240 + 12 * l + 2) (fun _ _ => by omega) (fun _ _ => by omega) (fun _ _ => by omega) (fun _ _ => by omega)) (fun l _ => uS (252 + 12 * l + 2) (fun _ _ => by omega) (fun _ _ => by omega) (fun _ _ => by omega) (fun _ _ => by omega) (fun _ _ => by omega)) h.1.rl2, R_rl3_rg (fun l _ => uC (240 + 12 * l + 3) (fun _ _ => by omega) (fun _ _ => by omega) (fun _ _ => by omega) (fun _ _ => by omega)) (fun l _ => uS (252 + 12 * l + 3) (fun _ _ => by omega) (fun _ _ => by omega) (fun _ _ => by omega) (fun _ _ => by omega) (fun _ _ => by omega)) h.1.rl3, R_rls_rg (fun l i _ _ => uC (240 + 12 * l + 4 + i) (fun _ _ => by omega) (fun _ _ => by omega) (fun _ _ => by omega) (fun _ _ => by omega)) (fun l i _ _ => uS (252 + 12 * l + 4 + i) (fun _ _ => by omega) (fun _ _ => by omega) (fun _ _ => by omega) (fun _ _ => by omega) (fun _ _ => by omega)) h.1.rls, R_rt0_rg (fun t _ => uC (720 + 8 * t) (fun _ _ => by omega) (fun _ _ => by omega) (fun _ _ => by omega) (fun _ _ => by omega)) (fun t _ => uS (732 + 5 * t) (fun _ _ => by omega) (fun _ _ => by omega) (fun _ _ => by omega) (fun _ _ => by omega) (fun _ _ => by omega)) h.1.rt0, R_rt1_rg (fun t _ => uC (720 + 8 * t + 1) (fun _ _ => by omega) (fun _ _ => by omega) (fun _ _ => by omega) (fun _ _ => by omega)) (fun t _ => uS (732 + 5 * t + 1) (fun _ _ => by omega) (fun _ _ => by omega) (fun _ _ => by omega) (fun _ _ => by omega) (fun _ _ => by omega)) h.1.rt1, R_rt2_rg (fun t _ => uC (720 + 8 * t + 2) (fun _ _ => by omega) (fun _ _ => by omega) (fun _ _ => by omega) (fun _ _ => by omega)) (fun t _ => uS (732 + 5 * t + 2) (fun _ _ => by omega) (fun _ _ => by omega) (fun _ _ => by omega) (fun _ _ => by omega) (fun _ _ => by omega)) h.1.rt2, R_rt3_rg (fun t _ => uC (720 + 8 * t + 3) (fun _ _ => by omega) (fun _ _ => by omega) (fun _ _ => by omega) (fun _ _ => by omega)) (fun t _ => uS (732 + 5 * t + 3) (fun _ _ => by omega) (fun _ _ => by omega) (fun _ _ => by omega) (fun _ _ => by omega) (fun _ _ => by omega)) h.1.rt3, R_rh_rg (fun t _ => uC (720 + 8 * t + 5) (fun _ _ => by omega) (fun _ _ => by omega) (fun _ _ => by omega) (fun _ _ => by omega)) (fun t _ => uS (732 + 5 * t + 4) (fun _ _ => by omega) (fun _ _ => by omega) (fun _ _ => by omega) (fun _ _ => by omega) (fun _ _ => by omega)) h.1.rh, R_rf_rg (fun k _ => uC (1360 + k) (fun _ _ => by omega) (fun _ _ => by omega) (fun _ _ => by omega) (fun _ _ => by omega)) (fun k _ => uS (1432 + k) (fun _ _ => by omega) (fun _ _ => by omega) (fun _ _ => by omega) (fun _ _ => by omega) (fun _ _ => by omega)) h.1.rf, R_rq0_rg (fun c _ => uC (1368 + 5 * c) (fun _ _ => by omega) (fun _ _ => by omega) (fun _ _ => by omega) (fun _ _ => by omega)) (fun c _ => uS (1132 + 5 * c) (fun _ _ => by omega) (fun _ _ => by omega) (fun _ _ => by omega) (fun _ _ => by omega) (fun _ _ => by omega)) h.1.rq0, R_rq1_rg (fun c _ => uC (1368 + 5 * c + 1) (fun _ _ => by omega) (fun _ _ => by omega) (fun _ _ => by omega) (fun _ _ => by omega)) (fun c _ => uS (1132 + 5 * c + 1) (fun _ _ => by omega) (fun _ _ => by omega) (fun _ _ => by omega) (fun _ _ => by omega) (fun _ _ => by omega)) h.1.rq1, R_rq2_rg (fun c _ => uC (1368 + 5 * c + 2) (fun _ _ => by omega) (fun _ _ => by omega) (fun _ _ => by omega) (fun _ _ => by omega)) (fun c _ => uS (1132 + 5 * c + 2) (fun _ _ => by omega) (fun _ _ => by omega) (fun _ _ => by omega) (fun _ _ => by omega) (fun _ _ => by omega)) h.1.rq2, R_rq3_rg (fun c _ => uC (1368 + 5 * c + 3) (fun _ _ => by omega) (fun _ _ => by omega) (fun _ _ => by omega) (fun _ _ => by omega)) (fun c _ => uS (1132 + 5 * c + 3) (fun _ _ => by omega) (fun _ _ => by omega) (fun _ _ => by omega) (fun _ _ => by omega) (fun _ _ => by omega)) h.1.rq3, R_rq4_rg (fun c _ => uC (1368 + 5 * c + 4) (fun _ _ => by omega) (fun _ _ => by omega) (fun _ _ => by omega) (fun _ _ => by omega)) (fun c _ => uS (1132 + 5 * c + 4) (fun _ _ => by omega) (fun _ _ => by omega) (fun _ _ => by omega) (fun _ _ => by omega) (fun _ _ => by omega)) h.1.rq4, R_rn0_rg (uC (1868) (fun _ _ => by omega) (fun _ _ => by omega) (fun _ _ => by omega) (fun _ _ => by omega)) (uS (1640) (fun _ _ => by omega) (fun _ _ => by omega) (fun _ _ => by omega) (fun _ _ => by omega) (fun _ _ => by omega)) h.1.rn0, R_rn1_rg (uC (1869) (fun _ _ => by omega) (fun _ _ => by omega) (fun _ _ => by omega) (fun _ _ => by omega)) (uS (1641) (fun _ _ => by omega) (fun _ _ => by omega) (fun _ _ => by omega) (fun _ _ => by omega) (fun _ _ => by omega)) h.1.rn1, R_rn2_rg (uC (1870) (fun _ _ => by omega) (fun _ _ => by omega) (fun _ _ => by omega) (fun _ _ => by omega)) (uS (1642) (fun _ _ => by omega) (fun _ _ => by omega) (fun _ _ => by omega) (fun _ _ => by omega) (fun _ _ => by omega)) h.1.rn2, R_rn3_rg (uC (1871) (fun _ _ => by omega) (fun _ _ => by omega) (fun _ _ => by omega) (fun _ _ => by omega)) (uS (1643) (fun _ _ => by omega) (fun _ _ => by omega) (fun _ _ => by omega) (fun _ _ => by omega) (fun _ _ => by omega)) h.1.rn3, R_rn4_rg (uC (1872) (fun _ _ => by omega) (fun _ _ => by omega) (fun _ _ => by omega) (fun _ _ => by omega)) (uS (1644) (fun _ _ => by omega) (fun _ _ => by omega) (fun _ _ => by omega) (fun _ _ => by omega) (fun _ _ => by omega)) h.1.rn4, R_rn5_rg (uC (1873) (fun _ _ => by omega) (fun _ _ => by omega) (fun _ _ => by omega) (fun _ _ => by omega)) (uS (1645) (fun _ _ => by omega) (fun _ _ => by omega) (fun _ _ => by omega) (fun _ _ => by omega) (fun _ _ => by omega)) h.1.rn5, R_rg_rg (uS (1641) (fun _ _ => by omega) (fun _ _ => by omega) (fun _ _ => by omega) (fun _ _ => by omega) (fun _ _ => by omega)) (fun t _ => uS (732 + 5 * t) (fun _ _ => by omega) (fun _ _ => by omega) (fun _ _ => by omega) (fun _ _ => by omega) (fun _ _ => by omega)) (fun t _ => uS (732 + 5 * t + 3) (fun _ _ => by omega) (fun _ _ => by omega) (fun _ _ => by omega) (fun _ _ => by omega) (fun _ _ => by omega)) (fun t _ => uC (720 + 8 * t + 4) (fun _ _ => by omega) (fun _ _ => by omega) (fun _ _ => by omega) (fun _ _ => by omega)) h.1.rg, R_rp_rg (uS (1641) (fun _ _ => by omega) (fun _ _ => by omega) (fun _ _ => by omega) (fun _ _ => by omega) (fun _ _ => by omega)) (fun t _ => uS (732 + 5 * t) (fun _ _ => by omega) (fun _ _ => by omega) (fun _ _ => by omega) (fun _ _ => by omega) (fun _ _ => by omega)) (fun b p _ _ => uS (21 * b + 5 + p) (fun _ _ => by omega) (fun _ _ => by omega) (fun _ _ => by omega) (fun _ _ => by omega) (fun _ _ => by omega)) (fun t _ => uC (720 + 8 * t + 6) (fun _ _ => by omega) (fun _ _ => by omega) (fun _ _ => by omega) (fun _ _ => by omega)) (fun t _ => uC (720 + 8 * t + 7) (fun _ _ => by omega) (fun _ _ => by omega) (fun _ _ => by omega) (fun _ _ => by omega)) h.1.rp, R_rs_rg (uS (1643) (fun _ _ => by omega) (fun _ _ => by omega) (fun _ _ => by omega) (fun _ _ => by omega) (fun _ _ => by omega)) (fun k _ => uS (1440 + k) (fun _ _ => by omega) (fun _ _ => by omega) (fun _ _ => by omega) (fun _ _ => by omega) (fun _ _ => by omega)) (fun k _ => uC (1668 + k) (fun _ _ => by omega) (fun _ _ => by omega) (fun _ _ => by omega) (fun _ _ => by omega)) h.1.rs⟩, ⟨W_wn0_rg (uS (1640) (fun _ _ => by omega) (fun _ _ => by omega) (fun _ _ => by omega) (fun _ _ => by omega) (fun _ _ => by omega)) h.2.wn0, W_wn1_rg (uS (1641) (fun _ _ => by omega) (fun _ _ => by omega) (fun _ _ => by omega) (fun _ _ => by omega) (fun _ _ => by omega)) h.2.wn1, W_wn2_rg (uS (1642) (fun _ _ => by omega) (fun _ _ => by omega) (fun _ _ => by omega) (fun _ _ => by omega) (fun _ _ => by omega)) h.2.wn2, W_wn3_rg (uS (1643) (fun _ _ => by omega) (fun _ _ => by omega) (fun _ _ => by omega) (fun _ _ => by omega) (fun _ _ => by omega)) h.2.wn3, W_wn4_rg (uS (1644) (fun _ _ => by omega) (fun _ _ => by omega) (fun _ _ => by omega) (fun _ _ => by omega) (fun _ _ => by omega)) h.2.wn4, W_wn5_rg (uS (1645) (fun _ _ => by omega) (fun _ _ => by omega) (fun _ _ => by omega) (fun _ _ => by omega) (fun _ _ => by omega)) h.2.wn5, a_wb0, a_wbp, a_wbg, a_wbh, a_wbk, a_wb2, a_wb2g, a_wb3, a_wb4, a_wb4k, W_wb5_rg (fun b p _ _ => uS (21 * b + 5 + p) (fun _ _ => by omega) (fun _ _ => by omega) (fun _ _ => by omega) (fun _ _ => by omega) (fun _ _ => by omega)) (uS (1641) (fun _ _ => by omega) (fun _ _ => by omega) (fun _ _ => by omega) (fun _ _ => by omega) (fun _ _ => by omega)) h.2.wb5, W_wl0_rg (uS (1640) (fun _ _ => by omega) (fun _ _ => by omega) (fun _ _ => by omega) (fun _ _ => by omega) (fun _ _ => by omega)) (fun l _ => uS (252 + 12 * l + 3) (fun _ _ => by omega) (fun _ _ => by omega) (fun _ _ => by omega) (fun _ _ => by omega) (fun _ _ => by omega)) h.2.wl0, W_wla_rg (uS (1640) (fun _ _ => by omega) (fun _ _ => by omega) (fun _ _ => by omega) (fun _ _ => by omega) (fun _ _ => by omega)) (fun l _ => uS (252 + 12 * l) (fun _ _ => by omega) (fun _ _ => by omega) (fun _ _ => by omega) (fun _ _ => by omega) (fun _ _ => by omega)) h.2.wla, W_wlb_rg (uS (1640) (fun _ _ => by omega) (fun _ _ => by omega) (fun _ _ => by omega) (fun _ _ => by omega) (fun _ _ => by omega)) (fun l _ => uS (252 + 12 * l + 1) (fun _ _ => by omega) (fun _ _ => by omega) (fun _ _ => by omega) (fun _ _ => by omega) (fun _ _ => by omega)) h.2.wlb, W_wlc_rg (uS (1640) (fun _ _ => by omega) (fun _ _ => by omega) (fun _ _ => by omega) (fun _ _ => by omega) (fun _ _ => by omega)) (fun l _ => uS (252 + 12 * l + 2) (fun _ _ => by omega) (fun _ _ => by omega) (fun _ _ => by omega) (fun _ _ => by omega) (fun _ _ => by omega)) h.2.wlc, W_wld_rg (uS (1640) (fun _ _ => by omega) (fun _ _ => by omega) (fun _ _ => by omega) (fun _ _ => by omega) (fun _ _ => by omega)) (fun l _ => uS (252 + 12 * l + 3) (fun _ _ => by omega) (fun _ _ => by omega) (fun _ _ => by omega) (fun _ _ => by omega) (fun _ _ => by omega)) h.2.wld, W_wl2_rg (uS (1640) (fun _ _ => by omega) (fun _ _ => by omega) (fun _ _ => by omega) (fun _ _ => by omega) (fun _ _ => by omega)) (fun l _ => uS (252 + 12 * l + 2) (fun _ _ => by omega) (fun _ _ => by omega) (fun _ _ => by omega) (fun _ _ => by omega) (fun _ _ => by omega)) (fun l i _ _ => uS (252 + 12 * l + 4 + i) (fun _ _ => by omega) (fun _ _ => by omega) (fun _ _ => by omega) (fun _ _ => by omega) (fun _ _ => by omega)) h.2.wl2, W_wl4_rg (fun l _ => uS (252 + 12 * l + 3) (fun _ _ => by omega) (fun _ _ => by omega) (fun _ _ => by omega) (fun _ _ => by omega) (fun _ _ => by omega)) (fun l _ => uS (252 + 12 * l) (fun _ _ => by omega) (fun _ _ => by omega) (fun _ _ => by omega) (fun _ _ => by omega) (fun _ _ => by omega)) (fun l _ => uS (252 + 12 * l + 1) (fun _ _ => by omega) (fun _ _ => by omega) (fun _ _ => by omega) (fun _ _ => by omega) (fun _ _ => by omega)) h.2.wl4, W_wt0_rg (uS (1641) (fun _ _ => by omega) (fun _ _ => by omega) (fun _ _ => by omega) (fun _ _ => by omega) (fun _ _ => by omega)) (fun t _ => uS (732 + 5 * t) (fun _ _ => by omega) (fun _ _ => by omega) (fun _ _ => by omega) (fun _ _ => by omega) (fun _ _ => by omega)) h.2.wt0, W_wt1_rg (uS (1641) (fun _ _ => by omega) (fun _ _ => by omega) (fun _ _ => by omega) (fun _ _ => by omega) (fun _ _ => by omega)) (fun t _ => uS (732 + 5 * t + 1) (fun _ _ => by omega) (fun _ _ => by omega) (fun _ _ => by omega) (fun _ _ => by omega) (fun _ _ => by omega)) h.2.wt1, W_wt2_rg (uS (1641) (fun _ _ => by omega) (fun _ _ => by omega) (fun _ _ => by omega) (fun _ _ => by omega) (fun _ _ => by omega)) (fun t _ => uS (732 + 5 * t + 2) (fun _ _ => by omega) (fun _ _ => by omega) (fun _ _ => by omega) (fun _ _ => by omega) (fun _ _ => by omega)) h.2.wt2, W_wt3_rg (uS (1641) (fun _ _ => by omega) (fun _ _ => by omega) (fun _ _ => by omega) (fun _ _ => by omega) (fun _ _ => by omega)) (fun t _ => uS (732 + 5 * t + 3) (fun _ _ => by omega) (fun _ _ => by omega) (fun _ _ => by omega) (fun _ _ => by omega) (fun _ _ => by omega)) h.2.wt3, W_wt4_rg (uS (1641) (fun _ _ => by omega) (fun _ _ => by omega) (fun _ _ => by omega) (fun _ _ => by omega) (fun _ _ => by omega)) (fun t _ => uS (732 + 5 * t + 4) (fun _ _ => by omega) (fun _ _ => by omega) (fun _ _ => by omega) (fun _ _ => by omega) (fun _ _ => by omega)) (fun t _ => uS (732 + 5 * t) (fun _ _ => by omega) (fun _ _ => by omega) (fun _ _ => by omega) (fun _ _ => by omega) (fun _ _ => by omega)) h.2.wt4, W_wqa_rg (uS (1642) (fun _ _ => by omega) (fun _ _ => by omega) (fun _ _ => by omega) (fun _ _ => by omega) (fun _ _ => by omega)) (fun c _ => uS (1132 + 5 * c) (fun _ _ => by omega) (fun _ _ => by omega) (fun _ _ => by omega) (fun _ _ => by omega) (fun _ _ => by omega)) h.2.wqa, W_wqb_rg (uS (1642) (fun _ _ => by omega) (fun _ _ => by omega) (fun _ _ => by omega) (fun _ _ => by omega) (fun _ _ => by omega)) (fun c _ => uS (1132 + 5 * c + 1) (fun _ _ => by omega) (fun _ _ => by omega) (fun _ _ => by omega) (fun _ _ => by omega) (fun _ _ => by omega)) h.2.wqb, W_wqc_rg (uS (1642) (fun _ _ => by omega) (fun _ _ => by omega) (fun _ _ => by omega) (fun _ _ => by omega) (fun _ _ => by omega)) (fun c _ => uS (1132 + 5 * c + 2) (fun _ _ => by omega) (fun _ _ => by omega) (fun _ _ => by omega) (fun _ _ => by omega) (fun _ _ => by omega)) h.2.wqc, W_wqd_rg (uS (1642) (fun _ _ => by omega) (fun _ _ => by omega) (fun _ _ => by omega) (fun _ _ => by omega) (fun _ _ => by omega)) (fun c _ => uS (1132 + 5 * c + 3) (fun _ _ => by omega) (fun _ _ => by omega) (fun _ _ => by omega) (fun _ _ => by omega) (fun _ _ => by omega)) h.2.wqd, W_wqe_rg (uS (1642) (fun _ _ => by omega) (fun _ _ => by omega) (fun _ _ => by omega) (fun _ _ => by omega) (fun _ _ => by omega)) (fun c _ => uS (1132 + 5 * c + 4) (fun _ _ => by omega) (fun _ _ => by omega) (fun _ _ => by omega) (fun _ _ => by omega) (fun _ _ => by omega)) h.2.wqe, a_wq2, W_wf_rg (fun k _ => uS (1432 + k) (fun _ _ => by omega) (fun _ _ => by omega) (fun _ _ => by omega) (fun _ _ => by omega) (fun _ _ => by omega)) h.2.wf, W_wh_rg (fun b p _ _ => uS (21 * b + 5 + p) (fun _ _ => by omega) (fun _ _ => by omega) (fun _ _ => by omega) (fun _ _ => by omega) (fun _ _ => by omega)) (fun t _ => uS (732 + 5 * t) (fun _ _ => by omega) (fun _ _ => by omega) (fun _ _ => by omega) (fun _ _ => by omega) (fun _ _ => by omega)) (fun t _ => uS (732 + 5 * t + 4) (fun _ _ => by omega) (fun _ _ => by omega) (fun _ _ => by omega) (fun _ _ => by omega) (fun _ _ => by omega)) h.2.wh⟩⟩
theorem gg_strip2 {n b : Nat} {C S C2 S2 : AT} (h : GG n C S) (hb : b < 12) (hfree : ∀ p, p < 16 → S (21 * b + 5 + p) = 0) (hq : ∀ c, c < 60 → Int32.ofNat c < S 1642 → ¬ cued S (Int32.ofNat b) c) (cz : ∀ i, i < 4 → C2 (4 * b + i) = 0) (cn : ∀ j, ¬ (4 * b ≤ j ∧ j < 4 * b + 4) → C2 j = C j) (sz : ∀ i, i < 21 → S2 (21 * b + i) = 0) (sn : ∀ j, ¬ (21 * b ≤ j ∧ j < 21 * b + 21) → S2 j = S j) : GG (n + 1) C2 S2 := by
  have z0 : S2 (21 * b) = 0 := sz 0 (by omega)
  have z1 : ¬ S2 (21 * b) = 1 := by rw [z0]; decide
  have sc : ∀ p, p < 16 → S2 (21 * b + 5 + p) = 0 := fun p hp => by have := sz (5 + p) (by omega); rw [show 21 * b + (5 + p) = 21 * b + 5 + p by omega] at this; exact this
  have r0 : ∀ hi : Nat, RG 0 0 hi := fun hi => ⟨0, Nat.le_refl _, Nat.zero_le _, rfl⟩
  refine gg_strip h (fun j h0 h1 h2 h3 => (cn j (fun q => by have a0 := h0 b hb; have a1 := h1 b hb; have a2 := h2 b hb; have a3 := h3 b hb; omega)).symm) (fun j h0 h1 h2 h3 h4 => ?_) ?_ ?_ ?_ ?_ ?_ ?_ ?_ ?_ ?_ ?_ ?_ ?_ ?_ ?_ ?_
  · by_cases q : 21 * b ≤ j ∧ j < 21 * b + 21
    · have a0 := h0 b hb
      have a1 := h1 b hb
      have a2 := h2 b hb
      have a3 := h3 b hb
      have a4 := h4 b hb
      obtain ⟨p, hp, rfl⟩ : ∃ p, p < 16 ∧ j = 21 * b + 5 + p := ⟨j - (21 * b + 5), by omega, by omega⟩
      rw [sc p hp, hfree p hp]
    · exact (sn j q).symm
  · intro c hc
    by_cases e : c = b
    · subst e; exact (cz 0 (by omega)).trans (sz 1 (by omega)).symm
    · rw [cn _ (by omega), sn _ (by omega)]; exact h.1.rb0 c hc
  · intro c hc
    by_cases e : c = b
    · subst e; exact (cz 1 (by omega)).trans (sz 2 (by omega)).symm
    · rw [cn _ (by omega), sn _ (by omega)]; exact h.1.rb1 c hc
  · intro c hc
    by_cases e : c = b
    · subst e; exact (cz 2 (by omega)).trans (sz 3 (by omega)).symm
    · rw [cn _ (by omega), sn _ (by omega)]; exact h.1.rb2 c hc
  · intro c hc
    by_cases e : c = b
    · subst e; exact (cz 3 (by omega)).trans (sz 4 (by omega)).symm
    · rw [cn _ (by omega), sn _ (by omega)]; exact h.1.rb3 c hc
  · intro c hc
    by_cases e : c = b
    · subst e; exact Or.inl z0
    · rw [sn _ (by omega)]; exact h.2.wb0 c hc
  · intro c hc
    by_cases e : c = b
    · subst e; exact fun _ => sz 1 (by omega)
    · rw [sn _ (by omega), sn _ (by omega)]; exact h.2.wbp c hc
  · intro c hc
    by_cases e : c = b
    · subst e; exact fun _ => sz 2 (by omega)
    · rw [sn _ (by omega), sn _ (by omega)]; exact h.2.wbg c hc
  · intro c hc
    by_cases e : c = b
    · subst e; exact fun _ => sz 3 (by omega)
    · rw [sn _ (by omega), sn _ (by omega)]; exact h.2.wbh c hc
  · intro c hc
    by_cases e : c = b
    · subst e; exact fun _ => sz 4 (by omega)
    · rw [sn _ (by omega), sn _ (by omega)]; exact h.2.wbk c hc
  · intro c hc
    by_cases e : c = b
    · subst e; exact fun q => absurd q z1
    · rw [sn _ (by omega), sn _ (by omega)]; exact h.2.wb2 c hc
  · intro c hc
    by_cases e : c = b
    · subst e; exact fun q => absurd q z1
    · rw [sn _ (by omega), sn _ (by omega)]; exact h.2.wb2g c hc
  · intro c p hc hp
    by_cases e : c = b
    · subst e; exact fun _ => sc p hp
    · rw [sn _ (by omega), sn _ (by omega)]; exact h.2.wb3 c p hc hp
  · intro c hc
    by_cases e : c = b
    · subst e; rw [sz 3 (by omega)]; exact r0 _
    · rw [sn _ (by omega)]; exact h.2.wb4 c hc
  · intro c hc
    by_cases e : c = b
    · subst e; rw [sz 4 (by omega)]; exact r0 _
    · rw [sn _ (by omega)]; exact h.2.wb4k c hc
  · intro q c hq2 hc g1 g2 g3
    rw [sn _ (by omega)] at g1
    rw [sn _ (by omega)] at g2
    rw [sn _ (by omega), sn _ (by omega), sn _ (by omega), sn _ (by omega)]
    by_cases e : c = b
    · subst e
      have hno := hq q hq2 g1
      obtain ⟨x, x1, x2, x3⟩ := h.2.wqe q hq2 g1
      rcases (show x = 0 ∨ x = 1 by omega) with rfl | rfl
      · refine Or.inr (Classical.byContradiction (fun p => hno ⟨g2, x3, p⟩))
      · exact Or.inl x3
    · rw [sn _ (by omega)] at g3
      exact h.2.wq2 q c hq2 hc g1 g2 g3
theorem aok_stripRef {ci : VT → Option (Int32 × VT)} {mz : Option (Int32 × VT)} {n : Nat} {O : AT} {B V : VT} {J : JT} {M M1 : VT} {C : AT} (f s : Int32) (hf : f ≠ 0) (sb : St O B 1360 C 0 0 V) (sm : Ms (M 0) M1 (M 0) 0 0 M1) (hc : ∀ V2, f_X9_refuseOver f s V = some (-1000000000, V2) → ci V = some (-1000000000, V2)) (hm : ∀ M2 M3, f_X12_is 1 f M1 = some (1, M2) → f_X12_refused (u2 M2 7 3 s) = some (-1000000000, M3) → mz = some (-1000000000, M3)) : AO n O B M M1 (noJ ci V J) mz := by
  obtain ⟨V2, er, sr⟩ := st_refuse f s sb
  obtain ⟨M2, ei, si⟩ := is_yes f sm hf
  have si2 := ms_sub s si
  obtain ⟨M3, e3, hm3⟩ := mref_ok si2
  exact Or.inl ⟨f, s, -1000000000, V2, J, C, _, M3, hf, noJ_eq (hc V2 er), sr, hm M2 M3 ei e3, ⟨_, si2⟩, hm3⟩
theorem aok_strip (v1 : Int32) : AOK (noJ (f_X6_stripBar v1)) (f_X12_strip v1) := by
  intro n O B V J M M1 hn sb hgg em sm
  have hf0 : M1 7 2 = 0 := sm.2.2.2.1
  have h5 : V 11 5 = 0 := sb.2.2.2.2.1
  have m0 : M1 0 = M 0 := sm.1
  rcases rng 12 (by omega) v1 with ⟨b, hb, rfl⟩ | hbad
  · have e3 := m_isBar_yes (M := M1) hb
    have e4 := m_rigged (M := M1) hb
    rw [m0] at e4
    have eb := m_bar0 (b := b) (M := M1)
    have i2 := is_no 2 hf0
    have i1 := is_no 1 hf0
    by_cases h1 : M 0 (21 * b) = 1
    · have e1 := c_refBar_yes h5 hgg hb h1
      have i10' := is_no 10 hf0
      have i18 := is_no 18 hf0
      have i16 := is_no 16 hf0
      have eh := c_isHigh hgg hb
      have eh2 := m_height (M := M1) hb
      rw [m0] at eh2
      by_cases hh : M 0 (21 * b + 3) = 0
      · rw [if_pos hh] at eh
        obtain ⟨m, -, m2, hm⟩ := hgg.2.wn2
        have hm1 : M1 0 1642 = Int32.ofNat m := by rw [m0]; exact hm
        have hstr : f_X12_strip (Int32.ofNat b) M = lp (f_X12_strip_B76 (Int32.ofNat b) M1) fuel ((0 : Int32), (0 : Int32)) := by
          simp only [f_X12_strip, f_X12_strip_j17, f_X12_strip_j38, f_X12_strip_j59, em, e3, i2, e4, h1, i1, eh2, hh, i10', bsm, if_true, if_false, ite_self, i10, i01, ite01, ite10, true_or, or_true, false_or, or_false, leN, ite_not, not_true_eq_false, not_false_eq_true]
        rcases c_barCued (Int32.ofNat b) hgg (by omega) m2 hm with ⟨ec, c, hc, hcu⟩ | ⟨ec, hno⟩
        · have hl := m_stripLoop (M := M1) (Int32.ofNat b) 1 m2 hm1 (Or.inl ⟨rfl, c, hc, by rw [m0]; exact hcu⟩)
          rw [hstr, hl]
          refine aok_ref 18 (by decide) sb sm (fun V2 er sr => ?_) (fun M2 M3 ei er2 => ?_)
          · simp only [f_X6_stripBar, e1, eh, ec, er, bsm, if_true, if_false, ite_self, i10, i01, ite01, ite10, true_or, or_true, false_or, or_false, leN, ite_not, not_true_eq_false, not_false_eq_true]
          · simp only [stripX, ei, er2, bsm, if_true, if_false, ite_self, i10, i01, ite01, ite10, true_or, or_true, false_or, or_false, leN, ite_not, not_true_eq_false, not_false_eq_true]
        · have hl := m_stripLoop (M := M1) (Int32.ofNat b) 0 m2 hm1 (Or.inr ⟨rfl, fun c hc => by rw [m0]; exact hno c hc⟩)
          rw [hstr, hl]
          obtain ⟨w, w1, w2, w3⟩ := hgg.2.wb2 b hb h1
          have ep := m_places (M := M1) hb
          rw [m0, w3] at ep
          have hfl := m_fulLoop (M := M1) hb w2 (by omega)
          rw [m0] at hfl
          have hX : stripX (Int32.ofNat b) 0 M1 = lp (f_X12_strip_B148 (Int32.ofNat b) M1) fuel ((-1 : Int32), Int32.ofNat w - 1) := by
            simp only [stripX, i18, ep, bsm, if_true, if_false, ite_self, i10, i01, ite01, ite10, true_or, or_true, false_or, or_false, leN, ite_not, not_true_eq_false, not_false_eq_true]
          rw [hX, hfl]
          have step : ∀ p, p < 16 → M 0 (21 * b + 5 + p) = 0 → f_X6_stripBar_B62 (Int32.ofNat b) V (Int32.ofNat p) = some (.inl (Int32.ofNat (p + 1))) := by
            intro p hp q
            have n1 : ¬ (16 : Int32) ≤ Int32.ofNat p := fun q => by have := (nat_le (a := 16) (by omega) (by omega)).mp q; omega
            have ef := c_isFree hgg hb hp
            rw [if_pos q] at ef
            simp only [f_X6_stripBar_B62, n1, if_false, ef, i10, bsm, nat_succ]
          have hcs : f_X6_stripBar (Int32.ofNat b) V = lp (f_X6_stripBar_B62 (Int32.ofNat b) V) fuel (0 : Int32) := by
            simp only [f_X6_stripBar, e1, eh, ec, bsm, if_true, if_false, ite_self, i10, i01, ite01, ite10, true_or, or_true, false_or, or_false, leN, ite_not, not_true_eq_false, not_false_eq_true]
          rcases first_of (fun p => ¬ M 0 (21 * b + 5 + p) = 0) 16 with hfr | ⟨k, hk, hk1, hk2⟩
          · have hfr : ∀ p, p < 16 → M 0 (21 * b + 5 + p) = 0 := fun p hp => Classical.byContradiction (fun q => hfr p hp q)
            rw [ful_no w (Nat.le_refl w) (fun p hp => hfr p (by omega)), if_pos (by decide)]
            obtain ⟨l, -, l2, hlN⟩ := hgg.2.wn0
            have hl1 : M1 0 1640 = Int32.ofNat l := by rw [m0]; exact hlN
            have el := c_linesOf (Int32.ofNat b) hgg
            rw [hold_cnt hgg hlN l2] at el
            have el2 := m_lines (M := M1) (Int32.ofNat b) l2 hl1
            rw [m0] at el2
            obtain ⟨V2, ew, sw⟩ := c_stripLoop (Int32.ofNat (cnt (holdb (M 0) (Int32.ofNat b)) l)) hb sb hgg
            have es2 := m_stripLines (M := M1) (Int32.ofNat (cnt (holdb (M 0) (Int32.ofNat b)) l)) hb l2 hl1
            have es3 := m_colLoop (M := setRow M1 0 (lus (Int32.ofNat b) (M1 0) l)) (Int32.ofNat (cnt (holdb (M 0) (Int32.ofNat b)) l)) hb
            rw [setRow_eq] at es3
            rw [m0] at es2 es3
            have hLU := lu_tail (v := Int32.ofNat b) hgg hlN l2 (40 - l) (by omega)
            rw [show l + (40 - l) = 40 by omega] at hLU
            rw [hLU.2] at sw
            have sm2 := ms_row (lus (Int32.ofNat b) (M 0) l) sm (fun k hk => lus_oth (fun c hc => by omega) l l2)
            have sm3 := ms_row (fil (lus (Int32.ofNat b) (M 0) l) (21 * b) 0 21) sm2 (fun k hk => fil_out (by omega))
            refine aok_done (r := Int32.ofNat (cnt (holdb (M 0) (Int32.ofNat b)) l)) sw sm3 ?_ ?_ ?_
            · rw [hcs]
              refine lp_run (fun i => Int32.ofNat i) 16 0 fuel (fun i _ hi => step i (by omega) (hfr i (by omega))) ?_ (fuel_big (by omega))
              rw [Nat.zero_add]
              have n1 : (16 : Int32) ≤ Int32.ofNat 16 := by decide
              simp only [f_X6_stripBar_B62, n1, if_true, el, ew, bsm]
            · rw [← es3, ← es2]
              simp only [f_X12_strip_j182, i16, el2, bsm, if_true, if_false, ite_self, i10, i01, ite01, ite10, true_or, or_true, false_or, or_false, leN, ite_not, not_true_eq_false, not_false_eq_true]
            · refine gg_strip2 (lu_gg hgg l l2) hb (fun p hp => ?_) (fun c hc ht => ?_) (fun i hi => fil_in (by omega)) (fun j hj => fil_out hj) (fun i hi => fil_in (by omega)) (fun j hj => fil_out hj)
              · rw [lus_oth (fun c hc => by omega) l l2]; exact hfr p hp
              · rw [lus_oth (fun c hc => by omega) l l2, hm] at ht
                have := hno c ((nat_lt (by omega) (by omega)).mp ht)
                unfold cued nov at this ⊢
                rw [lus_oth (fun c hc => by omega) l l2, lus_oth (fun c hc => by omega) l l2, lus_oth (fun c hc => by omega) l l2, lus_oth (fun c hc => by omega) l l2, lus_oth (fun c hc => by omega) l l2]
                exact this
          · have hk2 : ∀ p, p < k → M 0 (21 * b + 5 + p) = 0 := fun p hp => Classical.byContradiction (fun q => hk2 p hp q)
            have hkw : k < w := Classical.byContradiction (fun q => hk1 (hgg.2.wb3 b k hb hk (by rw [w3]; exact (nat_le (by omega) (by omega)).mpr (by omega))))
            rw [ful_at hkw hk1 hk2 w (Nat.le_refl w) (by omega), if_neg (nat_nneg (by omega))]
            refine aok_stripRef 16 (Int32.ofNat k) (by decide) sb sm (fun V2 er => ?_) (fun M2 M3 ei er2 => ?_)
            · rw [hcs]
              refine lp_iter (fun i => Int32.ofNat i) k 0 fuel (fun i _ hi => step i (by omega) (hk2 i (by omega))) ?_ (fuel_big (by omega))
              rw [Nat.zero_add]
              have n1 : ¬ (16 : Int32) ≤ Int32.ofNat k := fun q => by have := (nat_le (a := 16) (by omega) (by omega)).mp q; omega
              have ef := c_isFree hgg hb hk
              rw [if_neg hk1] at ef
              simp only [f_X6_stripBar_B62, n1, if_false, ef, if_true, er, bsm]
            · simp only [f_X12_strip_j182, ei, er2, bsm, if_true, if_false, ite_self, i10, i01, ite01, ite10, true_or, or_true, false_or, or_false, leN, ite_not, not_true_eq_false, not_false_eq_true]
      · rw [if_neg hh] at eh
        refine aok_ref 10 (by decide) sb sm (fun V2 er sr => ?_) (fun M2 M3 ei er2 => ?_)
        · simp only [f_X6_stripBar, e1, eh, er, bsm, if_true, if_false, ite_self, i10, i01, ite01, ite10, true_or, or_true, false_or, or_false, leN, ite_not, not_true_eq_false, not_false_eq_true]
        · simp only [f_X12_strip, f_X12_strip_j17, f_X12_strip_j38, f_X12_strip_j59, f_X12_strip_j67, em, e3, i2, e4, h1, i1, eh2, hh, ei, er2, bsm, if_true, if_false, ite_self, i10, i01, ite01, ite10, true_or, or_true, false_or, or_false, leN, ite_not, not_true_eq_false, not_false_eq_true]
    · refine aok_ref 1 (by decide) sb sm (fun V2 er sr => ?_) (fun M2 M3 ei er2 => ?_)
      · have e1 := c_bar_ref (by decide) (Or.inr ⟨b, n, _, rfl, hb, hgg, h1, rfl⟩) er sr
        simp only [f_X6_stripBar_j139, f_X6_stripBar, e1, bsm, if_true, if_false, ite_self, i10, i01, ite01, ite10, true_or, or_true, false_or, or_false, leN, ite_not, not_true_eq_false, not_false_eq_true]
      · simp only [f_X12_strip_j67, f_X12_strip_j250, f_X12_strip_j182, f_X12_strip_j166, f_X12_strip_j115, f_X12_strip_j110, f_X12_strip_j114, f_X12_strip_j59, f_X12_strip_j38, f_X12_strip_j17, f_X12_strip, em, e3, i2, e4, h1, ei, er2, bsm, if_true, if_false, ite_self, i10, i01, ite01, ite10, true_or, or_true, false_or, or_false, leN, ite_not, not_true_eq_false, not_false_eq_true]
  · have e3 := m_isBar_no (M := M1) hbad
    refine aok_ref 2 (by decide) sb sm (fun V2 er sr => ?_) (fun M2 M3 ei er2 => ?_)
    · have e1 := c_bar_ref (by decide) (Or.inl ⟨hbad, rfl⟩) er sr
      simp only [f_X6_stripBar_j139, f_X6_stripBar, e1, bsm, if_true, if_false, ite_self, i10, i01, ite01, ite10, true_or, or_true, false_or, or_false, leN, ite_not, not_true_eq_false, not_false_eq_true]
    · simp only [f_X12_strip_j67, f_X12_strip_j250, f_X12_strip_j182, f_X12_strip_j166, f_X12_strip_j115, f_X12_strip_j110, f_X12_strip_j114, f_X12_strip_j59, f_X12_strip_j38, f_X12_strip_j17, f_X12_strip, em, e3, ei, er2, bsm, if_true, if_false, ite_self, i10, i01, ite01, ite10, true_or, or_true, false_or, or_false, leN, ite_not, not_true_eq_false, not_false_eq_true]
theorem o_strip : O_strip (IG GG) := fun _ _ _ _ _ v1 hn hI => aok_run (aok_strip v1) hn hI aok_nF

