/-! groups; least -/
def tied (S : AT) (b : Nat) : Prop := 1 ≤ b ∧ ∃ p, p < 16 ∧ ¬ S (21 * b + 5 + p) < 2 ∧ S (21 * b + 5 + p) = S (21 * (b - 1) + 5 + p)
noncomputable def tdb (S : AT) (b : Nat) : Bool := @decide (tied S b) (Classical.propDecidable _)
theorem tdb_iff {S : AT} {b : Nat} : tdb S b = true ↔ tied S b := by
  unfold tdb
  exact @decide_eq_true_iff (tied S b) (Classical.propDecidable _)
theorem tdb_cg {S S2 : AT} {b : Nat} (hb : b < 12) (h : ∀ c p, c < 12 → p < 16 → S (21 * c + 5 + p) = S2 (21 * c + 5 + p)) : tdb S2 b = tdb S b := by
  have : tied S2 b ↔ tied S b := by
    unfold tied
    constructor
    · rintro ⟨h1, p, hp, h2, h3⟩
      exact ⟨h1, p, hp, by rw [h b p hb hp]; exact h2, by rw [h b p hb hp, h (b - 1) p (by omega) hp]; exact h3⟩
    · rintro ⟨h1, p, hp, h2, h3⟩
      exact ⟨h1, p, hp, by rw [← h b p hb hp]; exact h2, by rw [← h b p hb hp, ← h (b - 1) p (by omega) hp]; exact h3⟩
  by_cases q : tied S b
  · rw [tdb_iff.mpr q, tdb_iff.mpr (this.mpr q)]
  · have q2 : ¬ tied S2 b := fun p => q (this.mp p)
    have a1 : tdb S b = false := by
      cases hh : tdb S b with
      | false => rfl
      | true => exact absurd (tdb_iff.mp hh) q
    have a2 : tdb S2 b = false := by
      cases hh : tdb S2 b with
      | false => rfl
      | true => exact absurd (tdb_iff.mp hh) q2
    rw [a1, a2]
theorem tdb_no {S : AT} {b : Nat} (h : ¬ tied S b) : tdb S b = false := by
  cases hh : tdb S b with
  | false => rfl
  | true => exact absurd (tdb_iff.mp hh) h
theorem c_tied {n : Nat} {V : VT} {S : AT} {b : Nat} (h : GG n (V 0) S) (hb : b < 12) : f_X5_isTiedDown (Int32.ofNat b) V = some (if tdb S b = true then 1 else 0) := by
  have gc : ∀ p, p < 16 → f_X7_get 48 12 16 (Int32.ofNat b) (Int32.ofNat p) V = some (S (21 * b + 5 + p)) := fun p hp => by rw [← h.1.rc b p hb hp]; exact gcon hb hp
  have gp : ∀ p, p < 16 → ∃ x, f_X7_get 48 12 16 (Int32.ofNat b - 1) (Int32.ofNat p) V = some x ∧ (1 ≤ b → x = S (21 * (b - 1) + 5 + p)) ∧ (b = 0 → x = 0) := by
    intro p hp
    by_cases q : 1 ≤ b
    · refine ⟨_, ?_, fun _ => rfl, fun e => by omega⟩
      rw [show Int32.ofNat b - 1 = Int32.ofNat (b - 1) by rw [Int32.ofNat_sub _ _ q]; rfl, gcon (by omega) hp, h.1.rc (b - 1) p (by omega) hp]
    · refine ⟨0, ?_, fun e => by omega, fun _ => rfl⟩
      exact get_row V (Or.inl (by rw [show b = 0 by omega]; decide))
  have step : ∀ p, p < 16 → ¬ (1 ≤ b ∧ ¬ S (21 * b + 5 + p) < 2 ∧ S (21 * b + 5 + p) = S (21 * (b - 1) + 5 + p)) → f_X5_isTiedDown_B2 (Int32.ofNat b) V (Int32.ofNat p) = some (.inl (Int32.ofNat (p + 1))) := by
    intro p hp hno
    have n1 : ¬ (16 : Int32) ≤ Int32.ofNat p := fun q => by have := (nat_le (a := 16) (by omega) (by omega)).mp q; omega
    obtain ⟨x, ex, x1, x0⟩ := gp p hp
    by_cases q : S (21 * b + 5 + p) < 2
    · simp only [f_X5_isTiedDown_B2, f_X5_isTiedDown_j46, n1, if_false, gc p hp, q, if_true, bsm, nat_succ]
    · have hne : ¬ S (21 * b + 5 + p) = x := by
        intro e
        by_cases qb : 1 ≤ b
        · exact hno ⟨qb, q, by rw [e]; exact x1 qb⟩
        · rw [e, x0 (by omega)] at q; exact q (by decide)
      simp only [f_X5_isTiedDown_B2, f_X5_isTiedDown_j46, n1, if_false, gc p hp, q, ex, hne, bsm, nat_succ]
  unfold f_X5_isTiedDown
  rw [bsm]
  rcases first_of (fun p => 1 ≤ b ∧ ¬ S (21 * b + 5 + p) < 2 ∧ S (21 * b + 5 + p) = S (21 * (b - 1) + 5 + p)) 16 with hno | ⟨k, hk, h1, h2⟩
  · rw [if_neg (fun e => by obtain ⟨y1, p, hp, y2, y3⟩ := tdb_iff.mp e; exact hno p hp ⟨y1, y2, y3⟩)]
    refine lp_iter (fun i => Int32.ofNat i) 16 0 fuel (fun i _ hi => step i (by omega) (hno i (by omega))) ?_ (fuel_big (by omega))
    rw [Nat.zero_add]
    have n1 : (16 : Int32) ≤ Int32.ofNat 16 := by decide
    simp only [f_X5_isTiedDown_B2, n1, if_true, bsm]
  · rw [if_pos (tdb_iff.mpr ⟨h1.1, k, hk, h1.2⟩)]
    refine lp_iter (fun i => Int32.ofNat i) k 0 fuel (fun i _ hi => step i (by omega) (h2 i (by omega))) ?_ (fuel_big (by omega))
    rw [Nat.zero_add]
    have n1 : ¬ (16 : Int32) ≤ Int32.ofNat k := fun q => by have := (nat_le (a := 16) (by omega) (by omega)).mp q; omega
    obtain ⟨x, ex, x1, x0⟩ := gp k hk
    have he : S (21 * b + 5 + k) = x := by rw [x1 h1.1]; exact h1.2.2
    simp only [f_X5_isTiedDown_B2, n1, if_false, gc k hk, h1.2.1, ex, eq_true he, if_true, bsm]
/-- what is on two neighbours is a flyer -/
theorem fly_two {n : Nat} {C S : AT} {b p t : Nat} (h : GG n C S) (hb : b + 1 < 12) (hp : p < 16) (ht : t < 80) (htl : Int32.ofNat t < S 1641) (h1 : S (21 * b + 5 + p) = Int32.ofNat (2 + t)) (h2 : S (21 * (b + 1) + 5 + p) = Int32.ofNat (2 + t)) : S (732 + 5 * t) = 4 := by
  rcases h.1.rp t ht htl with ⟨-, -, hno⟩ | ⟨b0, p0, -, -, -, -, -, -, hun⟩
  · exact absurd (by rw [ctS_at (by omega) hp]; exact h1) (hno b p (by omega) hp)
  · have a1 := hun b p (by omega) hp (by rw [ctS_at (by omega) hp]; exact h1)
    have a2 := hun (b + 1) p hb hp (by rw [ctS_at hb hp]; exact h2)
    rcases a1.2 with e1 | ⟨e1, -⟩
    · rcases a2.2 with e2 | ⟨e2, -⟩
      · omega
      · exact e2
    · exact e1
theorem m_joined {n : Nat} {C : AT} {M : VT} {b : Nat} (h : GG n C (M 0)) (hb : b + 1 < 12) : f_X12_isJoined (Int32.ofNat b) M = some (if tdb (M 0) (b + 1) = true then 1 else 0) := by
  have n0 : ¬ Int32.ofNat b < 0 := nat_nneg (by omega)
  have n1 : ¬ (10 : Int32) < Int32.ofNat b := fun q => by have := (nat_lt (a := 10) (by omega) (by omega)).mp q; omega
  have r1 := m_rigged (M := M) (b := b) (by omega)
  have r2 := m_rigged (M := M) hb
  have tw : tied (M 0) (b + 1) → (M 0) (21 * b) = 1 ∧ (M 0) (21 * (b + 1)) = 1 := by
    rintro ⟨-, p, hp, y1, y2⟩
    have z : ¬ (M 0) (21 * (b + 1) + 5 + p) = 0 := fun e => y1 (by rw [e]; decide)
    rw [show b + 1 - 1 = b by omega] at y2
    exact ⟨(full_rig h (by omega) hp (by rw [← y2]; exact z)).1, (full_rig h hb hp z).1⟩
  unfold f_X12_isJoined
  rw [if_neg n0, if_neg n1, r1, bsm, nat_succ]
  by_cases q1 : (M 0) (21 * b) = 1
  · rw [if_pos q1, if_neg (by decide), r2, bsm]
    by_cases q2 : (M 0) (21 * (b + 1)) = 1
    · rw [if_pos q2, if_neg (by decide), bsm]
      obtain ⟨P1, -, hP1, s1⟩ := h.2.wb2 b (by omega) q1
      obtain ⟨P2, -, hP2, s2⟩ := h.2.wb2 (b + 1) hb q2
      have ep1 := m_places (M := M) (b := b) (by omega)
      have ep2 := m_places (M := M) hb
      rw [s1] at ep1
      rw [s2] at ep2
      have step : ∀ p, p < P1 → p < P2 → ¬ (¬ (M 0) (21 * (b + 1) + 5 + p) < 2 ∧ (M 0) (21 * (b + 1) + 5 + p) = (M 0) (21 * b + 5 + p)) → f_X12_isJoined_B32 (Int32.ofNat b) M (Int32.ofNat p) = some (.inl (Int32.ofNat (p + 1))) := by
        intro p hp1 hp2 hno
        have a1 : ¬ Int32.ofNat P1 ≤ Int32.ofNat p := fun q => by have := (nat_le (by omega) (by omega)).mp q; omega
        have a2 : ¬ Int32.ofNat P2 ≤ Int32.ofNat p := fun q => by have := (nat_le (by omega) (by omega)).mp q; omega
        have eh1 := m_held (M := M) (b := b) (by omega) (p := p) (by omega)
        have eh2 := m_held (M := M) hb (p := p) (by omega)
        rcases low_ct h (b := b) (by omega) (p := p) (by omega) with ⟨hl, ho⟩ | ⟨hl, t, ht, htl, e⟩
        · simp only [f_X12_isJoined_B32, f_X12_isJoined_j91, ep1, a1, if_false, nat_succ, ep2, a2, eh1, low_sub ho, if_true, bsm]
        · rw [e] at eh1
          have nn : ¬ Int32.ofNat t < 0 := nat_nneg (by omega)
          have t0 : f_X12_thingIs (Int32.ofNat t) 0 M = some (M 0 (732 + 5 * t)) := m_thingIs (c := 0) ht (by omega)
          have hne : ¬ M 0 (21 * (b + 1) + 5 + p) = Int32.ofNat (2 + t) := fun x => hno ⟨by rw [x, ← e]; exact hl, by rw [x, e]⟩
          by_cases k4 : M 0 (732 + 5 * t) = 4
          · simp only [f_X12_isJoined_B32, f_X12_isJoined_j91, ep1, a1, if_false, nat_succ, ep2, a2, eh1, sub2, nn, t0, eq_true k4, if_true, eh2, two_plus, hne, bsm]
          · simp only [f_X12_isJoined_B32, f_X12_isJoined_j91, ep1, a1, if_false, nat_succ, ep2, a2, eh1, sub2, nn, t0, k4, bsm]
      rcases first_of (fun p => ¬ (M 0) (21 * (b + 1) + 5 + p) < 2 ∧ (M 0) (21 * (b + 1) + 5 + p) = (M 0) (21 * b + 5 + p)) 16 with hno | ⟨k, hk, h1, h2⟩
      · rw [if_neg (fun e => by obtain ⟨-, p, hp, y2, y3⟩ := tdb_iff.mp e; rw [show b + 1 - 1 = b by omega] at y3; exact hno p hp ⟨y2, y3⟩)]
        by_cases hlt : P1 ≤ P2
        · refine lp_iter (fun i => Int32.ofNat i) P1 0 fuel (fun i _ hi => step i (by omega) (by omega) (hno i (by omega))) ?_ (fuel_big (by omega))
          rw [Nat.zero_add]
          simp only [f_X12_isJoined_B32, ep1, Int32.le_refl, if_true, bsm]
        · refine lp_iter (fun i => Int32.ofNat i) P2 0 fuel (fun i _ hi => step i (by omega) (by omega) (hno i (by omega))) ?_ (fuel_big (by omega))
          rw [Nat.zero_add]
          have a1 : ¬ Int32.ofNat P1 ≤ Int32.ofNat P2 := fun q => by have := (nat_le (by omega) (by omega)).mp q; omega
          simp only [f_X12_isJoined_B32, ep1, a1, if_false, nat_succ, ep2, Int32.le_refl, if_true, bsm]
      · rw [if_pos (tdb_iff.mpr ⟨by omega, k, hk, h1.1, by rw [show b + 1 - 1 = b by omega]; exact h1.2⟩)]
        have z : ¬ (M 0) (21 * (b + 1) + 5 + k) = 0 := fun e => h1.1 (by rw [e]; decide)
        obtain ⟨-, P2', -, hP2', hk2, s2'⟩ := full_rig h hb hk z
        obtain ⟨-, P1', -, hP1', hk1, s1'⟩ := full_rig h (b := b) (by omega) hk (by rw [← h1.2]; exact z)
        have x2 : P2' = P2 := (nat_eq (by omega) (by omega)).mp (s2'.symm.trans s2)
        have x1 : P1' = P1 := (nat_eq (by omega) (by omega)).mp (s1'.symm.trans s1)
        subst x1
        subst x2
        refine lp_iter (fun i => Int32.ofNat i) k 0 fuel (fun i _ hi => step i (by omega) (by omega) (h2 i (by omega))) ?_ (fuel_big (by omega))
        rw [Nat.zero_add]
        have a1 : ¬ Int32.ofNat P1' ≤ Int32.ofNat k := fun q => by have := (nat_le (by omega) (by omega)).mp q; omega
        have a2 : ¬ Int32.ofNat P2' ≤ Int32.ofNat k := fun q => by have := (nat_le (by omega) (by omega)).mp q; omega
        have eh1 := m_held (M := M) (b := b) (by omega) (p := k) (by omega)
        have eh2 := m_held (M := M) hb (p := k) (by omega)
        rcases low_ct h hb (p := k) (by omega) with ⟨hl, -⟩ | ⟨hl, t, ht, htl, e⟩
        · exact absurd hl h1.1
        · have e1 : (M 0) (21 * b + 5 + k) = Int32.ofNat (2 + t) := by rw [← h1.2]; exact e
          have k4 := fly_two h hb hk ht htl e1 e
          rw [e1] at eh1
          rw [e] at eh2
          have nn : ¬ Int32.ofNat t < 0 := nat_nneg (by omega)
          have t0 : f_X12_thingIs (Int32.ofNat t) 0 M = some (M 0 (732 + 5 * t)) := m_thingIs (c := 0) ht (by omega)
          simp only [f_X12_isJoined_B32, ep1, a1, if_false, nat_succ, ep2, a2, eh1, sub2, nn, t0, eq_true k4, if_true, eh2, two_plus, bsm]
    · rw [if_neg q2, if_pos rfl, if_neg (fun e => q2 (tw (tdb_iff.mp e)).2)]
  · rw [if_neg q1, if_pos rfl, if_neg (fun e => q1 (tw (tdb_iff.mp e)).1)]
theorem m_joined_out {M : VT} {x : Int32} (hx : x < 0 ∨ 10 < x) : f_X12_isJoined x M = some 0 := by
  unfold f_X12_isJoined
  by_cases q : x < 0
  · rw [if_pos q]
  · rw [if_neg q, if_pos (hx.resolve_left q)]
/-- the least bar of a bar's group, the last one -/
noncomputable def glo (S : AT) : Nat → Nat
  | 0 => 0
  | b + 1 => if tdb S (b + 1) = true then glo S b else b + 1
noncomputable def gup (S : AT) : Nat → Nat → Nat
  | 0, b => b
  | k + 1, b => if tdb S (b + 1) = true then gup S k (b + 1) else b
noncomputable def ghi (S : AT) (b : Nat) : Nat := gup S (11 - b) b
theorem glo_le {S : AT} : ∀ b, glo S b ≤ b := by
  intro b
  induction b with
  | zero => exact Nat.le_refl 0
  | succ b ih => unfold glo; split <;> omega
theorem gup_le {S : AT} : ∀ k b, b ≤ gup S k b ∧ gup S k b ≤ b + k := by
  intro k
  induction k with
  | zero => intro b; exact ⟨Nat.le_refl _, Nat.le_refl _⟩
  | succ k ih =>
    intro b
    unfold gup
    have := ih (b + 1)
    split <;> omega
theorem ghi_le {S : AT} {b : Nat} (hb : b < 12) : b ≤ ghi S b ∧ ghi S b < 12 := by
  have := gup_le (S := S) (11 - b) b
  unfold ghi; omega
theorem gup_cg {S S2 : AT} (h : ∀ b, b < 12 → tdb S2 b = tdb S b) : ∀ k b, b + k < 12 → gup S2 k b = gup S k b := by
  intro k
  induction k with
  | zero => intro b _; rfl
  | succ k ih =>
    intro b hb
    unfold gup
    rw [h (b + 1) (by omega), ih (b + 1) (by omega)]
theorem neg1 {k : Nat} : Int32.ofNat (k + 1) + (-1) = Int32.ofNat k := by
  rw [← nat_succ, ← Int32.sub_eq_add_neg]; exact add_sub1
theorem lp_step {S Y : Type} {f : S → Option (S ⊕ Y)} {n : Nat} {x x2 : S} (h : f x = some (.inl x2)) : lp f (n + 1) x = lp f n x2 := by
  show (f x).bind _ = _
  rw [h]; rfl
theorem lp_last {S Y : Type} {f : S → Option (S ⊕ Y)} {n : Nat} {x : S} {y : Y} (h : f x = some (.inr y)) : lp f (n + 1) x = some y := by
  show (f x).bind _ = _
  rw [h]; rfl
theorem c_glo {n : Nat} {V : VT} {S : AT} (h : GG n (V 0) S) : ∀ b, b < 12 → ∀ k, b < k → lp (f_X5_leastOfGroup_B2 V) k (Int32.ofNat b) = some (Int32.ofNat (glo S b)) := by
  intro b
  induction b with
  | zero =>
    intro _ k hk
    obtain ⟨k, rfl⟩ : ∃ q, k = q + 1 := ⟨k - 1, by omega⟩
    refine lp_last ?_
    have n1 : Int32.ofNat 0 ≤ 0 := by decide
    simp only [f_X5_leastOfGroup_B2, n1, if_true, bsm]
    rfl
  | succ b ih =>
    intro hb k hk
    obtain ⟨k, rfl⟩ : ∃ q, k = q + 1 := ⟨k - 1, by omega⟩
    have n1 : ¬ Int32.ofNat (b + 1) ≤ 0 := fun q => by have := (nat_le (b := 0) (by omega) (by omega)).mp q; omega
    have et := c_tied h hb
    rw [show glo S (b + 1) = if tdb S (b + 1) = true then glo S b else b + 1 from rfl]
    by_cases q : tdb S (b + 1) = true
    · rw [if_pos q] at et ⊢
      rw [lp_step (x2 := Int32.ofNat b) (by simp only [f_X5_leastOfGroup_B2, n1, if_false, et, i10, neg1, bsm])]
      exact ih (by omega) k (by omega)
    · rw [if_neg q] at et ⊢
      refine lp_last ?_
      simp only [f_X5_leastOfGroup_B2, n1, if_false, et, if_true, bsm]
theorem m_glo {n : Nat} {C : AT} {M : VT} (h : GG n C (M 0)) : ∀ b, b < 12 → ∀ k, b < k → lp (f_X12_firstOfGroup_B2 M) k (Int32.ofNat b) = some (Int32.ofNat (glo (M 0) b)) := by
  intro b
  induction b with
  | zero =>
    intro _ k hk
    obtain ⟨k, rfl⟩ : ∃ q, k = q + 1 := ⟨k - 1, by omega⟩
    refine lp_last ?_
    have ej := m_joined_out (M := M) (x := Int32.ofNat 0 - 1) (Or.inl (by decide))
    simp only [f_X12_firstOfGroup_B2, ej, if_true, bsm]
    rfl
  | succ b ih =>
    intro hb k hk
    obtain ⟨k, rfl⟩ : ∃ q, k = q + 1 := ⟨k - 1, by omega⟩
    have et := m_joined h hb
    have es : Int32.ofNat (b + 1) - 1 = Int32.ofNat b := by rw [← nat_succ]; exact add_sub1
    rw [show glo (M 0) (b + 1) = if tdb (M 0) (b + 1) = true then glo (M 0) b else b + 1 from rfl]
    by_cases q : tdb (M 0) (b + 1) = true
    · rw [if_pos q] at et ⊢
      rw [lp_step (x2 := Int32.ofNat b) (by simp only [f_X12_firstOfGroup_B2, es, et, i10, neg1, if_false, bsm])]
      exact ih (by omega) k (by omega)
    · rw [if_neg q] at et ⊢
      refine lp_last ?_
      simp only [f_X12_firstOfGroup_B2, es, et, if_true, bsm]
theorem c_gup {n : Nat} {V : VT} {S : AT} (h : GG n (V 0) S) : ∀ k b, b + k = 11 → ∀ f, k < f → lp (f_X5_lastOfGroup_B2 V) f (Int32.ofNat b) = some (Int32.ofNat (gup S k b)) := by
  intro k
  induction k with
  | zero =>
    intro b hb f hf
    obtain ⟨f, rfl⟩ : ∃ q, f = q + 1 := ⟨f - 1, by omega⟩
    refine lp_last ?_
    have n1 : (11 : Int32) ≤ Int32.ofNat b := (nat_le (a := 11) (by omega) (by omega)).mpr (by omega)
    simp only [f_X5_lastOfGroup_B2, n1, if_true, bsm]
    rfl
  | succ k ih =>
    intro b hb f hf
    obtain ⟨f, rfl⟩ : ∃ q, f = q + 1 := ⟨f - 1, by omega⟩
    have n1 : ¬ (11 : Int32) ≤ Int32.ofNat b := fun q => by have := (nat_le (a := 11) (by omega) (by omega)).mp q; omega
    have et := c_tied h (b := b + 1) (by omega)
    rw [show gup S (k + 1) b = if tdb S (b + 1) = true then gup S k (b + 1) else b from rfl]
    by_cases q : tdb S (b + 1) = true
    · rw [if_pos q] at et ⊢
      rw [lp_step (x2 := Int32.ofNat (b + 1)) (by simp only [f_X5_lastOfGroup_B2, n1, if_false, nat_succ, et, i10, bsm])]
      exact ih (b + 1) (by omega) f (by omega)
    · rw [if_neg q] at et ⊢
      refine lp_last ?_
      simp only [f_X5_lastOfGroup_B2, n1, if_false, nat_succ, et, if_true, bsm]
theorem m_gup {n : Nat} {C : AT} {M : VT} (h : GG n C (M 0)) : ∀ k b, b + k = 11 → ∀ f, k < f → lp (f_X12_lastOfGroup_B2 M) f (Int32.ofNat b) = some (Int32.ofNat (gup (M 0) k b)) := by
  intro k
  induction k with
  | zero =>
    intro b hb f hf
    obtain ⟨f, rfl⟩ : ∃ q, f = q + 1 := ⟨f - 1, by omega⟩
    refine lp_last ?_
    have ej := m_joined_out (M := M) (x := Int32.ofNat b) (Or.inr ((nat_lt (a := 10) (by omega) (by omega)).mpr (by omega)))
    simp only [f_X12_lastOfGroup_B2, ej, if_true, bsm]
    rfl
  | succ k ih =>
    intro b hb f hf
    obtain ⟨f, rfl⟩ : ∃ q, f = q + 1 := ⟨f - 1, by omega⟩
    have et := m_joined h (b := b) (by omega)
    rw [show gup (M 0) (k + 1) b = if tdb (M 0) (b + 1) = true then gup (M 0) k (b + 1) else b from rfl]
    by_cases q : tdb (M 0) (b + 1) = true
    · rw [if_pos q] at et ⊢
      rw [lp_step (x2 := Int32.ofNat (b + 1)) (by simp only [f_X12_lastOfGroup_B2, nat_succ, et, i10, if_false, bsm])]
      exact ih (b + 1) (by omega) f (by omega)
    · rw [if_neg q] at et ⊢
      refine lp_last ?_
      simp only [f_X12_lastOfGroup_B2, et, if_true, bsm]
theorem c_least {n : Nat} {V : VT} {S : AT} {b : Nat} (h : GG n (V 0) S) (hb : b < 12) : f_X5_leastOfGroup (Int32.ofNat b) V = some (Int32.ofNat (glo S b)) := c_glo h b hb fuel (fuel_big (by omega))
theorem c_last {n : Nat} {V : VT} {S : AT} {b : Nat} (h : GG n (V 0) S) (hb : b < 12) : f_X5_lastOfGroup (Int32.ofNat b) V = some (Int32.ofNat (ghi S b)) := c_gup h (11 - b) b (by omega) fuel (fuel_big (by omega))
theorem m_first {n : Nat} {C : AT} {M : VT} {b : Nat} (h : GG n C (M 0)) (hb : b < 12) : f_X12_firstOfGroup (Int32.ofNat b) M = some (Int32.ofNat (glo (M 0) b)) := m_glo h b hb fuel (fuel_big (by omega))
theorem m_last {n : Nat} {C : AT} {M : VT} {b : Nat} (h : GG n C (M 0)) (hb : b < 12) : f_X12_lastOfGroup (Int32.ofNat b) M = some (Int32.ofNat (ghi (M 0) b)) := m_gup h (11 - b) b (by omega) fuel (fuel_big (by omega))
/-- a cue of the group is not over -/
def gcu (S : AT) (m b : Nat) : Prop := ∃ c, c < m ∧ ∃ k, glo S b ≤ k ∧ k ≤ ghi S b ∧ cued S (Int32.ofNat k) c
noncomputable def gcb (S : AT) (m b : Nat) : Bool := @decide (gcu S m b) (Classical.propDecidable _)
theorem gcb_iff {S : AT} {m b : Nat} : gcb S m b = true ↔ gcu S m b := by
  unfold gcb
  exact @decide_eq_true_iff (gcu S m b) (Classical.propDecidable _)
theorem c_groupCued {n m : Nat} {V : VT} {S : AT} {b : Nat} (h : GG n (V 0) S) (hn : n ≤ 1000) (hm : m ≤ 60) (hN : S 1642 = Int32.ofNat m) (hb : b < 12) : f_X0_isGroupCued (Int32.ofNat b) V = some (if gcb S m b = true then 1 else 0) := by
  have hlo := glo_le (S := S) b
  have hhi := ghi_le (S := S) hb
  have step : ∀ i, glo S b + i ≤ ghi S b → (∀ c, c < m → ¬ cued S (Int32.ofNat (glo S b + i)) c) → f_X0_isGroupCued_B18 (Int32.ofNat (ghi S b)) V (Int32.ofNat (glo S b + i)) = some (.inl (Int32.ofNat (glo S b + (i + 1)))) := by
    intro i hi hno
    have n1 : ¬ Int32.ofNat (ghi S b) < Int32.ofNat (glo S b + i) := fun q => by have := (nat_lt (by omega) (by omega)).mp q; omega
    rcases c_barCued (Int32.ofNat (glo S b + i)) h hn hm hN with ⟨-, c, hc, hcu⟩ | ⟨ec, -⟩
    · exact absurd hcu (hno c hc)
    · simp only [f_X0_isGroupCued_B18, n1, if_false, ec, if_true, bsm, nat_succ]
      rfl
  unfold f_X0_isGroupCued
  rw [c_last h hb, bsm, c_least h hb, bsm]
  rcases first_of (fun i => ∃ c, c < m ∧ cued S (Int32.ofNat (glo S b + i)) c) (ghi S b + 1 - glo S b) with hno | ⟨k, hk, ⟨c, hc, hcu⟩, h2⟩
  · rw [if_neg (fun e => by
      obtain ⟨c, hc, k, k1, k2, hcu⟩ := gcb_iff.mp e
      exact hno (k - glo S b) (by omega) ⟨c, hc, by rw [show glo S b + (k - glo S b) = k by omega]; exact hcu⟩)]
    refine lp_iter (fun i => Int32.ofNat (glo S b + i)) (ghi S b + 1 - glo S b) 0 fuel (fun i _ hi => step i (by omega) (fun c hc q => hno i (by omega) ⟨c, hc, q⟩)) ?_ (fuel_big (by omega))
    rw [Nat.zero_add]
    have n1 : Int32.ofNat (ghi S b) < Int32.ofNat (glo S b + (ghi S b + 1 - glo S b)) := (nat_lt (by omega) (by omega)).mpr (by omega)
    simp only [f_X0_isGroupCued_B18, n1, if_true, bsm]
  · rw [if_pos (gcb_iff.mpr ⟨c, hc, glo S b + k, by omega, by omega, hcu⟩)]
    refine lp_iter (fun i => Int32.ofNat (glo S b + i)) k 0 fuel (fun i _ hi => step i (by omega) (fun c hc q => h2 i (by omega) ⟨c, hc, q⟩)) ?_ (fuel_big (by omega))
    rw [Nat.zero_add]
    have n1 : ¬ Int32.ofNat (ghi S b) < Int32.ofNat (glo S b + k) := fun q => by have := (nat_lt (by omega) (by omega)).mp q; omega
    rcases c_barCued (Int32.ofNat (glo S b + k)) h hn hm hN with ⟨ec, -⟩ | ⟨-, hno⟩
    · simp only [f_X0_isGroupCued_B18, n1, if_false, ec, i10, bsm]
    · exact absurd hcu (hno c hc)
/-- what follows the inner loop of the reference's least() -/
def leastX (x v t : Int32) (M : VT) : Option ((Int32 × Int32) ⊕ Int32) := if t = 0 then (f_X12_least_j100 x v (0 : Int32) M) else ((f_X12_evenOf v M).bind fun r11 => f_X12_least_j100 x v r11 M)
theorem m_leastLoop {n m : Nat} {C : AT} {M : VT} {b : Nat} (x t : Int32) (h : GG n C (M 0)) (hm : m ≤ 60) (hN : M 0 1642 = Int32.ofNat m) (hb : b < 12) (ht : t = 1 ∧ gcu (M 0) m b ∨ t = 0 ∧ ¬ gcu (M 0) m b) : lp (f_X12_least_B26 x (Int32.ofNat b) M) fuel ((0 : Int32), (0 : Int32)) = leastX x (Int32.ofNat b) t M := by
  have kN : ckA 1646 (1642 : Int32) = some 1642 := ck_lit (k := 1642) rfl (by omega) (by omega)
  have hlo := glo_le (S := M 0) b
  have hhi := ghi_le (S := M 0) hb
  have e0 : ∀ c, c < 60 → f_X12_cueIs (Int32.ofNat c) 0 M = some (M 0 (1132 + 5 * c)) := fun c hc => m_cueIs (i := 0) hc (by omega)
  have ef := m_first h hb
  have el := m_last h hb
  have lc : ∀ c, c < m → ∃ k : Nat, k < 12 ∧ M 0 (1132 + 5 * c) = Int32.ofNat k := fun c hc => by
    obtain ⟨k, -, k2, k3⟩ := h.2.wqa c (by omega) (by rw [hN]; exact (nat_lt (by omega) (by omega)).mpr hc)
    exact ⟨k, by omega, k3⟩
  have step0 : ∀ c, c < m → ¬ (∃ k, glo (M 0) b ≤ k ∧ k ≤ ghi (M 0) b ∧ cued (M 0) (Int32.ofNat k) c) → f_X12_least_B26 x (Int32.ofNat b) M (0, Int32.ofNat c) = some (.inl (0, Int32.ofNat (c + 1))) := by
    intro c hc hno
    have n1 : ¬ Int32.ofNat m ≤ Int32.ofNat c := fun q => by have := (nat_le (by omega) (by omega)).mp q; omega
    have en := m_notOver (M := M) (c := c) (by omega)
    obtain ⟨k, hk, ek⟩ := lc c hc
    by_cases q : nov (M 0) c
    · rw [if_pos q] at en
      have hr : Int32.ofNat k < Int32.ofNat (glo (M 0) b) ∨ Int32.ofNat (ghi (M 0) b) < Int32.ofNat k := by
        refine Classical.byContradiction (fun p => hno ⟨k, ?_, ?_, ek, q⟩)
        · exact Classical.byContradiction (fun p2 => p (Or.inl ((nat_lt (by omega) (by omega)).mpr (by omega))))
        · exact Classical.byContradiction (fun p2 => p (Or.inr ((nat_lt (by omega) (by omega)).mpr (by omega))))
      simp only [f_X12_least_B26, f_X12_least_j79, f_X12_least_j80, kN, hN, n1, if_false, if_true, en, i10, e0 c (by omega), ek, ef, el, in_no hr, bsm, nat_succ]
    · rw [if_neg q] at en
      simp only [f_X12_least_B26, f_X12_least_j79, f_X12_least_j80, kN, hN, n1, if_false, if_true, en, bsm, nat_succ]
  have stepy : ∀ c, c < m → (∃ k, glo (M 0) b ≤ k ∧ k ≤ ghi (M 0) b ∧ cued (M 0) (Int32.ofNat k) c) → f_X12_least_B26 x (Int32.ofNat b) M (0, Int32.ofNat c) = some (.inl (1, Int32.ofNat (c + 1))) := by
    intro c hc hy
    obtain ⟨k, k1, k2, k3, k4⟩ := hy
    have n1 : ¬ Int32.ofNat m ≤ Int32.ofNat c := fun q => by have := (nat_le (by omega) (by omega)).mp q; omega
    have en := m_notOver (M := M) (c := c) (by omega)
    rw [if_pos k4] at en
    have ei := in_yes (M := M) (v := Int32.ofNat k) (a := Int32.ofNat (glo (M 0) b)) (b := Int32.ofNat (ghi (M 0) b)) (fun q => by have := (nat_lt (by omega) (by omega)).mp q; omega) (fun q => by have := (nat_lt (by omega) (by omega)).mp q; omega)
    simp only [f_X12_least_B26, f_X12_least_j75, f_X12_least_j80, kN, hN, n1, if_false, if_true, en, i10, e0 c (by omega), k3, ef, el, ei, bsm, nat_succ]
  have step1 : ∀ c, c < m → f_X12_least_B26 x (Int32.ofNat b) M (1, Int32.ofNat c) = some (.inl (1, Int32.ofNat (c + 1))) := by
    intro c hc
    have n1 : ¬ Int32.ofNat m ≤ Int32.ofNat c := fun q => by have := (nat_le (by omega) (by omega)).mp q; omega
    simp only [f_X12_least_B26, f_X12_least_j75, f_X12_least_j80, kN, hN, n1, if_false, i10, bsm, nat_succ]
  have fin : ∀ t, f_X12_least_B26 x (Int32.ofNat b) M (t, Int32.ofNat m) = (leastX x (Int32.ofNat b) t M).bind fun y => some (.inr y) := by
    intro t
    unfold f_X12_least_B26
    rw [kN, bsm, hN, if_pos (Int32.le_refl _)]
    rfl
  rcases ht with ⟨rfl, c0, hc0, hy0⟩ | ⟨rfl, hno⟩
  · rcases first_of (fun c => ∃ k, glo (M 0) b ≤ k ∧ k ≤ ghi (M 0) b ∧ cued (M 0) (Int32.ofNat k) c) m with hno | ⟨k, hk, h1, h2⟩
    · exact absurd hy0 (hno c0 hc0)
    · refine lp_run (fun i => (if k < i then 1 else 0, Int32.ofNat i)) m 0 fuel (fun i _ hi => ?_) ?_ (fuel_big (by omega))
      · rcases (show i < k ∨ i = k ∨ k < i by omega) with q | q | q
        · simp only [show ¬ k < i by omega, show ¬ k < i + 1 by omega, if_false]
          exact step0 i (by omega) (h2 i q)
        · subst q
          simp only [show ¬ i < i by omega, show i < i + 1 by omega, if_false, if_true]
          exact stepy i (by omega) h1
        · simp only [q, show k < i + 1 by omega, if_true]
          exact step1 i (by omega)
      · rw [Nat.zero_add]
        simp only [hk, if_true]
        exact fin 1
  · refine lp_run (fun i => (0, Int32.ofNat i)) m 0 fuel (fun i _ hi => step0 i (by omega) (fun q => hno ⟨i, by omega, q⟩)) ?_ (fuel_big (by omega))
    rw [Nat.zero_add]
    exact fin 0
theorem gcu_unrig {n m : Nat} {C S : AT} {b : Nat} (h : GG n C S) (hm : m ≤ 60) (hN : S 1642 = Int32.ofNat m) (hb : b < 12) (h0 : ¬ S (21 * b) = 1) : ¬ gcu S m b := by
  have z : S (21 * b) = 0 := (h.2.wb0 b hb).resolve_right h0
  have ct : ∀ p, p < 16 → S (21 * b + 5 + p) = 0 := fun p hp => h.2.wb3 b p hb hp (by rw [h.2.wbp b hb z]; exact nlt_le (nat_nneg (by omega)))
  have t1 : tdb S b = false := tdb_no (fun ⟨_, p, hp, q, _⟩ => q (by rw [ct p hp]; decide))
  have t2 : tdb S (b + 1) = false := tdb_no (fun ⟨_, p, hp, q, e⟩ => q (by rw [e, show b + 1 - 1 = b by omega, ct p hp]; decide))
  have l1 : glo S b = b := by
    cases b with
    | zero => rfl
    | succ b => unfold glo; rw [t1, if_neg (by decide)]
  have l2 : ghi S b = b := by
    unfold ghi
    cases hk : 11 - b with
    | zero => rfl
    | succ k => unfold gup; rw [t2, if_neg (by decide)]
  rintro ⟨c, hc, k, k1, k2, k3, k4⟩
  have : k = b := by omega
  subst this
  have := h.2.wq2 c k (by omega) hb (by rw [hN]; exact (nat_lt (by omega) (by omega)).mpr hc) k3 z
  rcases this with e | e
  · rw [k4.1] at e; exact absurd e (by decide)
  · exact k4.2 e
noncomputable def lsm (S : AT) (m : Nat) : Nat → Int32
  | 0 => 0
  | b + 1 => if gcb S m b = true then lsm S m b + (if 0 ≤ evn (l16 S b 16) (S (21 * b + 4)).toNatClampNeg then evn (l16 S b 16) (S (21 * b + 4)).toNatClampNeg else -evn (l16 S b 16) (S (21 * b + 4)).toNatClampNeg) else lsm S m b
theorem lsm_succ {S : AT} {m b : Nat} : lsm S m (b + 1) = if gcb S m b = true then lsm S m b + (if 0 ≤ evn (l16 S b 16) (S (21 * b + 4)).toNatClampNeg then evn (l16 S b 16) (S (21 * b + 4)).toNatClampNeg else -evn (l16 S b 16) (S (21 * b + 4)).toNatClampNeg) else lsm S m b := rfl
theorem o_least : O_least (IG GG) := by
  intro n V J dd M hn hI
  have hI2 := ig_skip gg_ok n V J dd M hn hI
  have hgg := ig_gg hI
  obtain ⟨m, -, m2, hm⟩ := hgg.2.wn2
  refine ⟨lsm (M 0) m 12, lsm (M 0) m 12, ?_, ?_, rfl, hI2⟩
  · unfold f_X11_least
    rw [bsm, bsm]
    refine lp_iter (fun i => (lsm (M 0) m i, Int32.ofNat i)) 12 0 fuel (fun i _ hi => ?_) ?_ (fuel_big (by omega))
    · have hi : i < 12 := by omega
      have n1 : ¬ (12 : Int32) ≤ Int32.ofNat i := fun q => by have := (nat_le (a := 12) (by omega) (by omega)).mp q; omega
      have eg := c_groupCued hgg (by omega) m2 hm hi
      obtain ⟨B, -, hB2, hB⟩ := hgg.2.wb4k i hi
      have ew := c_wanted hgg hi hB hB2
      rw [lsm_succ, hB, tn_nat (by omega)]
      by_cases q : gcb (M 0) m i = true
      · rw [if_pos q] at eg ⊢
        have ez : ∀ r : Int32, (if 0 ≤ r then r else 0 - r) = if 0 ≤ r then r else -r := fun r => by rw [Int32.zero_sub]
        simp only [f_X11_least_B4, f_X11_least_j35, n1, if_false, eg, i10, ew, ez, bsm, nat_succ]
      · rw [if_neg q] at eg ⊢
        simp only [f_X11_least_B4, f_X11_least_j35, n1, if_false, eg, if_true, bsm, nat_succ]
    · rw [Nat.zero_add]
      have n1 : (12 : Int32) ≤ Int32.ofNat 12 := by decide
      simp only [f_X11_least_B4, n1, if_true, bsm]
  · unfold f_X12_least
    rw [bsm, bsm]
    refine lp_iter (fun i => (lsm (M 0) m i, Int32.ofNat i)) 12 0 fuel (fun i _ hi => ?_) ?_ (fuel_big (by omega))
    · have hi : i < 12 := by omega
      have n1 : ¬ (12 : Int32) ≤ Int32.ofNat i := fun q => by have := (nat_le (a := 12) (by omega) (by omega)).mp q; omega
      have er := m_rigged (M := M) hi
      obtain ⟨B, -, hB2, hB⟩ := hgg.2.wb4k i hi
      have ew := m_even hgg hi hB hB2
      rw [lsm_succ, hB, tn_nat (by omega)]
      by_cases qr : M 0 (21 * i) = 1
      · rw [if_pos qr] at er
        by_cases q : gcb (M 0) m i = true
        · have el := m_leastLoop (lsm (M 0) m i) 1 hgg m2 hm hi (Or.inl ⟨rfl, gcb_iff.mp q⟩)
          rw [if_pos q]
          unfold f_X12_least_B4
          simp only [n1, if_false, er, bsm, i10, el]
          unfold leastX f_X12_least_j100 f_X12_least_j116 f_X12_least_j118
          rw [if_neg (by decide), ew, bsm]
          by_cases q2 : 0 ≤ evn (l16 (M 0) i 16) B
          · rw [if_pos q2, if_pos q2]; simp only [bsm, nat_succ]
          · rw [if_neg q2, if_neg q2]; simp only [bsm, nat_succ]
        · have el := m_leastLoop (lsm (M 0) m i) 0 hgg m2 hm hi (Or.inr ⟨rfl, fun p => q (gcb_iff.mpr p)⟩)
          rw [if_neg q]
          unfold f_X12_least_B4
          simp only [n1, if_false, er, bsm, i10, el]
          unfold leastX f_X12_least_j100 f_X12_least_j116 f_X12_least_j118
          rw [if_pos rfl, if_pos (by decide)]
          simp only [bsm, nat_succ, Int32.add_zero]
      · rw [if_neg qr] at er
        have q : ¬ gcb (M 0) m i = true := fun p => gcu_unrig hgg m2 hm hi qr (gcb_iff.mp p)
        rw [if_neg q]
        simp only [f_X12_least_B4, f_X12_least_j118, n1, if_false, er, if_true, bsm, nat_succ]
    · rw [Nat.zero_add]
      have n1 : (12 : Int32) ≤ Int32.ofNat 12 := by decide
      simp only [f_X12_least_B4, n1, if_true, bsm]
