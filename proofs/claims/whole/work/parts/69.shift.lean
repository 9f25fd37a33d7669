/-! shift: what is carried, what is in the way -/
abbrev cS (S : AT) (b p : Nat) : Int32 := S (21 * b + 5 + p)
def stk (S : AT) (b F i : Nat) : Prop := S (21 * b + 5 + (F + i)) = 1 ∨ ∃ t, t < 80 ∧ S (21 * b + 5 + (F + i)) = Int32.ofNat (2 + t) ∧ S (732 + 5 * t) = 4
def wyP (S : AT) (b F T N i : Nat) : Prop := ¬ (F ≤ T + i ∧ T + i < F + N) ∧ ¬ S (21 * b + 5 + (T + i)) = 0
theorem add32 {a b : Nat} : Int32.ofNat a + Int32.ofNat b = Int32.ofNat (a + b) := (Int32.ofNat_add a b).symm
theorem c_stuck {n : Nat} {V : VT} {S : AT} {b F N : Nat} (h : GG n (V 0) S) (hb : b < 12) (hF : F + N ≤ 16) : (f_X2_isStuck (Int32.ofNat b) (Int32.ofNat F) (Int32.ofNat N) V = some 1 ∧ ∃ i, i < N ∧ stk S b F i) ∨ (f_X2_isStuck (Int32.ofNat b) (Int32.ofNat F) (Int32.ofNat N) V = some 0 ∧ ∀ i, i < N → ¬ stk S b F i) := by
  have look : ∀ i, i < N → (stk S b F i → f_X2_isStuck_B3 (Int32.ofNat b) (Int32.ofNat F) (Int32.ofNat N) V (Int32.ofNat i) = some (.inr 1)) ∧ (¬ stk S b F i → f_X2_isStuck_B3 (Int32.ofNat b) (Int32.ofNat F) (Int32.ofNat N) V (Int32.ofNat i) = some (.inl (Int32.ofNat (i + 1)))) := by
    intro i hi
    have n1 : ¬ Int32.ofNat N ≤ Int32.ofNat i := fun q => by have := (nat_le (by omega) (by omega)).mp q; omega
    have g : f_X7_get 48 12 16 (Int32.ofNat b) (Int32.ofNat (F + i)) V = some (S (21 * b + 5 + (F + i))) := by rw [← h.1.rc b (F + i) hb (by omega)]; exact gcon hb (by omega)
    rcases low_ct h hb (p := F + i) (by omega) with ⟨hl, ho⟩ | ⟨hl, t, ht, htl, e⟩
    · by_cases q : S (21 * b + 5 + (F + i)) = 1
      · refine ⟨fun _ => ?_, fun hn => absurd (Or.inl q) hn⟩
        simp only [f_X2_isStuck_B3, n1, if_false, add32, g, eq_true q, if_true, bsm]
      · refine ⟨fun hs => ?_, fun _ => ?_⟩
        · rcases hs with z | ⟨t, ht, z, -⟩
          · exact absurd z q
          · exact absurd z (ne_thing ho ht)
        · simp only [f_X2_isStuck_B3, f_X2_isStuck_j55, n1, if_false, add32, g, q, hl, if_true, bsm, nat_succ]
    · have ek := c_isKind 4 h ht
      rw [e] at g hl
      have q : ¬ Int32.ofNat (2 + t) = 1 := fun z => ne_thing (Or.inr rfl) ht z.symm
      by_cases k4 : S (732 + 5 * t) = 4
      · rw [if_pos k4] at ek
        refine ⟨fun _ => ?_, fun hn => absurd (Or.inr ⟨t, ht, e, k4⟩) hn⟩
        simp only [f_X2_isStuck_B3, n1, if_false, add32, g, q, hl, sub2, ek, i10, bsm]
      · rw [if_neg k4] at ek
        refine ⟨fun hs => ?_, fun _ => ?_⟩
        · rcases hs with z | ⟨t2, ht2, z, z4⟩
          · rw [e] at z; exact absurd z q
          · have := thing_inj ht ht2 (e.symm.trans z)
            subst this
            exact absurd z4 k4
        · simp only [f_X2_isStuck_B3, f_X2_isStuck_j55, n1, if_false, add32, g, q, hl, sub2, ek, if_true, bsm, nat_succ]
  unfold f_X2_isStuck
  rw [bsm]
  rcases first_of (stk S b F) N with hno | ⟨k, hk, h1, h2⟩
  · refine Or.inr ⟨?_, hno⟩
    refine lp_iter (fun i => Int32.ofNat i) N 0 fuel (fun i _ hi => (look i (by omega)).2 (hno i (by omega))) ?_ (fuel_big (by omega))
    rw [Nat.zero_add]
    simp only [f_X2_isStuck_B3, Int32.le_refl, if_true, bsm]
  · refine Or.inl ⟨?_, k, hk, h1⟩
    refine lp_iter (fun i => Int32.ofNat i) k 0 fuel (fun i _ hi => (look i (by omega)).2 (h2 i (by omega))) ?_ (fuel_big (by omega))
    rw [Nat.zero_add]
    exact (look k hk).1 h1
theorem c_inWay {n : Nat} {V : VT} {S : AT} {b F T N : Nat} (h : GG n (V 0) S) (hb : b < 12) (hF : F + N ≤ 16) (hT : T + N ≤ 16) : (f_X2_isInTheWay (Int32.ofNat b) (Int32.ofNat F) (Int32.ofNat T) (Int32.ofNat N) V = some 1 ∧ ∃ i, i < N ∧ wyP S b F T N i) ∨ (f_X2_isInTheWay (Int32.ofNat b) (Int32.ofNat F) (Int32.ofNat T) (Int32.ofNat N) V = some 0 ∧ ∀ i, i < N → ¬ wyP S b F T N i) := by
  have look : ∀ i, i < N → (wyP S b F T N i → f_X2_isInTheWay_B3 (Int32.ofNat b) (Int32.ofNat F) (Int32.ofNat T) (Int32.ofNat N) V (Int32.ofNat i) = some (.inr 1)) ∧ (¬ wyP S b F T N i → f_X2_isInTheWay_B3 (Int32.ofNat b) (Int32.ofNat F) (Int32.ofNat T) (Int32.ofNat N) V (Int32.ofNat i) = some (.inl (Int32.ofNat (i + 1)))) := by
    intro i hi
    have n1 : ¬ Int32.ofNat N ≤ Int32.ofNat i := fun q => by have := (nat_le (by omega) (by omega)).mp q; omega
    have ef := c_isFree h hb (p := T + i) (by omega)
    have base : f_X2_isInTheWay_B3 (Int32.ofNat b) (Int32.ofNat F) (Int32.ofNat T) (Int32.ofNat N) V (Int32.ofNat i) = f_X2_isInTheWay_j36 (Int32.ofNat b) (Int32.ofNat F) (Int32.ofNat T) (Int32.ofNat N) (Int32.ofNat i) (Int32.ofNat (T + i)) (if F ≤ T + i ∧ T + i < F + N then 1 else 0) V := by
      unfold f_X2_isInTheWay_B3 f_X2_isInTheWay_j35
      rw [if_neg n1, bsm, add32, add32]
      by_cases q1 : T + i < F
      · rw [if_pos ((nat_lt (by omega) (by omega)).mpr q1), if_neg (fun z => by omega)]
      · rw [if_neg (fun z => q1 ((nat_lt (by omega) (by omega)).mp z))]
        by_cases q2 : F + N ≤ T + i
        · rw [if_pos ((nat_le (by omega) (by omega)).mpr q2), if_neg (fun z => by omega)]
        · rw [if_neg (fun z => q2 ((nat_le (by omega) (by omega)).mp z)), if_pos (by omega)]
    rw [base]
    unfold f_X2_isInTheWay_j36 f_X2_isInTheWay_j58
    by_cases q : F ≤ T + i ∧ T + i < F + N
    · rw [if_pos q, if_neg (by decide), bsm, nat_succ]
      exact ⟨fun z => absurd q z.1, fun _ => rfl⟩
    · rw [if_neg q, if_pos rfl, ef, bsm]
      by_cases q2 : S (21 * b + 5 + (T + i)) = 0
      · rw [if_pos q2, if_neg (by decide), bsm, nat_succ]
        exact ⟨fun z => absurd q2 z.2, fun _ => rfl⟩
      · rw [if_neg q2, if_pos rfl, bsm]
        exact ⟨fun _ => rfl, fun z => absurd ⟨q, q2⟩ z⟩
  unfold f_X2_isInTheWay
  rw [bsm]
  rcases first_of (wyP S b F T N) N with hno | ⟨k, hk, h1, h2⟩
  · refine Or.inr ⟨?_, hno⟩
    refine lp_iter (fun i => Int32.ofNat i) N 0 fuel (fun i _ hi => (look i (by omega)).2 (hno i (by omega))) ?_ (fuel_big (by omega))
    rw [Nat.zero_add]
    simp only [f_X2_isInTheWay_B3, Int32.le_refl, if_true, bsm]
  · refine Or.inl ⟨?_, k, hk, h1⟩
    refine lp_iter (fun i => Int32.ofNat i) k 0 fuel (fun i _ hi => (look i (by omega)).2 (h2 i (by omega))) ?_ (fuel_big (by omega))
    rw [Nat.zero_add]
    exact (look k hk).1 h1
/-! the component moves -/
def cab (S : AT) (b F i : Nat) : Bool := decide (¬ S (21 * b + 5 + (F + i)) < 2)
def mv (S Z : AT) (b F T : Nat) : Nat → AT
  | 0 => Z
  | i + 1 => if S (21 * b + 5 + (F + i)) < 2 then mv S Z b F T i else upd (upd (mv S Z b F T i) (48 + 16 * b + (T + i)) (S (21 * b + 5 + (F + i)))) (720 + 8 * tix (S (21 * b + 5 + (F + i))) + 7) (Int32.ofNat (T + i))
theorem mv_succ {S Z : AT} {b F T i : Nat} : mv S Z b F T (i + 1) = if S (21 * b + 5 + (F + i)) < 2 then mv S Z b F T i else upd (upd (mv S Z b F T i) (48 + 16 * b + (T + i)) (S (21 * b + 5 + (F + i)))) (720 + 8 * tix (S (21 * b + 5 + (F + i))) + 7) (Int32.ofNat (T + i)) := rfl
theorem c_lift {n : Nat} {O : AT} {B V : VT} {S : AT} {b F N : Nat} {X : VT → Option (Int32 × VT)} (v3 : Int32) (h : GG n (V 0) S) (sb : St O B 1360 (V 0) 0 0 V) (hb : b < 12) (hF : F + N ≤ 16) (hX : ∀ V2, f_X2_moveAll_j67 (Int32.ofNat b) v3 (Int32.ofNat N) 0 V2 = X V2) : ∃ V2, lp (f_X2_moveAll_B6 (Int32.ofNat b) (Int32.ofNat F) v3 (Int32.ofNat N) 0) fuel ((0 : Int32), V) = X V2 ∧ St O B 1360 (fil (V 0) (48 + 16 * b + F) 0 N) 0 0 V2 ∧ ∀ j, j < N → V2 5 j = S (21 * b + 5 + (F + j)) := by
  have steps : ∀ i, i ≤ N → ∃ V2, St O B 1360 (fil (V 0) (48 + 16 * b + F) 0 i) 0 0 V2 ∧ (∀ j, j < i → V2 5 j = S (21 * b + 5 + (F + j))) ∧ ∀ k, lp (f_X2_moveAll_B6 (Int32.ofNat b) (Int32.ofNat F) v3 (Int32.ofNat N) 0) (k + i) ((0 : Int32), V) = lp (f_X2_moveAll_B6 (Int32.ofNat b) (Int32.ofNat F) v3 (Int32.ofNat N) 0) k (Int32.ofNat i, V2) := by
    intro i
    induction i with
    | zero => intro _; exact ⟨V, by rw [fil_0]; exact sb, fun j hj => by omega, fun k => rfl⟩
    | succ i ih =>
      intro hi
      obtain ⟨V2, s2, r2, l2⟩ := ih (by omega)
      have n1 : ¬ Int32.ofNat N ≤ Int32.ofNat i := fun q => by have := (nat_le (by omega) (by omega)).mp q; omega
      have n2 : ¬ (16 : Int32) ≤ Int32.ofNat i := fun q => by have := (nat_le (a := 16) (by omega) (by omega)).mp q; omega
      have v2 : V2 0 = fil (V 0) (48 + 16 * b + F) 0 i := s2.2.1
      have g : f_X7_get 48 12 16 (Int32.ofNat b) (Int32.ofNat (F + i)) V2 = some (S (21 * b + 5 + (F + i))) := by
        rw [gcon hb (by omega), v2, fil_out (by omega), h.1.rc b (F + i) hb (by omega)]
      have ek : ckA 16 (Int32.ofNat i) = some i := ck_nat (by omega) (by omega)
      have s3 : St O B 1360 (fil (V 0) (48 + 16 * b + F) 0 i) 0 0 (u2 V2 5 i (S (21 * b + 5 + (F + i)))) := st_scr s2 (fun k hk => u2_ne (by omega)) (u2_ne (by omega)) (fun j _ => by rw [u2_ne (by omega)])
      obtain ⟨V3, ew, sw, hfr⟩ := st_write (c := 48 + 16 * b + F + i) 0 s3 (by omega) (by omega)
      rw [fil_succ] at sw
      have es : f_X7_set 48 12 16 (Int32.ofNat b) (Int32.ofNat (F + i)) 0 (u2 V2 5 i (S (21 * b + 5 + (F + i)))) = f_X4_write (Int32.ofNat (48 + 16 * b + F + i)) 0 (u2 V2 5 i (S (21 * b + 5 + (F + i)))) := by
        rw [scon 0 hb (by omega), show 48 + 16 * b + (F + i) = 48 + 16 * b + F + i by omega]
      refine ⟨V3, sw, fun j hj => ?_, fun k => ?_⟩
      · rw [hfr.1 5 (by omega) (by omega), u2_at]
        by_cases e : j = i
        · rw [if_pos ⟨rfl, e⟩, e]
        · rw [if_neg (fun z => e z.2)]; exact r2 j (by omega)
      · rw [show k + (i + 1) = k + 1 + i by omega, l2 (k + 1)]
        refine lp_step ?_
        simp only [f_X2_moveAll_B6, n1, n2, if_false, add32, g, ek, es, ew, bsm, nat_succ]
  obtain ⟨V2, s2, r2, l2⟩ := steps N (Nat.le_refl N)
  refine ⟨V2, ?_, s2, r2⟩
  have hfu : fuel = fuel - N - 1 + 1 + N := by have := fuel_big (k := N) (by omega); omega
  rw [hfu, l2, ← hX V2]
  show (f_X2_moveAll_B6 (Int32.ofNat b) (Int32.ofNat F) v3 (Int32.ofNat N) 0 (Int32.ofNat N, V2)).bind _ = _
  have e1 : f_X2_moveAll_B6 (Int32.ofNat b) (Int32.ofNat F) v3 (Int32.ofNat N) 0 (Int32.ofNat N, V2) = (f_X2_moveAll_j67 (Int32.ofNat b) v3 (Int32.ofNat N) 0 V2).bind fun y3 => some (.inr y3) := by
    unfold f_X2_moveAll_B6
    rw [if_pos (Int32.le_refl _)]
  rw [e1]
  cases f_X2_moveAll_j67 (Int32.ofNat b) v3 (Int32.ofNat N) 0 V2 <;> rfl
theorem c_drop {n : Nat} {O : AT} {B V : VT} {C S Z : AT} {b F T N : Nat} (h : GG n C S) (sb : St O B 1360 Z 0 0 V) (hb : b < 12) (hF : F + N ≤ 16) (hT : T + N ≤ 16) (h5 : ∀ j, j < N → V 5 j = S (21 * b + 5 + (F + j))) : ∃ V2, f_X2_moveAll_j67 (Int32.ofNat b) (Int32.ofNat T) (Int32.ofNat N) 0 V = some (Int32.ofNat (cnt (cab S b F) N), V2) ∧ St O B 1360 (mv S Z b F T N) 0 0 V2 := by
  have key := lp_inv (f := f_X2_moveAll_B70 (Int32.ofNat b) (Int32.ofNat T) (Int32.ofNat N)) (Q := fun y => y.1 = Int32.ofNat (cnt (cab S b F) N) ∧ St O B 1360 (mv S Z b F T N) 0 0 y.2) (fun i s => s.1 = Int32.ofNat (cnt (cab S b F) i) ∧ s.2.1 = Int32.ofNat i ∧ St O B 1360 (mv S Z b F T i) 0 0 s.2.2 ∧ ∀ j, j < N → s.2.2 5 j = S (21 * b + 5 + (F + j))) N 0 fuel ((0 : Int32), (0 : Int32), V) ⟨rfl, rfl, sb, h5⟩ (fun i s _ hi hI => ?_) (fun s hI => ?_) (fuel_big (by omega))
  · obtain ⟨y, e, hy1, hy2⟩ := key
    refine ⟨y.2, ?_, hy2⟩
    unfold f_X2_moveAll_j67
    rw [bsm, e, ← hy1]
  · obtain ⟨a, c, V'⟩ := s
    obtain ⟨h1, h2, h3, h4⟩ := hI
    have h1 : a = Int32.ofNat (cnt (cab S b F) i) := h1
    have h2 : c = Int32.ofNat i := h2
    subst h1
    subst h2
    have h3 : St O B 1360 (mv S Z b F T i) 0 0 V' := h3
    have h4 : ∀ j, j < N → V' 5 j = S (21 * b + 5 + (F + j)) := h4
    have hi : i < N := by omega
    have n1 : ¬ Int32.ofNat N ≤ Int32.ofNat i := fun q => by have := (nat_le (by omega) (by omega)).mp q; omega
    have n2 : ¬ (16 : Int32) ≤ Int32.ofNat i := fun q => by have := (nat_le (a := 16) (by omega) (by omega)).mp q; omega
    have ek : ckA 16 (Int32.ofNat i) = some i := ck_nat (by omega) (by omega)
    have e5 := h4 i hi
    rcases low_ct h hb (p := F + i) (by omega) with ⟨hl, ho⟩ | ⟨hl, t, ht, htl, e⟩
    · refine ⟨(Int32.ofNat (cnt (cab S b F) i), Int32.ofNat (i + 1), V'), ?_, ?_, rfl, ?_, h4⟩
      · simp only [f_X2_moveAll_B70, f_X2_moveAll_j148, n1, n2, if_false, ek, e5, hl, if_true, bsm, nat_succ]
      · show Int32.ofNat (cnt (cab S b F) i) = Int32.ofNat (cnt (cab S b F) (i + 1))
        rw [cnt_succ, if_neg (show ¬ cab S b F i = true from fun z => (of_decide_eq_true z) hl)]
      · show St O B 1360 (mv S Z b F T (i + 1)) 0 0 V'
        rw [mv_succ, if_pos hl]; exact h3
    · obtain ⟨V3, ew, sw, hf1⟩ := st_write (c := 48 + 16 * b + (T + i)) (S (21 * b + 5 + (F + i))) h3 (by omega) (by omega)
      obtain ⟨V4, ew2, sw2, hf2⟩ := st_write (c := 720 + 8 * t + 7) (Int32.ofNat (T + i)) sw (by omega) (by omega)
      have es := scon (V := V') (S (21 * b + 5 + (F + i))) hb (p := T + i) (by omega)
      have es2 : f_X7_set 720 80 8 (Int32.ofNat t) 7 (Int32.ofNat (T + i)) V3 = f_X4_write (Int32.ofNat (720 + 8 * t + 7)) (Int32.ofNat (T + i)) V3 := sthing (c := 7) _ ht (by omega)
      have e53 : V3 5 i = Int32.ofNat (2 + t) := by rw [hf1.1 5 (by omega) (by omega), e5, e]
      refine ⟨(Int32.ofNat (cnt (cab S b F) i + 1), Int32.ofNat (i + 1), V4), ?_, ?_, rfl, ?_, fun j hj => ?_⟩
      · simp only [f_X2_moveAll_B70, f_X2_moveAll_j148, n1, n2, if_false, ek, e5, hl, add32, es, ew, e53, sub2, es2, ew2, bsm, nat_succ]
      · show Int32.ofNat (cnt (cab S b F) i + 1) = Int32.ofNat (cnt (cab S b F) (i + 1))
        rw [cnt_succ, if_pos (show cab S b F i = true from decide_eq_true hl)]
      · show St O B 1360 (mv S Z b F T (i + 1)) 0 0 V4
        rw [mv_succ, if_neg hl, tix_at ht e]; exact sw2
      · show V4 5 j = _
        rw [hf2.1 5 (by omega) (by omega), hf1.1 5 (by omega) (by omega)]; exact h4 j hj
  · obtain ⟨a, c, V'⟩ := s
    rw [Nat.zero_add] at hI
    obtain ⟨h1, h2, h3, h4⟩ := hI
    have h2 : c = Int32.ofNat N := h2
    subst h2
    refine ⟨(a, V'), ?_, h1, h3⟩
    simp only [f_X2_moveAll_B70, Int32.le_refl, if_true, bsm]
