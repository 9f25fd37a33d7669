/-! judging what was hung -/
theorem c_clStep {n : Nat} {V : VT} {S : AT} {b p : Nat} {m : Option Nat} (v2 v3 v4 : Int32) (h : GG n (V 0) S) (hb : b < 12) (hp : p < 16) (hm : ∀ a, m = some a → a < 80) (hv : ¬ v3 + v4 ≤ Int32.ofNat p) : f_X5_leastClash_B31 v2 v3 v4 (Int32.ofNat b) (S (21 * b + 3)) V (o32 (-1000000000) m, Int32.ofNat p) = some (.inl (o32 (-1000000000) (ck2 S b p m), Int32.ofNat (p + 1))) := by
  have hgx : ∃ y, f_X7_get 48 12 16 (Int32.ofNat b) (Int32.ofNat p) V = some y := ⟨_, gcon hb hp⟩
  have hlt1 := (ck_lt h hb hp hm).1
  have left : f_X5_leastClash_B31 v2 v3 v4 (Int32.ofNat b) (S (21 * b + 3)) V (o32 (-1000000000) m, Int32.ofNat p) = f_X5_leastClash_j77 v2 v3 v4 (o32 (-1000000000) (ckl S b p m)) (Int32.ofNat b) (S (21 * b + 3)) (Int32.ofNat p) V := by
    unfold f_X5_leastClash_B31
    simp only [hv, if_false]
    by_cases q1 : 1 ≤ b
    · have eb : Int32.ofNat b - 1 = Int32.ofNat (b - 1) := by rw [Int32.ofNat_sub _ _ q1]; rfl
      have ec := c_would (o := b - 1) (S (21 * b + 3)) h hb (by omega) hp
      rw [eb, ec, bsm]
      by_cases q2 : clb S b (S (21 * b + 3)) (b - 1) p = true
      · obtain ⟨t, ht, e, et⟩ := cl_thing h (show b - 1 < 12 by omega) hp q2
        have etI := c_thingIn h (show b - 1 < 12 by omega) hp
        rw [e, sub2] at etI
        unfold ckl
        rw [if_pos q2, if_neg (by decide), etI, bsm, c_lesser hm ht, bsm, if_pos ⟨q1, q2⟩, et]
      · unfold ckl
        rw [if_neg q2, if_pos rfl, if_neg (fun x => q2 x.2)]
    · have eo := c_would_out (b := b) (v := S (21 * b + 3)) (x := Int32.ofNat b - 1) (w := Int32.ofNat p) (V := V) (Or.inl (by rw [show b = 0 by omega]; decide)) hgx
      unfold ckl
      rw [eo, bsm, if_pos rfl, if_neg (fun x => q1 x.1)]
  rw [left]
  unfold f_X5_leastClash_j77 f_X5_leastClash_j114 ck2
  rw [nat_succ]
  by_cases q1 : b + 1 < 12
  · have ec := c_would (o := b + 1) (S (21 * b + 3)) h hb q1 hp
    rw [ec, bsm]
    by_cases q2 : clb S b (S (21 * b + 3)) (b + 1) p = true
    · obtain ⟨t, ht, e, et⟩ := cl_thing h q1 hp q2
      have etI := c_thingIn h q1 hp
      rw [e, sub2] at etI
      unfold ckr
      rw [if_pos q2, if_neg (by decide), etI, bsm, c_lesser hlt1 ht, bsm, if_pos ⟨q1, q2⟩, et, bsm, nat_succ]
    · unfold ckr
      rw [if_neg q2, if_pos rfl, if_neg (fun x => q2 x.2), bsm, nat_succ]
  · have eo := c_would_out (b := b) (v := S (21 * b + 3)) (x := Int32.ofNat (b + 1)) (w := Int32.ofNat p) (V := V) (Or.inr ((nat_le (a := 12) (by omega) (by omega)).mpr (by omega))) hgx
    unfold ckr
    rw [eo, bsm, if_pos rfl, if_neg (fun x => q1 x.1), bsm, nat_succ]
noncomputable def ckf (S : AT) (b fr : Nat) (m : Option Nat) : Nat → Option Nat
  | 0 => m
  | j + 1 => ck2 S b (fr + j) (ckf S b fr m j)
theorem ckf_lt {n : Nat} {C S : AT} {b fr : Nat} {m : Option Nat} (h : GG n C S) (hb : b < 12) (hm : ∀ a, m = some a → a < 80) : ∀ j, fr + j ≤ 16 → ∀ a, ckf S b fr m j = some a → a < 80 := by
  intro j
  induction j with
  | zero => intro _; exact hm
  | succ j ih => intro hj; exact (ck_lt h hb (p := fr + j) (by omega) (ih (by omega))).2
theorem c_clBar {n : Nat} {V : VT} {S : AT} {b fr k : Nat} {m : Option Nat} (v2 : Int32) (h : GG n (V 0) S) (hb : b < 12) (hk : fr + k ≤ 16) (hm : ∀ a, m = some a → a < 80) : lp (f_X5_leastClash_B31 v2 (Int32.ofNat fr) (Int32.ofNat k) (Int32.ofNat b) (S (21 * b + 3)) V) fuel (o32 (-1000000000) m, Int32.ofNat fr) = some (.inl (o32 (-1000000000) (ckf S b fr m k), Int32.ofNat (b + 1))) := by
  refine lp_iter (fun j => (o32 (-1000000000) (ckf S b fr m j), Int32.ofNat (fr + j))) k 0 fuel (fun j _ hj => ?_) ?_ (fuel_big (by omega))
  · refine c_clStep v2 _ _ h hb (p := fr + j) (by omega) (ckf_lt h hb hm j (by omega)) ?_
    rw [← Int32.ofNat_add]
    exact fun q => by have := (nat_le (by omega) (by omega)).mp q; omega
  · rw [Nat.zero_add]
    have n1 : Int32.ofNat fr + Int32.ofNat k ≤ Int32.ofNat (fr + k) := by rw [Int32.ofNat_add]; exact Int32.le_refl _
    simp only [f_X5_leastClash_B31, n1, if_true, bsm, nat_succ]
theorem c_leastClash {n : Nat} {V : VT} {S : AT} {b o fr k : Nat} (h : GG n (V 0) S) (hb : b < 12) (ho : o < 12) (hbo : o = b ∨ o = b + 1) (hk : fr + k ≤ 16) : f_X5_leastClash (Int32.ofNat b) (Int32.ofNat o) (Int32.ofNat fr) (Int32.ofNat k) V = some (o32 (-1000000000) (if o = b then ckf S b fr none k else ckf S o fr (ckf S b fr none k) k)) := by
  have gh : ∀ c, c < 12 → f_X7_get 0 12 4 (Int32.ofNat c) 2 V = some (S (21 * c + 3)) := fun c hc => by rw [← h.1.rb2 c hc]; exact gbar (c := 2) hc (by omega)
  have step : ∀ c, c < 12 → c ≤ o → ∀ m : Option Nat, (∀ a, m = some a → a < 80) → f_X5_leastClash_B7 (Int32.ofNat o) (Int32.ofNat fr) (Int32.ofNat k) V (o32 (-1000000000) m, Int32.ofNat c) = some (.inl (o32 (-1000000000) (ckf S c fr m k), Int32.ofNat (c + 1))) := by
    intro c hc hco m hm
    have n1 : ¬ Int32.ofNat o < Int32.ofNat c := fun q => by have := (nat_lt (by omega) (by omega)).mp q; omega
    simp only [f_X5_leastClash_B7, n1, if_false, gh c hc, c_clBar (Int32.ofNat o) h hc hk hm, bsm]
  have fin : ∀ m : Option Nat, f_X5_leastClash_B7 (Int32.ofNat o) (Int32.ofNat fr) (Int32.ofNat k) V (o32 (-1000000000) m, Int32.ofNat (o + 1)) = some (.inr (o32 (-1000000000) m)) := by
    intro m
    have n1 : Int32.ofNat o < Int32.ofNat (o + 1) := (nat_lt (by omega) (by omega)).mpr (by omega)
    simp only [f_X5_leastClash_B7, n1, if_true, bsm]
  unfold f_X5_leastClash
  rw [bsm]
  have h0 : ∀ a, (none : Option Nat) = some a → a < 80 := fun a ha => by cases ha
  rcases hbo with e | e
  · subst e
    rw [if_pos rfl]
    exact lp_iter (fun j => (o32 (-1000000000) (if j = 0 then none else ckf S o fr none k), Int32.ofNat (o + j))) 1 0 fuel (fun j _ hj => by
      have : j = 0 := by omega
      subst this
      exact step o ho (Nat.le_refl _) none h0) (fin _) (fuel_big (by omega))
  · rw [if_neg (by omega)]
    refine lp_iter (fun j => (o32 (-1000000000) (if j = 0 then none else if j = 1 then ckf S b fr none k else ckf S o fr (ckf S b fr none k) k), Int32.ofNat (b + j))) 2 0 fuel (fun j _ hj => ?_) ?_ (fuel_big (by omega))
    · rcases (show j = 0 ∨ j = 1 by omega) with rfl | rfl
      · exact step b hb (by omega) none h0
      · subst e
        exact step (b + 1) ho (Nat.le_refl _) _ (ckf_lt h hb h0 k hk)
    · subst e
      exact fin _
theorem m_clashing {n : Nat} {C : AT} {M : VT} {b p : Nat} (h : GG n C (M 0)) (hb : b < 12) (hp : p < 16) : f_X12_clashing (Int32.ofNat b) (Int32.ofNat p) M = some (o32 (-1) (ck2 (M 0) b p none)) := by
  have eh := m_height (M := M) hb
  have h0 : ∀ a, (none : Option Nat) = some a → a < 80 := fun a ha => by cases ha
  have hlt1 := (ck_lt h hb hp h0).1
  have e5 := ti_nat (n := b) (by omega)
  have n1 : ¬ Int32.ofNat b + 1 < Int32.ofNat b - 1 := by
    rw [Int32.lt_iff_toInt_lt, i32_add (by rw [e5, show (1 : Int32).toInt = 1 by decide]; omega) (by rw [e5, show (1 : Int32).toInt = 1 by decide]; omega), i32_sub (by rw [e5, show (1 : Int32).toInt = 1 by decide]; omega) (by rw [e5, show (1 : Int32).toInt = 1 by decide]; omega), show (1 : Int32).toInt = 1 by decide]; omega
  have s1 : Int32.ofNat b - 1 + 2 = Int32.ofNat b + 1 := by
    rw [Int32.sub_eq_add_neg, Int32.add_assoc]; rfl
  have step1 : f_X12_clashing_B7 (Int32.ofNat b) (Int32.ofNat p) M (-1, Int32.ofNat b - 1) = some (.inl (o32 (-1) (ckl (M 0) b p none), Int32.ofNat b + 1)) := by
    by_cases q1 : 1 ≤ b
    · have eb : Int32.ofNat b - 1 = Int32.ofNat (b - 1) := by rw [Int32.ofNat_sub _ _ q1]; rfl
      have ec := m_clash (o := b - 1) (M 0 (21 * b + 3)) h hb (by omega) hp
      have eh2 := m_height (M := M) (b := b - 1) (by omega)
      have ei := m_isBar_yes (M := M) (b := b - 1) (by omega)
      rw [eb] at n1 s1 ⊢
      by_cases q2 : clb (M 0) b (M 0 (21 * b + 3)) (b - 1) p = true
      · rw [if_pos q2] at ec
        obtain ⟨t, ht, e, et⟩ := cl_thing h (show b - 1 < 12 by omega) hp q2
        have ehd := m_held (M := M) (b := b - 1) (by omega) hp
        rw [e] at ehd
        have nn : (-1 : Int32) < 0 := by decide
        unfold ckl
        rw [if_pos ⟨q1, q2⟩, et]
        simp only [f_X12_clashing_B7, f_X12_clashing_j69, f_X12_clashing_j75, f_X12_clashing_j76, n1, if_false, ei, i10, eh, eh2, ec, ehd, sub2, nn, if_true, bsm, s1]
        rfl
      · rw [if_neg q2] at ec
        unfold ckl
        rw [if_neg (fun x => q2 x.2)]
        simp only [f_X12_clashing_B7, f_X12_clashing_j76, n1, if_false, ei, i10, eh, eh2, ec, if_true, bsm, s1]
        rfl
    · have ei := m_isBar_no (M := M) (v := Int32.ofNat b - 1) (Or.inl (by rw [show b = 0 by omega]; decide))
      unfold ckl
      rw [if_neg (fun x => q1 x.1)]
      simp only [f_X12_clashing_B7, f_X12_clashing_j76, n1, if_false, ei, if_true, bsm, s1]
      rfl
  have step2 : f_X12_clashing_B7 (Int32.ofNat b) (Int32.ofNat p) M (o32 (-1) (ckl (M 0) b p none), Int32.ofNat b + 1) = some (.inl (o32 (-1) (ck2 (M 0) b p none), Int32.ofNat b + 1 + 2)) := by
    have n2 : ¬ Int32.ofNat (b + 1) < Int32.ofNat (b + 1) := Int32.lt_irrefl
    rw [nat_succ]
    unfold ck2
    by_cases q1 : b + 1 < 12
    · have ec := m_clash (o := b + 1) (M 0 (21 * b + 3)) h hb q1 hp
      have eh2 := m_height (M := M) q1
      have ei := m_isBar_yes (M := M) q1
      by_cases q2 : clb (M 0) b (M 0 (21 * b + 3)) (b + 1) p = true
      · rw [if_pos q2] at ec
        obtain ⟨t, ht, e, et⟩ := cl_thing h q1 hp q2
        have ehd := m_held (M := M) q1 hp
        rw [e] at ehd
        unfold ckr
        rw [if_pos ⟨q1, q2⟩, et]
        cases hm : ckl (M 0) b p none with
        | none =>
          have nn : (-1 : Int32) < 0 := by decide
          simp only [o32, f_X12_clashing_B7, f_X12_clashing_j69, f_X12_clashing_j75, f_X12_clashing_j76, nat_succ, n2, if_false, ei, i10, eh, eh2, ec, ehd, sub2, nn, if_true, bsm, lsO]
        | some a =>
          have ha := hlt1 a hm
          have nn : ¬ Int32.ofNat a < 0 := nat_nneg (by omega)
          by_cases q3 : a ≤ t
          · have q4 : Int32.ofNat a ≤ Int32.ofNat t := (nat_le (by omega) (by omega)).mpr q3
            simp only [o32, f_X12_clashing_B7, f_X12_clashing_j69, f_X12_clashing_j75, f_X12_clashing_j76, nat_succ, n2, if_false, ei, i10, eh, eh2, ec, ehd, sub2, nn, q4, if_true, bsm, lsO, show ¬ t < a by omega]
          · have q4 : ¬ Int32.ofNat a ≤ Int32.ofNat t := fun z => q3 ((nat_le (by omega) (by omega)).mp z)
            simp only [o32, f_X12_clashing_B7, f_X12_clashing_j69, f_X12_clashing_j75, f_X12_clashing_j76, nat_succ, n2, if_false, ei, i10, eh, eh2, ec, ehd, sub2, nn, q4, if_true, bsm, lsO, show t < a by omega]
      · rw [if_neg q2] at ec
        unfold ckr
        rw [if_neg (fun x => q2 x.2)]
        simp only [f_X12_clashing_B7, f_X12_clashing_j76, nat_succ, n2, if_false, ei, i10, eh, eh2, ec, if_true, bsm]
    · have ei := m_isBar_no (M := M) (v := Int32.ofNat (b + 1)) (Or.inr ((nat_le (a := 12) (by omega) (by omega)).mpr (by omega)))
      unfold ckr
      rw [if_neg (fun x => q1 x.1)]
      simp only [f_X12_clashing_B7, f_X12_clashing_j76, nat_succ, n2, if_false, ei, if_true, bsm]
  unfold f_X12_clashing
  rw [bsm, bsm]
  refine lp_iter (fun j => if j = 0 then (-1, Int32.ofNat b - 1) else if j = 1 then (o32 (-1) (ckl (M 0) b p none), Int32.ofNat b + 1) else (o32 (-1) (ck2 (M 0) b p none), Int32.ofNat b + 1 + 2)) 2 0 fuel (fun j _ hj => ?_) ?_ (fuel_big (by omega))
  · rcases (show j = 0 ∨ j = 1 by omega) with rfl | rfl
    · exact step1
    · exact step2
  · have n3 : Int32.ofNat b + 1 < Int32.ofNat b + 1 + 2 := by
      rw [nat_succ, show Int32.ofNat (b + 1) + 2 = Int32.ofNat (b + 1 + 2) from (Int32.ofNat_add (b + 1) 2).symm]
      exact (nat_lt (by omega) (by omega)).mpr (by omega)
    show f_X12_clashing_B7 (Int32.ofNat b) (Int32.ofNat p) M (o32 (-1) (ck2 (M 0) b p none), Int32.ofNat b + 1 + 2) = _
    simp only [f_X12_clashing_B7, n3, if_true, bsm]
/-- the clash found of one bar or two -/
noncomputable def cl2 (S : AT) (b o fr k : Nat) : Option Nat := if o = b then ckf S b fr none k else ckf S o fr (ckf S b fr none k) k
theorem c_judge {n : Nat} {O : AT} {B V : VT} {S : AT} {b o fr k : Nat} {J : JT} (h : GG n (V 0) S) (sb : St O B 1360 (V 0) 0 0 V) (hb : b < 12) (ho : o < 12) (hbo : o = b ∨ o = b + 1) (hk : fr + k ≤ 16) : ∃ V2 J2, f_X2_judge (Int32.ofNat b) (Int32.ofNat o) (Int32.ofNat fr) (Int32.ofNat k) V J = some (V2, J2) ∧ ((∃ a, a < 80 ∧ cl2 S b o fr k = some a ∧ St O B 1360 (V 0) 13 (Int32.ofNat a) V2) ∨ (cl2 S b o fr k = none ∧ ∃ a, a < 80 ∧ mhm S b none 16 = some a ∧ St O B 1360 (V 0) 14 (Int32.ofNat a) V2) ∨ (cl2 S b o fr k = none ∧ mhm S b none 16 = none ∧ ((¬ hdb S b = true ∧ St O B 1360 (V 0) 15 (Int32.ofNat b) V2) ∨ (hdb S b = true ∧ ¬ hdb S o = true ∧ St O B 1360 (V 0) 15 (Int32.ofNat o) V2) ∨ (hdb S b = true ∧ hdb S o = true ∧ St O B 1360 (V 0) 0 0 V2)))) := by
  have ec := c_leastClash h hb ho hbo hk
  have eh := c_tooHot h hb
  have h0 : ∀ a, (none : Option Nat) = some a → a < 80 := fun a ha => by cases ha
  have hlc : ∀ a, cl2 S b o fr k = some a → a < 80 := by
    intro a ha
    unfold cl2 at ha
    split at ha
    · exact ckf_lt h hb h0 k hk a ha
    · exact ckf_lt h ho (ckf_lt h hb h0 k hk) k hk a ha
  have hlh := mhm_lt (m := none) h hb h0 16 (by omega)
  rw [show (if o = b then ckf S b fr none k else ckf S o fr (ckf S b fr none k) k) = cl2 S b o fr k from rfl] at ec
  unfold f_X2_judge
  rw [ec, bsm]
  cases hc : cl2 S b o fr k with
  | some a =>
    have ha := hlc a hc
    obtain ⟨V2, er, sr⟩ := st_refuse 13 (Int32.ofNat a) sb
    refine ⟨V2, J, ?_, Or.inl ⟨a, ha, rfl, sr⟩⟩
    rw [if_neg (show ¬ o32 (-1000000000) (some a) = -1000000000 from none_ne (by omega))]
    show ((f_X9_refuseOver 13 (Int32.ofNat a) V).bind fun r9 => some (r9.2, J)) = _
    rw [er, bsm]
  | none =>
    rw [if_pos (show o32 (-1000000000) none = -1000000000 from rfl), eh, bsm]
    cases hh : mhm S b none 16 with
    | some a =>
      have ha := hlh a hh
      obtain ⟨V2, er, sr⟩ := st_refuse 14 (Int32.ofNat a) sb
      refine ⟨V2, J, ?_, Or.inr (Or.inl ⟨rfl, a, ha, rfl, sr⟩)⟩
      rw [if_neg (show ¬ o32 (-1000000000) (some a) = -1000000000 from none_ne (by omega))]
      show ((f_X9_refuseOver 14 (Int32.ofNat a) V).bind fun r9 => some (r9.2, J)) = _
      rw [er, bsm]
    | none =>
      rw [if_pos (show o32 (-1000000000) none = -1000000000 from rfl)]
      obtain ⟨V2, J2, e1, k1⟩ := c_isHeld (J := J) h hb
      have s1 : St O B 1360 (V 0) 0 0 V2 := st_scr sb (fun i hi => k1 i (by omega)) (k1 10 (by omega)) (fun i _ => by rw [k1 11 (by omega)])
      have g1 : GG n (V2 0) S := by rw [k1 0 (by omega)]; exact h
      have nb : ¬ Int32.ofNat o < Int32.ofNat b := fun q => by have := (nat_lt (by omega) (by omega)).mp q; omega
      by_cases d1 : hdb S b = true
      · rw [if_pos d1] at e1
        have st1 : f_X2_judge_B67 (Int32.ofNat o) (Int32.ofNat b, V, J) = some (.inl (Int32.ofNat (b + 1), V2, J2)) := by
          simp only [f_X2_judge_B67, nb, if_false, e1, i10, bsm, nat_succ]
        by_cases ob : o = b
        · subst ob
          refine ⟨V2, J2, ?_, Or.inr (Or.inr ⟨rfl, rfl, Or.inr (Or.inr ⟨d1, d1, s1⟩)⟩)⟩
          refine lp_iter (fun j => if j = 0 then (Int32.ofNat o, V, J) else (Int32.ofNat (o + 1), V2, J2)) 1 0 fuel (fun j _ hj => ?_) ?_ (fuel_big (by omega))
          · rw [show j = 0 by omega]; exact st1
          · have n1 : Int32.ofNat o < Int32.ofNat (o + 1) := (nat_lt (by omega) (by omega)).mpr (by omega)
            show f_X2_judge_B67 (Int32.ofNat o) (Int32.ofNat (o + 1), V2, J2) = _
            simp only [f_X2_judge_B67, n1, if_true, bsm]
        · have ob : o = b + 1 := hbo.resolve_left ob
          subst ob
          obtain ⟨V3, J3, e2, k2⟩ := c_isHeld (J := J2) g1 ho
          have s2 : St O B 1360 (V 0) 0 0 V3 := st_scr s1 (fun i hi => k2 i (by omega)) (k2 10 (by omega)) (fun i _ => by rw [k2 11 (by omega)])
          have nb2 : ¬ Int32.ofNat (b + 1) < Int32.ofNat (b + 1) := Int32.lt_irrefl
          by_cases d2 : hdb S (b + 1) = true
          · rw [if_pos d2] at e2
            refine ⟨V3, J3, ?_, Or.inr (Or.inr ⟨rfl, rfl, Or.inr (Or.inr ⟨d1, d2, s2⟩)⟩)⟩
            refine lp_iter (fun j => if j = 0 then (Int32.ofNat b, V, J) else if j = 1 then (Int32.ofNat (b + 1), V2, J2) else (Int32.ofNat (b + 1 + 1), V3, J3)) 2 0 fuel (fun j _ hj => ?_) ?_ (fuel_big (by omega))
            · rcases (show j = 0 ∨ j = 1 by omega) with rfl | rfl
              · exact st1
              · show f_X2_judge_B67 (Int32.ofNat (b + 1)) (Int32.ofNat (b + 1), V2, J2) = some (.inl (Int32.ofNat (b + 1 + 1), V3, J3))
                simp only [f_X2_judge_B67, nb2, if_false, e2, i10, bsm, nat_succ]
            · have n1 : Int32.ofNat (b + 1) < Int32.ofNat (b + 1 + 1) := (nat_lt (by omega) (by omega)).mpr (by omega)
              show f_X2_judge_B67 (Int32.ofNat (b + 1)) (Int32.ofNat (b + 1 + 1), V3, J3) = _
              simp only [f_X2_judge_B67, n1, if_true, bsm]
          · rw [if_neg d2] at e2
            obtain ⟨V4, er, sr⟩ := st_refuse 15 (Int32.ofNat (b + 1)) s2
            refine ⟨V4, J3, ?_, Or.inr (Or.inr ⟨rfl, rfl, Or.inr (Or.inl ⟨d1, d2, sr⟩)⟩)⟩
            refine lp_iter (fun j => if j = 0 then (Int32.ofNat b, V, J) else (Int32.ofNat (b + 1), V2, J2)) 1 0 fuel (fun j _ hj => ?_) ?_ (fuel_big (by omega))
            · rw [show j = 0 by omega]; exact st1
            · show f_X2_judge_B67 (Int32.ofNat (b + 1)) (Int32.ofNat (b + 1), V2, J2) = _
              simp only [f_X2_judge_B67, nb2, if_false, e2, if_true, er, bsm]
      · rw [if_neg d1] at e1
        obtain ⟨V4, er, sr⟩ := st_refuse 15 (Int32.ofNat b) s1
        refine ⟨V4, J2, ?_, Or.inr (Or.inr ⟨rfl, rfl, Or.inl ⟨d1, sr⟩⟩)⟩
        refine lp_iter (fun _ => (Int32.ofNat b, V, J)) 0 0 fuel (fun j _ hj => by omega) ?_ (fuel_big (by omega))
        simp only [f_X2_judge_B67, nb, if_false, e1, if_true, er, bsm]
