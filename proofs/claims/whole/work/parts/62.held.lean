/-! lines found; share, held, barOf -/
theorem c_fill23 {V : VT} (x : Int32) : f_fill_23 x V = some (setRow V 4 (fil (V 4) 0 x 16)) := by
  unfold f_fill_23
  rw [bsm, bsm]
  have e0 : setRow V 4 (fil (V 4) 0 x 0) = V := by rw [fil_0, setRow_id]
  have key := lp_iter (f := f_fill_23_B5 x 16) (y := setRow V 4 (fil (V 4) 0 x 16)) (fun i => (Int32.ofNat i, setRow V 4 (fil (V 4) 0 x i))) 16 0 fuel (fun i _ hi => ?_) ?_ (fuel_big (by omega))
  · simp only [e0] at key
    exact key
  · have n1 : ¬ (16 : Int32) ≤ Int32.ofNat i := fun q => by have := (nat_le (a := 16) (by omega) (by omega)).mp q; omega
    have ek : ckA 16 (Int32.ofNat i) = some i := ck_nat (by omega) (by omega)
    have ef : upd (fil (V 4) 0 x i) i x = fil (V 4) 0 x (i + 1) := by
      have := fil_succ (f := V 4) (k := 0) (x := x) (i := i)
      rw [Nat.zero_add] at this; exact this
    simp only [f_fill_23_B5, n1, if_false, ek, bsm, nat_succ, setRow_u2, ef]
  · rw [Nat.zero_add]
    have n1 : (16 : Int32) ≤ Int32.ofNat 16 := by decide
    simp only [f_fill_23_B5, n1, if_true, bsm]
theorem c_findLines {n : Nat} {V : VT} {S : AT} {b : Nat} (h : GG n (V 0) S) : ∃ V2, f_X10_findLines (Int32.ofNat b) V = some (Int32.ofNat (cnt (holdb S (Int32.ofNat b)) 40), V2) ∧ LAok V2 S b ∧ ∀ k, k ≠ 4 → V2 k = V k := by
  have key := lp_inv (f := f_X10_findLines_B13 (Int32.ofNat b)) (Q := fun y => y.1 = Int32.ofNat (cnt (holdb S (Int32.ofNat b)) 40) ∧ LAok y.2 S b ∧ ∀ k, k ≠ 4 → y.2 k = V k) (fun i s => s.1 = Int32.ofNat (cnt (holdb S (Int32.ofNat b)) i) ∧ s.2.1 = Int32.ofNat i ∧ (∀ k, k ≠ 4 → s.2.2 k = V k) ∧ ∀ q, q < 16 → ((∃ l, l < i ∧ hat S (Int32.ofNat b) (Int32.ofNat q) l) → ∃ l, l < i ∧ hat S (Int32.ofNat b) (Int32.ofNat q) l ∧ s.2.2 4 q = Int32.ofNat l) ∧ ((¬ ∃ l, l < i ∧ hat S (Int32.ofNat b) (Int32.ofNat q) l) → s.2.2 4 q = -1000000000)) 40 0 fuel ((0 : Int32), (0 : Int32), setRow V 4 (fil (V 4) 0 (-1000000000) 16)) ⟨rfl, rfl, fun k hk => setRow_ne hk, fun q hq => ⟨fun ⟨l, hl, _⟩ => by omega, fun _ => by show setRow V 4 (fil (V 4) 0 (-1000000000) 16) 4 q = _; rw [setRow_eq, fil_in (by omega)]⟩⟩ (fun i s _ hi hI => ?_) (fun s hI => ?_) (fuel_big (by omega))
  · obtain ⟨y, e, hy1, hy2, hy3⟩ := key
    refine ⟨y.2, ?_, hy2, hy3⟩
    unfold f_X10_findLines
    rw [bsm, c_fill23, bsm, bsm, e, ← hy1]
  · obtain ⟨a, c, V'⟩ := s
    obtain ⟨h1, h2, h3, h4⟩ := hI
    have h1 : a = Int32.ofNat (cnt (holdb S (Int32.ofNat b)) i) := h1
    have h2 : c = Int32.ofNat i := h2
    subst h1
    subst h2
    have h3 : ∀ k, k ≠ 4 → V' k = V k := h3
    have hi : i < 40 := by omega
    have n1 : ¬ (40 : Int32) ≤ Int32.ofNat i := fun q => by have := (nat_le (a := 40) (by omega) (by omega)).mp q; omega
    have hg : GG n (V' 0) S := by rw [h3 0 (by omega)]; exact h
    have e1 : f_X7_get 240 40 12 (Int32.ofNat i) 1 V' = some (S (252 + 12 * i + 1)) := lget (c := 1) hg hi (by omega)
    have eh := c_holdsBar (Int32.ofNat b) hg hi
    by_cases q : S (252 + 12 * i + 3) = 1 ∧ S (252 + 12 * i) = Int32.ofNat b
    · rw [if_pos q] at eh
      have htl : Int32.ofNat i < S 1640 := Classical.byContradiction (fun p => by
        have := h.2.wl0 i hi (nlt_le p)
        rw [q.1] at this; exact absurd this (by decide))
      obtain ⟨q0, -, hq0, eq0⟩ := h.2.wlb i hi htl
      rw [eq0] at e1
      have n2 : ¬ Int32.ofNat q0 < 0 := nat_nneg (by omega)
      have n3 : ¬ (16 : Int32) ≤ Int32.ofNat q0 := fun q => by have := (nat_le (a := 16) (by omega) (by omega)).mp q; omega
      have ek : ckA 16 (Int32.ofNat q0) = some q0 := ck_nat (by omega) (by omega)
      refine ⟨(Int32.ofNat (cnt (holdb S (Int32.ofNat b)) i + 1), Int32.ofNat (i + 1), u2 V' 4 q0 (Int32.ofNat i)), ?_, ?_, rfl, fun k hk => ?_, fun r hr => ?_⟩
      · simp only [f_X10_findLines_B13, f_X10_findLines_j71, n1, if_false, e1, eh, i10, n2, n3, ek, bsm, nat_succ]
      · show Int32.ofNat (cnt (holdb S (Int32.ofNat b)) i + 1) = Int32.ofNat (cnt (holdb S (Int32.ofNat b)) (i + 1))
        rw [cnt_succ, if_pos (show holdb S (Int32.ofNat b) i = true from decide_eq_true q)]
      · show u2 V' 4 q0 (Int32.ofNat i) k = V k
        rw [u2_ne hk]; exact h3 k hk
      · show ((∃ l, l < i + 1 ∧ _) → ∃ l, l < i + 1 ∧ _ ∧ u2 V' 4 q0 (Int32.ofNat i) 4 r = Int32.ofNat l) ∧ ((¬ ∃ l, l < i + 1 ∧ _) → u2 V' 4 q0 (Int32.ofNat i) 4 r = -1000000000)
        by_cases er : r = q0
        · subst er
          refine ⟨fun _ => ⟨i, by omega, ⟨q, eq0⟩, by rw [u2_at, if_pos ⟨rfl, rfl⟩]⟩, fun hno => absurd ⟨i, by omega, q, eq0⟩ hno⟩
        · rw [u2_at, if_neg (fun x => er x.2)]
          have hiff : (∃ l, l < i + 1 ∧ hat S (Int32.ofNat b) (Int32.ofNat r) l) ↔ ∃ l, l < i ∧ hat S (Int32.ofNat b) (Int32.ofNat r) l := by
            constructor
            · rintro ⟨l, hl, hh⟩
              refine ⟨l, ?_, hh⟩
              refine Nat.lt_of_le_of_ne (by omega) (fun e => er ?_)
              subst e
              exact (nat_eq (by omega) (by omega)).mp (hh.2.symm.trans eq0)
            · rintro ⟨l, hl, hh⟩; exact ⟨l, by omega, hh⟩
          refine ⟨fun hy => ?_, fun hno => (h4 r hr).2 (fun y => hno (hiff.mpr y))⟩
          obtain ⟨l, hl, hh, e⟩ := (h4 r hr).1 (hiff.mp hy)
          exact ⟨l, by omega, hh, e⟩
    · rw [if_neg q] at eh
      refine ⟨(Int32.ofNat (cnt (holdb S (Int32.ofNat b)) i), Int32.ofNat (i + 1), V'), ?_, ?_, rfl, h3, fun r hr => ?_⟩
      · simp only [f_X10_findLines_B13, f_X10_findLines_j71, n1, if_false, e1, eh, if_true, bsm, nat_succ]
      · show Int32.ofNat (cnt (holdb S (Int32.ofNat b)) i) = Int32.ofNat (cnt (holdb S (Int32.ofNat b)) (i + 1))
        rw [cnt_succ, if_neg (show ¬ holdb S (Int32.ofNat b) i = true from fun e => q (of_decide_eq_true e))]
      · have hiff : (∃ l, l < i + 1 ∧ hat S (Int32.ofNat b) (Int32.ofNat r) l) ↔ ∃ l, l < i ∧ hat S (Int32.ofNat b) (Int32.ofNat r) l := by
          constructor
          · rintro ⟨l, hl, hh⟩
            refine ⟨l, ?_, hh⟩
            exact Nat.lt_of_le_of_ne (by omega) (fun e => q (by subst e; exact hh.1))
          · rintro ⟨l, hl, hh⟩; exact ⟨l, by omega, hh⟩
        refine ⟨fun hy => ?_, fun hno => (h4 r hr).2 (fun y => hno (hiff.mpr y))⟩
        obtain ⟨l, hl, hh, e⟩ := (h4 r hr).1 (hiff.mp hy)
        exact ⟨l, by omega, hh, e⟩
  · obtain ⟨a, c, V'⟩ := s
    rw [Nat.zero_add] at hI
    obtain ⟨h1, h2, h3, h4⟩ := hI
    have h2 : c = Int32.ofNat 40 := h2
    subst h2
    refine ⟨(a, V'), ?_, h1, fun q hq => ⟨fun hl => ?_, fun hl => ?_⟩, h3⟩
    · have n1 : (40 : Int32) ≤ Int32.ofNat 40 := by decide
      simp only [f_X10_findLines_B13, n1, if_true, bsm]
    · exact (h4 q hq).1 (lnp_iff.mp hl)
    · exact (h4 q hq).2 (fun y => hl (lnp_iff.mpr y))
theorem div_15 {d g : Nat} (h1 : 1 ≤ d) (h2 : d ≤ 15) : 360360 * g / d = g * (360360 / d) := by
  rcases (show d = 1 ∨ d = 2 ∨ d = 3 ∨ d = 4 ∨ d = 5 ∨ d = 6 ∨ d = 7 ∨ d = 8 ∨ d = 9 ∨ d = 10 ∨ d = 11 ∨ d = 12 ∨ d = 13 ∨ d = 14 ∨ d = 15 by omega) with rfl | rfl | rfl | rfl | rfl | rfl | rfl | rfl | rfl | rfl | rfl | rfl | rfl | rfl | rfl
  all_goals omega
theorem shN_tail {S : AT} {b a P : Nat} : ∀ k, (∀ p, P ≤ p → p < P + k → S (21 * b + 5 + p) = 0) → shN S b a (P + k) = shN S b a P := by
  intro k
  induction k with
  | zero => intro _; rfl
  | succ k ih =>
    intro h
    rw [show P + (k + 1) = P + k + 1 from rfl, shN_succ, if_pos (by rw [h (P + k) (by omega) (by omega)]; decide)]
    exact ih (fun p h1 h2 => h p h1 (by omega))
theorem nat_m1 {q : Nat} (h : q < 2147483648) : ¬ Int32.ofNat q = (-1 : Int32) := by
  intro e
  have h1 := congrArg Int32.toInt e
  rw [ti_nat h, show (-1 : Int32).toInt = -1 by decide] at h1
  omega
theorem m_shareLoop {n : Nat} {C : AT} {M : VT} {b a : Nat} (h : GG n C (M 0)) (hb : b < 12) (ha : a < 16) : lp (f_X12_shareOf_B20 (Int32.ofNat b) (Int32.ofNat a) M) fuel ((0 : Int64), (0 : Int32)) = some (Int64.ofNat (shN (M 0) b a 16)) := by
  obtain ⟨P, hP, hS⟩ := places_any h hb
  have ep := m_places (M := M) hb
  rw [hS] at ep
  have htail : shN (M 0) b a 16 = shN (M 0) b a P := by
    have := shN_tail (S := M 0) (b := b) (a := a) (P := P) (16 - P) (fun p h1 h2 => h.2.wb3 b p hb (by omega) (by rw [hS]; exact (nat_le (by omega) (by omega)).mpr h1))
    rw [show P + (16 - P) = 16 by omega] at this; exact this
  rw [htail]
  refine lp_iter (fun i => (Int64.ofNat (shN (M 0) b a i), Int32.ofNat i)) P 0 fuel (fun i _ hi => ?_) ?_ (fuel_big (by omega))
  · have n1 : ¬ Int32.ofNat P ≤ Int32.ofNat i := fun q => by have := (nat_le (by omega) (by omega)).mp q; omega
    have eh := m_held (M := M) hb (p := i) (by omega)
    rw [shN_succ]
    rcases low_ct h hb (p := i) (by omega) with ⟨hl, ho⟩ | ⟨hl, t, ht, htl, e⟩
    · rw [if_pos hl]
      have n2 : ¬ (2 : Int32) ≤ M 0 (21 * b + 5 + i) := fun q => lt_nle hl q
      simp only [f_X12_shareOf_B20, f_X12_shareOf_j186, ep, n1, if_false, eh, n2, bsm, nat_succ]
    · rw [if_neg hl, tix_at ht e]
      rw [e] at eh
      have n2 : (2 : Int32) ≤ Int32.ofNat (2 + t) := by rw [← e]; exact nlt_le hl
      have eg := m_grams h ht htl
      obtain ⟨eg2, hg5⟩ := gm_ok h ht htl
      rw [eg2] at eg
      have e7 : (360360 : Int64) * Int32.toInt64 (Int32.ofNat (gm (M 0) t)) = Int64.ofNat (360360 * gm (M 0) t) := by rw [l64 (by omega), Int64.ofNat_mul]; rfl
      have eb1 : f_X12_nearest (Int32.ofNat b) (Int32.ofNat i) (-1) M = some (o32 (-1) (lef (M 0) b i)) := m_before h i (by omega) fuel (fuel_big (by omega))
      have eb2 : f_X12_nearest (Int32.ofNat b) (Int32.ofNat i) 1 M = some (o32 (-1) (rgt (M 0) b (16 - i) i)) := m_behind h (16 - i) i (by omega) fuel (fuel_big (by omega))
      have nm : ¬ (0 : Int32) ≤ -1 := by decide
      have nam : ¬ Int32.ofNat a = (-1 : Int32) := nat_m1 (by omega)
      have add0 : ∀ x : Nat, Int64.ofNat x + 0 = Int64.ofNat (x + 0) := fun x => Int64.add_zero _
      unfold cn
      generalize gm (M 0) t = g at eg e7 hg5
      have same : ∀ q : Nat, q < 16 → f_X12_shareOf_j102 (Int32.ofNat b) (Int32.ofNat a) (Int64.ofNat (shN (M 0) b a i)) (Int32.ofNat i) (Int64.ofNat (360360 * g)) (Int32.ofNat q) (Int32.ofNat q) M = some (.inl (Int64.ofNat (shN (M 0) b a i + if a = q then 360360 * g else 0), Int32.ofNat (i + 1))) := by
        intro q hq
        unfold f_X12_shareOf_j102 f_X12_shareOf_j123 f_X12_shareOf_j186
        rw [if_pos rfl]
        by_cases ea : a = q
        · rw [if_pos (by rw [ea]), if_pos ea, bsm, bsm, nat_succ, ← Int64.ofNat_add]
        · rw [if_neg (fun x => ea ((nat_eq (by omega) (by omega)).mp x)), if_neg ea, bsm, bsm, nat_succ, add0]
      cases hlf : lef (M 0) b i with
      | none =>
        cases hrg : rgt (M 0) b (16 - i) i with
        | none =>
          simp only [hlf, o32] at eb1
          simp only [hrg, o32] at eb2
          simp only [f_X12_shareOf_B20, f_X12_shareOf_j93, f_X12_shareOf_j102, f_X12_shareOf_j123, f_X12_shareOf_j186, ep, n1, if_false, eh, n2, if_true, sub2, eg, e7, eb1, eb2, nm, nam, add0, con, bsm, nat_succ]
        | some r =>
          obtain ⟨h1, h2, -, -⟩ := rgt_some _ _ hrg
          simp only [hlf, o32] at eb1
          simp only [hrg, o32] at eb2
          have nr : (0 : Int32) ≤ Int32.ofNat r := nlt_le (nat_nneg (by omega))
          simp only [f_X12_shareOf_B20, f_X12_shareOf_j93, ep, n1, if_false, eh, n2, if_true, sub2, eg, e7, eb1, eb2, nm, nr, same r (by omega), con, bsm]
      | some l =>
        obtain ⟨l1, l2, l3⟩ := lef_some _ hlf
        have nl : (0 : Int32) ≤ Int32.ofNat l := nlt_le (nat_nneg (by omega))
        cases hrg : rgt (M 0) b (16 - i) i with
        | none =>
          simp only [hlf, o32] at eb1
          simp only [hrg, o32] at eb2
          simp only [f_X12_shareOf_B20, f_X12_shareOf_j93, ep, n1, if_false, eh, n2, if_true, sub2, eg, e7, eb1, eb2, nm, nl, same l (by omega), con, bsm]
        | some r =>
          obtain ⟨h1, h2, h3, h4⟩ := rgt_some _ _ hrg
          have nr : (0 : Int32) ≤ Int32.ofNat r := nlt_le (nat_nneg (by omega))
          simp only [hlf, o32] at eb1
          simp only [hrg, o32] at eb2
          by_cases hlr : l = r
          · subst hlr
            simp only [f_X12_shareOf_B20, f_X12_shareOf_j93, ep, n1, if_false, eh, n2, if_true, sub2, eg, e7, eb1, eb2, nl, same l (by omega), con, bsm]
          · have hlt : l < r := by omega
            have nlr : ¬ Int32.ofNat l = Int32.ofNat r := fun x => hlr ((nat_eq (by omega) (by omega)).mp x)
            have ed : Int32.toInt64 (Int32.ofNat r - Int32.ofNat l) = Int64.ofNat (r - l) := by rw [sub32 (by omega), l64 (by omega)]
            have eu : ckD (Int64.ofNat (r - l)) = some () := by
              unfold ckD
              rw [if_neg]
              intro e
              have := congrArg Int64.toInt e
              rw [t64 (by omega), show (0 : Int64).toInt = 0 by decide] at this
              omega
            have ea : Int64.ofNat (360360 * g) / Int64.ofNat (r - l) = Int64.ofNat (g * (360360 / (r - l))) := by rw [← Int64.ofNat_div (by omega) (by omega), div_15 (by omega) (by omega)]
            have ex : Int32.toInt64 (Int32.ofNat r - Int32.ofNat i) = Int64.ofNat (r - i) := by rw [sub32 (by omega), l64 (by omega)]
            have ey : Int32.toInt64 (Int32.ofNat i - Int32.ofNat l) = Int64.ofNat (i - l) := by rw [sub32 (by omega), l64 (by omega)]
            by_cases al : a = l
            · have eal := eq_true (congrArg Int32.ofNat al)
              simp only [f_X12_shareOf_B20, f_X12_shareOf_j93, f_X12_shareOf_j102, f_X12_shareOf_j186, ep, n1, if_false, eh, n2, if_true, sub2, eg, e7, eb1, eb2, nl, nr, nlr, eal, ed, eu, ea, ex, mul64, con, hlr, eq_true al, ← Int64.ofNat_add, bsm, nat_succ]
              rw [Nat.mul_right_comm]
            · have nal : ¬ Int32.ofNat a = Int32.ofNat l := fun x => al ((nat_eq (by omega) (by omega)).mp x)
              by_cases ar : a = r
              · have ear := eq_true (congrArg Int32.ofNat ar)
                simp only [f_X12_shareOf_B20, f_X12_shareOf_j93, f_X12_shareOf_j102, f_X12_shareOf_j186, ep, n1, if_false, eh, n2, if_true, sub2, eg, e7, eb1, eb2, nl, nr, nlr, nal, ear, ed, eu, ea, ey, mul64, con, hlr, al, eq_true ar, ← Int64.ofNat_add, bsm, nat_succ]
                rw [Nat.mul_right_comm]
              · have nar : ¬ Int32.ofNat a = Int32.ofNat r := fun x => ar ((nat_eq (by omega) (by omega)).mp x)
                simp only [f_X12_shareOf_B20, f_X12_shareOf_j93, f_X12_shareOf_j102, f_X12_shareOf_j186, ep, n1, if_false, eh, n2, if_true, sub2, eg, e7, eb1, eb2, nl, nr, nlr, nal, nar, con, hlr, al, ar, Nat.add_zero, bsm, nat_succ]
  · rw [Nat.zero_add]
    simp only [f_X12_shareOf_B20, ep, Int32.le_refl, if_true, bsm]
theorem m_shareOf {n : Nat} {C : AT} {M : VT} {l b a : Nat} (h : GG n C (M 0)) (hl : l < 40) (hb : b < 12) (ha : a < 16) (e0 : M 0 (252 + 12 * l) = Int32.ofNat b) (e1 : M 0 (252 + 12 * l + 1) = Int32.ofNat a) : f_X12_shareOf (Int32.ofNat l) M = some (Int64.ofNat (shN (M 0) b a 16)) := by
  have g0 : f_X12_lineIs (Int32.ofNat l) 0 M = some (Int32.ofNat b) := by rw [← e0]; exact m_lineIs (c := 0) hl (by omega)
  have g1 : f_X12_lineIs (Int32.ofNat l) 1 M = some (Int32.ofNat a) := by rw [← e1]; exact m_lineIs (c := 1) hl (by omega)
  unfold f_X12_shareOf
  rw [g0, bsm, g1, bsm, bsm, bsm]
  exact m_shareLoop h hb ha
theorem ig_rows {G : GT} {n : Nat} {V V2 : VT} {J J2 : JT} {dd : DT} {M : VT} (h : IG G n V J dd M) (e0 : V2 0 = V 0) (e1 : V2 1 = V 1) (e10 : V2 10 = V 10) (e11 : V2 11 = V 11) : IG G n V2 J2 dd M := by
  unfold IG at h ⊢
  rw [e0, e1, e10, e11]; exact h
theorem o_share : O_share (IG GG) := by
  intro n V J dd M v1 hn hI
  have hI2 := ig_skip gg_ok n V J dd M hn hI
  have hgg := ig_gg hI
  by_cases hv : v1 < 0 ∨ (M 0) 1640 ≤ v1
  · refine ⟨(-1000000000, V, J), -1000000000, ?_, ?_, rfl, hI2⟩
    · have e := c_isLine v1 hgg
      rw [if_pos hv] at e
      simp only [f_X11_share, f_X3_isLineThere_j25, f_X3_isLineThere, e, bsm, if_true, if_false, ite_self, i10, i01, ite01, ite10, true_or, or_true, false_or, or_false, leN, ite_not, not_true_eq_false, not_false_eq_true]
    · have e := m_isLineTold (M := M) v1
      rw [if_pos hv] at e
      simp only [f_X12_share_j24, f_X12_share, e, bsm, if_true, if_false, ite_self, i10, i01, ite01, ite10, true_or, or_true, false_or, or_false, leN, ite_not, not_true_eq_false, not_false_eq_true]
  · have em := m_isLineTold (M := M) v1
    rw [if_neg hv] at em
    obtain ⟨l, hl, rfl, ht⟩ := line_of hgg hv
    have ec := c_isLineThere hgg hl
    have e3 := m_isLineThere (M := M) hl
    by_cases q : M 0 (252 + 12 * l + 3) = 1
    · rw [if_pos q] at ec e3
      obtain ⟨b, -, hb, eb⟩ := hgg.2.wla l hl ht
      obtain ⟨a, -, ha, ea⟩ := hgg.2.wlb l hl ht
      have g0 : f_X7_get 240 40 12 (Int32.ofNat l) 0 V = some (Int32.ofNat b) := by rw [← eb]; exact lget (c := 0) hgg hl (by omega)
      obtain ⟨V2, ef, hla, hk⟩ := c_findLines (b := b) hgg
      have hg2 : GG n (V2 0) (M 0) := by rw [hk 0 (by omega)]; exact hgg
      obtain ⟨J2, es, hJ2⟩ := c_spread (J := J) hg2 (by omega) hla
      have g1 : f_X7_get 240 40 12 (Int32.ofNat l) 1 V2 = some (Int32.ofNat a) := by rw [← ea]; exact lget (c := 1) hg2 hl (by omega)
      have n0 : ¬ Int32.ofNat a < 0 := nat_nneg (by omega)
      have n1 : ¬ (16 : Int32) ≤ Int32.ofNat a := fun p => by have := (nat_le (a := 16) (by omega) (by omega)).mp p; omega
      have ek : ckA 16 (Int32.ofNat a) = some a := ck_nat (by omega) (by omega)
      refine ⟨(J2 a, V2, J2), Int64.ofNat (shN (M 0) b a 16), ?_, ?_, hJ2 a (by omega), ?_⟩
      · unfold f_X11_share f_X10_shareOf
        rw [ec, bsm, if_neg (by decide), g0, bsm, ef, bsm]
        simp only [es, g1, n0, n1, if_false, ek, bsm]
      · unfold f_X12_share
        rw [em, bsm, if_neg (by decide), e3, bsm, if_neg (by decide), m_shareOf hgg hl (by omega) (by omega) eb ea, bsm]
      · exact ig_rows hI2 (hk 0 (by omega)) (hk 1 (by omega)) (hk 10 (by omega)) (hk 11 (by omega))
    · rw [if_neg q] at ec e3
      refine ⟨(-1000000000, V, J), -1000000000, ?_, ?_, rfl, hI2⟩
      · simp only [f_X11_share, ec, bsm, if_true, if_false, ite_self, i10, i01, ite01, ite10, true_or, or_true, false_or, or_false, leN, ite_not, not_true_eq_false, not_false_eq_true]
      · simp only [f_X12_share_j24, f_X12_share, em, e3, bsm, if_true, if_false, ite_self, i10, i01, ite01, ite10, true_or, or_true, false_or, or_false, leN, ite_not, not_true_eq_false, not_false_eq_true]
/-! held -/
def thb (S : AT) (b p : Nat) : Bool := decide (¬ S (21 * b + 5 + p) < 2)
theorem c_thingsOn {n : Nat} {V : VT} {S : AT} {b : Nat} (h : GG n (V 0) S) (hb : b < 12) : f_X3_thingsOn (Int32.ofNat b) V = some (Int32.ofNat (cnt (thb S b) 16)) := by
  unfold f_X3_thingsOn
  rw [bsm, bsm]
  refine lp_iter (fun i => (Int32.ofNat (cnt (thb S b) i), Int32.ofNat i)) 16 0 fuel (fun i _ hi => ?_) ?_ (fuel_big (by omega))
  · have n1 : ¬ (16 : Int32) ≤ Int32.ofNat i := fun q => by have := (nat_le (a := 16) (by omega) (by omega)).mp q; omega
    have e : f_X7_get 48 12 16 (Int32.ofNat b) (Int32.ofNat i) V = some (S (21 * b + 5 + i)) := by rw [← h.1.rc b i hb (by omega)]; exact gcon hb (by omega)
    rw [cnt_succ]
    by_cases q : S (21 * b + 5 + i) < 2
    · rw [if_neg (show ¬ thb S b i = true from fun e => (of_decide_eq_true e) q)]
      simp only [f_X3_thingsOn_B4, f_X3_thingsOn_j26, n1, if_false, e, q, if_true, bsm, nat_succ]
    · rw [if_pos (show thb S b i = true from decide_eq_true q)]
      simp only [f_X3_thingsOn_B4, f_X3_thingsOn_j26, n1, if_false, e, q, bsm, nat_succ]
  · rw [Nat.zero_add]
    have n1 : (16 : Int32) ≤ Int32.ofNat 16 := by decide
    simp only [f_X3_thingsOn_B4, n1, if_true, bsm]
theorem m_things {n : Nat} {C : AT} {M : VT} {b : Nat} (h : GG n C (M 0)) (hb : b < 12) : f_X12_things (Int32.ofNat b) M = some (Int32.ofNat (cnt (thb (M 0) b) 16)) := by
  obtain ⟨P, hP, hS⟩ := places_any h hb
  have ep := m_places (M := M) hb
  rw [hS] at ep
  have htail : cnt (thb (M 0) b) 16 = cnt (thb (M 0) b) P := by
    have := cnt_tail (p := thb (M 0) b) (a := P) (16 - P) (fun p h1 h2 => decide_eq_false (fun q => q (by rw [h.2.wb3 b p hb (by omega) (by rw [hS]; exact (nat_le (by omega) (by omega)).mpr h1)]; decide)))
    rw [show P + (16 - P) = 16 by omega] at this; exact this
  rw [htail]
  unfold f_X12_things
  rw [bsm, bsm]
  refine lp_iter (fun i => (Int32.ofNat (cnt (thb (M 0) b) i), Int32.ofNat i)) P 0 fuel (fun i _ hi => ?_) ?_ (fuel_big (by omega))
  · have n1 : ¬ Int32.ofNat P ≤ Int32.ofNat i := fun q => by have := (nat_le (by omega) (by omega)).mp q; omega
    have eh := m_held (M := M) hb (p := i) (by omega)
    rw [cnt_succ]
    by_cases q : M 0 (21 * b + 5 + i) < 2
    · rw [if_neg (show ¬ thb (M 0) b i = true from fun e => (of_decide_eq_true e) q)]
      simp only [f_X12_things_B4, f_X12_things_j29, ep, n1, if_false, eh, q, if_true, bsm, Int32.add_zero, nat_succ]
    · rw [if_pos (show thb (M 0) b i = true from decide_eq_true q)]
      simp only [f_X12_things_B4, f_X12_things_j29, ep, n1, if_false, eh, q, bsm, nat_succ]
  · rw [Nat.zero_add]
    simp only [f_X12_things_B4, ep, Int32.le_refl, if_true, bsm]
/-- the weakest part of a line, the place it is at -/
def wkn (S : AT) (l : Nat) : Nat := (wkf S l ((S (252 + 12 * l + 2)).toNatClampNeg - 1)).toNatClampNeg
def pln (S : AT) (l : Nat) : Nat := (S (252 + 12 * l + 1)).toNatClampNeg
theorem wkf_rg {S : AT} {l : Nat} : ∀ k, (∀ i, i ≤ k → RG (S (252 + 12 * l + 4 + i)) 0 30000) → RG (wkf S l k) 0 30000 := by
  intro k
  induction k with
  | zero => intro h; exact h 0 (by omega)
  | succ k ih =>
    intro h
    unfold wkf
    split
    · exact h (k + 1) (by omega)
    · exact ih (fun i hi => h i (by omega))
theorem wkn_ok {n : Nat} {C S : AT} {l : Nat} (h : GG n C S) (hl : l < 40) (ht : Int32.ofNat l < S 1640) : ∃ P : Nat, 1 ≤ P ∧ P ≤ 8 ∧ S (252 + 12 * l + 2) = Int32.ofNat P ∧ (∀ i, i < P → RG (S (252 + 12 * l + 4 + i)) 0 30000) ∧ wkf S l (P - 1) = Int32.ofNat (wkn S l) ∧ wkn S l ≤ 30000 := by
  obtain ⟨P, p1, p2, p3, p4⟩ := line_nums h hl ht
  obtain ⟨w, -, w2, w3⟩ := wkf_rg (S := S) (l := l) (P - 1) (fun i hi => p4 i (by omega))
  have e : wkn S l = w := by unfold wkn; rw [p3, tn_nat (by omega), w3, tn_nat (by omega)]
  exact ⟨P, p1, p2, p3, p4, by rw [e]; exact w3, by omega⟩
theorem pln_ok {n : Nat} {C S : AT} {l : Nat} (h : GG n C S) (hl : l < 40) (ht : Int32.ofNat l < S 1640) : S (252 + 12 * l + 1) = Int32.ofNat (pln S l) ∧ pln S l < 16 := by
  obtain ⟨q, -, q2, q3⟩ := h.2.wlb l hl ht
  have e : pln S l = q := by unfold pln; rw [q3, tn_nat (by omega)]
  rw [e]; exact ⟨q3, by omega⟩
theorem hold_tl {n : Nat} {C S : AT} {l : Nat} (h : GG n C S) (hl : l < 40) (h1 : S (252 + 12 * l + 3) = 1) : Int32.ofNat l < S 1640 := Classical.byContradiction (fun p => by
  have := h.2.wl0 l hl (nlt_le p)
  rw [h1] at this; exact absurd this (by decide))
/-- a line of a bar that bears too much -/
def bad (S : AT) (b l : Nat) : Prop := (S (252 + 12 * l + 3) = 1 ∧ S (252 + 12 * l) = Int32.ofNat b) ∧ 360360 * wkn S l < shN S b (pln S l) 16
theorem con_le {lo hi : Option Nat} {a p g : Nat} (hp : ∀ l h, lo = some l → hi = some h → l ≤ p ∧ p ≤ h) : con lo hi a p g ≤ 360360 * g := by
  cases lo with
  | none =>
    cases hi with
    | none => exact Nat.zero_le _
    | some h => simp only [con]; split <;> omega
  | some l =>
    cases hi with
    | none => simp only [con]; split <;> omega
    | some h =>
      obtain ⟨h1, h2⟩ := hp l h rfl rfl
      have key : ∀ x, x ≤ h - l → g * x * (360360 / (h - l)) ≤ 360360 * g := by
        intro x hx
        have a1 : x * (360360 / (h - l)) ≤ 360360 := Nat.le_trans (Nat.mul_le_mul_right _ hx) (Nat.mul_div_le 360360 (h - l))
        rw [Nat.mul_assoc, Nat.mul_comm 360360 g]
        exact Nat.mul_le_mul_left g a1
      simp only [con]
      split
      · split <;> omega
      · split
        · exact key (h - p) (by omega)
        · split
          · exact key (p - l) (by omega)
          · omega
theorem shN_le {n : Nat} {C S : AT} {b a : Nat} (h : GG n C S) (hb : b < 12) : ∀ p, p ≤ 16 → shN S b a p ≤ 18018000000 * p := by
  intro p
  induction p with
  | zero => intro _; exact Nat.le_refl _
  | succ p ih =>
    intro hp
    have := ih (by omega)
    rw [shN_succ]
    rcases low_ct h hb (p := p) (by omega) with ⟨hl, -⟩ | ⟨hl, t, ht, htl, e⟩
    · rw [if_pos hl]; omega
    · rw [if_neg hl, tix_at ht e]
      have hg := (gm_ok h ht htl).2
      have hc : cn S b a p (gm S t) ≤ 360360 * gm S t := con_le (fun l r h1 h2 => ⟨(lef_some _ h1).1, (rgt_some _ _ h2).1⟩)
      omega
theorem lg_cmp64 {x y : Nat} (hx : x < 9223372036854775808) (hy : y < 9223372036854775808) : (lg_cmp (Int64.ofNat x) (Int64.ofNat y) ≤ 0) ↔ x ≤ y := by
  rw [lg_le0, Int64.le_iff_toInt_le, t64 hx, t64 hy]; omega
theorem e360 {w : Nat} (hw : w ≤ 30000) : (360360 : Int64) * Int32.toInt64 (Int32.ofNat w) = Int64.ofNat (360360 * w) := by rw [l64 (by omega), Int64.ofNat_mul]; rfl
theorem c_weak {n : Nat} {V : VT} {S : AT} {b : Nat} {J : JT} (h : GG n (V 0) S) (hb : b < 12) (hla : LAok V S b) (hJ : ∀ a, a < 16 → J a = Int64.ofNat (shN S b a 16)) : (f_X10_isOneTooWeak V J = some 1 ∧ ∃ l, l < 40 ∧ bad S b l) ∨ (f_X10_isOneTooWeak V J = some 0 ∧ ∀ l, l < 40 → ¬ bad S b l) := by
  have look : ∀ q, q < 16 → ∀ l, l < 40 → hat S (Int32.ofNat b) (Int32.ofNat q) l → V 4 q = Int32.ofNat l → (bad S b l → f_X10_isOneTooWeak_B2 V J (Int32.ofNat q) = some (.inr 1)) ∧ (¬ bad S b l → f_X10_isOneTooWeak_B2 V J (Int32.ofNat q) = some (.inl (Int32.ofNat (q + 1)))) := by
    intro q hq l hl hh e4
    have n1 : ¬ (16 : Int32) ≤ Int32.ofNat q := fun p => by have := (nat_le (a := 16) (by omega) (by omega)).mp p; omega
    have ek : ckA 16 (Int32.ofNat q) = some q := ck_nat hq (by omega)
    have htl := hold_tl h hl hh.1.1
    obtain ⟨P, p1, p2, p3, p4, p5, p6⟩ := wkn_ok h hl htl
    have ew := c_weakest_g h hl p1 p2 p3 p4
    rw [p5] at ew
    have epl : pln S l = q := (nat_eq (by have := (pln_ok h hl htl).2; omega) (by omega)).mp ((pln_ok h hl htl).1.symm.trans hh.2)
    have nl : ¬ Int32.ofNat l < 0 := nat_nneg (by omega)
    have hsh := shN_le (a := q) h hb 16 (by omega)
    have hcmp := lg_cmp64 (x := shN S b q 16) (y := 360360 * wkn S l) (by omega) (by omega)
    constructor
    · intro hbad
      have hb2 := hbad.2
      rw [epl] at hb2
      have n2 : ¬ lg_cmp (Int64.ofNat (shN S b q 16)) (Int64.ofNat (360360 * wkn S l)) ≤ 0 := fun p => by have := hcmp.mp p; omega
      simp only [f_X10_isOneTooWeak_B2, n1, if_false, ek, e4, nl, ew, hJ q hq, e360 p6, n2, bsm]
    · intro hbad
      have n2 : lg_cmp (Int64.ofNat (shN S b q 16)) (Int64.ofNat (360360 * wkn S l)) ≤ 0 := hcmp.mpr (Classical.byContradiction (fun p => hbad ⟨hh.1, by rw [epl]; omega⟩))
      simp only [f_X10_isOneTooWeak_B2, f_X10_isOneTooWeak_j44, n1, if_false, ek, e4, nl, ew, hJ q hq, e360 p6, n2, if_true, bsm, nat_succ]
  have stepn : ∀ q, q < 16 → (¬ ∃ l, l < 40 ∧ hat S (Int32.ofNat b) (Int32.ofNat q) l ∧ V 4 q = Int32.ofNat l ∧ bad S b l) → f_X10_isOneTooWeak_B2 V J (Int32.ofNat q) = some (.inl (Int32.ofNat (q + 1))) := by
    intro q hq hno
    by_cases hl : lnp S b q = true
    · obtain ⟨l, hl2, hh, e4⟩ := (hla q hq).1 hl
      exact (look q hq l hl2 hh e4).2 (fun x => hno ⟨l, hl2, hh, e4, x⟩)
    · have n1 : ¬ (16 : Int32) ≤ Int32.ofNat q := fun p => by have := (nat_le (a := 16) (by omega) (by omega)).mp p; omega
      have ek : ckA 16 (Int32.ofNat q) = some q := ck_nat hq (by omega)
      have e4 := (hla q hq).2 hl
      have nn : (-1000000000 : Int32) < 0 := by decide
      simp only [f_X10_isOneTooWeak_B2, f_X10_isOneTooWeak_j44, n1, if_false, ek, e4, nn, if_true, bsm, nat_succ]
  unfold f_X10_isOneTooWeak
  rw [bsm]
  rcases first_of (fun q => ∃ l, l < 40 ∧ hat S (Int32.ofNat b) (Int32.ofNat q) l ∧ V 4 q = Int32.ofNat l ∧ bad S b l) 16 with hno | ⟨k, hk, ⟨l, hl, hh, e4, hbad⟩, h2⟩
  · refine Or.inr ⟨?_, fun l hl hbad => ?_⟩
    · refine lp_iter (fun i => Int32.ofNat i) 16 0 fuel (fun i _ hi => stepn i (by omega) (hno i (by omega))) ?_ (fuel_big (by omega))
      rw [Nat.zero_add]
      have n1 : (16 : Int32) ≤ Int32.ofNat 16 := by decide
      simp only [f_X10_isOneTooWeak_B2, n1, if_true, bsm]
    · have htl := hold_tl h hl hbad.1.1
      obtain ⟨ep, hp⟩ := pln_ok h hl htl
      obtain ⟨l2, hl2, hh2, e4⟩ := (hla (pln S l) hp).1 (lnp_iff.mpr ⟨l, hl, hbad.1, ep⟩)
      have : l2 = l := Classical.byContradiction (fun hne => h.2.wl4 l2 l hl2 hl hne hh2.1.1 hbad.1.1 (hh2.1.2.trans hbad.1.2.symm) (hh2.2.trans ep.symm))
      subst this
      exact hno (pln S l2) hp ⟨l2, hl2, hh2, e4, hbad⟩
  · refine Or.inl ⟨?_, l, hl, hbad⟩
    refine lp_iter (fun i => Int32.ofNat i) k 0 fuel (fun i _ hi => stepn i (by omega) (h2 i (by omega))) ?_ (fuel_big (by omega))
    rw [Nat.zero_add]
    exact (look k hk l hl hh e4).1 hbad
theorem m_weakLoop {n m : Nat} {C : AT} {M : VT} {b : Nat} (h : GG n C (M 0)) (hb : b < 12) (hm : m ≤ 40) (hN : M 0 1640 = Int32.ofNat m) : (lp (f_X12_isHeld_B29 (Int32.ofNat b) M) fuel (0 : Int32) = some 0 ∧ ∃ l, l < 40 ∧ bad (M 0) b l) ∨ (lp (f_X12_isHeld_B29 (Int32.ofNat b) M) fuel (0 : Int32) = some 1 ∧ ∀ l, l < 40 → ¬ bad (M 0) b l) := by
  have kN : ckA 1646 (1640 : Int32) = some 1640 := ck_lit (k := 1640) rfl (by omega) (by omega)
  have look : ∀ l, l < m → (bad (M 0) b l → f_X12_isHeld_B29 (Int32.ofNat b) M (Int32.ofNat l) = some (.inr 0)) ∧ (¬ bad (M 0) b l → f_X12_isHeld_B29 (Int32.ofNat b) M (Int32.ofNat l) = some (.inl (Int32.ofNat (l + 1)))) := by
    intro l hl
    have n1 : ¬ Int32.ofNat m ≤ Int32.ofNat l := fun q => by have := (nat_le (by omega) (by omega)).mp q; omega
    have eh := m_holds (M := M) (Int32.ofNat b) (l := l) (by omega)
    by_cases q : M 0 (252 + 12 * l + 3) = 1 ∧ M 0 (252 + 12 * l) = Int32.ofNat b
    · rw [if_pos q] at eh
      have htl := hold_tl h (l := l) (by omega) q.1
      obtain ⟨P, p1, p2, p3, p4, p5, p6⟩ := wkn_ok h (l := l) (by omega) htl
      have ew := m_weakest (M := M) (l := l) (by omega) p1 p2 p3
      rw [p5] at ew
      obtain ⟨ep, hp⟩ := pln_ok h (l := l) (by omega) htl
      have es := m_shareOf h (l := l) (by omega) hb hp q.2 ep
      have hsh := shN_le (a := pln (M 0) l) h hb 16 (by omega)
      have hcmp := lg_cmp64 (x := shN (M 0) b (pln (M 0) l) 16) (y := 360360 * wkn (M 0) l) (by omega) (by omega)
      constructor
      · intro hbad
        have n2 : ¬ lg_cmp (Int64.ofNat (shN (M 0) b (pln (M 0) l) 16)) (Int64.ofNat (360360 * wkn (M 0) l)) ≤ 0 := fun p => by have := hcmp.mp p; have := hbad.2; omega
        simp only [f_X12_isHeld_B29, kN, hN, n1, if_false, eh, i10, es, ew, e360 p6, n2, bsm]
      · intro hbad
        have n2 : lg_cmp (Int64.ofNat (shN (M 0) b (pln (M 0) l) 16)) (Int64.ofNat (360360 * wkn (M 0) l)) ≤ 0 := hcmp.mpr (Classical.byContradiction (fun p => hbad ⟨q, by omega⟩))
        simp only [f_X12_isHeld_B29, f_X12_isHeld_j71, kN, hN, n1, if_false, eh, i10, es, ew, e360 p6, n2, if_true, bsm, nat_succ]
    · rw [if_neg q] at eh
      refine ⟨fun hbad => absurd hbad.1 q, fun _ => ?_⟩
      simp only [f_X12_isHeld_B29, f_X12_isHeld_j71, kN, hN, n1, if_false, eh, if_true, bsm, nat_succ]
  rcases first_of (bad (M 0) b) m with hno | ⟨k, hk, h1, h2⟩
  · refine Or.inr ⟨?_, fun l hl hbad => ?_⟩
    · refine lp_iter (fun i => Int32.ofNat i) m 0 fuel (fun i _ hi => (look i (by omega)).2 (hno i (by omega))) ?_ (fuel_big (by omega))
      rw [Nat.zero_add]
      simp only [f_X12_isHeld_B29, kN, hN, Int32.le_refl, if_true, bsm]
    · have htl := hold_tl h hl hbad.1.1
      rw [hN] at htl
      exact hno l ((nat_lt (by omega) (by omega)).mp htl) hbad
  · refine Or.inl ⟨?_, k, by omega, h1⟩
    refine lp_iter (fun i => Int32.ofNat i) k 0 fuel (fun i _ hi => (look i (by omega)).2 (h2 i (by omega))) ?_ (fuel_big (by omega))
    rw [Nat.zero_add]
    exact (look k hk).1 h1
