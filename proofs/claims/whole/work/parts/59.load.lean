/-! load, balance, even -/
def tix (x : Int32) : Nat := x.toNatClampNeg - 2
theorem tix_at {x : Int32} {t : Nat} (ht : t < 80) (h : x = Int32.ofNat (2 + t)) : tix x = t := by
  unfold tix; rw [h, tn_nat (by omega)]; omega
def ldf (S : AT) (b : Nat) : Nat → UInt32
  | 0 => FP.fconst0
  | p + 1 => if S (21 * b + 5 + p) < 2 then ldf S b p else FP.fadd (ldf S b p) (burd (S (732 + 5 * tix (S (21 * b + 5 + p)))) (S (732 + 5 * tix (S (21 * b + 5 + p)) + 3)))
def l16 (S : AT) (b : Nat) : Nat → Nat
  | 0 => 0
  | p + 1 => if S (21 * b + 5 + p) < 2 then l16 S b p else l16 S b p + b16 (S (732 + 5 * tix (S (21 * b + 5 + p)))) (S (732 + 5 * tix (S (21 * b + 5 + p)) + 3)).toNatClampNeg
theorem ldf_succ {S : AT} {b p : Nat} : ldf S b (p + 1) = if S (21 * b + 5 + p) < 2 then ldf S b p else FP.fadd (ldf S b p) (burd (S (732 + 5 * tix (S (21 * b + 5 + p)))) (S (732 + 5 * tix (S (21 * b + 5 + p)) + 3))) := rfl
theorem l16_succ {S : AT} {b p : Nat} : l16 S b (p + 1) = if S (21 * b + 5 + p) < 2 then l16 S b p else l16 S b p + b16 (S (732 + 5 * tix (S (21 * b + 5 + p)))) (S (732 + 5 * tix (S (21 * b + 5 + p)) + 3)).toNatClampNeg := rfl
theorem ld_fv {n : Nat} {C S : AT} {b : Nat} (h : GG n C S) (hb : b < 12) : ∀ p, p ≤ 16 → FV (l16 S b p : Nat) (ldf S b p) ∧ l16 S b p ≤ 800000 * p := by
  intro p
  induction p with
  | zero => intro _; exact ⟨fv_zero, Nat.le_refl _⟩
  | succ p ih =>
    intro hp
    obtain ⟨i1, i2⟩ := ih (by omega)
    rw [ldf_succ, l16_succ]
    rcases low_ct h hb (p := p) (by omega) with ⟨hl, -⟩ | ⟨hl, t, ht, htl, e⟩
    · rw [if_pos hl, if_pos hl]; exact ⟨i1, by omega⟩
    · rw [if_neg hl, if_neg hl, tix_at ht e]
      obtain ⟨x, -, hx, x3⟩ := h.2.wt3 t ht htl
      rw [x3, tn_nat (by omega)]
      have hb16 : b16 (S (732 + 5 * t)) x ≤ 800000 := by unfold b16; split <;> omega
      refine ⟨?_, by omega⟩
      have := fv_add i1 (fv_burd (k := S (732 + 5 * t)) hx) (by omega)
      rw [← Int.natCast_add] at this
      exact this
theorem ldf_tail {S : AT} {b P : Nat} : ∀ k, (∀ p, P ≤ p → p < P + k → S (21 * b + 5 + p) = 0) → ldf S b (P + k) = ldf S b P := by
  intro k
  induction k with
  | zero => intro _; rfl
  | succ k ih =>
    intro h
    rw [show P + (k + 1) = P + k + 1 from rfl, ldf_succ, if_pos (by rw [h (P + k) (by omega) (by omega)]; decide)]
    exact ih (fun p h1 h2 => h p h1 (by omega))
theorem c_thingIn {n : Nat} {V : VT} {S : AT} {b p : Nat} (h : GG n (V 0) S) (hb : b < 12) (hp : p < 16) : f_X3_thingIn (Int32.ofNat b) (Int32.ofNat p) V = some (S (21 * b + 5 + p) - 2) := by
  have e : f_X7_get 48 12 16 (Int32.ofNat b) (Int32.ofNat p) V = some (S (21 * b + 5 + p)) := by rw [← h.1.rc b p hb hp]; exact gcon hb hp
  unfold f_X3_thingIn
  rw [e, bsm]
theorem sub2 {t : Nat} : Int32.ofNat (2 + t) - 2 = Int32.ofNat t := by
  rw [show 2 + t = t + 2 by omega, Int32.ofNat_add]; exact Int32.add_sub_cancel _ _
theorem low_sub {x : Int32} (h : x = 0 ∨ x = 1) : x - 2 < 0 := by
  rcases h with h | h <;> rw [h] <;> decide
theorem c_burdens {n : Nat} {V : VT} {S : AT} {b : Nat} (h : GG n (V 0) S) (hb : b < 12) : f_X10_burdens (Int32.ofNat b) V = some (ldf S b 16) := by
  unfold f_X10_burdens
  rw [bsm, bsm]
  refine lp_iter (fun i => (ldf S b i, Int32.ofNat i)) 16 0 fuel (fun i _ hi => ?_) ?_ (fuel_big (by omega))
  · have n1 : ¬ (16 : Int32) ≤ Int32.ofNat i := fun q => by have := (nat_le (a := 16) (by omega) (by omega)).mp q; omega
    have et := c_thingIn h hb (p := i) (by omega)
    rw [ldf_succ]
    rcases low_ct h hb (p := i) (by omega) with ⟨hl, ho⟩ | ⟨hl, t, ht, htl, e⟩
    · rw [if_pos hl]
      simp only [f_X10_burdens_B4, f_X10_burdens_j35, n1, if_false, et, low_sub ho, if_true, bsm, nat_succ]
    · rw [if_neg hl, tix_at ht e]
      rw [e, sub2] at et
      obtain ⟨x, -, hx, x3⟩ := h.2.wt3 t ht htl
      have eb := c_burden (V := V) (k := S (732 + 5 * t)) ht (by rw [h.1.rt3 t ht]; exact x3) hx (h.1.rt0 t ht)
      have hfv := (ld_fv h hb (i + 1) (by omega)).1
      rw [ldf_succ, if_neg hl, tix_at ht e, x3] at hfv
      have nn : ¬ Int32.ofNat t < 0 := nat_nneg (by omega)
      rw [x3]
      simp only [f_X10_burdens_B4, f_X10_burdens_j35, n1, if_false, et, nn, eb, fv_ck hfv, bsm, nat_succ]
  · rw [Nat.zero_add]
    have n1 : (16 : Int32) ≤ Int32.ofNat 16 := by decide
    simp only [f_X10_burdens_B4, n1, if_true, bsm]
theorem m_loadOf {n : Nat} {C : AT} {M : VT} {b : Nat} (h : GG n C (M 0)) (hb : b < 12) : f_X12_loadOf (Int32.ofNat b) M = some (ldf (M 0) b 16) := by
  obtain ⟨P, hP, hS⟩ := places_any h hb
  have ep := m_places (M := M) hb
  rw [hS] at ep
  have htail : ldf (M 0) b 16 = ldf (M 0) b P := by
    have := ldf_tail (S := M 0) (b := b) (P := P) (16 - P) (fun p h1 h2 => h.2.wb3 b p hb (by omega) (by rw [hS]; exact (nat_le (by omega) (by omega)).mpr h1))
    rw [show P + (16 - P) = 16 by omega] at this; exact this
  rw [htail]
  unfold f_X12_loadOf
  rw [bsm, bsm]
  refine lp_iter (fun i => (ldf (M 0) b i, Int32.ofNat i)) P 0 fuel (fun i _ hi => ?_) ?_ (fuel_big (by omega))
  · have n1 : ¬ Int32.ofNat P ≤ Int32.ofNat i := fun q => by have := (nat_le (by omega) (by omega)).mp q; omega
    have eh := m_held (M := M) hb (p := i) (by omega)
    rw [ldf_succ]
    rcases low_ct h hb (p := i) (by omega) with ⟨hl, ho⟩ | ⟨hl, t, ht, htl, e⟩
    · rw [if_pos hl]
      simp only [f_X12_loadOf_B4, f_X12_loadOf_j38, ep, n1, if_false, eh, hl, if_true, bsm, nat_succ]
    · rw [if_neg hl, tix_at ht e]
      obtain ⟨x, -, hx, x3⟩ := h.2.wt3 t ht htl
      have eb := m_burden (M := M) (k := M 0 (732 + 5 * t)) ht x3 hx rfl
      have hfv := (ld_fv h hb (i + 1) (by omega)).1
      rw [ldf_succ, if_neg hl, tix_at ht e, x3] at hfv
      rw [x3]
      rw [e] at eh
      have hl2 : ¬ Int32.ofNat (2 + t) < 2 := by rw [← e]; exact hl
      simp only [f_X12_loadOf_B4, f_X12_loadOf_j38, ep, n1, if_false, eh, hl2, sub2, eb, fv_ck hfv, bsm, nat_succ]
  · rw [Nat.zero_add]
    simp only [f_X12_loadOf_B4, ep, Int32.le_refl, if_true, bsm]
theorem ck_f2d {i : Int} {a : UInt32} (h : FV i a) : ckG (FP.f2d a) = some (FP.f2d a) := by
  have hf : Jvm.Free.Fl.Fin32 a := Jvm.Free.Fl.fin32_core.mpr (fv_fin h)
  have h2 := (Jvm.Free.Fl.f2d_fin hf).noNaN
  unfold ckG
  rw [if_pos (show FP.f2d a &&& 0x7fffffffffffffff ≤ 0x7ff0000000000000 from h2)]
theorem o_load : O_load (IG GG) := by
  intro n V J dd M v1 hn hI
  have hI2 := ig_skip gg_ok n V J dd M hn hI
  have hgg := ig_gg hI
  rcases rng 12 (by omega) v1 with ⟨b, hb, rfl⟩ | hbad
  · have er := c_rigged hgg hb
    have e2 := m_rigged (M := M) hb
    have e3 := m_isBar_yes (M := M) hb
    by_cases q : M 0 (21 * b) = 1
    · rw [if_pos q] at er e2
      have ef := ck_f2d (ld_fv hgg hb 16 (by omega)).1
      refine ⟨FP.f2d (ldf (M 0) b 16), FP.f2d (ldf (M 0) b 16), ?_, ?_, rfl, hI2⟩
      · unfold f_X11_load
        rw [er, bsm, if_neg (by decide), c_burdens hgg hb, bsm, ef, bsm]
      · unfold f_X12_load
        rw [e3, bsm, if_neg (by decide), e2, bsm, if_neg (by decide), m_loadOf hgg hb, bsm, ef, bsm]
    · rw [if_neg q] at er e2
      refine ⟨FP.dconst0, FP.dconst0, ?_, ?_, rfl, hI2⟩
      · unfold f_X11_load; rw [er, bsm, if_pos rfl]
      · unfold f_X12_load f_X12_load_j24; rw [e3, bsm, if_neg (by decide), e2, bsm, if_pos rfl]
  · refine ⟨FP.dconst0, FP.dconst0, ?_, ?_, rfl, hI2⟩
    · unfold f_X11_load; rw [c_rigged_out hbad, bsm, if_pos rfl]
    · unfold f_X12_load f_X12_load_j24; rw [m_isBar_no hbad, bsm, if_pos rfl]
/-- in balance: i sixteenths of load, k bricks -/
abbrev bal (i : Nat) (k : Int) : Prop := -16000 < (i : Int) - 16000 * k ∧ (i : Int) - 16000 * k < 16000
theorem bal_core {i : Nat} {x : UInt32} {B : Int32} {F : Option Int32} (hx : FV (i : Int) x) (hB : B.toInt.natAbs ≤ 4000) (hF : F = (ckF (FP.fmul (1148846080 : UInt32) (FP.i2f B))).bind fun w3 => (ckF (FP.fsub x w3)).bind fun w4 => if (Op.cmpValue (FP.fcmp w4 (3296329728 : UInt32)) .l) ≤ 0 then (some 0) else (if 0 ≤ (Op.cmpValue (FP.fcmp w4 (1148846080 : UInt32)) .g) then (some 0) else (some ((1 : Int32))))) : F = some (if bal i B.toInt then 1 else 0) := by
  have h1 := fv_brick hB
  obtain ⟨h2, h3, h4⟩ := fv_sub hx h1
  rw [hF, fv_ck h1, bsm, ck_notnan h2, bsm]
  by_cases a : (i : Int) - 16000 * B.toInt ≤ -16000
  · rw [if_pos (h3.mpr a), if_neg (fun q => by have := q.1; omega)]
  · rw [if_neg (fun q => a (h3.mp q))]
    by_cases c : 16000 ≤ (i : Int) - 16000 * B.toInt
    · rw [if_pos (h4.mpr c), if_neg (fun q => by have := q.2; omega)]
    · rw [if_neg (fun q => c (h4.mp q)), if_pos ⟨by omega, by omega⟩]
theorem c_balanced {n : Nat} {V : VT} {S : AT} {b B : Nat} (h : GG n (V 0) S) (hb : b < 12) (hB : S (21 * b + 4) = Int32.ofNat B) (hB2 : B ≤ 2000) : f_X10_isBalanced (Int32.ofNat b) V = some (if bal (l16 S b 16) B then 1 else 0) := by
  have g3 : f_X7_get 0 12 4 (Int32.ofNat b) 3 V = some (Int32.ofNat B) := by rw [← hB, ← h.1.rb3 b hb]; exact gbar (c := 3) hb (by omega)
  have e := ti_nat (n := B) (by omega)
  have := bal_core (B := Int32.ofNat B) (F := f_X10_isBalanced (Int32.ofNat b) V) (ld_fv h hb 16 (by omega)).1 (by rw [e]; omega) (by
    unfold f_X10_isBalanced f_X10_isBalanced_j41
    rw [c_burdens h hb, bsm, g3, bsm])
  rw [e] at this; exact this
theorem m_balanced {n : Nat} {C : AT} {M : VT} {b : Nat} {B : Int32} (h : GG n C (M 0)) (hb : b < 12) (hB : B.toInt.natAbs ≤ 4000) : f_X12_isBalanced (Int32.ofNat b) B M = some (if bal (l16 (M 0) b 16) B.toInt then 1 else 0) := by
  refine bal_core (ld_fv h hb 16 (by omega)).1 hB ?_
  unfold f_X12_isBalanced f_X12_isBalanced_j30
  rw [m_loadOf h hb, bsm]
/-- the bricks wanted -/
def evn (i B : Nat) : Int32 := if bal i B then 0 else if B ≤ i / 16000 then Int32.ofNat (i / 16000) - Int32.ofNat B else if 16000 * (i / 16000) < i then Int32.ofNat (i / 16000 + 1) - Int32.ofNat B else Int32.ofNat (i / 16000) - Int32.ofNat B
theorem c_wanted {n : Nat} {V : VT} {S : AT} {b B : Nat} (h : GG n (V 0) S) (hb : b < 12) (hB : S (21 * b + 4) = Int32.ofNat B) (hB2 : B ≤ 2000) : f_X10_bricksWanted (Int32.ofNat b) V = some (evn (l16 S b 16) B) := by
  have g3 : f_X7_get 0 12 4 (Int32.ofNat b) 3 V = some (Int32.ofNat B) := by rw [← hB, ← h.1.rb3 b hb]; exact gbar (c := 3) hb (by omega)
  obtain ⟨hfv, hle⟩ := ld_fv h hb 16 (by omega)
  have eb := c_balanced h hb hB hB2
  have ek : ckE (1000 : Int32) = some () := by unfold ckE; rw [if_neg (by decide)]
  have ef := fv_f2i hfv (by omega)
  generalize l16 S b 16 = i at hfv hle eb ef
  have ed : Int32.ofNat (i / 16) / 1000 = Int32.ofNat (i / 16000) := by
    rw [show Int32.ofNat (i / 16) / 1000 = Int32.ofNat (i / 16 / 1000) from nat_div (d := 1000) (by omega) (by omega), Nat.div_div_eq_div_mul]
  unfold f_X10_bricksWanted f_X10_bricksWanted_j57 evn
  rw [eb, bsm]
  by_cases q : bal i B
  · rw [if_pos q, if_pos q, if_neg (by decide)]
  · rw [if_neg q, if_neg q, if_pos rfl, c_burdens h hb, bsm, g3, bsm, ek, bsm, bsm, ef, ed]
    by_cases q2 : B ≤ i / 16000
    · rw [if_pos q2, if_pos ((nat_le (by omega) (by omega)).mpr q2)]
    · rw [if_neg q2, if_neg (fun p => q2 ((nat_le (by omega) (by omega)).mp p))]
      have e5 := ti_nat (n := i / 16000) (by omega)
      have hw := fv_brick (B := Int32.ofNat (i / 16000)) (by rw [e5]; omega)
      rw [e5] at hw
      rw [fv_ck hw, bsm, fv_cmp hfv hw]
      by_cases q3 : 16000 * (i / 16000) < i
      · rw [if_pos q3, if_neg (fun p => by have := cmpv_le.mp p; omega), bsm, nat_succ]
      · rw [if_neg q3, if_pos (cmpv_le.mpr (by omega))]
theorem m_even {n : Nat} {C : AT} {M : VT} {b B : Nat} (h : GG n C (M 0)) (hb : b < 12) (hB : M 0 (21 * b + 4) = Int32.ofNat B) (hB2 : B ≤ 2000) : f_X12_evenOf (Int32.ofNat b) M = some (evn (l16 (M 0) b 16) B) := by
  have ek : ckA 1646 (Int32.ofNat (21 * b) + 4) = some (21 * b + 4) := ck_lit (Int32.ofNat_add (21 * b) 4).symm (by omega) (by omega)
  have hle := (ld_fv h hb 16 (by omega)).2
  have ti : ∀ k : Nat, k ≤ 2000 → (Int32.ofNat B + Int32.ofNat k).toInt = (B : Int) + k ∧ (Int32.ofNat B - Int32.ofNat k).toInt = (B : Int) - k := by
    intro k hk
    have e1 := ti_nat (n := B) (by omega)
    have e2 := ti_nat (n := k) (by omega)
    exact ⟨by rw [i32_add (by omega) (by omega), e1, e2], by rw [i32_sub (by omega) (by omega), e1, e2]⟩
  have bp : ∀ k : Nat, k ≤ 2000 → f_X12_isBalanced (Int32.ofNat b) (Int32.ofNat B + Int32.ofNat k) M = some (if bal (l16 (M 0) b 16) ((B : Int) + k) then 1 else 0) := by
    intro k hk
    have := m_balanced h hb (B := Int32.ofNat B + Int32.ofNat k) (by rw [(ti k hk).1]; omega)
    rw [(ti k hk).1] at this; exact this
  have bm : ∀ k : Nat, k ≤ 2000 → f_X12_isBalanced (Int32.ofNat b) (Int32.ofNat B - Int32.ofNat k) M = some (if bal (l16 (M 0) b 16) ((B : Int) - k) then 1 else 0) := by
    intro k hk
    have := m_balanced h hb (B := Int32.ofNat B - Int32.ofNat k) (by rw [(ti k hk).2]; omega)
    rw [(ti k hk).2] at this; exact this
  unfold f_X12_evenOf
  rw [m_bar0, bsm, ek, bsm, bsm, bsm, hB]
  generalize l16 (M 0) b 16 = i at hle bp bm
  have step : ∀ k : Nat, k ≤ 2000 → ¬ bal i ((B : Int) + k) → ¬ bal i ((B : Int) - k) → f_X12_evenOf_B14 (Int32.ofNat b) (Int32.ofNat B) M (Int32.ofNat k) = some (.inl (Int32.ofNat (k + 1))) := by
    intro k hk h1 h2
    have n1 : ¬ (2000 : Int32) < Int32.ofNat k := fun q => by have := (nat_lt (a := 2000) (by omega) (by omega)).mp q; omega
    have e1 := bp k hk
    have e2 := bm k hk
    rw [if_neg h1] at e1
    rw [if_neg h2] at e2
    simp only [f_X12_evenOf_B14, n1, if_false, e1, e2, if_true, bsm, nat_succ]
  have finp : ∀ k : Nat, k ≤ 2000 → bal i ((B : Int) + k) → f_X12_evenOf_B14 (Int32.ofNat b) (Int32.ofNat B) M (Int32.ofNat k) = some (.inr (Int32.ofNat k)) := by
    intro k hk h1
    have n1 : ¬ (2000 : Int32) < Int32.ofNat k := fun q => by have := (nat_lt (a := 2000) (by omega) (by omega)).mp q; omega
    have e1 := bp k hk
    rw [if_pos h1] at e1
    simp only [f_X12_evenOf_B14, n1, if_false, e1, i10, bsm]
  have finm : ∀ k : Nat, k ≤ 2000 → ¬ bal i ((B : Int) + k) → bal i ((B : Int) - k) → f_X12_evenOf_B14 (Int32.ofNat b) (Int32.ofNat B) M (Int32.ofNat k) = some (.inr (-Int32.ofNat k)) := by
    intro k hk h1 h2
    have n1 : ¬ (2000 : Int32) < Int32.ofNat k := fun q => by have := (nat_lt (a := 2000) (by omega) (by omega)).mp q; omega
    have e1 := bp k hk
    have e2 := bm k hk
    rw [if_neg h1] at e1
    rw [if_pos h2] at e2
    simp only [f_X12_evenOf_B14, n1, if_false, e1, e2, i10, if_true, bsm]
  have hdiv : 16000 * (i / 16000) ≤ i ∧ i < 16000 * (i / 16000) + 16000 := by omega
  have down : ∀ T : Nat, T < B → bal i T → (∀ k : Int, T < k → ¬ bal i k) → lp (f_X12_evenOf_B14 (Int32.ofNat b) (Int32.ofNat B) M) fuel (0 : Int32) = some (Int32.ofNat T - Int32.ofNat B) := by
    intro T hT hb1 hb2
    have e : Int32.ofNat T - Int32.ofNat B = -Int32.ofNat (B - T) := by
      rw [Int32.ofNat_sub _ _ (by omega), Int32.neg_sub]
    rw [e]
    refine lp_iter (fun k => Int32.ofNat k) (B - T) 0 fuel (fun k _ hk => step k (by omega) (hb2 _ (by omega)) (hb2 _ (by omega))) ?_ (fuel_big (by omega))
    rw [Nat.zero_add]
    refine finm (B - T) (by omega) (hb2 _ (by omega)) ?_
    rw [show (B : Int) - ((B - T : Nat) : Int) = (T : Int) by omega]
    exact hb1
  unfold evn
  by_cases q : bal i B
  · rw [if_pos q]
    refine lp_iter (fun k => Int32.ofNat k) 0 0 fuel (fun k _ hk => by omega) ?_ (fuel_big (by omega))
    refine finp 0 (by omega) ?_
    rw [show (B : Int) + ((0 : Nat) : Int) = (B : Int) by omega]; exact q
  · rw [if_neg q]
    by_cases q2 : B ≤ i / 16000
    · rw [if_pos q2, ← Int32.ofNat_sub _ _ q2]
      have hlt : B < i / 16000 := by
        refine Nat.lt_of_le_of_ne q2 (fun e => q ?_)
        constructor <;> omega
      refine lp_iter (fun k => Int32.ofNat k) (i / 16000 - B) 0 fuel (fun k _ hk => step k (by omega) (fun p => by have := p.2; omega) (fun p => by have := p.2; omega)) ?_ (fuel_big (by omega))
      rw [Nat.zero_add]
      refine finp (i / 16000 - B) (by omega) ?_
      constructor <;> omega
    · rw [if_neg q2]
      by_cases q3 : 16000 * (i / 16000) < i
      · rw [if_pos q3]
        refine down (i / 16000 + 1) ?_ (by constructor <;> omega) (fun k hk p => by have := p.1; omega)
        refine Nat.lt_of_le_of_ne (by omega) (fun e => q ?_)
        constructor <;> omega
      · rw [if_neg q3]
        exact down (i / 16000) (by omega) (by constructor <;> omega) (fun k hk p => by have := p.1; omega)
theorem o_even : O_even (IG GG) := by
  intro n V J dd M v1 hn hI
  have hI2 := ig_skip gg_ok n V J dd M hn hI
  have hgg := ig_gg hI
  rcases rng 12 (by omega) v1 with ⟨b, hb, rfl⟩ | hbad
  · have er := c_rigged hgg hb
    have e2 := m_rigged (M := M) hb
    have e3 := m_isBar_yes (M := M) hb
    by_cases q : M 0 (21 * b) = 1
    · rw [if_pos q] at er e2
      obtain ⟨B, -, hB2, hB⟩ := hgg.2.wb4k b hb
      refine ⟨evn (l16 (M 0) b 16) B, evn (l16 (M 0) b 16) B, ?_, ?_, rfl, hI2⟩
      · unfold f_X11_even
        rw [er, bsm, if_neg (by decide), c_wanted hgg hb hB hB2, bsm]
      · unfold f_X12_even
        rw [e3, bsm, if_neg (by decide), e2, bsm, if_neg (by decide), m_even hgg hb hB hB2, bsm]
    · rw [if_neg q] at er e2
      refine ⟨-1000000000, -1000000000, ?_, ?_, rfl, hI2⟩
      · unfold f_X11_even; rw [er, bsm, if_pos rfl]
      · unfold f_X12_even f_X12_even_j23; rw [e3, bsm, if_neg (by decide), e2, bsm, if_pos rfl]
  · refine ⟨-1000000000, -1000000000, ?_, ?_, rfl, hI2⟩
    · unfold f_X11_even; rw [c_rigged_out hbad, bsm, if_pos rfl]
    · unfold f_X12_even f_X12_even_j23; rw [m_isBar_no hbad, bsm, if_pos rfl]
