/-! floats: numbers in units of a power of two -/
def Wk (k : Nat) (i : Int) : FP.Core.Datum → Prop
  | .fin s c q => FP.Core.Whole i (.fin s c (q + (k : Int)))
  | _ => False
theorem wk0 {i : Int} {d : FP.Core.Datum} (h : FP.Core.Whole i d) : Wk 0 i d := by
  cases d with
  | nan => exact h.elim
  | inf => exact h.elim
  | fin s c q =>
    show FP.Core.Whole i (.fin s c (q + ((0 : Nat) : Int)))
    rw [show q + ((0 : Nat) : Int) = q by omega]; exact h
theorem wk_sum {k : Nat} {i j : Int} {x y : FP.Core.Datum} (hx : Wk k i x) (hy : Wk k j y) : Wk k (i + j) (FP.Core.exactSum x y) := by
  cases x with
  | nan => exact hx.elim
  | inf => exact hx.elim
  | fin s c q =>
  cases y with
  | nan => exact hy.elim
  | inf => exact hy.elim
  | fin t d r =>
    have h := FP.Core.whole_sum (show FP.Core.Whole i (.fin s c (q + (k : Int))) from hx) (show FP.Core.Whole j (.fin t d (r + (k : Int))) from hy)
    have em : min (q + (k : Int)) (r + (k : Int)) = min q r + (k : Int) := by omega
    have e1 : FP.Core.sumUnits s c (q + (k : Int)) t d (r + (k : Int)) (min q r + (k : Int)) = FP.Core.sumUnits s c q t d r (min q r) := by
      unfold FP.Core.sumUnits FP.Core.inUnits
      rw [show q + (k : Int) - (min q r + (k : Int)) = q - min q r by omega, show r + (k : Int) - (min q r + (k : Int)) = r - min q r by omega]
    simp only [FP.Core.exactSum] at h ⊢
    rw [em, e1] at h
    exact h
theorem wk_neg {k : Nat} {i : Int} {x : FP.Core.Datum} (hx : Wk k i x) : Wk k (-i) (FP.Core.negate x) := by
  cases x with
  | nan => exact hx.elim
  | inf => exact hx.elim
  | fin s c q => exact FP.Core.whole_negate (show FP.Core.Whole i (.fin s c (q + (k : Int))) from hx)
theorem wk_prod {k l : Nat} {i j : Int} {x y : FP.Core.Datum} (hx : Wk k i x) (hy : Wk l j y) : Wk (k + l) (i * j) (FP.Core.exactProduct x y) := by
  cases x with
  | nan => exact hx.elim
  | inf => exact hx.elim
  | fin s c q =>
  cases y with
  | nan => exact hy.elim
  | inf => exact hy.elim
  | fin t d r =>
    have h := FP.Core.whole_product (show FP.Core.Whole i (.fin s c (q + (k : Int))) from hx) (show FP.Core.Whole j (.fin t d (r + (l : Int))) from hy)
    show FP.Core.Whole (i * j) (.fin (s != t) (c * d) (q + r + ((k + l : Nat) : Int)))
    rw [show q + r + ((k + l : Nat) : Int) = q + (k : Int) + (r + (l : Int)) by omega]
    exact h
theorem whole_pow (m : Nat) : FP.Core.Whole ((2 ^ m : Nat) : Int) (.fin false 1 (m : Int)) := by
  show FP.Core.signed false (1 * 2 ^ ((m : Int)).toNat) = ((2 ^ m : Nat) : Int) * ((2 ^ (-(m : Int)).toNat : Nat) : Int)
  rw [show ((m : Int)).toNat = m by omega, show (-(m : Int)).toNat = 0 by omega]
  simp [FP.Core.signed]
theorem wk_up {k : Nat} (m : Nat) {i : Int} {x : FP.Core.Datum} (hx : Wk k i x) : Wk (k + m) (i * ((2 ^ m : Nat) : Int)) x := by
  cases x with
  | nan => exact hx.elim
  | inf => exact hx.elim
  | fin s c q =>
    have h := FP.Core.whole_product (show FP.Core.Whole i (.fin s c (q + (k : Int))) from hx) (whole_pow m)
    have e : FP.Core.exactProduct (.fin s c (q + (k : Int))) (.fin false 1 (m : Int)) = .fin s c (q + (k : Int) + (m : Int)) := by
      simp [FP.Core.exactProduct]
    rw [e] at h
    show FP.Core.Whole _ (.fin s c (q + ((k + m : Nat) : Int)))
    rw [show q + ((k + m : Nat) : Int) = q + (k : Int) + (m : Int) by omega]
    exact h
theorem q_min : FP.Core.b32.qmin = -149 := by decide
theorem q_max : FP.Core.b32.qmax = 104 := by decide
theorem b_p : FP.Core.b32.p = 24 := rfl
theorem wk_round {k : Nat} {i : Int} {d : FP.Core.Datum} (hk : k ≤ 10) (hi : i.natAbs ≤ 2 ^ 24) (h : Wk k i d) : Wk k i (FP.Core.round FP.Core.b32 d) := by
  cases d with
  | nan => exact h.elim
  | inf => exact h.elim
  | fin s c q =>
    have h : FP.Core.Whole i (.fin s c (q + (k : Int))) := h
    have hn := FP.Core.whole_natAbs h
    have hr : FP.Core.round FP.Core.b32 (.fin s c q) = FP.Core.roundRatio FP.Core.b32 s i.natAbs 1 (-(k : Int)) := by
      refine FP.Core.roundRatio_congr (by decide) (by decide) ?_
      rw [show (q - -(k : Int)).toNat = (q + (k : Int)).toNat by omega, show (-(k : Int) - q).toNat = (-(q + (k : Int))).toNat by omega, Nat.mul_one, Nat.mul_one]
      exact hn
    rw [hr]
    by_cases h0 : i = 0
    · rw [h0]
      unfold FP.Core.roundRatio
      rw [if_pos (show (0 : Int).natAbs = 0 from rfl)]
      show FP.Core.signed s (0 * _) = 0 * _
      rw [Nat.zero_mul, Int.zero_mul]
      exact FP.Core.signed_zero s
    · obtain ⟨c2, q2, hfit, hv⟩ := FP.Core.natFit FP.Core.good_b32 FP.Core.wide_b32 s (n := i.natAbs) (by rw [b_p]; exact hi)
      have hc2 : c2 < 2 ^ 24 := hfit.1
      have hq : -100 ≤ q2 := by
        refine Classical.byContradiction (fun hlt => ?_)
        have h1 : 2 ^ 24 ≤ 2 ^ (0 - q2).toNat := Nat.pow_le_pow_right (by decide) (by omega)
        have h2 : 1 * 2 ^ 24 ≤ i.natAbs * 2 ^ (0 - q2).toNat := Nat.mul_le_mul (by omega) h1
        rw [hv, show (q2 - 0).toNat = 0 by omega] at h2
        simp only [Nat.mul_one, Nat.pow_zero] at h2
        omega
      have hf2 : FP.Core.fits FP.Core.b32 (.fin s c2 (q2 - (k : Int))) := by
        have a1 := hfit.2.1
        have a2 := hfit.2.2.1
        have a3 := hfit.2.2.2
        rw [q_min] at a1 a3
        rw [q_max] at a2
        refine ⟨hfit.1, ?_, ?_, ?_⟩
        · rw [q_min]; omega
        · rw [q_max]; omega
        · exact Or.inr (a3.resolve_left (by omega))
      rw [FP.Core.roundRatio_exact (B := 1) FP.Core.good_b32 (by decide) hf2 (by
        rw [show (-(k : Int) - (q2 - (k : Int))).toNat = (0 - q2).toNat by omega, show (q2 - (k : Int) - -(k : Int)).toNat = (q2 - 0).toNat by omega]; exact hv)]
      show FP.Core.Whole i (.fin s c2 (q2 - (k : Int) + (k : Int)))
      rw [show q2 - (k : Int) + (k : Int) = q2 by omega]
      rw [show (0 - q2).toNat = (-q2).toNat by omega, show (q2 - 0).toNat = q2.toNat by omega, Nat.mul_one] at hv
      show FP.Core.signed s (c2 * 2 ^ q2.toNat) = i * _
      rw [← hv, FP.Core.signed_mul]
      congr 1
      rw [FP.Core.whole_sign h h0]
      unfold FP.Core.signed
      by_cases hneg : i < 0 <;> simp [hneg] <;> omega
theorem order_wk {k : Nat} {i j : Int} {x y : FP.Core.Datum} (hx : Wk k i x) (hy : Wk k j y) : FP.Core.order x y = some (compare i j) := by
  cases x with
  | nan => exact hx.elim
  | inf => exact hx.elim
  | fin s c q =>
  cases y with
  | nan => exact hy.elim
  | inf => exact hy.elim
  | fin t d r =>
    have h := FP.Core.order_whole (show FP.Core.Whole i (.fin s c (q + (k : Int))) from hx) (show FP.Core.Whole j (.fin t d (r + (k : Int))) from hy)
    have em : min (q + (k : Int)) (r + (k : Int)) = min q r + (k : Int) := by omega
    simp only [FP.Core.order] at h ⊢
    unfold FP.Core.inUnits at h ⊢
    rw [em, show q + (k : Int) - (min q r + (k : Int)) = q - min q r by omega, show r + (k : Int) - (min q r + (k : Int)) = r - min q r by omega] at h
    exact h
/-- a float that is i sixteenths -/
def FV (i : Int) (a : UInt32) : Prop := Wk 4 i (FP.Core.val32 a)
theorem wk_nan {k : Nat} {i : Int} {d : FP.Core.Datum} (h : Wk k i d) : d ≠ .nan := by
  intro e; rw [e] at h; exact h
theorem fv_fin {i : Int} {a : UInt32} (h : FV i a) : FP.Core.FFin a := by
  unfold FV at h
  cases hd : FP.Core.val32 a with
  | nan => rw [hd] at h; exact h.elim
  | inf => rw [hd] at h; exact h.elim
  | fin s c q => exact ⟨s, c, q, hd⟩
theorem ck_notnan {a : UInt32} (h : FP.Core.val32 a ≠ .nan) : ckF a = some a := by
  unfold ckF
  rw [if_pos (show a &&& 0x7fffffff ≤ 0x7f800000 from Jvm.Free.Fl.val32_no.mpr h)]
theorem fv_ck {i : Int} {a : UInt32} (h : FV i a) : ckF a = some a := ck_notnan (wk_nan h)
theorem fv_add {i j : Int} {a b : UInt32} (ha : FV i a) (hb : FV j b) (h : (i + j).natAbs ≤ 2 ^ 24) : FV (i + j) (FP.fadd a b) := by
  unfold FV
  rw [FP.Core.val32_fadd]
  exact wk_round (by omega) h (wk_sum ha hb)
theorem fv_zero : FV 0 FP.fconst0 := by
  have e : FP.Core.val32 FP.fconst0 = .fin false 0 (-149) := by decide +kernel
  unfold FV
  rw [e]
  show FP.Core.signed false (0 * _) = 0 * _
  rw [Nat.zero_mul, Int.zero_mul]; rfl
theorem w_125 : Wk 3 1 (FP.Core.val32 1040187392) := by
  have e : FP.Core.val32 1040187392 = .fin false 8388608 (-26) := by decide +kernel
  rw [e]
  show FP.Core.signed false (8388608 * 2 ^ (-26 + ((3 : Nat) : Int)).toNat) = 1 * ((2 ^ (-(-26 + ((3 : Nat) : Int))).toNat : Nat) : Int)
  decide +kernel
theorem w_05 : Wk 1 1 (FP.Core.val32 1056964608) := by
  have e : FP.Core.val32 1056964608 = .fin false 8388608 (-24) := by decide +kernel
  rw [e]
  show FP.Core.signed false (8388608 * 2 ^ (-24 + ((1 : Nat) : Int)).toNat) = 1 * ((2 ^ (-(-24 + ((1 : Nat) : Int))).toNat : Nat) : Int)
  decide +kernel
theorem v_1000 : FP.Core.val32 1148846080 = .fin false 16384000 (-14) := by decide +kernel
theorem v_n1000 : FP.Core.val32 3296329728 = .fin true 16384000 (-14) := by decide +kernel
theorem f_1000 : FV 16000 1148846080 := by
  unfold FV
  rw [v_1000]
  show FP.Core.signed false (16384000 * 2 ^ (-14 + ((4 : Nat) : Int)).toNat) = 16000 * ((2 ^ (-(-14 + ((4 : Nat) : Int))).toNat : Nat) : Int)
  decide +kernel
theorem f_n1000 : FV (-16000) 3296329728 := by
  unfold FV
  rw [v_n1000]
  show FP.Core.signed true (16384000 * 2 ^ (-14 + ((4 : Nat) : Int)).toNat) = (-16000) * ((2 ^ (-(-14 + ((4 : Nat) : Int))).toNat : Nat) : Int)
  decide +kernel
theorem w_1000 : FP.Core.FInt 1000 1148846080 := by
  unfold FP.Core.FInt
  rw [v_1000]
  show FP.Core.signed false (16384000 * 2 ^ (-14 : Int).toNat) = 1000 * ((2 ^ (-(-14 : Int)).toNat : Nat) : Int)
  decide +kernel
/-- what a thing weighs, in sixteenths -/
def b16 (k : Int32) (e : Nat) : Nat := if k = 4 then e else 2 * e
theorem fv_half {e : Nat} (he : e ≤ 400000) : Wk 3 (e : Int) (FP.Core.val32 (FP.fmul (FP.i2f (Int32.ofNat e)) 1040187392)) := by
  have h1 : FP.Core.FInt (Int32.ofNat e).toInt (FP.i2f (Int32.ofNat e)) := FP.Core.i2f_int (by rw [ti_nat (by omega)]; omega)
  rw [ti_nat (by omega)] at h1
  have h2 := wk_prod (wk0 h1) w_125
  rw [Int.mul_one, Nat.zero_add] at h2
  rw [FP.Core.val32_fmul]
  exact wk_round (by omega) (by omega) h2
theorem fv_burd {k : Int32} {e : Nat} (he : e ≤ 400000) : FV (b16 k e : Nat) (burd k (Int32.ofNat e)) := by
  have h := fv_half he
  unfold burd b16
  by_cases q : k = 4
  · rw [if_pos q, if_pos q]
    unfold FV
    rw [FP.Core.val32_fmul]
    have h2 := wk_prod h w_05
    rw [Int.mul_one] at h2
    exact wk_round (by omega) (by omega) h2
  · rw [if_neg q, if_neg q]
    have h2 := wk_up 1 h
    unfold FV
    rw [show ((2 * e : Nat) : Int) = (e : Int) * ((2 ^ 1 : Nat) : Int) by omega]
    exact h2
theorem wk_z {v : Int} {s : Bool} {c : Nat} {q : Int} (h : Wk 4 v (.fin s c q)) (hq : -149 ≤ q) : FP.Core.signed s (FP.Core.inUnits c q FP.Core.b32.qmin) = v * ((2 ^ 145 : Nat) : Int) := by
  have hu := FP.Core.whole_units (show FP.Core.Whole v (.fin s c (q + ((4 : Nat) : Int))) from h) (e := -145) (by omega)
  have e1 : FP.Core.inUnits c (q + ((4 : Nat) : Int)) (-145) = FP.Core.inUnits c q FP.Core.b32.qmin := by
    unfold FP.Core.inUnits
    rw [q_min, show (q + ((4 : Nat) : Int) - -145).toNat = (q - -149).toNat by omega]
  rw [e1, show (-145 : Int).toNat = 0 from rfl, show (-(-145 : Int)).toNat = 145 from rfl, Nat.pow_zero] at hu
  rw [← hu]; exact (Int.mul_one _).symm
theorem one_16 : FP.Core.one32 = 16 * 2 ^ 145 := by decide +kernel
theorem zm_eq {s : Bool} {c : Nat} {q : Int} : FP.Core.signed (FP.Core.sgn (.fin s c q)) (FP.Core.zmag FP.Core.b32 (.fin s c q) / FP.Core.one32) = FP.Core.signed s (FP.Core.inUnits c q FP.Core.b32.qmin / FP.Core.one32) := by
  simp only [FP.Core.sgn, FP.Core.zmag]
theorem f2i_aux {s : Bool} {u v P : Nat} (hP : 0 < P) (e2 : FP.Core.signed s u = (v : Int) * (P : Int)) : FP.Core.signed s (u / (16 * P)) = ((v / 16 : Nat) : Int) := by
  have e3 : u = v * P := by
    have := congrArg Int.natAbs e2
    rw [FP.Core.natAbs_signed, Int.natAbs_mul, Int.natAbs_natCast, Int.natAbs_natCast] at this
    exact this
  rw [e3, Nat.mul_div_mul_right v 16 hP]
  by_cases h0 : v = 0
  · rw [h0]; exact FP.Core.signed_zero s
  · have hs : s = false := by
      cases s with
      | false => rfl
      | true =>
        have h3 : 0 < v * P := Nat.mul_pos (by omega) hP
        rw [e3, ← Int.natCast_mul] at e2
        generalize v * P = w at e2 h3
        have e5 : -(w : Int) = (w : Int) := e2
        omega
    rw [hs]; rfl
/-- the grams -/
theorem fv_f2i {v : Nat} {a : UInt32} (h : FV (v : Int) a) (hv : v ≤ 16777216) : FP.f2i a = Int32.ofNat (v / 16) := by
  obtain ⟨s, c, q, hd⟩ := fv_fin h
  unfold FV at h
  rw [hd] at h
  have hfit := FP.Core.val32_fits a
  rw [hd] at hfit
  have hq : -149 ≤ q := by have := hfit.2.1; rw [q_min] at this; exact this
  have e4 := f2i_aux (Nat.two_pow_pos 145) (wk_z h hq)
  have hval := FP.Core.f2i_val (a := a) (by rw [hd]; exact fun e => FP.Core.Datum.noConfusion e)
  rw [hd, zm_eq, one_16, e4] at hval
  have h3 : (FP.Core.f2i a).toInt = ((v / 16 : Nat) : Int) := by rw [hval]; omega
  rw [← Int32.toInt_inj, ti_nat (by omega)]
  exact h3
/-! balance -/
theorem cmpv_le {a b : Int} {op : ClassFile.CmpOp} : (Op.cmpValue (some (compare a b)) op ≤ 0) ↔ a ≤ b := by
  rcases Int.lt_trichotomy a b with h | h | h
  · have e : compare a b = .lt := by simp [compare, compareOfLessAndEq, h]
    rw [e]
    exact ⟨fun _ => by omega, fun _ => show (-1 : Int32) ≤ 0 by decide⟩
  · have e : compare a b = .eq := by simp [compare, compareOfLessAndEq, h]
    rw [e]
    exact ⟨fun _ => by omega, fun _ => show (0 : Int32) ≤ 0 by decide⟩
  · have e : compare a b = .gt := by simp [compare, compareOfLessAndEq, show ¬ a < b by omega, show ¬ a = b by omega]
    rw [e]
    exact ⟨fun q => absurd (show (1 : Int32) ≤ 0 from q) (by decide), fun q => by omega⟩
theorem cmpv_ge {a b : Int} {op : ClassFile.CmpOp} : (0 ≤ Op.cmpValue (some (compare a b)) op) ↔ b ≤ a := by
  rcases Int.lt_trichotomy a b with h | h | h
  · have e : compare a b = .lt := by simp [compare, compareOfLessAndEq, h]
    rw [e]
    exact ⟨fun q => absurd (show (0 : Int32) ≤ -1 from q) (by decide), fun q => by omega⟩
  · have e : compare a b = .eq := by simp [compare, compareOfLessAndEq, h]
    rw [e]
    exact ⟨fun _ => by omega, fun _ => show (0 : Int32) ≤ 0 by decide⟩
  · have e : compare a b = .gt := by simp [compare, compareOfLessAndEq, show ¬ a < b by omega, show ¬ a = b by omega]
    rw [e]
    exact ⟨fun _ => by omega, fun _ => show (0 : Int32) ≤ 1 by decide⟩
theorem fv_cmp {i j : Int} {a b : UInt32} (ha : FV i a) (hb : FV j b) : FP.fcmp a b = some (compare i j) := order_wk ha hb
theorem z_1000 : FP.Core.zval FP.Core.b32 (FP.Core.val32 1148846080) = 16000 * ((2 ^ 145 : Nat) : Int) := by decide +kernel
theorem z_n1000 : FP.Core.zval FP.Core.b32 (FP.Core.val32 3296329728) = -16000 * ((2 ^ 145 : Nat) : Int) := by decide +kernel
theorem fv_brick {B : Int32} (hB : B.toInt.natAbs ≤ 4000) : FV (16000 * B.toInt) (FP.fmul 1148846080 (FP.i2f B)) := by
  have h1 : FP.Core.FInt B.toInt (FP.i2f B) := FP.Core.i2f_int (by omega)
  have h2 : FP.Core.FInt (1000 * B.toInt) (FP.fmul 1148846080 (FP.i2f B)) := FP.Core.fmul_int w_1000 h1 (by omega)
  have h3 := wk_up 4 (wk0 h2)
  unfold FV
  rw [show 16000 * B.toInt = 1000 * B.toInt * ((2 ^ 4 : Nat) : Int) by omega]
  exact h3
theorem fv_sub {i j : Int} {a b : UInt32} (ha : FV i a) (hb : FV j b) : FP.Core.val32 (FP.fsub a b) ≠ .nan ∧ ((Op.cmpValue (FP.fcmp (FP.fsub a b) 3296329728) .l ≤ 0) ↔ i - j ≤ -16000) ∧ ((0 ≤ Op.cmpValue (FP.fcmp (FP.fsub a b) 1148846080) .g) ↔ 16000 ≤ i - j) := by
  have hd := wk_sum ha (wk_neg hb)
  rw [← Int.sub_eq_add_neg] at hd
  have hv : FP.Core.val32 (FP.fsub a b) = FP.Core.round FP.Core.b32 (FP.Core.exactSum (FP.Core.val32 a) (FP.Core.negate (FP.Core.val32 b))) := FP.Core.val32_fsub a b
  by_cases hs : (i - j).natAbs ≤ 2 ^ 24
  · have hr : FV (i - j) (FP.fsub a b) := by
      unfold FV; rw [hv]; exact wk_round (by omega) hs hd
    refine ⟨wk_nan hr, ?_, ?_⟩
    · rw [fv_cmp hr f_n1000]; exact cmpv_le
    · rw [fv_cmp hr f_1000]; exact cmpv_ge
  · obtain ⟨s1, c1, q1, h1⟩ := fv_fin ha
    obtain ⟨s2, c2, q2, h2⟩ := fv_fin hb
    have f1 := FP.Core.val32_fits a
    have f2 := FP.Core.val32_fits b
    rw [h1] at f1
    rw [h2] at f2
    have g1 := f1.2.1
    have g2 := f2.2.1
    rw [q_min] at g1 g2
    rw [h1, h2] at hv hd
    simp only [FP.Core.negate, FP.Core.exactSum] at hv hd
    have hq : -149 ≤ min q1 q2 := by omega
    generalize FP.Core.sumSign s1 (!s2) (FP.Core.sumUnits s1 c1 q1 (!s2) c2 q2 (min q1 q2)) = s at hv hd
    generalize (FP.Core.sumUnits s1 c1 q1 (!s2) c2 q2 (min q1 q2)).natAbs = c at hv hd
    generalize min q1 q2 = q at hv hd hq
    have hz := wk_z hd hq
    have hp : (0 : Int) < ((2 ^ 145 : Nat) : Int) := by decide
    have hnn : FP.Core.val32 (FP.fsub a b) ≠ .nan := by rw [hv]; exact FP.Core.roundRatio_ne_nan _ _ _ _ _
    have n1 : FP.Core.val32 1148846080 ≠ .nan := by rw [v_1000]; exact fun e => FP.Core.Datum.noConfusion e
    have n2 : FP.Core.val32 3296329728 ≠ .nan := by rw [v_n1000]; exact fun e => FP.Core.Datum.noConfusion e
    have k1 : FP.fcmp (FP.fsub a b) 1148846080 = some (compare (FP.Core.zval FP.Core.b32 (FP.Core.val32 (FP.fsub a b))) (FP.Core.zval FP.Core.b32 (FP.Core.val32 1148846080))) := FP.Core.fcmp_zval hnn n1
    have k2 : FP.fcmp (FP.fsub a b) 3296329728 = some (compare (FP.Core.zval FP.Core.b32 (FP.Core.val32 (FP.fsub a b))) (FP.Core.zval FP.Core.b32 (FP.Core.val32 3296329728))) := FP.Core.fcmp_zval hnn n2
    refine ⟨hnn, ?_, ?_⟩
    · rw [k2, cmpv_le, z_n1000, hv]
      rcases (show 16777216 < i - j ∨ i - j < -16777216 by omega) with hb1 | hb1
      · have := FP.Core.zval_round_ge FP.Core.good_b32 (s := s) (c := c) (q := q) (e0 := FP.Core.b32.qmin) (V := FP.Core.val32 1148846080) (FP.Core.val32_fits _) n1 (Int.le_refl _) (by rw [q_min]; exact hq) (by
          rw [z_1000, hz, Int.sub_self, show (0 : Int).toNat = 0 from rfl, Nat.pow_zero]
          generalize ((2 ^ 145 : Nat) : Int) = P at hp
          have e1 : 16000 * P ≤ (i - j) * P := Int.mul_le_mul_of_nonneg_right (by omega) (Int.le_of_lt hp)
          omega)
        rw [z_1000] at this
        generalize ((2 ^ 145 : Nat) : Int) = P at hp this
        constructor
        · intro h9; omega
        · intro h9; omega
      · have := FP.Core.zval_round_le FP.Core.good_b32 (s := s) (c := c) (q := q) (e0 := FP.Core.b32.qmin) (V := FP.Core.val32 3296329728) (FP.Core.val32_fits _) n2 (Int.le_refl _) (by rw [q_min]; exact hq) (by
          rw [z_n1000, hz, Int.sub_self, show (0 : Int).toNat = 0 from rfl, Nat.pow_zero]
          generalize ((2 ^ 145 : Nat) : Int) = P at hp
          have e1 : (i - j) * P ≤ -16000 * P := Int.mul_le_mul_of_nonneg_right (by omega) (Int.le_of_lt hp)
          omega)
        rw [z_n1000] at this
        constructor
        · intro h9; omega
        · intro h9; exact this
    · rw [k1, cmpv_ge, z_1000, hv]
      rcases (show 16777216 < i - j ∨ i - j < -16777216 by omega) with hb1 | hb1
      · have := FP.Core.zval_round_ge FP.Core.good_b32 (s := s) (c := c) (q := q) (e0 := FP.Core.b32.qmin) (V := FP.Core.val32 1148846080) (FP.Core.val32_fits _) n1 (Int.le_refl _) (by rw [q_min]; exact hq) (by
          rw [z_1000, hz, Int.sub_self, show (0 : Int).toNat = 0 from rfl, Nat.pow_zero]
          generalize ((2 ^ 145 : Nat) : Int) = P at hp
          have e1 : 16000 * P ≤ (i - j) * P := Int.mul_le_mul_of_nonneg_right (by omega) (Int.le_of_lt hp)
          omega)
        rw [z_1000] at this
        constructor
        · intro h9; omega
        · intro h9; exact this
      · have := FP.Core.zval_round_le FP.Core.good_b32 (s := s) (c := c) (q := q) (e0 := FP.Core.b32.qmin) (V := FP.Core.val32 3296329728) (FP.Core.val32_fits _) n2 (Int.le_refl _) (by rw [q_min]; exact hq) (by
          rw [z_n1000, hz, Int.sub_self, show (0 : Int).toNat = 0 from rfl, Nat.pow_zero]
          generalize ((2 ^ 145 : Nat) : Int) = P at hp
          have e1 : (i - j) * P ≤ -16000 * P := Int.mul_le_mul_of_nonneg_right (by omega) (Int.le_of_lt hp)
          omega)
        rw [z_n1000] at this
        generalize ((2 ^ 145 : Nat) : Int) = P at hp this
        constructor
        · intro h9; omega
        · intro h9; omega
