/-! is there such a bar, is it rigged: both sides -/
theorem gbar {V : VT} {b c : Nat} (hb : b < 12) (hc : c < 4) : f_X7_get 0 12 4 (Int32.ofNat b) (Int32.ofNat c) V = some (V 0 (4 * b + c)) := by
  have := get_nat (B := 0) (R := 12) (C := 4) (r := b) (c := c) V hb hc (by omega) (by omega) (by omega)
  rw [show 0 + b * 4 + c = 4 * b + c by omega] at this
  exact this
theorem gcon {V : VT} {b p : Nat} (hb : b < 12) (hp : p < 16) : f_X7_get 48 12 16 (Int32.ofNat b) (Int32.ofNat p) V = some (V 0 (48 + 16 * b + p)) := by
  have := get_nat (B := 48) (R := 12) (C := 16) (r := b) (c := p) V hb hp (by omega) (by omega) (by omega)
  rw [show 48 + b * 16 + p = 48 + 16 * b + p by omega] at this
  exact this
theorem gline {V : VT} {l c : Nat} (hl : l < 40) (hc : c < 12) : f_X7_get 240 40 12 (Int32.ofNat l) (Int32.ofNat c) V = some (V 0 (240 + (12 * l + c))) := by
  have := get_nat (B := 240) (R := 40) (C := 12) (r := l) (c := c) V hl hc (by omega) (by omega) (by omega)
  rw [show 240 + l * 12 + c = 240 + (12 * l + c) by omega] at this
  exact this
theorem gthing {V : VT} {t c : Nat} (ht : t < 80) (hc : c < 8) : f_X7_get 720 80 8 (Int32.ofNat t) (Int32.ofNat c) V = some (V 0 (720 + 8 * t + c)) := by
  have := get_nat (B := 720) (R := 80) (C := 8) (r := t) (c := c) V ht hc (by omega) (by omega) (by omega)
  rw [show 720 + t * 8 + c = 720 + 8 * t + c by omega] at this
  exact this
theorem gcue {V : VT} {q c : Nat} (hq : q < 60) (hc : c < 5) : f_X7_get 1368 60 5 (Int32.ofNat q) (Int32.ofNat c) V = some (V 0 (1368 + (5 * q + c))) := by
  have := get_nat (B := 1368) (R := 60) (C := 5) (r := q) (c := c) V hq hc (by omega) (by omega) (by omega)
  rw [show 1368 + q * 5 + c = 1368 + (5 * q + c) by omega] at this
  exact this
theorem gcount {V : VT} {c : Nat} (hc : c < 6) : f_X7_get 1868 1 6 0 (Int32.ofNat c) V = some (V 0 (1868 + c)) := by
  have := get_nat (B := 1868) (R := 1) (C := 6) (r := 0) (c := c) V (by omega) hc (by omega) (by omega) (by omega)
  rw [show 1868 + 0 * 6 + c = 1868 + c by omega] at this
  exact this
theorem c_isBar_no {v : Int32} {V : VT} (h : v < 0 ∨ 12 ≤ v) : f_X3_isBar v V = some 0 := by
  unfold f_X3_isBar f_X3_isBar_j14
  by_cases h1 : v < 0
  · rw [if_pos h1]
  · rw [if_neg h1, if_pos (h.resolve_left h1)]
theorem c_isBar_yes {b : Nat} {V : VT} (h : b < 12) : f_X3_isBar (Int32.ofNat b) V = some 1 := by
  unfold f_X3_isBar
  rw [if_neg (nat_nneg (by omega)), if_neg (fun q => by have := (nat_le (a := 12) (by omega) (by omega)).mp q; omega)]
theorem c_rigged {n : Nat} {V : VT} {S : AT} {b : Nat} (h : GG n (V 0) S) (hb : b < 12) : f_X3_isRigged (Int32.ofNat b) V = some (if S (21 * b) = 1 then 1 else 0) := by
  have hr := h.1.rb0 b hb
  have e : f_X7_get 0 12 4 (Int32.ofNat b) 0 V = some (S (21 * b + 1)) := by rw [← hr]; exact gbar (c := 0) hb (by omega)
  unfold f_X3_isRigged
  rw [e]; simp only [Option.bind_some]
  rcases h.2.wb0 b hb with h0 | h1
  · have hz := h.2.wbp b hb h0
    rw [hz, h0, if_pos (by decide), if_neg (by decide)]
  · obtain ⟨m, m1, m2, m3⟩ := h.2.wb2 b hb h1
    rw [if_pos h1, m3]
    rw [if_neg (fun q => by have := (nat_le (b := 0) (by omega) (by omega)).mp q; omega)]
theorem c_rigged_out {v : Int32} {V : VT} (h : v < 0 ∨ 12 ≤ v) : f_X3_isRigged v V = some 0 := by
  unfold f_X3_isRigged
  rw [get_row V h]; rfl
theorem c_refBar_j {O : AT} {B : VT} {z : Nat} {C : AT} {f s : Int32} {V : VT} (h : St O B z C f s V) (hf : f ≠ 0) : f_X9_refusesBar_j31 V = some (1, V) := by
  unfold f_X9_refusesBar_j31 f_X9_isRefusal
  rw [if_neg (by rw [h.2.2.2.2.1]; exact hf)]
  rfl
theorem c_refBar_out {O : AT} {B : VT} {z : Nat} {C : AT} {s : Int32} {V : VT} {v : Int32} (h : St O B z C 0 s V) (hv : v < 0 ∨ 12 ≤ v) : ∃ V2, f_X9_refusesBar v V = some (1, V2) ∧ St O B z C 2 0 V2 := by
  obtain ⟨V2, er, sr⟩ := st_ref 2 h
  refine ⟨V2, ?_, sr⟩
  unfold f_X9_refusesBar
  rw [c_isBar_no hv]; simp only [Option.bind_some, if_true]
  rw [er]; simp only [Option.bind_some]
  exact c_refBar_j sr (by decide)
theorem c_refBar_no {O : AT} {B : VT} {z n : Nat} {s : Int32} {V : VT} {S : AT} {b : Nat} (h : St O B z (V 0) 0 s V) (hg : GG n (V 0) S) (hb : b < 12) (h0 : ¬ S (21 * b) = 1) : ∃ V2, f_X9_refusesBar (Int32.ofNat b) V = some (1, V2) ∧ St O B z (V 0) 1 0 V2 := by
  obtain ⟨V2, er, sr⟩ := st_ref 1 h
  refine ⟨V2, ?_, sr⟩
  unfold f_X9_refusesBar
  rw [c_isBar_yes hb]; simp only [Option.bind_some]
  rw [if_neg (by decide), c_rigged hg hb, if_neg h0]; simp only [Option.bind_some, if_true]
  rw [er]; simp only [Option.bind_some]
  exact c_refBar_j sr (by decide)
theorem c_refBar_yes {n : Nat} {V : VT} {S : AT} {b : Nat} (h5 : V 11 5 = 0) (hg : GG n (V 0) S) (hb : b < 12) (h1 : S (21 * b) = 1) : f_X9_refusesBar (Int32.ofNat b) V = some (0, V) := by
  unfold f_X9_refusesBar
  rw [c_isBar_yes hb]; simp only [Option.bind_some]
  rw [if_neg (by decide), c_rigged hg hb, if_pos h1]; simp only [Option.bind_some]
  rw [if_neg (by decide)]
  unfold f_X9_refusesBar_j31 f_X9_isRefusal
  rw [if_pos h5]; rfl
theorem i1112 (x : Int32) : (11 < x) ↔ (12 ≤ x) := by
  rw [Int32.lt_iff_toInt_lt, Int32.le_iff_toInt_le, show (11 : Int32).toInt = 11 by decide, show (12 : Int32).toInt = 12 by decide]; omega
theorem m_isBar_no {v : Int32} {M : VT} (h : v < 0 ∨ 12 ≤ v) : f_X12_isBar v M = some 0 := by
  unfold f_X12_isBar
  rw [in_no (h.imp id (fun q => (i1112 v).mpr q))]; rfl
theorem m_isBar_yes {b : Nat} {M : VT} (h : b < 12) : f_X12_isBar (Int32.ofNat b) M = some 1 := by
  unfold f_X12_isBar
  rw [in_yes (nat_nneg (by omega)) (fun q => by have := (nat_lt (a := 11) (by omega) (by omega)).mp q; omega)]; rfl
theorem m_bar0 {b : Nat} {M : VT} : f_X12_bar0 (Int32.ofNat b) M = some (Int32.ofNat (21 * b)) := by
  unfold f_X12_bar0
  rw [show (0 : Int32) + 21 * Int32.ofNat b = Int32.ofNat (0 + 21 * b) by rw [Int32.ofNat_add, Int32.ofNat_mul]; rfl, Nat.zero_add]
theorem m_rigged {b : Nat} {M : VT} (h : b < 12) : f_X12_isRigged (Int32.ofNat b) M = some (if M 0 (21 * b) = 1 then 1 else 0) := by
  unfold f_X12_isRigged
  rw [m_bar0]; simp only [Option.bind_some]
  rw [ck_nat (by omega) (by omega)]; simp only [Option.bind_some]
  by_cases h1 : M 0 (21 * b) = 1
  · rw [if_pos h1, if_pos h1]
  · rw [if_neg h1, if_neg h1]
