/-! line -/
theorem c_holdsBar {n : Nat} {V : VT} {S : AT} {l : Nat} (v : Int32) (h : GG n (V 0) S) (hl : l < 40) : f_X3_holdsBar (Int32.ofNat l) v V = some (if S (252 + 12 * l + 3) = 1 ∧ S (252 + 12 * l) = v then 1 else 0) := by
  have e3 : f_X7_get 240 40 12 (Int32.ofNat l) 3 V = some (S (252 + 12 * l + 3)) := lget (c := 3) h hl (by omega)
  have e0 : f_X7_get 240 40 12 (Int32.ofNat l) 0 V = some (S (252 + 12 * l)) := lget (c := 0) h hl (by omega)
  unfold f_X3_holdsBar f_X3_holdsBar_j30
  rw [e3]; simp only [Option.bind_some]
  by_cases q : S (252 + 12 * l + 3) = 1
  · rw [if_pos q, e0]; simp only [Option.bind_some]
    by_cases q2 : S (252 + 12 * l) = v
    · rw [if_pos q2, if_pos ⟨q, q2⟩]
    · rw [if_neg q2, if_neg (fun p => q2 p.2)]
  · rw [if_neg q, if_neg (fun p => q p.1)]
theorem m_holds {M : VT} {l : Nat} (v : Int32) (hl : l < 40) : f_X12_holds (Int32.ofNat l) v M = some (if M 0 (252 + 12 * l + 3) = 1 ∧ M 0 (252 + 12 * l) = v then 1 else 0) := by
  have e0 : f_X12_lineIs (Int32.ofNat l) 0 M = some (M 0 (252 + 12 * l)) := m_lineIs (c := 0) hl (by omega)
  unfold f_X12_holds f_X12_holds_j22
  rw [m_isLineThere hl]; simp only [Option.bind_some]
  by_cases q : M 0 (252 + 12 * l + 3) = 1
  · rw [if_pos q, if_neg (by decide), e0]; simp only [Option.bind_some]
    by_cases q2 : M 0 (252 + 12 * l) = v
    · rw [if_pos q2, if_pos ⟨q, q2⟩]
    · rw [if_neg q2, if_neg (fun p => q2 p.2)]
  · rw [if_neg q, if_pos rfl, if_neg (fun p => q p.1)]
/-- a line holds a bar at a place -/
def hat (S : AT) (v w : Int32) (l : Nat) : Prop := (S (252 + 12 * l + 3) = 1 ∧ S (252 + 12 * l) = v) ∧ S (252 + 12 * l + 1) = w
theorem hat_told {n : Nat} {C S : AT} {v w : Int32} {l : Nat} (h : GG n C S) (hl : l < 40) (hh : hat S v w l) : Int32.ofNat l < S 1640 := by
  refine Classical.byContradiction (fun q => ?_)
  have := h.2.wl0 l hl (nlt_le q)
  rw [hh.1.1] at this; exact absurd this (by decide)
theorem c_placeHeld {n : Nat} {V : VT} {S : AT} {v w : Int32} (h : GG n (V 0) S) : (f_X6_isPlaceHeld v w V = some 1 ∧ ∃ l, l < 40 ∧ hat S v w l) ∨ (f_X6_isPlaceHeld v w V = some 0 ∧ ∀ l, l < 40 → ¬ hat S v w l) := by
  have e1 : ∀ l, l < 40 → f_X7_get 240 40 12 (Int32.ofNat l) 1 V = some (S (252 + 12 * l + 1)) := fun l hl => lget (c := 1) h hl (by omega)
  have step : ∀ l, l < 40 → ¬ hat S v w l → f_X6_isPlaceHeld_B2 v w V (Int32.ofNat l) = some (.inl (Int32.ofNat (l + 1))) := by
    intro l hl hn
    have n1 : ¬ (40 : Int32) ≤ Int32.ofNat l := fun q => by have := (nat_le (a := 40) (by omega) (by omega)).mp q; omega
    unfold f_X6_isPlaceHeld_B2 f_X6_isPlaceHeld_j38
    rw [if_neg n1, c_holdsBar v h hl]; simp only [Option.bind_some, nat_succ]
    by_cases q : S (252 + 12 * l + 3) = 1 ∧ S (252 + 12 * l) = v
    · rw [if_pos q, if_neg (by decide), e1 l hl]; simp only [Option.bind_some]
      rw [if_neg (fun p => hn ⟨q, p⟩)]
    · rw [if_neg q, if_pos rfl]
  rcases first_of (hat S v w) 40 with hno | ⟨k, hk, h1, h2⟩
  · refine Or.inr ⟨?_, hno⟩
    unfold f_X6_isPlaceHeld
    simp only [Option.bind_some]
    refine lp_iter (fun i => Int32.ofNat i) 40 0 fuel (fun i _ hi => step i (by omega) (hno i (by omega))) ?_ (fuel_big (by omega))
    unfold f_X6_isPlaceHeld_B2
    rw [if_pos (by decide)]; rfl
  · refine Or.inl ⟨?_, k, hk, h1⟩
    unfold f_X6_isPlaceHeld
    simp only [Option.bind_some]
    refine lp_iter (fun i => Int32.ofNat i) k 0 fuel (fun i _ hi => step i (by omega) (h2 i (by omega))) ?_ (fuel_big (by omega))
    rw [Nat.zero_add]
    have n1 : ¬ (40 : Int32) ≤ Int32.ofNat k := fun q => by have := (nat_le (a := 40) (by omega) (by omega)).mp q; omega
    unfold f_X6_isPlaceHeld_B2
    rw [if_neg n1, c_holdsBar v h hk, if_pos h1.1]; simp only [Option.bind_some]
    rw [if_neg (by decide), e1 k hk]; simp only [Option.bind_some]
    rw [if_pos h1.2]
/-- what follows the loop in the reference's line() -/
def lineX (v1 v2 v3 v4 t : Int32) (M1 : VT) : Option (Int32 × VT) := (f_X12_is t (8 : Int32) M1).bind fun r13 =>
  if r13.1 = 0 then ((ckA 1646 (1640 : Int32)).bind fun k15 =>
  if (r13.2 0 k15) = (40 : Int32) then (f_X12_line_j160 v1 v2 v3 v4 (1 : Int32) r13.2) else (f_X12_line_j160 v1 v2 v3 v4 (0 : Int32) r13.2)) else (f_X12_line_j221 r13.2)
theorem m_lineLoop {M : VT} {m : Nat} (v1 v2 v3 v4 t : Int32) (hm : m ≤ 40) (hN : M 0 1640 = Int32.ofNat m) (ht : t = 1 ∧ (∃ l, l < m ∧ hat (M 0) v1 v2 l) ∨ t = 0 ∧ ∀ l, l < m → ¬ hat (M 0) v1 v2 l) : lp (f_X12_line_B78 v1 v2 v3 v4 M) fuel ((0 : Int32), (0 : Int32)) = lineX v1 v2 v3 v4 t M := by
  have kN : ckA 1646 (1640 : Int32) = some 1640 := ck_lit (k := 1640) rfl (by omega) (by omega)
  have e1 : ∀ l, l < 40 → f_X12_lineIs (Int32.ofNat l) 1 M = some (M 0 (252 + 12 * l + 1)) := fun l hl => m_lineIs (c := 1) hl (by omega)
  have step0 : ∀ l, l < m → ¬ hat (M 0) v1 v2 l → f_X12_line_B78 v1 v2 v3 v4 M (0, Int32.ofNat l) = some (.inl (0, Int32.ofNat (l + 1))) := by
    intro l hl hn
    have n1 : ¬ Int32.ofNat m ≤ Int32.ofNat l := fun q => by have := (nat_le (by omega) (by omega)).mp q; omega
    unfold f_X12_line_B78 f_X12_line_j121 f_X12_line_j117 f_X12_line_j122
    rw [kN]; simp only [Option.bind_some, nat_succ]
    rw [hN, if_neg n1, if_pos trivial, m_holds v1 (by omega)]; simp only [Option.bind_some]
    by_cases q : M 0 (252 + 12 * l + 3) = 1 ∧ M 0 (252 + 12 * l) = v1
    · rw [if_pos q, if_neg (by decide), e1 l (by omega)]; simp only [Option.bind_some]
      rw [if_neg (fun p => hn ⟨q, p⟩)]
    · rw [if_neg q, if_pos rfl]
  have stepy : ∀ l, l < m → hat (M 0) v1 v2 l → f_X12_line_B78 v1 v2 v3 v4 M (0, Int32.ofNat l) = some (.inl (1, Int32.ofNat (l + 1))) := by
    intro l hl hn
    have n1 : ¬ Int32.ofNat m ≤ Int32.ofNat l := fun q => by have := (nat_le (by omega) (by omega)).mp q; omega
    unfold f_X12_line_B78 f_X12_line_j121 f_X12_line_j117 f_X12_line_j122
    rw [kN]; simp only [Option.bind_some, nat_succ]
    rw [hN, if_neg n1, if_pos trivial, m_holds v1 (by omega), if_pos hn.1]; simp only [Option.bind_some]
    rw [if_neg (by decide), e1 l (by omega)]; simp only [Option.bind_some]
    rw [if_pos hn.2]
  have step1 : ∀ l, l < m → f_X12_line_B78 v1 v2 v3 v4 M (1, Int32.ofNat l) = some (.inl (1, Int32.ofNat (l + 1))) := by
    intro l hl
    have n1 : ¬ Int32.ofNat m ≤ Int32.ofNat l := fun q => by have := (nat_le (by omega) (by omega)).mp q; omega
    unfold f_X12_line_B78 f_X12_line_j117 f_X12_line_j122
    rw [kN]; simp only [Option.bind_some, nat_succ]
    rw [hN, if_neg n1, if_neg (by decide)]
  have fin : ∀ t, f_X12_line_B78 v1 v2 v3 v4 M (t, Int32.ofNat m) = (lineX v1 v2 v3 v4 t M).bind fun y => some (.inr y) := by
    intro t
    unfold f_X12_line_B78
    rw [kN]; simp only [Option.bind_some]
    rw [hN, if_pos (Int32.le_refl _)]
    unfold lineX
    rw [kN]; rfl
  rcases ht with ⟨rfl, hex⟩ | ⟨rfl, hno⟩
  · rcases first_of (hat (M 0) v1 v2) m with hno | ⟨k, hk, h1, h2⟩
    · obtain ⟨l, hl, hh⟩ := hex
      exact absurd hh (hno l hl)
    · refine lp_run (fun i => (if k < i then 1 else 0, Int32.ofNat i)) m 0 fuel (fun i _ hi => ?_) ?_ (fuel_big (by omega))
      · rcases (show i < k ∨ i = k ∨ k < i by omega) with q | q | q
        · simp only [show ¬ k < i by omega, show ¬ k < i + 1 by omega, if_false]
          exact step0 i (by omega) (h2 i q)
        · subst q
          simp only [show ¬ i < i by omega, show i < i + 1 by omega, if_false, if_true]
          exact stepy i (by omega) h1
        · simp only [q, show k < i + 1 by omega, if_true]
          exact step1 i (by omega)
      · rw [Nat.zero_add]
        simp only [hk, if_true]
        exact fin 1
  · refine lp_run (fun i => (0, Int32.ofNat i)) m 0 fuel (fun i _ hi => step0 i (by omega) (hno i (by omega))) ?_ (fuel_big (by omega))
    rw [Nat.zero_add]
    exact fin 0
/-- a stretch of a row filled with one number -/
def fil (f : AT) (k : Nat) (x : Int32) (i : Nat) : AT := fun j => if k ≤ j ∧ j < k + i then x else f j
theorem fil_0 {f : AT} {k : Nat} {x : Int32} : fil f k x 0 = f := by funext j; unfold fil; rw [if_neg (by omega)]
theorem fil_succ {f : AT} {k : Nat} {x : Int32} {i : Nat} : upd (fil f k x i) (k + i) x = fil f k x (i + 1) := by
  funext j; rw [upd_at]; unfold fil
  by_cases h : j = k + i
  · rw [if_pos h, if_pos (by omega)]
  · rw [if_neg h]
    by_cases h2 : k ≤ j ∧ j < k + i
    · rw [if_pos h2, if_pos (by omega)]
    · rw [if_neg h2, if_neg (by omega)]
theorem fil_in {f : AT} {k : Nat} {x : Int32} {i j : Nat} (h : k ≤ j ∧ j < k + i) : fil f k x i j = x := by unfold fil; rw [if_pos h]
theorem fil_out {f : AT} {k : Nat} {x : Int32} {i j : Nat} (h : ¬ (k ≤ j ∧ j < k + i)) : fil f k x i j = f j := by unfold fil; rw [if_neg h]
theorem ms_row {S0 : AT} {B : VT} {S : AT} {f s : Int32} {M : VT} (R : AT) (h : Ms S0 B S f s M) (hR : ∀ k, 1646 ≤ k → R k = S k) : Ms S0 B R f s (setRow M 0 R) := by
  obtain ⟨a0, a2, at_, f1, f2, b1, b3, b4, b6, c0, c1, c4⟩ := h
  refine ⟨setRow_eq, ?_, ?_, ?_, ?_, ?_, ?_, ?_, ?_, ?_, ?_, ?_⟩
  · intro q hq; rw [setRow_ne (by omega)]; exact a2 q hq
  · intro q hq; rw [hR q hq]; exact at_ q hq
  all_goals rw [setRow_ne (by omega)]; assumption
theorem m_fill {M : VT} {m P : Nat} (v4 : Int32) (hm : m < 40) (hP : P ≤ 8) (hN : M 0 1640 = Int32.ofNat m) : lp (f_X12_line_B284 (Int32.ofNat P) v4 (Int32.ofNat (252 + 12 * m))) fuel ((0 : Int32), M) = (f_X12_keep (Int32.ofNat m) (u2 (setRow M 0 (fil (M 0) (252 + 12 * m + 4) v4 P)) 0 1640 (Int32.ofNat (m + 1)))).bind fun r => some (r.1, r.2) := by
  have kN : ckA 1646 (1640 : Int32) = some 1640 := ck_lit (k := 1640) rfl (by omega) (by omega)
  have e0 : M = setRow M 0 (fil (M 0) (252 + 12 * m + 4) v4 0) := by rw [fil_0, setRow_id]
  have key := lp_run (f := f_X12_line_B284 (Int32.ofNat P) v4 (Int32.ofNat (252 + 12 * m))) (X := (f_X12_keep (Int32.ofNat m) (u2 (setRow M 0 (fil (M 0) (252 + 12 * m + 4) v4 P)) 0 1640 (Int32.ofNat (m + 1)))).bind fun r => some (r.1, r.2)) (fun i => (Int32.ofNat i, setRow M 0 (fil (M 0) (252 + 12 * m + 4) v4 i))) P 0 fuel (fun i _ hi => ?_) ?_ (fuel_big (by omega))
  · simp only [← e0] at key
    exact key
  · have n1 : ¬ Int32.ofNat P ≤ Int32.ofNat i := fun q => by have := (nat_le (by omega) (by omega)).mp q; omega
    unfold f_X12_line_B284
    rw [if_neg n1, show Int32.ofNat (252 + 12 * m) + 4 + Int32.ofNat i = Int32.ofNat (252 + 12 * m + 4 + i) by rw [Int32.ofNat_add (252 + 12 * m + 4) i, Int32.ofNat_add (252 + 12 * m) 4]; rfl, ck_nat (by omega) (by omega)]
    simp only [Option.bind_some, nat_succ]
    rw [setRow_u2, fil_succ]
  · rw [Nat.zero_add]
    unfold f_X12_line_B284
    have r1 : setRow M 0 (fil (M 0) (252 + 12 * m + 4) v4 P) 0 1640 = Int32.ofNat m := by rw [setRow_eq, fil_out (by omega)]; exact hN
    have es : Int32.ofNat (m + 1) - 1 = Int32.ofNat m := by rw [← nat_succ]; exact add_sub1
    simp only [Int32.le_refl, if_true, kN, Option.bind_some, r1, nat_succ, u2r_eq, es]
theorem c_fill {O : AT} {B V : VT} {C : AT} {m P : Nat} (v4 : Int32) (hm : m < 40) (hP : P ≤ 8) (sb : St O B 1360 C 0 0 V) : ∃ V2, lp (f_X6_addLine_B211 (Int32.ofNat P) v4 (Int32.ofNat m)) fuel ((0 : Int32), V) = some (Int32.ofNat m, V2) ∧ St O B 1360 (fil C (240 + 12 * m + 4) v4 P) 0 0 V2 := by
  have key := lp_inv (f := f_X6_addLine_B211 (Int32.ofNat P) v4 (Int32.ofNat m)) (Q := fun y => y.1 = Int32.ofNat m ∧ St O B 1360 (fil C (240 + 12 * m + 4) v4 P) 0 0 y.2) (fun i s => s.1 = Int32.ofNat i ∧ St O B 1360 (fil C (240 + 12 * m + 4) v4 i) 0 0 s.2) P 0 fuel ((0 : Int32), V) ⟨rfl, by rw [fil_0]; exact sb⟩ (fun i s _ hi hI => ?_) (fun s hI => ?_) (fuel_big (by omega))
  · obtain ⟨y, e, hy1, hy2⟩ := key
    refine ⟨y.2, ?_, hy2⟩
    rw [e, ← hy1]
  · obtain ⟨a, V'⟩ := s
    obtain ⟨rfl, hst⟩ := hI
    have n1 : ¬ Int32.ofNat P ≤ Int32.ofNat i := fun q => by have := (nat_le (by omega) (by omega)).mp q; omega
    obtain ⟨V2, ew, sw, -⟩ := st_write (c := 240 + 12 * m + 4 + i) v4 hst (by omega) (by omega)
    have es : f_X7_set 240 40 12 (Int32.ofNat m) (4 + Int32.ofNat i) v4 V' = f_X4_write (Int32.ofNat (240 + 12 * m + 4 + i)) v4 V' := by
      rw [show (4 : Int32) + Int32.ofNat i = Int32.ofNat (4 + i) from (Int32.ofNat_add 4 i).symm, sline v4 hm (by omega), show 240 + 12 * m + (4 + i) = 240 + 12 * m + 4 + i by omega]
    refine ⟨(Int32.ofNat (i + 1), V2), ?_, rfl, ?_⟩
    · unfold f_X6_addLine_B211
      rw [if_neg n1, es, ew]; simp only [Option.bind_some, nat_succ]
    · rw [fil_succ] at sw; exact sw
  · obtain ⟨a, V'⟩ := s
    rw [Nat.zero_add] at hI
    obtain ⟨rfl, hst⟩ := hI
    refine ⟨(Int32.ofNat m, V'), ?_, rfl, hst⟩
    unfold f_X6_addLine_B211
    rw [if_pos (Int32.le_refl _)]; rfl
theorem gg_line {n : Nat} {C C2 S S2 : AT} (h0 : GG n C S) (uC : ∀ j, j ≠ 1868 → (∀ l : Nat, l < 40 → j ≠ 240 + 12 * l) → (∀ l : Nat, l < 40 → j ≠ 240 + 12 * l + 1) → (∀ l : Nat, l < 40 → j ≠ 240 + 12 * l + 2) → (∀ l : Nat, l < 40 → j ≠ 240 + 12 * l + 3) → (∀ l i : Nat, l < 40 → i < 8 → j ≠ 240 + 12 * l + 4 + i) → C j = C2 j) (uS : ∀ j, j ≠ 1640 → (∀ l : Nat, l < 40 → j ≠ 252 + 12 * l) → (∀ l : Nat, l < 40 → j ≠ 252 + 12 * l + 1) → (∀ l : Nat, l < 40 → j ≠ 252 + 12 * l + 2) → (∀ l : Nat, l < 40 → j ≠ 252 + 12 * l + 3) → (∀ l i : Nat, l < 40 → i < 8 → j ≠ 252 + 12 * l + 4 + i) → S j = S2 j) (a_rl0 : R_rl0 C2 S2) (a_rl1 : R_rl1 C2 S2) (a_rl2 : R_rl2 C2 S2) (a_rl3 : R_rl3 C2 S2) (a_rls : R_rls C2 S2) (a_rn0 : R_rn0 C2 S2) (a_wn0 : W_wn0 (n + 1) S2) (a_wl0 : W_wl0 (n + 1) S2) (a_wla : W_wla (n + 1) S2) (a_wlb : W_wlb (n + 1) S2) (a_wlc : W_wlc (n + 1) S2) (a_wld : W_wld (n + 1) S2) (a_wl2 : W_wl2 (n + 1) S2) (a_wl4 : W_wl4 (n + 1) S2) : GG (n + 1) C2 S2 := by
  have h := gg_ok.1 _ _ _ h0
  exact ⟨⟨R_rb0_rg (fun b _ => uC (4 * b) (by omega) (fun _ _ => by omega) (fun _ _ => by omega) (fun _ _ => by omega) (fun _ _ => by omega) (fun _ _ _ _ => by omega)) (fun b _ => uS (21 * b + 1) (by omega) (fun _ _ => by omega) (fun _ _ => by omega) (fun _ _ => by omega) (fun _ _ => by omega) (fun _ _ _ _ => by omega)) h.1.rb0, R_rb1_rg (fun b _ => uC (4 * b + 1) (by omega) (fun _ _ => by omega) (fun _ _ => by omega) (fun _ _ => by omega) (fun _ _ => by omega) (fun _ _ _ _ => by omega)) (fun b _ => uS (21 * b + 2) (by omega) (fun _ _ => by omega) (fun _ _ => by omega) (fun _ _ => by omega) (fun _ _ => by omega) (fun _ _ _ _ => by omega)) h.1.rb1, R_rb2_rg (fun b _ => uC (4 * b + 2) (by omega) (fun _ _ => by omega) (fun _ _ => by omega) (fun _ _ => by omega) (fun _ _ => by omega) (fun _ _ _ _ => by omega)) (fun b _ => uS (21 * b + 3) (by omega) (fun _ _ => by omega) (fun _ _ => by omega) (fun _ _ => by omega) (fun _ _ => by omega) (fun _ _ _ _ => by omega)) h.1.rb2, R_rb3_rg (fun b _ => uC (4 * b + 3) (by omega) (fun _ _ => by omega) (fun _ _ => by omega) (fun _ _ => by omega) (fun _ _ => by omega) (fun _ _ _ _ => by omega)) (fun b _ => uS (21 * b + 4) (by omega) (fun _ _ => by omega) (fun _ _ => by omega) (fun _ _ => by omega) (fun _ _ => by omega) (fun _ _ _ _ => by omega)) h.1.rb3, R_rc_rg (fun b p _ _ => uC (48 + 16 * b + p) (by omega) (fun _ _ => by omega) (fun _ _ => by omega) (fun _ _ => by omega) (fun _ _ => by omega) (fun _ _ _ _ => by omega)) (fun b p _ _ => uS (21 * b + 5 + p) (by omega) (fun _ _ => by omega) (fun _ _ => by omega) (fun _ _ => by omega) (fun _ _ => by omega) (fun _ _ _ _ => by omega)) h.1.rc, a_rl0, a_rl1, a_rl2, a_rl3, a_rls, R_rt0_rg (fun t _ => uC (720 + 8 * t) (by omega) (fun _ _ => by omega) (fun _ _ => by omega) (fun _ _ => by omega) (fun _ _ => by omega) (fun _ _ _ _ => by omega)) (fun t _ => uS (732 + 5 * t) (by omega) (fun _ _ => by omega) (fun _ _ => by omega) (fun _ _ => by omega) (fun _ _ => by omega) (fun _ _ _ _ => by omega)) h.1.rt0, R_rt1_rg (fun t _ => uC (720 + 8 * t + 1) (by omega) (fun _ _ => by omega) (fun _ _ => by omega) (fun _ _ => by omega) (fun _ _ => by omega) (fun _ _ _ _ => by omega)) (fun t _ => uS (732 + 5 * t + 1) (by omega) (fun _ _ => by omega) (fun _ _ => by omega) (fun _ _ => by omega) (fun _ _ => by omega) (fun _ _ _ _ => by omega)) h.1.rt1, R_rt2_rg (fun t _ => uC (720 + 8 * t + 2) (by omega) (fun _ _ => by omega) (fun _ _ => by omega) (fun _ _ => by omega) (fun _ _ => by omega) (fun _ _ _ _ => by omega)) (fun t _ => uS (732 + 5 * t + 2) (by omega) (fun _ _ => by omega) (fun _ _ => by omega) (fun _ _ => by omega) (fun _ _ => by omega) (fun _ _ _ _ => by omega)) h.1.rt2, R_rt3_rg (fun t _ => uC (720 + 8 * t + 3) (by omega) (fun _ _ => by omega) (fun _ _ => by omega) (fun _ _ => by omega) (fun _ _ => by omega) (fun _ _ _ _ => by omega)) (fun t _ => uS (732 + 5 * t + 3) (by omega) (fun _ _ => by omega) (fun _ _ => by omega) (fun _ _ => by omega) (fun _ _ => by omega) (fun _ _ _ _ => by omega)) h.1.rt3, R_rh_rg (fun t _ => uC (720 + 8 * t + 5) (by omega) (fun _ _ => by omega) (fun _ _ => by omega) (fun _ _ => by omega) (fun _ _ => by omega) (fun _ _ _ _ => by omega)) (fun t _ => uS (732 + 5 * t + 4) (by omega) (fun _ _ => by omega) (fun _ _ => by omega) (fun _ _ => by omega) (fun _ _ => by omega) (fun _ _ _ _ => by omega)) h.1.rh, R_rf_rg (fun k _ => uC (1360 + k) (by omega) (fun _ _ => by omega) (fun _ _ => by omega) (fun _ _ => by omega) (fun _ _ => by omega) (fun _ _ _ _ => by omega)) (fun k _ => uS (1432 + k) (by omega) (fun _ _ => by omega) (fun _ _ => by omega) (fun _ _ => by omega) (fun _ _ => by omega) (fun _ _ _ _ => by omega)) h.1.rf, R_rq0_rg (fun c _ => uC (1368 + 5 * c) (by omega) (fun _ _ => by omega) (fun _ _ => by omega) (fun _ _ => by omega) (fun _ _ => by omega) (fun _ _ _ _ => by omega)) (fun c _ => uS (1132 + 5 * c) (by omega) (fun _ _ => by omega) (fun _ _ => by omega) (fun _ _ => by omega) (fun _ _ => by omega) (fun _ _ _ _ => by omega)) h.1.rq0, R_rq1_rg (fun c _ => uC (1368 + 5 * c + 1) (by omega) (fun _ _ => by omega) (fun _ _ => by omega) (fun _ _ => by omega) (fun _ _ => by omega) (fun _ _ _ _ => by omega)) (fun c _ => uS (1132 + 5 * c + 1) (by omega) (fun _ _ => by omega) (fun _ _ => by omega) (fun _ _ => by omega) (fun _ _ => by omega) (fun _ _ _ _ => by omega)) h.1.rq1, R_rq2_rg (fun c _ => uC (1368 + 5 * c + 2) (by omega) (fun _ _ => by omega) (fun _ _ => by omega) (fun _ _ => by omega) (fun _ _ => by omega) (fun _ _ _ _ => by omega)) (fun c _ => uS (1132 + 5 * c + 2) (by omega) (fun _ _ => by omega) (fun _ _ => by omega) (fun _ _ => by omega) (fun _ _ => by omega) (fun _ _ _ _ => by omega)) h.1.rq2, R_rq3_rg (fun c _ => uC (1368 + 5 * c + 3) (by omega) (fun _ _ => by omega) (fun _ _ => by omega) (fun _ _ => by omega) (fun _ _ => by omega) (fun _ _ _ _ => by omega)) (fun c _ => uS (1132 + 5 * c + 3) (by omega) (fun _ _ => by omega) (fun _ _ => by omega) (fun _ _ => by omega) (fun _ _ => by omega) (fun _ _ _ _ => by omega)) h.1.rq3, R_rq4_rg (fun c _ => uC (1368 + 5 * c + 4) (by omega) (fun _ _ => by omega) (fun _ _ => by omega) (fun _ _ => by omega) (fun _ _ => by omega) (fun _ _ _ _ => by omega)) (fun c _ => uS (1132 + 5 * c + 4) (by omega) (fun _ _ => by omega) (fun _ _ => by omega) (fun _ _ => by omega) (fun _ _ => by omega) (fun _ _ _ _ => by omega)) h.1.rq4, a_rn0, R_rn1_rg (uC (1869) (by omega) (fun _ _ => by omega) (fun _ _ => by omega) (fun _ _ => by omega) (fun _ _ => by omega) (fun _ _ _ _ => by omega)) (uS (1641) (by omega) (fun _ _ => by omega) (fun _ _ => by omega) (fun _ _ => by omega) (fun _ _ => by omega) (fun _ _ _ _ => by omega)) h.1.rn1, R_rn2_rg (uC (1870) (by omega) (fun _ _ => by omega) (fun _ _ => by omega) (fun _ _ => by omega) (fun _ _ => by omega) (fun _ _ _ _ => by omega)) (uS (1642) (by omega) (fun _ _ => by omega) (fun _ _ => by omega) (fun _ _ => by omega) (fun _ _ => by omega) (fun _ _ _ _ => by omega)) h.1.rn2, R_rn3_rg (uC (1871) (by omega) (fun _ _ => by omega) (fun _ _ => by omega) (fun _ _ => by omega) (fun _ _ => by omega) (fun _ _ _ _ => by omega)) (uS (1643) (by omega) (fun _ _ => by omega) (fun _ _ => by omega) (fun _ _ => by omega) (fun _ _ => by omega) (fun _ _ _ _ => by omega)) h.1.rn3, R_rn4_rg (uC (1872) (by omega) (fun _ _ => by omega) (fun _ _ => by omega) (fun _ _ => by omega) (fun _ _ => by omega) (fun _ _ _ _ => by omega)) (uS (1644) (by omega) (fun _ _ => by omega) (fun _ _ => by omega) (fun _ _ => by omega) (fun _ _ => by omega) (fun _ _ _ _ => by omega)) h.1.rn4, R_rn5_rg (uC (1873) (by omega) (fun _ _ => by omega) (fun _ _ => by omega) (fun _ _ => by omega) (fun _ _ => by omega) (fun _ _ _ _ => by omega)) (uS (1645) (by omega) (fun _ _ => by omega) (fun _ _ => by omega) (fun _ _ => by omega) (fun _ _ => by omega) (fun _ _ _ _ => by omega)) h.1.rn5, R_rg_rg (uS (1641) (by omega) (fun _ _ => by omega) (fun _ _ => by omega) (fun _ _ => by omega) (fun _ _ => by omega) (fun _ _ _ _ => by omega)) (fun t _ => uS (732 + 5 * t) (by omega) (fun _ _ => by omega) (fun _ _ => by omega) (fun _ _ => by omega) (fun _ _ => by omega) (fun _ _ _ _ => by omega)) (fun t _ => uS (732 + 5 * t + 3) (by omega) (fun _ _ => by omega) (fun _ _ => by omega) (fun _ _ => by omega) (fun _ _ => by omega) (fun _ _ _ _ => by omega)) (fun t _ => uC (720 + 8 * t + 4) (by omega) (fun _ _ => by omega) (fun _ _ => by omega) (fun _ _ => by omega) (fun _ _ => by omega) (fun _ _ _ _ => by omega)) h.1.rg, R_rp_rg (uS (1641) (by omega) (fun _ _ => by omega) (fun _ _ => by omega) (fun _ _ => by omega) (fun _ _ => by omega) (fun _ _ _ _ => by omega)) (fun t _ => uS (732 + 5 * t) (by omega) (fun _ _ => by omega) (fun _ _ => by omega) (fun _ _ => by omega) (fun _ _ => by omega) (fun _ _ _ _ => by omega)) (fun b p _ _ => uS (21 * b + 5 + p) (by omega) (fun _ _ => by omega) (fun _ _ => by omega) (fun _ _ => by omega) (fun _ _ => by omega) (fun _ _ _ _ => by omega)) (fun t _ => uC (720 + 8 * t + 6) (by omega) (fun _ _ => by omega) (fun _ _ => by omega) (fun _ _ => by omega) (fun _ _ => by omega) (fun _ _ _ _ => by omega)) (fun t _ => uC (720 + 8 * t + 7) (by omega) (fun _ _ => by omega) (fun _ _ => by omega) (fun _ _ => by omega) (fun _ _ => by omega) (fun _ _ _ _ => by omega)) h.1.rp, R_rs_rg (uS (1643) (by omega) (fun _ _ => by omega) (fun _ _ => by omega) (fun _ _ => by omega) (fun _ _ => by omega) (fun _ _ _ _ => by omega)) (fun k _ => uS (1440 + k) (by omega) (fun _ _ => by omega) (fun _ _ => by omega) (fun _ _ => by omega) (fun _ _ => by omega) (fun _ _ _ _ => by omega)) (fun k _ => uC (1668 + k) (by omega) (fun _ _ => by omega) (fun _ _ => by omega) (fun _ _ => by omega) (fun _ _ => by omega) (fun _ _ _ _ => by omega)) h.1.rs⟩, ⟨a_wn0, W_wn1_rg (uS (1641) (by omega) (fun _ _ => by omega) (fun _ _ => by omega) (fun _ _ => by omega) (fun _ _ => by omega) (fun _ _ _ _ => by omega)) h.2.wn1, W_wn2_rg (uS (1642) (by omega) (fun _ _ => by omega) (fun _ _ => by omega) (fun _ _ => by omega) (fun _ _ => by omega) (fun _ _ _ _ => by omega)) h.2.wn2, W_wn3_rg (uS (1643) (by omega) (fun _ _ => by omega) (fun _ _ => by omega) (fun _ _ => by omega) (fun _ _ => by omega) (fun _ _ _ _ => by omega)) h.2.wn3, W_wn4_rg (uS (1644) (by omega) (fun _ _ => by omega) (fun _ _ => by omega) (fun _ _ => by omega) (fun _ _ => by omega) (fun _ _ _ _ => by omega)) h.2.wn4, W_wn5_rg (uS (1645) (by omega) (fun _ _ => by omega) (fun _ _ => by omega) (fun _ _ => by omega) (fun _ _ => by omega) (fun _ _ _ _ => by omega)) h.2.wn5, W_wb0_rg (fun b _ => uS (21 * b) (by omega) (fun _ _ => by omega) (fun _ _ => by omega) (fun _ _ => by omega) (fun _ _ => by omega) (fun _ _ _ _ => by omega)) h.2.wb0, W_wbp_rg (fun b _ => uS (21 * b) (by omega) (fun _ _ => by omega) (fun _ _ => by omega) (fun _ _ => by omega) (fun _ _ => by omega) (fun _ _ _ _ => by omega)) (fun b _ => uS (21 * b + 1) (by omega) (fun _ _ => by omega) (fun _ _ => by omega) (fun _ _ => by omega) (fun _ _ => by omega) (fun _ _ _ _ => by omega)) h.2.wbp, W_wbg_rg (fun b _ => uS (21 * b) (by omega) (fun _ _ => by omega) (fun _ _ => by omega) (fun _ _ => by omega) (fun _ _ => by omega) (fun _ _ _ _ => by omega)) (fun b _ => uS (21 * b + 2) (by omega) (fun _ _ => by omega) (fun _ _ => by omega) (fun _ _ => by omega) (fun _ _ => by omega) (fun _ _ _ _ => by omega)) h.2.wbg, W_wbh_rg (fun b _ => uS (21 * b) (by omega) (fun _ _ => by omega) (fun _ _ => by omega) (fun _ _ => by omega) (fun _ _ => by omega) (fun _ _ _ _ => by omega)) (fun b _ => uS (21 * b + 3) (by omega) (fun _ _ => by omega) (fun _ _ => by omega) (fun _ _ => by omega) (fun _ _ => by omega) (fun _ _ _ _ => by omega)) h.2.wbh, W_wbk_rg (fun b _ => uS (21 * b) (by omega) (fun _ _ => by omega) (fun _ _ => by omega) (fun _ _ => by omega) (fun _ _ => by omega) (fun _ _ _ _ => by omega)) (fun b _ => uS (21 * b + 4) (by omega) (fun _ _ => by omega) (fun _ _ => by omega) (fun _ _ => by omega) (fun _ _ => by omega) (fun _ _ _ _ => by omega)) h.2.wbk, W_wb2_rg (fun b _ => uS (21 * b) (by omega) (fun _ _ => by omega) (fun _ _ => by omega) (fun _ _ => by omega) (fun _ _ => by omega) (fun _ _ _ _ => by omega)) (fun b _ => uS (21 * b + 1) (by omega) (fun _ _ => by omega) (fun _ _ => by omega) (fun _ _ => by omega) (fun _ _ => by omega) (fun _ _ _ _ => by omega)) h.2.wb2, W_wb2g_rg (fun b _ => uS (21 * b) (by omega) (fun _ _ => by omega) (fun _ _ => by omega) (fun _ _ => by omega) (fun _ _ => by omega) (fun _ _ _ _ => by omega)) (fun b _ => uS (21 * b + 2) (by omega) (fun _ _ => by omega) (fun _ _ => by omega) (fun _ _ => by omega) (fun _ _ => by omega) (fun _ _ _ _ => by omega)) h.2.wb2g, W_wb3_rg (fun b _ => uS (21 * b + 1) (by omega) (fun _ _ => by omega) (fun _ _ => by omega) (fun _ _ => by omega) (fun _ _ => by omega) (fun _ _ _ _ => by omega)) (fun b p _ _ => uS (21 * b + 5 + p) (by omega) (fun _ _ => by omega) (fun _ _ => by omega) (fun _ _ => by omega) (fun _ _ => by omega) (fun _ _ _ _ => by omega)) h.2.wb3, W_wb4_rg (fun b _ => uS (21 * b + 3) (by omega) (fun _ _ => by omega) (fun _ _ => by omega) (fun _ _ => by omega) (fun _ _ => by omega) (fun _ _ _ _ => by omega)) h.2.wb4, W_wb4k_rg (fun b _ => uS (21 * b + 4) (by omega) (fun _ _ => by omega) (fun _ _ => by omega) (fun _ _ => by omega) (fun _ _ => by omega) (fun _ _ _ _ => by omega)) h.2.wb4k, W_wb5_rg (fun b p _ _ => uS (21 * b + 5 + p) (by omega) (fun _ _ => by omega) (fun _ _ => by omega) (fun _ _ => by omega) (fun _ _ => by omega) (fun _ _ _ _ => by omega)) (uS (1641) (by omega) (fun _ _ => by omega) (fun _ _ => by omega) (fun _ _ => by omega) (fun _ _ => by omega) (fun _ _ _ _ => by omega)) h.2.wb5, a_wl0, a_wla, a_wlb, a_wlc, a_wld, a_wl2, a_wl4, W_wt0_rg (uS (1641) (by omega) (fun _ _ => by omega) (fun _ _ => by omega) (fun _ _ => by omega) (fun _ _ => by omega) (fun _ _ _ _ => by omega)) (fun t _ => uS (732 + 5 * t) (by omega) (fun _ _ => by omega) (fun _ _ => by omega) (fun _ _ => by omega) (fun _ _ => by omega) (fun _ _ _ _ => by omega)) h.2.wt0, W_wt1_rg (uS (1641) (by omega) (fun _ _ => by omega) (fun _ _ => by omega) (fun _ _ => by omega) (fun _ _ => by omega) (fun _ _ _ _ => by omega)) (fun t _ => uS (732 + 5 * t + 1) (by omega) (fun _ _ => by omega) (fun _ _ => by omega) (fun _ _ => by omega) (fun _ _ => by omega) (fun _ _ _ _ => by omega)) h.2.wt1, W_wt2_rg (uS (1641) (by omega) (fun _ _ => by omega) (fun _ _ => by omega) (fun _ _ => by omega) (fun _ _ => by omega) (fun _ _ _ _ => by omega)) (fun t _ => uS (732 + 5 * t + 2) (by omega) (fun _ _ => by omega) (fun _ _ => by omega) (fun _ _ => by omega) (fun _ _ => by omega) (fun _ _ _ _ => by omega)) h.2.wt2, W_wt3_rg (uS (1641) (by omega) (fun _ _ => by omega) (fun _ _ => by omega) (fun _ _ => by omega) (fun _ _ => by omega) (fun _ _ _ _ => by omega)) (fun t _ => uS (732 + 5 * t + 3) (by omega) (fun _ _ => by omega) (fun _ _ => by omega) (fun _ _ => by omega) (fun _ _ => by omega) (fun _ _ _ _ => by omega)) h.2.wt3, W_wt4_rg (uS (1641) (by omega) (fun _ _ => by omega) (fun _ _ => by omega) (fun _ _ => by omega) (fun _ _ => by omega) (fun _ _ _ _ => by omega)) (fun t _ => uS (732 + 5 * t + 4) (by omega) (fun _ _ => by omega) (fun _ _ => by omega) (fun _ _ => by omega) (fun _ _ => by omega) (fun _ _ _ _ => by omega)) (fun t _ => uS (732 + 5 * t) (by omega) (fun _ _ => by omega) (fun _ _ => by omega) (fun _ _ => by omega) (fun _ _ => by omega) (fun _ _ _ _ => by omega)) h.2.wt4, W_wqa_rg (uS (1642) (by omega) (fun _ _ => by omega) (fun _ _ => by omega) (fun _ _ => by omega) (fun _ _ => by omega) (fun _ _ _ _ => by omega)) (fun c _ => uS (1132 + 5 * c) (by omega) (fun _ _ => by omega) (fun _ _ => by omega) (fun _ _ => by omega) (fun _ _ => by omega) (fun _ _ _ _ => by omega)) h.2.wqa, W_wqb_rg (uS (1642) (by omega) (fun _ _ => by omega) (fun _ _ => by omega) (fun _ _ => by omega) (fun _ _ => by omega) (fun _ _ _ _ => by omega)) (fun c _ => uS (1132 + 5 * c + 1) (by omega) (fun _ _ => by omega) (fun _ _ => by omega) (fun _ _ => by omega) (fun _ _ => by omega) (fun _ _ _ _ => by omega)) h.2.wqb, W_wqc_rg (uS (1642) (by omega) (fun _ _ => by omega) (fun _ _ => by omega) (fun _ _ => by omega) (fun _ _ => by omega) (fun _ _ _ _ => by omega)) (fun c _ => uS (1132 + 5 * c + 2) (by omega) (fun _ _ => by omega) (fun _ _ => by omega) (fun _ _ => by omega) (fun _ _ => by omega) (fun _ _ _ _ => by omega)) h.2.wqc, W_wqd_rg (uS (1642) (by omega) (fun _ _ => by omega) (fun _ _ => by omega) (fun _ _ => by omega) (fun _ _ => by omega) (fun _ _ _ _ => by omega)) (fun c _ => uS (1132 + 5 * c + 3) (by omega) (fun _ _ => by omega) (fun _ _ => by omega) (fun _ _ => by omega) (fun _ _ => by omega) (fun _ _ _ _ => by omega)) h.2.wqd, W_wqe_rg (uS (1642) (by omega) (fun _ _ => by omega) (fun _ _ => by omega) (fun _ _ => by omega) (fun _ _ => by omega) (fun _ _ _ _ => by omega)) (fun c _ => uS (1132 + 5 * c + 4) (by omega) (fun _ _ => by omega) (fun _ _ => by omega) (fun _ _ => by omega) (fun _ _ => by omega) (fun _ _ _ _ => by omega)) h.2.wqe, W_wq2_rg (uS (1642) (by omega) (fun _ _ => by omega) (fun _ _ => by omega) (fun _ _ => by omega) (fun _ _ => by omega) (fun _ _ _ _ => by omega)) (fun c _ => uS (1132 + 5 * c) (by omega) (fun _ _ => by omega) (fun _ _ => by omega) (fun _ _ => by omega) (fun _ _ => by omega) (fun _ _ _ _ => by omega)) (fun b _ => uS (21 * b) (by omega) (fun _ _ => by omega) (fun _ _ => by omega) (fun _ _ => by omega) (fun _ _ => by omega) (fun _ _ _ _ => by omega)) (fun c _ => uS (1132 + 5 * c + 4) (by omega) (fun _ _ => by omega) (fun _ _ => by omega) (fun _ _ => by omega) (fun _ _ => by omega) (fun _ _ _ _ => by omega)) (fun c _ => uS (1132 + 5 * c + 2) (by omega) (fun _ _ => by omega) (fun _ _ => by omega) (fun _ _ => by omega) (fun _ _ => by omega) (fun _ _ _ _ => by omega)) (fun c _ => uS (1132 + 5 * c + 3) (by omega) (fun _ _ => by omega) (fun _ _ => by omega) (fun _ _ => by omega) (fun _ _ => by omega) (fun _ _ _ _ => by omega)) (uS (1645) (by omega) (fun _ _ => by omega) (fun _ _ => by omega) (fun _ _ => by omega) (fun _ _ => by omega) (fun _ _ _ _ => by omega)) h.2.wq2, W_wf_rg (fun k _ => uS (1432 + k) (by omega) (fun _ _ => by omega) (fun _ _ => by omega) (fun _ _ => by omega) (fun _ _ => by omega) (fun _ _ _ _ => by omega)) h.2.wf, W_wh_rg (fun b p _ _ => uS (21 * b + 5 + p) (by omega) (fun _ _ => by omega) (fun _ _ => by omega) (fun _ _ => by omega) (fun _ _ => by omega) (fun _ _ _ _ => by omega)) (fun t _ => uS (732 + 5 * t) (by omega) (fun _ _ => by omega) (fun _ _ => by omega) (fun _ _ => by omega) (fun _ _ => by omega) (fun _ _ _ _ => by omega)) (fun t _ => uS (732 + 5 * t + 4) (by omega) (fun _ _ => by omega) (fun _ _ => by omega) (fun _ _ => by omega) (fun _ _ => by omega) (fun _ _ _ _ => by omega)) h.2.wh⟩⟩
theorem gg_line2 {n m b p P : Nat} {C S C2 S2 : AT} {v4 : Int32} (h : GG n C S) (hm : m < 40) (hS : S 1640 = Int32.ofNat m) (hb : b < 12) (hp : p < 16) (hP1 : 1 ≤ P) (hP : P ≤ 8) (g4 : RG v4 0 30000) (hno : ∀ l, l < 40 → ¬ hat S (Int32.ofNat b) (Int32.ofNat p) l) (c0 : C2 (240 + 12 * m) = Int32.ofNat b) (s0 : S2 (252 + 12 * m) = Int32.ofNat b) (c1 : C2 (240 + 12 * m + 1) = Int32.ofNat p) (s1 : S2 (252 + 12 * m + 1) = Int32.ofNat p) (c2 : C2 (240 + 12 * m + 2) = Int32.ofNat P) (s2 : S2 (252 + 12 * m + 2) = Int32.ofNat P) (c3 : C2 (240 + 12 * m + 3) = 1) (s3 : S2 (252 + 12 * m + 3) = 1) (cs : ∀ i, i < P → C2 (240 + 12 * m + 4 + i) = v4) (ss : ∀ i, i < P → S2 (252 + 12 * m + 4 + i) = v4) (cN : C2 1868 = Int32.ofNat (m + 1)) (sN : S2 1640 = Int32.ofNat (m + 1)) (cn : ∀ j, (j < 240 + 12 * m ∨ 240 + 12 * m + 4 + P ≤ j) → j ≠ 1868 → C2 j = C j) (sn : ∀ j, (j < 252 + 12 * m ∨ 252 + 12 * m + 4 + P ≤ j) → j ≠ 1640 → S2 j = S j) : GG (n + 1) C2 S2 := by
  have tl : ∀ c, c < 40 → c ≠ m → Int32.ofNat c < S2 1640 → Int32.ofNat c < S 1640 := by
    intro c hc hne q
    rw [sN] at q
    have := (nat_lt (by omega) (by omega)).mp q
    rw [hS]
    exact (nat_lt (by omega) (by omega)).mpr (by omega)
  have hcN : ∀ c, c < 40 → c ≠ m → ∀ i, i < 12 → C2 (240 + 12 * c + i) = C (240 + 12 * c + i) := fun c hc hne i hi => cn _ (by omega) (by omega)
  have hsN : ∀ c, c < 40 → c ≠ m → ∀ i, i < 12 → S2 (252 + 12 * c + i) = S (252 + 12 * c + i) := fun c hc hne i hi => sn _ (by omega) (by omega)
  have hnot : ∀ c, c < 40 → c ≠ m → S2 (252 + 12 * c + 3) = 1 → S2 (252 + 12 * c) = Int32.ofNat b → S2 (252 + 12 * c + 1) = Int32.ofNat p → False := by
    intro c hc hne q3 q0 q1
    rw [hsN c hc hne 3 (by omega)] at q3
    rw [show S2 (252 + 12 * c) = S (252 + 12 * c) from hsN c hc hne 0 (by omega)] at q0
    rw [hsN c hc hne 1 (by omega)] at q1
    exact hno c hc ⟨⟨q3, q0⟩, q1⟩
  refine gg_line h (fun j h0 h1 h2 h3 h4 h5 => (cn j (Classical.byContradiction (fun q => by have a0 := h1 m hm; have a1 := h2 m hm; have a2 := h3 m hm; have a3 := h4 m hm; have a4 := h5 m (j - (240 + 12 * m + 4)) hm; omega)) h0).symm) (fun j h0 h1 h2 h3 h4 h5 => (sn j (Classical.byContradiction (fun q => by have a0 := h1 m hm; have a1 := h2 m hm; have a2 := h3 m hm; have a3 := h4 m hm; have a4 := h5 m (j - (252 + 12 * m + 4)) hm; omega)) h0).symm) ?_ ?_ ?_ ?_ ?_ ?_ ?_ ?_ ?_ ?_ ?_ ?_ ?_ ?_
  · intro c hc
    by_cases e : c = m
    · subst e; rw [c0, s0]
    · exact (hcN c hc e 0 (by omega)).trans ((h.1.rl0 c hc).trans (hsN c hc e 0 (by omega)).symm)
  · intro c hc
    by_cases e : c = m
    · subst e; rw [c1, s1]
    · exact (hcN c hc e 1 (by omega)).trans ((h.1.rl1 c hc).trans (hsN c hc e 1 (by omega)).symm)
  · intro c hc
    by_cases e : c = m
    · subst e; rw [c2, s2]
    · exact (hcN c hc e 2 (by omega)).trans ((h.1.rl2 c hc).trans (hsN c hc e 2 (by omega)).symm)
  · intro c hc
    by_cases e : c = m
    · subst e; rw [c3, s3]
    · exact (hcN c hc e 3 (by omega)).trans ((h.1.rl3 c hc).trans (hsN c hc e 3 (by omega)).symm)
  · intro c i hc hi
    by_cases e : c = m
    · subst e
      by_cases q : i < P
      · rw [cs i q, ss i q]
      · rw [cn _ (by omega) (by omega), sn _ (by omega) (by omega)]; exact h.1.rls c i hc hi
    · rw [cn _ (by omega) (by omega), sn _ (by omega) (by omega)]; exact h.1.rls c i hc hi
  · show C2 1868 = S2 1640
    rw [cN, sN]
  · show RG (S2 1640) 0 40
    rw [sN]; exact ⟨m + 1, by omega, by omega, rfl⟩
  · intro c hc q
    rw [sN] at q
    have := (nat_le (by omega) (by omega)).mp q
    rw [hsN c hc (by omega) 3 (by omega)]
    exact h.2.wl0 c hc (by rw [hS]; exact (nat_le (by omega) (by omega)).mpr (by omega))
  · intro c hc q
    by_cases e : c = m
    · subst e; rw [s0]; exact ⟨b, by omega, by omega, rfl⟩
    · have := h.2.wla c hc (tl c hc e q)
      rw [show S2 (252 + 12 * c) = S (252 + 12 * c) from hsN c hc e 0 (by omega)]; exact this
  · intro c hc q
    by_cases e : c = m
    · subst e; rw [s1]; exact ⟨p, by omega, by omega, rfl⟩
    · have := h.2.wlb c hc (tl c hc e q)
      rw [show S2 (252 + 12 * c + 1) = S (252 + 12 * c + 1) from hsN c hc e 1 (by omega)]; exact this
  · intro c hc q
    by_cases e : c = m
    · subst e; rw [s2]; exact ⟨P, by omega, by omega, rfl⟩
    · have := h.2.wlc c hc (tl c hc e q)
      rw [show S2 (252 + 12 * c + 2) = S (252 + 12 * c + 2) from hsN c hc e 2 (by omega)]; exact this
  · intro c hc q
    by_cases e : c = m
    · subst e; rw [s3]; exact ⟨1, by omega, by omega, rfl⟩
    · have := h.2.wld c hc (tl c hc e q)
      rw [show S2 (252 + 12 * c + 3) = S (252 + 12 * c + 3) from hsN c hc e 3 (by omega)]; exact this
  · intro c i hc hi q q2
    by_cases e : c = m
    · subst e
      rw [s2] at q2
      have := (nat_lt (by omega) (by omega)).mp q2
      rw [ss i this]; exact g4
    · rw [hsN c hc e 2 (by omega)] at q2
      rw [sn _ (by omega) (by omega)]
      exact h.2.wl2 c i hc hi (tl c hc e q) q2
  · intro c d hc hd hne q3 q4 q5 q6
    by_cases e : c = m
    · subst e
      rw [s0] at q5
      rw [s1] at q6
      exact hnot d hd (fun e => hne e.symm) q4 q5.symm q6.symm
    · by_cases e2 : d = m
      · subst e2
        rw [s0] at q5
        rw [s1] at q6
        exact hnot c hc e q3 q5 q6
      · rw [hsN c hc e 3 (by omega)] at q3
        rw [hsN d hd e2 3 (by omega)] at q4
        rw [show S2 (252 + 12 * c) = S (252 + 12 * c) from hsN c hc e 0 (by omega), show S2 (252 + 12 * d) = S (252 + 12 * d) from hsN d hd e2 0 (by omega)] at q5
        rw [hsN c hc e 1 (by omega), hsN d hd e2 1 (by omega)] at q6
        exact h.2.wl4 c d hc hd hne q3 q4 q5 q6
theorem aok_line (v1 v2 v3 v4 : Int32) : AOK (noJ (f_X6_addLine v1 v2 v3 v4)) (f_X12_line v1 v2 v3 v4) := by
  intro n O B V J M M1 hn sb hgg em sm
  have hf0 : M1 7 2 = 0 := sm.2.2.2.1
  have h5 : V 11 5 = 0 := sb.2.2.2.2.1
  have m0 : M1 0 = M 0 := sm.1
  rcases rng 12 (by omega) v1 with ⟨b, hb, rfl⟩ | hbad
  · have e3 := m_isBar_yes (M := M1) hb
    have e4 := m_rigged (M := M1) hb
    rw [m0] at e4
    have eb := m_bar0 (b := b) (M := M1)
    have i2 := is_no 2 hf0
    have i1 := is_no 1 hf0
    by_cases h1 : M 0 (21 * b) = 1
    · have e1 := c_refBar_yes h5 hgg hb h1
      have e5 := c_hasPlace v2 hgg hb
      have e6 := m_isPlace (M := M1) v2 hb
      rw [m0] at e6
      by_cases hv : v2 < 0 ∨ M 0 (21 * b + 1) ≤ v2
      · rw [if_pos hv] at e5 e6
        refine aok_ref 2 (by decide) sb sm (fun V2 er sr => ?_) (fun M2 M3 ei er2 => ?_)
        · simp only [f_X6_addLine_j126, f_X6_addLine, e1, e5, er, Option.bind_some, if_true, if_false, ite_self, i10, i01, ite01, ite10, true_or, or_true, false_or, or_false, leN, ite_not, not_true_eq_false, not_false_eq_true]
        · simp only [f_X12_line, f_X12_line_j17, f_X12_line_j38, f_X12_line_j60, f_X12_line_j67, em, e3, i2, e4, h1, i1, e6, ei, er2, Option.bind_some, if_true, if_false, ite_self, i10, i01, ite01, ite10, true_or, or_true, false_or, or_false, leN, ite_not, not_true_eq_false, not_false_eq_true]
      · rw [if_neg hv] at e5 e6
        obtain ⟨p, hp, rfl⟩ := place_of hgg hb h1 hv
        obtain ⟨m, -, m2, hm⟩ := hgg.2.wn0
        have hm1 : M1 0 1640 = Int32.ofNat m := by rw [m0]; exact hm
        have eN : f_X7_get 1868 1 6 0 0 V = some (Int32.ofNat m) := by rw [← hm]; exact nget (i := 0) hgg (by omega)
        have kN : ckA 1646 (1640 : Int32) = some 1640 := ck_lit (k := 1640) rfl (by omega) (by omega)
        have i8 := is_no 8 hf0
        have i11 := is_no 11 hf0
        have i3 := is_no 3 hf0
        have i7 := is_no 7 hf0
        have hline : f_X12_line (Int32.ofNat b) (Int32.ofNat p) v3 v4 M = lp (f_X12_line_B78 (Int32.ofNat b) (Int32.ofNat p) v3 v4 M1) fuel ((0 : Int32), (0 : Int32)) := by
          simp only [f_X12_line, f_X12_line_j17, f_X12_line_j38, f_X12_line_j60, em, e3, i2, e4, h1, i1, e6, Option.bind_some, if_true, if_false, ite_self, i10, i01, ite01, ite10, true_or, or_true, false_or, or_false, leN, ite_not, not_true_eq_false, not_false_eq_true]
        rcases c_placeHeld (v := Int32.ofNat b) (w := Int32.ofNat p) hgg with ⟨eh, l, hl, hh⟩ | ⟨eh, hno⟩
        · have ht := hat_told hgg hl hh
          rw [hm] at ht
          have hloop := m_lineLoop (M := M1) (Int32.ofNat b) (Int32.ofNat p) v3 v4 1 m2 hm1 (Or.inl ⟨rfl, l, (nat_lt (by omega) (by omega)).mp ht, by rw [m0]; exact hh⟩)
          rw [hline, hloop]
          refine aok_ref 8 (by decide) sb sm (fun V2 er sr => ?_) (fun M2 M3 ei er2 => ?_)
          · simp only [f_X6_addLine_j126, f_X6_addLine, e1, e5, eh, er, Option.bind_some, if_true, if_false, ite_self, i10, i01, ite01, ite10, true_or, or_true, false_or, or_false, leN, ite_not, not_true_eq_false, not_false_eq_true]
          · simp only [lineX, f_X12_line_j67, f_X12_line_j221, f_X12_line_j213, f_X12_line_j208, f_X12_line_j178, f_X12_line_j160, f_X12_line_j122, f_X12_line_j117, f_X12_line_j121, f_X12_line_j60, f_X12_line_j38, f_X12_line_j17, f_X12_line, ei, er2, Option.bind_some, if_true, if_false, ite_self, i10, i01, ite01, ite10, true_or, or_true, false_or, or_false, leN, ite_not, not_true_eq_false, not_false_eq_true]
        · have hloop := m_lineLoop (M := M1) (Int32.ofNat b) (Int32.ofNat p) v3 v4 0 m2 hm1 (Or.inr ⟨rfl, fun l hl => by rw [m0]; exact hno l (by omega)⟩)
          rw [hline, hloop]
          by_cases hf : m = 40
          · subst hf
            refine aok_ref 11 (by decide) sb sm (fun V2 er sr => ?_) (fun M2 M3 ei er2 => ?_)
            · have c1 : ¬ Int32.ofNat 40 < (40 : Int32) := by decide
              simp only [f_X6_addLine_j126, f_X6_addLine, e1, e5, eh, eN, c1, er, Option.bind_some, if_true, if_false, ite_self, i10, i01, ite01, ite10, true_or, or_true, false_or, or_false, leN, ite_not, not_true_eq_false, not_false_eq_true]
            · have c2 : (Int32.ofNat 40 = (40 : Int32)) = True := eq_true rfl
              simp only [lineX, f_X12_line_j67, f_X12_line_j221, f_X12_line_j213, f_X12_line_j208, f_X12_line_j178, f_X12_line_j160, f_X12_line_j122, f_X12_line_j117, f_X12_line_j121, f_X12_line_j60, f_X12_line_j38, f_X12_line_j17, f_X12_line, i8, kN, hm1, c2, ei, er2, Option.bind_some, if_true, if_false, ite_self, i10, i01, ite01, ite10, true_or, or_true, false_or, or_false, leN, ite_not, not_true_eq_false, not_false_eq_true]
          · have hm4 : m < 40 := by omega
            have c1 : Int32.ofNat m < (40 : Int32) := (nat_lt (b := 40) (by omega) (by omega)).mpr hm4
            have c2 : ¬ Int32.ofNat m = (40 : Int32) := fun q => hf ((nat_eq (b := 40) (by omega) (by omega)).mp q)
            by_cases h3 : v3 < 0
            · refine aok_ref 3 (by decide) sb sm (fun V2 er sr => ?_) (fun M2 M3 ei er2 => ?_)
              · simp only [f_X6_addLine_j126, f_X6_addLine, e1, e5, eh, eN, c1, h3, er, Option.bind_some, if_true, if_false, ite_self, i10, i01, ite01, ite10, true_or, or_true, false_or, or_false, leN, ite_not, not_true_eq_false, not_false_eq_true]
              · simp only [lineX, f_X12_line_j67, f_X12_line_j221, f_X12_line_j213, f_X12_line_j208, f_X12_line_j178, f_X12_line_j160, f_X12_line_j122, f_X12_line_j117, f_X12_line_j121, f_X12_line_j60, f_X12_line_j38, f_X12_line_j17, f_X12_line, i8, kN, hm1, c2, i11, h3, ei, er2, Option.bind_some, if_true, if_false, ite_self, i10, i01, ite01, ite10, true_or, or_true, false_or, or_false, leN, ite_not, not_true_eq_false, not_false_eq_true]
            · by_cases h4 : v3 < 1 ∨ 8 < v3 ∨ v4 < 0 ∨ 30000 < v4
              · refine aok_ref 7 (by decide) sb sm (fun V2 er sr => ?_) (fun M2 M3 ei er2 => ?_)
                · rcases h4 with h4 | h4 | h4 | h4
                  all_goals simp only [f_X6_addLine_j126, f_X6_addLine, e1, e5, eh, eN, c1, h3, h4, er, Option.bind_some, if_true, if_false, ite_self, i10, i01, ite01, ite10, true_or, or_true, false_or, or_false, leN, ite_not, not_true_eq_false, not_false_eq_true]
                · rcases h4 with h4 | h4 | h4 | h4
                  all_goals simp only [lineX, f_X12_line_j67, f_X12_line_j221, f_X12_line_j213, f_X12_line_j208, f_X12_line_j178, f_X12_line_j160, f_X12_line_j122, f_X12_line_j117, f_X12_line_j121, f_X12_line_j60, f_X12_line_j38, f_X12_line_j17, f_X12_line, i8, kN, hm1, c2, i11, h3, i3, in_eq, h4, ei, er2, Option.bind_some, if_true, if_false, ite_self, i10, i01, ite01, ite10, true_or, or_true, false_or, or_false, leN, ite_not, not_true_eq_false, not_false_eq_true]
              · have q1 : ¬ v3 < 1 := fun q => h4 (Or.inl q)
                have q2 : ¬ 8 < v3 := fun q => h4 (Or.inr (Or.inl q))
                have q3 : ¬ v4 < 0 := fun q => h4 (Or.inr (Or.inr (Or.inl q)))
                have q4 : ¬ 30000 < v4 := fun q => h4 (Or.inr (Or.inr (Or.inr q)))
                obtain ⟨P, hP1, hP, rfl⟩ := rg_of2 (lo := 1) (hi := 8) (by omega) (by omega) q1 q2
                have eC : ∀ x V, f_X7_set 1868 1 6 0 0 x V = f_X4_write (Int32.ofNat 1868) x V := fun x V => scount (c := 0) x (by omega)
                have es0 : ∀ x V, f_X7_set 240 40 12 (Int32.ofNat m) 0 x V = f_X4_write (Int32.ofNat (240 + 12 * m + 0)) x V := fun x V => sline (c := 0) x hm4 (by omega)
                have es1 : ∀ x V, f_X7_set 240 40 12 (Int32.ofNat m) 1 x V = f_X4_write (Int32.ofNat (240 + 12 * m + 1)) x V := fun x V => sline (c := 1) x hm4 (by omega)
                have es2 : ∀ x V, f_X7_set 240 40 12 (Int32.ofNat m) 2 x V = f_X4_write (Int32.ofNat (240 + 12 * m + 2)) x V := fun x V => sline (c := 2) x hm4 (by omega)
                have es3 : ∀ x V, f_X7_set 240 40 12 (Int32.ofNat m) 3 x V = f_X4_write (Int32.ofNat (240 + 12 * m + 3)) x V := fun x V => sline (c := 3) x hm4 (by omega)
                obtain ⟨W0, ew0, sw0, -⟩ := st_write (c := 1868) (Int32.ofNat (m + 1)) sb (by omega) (by omega)
                obtain ⟨W1, ew1, sw1, -⟩ := st_write (c := 240 + 12 * m + 0) (Int32.ofNat b) sw0 (by omega) (by omega)
                obtain ⟨W2, ew2, sw2, -⟩ := st_write (c := 240 + 12 * m + 1) (Int32.ofNat p) sw1 (by omega) (by omega)
                obtain ⟨W3, ew3, sw3, -⟩ := st_write (c := 240 + 12 * m + 2) (Int32.ofNat P) sw2 (by omega) (by omega)
                obtain ⟨W4, ew4, sw4, -⟩ := st_write (c := 240 + 12 * m + 3) 1 sw3 (by omega) (by omega)
                obtain ⟨W5, ew5, sw5⟩ := c_fill v4 hm4 hP sw4
                have t0 := sm
                have t1 := ms_put (k := 252 + 12 * m) (Int32.ofNat b) t0 (by omega)
                have t2 := ms_put (k := 252 + 12 * m + 1) (Int32.ofNat p) t1 (by omega)
                have t3 := ms_put (k := 252 + 12 * m + 2) (Int32.ofNat P) t2 (by omega)
                have t4 := ms_put (k := 252 + 12 * m + 3) 1 t3 (by omega)
                have r0 : (u2 (u2 (u2 (u2 M1 0 (252 + 12 * m) (Int32.ofNat b)) 0 (252 + 12 * m + 1) (Int32.ofNat p)) 0 (252 + 12 * m + 2) (Int32.ofNat P)) 0 (252 + 12 * m + 3) 1) 0 1640 = Int32.ofNat m := by rw [u2r_ne (by omega), u2r_ne (by omega), u2r_ne (by omega), u2r_ne (by omega), m0]; exact hm
                have ef := m_fill (M := (u2 (u2 (u2 (u2 M1 0 (252 + 12 * m) (Int32.ofNat b)) 0 (252 + 12 * m + 1) (Int32.ofNat p)) 0 (252 + 12 * m + 2) (Int32.ofNat P)) 0 (252 + 12 * m + 3) 1)) v4 hm4 hP r0
                have t5 := ms_row (fil ((u2 (u2 (u2 (u2 M1 0 (252 + 12 * m) (Int32.ofNat b)) 0 (252 + 12 * m + 1) (Int32.ofNat p)) 0 (252 + 12 * m + 2) (Int32.ofNat P)) 0 (252 + 12 * m + 3) 1) 0) (252 + 12 * m + 4) v4 P) t4 (fun k hk => by rw [fil_out (by omega), t4.1])
                have t6 := ms_put (k := 1640) (Int32.ofNat (m + 1)) t5 (by omega)
                rw [t4.1] at t6 ef
                have ea : (252 : Int32) + 12 * Int32.ofNat m = Int32.ofNat (252 + 12 * m) := by rw [Int32.ofNat_add, Int32.ofNat_mul]; rfl
                have k0 : ckA 1646 (Int32.ofNat (252 + 12 * m)) = some (252 + 12 * m) := ck_nat (by omega) (by omega)
                have k1 : ckA 1646 (Int32.ofNat (252 + 12 * m) + 1) = some (252 + 12 * m + 1) := ck_lit (Int32.ofNat_add (252 + 12 * m) 1).symm (by omega) (by omega)
                have k2 : ckA 1646 (Int32.ofNat (252 + 12 * m) + 2) = some (252 + 12 * m + 2) := ck_lit (Int32.ofNat_add (252 + 12 * m) 2).symm (by omega) (by omega)
                have k3 : ckA 1646 (Int32.ofNat (252 + 12 * m) + 3) = some (252 + 12 * m + 3) := ck_lit (Int32.ofNat_add (252 + 12 * m) 3).symm (by omega) (by omega)
                refine aok_done (r := Int32.ofNat m) sw5 t6 ?_ ?_ ?_
                · simp only [f_X6_addLine_j126, f_X6_addLine, e1, e5, eh, eN, c1, h3, q1, q2, q3, q4, nat_succ, eC, ew0, es0, ew1, es1, ew2, es2, ew3, es3, ew4, ew5, Option.bind_some, if_true, if_false, ite_self, i10, i01, ite01, ite10, true_or, or_true, false_or, or_false, leN, ite_not, not_true_eq_false, not_false_eq_true]
                · rw [← ef]
                  simp only [lineX, f_X12_line_j67, f_X12_line_j221, f_X12_line_j213, f_X12_line_j208, f_X12_line_j178, f_X12_line_j160, f_X12_line_j122, f_X12_line_j117, f_X12_line_j121, f_X12_line_j60, f_X12_line_j38, f_X12_line_j17, f_X12_line, i8, kN, hm1, c2, i11, h3, i3, in_eq, q1, q2, q3, q4, i7, ea, k0, k1, k2, k3, Option.bind_some, if_true, if_false, ite_self, i10, i01, ite01, ite10, true_or, or_true, false_or, or_false, leN, ite_not, not_true_eq_false, not_false_eq_true]
                · refine gg_line2 hgg hm4 hm hb hp hP1 hP (rg_of (by omega) q3 q4) hno ?_ ?_ ?_ ?_ ?_ ?_ ?_ ?_ ?_ ?_ ?_ ?_ ?_ ?_
                  · rw [fil_out (by omega), upd_ne (by omega), upd_ne (by omega), upd_ne (by omega), upd_at, if_pos (by omega)]
                  · rw [upd_ne (by omega), fil_out (by omega), upd_ne (by omega), upd_ne (by omega), upd_ne (by omega), upd_same]
                  · rw [fil_out (by omega), upd_ne (by omega), upd_ne (by omega), upd_at, if_pos (by omega)]
                  · rw [upd_ne (by omega), fil_out (by omega), upd_ne (by omega), upd_ne (by omega), upd_same]
                  · rw [fil_out (by omega), upd_ne (by omega), upd_at, if_pos (by omega)]
                  · rw [upd_ne (by omega), fil_out (by omega), upd_ne (by omega), upd_same]
                  · rw [fil_out (by omega), upd_at, if_pos (by omega)]
                  · rw [upd_ne (by omega), fil_out (by omega), upd_same]
                  · intro i hi; rw [fil_in (by omega)]
                  · intro i hi; rw [upd_ne (by omega), fil_in (by omega)]
                  · rw [fil_out (by omega), upd_ne (by omega), upd_ne (by omega), upd_ne (by omega), upd_ne (by omega), upd_same]
                  · rw [upd_same]
                  · intro j a1 a2; rw [fil_out (by omega), upd_ne (by omega), upd_ne (by omega), upd_ne (by omega), upd_ne (by omega), upd_ne (by omega)]
                  · intro j a1 a2; rw [upd_ne (by omega), fil_out (by omega), upd_ne (by omega), upd_ne (by omega), upd_ne (by omega), upd_ne (by omega)]
    · refine aok_ref 1 (by decide) sb sm (fun V2 er sr => ?_) (fun M2 M3 ei er2 => ?_)
      · have e1 := c_bar_ref (by decide) (Or.inr ⟨b, n, _, rfl, hb, hgg, h1, rfl⟩) er sr
        simp only [f_X6_addLine_j126, f_X6_addLine, e1, Option.bind_some, if_true, if_false, ite_self, i10, i01, ite01, ite10, true_or, or_true, false_or, or_false, leN, ite_not, not_true_eq_false, not_false_eq_true]
      · simp only [f_X12_line_j67, f_X12_line_j221, f_X12_line_j213, f_X12_line_j208, f_X12_line_j178, f_X12_line_j160, f_X12_line_j122, f_X12_line_j117, f_X12_line_j121, f_X12_line_j60, f_X12_line_j38, f_X12_line_j17, f_X12_line, em, e3, i2, e4, h1, ei, er2, Option.bind_some, if_true, if_false, ite_self, i10, i01, ite01, ite10, true_or, or_true, false_or, or_false, leN, ite_not, not_true_eq_false, not_false_eq_true]
  · have e3 := m_isBar_no (M := M1) hbad
    refine aok_ref 2 (by decide) sb sm (fun V2 er sr => ?_) (fun M2 M3 ei er2 => ?_)
    · have e1 := c_bar_ref (by decide) (Or.inl ⟨hbad, rfl⟩) er sr
      simp only [f_X6_addLine_j126, f_X6_addLine, e1, Option.bind_some, if_true, if_false, ite_self, i10, i01, ite01, ite10, true_or, or_true, false_or, or_false, leN, ite_not, not_true_eq_false, not_false_eq_true]
    · simp only [f_X12_line_j67, f_X12_line_j221, f_X12_line_j213, f_X12_line_j208, f_X12_line_j178, f_X12_line_j160, f_X12_line_j122, f_X12_line_j117, f_X12_line_j121, f_X12_line_j60, f_X12_line_j38, f_X12_line_j17, f_X12_line, em, e3, ei, er2, Option.bind_some, if_true, if_false, ite_self, i10, i01, ite01, ite10, true_or, or_true, false_or, or_false, leN, ite_not, not_true_eq_false, not_false_eq_true]
theorem o_line : O_line (IG GG) := fun _ _ _ _ _ v1 v2 v3 v4 hn hI => aok_run (aok_line v1 v2 v3 v4) hn hI aok_nF
