/-! cues that are not over; hush -/
theorem bsm {α β : Type} (x : α) (f : α → Option β) : (some x).bind f = f x := Eq.trans (Option.bind_some x f) rfl
abbrev nov (S : AT) (c : Nat) : Prop := S (1132 + 5 * c + 4) = 0 ∧ ¬ S (1132 + 5 * c + 2) + S (1132 + 5 * c + 3) ≤ S 1645
theorem nov_cst {n : Nat} {C S : AT} {c : Nat} (h : GG n C S) (hn : n ≤ 1000) (hc : c < 60) (ht : Int32.ofNat c < S 1642) : (cst S c = 0 ∨ cst S c = 1) ↔ nov S c := by
  obtain ⟨n1, n2⟩ := cue_nums h hn hc ht
  obtain ⟨-, -, ⟨a, a1, a2, a3⟩, ⟨d, d1, d2, d3⟩, -⟩ := h.2.wq c hc ht
  have e1 := ti_nat (n := a) (by omega)
  have e2 := ti_nat (n := d) (by omega)
  have k : ¬ S (1132 + 5 * c + 2) ≤ S 1645 → ¬ S (1132 + 5 * c + 2) + S (1132 + 5 * c + 3) ≤ S 1645 := by
    intro q p
    rw [Int32.le_iff_toInt_le] at q p
    rw [n2] at p
    rw [a3, d3] at p
    rw [a3] at q
    omega
  unfold cst nov
  by_cases h0 : S (1132 + 5 * c + 4) = 0
  · rw [if_neg (fun q => q h0)]
    by_cases h1 : S (1132 + 5 * c + 2) ≤ S 1645
    · rw [if_pos h1]
      by_cases h2 : S (1132 + 5 * c + 2) + S (1132 + 5 * c + 3) ≤ S 1645
      · rw [if_pos h2]
        exact ⟨fun q => absurd q (by decide), fun q => absurd h2 q.2⟩
      · rw [if_neg h2]
        exact ⟨fun _ => ⟨h0, h2⟩, fun _ => Or.inr rfl⟩
    · rw [if_neg h1]
      exact ⟨fun _ => ⟨h0, k h1⟩, fun _ => Or.inl rfl⟩
  · rw [if_pos h0]
    exact ⟨fun q => absurd q (by decide), fun q => absurd q.1 h0⟩
theorem c_pending {n : Nat} {V : VT} {S : AT} {c : Nat} (v : Int32) (h : GG n (V 0) S) (hn : n ≤ 1000) (hc : c < 60) (ht : Int32.ofNat c < S 1642) : f_X3_isPendingCue (Int32.ofNat c) v V = some (if S (1132 + 5 * c) = v ∧ nov S c then 1 else 0) := by
  have e0 : f_X7_get 1368 60 5 (Int32.ofNat c) 0 V = some (S (1132 + 5 * c)) := qget (i := 0) h hc (by omega)
  have k := nov_cst h hn hc ht
  unfold f_X3_isPendingCue f_X3_isPendingCue_j30
  rw [e0]; simp only [Option.bind_some]
  by_cases q : S (1132 + 5 * c) = v
  · rw [if_pos q, c_cueState h hn hc ht]; simp only [Option.bind_some]
    by_cases q2 : nov S c
    · rw [show (if S (1132 + 5 * c) = v ∧ nov S c then (1 : Int32) else 0) = 1 from if_pos ⟨q, q2⟩]
      rcases k.mpr q2 with e | e
      · rw [if_pos e]
      · rw [e, if_neg (by decide), if_pos rfl]
    · rw [show (if S (1132 + 5 * c) = v ∧ nov S c then (1 : Int32) else 0) = 0 from if_neg (fun p => q2 p.2), if_neg (fun e => q2 (k.mp (Or.inl e))), if_neg (fun e => q2 (k.mp (Or.inr e)))]
  · rw [if_neg q, if_neg (fun p => q p.1)]
theorem m_notOver {M : VT} {c : Nat} (hc : c < 60) : f_X12_isNotOver (Int32.ofNat c) M = some (if nov (M 0) c then 1 else 0) := by
  have e4 : f_X12_cueIs (Int32.ofNat c) 4 M = some (M 0 (1132 + 5 * c + 4)) := m_cueIs (i := 4) hc (by omega)
  have e2 : f_X12_cueIs (Int32.ofNat c) 2 M = some (M 0 (1132 + 5 * c + 2)) := m_cueIs (i := 2) hc (by omega)
  have e3 : f_X12_cueIs (Int32.ofNat c) 3 M = some (M 0 (1132 + 5 * c + 3)) := m_cueIs (i := 3) hc (by omega)
  have ek : ckA 1646 (1645 : Int32) = some 1645 := ck_lit (k := 1645) rfl (by omega) (by omega)
  unfold f_X12_isNotOver f_X12_isNotOver_j37
  rw [e4]; simp only [Option.bind_some]
  by_cases h0 : M 0 (1132 + 5 * c + 4) = 0
  · rw [if_pos h0, ek]; simp only [Option.bind_some]
    rw [e2]; simp only [Option.bind_some]
    rw [e3]; simp only [Option.bind_some]
    by_cases h2 : M 0 (1132 + 5 * c + 2) + M 0 (1132 + 5 * c + 3) ≤ M 0 1645
    · rw [if_pos h2, if_neg (fun q => q.2 h2)]
    · rw [if_neg h2, if_pos ⟨h0, h2⟩]
  · rw [if_neg h0, if_neg (fun q => h0 q.1)]
/-! cues are ended one behind the other -/
theorem gg_end {n : Nat} {C C2 S S2 : AT} (h0 : GG n C S) (uC : ∀ j, (∀ c : Nat, c < 60 → j ≠ 1368 + 5 * c + 4) → C j = C2 j) (uS : ∀ j, (∀ c : Nat, c < 60 → j ≠ 1132 + 5 * c + 4) → S j = S2 j) (a_rq4 : R_rq4 C2 S2) (a_wqe : W_wqe n S2) (a_wq2 : W_wq2 n S2) : GG n C2 S2 := by
  have h := h0
  exact ⟨⟨R_rb0_rg (fun b _ => uC (4 * b) (fun _ _ => by omega)) (fun b _ => uS (21 * b + 1) (fun _ _ => by omega)) h.1.rb0, R_rb1_rg (fun b _ => uC (4 * b + 1) (fun _ _ => by omega)) (fun b _ => uS (21 * b + 2) (fun _ _ => by omega)) h.1.rb1, R_rb2_rg (fun b _ => uC (4 * b + 2) (fun _ _ => by omega)) (fun b _ => uS (21 * b + 3) (fun _ _ => by omega)) h.1.rb2, R_rb3_rg (fun b _ => uC (4 * b + 3) (fun _ _ => by omega)) (fun b _ => uS (21 * b + 4) (fun _ _ => by omega)) h.1.rb3, R_rc_rg (fun b p _ _ => uC (48 + 16 * b + p) (fun _ _ => by omega)) (fun b p _ _ => uS (21 * b + 5 + p) (fun _ _ => by omega)) h.1.rc, R_rl0_rg (fun l _ => uC (240 + 12 * l) (fun _ _ => by omega)) (fun l _ => uS (252 + 12 * l) (fun _ _ => by omega)) h.1.rl0, R_rl1_rg (fun l _ => uC (240 + 12 * l + 1) (fun _ _ => by omega)) (fun l _ => uS (252 + 12 * l + 1) (fun _ _ => by omega)) h.1.rl1, R_rl2_rg (fun l _ => uC (240 + 12 * l + 2) (fun _ _ => by omega)) (fun l _ => uS (252 + 12 * l + 2) (fun _ _ => by omega)) h.1.rl2, R_rl3_rg (fun l _ => uC (240 + 12 * l + 3) (fun _ _ => by omega)) (fun l _ => uS (252 + 12 * l + 3) (fun _ _ => by omega)) h.1.rl3, R_rls_rg (fun l i _ _ => uC (240 + 12 * l + 4 + i) (fun _ _ => by omega)) (fun l i _ _ => uS (252 + 12 * l + 4 + i) (fun _ _ => by omega)) h.1.rls, R_rt0_rg (fun t _ => uC (720 + 8 * t) (fun _ _ => by omega)) (fun t _ => uS (732 + 5 * t) (fun _ _ => by omega)) h.1.rt0, R_rt1_rg (fun t _ => uC (720 + 8 * t + 1) (fun _ _ => by omega)) (fun t _ => uS (732 + 5 * t + 1) (fun _ _ => by omega)) h.1.rt1, R_rt2_rg (fun t _ => uC (720 + 8 * t + 2) (fun _ _ => by omega)) (fun t _ => uS (732 + 5 * t + 2) (fun _ _ => by omega)) h.1.rt2, R_rt3_rg (fun t _ => uC (720 + 8 * t + 3) (fun _ _ => by omega)) (fun t _ => uS (732 + 5 * t + 3) (fun _ _ => by omega)) h.1.rt3, R_rh_rg (fun t _ => uC (720 + 8 * t + 5) (fun _ _ => by omega)) (fun t _ => uS (732 + 5 * t + 4) (fun _ _ => by omega)) h.1.rh, R_rf_rg (fun k _ => uC (1360 + k) (fun _ _ => by omega)) (fun k _ => uS (1432 + k) (fun _ _ => by omega)) h.1.rf, R_rq0_rg (fun c _ => uC (1368 + 5 * c) (fun _ _ => by omega)) (fun c _ => uS (1132 + 5 * c) (fun _ _ => by omega)) h.1.rq0, R_rq1_rg (fun c _ => uC (1368 + 5 * c + 1) (fun _ _ => by omega)) (fun c _ => uS (1132 + 5 * c + 1) (fun _ _ => by omega)) h.1.rq1, R_rq2_rg (fun c _ => uC (1368 + 5 * c + 2) (fun _ _ => by omega)) (fun c _ => uS (1132 + 5 * c + 2) (fun _ _ => by omega)) h.1.rq2, R_rq3_rg (fun c _ => uC (1368 + 5 * c + 3) (fun _ _ => by omega)) (fun c _ => uS (1132 + 5 * c + 3) (fun _ _ => by omega)) h.1.rq3, a_rq4, R_rn0_rg (uC (1868) (fun _ _ => by omega)) (uS (1640) (fun _ _ => by omega)) h.1.rn0, R_rn1_rg (uC (1869) (fun _ _ => by omega)) (uS (1641) (fun _ _ => by omega)) h.1.rn1, R_rn2_rg (uC (1870) (fun _ _ => by omega)) (uS (1642) (fun _ _ => by omega)) h.1.rn2, R_rn3_rg (uC (1871) (fun _ _ => by omega)) (uS (1643) (fun _ _ => by omega)) h.1.rn3, R_rn4_rg (uC (1872) (fun _ _ => by omega)) (uS (1644) (fun _ _ => by omega)) h.1.rn4, R_rn5_rg (uC (1873) (fun _ _ => by omega)) (uS (1645) (fun _ _ => by omega)) h.1.rn5, R_rg_rg (uS (1641) (fun _ _ => by omega)) (fun t _ => uS (732 + 5 * t) (fun _ _ => by omega)) (fun t _ => uS (732 + 5 * t + 3) (fun _ _ => by omega)) (fun t _ => uC (720 + 8 * t + 4) (fun _ _ => by omega)) h.1.rg, R_rp_rg (uS (1641) (fun _ _ => by omega)) (fun t _ => uS (732 + 5 * t) (fun _ _ => by omega)) (fun b p _ _ => uS (21 * b + 5 + p) (fun _ _ => by omega)) (fun t _ => uC (720 + 8 * t + 6) (fun _ _ => by omega)) (fun t _ => uC (720 + 8 * t + 7) (fun _ _ => by omega)) h.1.rp, R_rs_rg (uS (1643) (fun _ _ => by omega)) (fun k _ => uS (1440 + k) (fun _ _ => by omega)) (fun k _ => uC (1668 + k) (fun _ _ => by omega)) h.1.rs⟩, ⟨W_wn0_rg (uS (1640) (fun _ _ => by omega)) h.2.wn0, W_wn1_rg (uS (1641) (fun _ _ => by omega)) h.2.wn1, W_wn2_rg (uS (1642) (fun _ _ => by omega)) h.2.wn2, W_wn3_rg (uS (1643) (fun _ _ => by omega)) h.2.wn3, W_wn4_rg (uS (1644) (fun _ _ => by omega)) h.2.wn4, W_wn5_rg (uS (1645) (fun _ _ => by omega)) h.2.wn5, W_wb0_rg (fun b _ => uS (21 * b) (fun _ _ => by omega)) h.2.wb0, W_wbp_rg (fun b _ => uS (21 * b) (fun _ _ => by omega)) (fun b _ => uS (21 * b + 1) (fun _ _ => by omega)) h.2.wbp, W_wbg_rg (fun b _ => uS (21 * b) (fun _ _ => by omega)) (fun b _ => uS (21 * b + 2) (fun _ _ => by omega)) h.2.wbg, W_wbh_rg (fun b _ => uS (21 * b) (fun _ _ => by omega)) (fun b _ => uS (21 * b + 3) (fun _ _ => by omega)) h.2.wbh, W_wbk_rg (fun b _ => uS (21 * b) (fun _ _ => by omega)) (fun b _ => uS (21 * b + 4) (fun _ _ => by omega)) h.2.wbk, W_wb2_rg (fun b _ => uS (21 * b) (fun _ _ => by omega)) (fun b _ => uS (21 * b + 1) (fun _ _ => by omega)) h.2.wb2, W_wb2g_rg (fun b _ => uS (21 * b) (fun _ _ => by omega)) (fun b _ => uS (21 * b + 2) (fun _ _ => by omega)) h.2.wb2g, W_wb3_rg (fun b _ => uS (21 * b + 1) (fun _ _ => by omega)) (fun b p _ _ => uS (21 * b + 5 + p) (fun _ _ => by omega)) h.2.wb3, W_wb4_rg (fun b _ => uS (21 * b + 3) (fun _ _ => by omega)) h.2.wb4, W_wb4k_rg (fun b _ => uS (21 * b + 4) (fun _ _ => by omega)) h.2.wb4k, W_wb5_rg (fun b p _ _ => uS (21 * b + 5 + p) (fun _ _ => by omega)) (uS (1641) (fun _ _ => by omega)) h.2.wb5, W_wl0_rg (uS (1640) (fun _ _ => by omega)) (fun l _ => uS (252 + 12 * l + 3) (fun _ _ => by omega)) h.2.wl0, W_wla_rg (uS (1640) (fun _ _ => by omega)) (fun l _ => uS (252 + 12 * l) (fun _ _ => by omega)) h.2.wla, W_wlb_rg (uS (1640) (fun _ _ => by omega)) (fun l _ => uS (252 + 12 * l + 1) (fun _ _ => by omega)) h.2.wlb, W_wlc_rg (uS (1640) (fun _ _ => by omega)) (fun l _ => uS (252 + 12 * l + 2) (fun _ _ => by omega)) h.2.wlc, W_wld_rg (uS (1640) (fun _ _ => by omega)) (fun l _ => uS (252 + 12 * l + 3) (fun _ _ => by omega)) h.2.wld, W_wl2_rg (uS (1640) (fun _ _ => by omega)) (fun l _ => uS (252 + 12 * l + 2) (fun _ _ => by omega)) (fun l i _ _ => uS (252 + 12 * l + 4 + i) (fun _ _ => by omega)) h.2.wl2, W_wl4_rg (fun l _ => uS (252 + 12 * l + 3) (fun _ _ => by omega)) (fun l _ => uS (252 + 12 * l) (fun _ _ => by omega)) (fun l _ => uS (252 + 12 * l + 1) (fun _ _ => by omega)) h.2.wl4, W_wt0_rg (uS (1641) (fun _ _ => by omega)) (fun t _ => uS (732 + 5 * t) (fun _ _ => by omega)) h.2.wt0, W_wt1_rg (uS (1641) (fun _ _ => by omega)) (fun t _ => uS (732 + 5 * t + 1) (fun _ _ => by omega)) h.2.wt1, W_wt2_rg (uS (1641) (fun _ _ => by omega)) (fun t _ => uS (732 + 5 * t + 2) (fun _ _ => by omega)) h.2.wt2, W_wt3_rg (uS (1641) (fun _ _ => by omega)) (fun t _ => uS (732 + 5 * t + 3) (fun _ _ => by omega)) h.2.wt3, W_wt4_rg (uS (1641) (fun _ _ => by omega)) (fun t _ => uS (732 + 5 * t + 4) (fun _ _ => by omega)) (fun t _ => uS (732 + 5 * t) (fun _ _ => by omega)) h.2.wt4, W_wqa_rg (uS (1642) (fun _ _ => by omega)) (fun c _ => uS (1132 + 5 * c) (fun _ _ => by omega)) h.2.wqa, W_wqb_rg (uS (1642) (fun _ _ => by omega)) (fun c _ => uS (1132 + 5 * c + 1) (fun _ _ => by omega)) h.2.wqb, W_wqc_rg (uS (1642) (fun _ _ => by omega)) (fun c _ => uS (1132 + 5 * c + 2) (fun _ _ => by omega)) h.2.wqc, W_wqd_rg (uS (1642) (fun _ _ => by omega)) (fun c _ => uS (1132 + 5 * c + 3) (fun _ _ => by omega)) h.2.wqd, a_wqe, a_wq2, W_wf_rg (fun k _ => uS (1432 + k) (fun _ _ => by omega)) h.2.wf, W_wh_rg (fun b p _ _ => uS (21 * b + 5 + p) (fun _ _ => by omega)) (fun t _ => uS (732 + 5 * t) (fun _ _ => by omega)) (fun t _ => uS (732 + 5 * t + 4) (fun _ _ => by omega)) h.2.wh⟩⟩
theorem gg_end2 {n c : Nat} {C S : AT} (h : GG n C S) (hc : c < 60) : GG n (upd C (1368 + 5 * c + 4) 1) (upd S (1132 + 5 * c + 4) 1) := by
  refine gg_end h (fun j hj => by rw [upd_ne (hj c hc)]) (fun j hj => by rw [upd_ne (hj c hc)]) ?_ ?_ ?_
  · intro d hd
    by_cases e : d = c
    · subst e; rw [upd_same, upd_same]
    · rw [upd_ne (by omega), upd_ne (by omega)]; exact h.1.rq4 d hd
  · intro d hd q
    rw [upd_ne (by omega)] at q
    by_cases e : d = c
    · subst e; rw [upd_same]; exact ⟨1, by omega, by omega, rfl⟩
    · rw [upd_ne (by omega)]; exact h.2.wqe d hd q
  · intro d b hd hb q q0 qb
    rw [upd_ne (by omega)] at q
    rw [upd_ne (by omega)] at q0
    rw [upd_ne (by omega)] at qb
    by_cases e : d = c
    · subst e; exact Or.inl upd_same
    · rw [upd_ne (by omega), upd_ne (by omega), upd_ne (by omega), upd_ne (by omega)]
      exact h.2.wq2 d b hd hb q q0 qb
/-- p says which cues are ended -/
def hus (p : AT → Nat → Bool) (S : AT) : Nat → AT
  | 0 => S
  | k + 1 => if p (hus p S k) k = true then upd (hus p S k) (1132 + 5 * k + 4) 1 else hus p S k
def hcs (p : AT → Nat → Bool) (C S : AT) : Nat → AT
  | 0 => C
  | k + 1 => if p (hus p S k) k = true then upd (hcs p C S k) (1368 + 5 * k + 4) 1 else hcs p C S k
def hcn (p : AT → Nat → Bool) (S : AT) : Nat → Nat
  | 0 => 0
  | k + 1 => if p (hus p S k) k = true then hcn p S k + 1 else hcn p S k
theorem hu_gg {n : Nat} {p : AT → Nat → Bool} {C S : AT} (h : GG n C S) : ∀ k, k ≤ 60 → GG n (hcs p C S k) (hus p S k) := by
  intro k
  induction k with
  | zero => intro _; exact h
  | succ k ih =>
    intro hk
    have := ih (by omega)
    unfold hus hcs
    by_cases q : p (hus p S k) k = true
    · rw [if_pos q, if_pos q]; exact gg_end2 this (by omega)
    · rw [if_neg q, if_neg q]; exact this
theorem hus_oth {p : AT → Nat → Bool} {S : AT} {j : Nat} (hj : ∀ c, c < 60 → j ≠ 1132 + 5 * c + 4) : ∀ k, k ≤ 60 → hus p S k j = S j := by
  intro k
  induction k with
  | zero => intro _; rfl
  | succ k ih =>
    intro hk
    unfold hus
    by_cases q : p (hus p S k) k = true
    · rw [if_pos q, upd_ne (hj k (by omega))]; exact ih (by omega)
    · rw [if_neg q]; exact ih (by omega)
theorem hcn_le {p : AT → Nat → Bool} {S : AT} : ∀ k, hcn p S k ≤ k := by
  intro k
  induction k with
  | zero => exact Nat.le_refl 0
  | succ k ih =>
    unfold hcn
    split <;> omega
def hup (v : Int32) : AT → Nat → Bool := fun S c => decide (S (1132 + 5 * c) = v ∧ nov S c)
theorem c_hushLoop {n m : Nat} {O : AT} {B V : VT} {S : AT} (v : Int32) (hn : n ≤ 1000) (sb : St O B 1360 (V 0) 0 0 V) (hg : GG n (V 0) S) (hm : m ≤ 60) (hN : S 1642 = Int32.ofNat m) : ∃ V2, lp (f_X0_hushBar_B36 v (Int32.ofNat m)) fuel ((0 : Int32), (0 : Int32), V) = some (Int32.ofNat (hcn (hup v) S m), V2) ∧ St O B 1360 (hcs (hup v) (V 0) S m) 0 0 V2 := by
  have key := lp_inv (f := f_X0_hushBar_B36 v (Int32.ofNat m)) (Q := fun y => y.1 = Int32.ofNat (hcn (hup v) S m) ∧ St O B 1360 (hcs (hup v) (V 0) S m) 0 0 y.2) (fun i s => s.1 = Int32.ofNat (hcn (hup v) S i) ∧ s.2.1 = Int32.ofNat i ∧ St O B 1360 (hcs (hup v) (V 0) S i) 0 0 s.2.2) m 0 fuel ((0 : Int32), (0 : Int32), V) ⟨rfl, rfl, sb⟩ (fun i s _ hi hI => ?_) (fun s hI => ?_) (fuel_big (by omega))
  · obtain ⟨y, e, hy1, hy2⟩ := key
    refine ⟨y.2, ?_, hy2⟩
    rw [e, ← hy1]
  · obtain ⟨a, b, V'⟩ := s
    obtain ⟨h1, h2, hst⟩ := hI
    have h1 : a = Int32.ofNat (hcn (hup v) S i) := h1
    have h2 : b = Int32.ofNat i := h2
    have hst : St O B 1360 (hcs (hup v) (V 0) S i) 0 0 V' := hst
    subst h1
    subst h2
    have n1 : ¬ Int32.ofNat m ≤ Int32.ofNat i := fun q => by have := (nat_le (by omega) (by omega)).mp q; omega
    have hgi := hu_gg (p := hup v) hg i (by omega)
    have v0 : V' 0 = hcs (hup v) (V 0) S i := hst.2.1
    have ht : Int32.ofNat i < hus (hup v) S i 1642 := by
      rw [hus_oth (fun c hc => by omega) i (by omega), hN]
      exact (nat_lt (by omega) (by omega)).mpr (by omega)
    have ep := c_pending (V := V') v (by rw [v0]; exact hgi) hn (c := i) (by omega) ht
    by_cases q : hus (hup v) S i (1132 + 5 * i) = v ∧ nov (hus (hup v) S i) i
    · have q2 : hup v (hus (hup v) S i) i = true := decide_eq_true q
      obtain ⟨V2, ew, sw, -⟩ := st_write (c := 1368 + 5 * i + 4) 1 hst (by omega) (by omega)
      have es : f_X7_set 1368 60 5 (Int32.ofNat i) 4 1 V' = f_X4_write (Int32.ofNat (1368 + 5 * i + 4)) 1 V' := scue (c := 4) 1 (by omega) (by omega)
      refine ⟨(Int32.ofNat (hcn (hup v) S i + 1), Int32.ofNat (i + 1), V2), ?_, ?_, rfl, ?_⟩
      · rw [if_pos q] at ep
        simp only [f_X0_hushBar_B36, f_X0_hushBar_j72, n1, if_false, ep, Option.bind_some, i10, es, ew, nat_succ]
      · show Int32.ofNat (hcn (hup v) S i + 1) = Int32.ofNat (hcn (hup v) S (i + 1))
        rw [show hcn (hup v) S (i + 1) = if hup v (hus (hup v) S i) i = true then hcn (hup v) S i + 1 else hcn (hup v) S i from rfl, if_pos q2]
      · show St O B 1360 (if hup v (hus (hup v) S i) i = true then upd (hcs (hup v) (V 0) S i) (1368 + 5 * i + 4) 1 else hcs (hup v) (V 0) S i) 0 0 V2
        rw [if_pos q2]; exact sw
    · have q2 : ¬ hup v (hus (hup v) S i) i = true := fun e => q (of_decide_eq_true e)
      refine ⟨(Int32.ofNat (hcn (hup v) S i), Int32.ofNat (i + 1), V'), ?_, ?_, rfl, ?_⟩
      · rw [if_neg q] at ep
        simp only [f_X0_hushBar_B36, f_X0_hushBar_j72, n1, if_false, ep, Option.bind_some, if_true, nat_succ]
      · show Int32.ofNat (hcn (hup v) S i) = Int32.ofNat (hcn (hup v) S (i + 1))
        rw [show hcn (hup v) S (i + 1) = if hup v (hus (hup v) S i) i = true then hcn (hup v) S i + 1 else hcn (hup v) S i from rfl, if_neg q2]
      · show St O B 1360 (if hup v (hus (hup v) S i) i = true then upd (hcs (hup v) (V 0) S i) (1368 + 5 * i + 4) 1 else hcs (hup v) (V 0) S i) 0 0 V'
        rw [if_neg q2]; exact hst
  · obtain ⟨a, b, V'⟩ := s
    rw [Nat.zero_add] at hI
    obtain ⟨h1, h2, hst⟩ := hI
    have h2 : b = Int32.ofNat m := h2
    subst h2
    refine ⟨(a, V'), ?_, h1, hst⟩
    simp only [f_X0_hushBar_B36, Int32.le_refl, if_true, Option.bind_some]
theorem m_hushLoop {m : Nat} {M : VT} (v : Int32) (hm : m ≤ 60) (hN : M 0 1642 = Int32.ofNat m) : lp (f_X12_hush_B54 v) fuel ((0 : Int32), (0 : Int32), M) = (f_X12_keep (Int32.ofNat (hcn (hup v) (M 0) m)) (setRow M 0 (hus (hup v) (M 0) m))).bind fun r => some (r.1, r.2) := by
  have kN : ckA 1646 (1642 : Int32) = some 1642 := ck_lit (k := 1642) rfl (by omega) (by omega)
  have e0 : setRow M 0 (hus (hup v) (M 0) 0) = M := setRow_id
  have key := lp_run (f := f_X12_hush_B54 v) (X := (f_X12_keep (Int32.ofNat (hcn (hup v) (M 0) m)) (setRow M 0 (hus (hup v) (M 0) m))).bind fun r => some (r.1, r.2)) (fun i => (Int32.ofNat (hcn (hup v) (M 0) i), Int32.ofNat i, setRow M 0 (hus (hup v) (M 0) i))) m 0 fuel (fun i _ hi => ?_) ?_ (fuel_big (by omega))
  · simp only [e0] at key
    exact key
  · have hi : i < m := by omega
    have n1 : ¬ Int32.ofNat m ≤ Int32.ofNat i := fun q => by have := (nat_le (by omega) (by omega)).mp q; omega
    have rN : setRow M 0 (hus (hup v) (M 0) i) 0 1642 = Int32.ofNat m := by rw [setRow_eq, hus_oth (fun c hc => by omega) i (by omega), hN]
    have eq0 : f_X12_cueIs (Int32.ofNat i) 0 (setRow M 0 (hus (hup v) (M 0) i)) = some (hus (hup v) (M 0) i (1132 + 5 * i)) := by
      have := m_cueIs (M := setRow M 0 (hus (hup v) (M 0) i)) (c := i) (i := 0) (by omega) (by omega)
      rw [setRow_eq] at this; exact this
    have eno := m_notOver (M := setRow M 0 (hus (hup v) (M 0) i)) (c := i) (by omega)
    rw [setRow_eq] at eno
    have ek : ckA 1646 ((1132 : Int32) + 5 * Int32.ofNat i + 4) = some (1132 + 5 * i + 4) := ck_lit (by rw [Int32.ofNat_add, Int32.ofNat_add, Int32.ofNat_mul]; rfl) (by omega) (by omega)
    by_cases q : hus (hup v) (M 0) i (1132 + 5 * i) = v ∧ nov (hus (hup v) (M 0) i) i
    · have q2 : hup v (hus (hup v) (M 0) i) i = true := decide_eq_true q
      rw [if_pos q.2] at eno
      rw [show hcn (hup v) (M 0) (i + 1) = if hup v (hus (hup v) (M 0) i) i = true then hcn (hup v) (M 0) i + 1 else hcn (hup v) (M 0) i from rfl, show hus (hup v) (M 0) (i + 1) = if hup v (hus (hup v) (M 0) i) i = true then upd (hus (hup v) (M 0) i) (1132 + 5 * i + 4) 1 else hus (hup v) (M 0) i from rfl, if_pos q2, if_pos q2]
      simp only [f_X12_hush_B54, f_X12_hush_j105, kN, rN, n1, if_false, eq0, eq_true q.1, if_true, eno, i10, ek, Option.bind_some, nat_succ, setRow_u2]
    · have q2 : ¬ hup v (hus (hup v) (M 0) i) i = true := fun e => q (of_decide_eq_true e)
      rw [show hcn (hup v) (M 0) (i + 1) = if hup v (hus (hup v) (M 0) i) i = true then hcn (hup v) (M 0) i + 1 else hcn (hup v) (M 0) i from rfl, show hus (hup v) (M 0) (i + 1) = if hup v (hus (hup v) (M 0) i) i = true then upd (hus (hup v) (M 0) i) (1132 + 5 * i + 4) 1 else hus (hup v) (M 0) i from rfl, if_neg q2, if_neg q2]
      by_cases q3 : hus (hup v) (M 0) i (1132 + 5 * i) = v
      · rw [if_neg (fun p => q ⟨q3, p⟩)] at eno
        simp only [f_X12_hush_B54, f_X12_hush_j105, kN, rN, n1, if_false, eq0, eq_true q3, if_true, eno, Option.bind_some, nat_succ]
      · simp only [f_X12_hush_B54, f_X12_hush_j105, kN, rN, n1, if_false, eq0, eq_false q3, Option.bind_some, nat_succ]
  · rw [Nat.zero_add]
    have rN : setRow M 0 (hus (hup v) (M 0) m) 0 1642 = Int32.ofNat m := by rw [setRow_eq, hus_oth (fun c hc => by omega) m (by omega), hN]
    simp only [f_X12_hush_B54, kN, rN, Int32.le_refl, if_true, Option.bind_some]
theorem aok_hush (v1 : Int32) : AOK (noJ (f_X0_hushBar v1)) (f_X12_hush v1) := by
  intro n O B V J M M1 hn sb hgg em sm
  have hf0 : M1 7 2 = 0 := sm.2.2.2.1
  have h5 : V 11 5 = 0 := sb.2.2.2.2.1
  have m0 : M1 0 = M 0 := sm.1
  rcases rng 12 (by omega) v1 with ⟨b, hb, rfl⟩ | hbad
  · have e3 := m_isBar_yes (M := M1) hb
    have e4 := m_rigged (M := M1) hb
    rw [m0] at e4
    have eb := m_bar0 (b := b) (M := M1)
    have i2 := is_no 2 hf0
    have i1 := is_no 1 hf0
    by_cases h1 : M 0 (21 * b) = 1
    · have e1 := c_refBar_yes h5 hgg hb h1
      obtain ⟨m, -, m2, hm⟩ := hgg.2.wn2
      have eN : f_X7_get 1868 1 6 0 2 V = some (Int32.ofNat m) := by rw [← hm]; exact nget (i := 2) hgg (by omega)
      obtain ⟨V2, ew, sw⟩ := c_hushLoop (Int32.ofNat b) (by omega) sb hgg m2 hm
      have el := m_hushLoop (M := M1) (Int32.ofNat b) m2 (by rw [m0]; exact hm)
      rw [m0] at el
      have sm2 := ms_row (hus (hup (Int32.ofNat b)) (M 0) m) sm (fun k hk => hus_oth (fun c hc => by omega) m m2)
      refine aok_done (r := Int32.ofNat (hcn (hup (Int32.ofNat b)) (M 0) m)) sw sm2 ?_ ?_ ?_
      · simp only [f_X0_hushBar_j72, f_X0_hushBar, e1, eN, ew, bsm, if_true, if_false, ite_self, i10, i01, ite01, ite10, true_or, or_true, false_or, or_false, leN, ite_not, not_true_eq_false, not_false_eq_true]
      · rw [← el]
        simp only [f_X12_hush_j45, f_X12_hush_j105, f_X12_hush_j38, f_X12_hush_j17, f_X12_hush, em, e3, i2, e4, h1, i1, bsm, if_true, if_false, ite_self, i10, i01, ite01, ite10, true_or, or_true, false_or, or_false, leN, ite_not, not_true_eq_false, not_false_eq_true]
      · exact gg_ok.1 _ _ _ (hu_gg hgg m m2)
    · refine aok_ref 1 (by decide) sb sm (fun V2 er sr => ?_) (fun M2 M3 ei er2 => ?_)
      · have e1 := c_bar_ref (by decide) (Or.inr ⟨b, n, _, rfl, hb, hgg, h1, rfl⟩) er sr
        simp only [f_X0_hushBar_j72, f_X0_hushBar, e1, bsm, if_true, if_false, ite_self, i10, i01, ite01, ite10, true_or, or_true, false_or, or_false, leN, ite_not, not_true_eq_false, not_false_eq_true]
      · simp only [f_X12_hush_j45, f_X12_hush_j105, f_X12_hush_j38, f_X12_hush_j17, f_X12_hush, em, e3, i2, e4, h1, ei, er2, bsm, if_true, if_false, ite_self, i10, i01, ite01, ite10, true_or, or_true, false_or, or_false, leN, ite_not, not_true_eq_false, not_false_eq_true]
  · have e3 := m_isBar_no (M := M1) hbad
    refine aok_ref 2 (by decide) sb sm (fun V2 er sr => ?_) (fun M2 M3 ei er2 => ?_)
    · have e1 := c_bar_ref (by decide) (Or.inl ⟨hbad, rfl⟩) er sr
      simp only [f_X0_hushBar_j72, f_X0_hushBar, e1, bsm, if_true, if_false, ite_self, i10, i01, ite01, ite10, true_or, or_true, false_or, or_false, leN, ite_not, not_true_eq_false, not_false_eq_true]
    · simp only [f_X12_hush_j45, f_X12_hush_j105, f_X12_hush_j38, f_X12_hush_j17, f_X12_hush, em, e3, ei, er2, bsm, if_true, if_false, ite_self, i10, i01, ite01, ite10, true_or, or_true, false_or, or_false, leN, ite_not, not_true_eq_false, not_false_eq_true]
theorem o_hush : O_hush (IG GG) := fun _ _ _ _ _ v1 hn hI => aok_run (aok_hush v1) hn hI aok_nF
