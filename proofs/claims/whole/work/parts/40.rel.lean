/-! the relation between the component's values C and the reference's row S -/
/-- a number of a range -/
def RG (x : Int32) (lo hi : Nat) : Prop := ∃ n : Nat, lo ≤ n ∧ n ≤ hi ∧ x = Int32.ofNat n
/-- what a thing weighs on a bar, by kind and eighths -/
def burd (k e : Int32) : UInt32 := if k = 4 then FP.fmul (FP.fmul (FP.i2f e) 1040187392) 1056964608 else FP.fmul (FP.i2f e) 1040187392
/-- where a thing hangs: k its kind, tb and tp what the component notes of it, ct what places hold -/
def Hung (ct : Nat → Nat → Int32) (k tb tp : Int32) (t : Nat) : Prop := (tb = -1000000000 ∧ tp = -1000000000 ∧ ∀ b p, b < 12 → p < 16 → ct b p ≠ Int32.ofNat (2 + t)) ∨ ∃ b p : Nat, b < 12 ∧ p < 16 ∧ tb = Int32.ofNat b ∧ tp = Int32.ofNat p ∧ ct b p = Int32.ofNat (2 + t) ∧ (k = 4 → b + 1 < 12 ∧ ct (b + 1) p = Int32.ofNat (2 + t)) ∧ ∀ b2 p2, b2 < 12 → p2 < 16 → ct b2 p2 = Int32.ofNat (2 + t) → p2 = p ∧ (b2 = b ∨ (k = 4 ∧ b2 = b + 1))
def ctS (S : AT) (b p : Nat) : Int32 := if b < 12 ∧ p < 16 then S (21 * b + 5 + p) else 0
def R_rb (C S : AT) : Prop := ∀ b i : Nat, b < 12 → i < 4 → C (4 * b + i) = S (21 * b + 1 + i)
def R_rc (C S : AT) : Prop := ∀ b p : Nat, b < 12 → p < 16 → C (48 + 16 * b + p) = S (21 * b + 5 + p)
def R_rl (C S : AT) : Prop := ∀ i : Nat, i < 480 → C (240 + i) = S (252 + i)
def R_rt (C S : AT) : Prop := ∀ t i : Nat, t < 80 → i < 4 → C (720 + 8 * t + i) = S (732 + 5 * t + i)
def R_rh (C S : AT) : Prop := ∀ t : Nat, t < 80 → C (720 + 8 * t + 5) = S (732 + 5 * t + 4)
def R_rf (C S : AT) : Prop := ∀ k : Nat, k < 8 → C (1360 + k) = S (1432 + k)
def R_rq (C S : AT) : Prop := ∀ i : Nat, i < 300 → C (1368 + i) = S (1132 + i)
def R_rn (C S : AT) : Prop := ∀ i : Nat, i < 6 → C (1868 + i) = S (1640 + i)
def R_rg (C S : AT) : Prop := ∀ t : Nat, t < 80 → Int32.ofNat t < S 1641 → C (720 + 8 * t + 4) = FP.f2i (burd (S (732 + 5 * t)) (S (732 + 5 * t + 3)))
def R_rp (C S : AT) : Prop := ∀ t : Nat, t < 80 → Int32.ofNat t < S 1641 → Hung (ctS S) (S (732 + 5 * t)) (C (720 + 8 * t + 6)) (C (720 + 8 * t + 7)) t
def R_rs (C S : AT) : Prop := ∀ m k i : Nat, k < 40 → k < m → i < 5 → S 1643 = Int32.ofNat m → C (1668 + 5 * ((m - 1 - k) % 40) + i) = S (1440 + 5 * ((if m < 40 then m else 40) - 1 - k) + i)
def W_wn0 (n : Nat) (S : AT) : Prop := RG (S 1640) 0 40
def W_wn1 (n : Nat) (S : AT) : Prop := RG (S 1641) 0 80
def W_wn2 (n : Nat) (S : AT) : Prop := RG (S 1642) 0 60
def W_wn3 (n : Nat) (S : AT) : Prop := RG (S 1643) 0 (1200 * n)
def W_wn4 (n : Nat) (S : AT) : Prop := RG (S 1644) 0 (6000 * n)
def W_wn5 (n : Nat) (S : AT) : Prop := RG (S 1645) 0 (100 * n)
def W_wb0 (n : Nat) (S : AT) : Prop := ∀ b : Nat, b < 12 → S (21 * b) = 0 ∨ S (21 * b) = 1
def W_wb1 (n : Nat) (S : AT) : Prop := ∀ b i : Nat, b < 12 → i < 20 → S (21 * b) = 0 → S (21 * b + 1 + i) = 0
def W_wb2 (n : Nat) (S : AT) : Prop := ∀ b : Nat, b < 12 → S (21 * b) = 1 → RG (S (21 * b + 1)) 2 16 ∧ RG (S (21 * b + 2)) 1 30
def W_wb3 (n : Nat) (S : AT) : Prop := ∀ b p : Nat, b < 12 → p < 16 → S (21 * b + 1) ≤ Int32.ofNat p → S (21 * b + 5 + p) = 0
def W_wb4 (n : Nat) (S : AT) : Prop := ∀ b : Nat, b < 12 → RG (S (21 * b + 3)) 0 100 ∧ RG (S (21 * b + 4)) 0 2000
def W_wb5 (n : Nat) (S : AT) : Prop := ∀ b p : Nat, b < 12 → p < 16 → RG (S (21 * b + 5 + p)) 0 81 ∧ S (21 * b + 5 + p) < S 1641 + 2 ∨ RG (S (21 * b + 5 + p)) 0 1
def W_wl0 (n : Nat) (S : AT) : Prop := ∀ l : Nat, l < 40 → S 1640 ≤ Int32.ofNat l → S (252 + 12 * l + 3) = 0
def W_wl1 (n : Nat) (S : AT) : Prop := ∀ l : Nat, l < 40 → Int32.ofNat l < S 1640 → RG (S (252 + 12 * l)) 0 11 ∧ RG (S (252 + 12 * l + 1)) 0 15 ∧ RG (S (252 + 12 * l + 2)) 1 8 ∧ RG (S (252 + 12 * l + 3)) 0 1
def W_wl2 (n : Nat) (S : AT) : Prop := ∀ l i : Nat, l < 40 → i < 8 → Int32.ofNat l < S 1640 → Int32.ofNat i < S (252 + 12 * l + 2) → RG (S (252 + 12 * l + 4 + i)) 0 30000
def W_wl3 (n : Nat) (S : AT) : Prop := ∀ l b : Nat, l < 40 → b < 12 → S (252 + 12 * l + 3) = 1 → S (252 + 12 * l) = Int32.ofNat b → S (252 + 12 * l + 1) < S (21 * b + 1)
def W_wl4 (n : Nat) (S : AT) : Prop := ∀ l m : Nat, l < 40 → m < 40 → l ≠ m → S (252 + 12 * l + 3) = 1 → S (252 + 12 * m + 3) = 1 → S (252 + 12 * l) = S (252 + 12 * m) → S (252 + 12 * l + 1) ≠ S (252 + 12 * m + 1)
def W_wt (n : Nat) (S : AT) : Prop := ∀ t : Nat, t < 80 → Int32.ofNat t < S 1641 → RG (S (732 + 5 * t)) 0 4 ∧ RG (S (732 + 5 * t + 1)) 1 15 ∧ RG (S (732 + 5 * t + 2)) 1 40 ∧ RG (S (732 + 5 * t + 3)) 0 400000 ∧ RG (S (732 + 5 * t + 4)) 0 80000 ∧ (S (732 + 5 * t + 4) = 0 ∨ S (732 + 5 * t) = 2)
def W_wq (n : Nat) (S : AT) : Prop := ∀ c : Nat, c < 60 → Int32.ofNat c < S 1642 → RG (S (1132 + 5 * c)) 0 11 ∧ (∃ z : Int, -5 ≤ z ∧ z ≤ 5 ∧ z ≠ 0 ∧ S (1132 + 5 * c + 1) = Int32.ofInt z) ∧ RG (S (1132 + 5 * c + 2)) 0 1000000 ∧ RG (S (1132 + 5 * c + 3)) 1 200 ∧ RG (S (1132 + 5 * c + 4)) 0 1
def W_wq2 (n : Nat) (S : AT) : Prop := ∀ c b : Nat, c < 60 → b < 12 → Int32.ofNat c < S 1642 → S (1132 + 5 * c) = Int32.ofNat b → S (21 * b) = 0 → S (1132 + 5 * c + 4) = 1 ∨ S (1132 + 5 * c + 2) + S (1132 + 5 * c + 3) ≤ S 1645
def W_wf (n : Nat) (S : AT) : Prop := ∀ k : Nat, k < 8 → RG (S (1432 + k)) 0 99
def W_wh (n : Nat) (S : AT) : Prop := ∀ b p q t u : Nat, b < 12 → p < 16 → q < 16 → p ≤ q + 2 → q ≤ p + 2 → t < 80 → u < 80 → S (21 * b + 5 + p) = Int32.ofNat (2 + t) → S (21 * b + 5 + q) = Int32.ofNat (2 + u) → S (732 + 5 * t) = 0 ∨ S (732 + 5 * t) = 1 → S (732 + 5 * u + 4) = 0
def Rel (C S : AT) : Prop := R_rb C S ∧ R_rc C S ∧ R_rl C S ∧ R_rt C S ∧ R_rh C S ∧ R_rf C S ∧ R_rq C S ∧ R_rn C S ∧ R_rg C S ∧ R_rp C S ∧ R_rs C S
def WF (n : Nat) (S : AT) : Prop := W_wn0 n S ∧ W_wn1 n S ∧ W_wn2 n S ∧ W_wn3 n S ∧ W_wn4 n S ∧ W_wn5 n S ∧ W_wb0 n S ∧ W_wb1 n S ∧ W_wb2 n S ∧ W_wb3 n S ∧ W_wb4 n S ∧ W_wb5 n S ∧ W_wl0 n S ∧ W_wl1 n S ∧ W_wl2 n S ∧ W_wl3 n S ∧ W_wl4 n S ∧ W_wt n S ∧ W_wq n S ∧ W_wq2 n S ∧ W_wf n S ∧ W_wh n S
def GG : GT := fun n C S => Rel C S ∧ WF n S
theorem Rel.rb {C S : AT} (h : Rel C S) : R_rb C S := h.1
theorem Rel.rc {C S : AT} (h : Rel C S) : R_rc C S := h.2.1
theorem Rel.rl {C S : AT} (h : Rel C S) : R_rl C S := h.2.2.1
theorem Rel.rt {C S : AT} (h : Rel C S) : R_rt C S := h.2.2.2.1
theorem Rel.rh {C S : AT} (h : Rel C S) : R_rh C S := h.2.2.2.2.1
theorem Rel.rf {C S : AT} (h : Rel C S) : R_rf C S := h.2.2.2.2.2.1
theorem Rel.rq {C S : AT} (h : Rel C S) : R_rq C S := h.2.2.2.2.2.2.1
theorem Rel.rn {C S : AT} (h : Rel C S) : R_rn C S := h.2.2.2.2.2.2.2.1
theorem Rel.rg {C S : AT} (h : Rel C S) : R_rg C S := h.2.2.2.2.2.2.2.2.1
theorem Rel.rp {C S : AT} (h : Rel C S) : R_rp C S := h.2.2.2.2.2.2.2.2.2.1
theorem Rel.rs {C S : AT} (h : Rel C S) : R_rs C S := h.2.2.2.2.2.2.2.2.2.2
theorem WF.wn0 {n : Nat} {S : AT} (h : WF n S) : W_wn0 n S := h.1
theorem WF.wn1 {n : Nat} {S : AT} (h : WF n S) : W_wn1 n S := h.2.1
theorem WF.wn2 {n : Nat} {S : AT} (h : WF n S) : W_wn2 n S := h.2.2.1
theorem WF.wn3 {n : Nat} {S : AT} (h : WF n S) : W_wn3 n S := h.2.2.2.1
theorem WF.wn4 {n : Nat} {S : AT} (h : WF n S) : W_wn4 n S := h.2.2.2.2.1
theorem WF.wn5 {n : Nat} {S : AT} (h : WF n S) : W_wn5 n S := h.2.2.2.2.2.1
theorem WF.wb0 {n : Nat} {S : AT} (h : WF n S) : W_wb0 n S := h.2.2.2.2.2.2.1
theorem WF.wb1 {n : Nat} {S : AT} (h : WF n S) : W_wb1 n S := h.2.2.2.2.2.2.2.1
theorem WF.wb2 {n : Nat} {S : AT} (h : WF n S) : W_wb2 n S := h.2.2.2.2.2.2.2.2.1
theorem WF.wb3 {n : Nat} {S : AT} (h : WF n S) : W_wb3 n S := h.2.2.2.2.2.2.2.2.2.1
theorem WF.wb4 {n : Nat} {S : AT} (h : WF n S) : W_wb4 n S := h.2.2.2.2.2.2.2.2.2.2.1
theorem WF.wb5 {n : Nat} {S : AT} (h : WF n S) : W_wb5 n S := h.2.2.2.2.2.2.2.2.2.2.2.1
theorem WF.wl0 {n : Nat} {S : AT} (h : WF n S) : W_wl0 n S := h.2.2.2.2.2.2.2.2.2.2.2.2.1
theorem WF.wl1 {n : Nat} {S : AT} (h : WF n S) : W_wl1 n S := h.2.2.2.2.2.2.2.2.2.2.2.2.2.1
theorem WF.wl2 {n : Nat} {S : AT} (h : WF n S) : W_wl2 n S := h.2.2.2.2.2.2.2.2.2.2.2.2.2.2.1
theorem WF.wl3 {n : Nat} {S : AT} (h : WF n S) : W_wl3 n S := h.2.2.2.2.2.2.2.2.2.2.2.2.2.2.2.1
theorem WF.wl4 {n : Nat} {S : AT} (h : WF n S) : W_wl4 n S := h.2.2.2.2.2.2.2.2.2.2.2.2.2.2.2.2.1
theorem WF.wt {n : Nat} {S : AT} (h : WF n S) : W_wt n S := h.2.2.2.2.2.2.2.2.2.2.2.2.2.2.2.2.2.1
theorem WF.wq {n : Nat} {S : AT} (h : WF n S) : W_wq n S := h.2.2.2.2.2.2.2.2.2.2.2.2.2.2.2.2.2.2.1
theorem WF.wq2 {n : Nat} {S : AT} (h : WF n S) : W_wq2 n S := h.2.2.2.2.2.2.2.2.2.2.2.2.2.2.2.2.2.2.2.1
theorem WF.wf {n : Nat} {S : AT} (h : WF n S) : W_wf n S := h.2.2.2.2.2.2.2.2.2.2.2.2.2.2.2.2.2.2.2.2.1
theorem WF.wh {n : Nat} {S : AT} (h : WF n S) : W_wh n S := h.2.2.2.2.2.2.2.2.2.2.2.2.2.2.2.2.2.2.2.2.2
theorem ctS_cg {S S2 : AT} (hS : ∀ k, k < 1646 → S k = S2 k) : ctS S2 = ctS S := by
  funext b p; unfold ctS; split
  · next h => rw [hS _ (by omega)]
  · rfl
theorem R_rb_cg {C : AT} {S S2 : AT} (hS : ∀ k, k < 1646 → S k = S2 k) (h : R_rb C S) : R_rb C S2 := by
  intro b i h0 h1
  have h9 := h b i h0 h1
  simp only [← hS (21 * b + 1 + i) (by omega)]
  exact h9
theorem R_rc_cg {C : AT} {S S2 : AT} (hS : ∀ k, k < 1646 → S k = S2 k) (h : R_rc C S) : R_rc C S2 := by
  intro b p h0 h1
  have h9 := h b p h0 h1
  simp only [← hS (21 * b + 5 + p) (by omega)]
  exact h9
theorem R_rl_cg {C : AT} {S S2 : AT} (hS : ∀ k, k < 1646 → S k = S2 k) (h : R_rl C S) : R_rl C S2 := by
  intro i h0
  have h9 := h i h0
  simp only [← hS (252 + i) (by omega)]
  exact h9
theorem R_rt_cg {C : AT} {S S2 : AT} (hS : ∀ k, k < 1646 → S k = S2 k) (h : R_rt C S) : R_rt C S2 := by
  intro t i h0 h1
  have h9 := h t i h0 h1
  simp only [← hS (732 + 5 * t + i) (by omega)]
  exact h9
theorem R_rh_cg {C : AT} {S S2 : AT} (hS : ∀ k, k < 1646 → S k = S2 k) (h : R_rh C S) : R_rh C S2 := by
  intro t h0
  have h9 := h t h0
  simp only [← hS (732 + 5 * t + 4) (by omega)]
  exact h9
theorem R_rf_cg {C : AT} {S S2 : AT} (hS : ∀ k, k < 1646 → S k = S2 k) (h : R_rf C S) : R_rf C S2 := by
  intro k h0
  have h9 := h k h0
  simp only [← hS (1432 + k) (by omega)]
  exact h9
theorem R_rq_cg {C : AT} {S S2 : AT} (hS : ∀ k, k < 1646 → S k = S2 k) (h : R_rq C S) : R_rq C S2 := by
  intro i h0
  have h9 := h i h0
  simp only [← hS (1132 + i) (by omega)]
  exact h9
theorem R_rn_cg {C : AT} {S S2 : AT} (hS : ∀ k, k < 1646 → S k = S2 k) (h : R_rn C S) : R_rn C S2 := by
  intro i h0
  have h9 := h i h0
  simp only [← hS (1640 + i) (by omega)]
  exact h9
theorem R_rg_cg {C : AT} {S S2 : AT} (hS : ∀ k, k < 1646 → S k = S2 k) (h : R_rg C S) : R_rg C S2 := by
  intro t h0
  have h9 := h t h0
  simp only [← hS (1641) (by omega), ← hS (732 + 5 * t) (by omega), ← hS (732 + 5 * t + 3) (by omega)]
  exact h9
theorem R_rp_cg {C : AT} {S S2 : AT} (hS : ∀ k, k < 1646 → S k = S2 k) (h : R_rp C S) : R_rp C S2 := by
  intro t h0
  have h9 := h t h0
  simp only [← hS (1641) (by omega), ← hS (732 + 5 * t) (by omega), ctS_cg hS]
  exact h9
theorem R_rs_cg {C : AT} {S S2 : AT} (hS : ∀ k, k < 1646 → S k = S2 k) (h : R_rs C S) : R_rs C S2 := by
  intro m k i h0 h1 h2
  have h9 := h m k i h0 h1 h2
  have hb : 1440 + 5 * ((if m < 40 then m else 40) - 1 - k) + i < 1646 := by split <;> omega
  simp only [← hS 1643 (by omega), ← hS _ hb]
  exact h9
theorem W_wn0_cg {n : Nat} {S S2 : AT} (hS : ∀ k, k < 1646 → S k = S2 k) (h : W_wn0 n S) : W_wn0 n S2 := by
  have h9 := h
  unfold W_wn0 at h9 ⊢
  simp only [← hS (1640) (by omega)]
  exact h9
theorem W_wn1_cg {n : Nat} {S S2 : AT} (hS : ∀ k, k < 1646 → S k = S2 k) (h : W_wn1 n S) : W_wn1 n S2 := by
  have h9 := h
  unfold W_wn1 at h9 ⊢
  simp only [← hS (1641) (by omega)]
  exact h9
theorem W_wn2_cg {n : Nat} {S S2 : AT} (hS : ∀ k, k < 1646 → S k = S2 k) (h : W_wn2 n S) : W_wn2 n S2 := by
  have h9 := h
  unfold W_wn2 at h9 ⊢
  simp only [← hS (1642) (by omega)]
  exact h9
theorem W_wn3_cg {n : Nat} {S S2 : AT} (hS : ∀ k, k < 1646 → S k = S2 k) (h : W_wn3 n S) : W_wn3 n S2 := by
  have h9 := h
  unfold W_wn3 at h9 ⊢
  simp only [← hS (1643) (by omega)]
  exact h9
theorem W_wn4_cg {n : Nat} {S S2 : AT} (hS : ∀ k, k < 1646 → S k = S2 k) (h : W_wn4 n S) : W_wn4 n S2 := by
  have h9 := h
  unfold W_wn4 at h9 ⊢
  simp only [← hS (1644) (by omega)]
  exact h9
theorem W_wn5_cg {n : Nat} {S S2 : AT} (hS : ∀ k, k < 1646 → S k = S2 k) (h : W_wn5 n S) : W_wn5 n S2 := by
  have h9 := h
  unfold W_wn5 at h9 ⊢
  simp only [← hS (1645) (by omega)]
  exact h9
theorem W_wb0_cg {n : Nat} {S S2 : AT} (hS : ∀ k, k < 1646 → S k = S2 k) (h : W_wb0 n S) : W_wb0 n S2 := by
  intro b h0
  have h9 := h b h0
  simp only [← hS (21 * b) (by omega)]
  exact h9
theorem W_wb1_cg {n : Nat} {S S2 : AT} (hS : ∀ k, k < 1646 → S k = S2 k) (h : W_wb1 n S) : W_wb1 n S2 := by
  intro b i h0 h1
  have h9 := h b i h0 h1
  simp only [← hS (21 * b) (by omega), ← hS (21 * b + 1 + i) (by omega)]
  exact h9
theorem W_wb2_cg {n : Nat} {S S2 : AT} (hS : ∀ k, k < 1646 → S k = S2 k) (h : W_wb2 n S) : W_wb2 n S2 := by
  intro b h0
  have h9 := h b h0
  simp only [← hS (21 * b) (by omega), ← hS (21 * b + 1) (by omega), ← hS (21 * b + 2) (by omega)]
  exact h9
theorem W_wb3_cg {n : Nat} {S S2 : AT} (hS : ∀ k, k < 1646 → S k = S2 k) (h : W_wb3 n S) : W_wb3 n S2 := by
  intro b p h0 h1
  have h9 := h b p h0 h1
  simp only [← hS (21 * b + 1) (by omega), ← hS (21 * b + 5 + p) (by omega)]
  exact h9
theorem W_wb4_cg {n : Nat} {S S2 : AT} (hS : ∀ k, k < 1646 → S k = S2 k) (h : W_wb4 n S) : W_wb4 n S2 := by
  intro b h0
  have h9 := h b h0
  simp only [← hS (21 * b + 3) (by omega), ← hS (21 * b + 4) (by omega)]
  exact h9
theorem W_wb5_cg {n : Nat} {S S2 : AT} (hS : ∀ k, k < 1646 → S k = S2 k) (h : W_wb5 n S) : W_wb5 n S2 := by
  intro b p h0 h1
  have h9 := h b p h0 h1
  simp only [← hS (21 * b + 5 + p) (by omega), ← hS (1641) (by omega)]
  exact h9
theorem W_wl0_cg {n : Nat} {S S2 : AT} (hS : ∀ k, k < 1646 → S k = S2 k) (h : W_wl0 n S) : W_wl0 n S2 := by
  intro l h0
  have h9 := h l h0
  simp only [← hS (1640) (by omega), ← hS (252 + 12 * l + 3) (by omega)]
  exact h9
theorem W_wl1_cg {n : Nat} {S S2 : AT} (hS : ∀ k, k < 1646 → S k = S2 k) (h : W_wl1 n S) : W_wl1 n S2 := by
  intro l h0
  have h9 := h l h0
  simp only [← hS (1640) (by omega), ← hS (252 + 12 * l) (by omega), ← hS (252 + 12 * l + 1) (by omega), ← hS (252 + 12 * l + 2) (by omega), ← hS (252 + 12 * l + 3) (by omega)]
  exact h9
theorem W_wl2_cg {n : Nat} {S S2 : AT} (hS : ∀ k, k < 1646 → S k = S2 k) (h : W_wl2 n S) : W_wl2 n S2 := by
  intro l i h0 h1
  have h9 := h l i h0 h1
  simp only [← hS (1640) (by omega), ← hS (252 + 12 * l + 2) (by omega), ← hS (252 + 12 * l + 4 + i) (by omega)]
  exact h9
theorem W_wl3_cg {n : Nat} {S S2 : AT} (hS : ∀ k, k < 1646 → S k = S2 k) (h : W_wl3 n S) : W_wl3 n S2 := by
  intro l b h0 h1
  have h9 := h l b h0 h1
  simp only [← hS (252 + 12 * l + 3) (by omega), ← hS (252 + 12 * l) (by omega), ← hS (252 + 12 * l + 1) (by omega), ← hS (21 * b + 1) (by omega)]
  exact h9
theorem W_wl4_cg {n : Nat} {S S2 : AT} (hS : ∀ k, k < 1646 → S k = S2 k) (h : W_wl4 n S) : W_wl4 n S2 := by
  intro l m h0 h1 h2
  have h9 := h l m h0 h1 h2
  simp only [← hS (252 + 12 * l + 3) (by omega), ← hS (252 + 12 * m + 3) (by omega), ← hS (252 + 12 * l) (by omega), ← hS (252 + 12 * m) (by omega), ← hS (252 + 12 * l + 1) (by omega), ← hS (252 + 12 * m + 1) (by omega)]
  exact h9
theorem W_wt_cg {n : Nat} {S S2 : AT} (hS : ∀ k, k < 1646 → S k = S2 k) (h : W_wt n S) : W_wt n S2 := by
  intro t h0
  have h9 := h t h0
  simp only [← hS (1641) (by omega), ← hS (732 + 5 * t) (by omega), ← hS (732 + 5 * t + 1) (by omega), ← hS (732 + 5 * t + 2) (by omega), ← hS (732 + 5 * t + 3) (by omega), ← hS (732 + 5 * t + 4) (by omega)]
  exact h9
theorem W_wq_cg {n : Nat} {S S2 : AT} (hS : ∀ k, k < 1646 → S k = S2 k) (h : W_wq n S) : W_wq n S2 := by
  intro c h0
  have h9 := h c h0
  simp only [← hS (1642) (by omega), ← hS (1132 + 5 * c) (by omega), ← hS (1132 + 5 * c + 1) (by omega), ← hS (1132 + 5 * c + 2) (by omega), ← hS (1132 + 5 * c + 3) (by omega), ← hS (1132 + 5 * c + 4) (by omega)]
  exact h9
theorem W_wq2_cg {n : Nat} {S S2 : AT} (hS : ∀ k, k < 1646 → S k = S2 k) (h : W_wq2 n S) : W_wq2 n S2 := by
  intro c b h0 h1
  have h9 := h c b h0 h1
  simp only [← hS (1642) (by omega), ← hS (1132 + 5 * c) (by omega), ← hS (21 * b) (by omega), ← hS (1132 + 5 * c + 4) (by omega), ← hS (1132 + 5 * c + 2) (by omega), ← hS (1132 + 5 * c + 3) (by omega), ← hS (1645) (by omega)]
  exact h9
theorem W_wf_cg {n : Nat} {S S2 : AT} (hS : ∀ k, k < 1646 → S k = S2 k) (h : W_wf n S) : W_wf n S2 := by
  intro k h0
  have h9 := h k h0
  simp only [← hS (1432 + k) (by omega)]
  exact h9
theorem W_wh_cg {n : Nat} {S S2 : AT} (hS : ∀ k, k < 1646 → S k = S2 k) (h : W_wh n S) : W_wh n S2 := by
  intro b p q t u h0 h1 h2 h3 h4 h5 h6
  have h9 := h b p q t u h0 h1 h2 h3 h4 h5 h6
  simp only [← hS (21 * b + 5 + p) (by omega), ← hS (21 * b + 5 + q) (by omega), ← hS (732 + 5 * t) (by omega), ← hS (732 + 5 * u + 4) (by omega)]
  exact h9
theorem RG.mono {x : Int32} {lo a b : Nat} (h : RG x lo a) (hab : a ≤ b) : RG x lo b := by
  obtain ⟨n, h1, h2, h3⟩ := h
  exact ⟨n, h1, Nat.le_trans h2 hab, h3⟩
theorem gg_ok : GOK GG := by
  refine ⟨fun n C S h => ⟨h.1, ?_⟩, fun n C S S2 hS h => ⟨⟨R_rb_cg hS h.1.rb, R_rc_cg hS h.1.rc, R_rl_cg hS h.1.rl, R_rt_cg hS h.1.rt, R_rh_cg hS h.1.rh, R_rf_cg hS h.1.rf, R_rq_cg hS h.1.rq, R_rn_cg hS h.1.rn, R_rg_cg hS h.1.rg, R_rp_cg hS h.1.rp, R_rs_cg hS h.1.rs⟩, ⟨W_wn0_cg hS h.2.wn0, W_wn1_cg hS h.2.wn1, W_wn2_cg hS h.2.wn2, W_wn3_cg hS h.2.wn3, W_wn4_cg hS h.2.wn4, W_wn5_cg hS h.2.wn5, W_wb0_cg hS h.2.wb0, W_wb1_cg hS h.2.wb1, W_wb2_cg hS h.2.wb2, W_wb3_cg hS h.2.wb3, W_wb4_cg hS h.2.wb4, W_wb5_cg hS h.2.wb5, W_wl0_cg hS h.2.wl0, W_wl1_cg hS h.2.wl1, W_wl2_cg hS h.2.wl2, W_wl3_cg hS h.2.wl3, W_wl4_cg hS h.2.wl4, W_wt_cg hS h.2.wt, W_wq_cg hS h.2.wq, W_wq2_cg hS h.2.wq2, W_wf_cg hS h.2.wf, W_wh_cg hS h.2.wh⟩⟩⟩
  exact ⟨h.2.wn0, h.2.wn1, h.2.wn2, RG.mono h.2.wn3 (by omega), RG.mono h.2.wn4 (by omega), RG.mono h.2.wn5 (by omega), h.2.wb0, h.2.wb1, h.2.wb2, h.2.wb3, h.2.wb4, h.2.wb5, h.2.wl0, h.2.wl1, h.2.wl2, h.2.wl3, h.2.wl4, h.2.wt, h.2.wq, h.2.wq2, h.2.wf, h.2.wh⟩
