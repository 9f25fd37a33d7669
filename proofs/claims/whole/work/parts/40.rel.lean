/-! the relation between the component's values C and the reference's row S -/
/-- a number of a range -/
def RG (x : Int32) (lo hi : Nat) : Prop := ∃ n : Nat, lo ≤ n ∧ n ≤ hi ∧ x = Int32.ofNat n
/-- what a thing weighs on a bar, by kind and eighths -/
def burd (k e : Int32) : UInt32 := if k = 4 then FP.fmul (FP.fmul (FP.i2f e) 1040187392) 1056964608 else FP.fmul (FP.i2f e) 1040187392
/-- where a thing hangs: k its kind, tb and tp what the component notes of it, ct what places hold -/
def Hung (ct : Nat → Nat → Int32) (k tb tp : Int32) (t : Nat) : Prop := (tb = -1000000000 ∧ tp = -1000000000 ∧ ∀ b p, b < 12 → p < 16 → ct b p ≠ Int32.ofNat (2 + t)) ∨ ∃ b p : Nat, b < 12 ∧ p < 16 ∧ tb = Int32.ofNat b ∧ tp = Int32.ofNat p ∧ ct b p = Int32.ofNat (2 + t) ∧ (k = 4 → b + 1 < 12 ∧ ct (b + 1) p = Int32.ofNat (2 + t)) ∧ ∀ b2 p2, b2 < 12 → p2 < 16 → ct b2 p2 = Int32.ofNat (2 + t) → p2 = p ∧ (b2 = b ∨ (k = 4 ∧ b2 = b + 1))
def ctS (S : AT) (b p : Nat) : Int32 := if b < 12 ∧ p < 16 then S (21 * b + 5 + p) else 0
def R_rb0 (C S : AT) : Prop := ∀ b : Nat, b < 12 → C (4 * b) = S (21 * b + 1)
def R_rb1 (C S : AT) : Prop := ∀ b : Nat, b < 12 → C (4 * b + 1) = S (21 * b + 2)
def R_rb2 (C S : AT) : Prop := ∀ b : Nat, b < 12 → C (4 * b + 2) = S (21 * b + 3)
def R_rb3 (C S : AT) : Prop := ∀ b : Nat, b < 12 → C (4 * b + 3) = S (21 * b + 4)
def R_rc (C S : AT) : Prop := ∀ b p : Nat, b < 12 → p < 16 → C (48 + 16 * b + p) = S (21 * b + 5 + p)
def R_rl0 (C S : AT) : Prop := ∀ l : Nat, l < 40 → C (240 + 12 * l) = S (252 + 12 * l)
def R_rl1 (C S : AT) : Prop := ∀ l : Nat, l < 40 → C (240 + 12 * l + 1) = S (252 + 12 * l + 1)
def R_rl2 (C S : AT) : Prop := ∀ l : Nat, l < 40 → C (240 + 12 * l + 2) = S (252 + 12 * l + 2)
def R_rl3 (C S : AT) : Prop := ∀ l : Nat, l < 40 → C (240 + 12 * l + 3) = S (252 + 12 * l + 3)
def R_rls (C S : AT) : Prop := ∀ l i : Nat, l < 40 → i < 8 → C (240 + 12 * l + 4 + i) = S (252 + 12 * l + 4 + i)
def R_rt0 (C S : AT) : Prop := ∀ t : Nat, t < 80 → C (720 + 8 * t) = S (732 + 5 * t)
def R_rt1 (C S : AT) : Prop := ∀ t : Nat, t < 80 → C (720 + 8 * t + 1) = S (732 + 5 * t + 1)
def R_rt2 (C S : AT) : Prop := ∀ t : Nat, t < 80 → C (720 + 8 * t + 2) = S (732 + 5 * t + 2)
def R_rt3 (C S : AT) : Prop := ∀ t : Nat, t < 80 → C (720 + 8 * t + 3) = S (732 + 5 * t + 3)
def R_rh (C S : AT) : Prop := ∀ t : Nat, t < 80 → C (720 + 8 * t + 5) = S (732 + 5 * t + 4)
def R_rf (C S : AT) : Prop := ∀ k : Nat, k < 8 → C (1360 + k) = S (1432 + k)
def R_rq0 (C S : AT) : Prop := ∀ c : Nat, c < 60 → C (1368 + 5 * c) = S (1132 + 5 * c)
def R_rq1 (C S : AT) : Prop := ∀ c : Nat, c < 60 → C (1368 + 5 * c + 1) = S (1132 + 5 * c + 1)
def R_rq2 (C S : AT) : Prop := ∀ c : Nat, c < 60 → C (1368 + 5 * c + 2) = S (1132 + 5 * c + 2)
def R_rq3 (C S : AT) : Prop := ∀ c : Nat, c < 60 → C (1368 + 5 * c + 3) = S (1132 + 5 * c + 3)
def R_rq4 (C S : AT) : Prop := ∀ c : Nat, c < 60 → C (1368 + 5 * c + 4) = S (1132 + 5 * c + 4)
def R_rn0 (C S : AT) : Prop := C 1868 = S 1640
def R_rn1 (C S : AT) : Prop := C 1869 = S 1641
def R_rn2 (C S : AT) : Prop := C 1870 = S 1642
def R_rn3 (C S : AT) : Prop := C 1871 = S 1643
def R_rn4 (C S : AT) : Prop := C 1872 = S 1644
def R_rn5 (C S : AT) : Prop := C 1873 = S 1645
def R_rg (C S : AT) : Prop := ∀ t : Nat, t < 80 → Int32.ofNat t < S 1641 → C (720 + 8 * t + 4) = FP.f2i (burd (S (732 + 5 * t)) (S (732 + 5 * t + 3)))
def R_rp (C S : AT) : Prop := ∀ t : Nat, t < 80 → Int32.ofNat t < S 1641 → Hung (ctS S) (S (732 + 5 * t)) (C (720 + 8 * t + 6)) (C (720 + 8 * t + 7)) t
def R_rs (C S : AT) : Prop := ∀ m k i : Nat, k < 40 → k < m → i < 5 → m < 2147483648 → S 1643 = Int32.ofNat m → C (1668 + (5 * ((m - 1 - k) % 40) + i)) = S (1440 + (5 * ((if m < 40 then m else 40) - 1 - k) + i))
def W_wn0 (n : Nat) (S : AT) : Prop := RG (S 1640) 0 40
def W_wn1 (n : Nat) (S : AT) : Prop := RG (S 1641) 0 80
def W_wn2 (n : Nat) (S : AT) : Prop := RG (S 1642) 0 60
def W_wn3 (n : Nat) (S : AT) : Prop := RG (S 1643) 0 (1200 * n)
def W_wn4 (n : Nat) (S : AT) : Prop := RG (S 1644) 0 (6000 * n)
def W_wn5 (n : Nat) (S : AT) : Prop := RG (S 1645) 0 (100 * n)
def W_wb0 (n : Nat) (S : AT) : Prop := ∀ b : Nat, b < 12 → S (21 * b) = 0 ∨ S (21 * b) = 1
def W_wbp (n : Nat) (S : AT) : Prop := ∀ b : Nat, b < 12 → S (21 * b) = 0 → S (21 * b + 1) = 0
def W_wbg (n : Nat) (S : AT) : Prop := ∀ b : Nat, b < 12 → S (21 * b) = 0 → S (21 * b + 2) = 0
def W_wbh (n : Nat) (S : AT) : Prop := ∀ b : Nat, b < 12 → S (21 * b) = 0 → S (21 * b + 3) = 0
def W_wbk (n : Nat) (S : AT) : Prop := ∀ b : Nat, b < 12 → S (21 * b) = 0 → S (21 * b + 4) = 0
def W_wb2 (n : Nat) (S : AT) : Prop := ∀ b : Nat, b < 12 → S (21 * b) = 1 → RG (S (21 * b + 1)) 2 16
def W_wb2g (n : Nat) (S : AT) : Prop := ∀ b : Nat, b < 12 → S (21 * b) = 1 → RG (S (21 * b + 2)) 1 30
def W_wb3 (n : Nat) (S : AT) : Prop := ∀ b p : Nat, b < 12 → p < 16 → S (21 * b + 1) ≤ Int32.ofNat p → S (21 * b + 5 + p) = 0
def W_wb4 (n : Nat) (S : AT) : Prop := ∀ b : Nat, b < 12 → RG (S (21 * b + 3)) 0 100
def W_wb4k (n : Nat) (S : AT) : Prop := ∀ b : Nat, b < 12 → RG (S (21 * b + 4)) 0 2000
def W_wb5 (n : Nat) (S : AT) : Prop := ∀ b p : Nat, b < 12 → p < 16 → S (21 * b + 5 + p) = 0 ∨ S (21 * b + 5 + p) = 1 ∨ ∃ t : Nat, t < 80 ∧ Int32.ofNat t < S 1641 ∧ S (21 * b + 5 + p) = Int32.ofNat (2 + t)
def W_wl0 (n : Nat) (S : AT) : Prop := ∀ l : Nat, l < 40 → S 1640 ≤ Int32.ofNat l → S (252 + 12 * l + 3) = 0
def W_wla (n : Nat) (S : AT) : Prop := ∀ l : Nat, l < 40 → Int32.ofNat l < S 1640 → RG (S (252 + 12 * l)) 0 11
def W_wlb (n : Nat) (S : AT) : Prop := ∀ l : Nat, l < 40 → Int32.ofNat l < S 1640 → RG (S (252 + 12 * l + 1)) 0 15
def W_wlc (n : Nat) (S : AT) : Prop := ∀ l : Nat, l < 40 → Int32.ofNat l < S 1640 → RG (S (252 + 12 * l + 2)) 1 8
def W_wld (n : Nat) (S : AT) : Prop := ∀ l : Nat, l < 40 → Int32.ofNat l < S 1640 → RG (S (252 + 12 * l + 3)) 0 1
def W_wl2 (n : Nat) (S : AT) : Prop := ∀ l i : Nat, l < 40 → i < 8 → Int32.ofNat l < S 1640 → Int32.ofNat i < S (252 + 12 * l + 2) → RG (S (252 + 12 * l + 4 + i)) 0 30000
def W_wl4 (n : Nat) (S : AT) : Prop := ∀ l m : Nat, l < 40 → m < 40 → l ≠ m → S (252 + 12 * l + 3) = 1 → S (252 + 12 * m + 3) = 1 → S (252 + 12 * l) = S (252 + 12 * m) → S (252 + 12 * l + 1) ≠ S (252 + 12 * m + 1)
def W_wt0 (n : Nat) (S : AT) : Prop := ∀ t : Nat, t < 80 → Int32.ofNat t < S 1641 → RG (S (732 + 5 * t)) 0 4
def W_wt1 (n : Nat) (S : AT) : Prop := ∀ t : Nat, t < 80 → Int32.ofNat t < S 1641 → RG (S (732 + 5 * t + 1)) 1 15
def W_wt2 (n : Nat) (S : AT) : Prop := ∀ t : Nat, t < 80 → Int32.ofNat t < S 1641 → RG (S (732 + 5 * t + 2)) 1 40
def W_wt3 (n : Nat) (S : AT) : Prop := ∀ t : Nat, t < 80 → Int32.ofNat t < S 1641 → RG (S (732 + 5 * t + 3)) 0 400000
def W_wt4 (n : Nat) (S : AT) : Prop := ∀ t : Nat, t < 80 → Int32.ofNat t < S 1641 → RG (S (732 + 5 * t + 4)) 0 80000 ∧ (S (732 + 5 * t + 4) = 0 ∨ S (732 + 5 * t) = 2)
def W_wqa (n : Nat) (S : AT) : Prop := ∀ c : Nat, c < 60 → Int32.ofNat c < S 1642 → RG (S (1132 + 5 * c)) 0 11
def W_wqb (n : Nat) (S : AT) : Prop := ∀ c : Nat, c < 60 → Int32.ofNat c < S 1642 → ∃ z : Int, -5 ≤ z ∧ z ≤ 5 ∧ z ≠ 0 ∧ S (1132 + 5 * c + 1) = Int32.ofInt z
def W_wqc (n : Nat) (S : AT) : Prop := ∀ c : Nat, c < 60 → Int32.ofNat c < S 1642 → RG (S (1132 + 5 * c + 2)) 0 1000000
def W_wqd (n : Nat) (S : AT) : Prop := ∀ c : Nat, c < 60 → Int32.ofNat c < S 1642 → RG (S (1132 + 5 * c + 3)) 1 200
def W_wqe (n : Nat) (S : AT) : Prop := ∀ c : Nat, c < 60 → Int32.ofNat c < S 1642 → RG (S (1132 + 5 * c + 4)) 0 1
def W_wq2 (n : Nat) (S : AT) : Prop := ∀ c b : Nat, c < 60 → b < 12 → Int32.ofNat c < S 1642 → S (1132 + 5 * c) = Int32.ofNat b → S (21 * b) = 0 → S (1132 + 5 * c + 4) = 1 ∨ S (1132 + 5 * c + 2) + S (1132 + 5 * c + 3) ≤ S 1645
def W_wf (n : Nat) (S : AT) : Prop := ∀ k : Nat, k < 8 → RG (S (1432 + k)) 0 99
def W_wh (n : Nat) (S : AT) : Prop := ∀ b p q t u : Nat, b < 12 → p < 16 → q < 16 → p ≤ q + 2 → q ≤ p + 2 → t < 80 → u < 80 → n < 1000 → S (21 * b + 5 + p) = Int32.ofNat (2 + t) → S (21 * b + 5 + q) = Int32.ofNat (2 + u) → S (732 + 5 * t) = 0 ∨ S (732 + 5 * t) = 1 → S (732 + 5 * u + 4) = 0
def Rel (C S : AT) : Prop := R_rb0 C S ∧ R_rb1 C S ∧ R_rb2 C S ∧ R_rb3 C S ∧ R_rc C S ∧ R_rl0 C S ∧ R_rl1 C S ∧ R_rl2 C S ∧ R_rl3 C S ∧ R_rls C S ∧ R_rt0 C S ∧ R_rt1 C S ∧ R_rt2 C S ∧ R_rt3 C S ∧ R_rh C S ∧ R_rf C S ∧ R_rq0 C S ∧ R_rq1 C S ∧ R_rq2 C S ∧ R_rq3 C S ∧ R_rq4 C S ∧ R_rn0 C S ∧ R_rn1 C S ∧ R_rn2 C S ∧ R_rn3 C S ∧ R_rn4 C S ∧ R_rn5 C S ∧ R_rg C S ∧ R_rp C S ∧ R_rs C S
def WF (n : Nat) (S : AT) : Prop := W_wn0 n S ∧ W_wn1 n S ∧ W_wn2 n S ∧ W_wn3 n S ∧ W_wn4 n S ∧ W_wn5 n S ∧ W_wb0 n S ∧ W_wbp n S ∧ W_wbg n S ∧ W_wbh n S ∧ W_wbk n S ∧ W_wb2 n S ∧ W_wb2g n S ∧ W_wb3 n S ∧ W_wb4 n S ∧ W_wb4k n S ∧ W_wb5 n S ∧ W_wl0 n S ∧ W_wla n S ∧ W_wlb n S ∧ W_wlc n S ∧ W_wld n S ∧ W_wl2 n S ∧ W_wl4 n S ∧ W_wt0 n S ∧ W_wt1 n S ∧ W_wt2 n S ∧ W_wt3 n S ∧ W_wt4 n S ∧ W_wqa n S ∧ W_wqb n S ∧ W_wqc n S ∧ W_wqd n S ∧ W_wqe n S ∧ W_wq2 n S ∧ W_wf n S ∧ W_wh n S
def GG : GT := fun n C S => Rel C S ∧ WF n S
theorem Rel.rb0 {C S : AT} (h : Rel C S) : R_rb0 C S := h.1
theorem Rel.rb1 {C S : AT} (h : Rel C S) : R_rb1 C S := h.2.1
theorem Rel.rb2 {C S : AT} (h : Rel C S) : R_rb2 C S := h.2.2.1
theorem Rel.rb3 {C S : AT} (h : Rel C S) : R_rb3 C S := h.2.2.2.1
theorem Rel.rc {C S : AT} (h : Rel C S) : R_rc C S := h.2.2.2.2.1
theorem Rel.rl0 {C S : AT} (h : Rel C S) : R_rl0 C S := h.2.2.2.2.2.1
theorem Rel.rl1 {C S : AT} (h : Rel C S) : R_rl1 C S := h.2.2.2.2.2.2.1
theorem Rel.rl2 {C S : AT} (h : Rel C S) : R_rl2 C S := h.2.2.2.2.2.2.2.1
theorem Rel.rl3 {C S : AT} (h : Rel C S) : R_rl3 C S := h.2.2.2.2.2.2.2.2.1
theorem Rel.rls {C S : AT} (h : Rel C S) : R_rls C S := h.2.2.2.2.2.2.2.2.2.1
theorem Rel.rt0 {C S : AT} (h : Rel C S) : R_rt0 C S := h.2.2.2.2.2.2.2.2.2.2.1
theorem Rel.rt1 {C S : AT} (h : Rel C S) : R_rt1 C S := h.2.2.2.2.2.2.2.2.2.2.2.1
theorem Rel.rt2 {C S : AT} (h : Rel C S) : R_rt2 C S := h.2.2.2.2.2.2.2.2.2.2.2.2.1
theorem Rel.rt3 {C S : AT} (h : Rel C S) : R_rt3 C S := h.2.2.2.2.2.2.2.2.2.2.2.2.2.1
theorem Rel.rh {C S : AT} (h : Rel C S) : R_rh C S := h.2.2.2.2.2.2.2.2.2.2.2.2.2.2.1
theorem Rel.rf {C S : AT} (h : Rel C S) : R_rf C S := h.2.2.2.2.2.2.2.2.2.2.2.2.2.2.2.1
theorem Rel.rq0 {C S : AT} (h : Rel C S) : R_rq0 C S := h.2.2.2.2.2.2.2.2.2.2.2.2.2.2.2.2.1
theorem Rel.rq1 {C S : AT} (h : Rel C S) : R_rq1 C S := h.2.2.2.2.2.2.2.2.2.2.2.2.2.2.2.2.2.1
theorem Rel.rq2 {C S : AT} (h : Rel C S) : R_rq2 C S := h.2.2.2.2.2.2.2.2.2.2.2.2.2.2.2.2.2.2.1
theorem Rel.rq3 {C S : AT} (h : Rel C S) : R_rq3 C S := h.2.2.2.2.2.2.2.2.2.2.2.2.2.2.2.2.2.2.2.1
theorem Rel.rq4 {C S : AT} (h : Rel C S) : R_rq4 C S := h.2.2.2.2.2.2.2.2.2.2.2.2.2.2.2.2.2.2.2.2.1
theorem Rel.rn0 {C S : AT} (h : Rel C S) : R_rn0 C S := h.2.2.2.2.2.2.2.2.2.2.2.2.2.2.2.2.2.2.2.2.2.1
theorem Rel.rn1 {C S : AT} (h : Rel C S) : R_rn1 C S := h.2.2.2.2.2.2.2.2.2.2.2.2.2.2.2.2.2.2.2.2.2.2.1
theorem Rel.rn2 {C S : AT} (h : Rel C S) : R_rn2 C S := h.2.2.2.2.2.2.2.2.2.2.2.2.2.2.2.2.2.2.2.2.2.2.2.1
theorem Rel.rn3 {C S : AT} (h : Rel C S) : R_rn3 C S := h.2.2.2.2.2.2.2.2.2.2.2.2.2.2.2.2.2.2.2.2.2.2.2.2.1
theorem Rel.rn4 {C S : AT} (h : Rel C S) : R_rn4 C S := h.2.2.2.2.2.2.2.2.2.2.2.2.2.2.2.2.2.2.2.2.2.2.2.2.2.1
theorem Rel.rn5 {C S : AT} (h : Rel C S) : R_rn5 C S := h.2.2.2.2.2.2.2.2.2.2.2.2.2.2.2.2.2.2.2.2.2.2.2.2.2.2.1
theorem Rel.rg {C S : AT} (h : Rel C S) : R_rg C S := h.2.2.2.2.2.2.2.2.2.2.2.2.2.2.2.2.2.2.2.2.2.2.2.2.2.2.2.1
theorem Rel.rp {C S : AT} (h : Rel C S) : R_rp C S := h.2.2.2.2.2.2.2.2.2.2.2.2.2.2.2.2.2.2.2.2.2.2.2.2.2.2.2.2.1
theorem Rel.rs {C S : AT} (h : Rel C S) : R_rs C S := h.2.2.2.2.2.2.2.2.2.2.2.2.2.2.2.2.2.2.2.2.2.2.2.2.2.2.2.2.2
theorem WF.wn0 {n : Nat} {S : AT} (h : WF n S) : W_wn0 n S := h.1
theorem WF.wn1 {n : Nat} {S : AT} (h : WF n S) : W_wn1 n S := h.2.1
theorem WF.wn2 {n : Nat} {S : AT} (h : WF n S) : W_wn2 n S := h.2.2.1
theorem WF.wn3 {n : Nat} {S : AT} (h : WF n S) : W_wn3 n S := h.2.2.2.1
theorem WF.wn4 {n : Nat} {S : AT} (h : WF n S) : W_wn4 n S := h.2.2.2.2.1
theorem WF.wn5 {n : Nat} {S : AT} (h : WF n S) : W_wn5 n S := h.2.2.2.2.2.1
theorem WF.wb0 {n : Nat} {S : AT} (h : WF n S) : W_wb0 n S := h.2.2.2.2.2.2.1
theorem WF.wbp {n : Nat} {S : AT} (h : WF n S) : W_wbp n S := h.2.2.2.2.2.2.2.1
theorem WF.wbg {n : Nat} {S : AT} (h : WF n S) : W_wbg n S := h.2.2.2.2.2.2.2.2.1
theorem WF.wbh {n : Nat} {S : AT} (h : WF n S) : W_wbh n S := h.2.2.2.2.2.2.2.2.2.1
theorem WF.wbk {n : Nat} {S : AT} (h : WF n S) : W_wbk n S := h.2.2.2.2.2.2.2.2.2.2.1
theorem WF.wb2 {n : Nat} {S : AT} (h : WF n S) : W_wb2 n S := h.2.2.2.2.2.2.2.2.2.2.2.1
theorem WF.wb2g {n : Nat} {S : AT} (h : WF n S) : W_wb2g n S := h.2.2.2.2.2.2.2.2.2.2.2.2.1
theorem WF.wb3 {n : Nat} {S : AT} (h : WF n S) : W_wb3 n S := h.2.2.2.2.2.2.2.2.2.2.2.2.2.1
theorem WF.wb4 {n : Nat} {S : AT} (h : WF n S) : W_wb4 n S := h.2.2.2.2.2.2.2.2.2.2.2.2.2.2.1
theorem WF.wb4k {n : Nat} {S : AT} (h : WF n S) : W_wb4k n S := h.2.2.2.2.2.2.2.2.2.2.2.2.2.2.2.1
theorem WF.wb5 {n : Nat} {S : AT} (h : WF n S) : W_wb5 n S := h.2.2.2.2.2.2.2.2.2.2.2.2.2.2.2.2.1
theorem WF.wl0 {n : Nat} {S : AT} (h : WF n S) : W_wl0 n S := h.2.2.2.2.2.2.2.2.2.2.2.2.2.2.2.2.2.1
theorem WF.wla {n : Nat} {S : AT} (h : WF n S) : W_wla n S := h.2.2.2.2.2.2.2.2.2.2.2.2.2.2.2.2.2.2.1
theorem WF.wlb {n : Nat} {S : AT} (h : WF n S) : W_wlb n S := h.2.2.2.2.2.2.2.2.2.2.2.2.2.2.2.2.2.2.2.1
theorem WF.wlc {n : Nat} {S : AT} (h : WF n S) : W_wlc n S := h.2.2.2.2.2.2.2.2.2.2.2.2.2.2.2.2.2.2.2.2.1
theorem WF.wld {n : Nat} {S : AT} (h : WF n S) : W_wld n S := h.2.2.2.2.2.2.2.2.2.2.2.2.2.2.2.2.2.2.2.2.2.1
theorem WF.wl2 {n : Nat} {S : AT} (h : WF n S) : W_wl2 n S := h.2.2.2.2.2.2.2.2.2.2.2.2.2.2.2.2.2.2.2.2.2.2.1
theorem WF.wl4 {n : Nat} {S : AT} (h : WF n S) : W_wl4 n S := h.2.2.2.2.2.2.2.2.2.2.2.2.2.2.2.2.2.2.2.2.2.2.2.1
theorem WF.wt0 {n : Nat} {S : AT} (h : WF n S) : W_wt0 n S := h.2.2.2.2.2.2.2.2.2.2.2.2.2.2.2.2.2.2.2.2.2.2.2.2.1
theorem WF.wt1 {n : Nat} {S : AT} (h : WF n S) : W_wt1 n S := h.2.2.2.2.2.2.2.2.2.2.2.2.2.2.2.2.2.2.2.2.2.2.2.2.2.1
theorem WF.wt2 {n : Nat} {S : AT} (h : WF n S) : W_wt2 n S := h.2.2.2.2.2.2.2.2.2.2.2.2.2.2.2.2.2.2.2.2.2.2.2.2.2.2.1
theorem WF.wt3 {n : Nat} {S : AT} (h : WF n S) : W_wt3 n S := h.2.2.2.2.2.2.2.2.2.2.2.2.2.2.2.2.2.2.2.2.2.2.2.2.2.2.2.1
theorem WF.wt4 {n : Nat} {S : AT} (h : WF n S) : W_wt4 n S := h.2.2.2.2.2.2.2.2.2.2.2.2.2.2.2.2.2.2.2.2.2.2.2.2.2.2.2.2.1
theorem WF.wqa {n : Nat} {S : AT} (h : WF n S) : W_wqa n S := h.2.2.2.2.2.2.2.2.2.2.2.2.2.2.2.2.2.2.2.2.2.2.2.2.2.2.2.2.2.1
theorem WF.wqb {n : Nat} {S : AT} (h : WF n S) : W_wqb n S := h.2.2.2.2.2.2.2.2.2.2.2.2.2.2.2.2.2.2.2.2.2.2.2.2.2.2.2.2.2.2.1
theorem WF.wqc {n : Nat} {S : AT} (h : WF n S) : W_wqc n S := h.2.2.2.2.2.2.2.2.2.2.2.2.2.2.2.2.2.2.2.2.2.2.2.2.2.2.2.2.2.2.2.1
theorem WF.wqd {n : Nat} {S : AT} (h : WF n S) : W_wqd n S := h.2.2.2.2.2.2.2.2.2.2.2.2.2.2.2.2.2.2.2.2.2.2.2.2.2.2.2.2.2.2.2.2.1
theorem WF.wqe {n : Nat} {S : AT} (h : WF n S) : W_wqe n S := h.2.2.2.2.2.2.2.2.2.2.2.2.2.2.2.2.2.2.2.2.2.2.2.2.2.2.2.2.2.2.2.2.2.1
theorem WF.wq2 {n : Nat} {S : AT} (h : WF n S) : W_wq2 n S := h.2.2.2.2.2.2.2.2.2.2.2.2.2.2.2.2.2.2.2.2.2.2.2.2.2.2.2.2.2.2.2.2.2.2.1
theorem WF.wf {n : Nat} {S : AT} (h : WF n S) : W_wf n S := h.2.2.2.2.2.2.2.2.2.2.2.2.2.2.2.2.2.2.2.2.2.2.2.2.2.2.2.2.2.2.2.2.2.2.2.1
theorem WF.wh {n : Nat} {S : AT} (h : WF n S) : W_wh n S := h.2.2.2.2.2.2.2.2.2.2.2.2.2.2.2.2.2.2.2.2.2.2.2.2.2.2.2.2.2.2.2.2.2.2.2.2
theorem Rel.rb {C S : AT} (h : Rel C S) : ∀ b i : Nat, b < 12 → i < 4 → C (4 * b + i) = S (21 * b + 1 + i) := by
  intro b i hv hi
  rcases (show i = 0 ∨ i = 1 ∨ i = 2 ∨ i = 3 by omega) with rfl | rfl | rfl | rfl
  · exact h.rb0 b hv
  · exact h.rb1 b hv
  · exact h.rb2 b hv
  · exact h.rb3 b hv
theorem Rel.rl {C S : AT} (h : Rel C S) : ∀ l i : Nat, l < 40 → i < 12 → C (240 + 12 * l + i) = S (252 + 12 * l + i) := by
  intro l i hv hi
  rcases (show i = 0 ∨ i = 1 ∨ i = 2 ∨ i = 3 ∨ i = 4 ∨ i = 5 ∨ i = 6 ∨ i = 7 ∨ i = 8 ∨ i = 9 ∨ i = 10 ∨ i = 11 by omega) with rfl | rfl | rfl | rfl | rfl | rfl | rfl | rfl | rfl | rfl | rfl | rfl
  · exact h.rl0 l hv
  · exact h.rl1 l hv
  · exact h.rl2 l hv
  · exact h.rl3 l hv
  · exact h.rls l 0 hv (by omega)
  · exact h.rls l 1 hv (by omega)
  · exact h.rls l 2 hv (by omega)
  · exact h.rls l 3 hv (by omega)
  · exact h.rls l 4 hv (by omega)
  · exact h.rls l 5 hv (by omega)
  · exact h.rls l 6 hv (by omega)
  · exact h.rls l 7 hv (by omega)
theorem Rel.rt {C S : AT} (h : Rel C S) : ∀ t i : Nat, t < 80 → i < 4 → C (720 + 8 * t + i) = S (732 + 5 * t + i) := by
  intro t i hv hi
  rcases (show i = 0 ∨ i = 1 ∨ i = 2 ∨ i = 3 by omega) with rfl | rfl | rfl | rfl
  · exact h.rt0 t hv
  · exact h.rt1 t hv
  · exact h.rt2 t hv
  · exact h.rt3 t hv
theorem Rel.rq {C S : AT} (h : Rel C S) : ∀ c i : Nat, c < 60 → i < 5 → C (1368 + 5 * c + i) = S (1132 + 5 * c + i) := by
  intro c i hv hi
  rcases (show i = 0 ∨ i = 1 ∨ i = 2 ∨ i = 3 ∨ i = 4 by omega) with rfl | rfl | rfl | rfl | rfl
  · exact h.rq0 c hv
  · exact h.rq1 c hv
  · exact h.rq2 c hv
  · exact h.rq3 c hv
  · exact h.rq4 c hv
theorem Rel.rn {C S : AT} (h : Rel C S) : ∀ i : Nat, i < 6 → C (1868 + i) = S (1640 + i) := by
  intro i hi
  rcases (show i = 0 ∨ i = 1 ∨ i = 2 ∨ i = 3 ∨ i = 4 ∨ i = 5 by omega) with rfl | rfl | rfl | rfl | rfl | rfl
  · exact h.rn0
  · exact h.rn1
  · exact h.rn2
  · exact h.rn3
  · exact h.rn4
  · exact h.rn5
theorem WF.wq {n : Nat} {S : AT} (h : WF n S) (c : Nat) (hc : c < 60) (ht : Int32.ofNat c < S 1642) : RG (S (1132 + 5 * c)) 0 11 ∧ (∃ z : Int, -5 ≤ z ∧ z ≤ 5 ∧ z ≠ 0 ∧ S (1132 + 5 * c + 1) = Int32.ofInt z) ∧ RG (S (1132 + 5 * c + 2)) 0 1000000 ∧ RG (S (1132 + 5 * c + 3)) 1 200 ∧ RG (S (1132 + 5 * c + 4)) 0 1 := ⟨h.wqa c hc ht, h.wqb c hc ht, h.wqc c hc ht, h.wqd c hc ht, h.wqe c hc ht⟩
theorem ctS_cg {S S2 : AT} (hS : ∀ k, k < 1646 → S k = S2 k) : ctS S2 = ctS S := by
  funext b p; unfold ctS; split
  · next h => rw [hS _ (by omega)]
  · rfl
theorem R_rb0_cg {C : AT} {S S2 : AT} (hS : ∀ k, k < 1646 → S k = S2 k) (h : R_rb0 C S) : R_rb0 C S2 := by
  intro b h0
  have h9 := h b h0
  simp only [← hS (21 * b + 1) (by omega)]
  exact h9
theorem R_rb1_cg {C : AT} {S S2 : AT} (hS : ∀ k, k < 1646 → S k = S2 k) (h : R_rb1 C S) : R_rb1 C S2 := by
  intro b h0
  have h9 := h b h0
  simp only [← hS (21 * b + 2) (by omega)]
  exact h9
theorem R_rb2_cg {C : AT} {S S2 : AT} (hS : ∀ k, k < 1646 → S k = S2 k) (h : R_rb2 C S) : R_rb2 C S2 := by
  intro b h0
  have h9 := h b h0
  simp only [← hS (21 * b + 3) (by omega)]
  exact h9
theorem R_rb3_cg {C : AT} {S S2 : AT} (hS : ∀ k, k < 1646 → S k = S2 k) (h : R_rb3 C S) : R_rb3 C S2 := by
  intro b h0
  have h9 := h b h0
  simp only [← hS (21 * b + 4) (by omega)]
  exact h9
theorem R_rc_cg {C : AT} {S S2 : AT} (hS : ∀ k, k < 1646 → S k = S2 k) (h : R_rc C S) : R_rc C S2 := by
  intro b p h0 h1
  have h9 := h b p h0 h1
  simp only [← hS (21 * b + 5 + p) (by omega)]
  exact h9
theorem R_rl0_cg {C : AT} {S S2 : AT} (hS : ∀ k, k < 1646 → S k = S2 k) (h : R_rl0 C S) : R_rl0 C S2 := by
  intro l h0
  have h9 := h l h0
  simp only [← hS (252 + 12 * l) (by omega)]
  exact h9
theorem R_rl1_cg {C : AT} {S S2 : AT} (hS : ∀ k, k < 1646 → S k = S2 k) (h : R_rl1 C S) : R_rl1 C S2 := by
  intro l h0
  have h9 := h l h0
  simp only [← hS (252 + 12 * l + 1) (by omega)]
  exact h9
theorem R_rl2_cg {C : AT} {S S2 : AT} (hS : ∀ k, k < 1646 → S k = S2 k) (h : R_rl2 C S) : R_rl2 C S2 := by
  intro l h0
  have h9 := h l h0
  simp only [← hS (252 + 12 * l + 2) (by omega)]
  exact h9
theorem R_rl3_cg {C : AT} {S S2 : AT} (hS : ∀ k, k < 1646 → S k = S2 k) (h : R_rl3 C S) : R_rl3 C S2 := by
  intro l h0
  have h9 := h l h0
  simp only [← hS (252 + 12 * l + 3) (by omega)]
  exact h9
theorem R_rls_cg {C : AT} {S S2 : AT} (hS : ∀ k, k < 1646 → S k = S2 k) (h : R_rls C S) : R_rls C S2 := by
  intro l i h0 h1
  have h9 := h l i h0 h1
  simp only [← hS (252 + 12 * l + 4 + i) (by omega)]
  exact h9
theorem R_rt0_cg {C : AT} {S S2 : AT} (hS : ∀ k, k < 1646 → S k = S2 k) (h : R_rt0 C S) : R_rt0 C S2 := by
  intro t h0
  have h9 := h t h0
  simp only [← hS (732 + 5 * t) (by omega)]
  exact h9
theorem R_rt1_cg {C : AT} {S S2 : AT} (hS : ∀ k, k < 1646 → S k = S2 k) (h : R_rt1 C S) : R_rt1 C S2 := by
  intro t h0
  have h9 := h t h0
  simp only [← hS (732 + 5 * t + 1) (by omega)]
  exact h9
theorem R_rt2_cg {C : AT} {S S2 : AT} (hS : ∀ k, k < 1646 → S k = S2 k) (h : R_rt2 C S) : R_rt2 C S2 := by
  intro t h0
  have h9 := h t h0
  simp only [← hS (732 + 5 * t + 2) (by omega)]
  exact h9
theorem R_rt3_cg {C : AT} {S S2 : AT} (hS : ∀ k, k < 1646 → S k = S2 k) (h : R_rt3 C S) : R_rt3 C S2 := by
  intro t h0
  have h9 := h t h0
  simp only [← hS (732 + 5 * t + 3) (by omega)]
  exact h9
theorem R_rh_cg {C : AT} {S S2 : AT} (hS : ∀ k, k < 1646 → S k = S2 k) (h : R_rh C S) : R_rh C S2 := by
  intro t h0
  have h9 := h t h0
  simp only [← hS (732 + 5 * t + 4) (by omega)]
  exact h9
theorem R_rf_cg {C : AT} {S S2 : AT} (hS : ∀ k, k < 1646 → S k = S2 k) (h : R_rf C S) : R_rf C S2 := by
  intro k h0
  have h9 := h k h0
  simp only [← hS (1432 + k) (by omega)]
  exact h9
theorem R_rq0_cg {C : AT} {S S2 : AT} (hS : ∀ k, k < 1646 → S k = S2 k) (h : R_rq0 C S) : R_rq0 C S2 := by
  intro c h0
  have h9 := h c h0
  simp only [← hS (1132 + 5 * c) (by omega)]
  exact h9
theorem R_rq1_cg {C : AT} {S S2 : AT} (hS : ∀ k, k < 1646 → S k = S2 k) (h : R_rq1 C S) : R_rq1 C S2 := by
  intro c h0
  have h9 := h c h0
  simp only [← hS (1132 + 5 * c + 1) (by omega)]
  exact h9
theorem R_rq2_cg {C : AT} {S S2 : AT} (hS : ∀ k, k < 1646 → S k = S2 k) (h : R_rq2 C S) : R_rq2 C S2 := by
  intro c h0
  have h9 := h c h0
  simp only [← hS (1132 + 5 * c + 2) (by omega)]
  exact h9
theorem R_rq3_cg {C : AT} {S S2 : AT} (hS : ∀ k, k < 1646 → S k = S2 k) (h : R_rq3 C S) : R_rq3 C S2 := by
  intro c h0
  have h9 := h c h0
  simp only [← hS (1132 + 5 * c + 3) (by omega)]
  exact h9
theorem R_rq4_cg {C : AT} {S S2 : AT} (hS : ∀ k, k < 1646 → S k = S2 k) (h : R_rq4 C S) : R_rq4 C S2 := by
  intro c h0
  have h9 := h c h0
  simp only [← hS (1132 + 5 * c + 4) (by omega)]
  exact h9
theorem R_rn0_cg {C : AT} {S S2 : AT} (hS : ∀ k, k < 1646 → S k = S2 k) (h : R_rn0 C S) : R_rn0 C S2 := by
  have h9 := h
  unfold R_rn0 at h9 ⊢
  simp only [← hS (1640) (by omega)]
  exact h9
theorem R_rn1_cg {C : AT} {S S2 : AT} (hS : ∀ k, k < 1646 → S k = S2 k) (h : R_rn1 C S) : R_rn1 C S2 := by
  have h9 := h
  unfold R_rn1 at h9 ⊢
  simp only [← hS (1641) (by omega)]
  exact h9
theorem R_rn2_cg {C : AT} {S S2 : AT} (hS : ∀ k, k < 1646 → S k = S2 k) (h : R_rn2 C S) : R_rn2 C S2 := by
  have h9 := h
  unfold R_rn2 at h9 ⊢
  simp only [← hS (1642) (by omega)]
  exact h9
theorem R_rn3_cg {C : AT} {S S2 : AT} (hS : ∀ k, k < 1646 → S k = S2 k) (h : R_rn3 C S) : R_rn3 C S2 := by
  have h9 := h
  unfold R_rn3 at h9 ⊢
  simp only [← hS (1643) (by omega)]
  exact h9
theorem R_rn4_cg {C : AT} {S S2 : AT} (hS : ∀ k, k < 1646 → S k = S2 k) (h : R_rn4 C S) : R_rn4 C S2 := by
  have h9 := h
  unfold R_rn4 at h9 ⊢
  simp only [← hS (1644) (by omega)]
  exact h9
theorem R_rn5_cg {C : AT} {S S2 : AT} (hS : ∀ k, k < 1646 → S k = S2 k) (h : R_rn5 C S) : R_rn5 C S2 := by
  have h9 := h
  unfold R_rn5 at h9 ⊢
  simp only [← hS (1645) (by omega)]
  exact h9
theorem R_rg_cg {C : AT} {S S2 : AT} (hS : ∀ k, k < 1646 → S k = S2 k) (h : R_rg C S) : R_rg C S2 := by
  intro t h0
  have h9 := h t h0
  simp only [← hS (1641) (by omega), ← hS (732 + 5 * t) (by omega), ← hS (732 + 5 * t + 3) (by omega)]
  exact h9
theorem R_rp_cg {C : AT} {S S2 : AT} (hS : ∀ k, k < 1646 → S k = S2 k) (h : R_rp C S) : R_rp C S2 := by
  intro t h0
  have h9 := h t h0
  simp only [← hS (1641) (by omega), ← hS (732 + 5 * t) (by omega), ctS_cg hS]
  exact h9
theorem R_rs_cg {C : AT} {S S2 : AT} (hS : ∀ k, k < 1646 → S k = S2 k) (h : R_rs C S) : R_rs C S2 := by
  intro m k i h0 h1 h2 h3
  have h9 := h m k i h0 h1 h2 h3
  have hb : 5 * ((if m < 40 then m else 40) - 1 - k) + i < 200 := by split <;> omega
  have hc : 1440 + (5 * ((if m < 40 then m else 40) - 1 - k) + i) < 1646 := by omega
  simp only [← hS 1643 (by omega), ← hS _ hc]
  exact h9
theorem W_wn0_cg {n : Nat} {S S2 : AT} (hS : ∀ k, k < 1646 → S k = S2 k) (h : W_wn0 n S) : W_wn0 n S2 := by
  have h9 := h
  unfold W_wn0 at h9 ⊢
  simp only [← hS (1640) (by omega)]
  exact h9
theorem W_wn1_cg {n : Nat} {S S2 : AT} (hS : ∀ k, k < 1646 → S k = S2 k) (h : W_wn1 n S) : W_wn1 n S2 := by
  have h9 := h
  unfold W_wn1 at h9 ⊢
  simp only [← hS (1641) (by omega)]
  exact h9
theorem W_wn2_cg {n : Nat} {S S2 : AT} (hS : ∀ k, k < 1646 → S k = S2 k) (h : W_wn2 n S) : W_wn2 n S2 := by
  have h9 := h
  unfold W_wn2 at h9 ⊢
  simp only [← hS (1642) (by omega)]
  exact h9
theorem W_wn3_cg {n : Nat} {S S2 : AT} (hS : ∀ k, k < 1646 → S k = S2 k) (h : W_wn3 n S) : W_wn3 n S2 := by
  have h9 := h
  unfold W_wn3 at h9 ⊢
  simp only [← hS (1643) (by omega)]
  exact h9
theorem W_wn4_cg {n : Nat} {S S2 : AT} (hS : ∀ k, k < 1646 → S k = S2 k) (h : W_wn4 n S) : W_wn4 n S2 := by
  have h9 := h
  unfold W_wn4 at h9 ⊢
  simp only [← hS (1644) (by omega)]
  exact h9
theorem W_wn5_cg {n : Nat} {S S2 : AT} (hS : ∀ k, k < 1646 → S k = S2 k) (h : W_wn5 n S) : W_wn5 n S2 := by
  have h9 := h
  unfold W_wn5 at h9 ⊢
  simp only [← hS (1645) (by omega)]
  exact h9
theorem W_wb0_cg {n : Nat} {S S2 : AT} (hS : ∀ k, k < 1646 → S k = S2 k) (h : W_wb0 n S) : W_wb0 n S2 := by
  intro b h0
  have h9 := h b h0
  simp only [← hS (21 * b) (by omega)]
  exact h9
theorem W_wbp_cg {n : Nat} {S S2 : AT} (hS : ∀ k, k < 1646 → S k = S2 k) (h : W_wbp n S) : W_wbp n S2 := by
  intro b h0
  have h9 := h b h0
  simp only [← hS (21 * b) (by omega), ← hS (21 * b + 1) (by omega)]
  exact h9
theorem W_wbg_cg {n : Nat} {S S2 : AT} (hS : ∀ k, k < 1646 → S k = S2 k) (h : W_wbg n S) : W_wbg n S2 := by
  intro b h0
  have h9 := h b h0
  simp only [← hS (21 * b) (by omega), ← hS (21 * b + 2) (by omega)]
  exact h9
theorem W_wbh_cg {n : Nat} {S S2 : AT} (hS : ∀ k, k < 1646 → S k = S2 k) (h : W_wbh n S) : W_wbh n S2 := by
  intro b h0
  have h9 := h b h0
  simp only [← hS (21 * b) (by omega), ← hS (21 * b + 3) (by omega)]
  exact h9
theorem W_wbk_cg {n : Nat} {S S2 : AT} (hS : ∀ k, k < 1646 → S k = S2 k) (h : W_wbk n S) : W_wbk n S2 := by
  intro b h0
  have h9 := h b h0
  simp only [← hS (21 * b) (by omega), ← hS (21 * b + 4) (by omega)]
  exact h9
theorem W_wb2_cg {n : Nat} {S S2 : AT} (hS : ∀ k, k < 1646 → S k = S2 k) (h : W_wb2 n S) : W_wb2 n S2 := by
  intro b h0
  have h9 := h b h0
  simp only [← hS (21 * b) (by omega), ← hS (21 * b + 1) (by omega)]
  exact h9
theorem W_wb2g_cg {n : Nat} {S S2 : AT} (hS : ∀ k, k < 1646 → S k = S2 k) (h : W_wb2g n S) : W_wb2g n S2 := by
  intro b h0
  have h9 := h b h0
  simp only [← hS (21 * b) (by omega), ← hS (21 * b + 2) (by omega)]
  exact h9
theorem W_wb3_cg {n : Nat} {S S2 : AT} (hS : ∀ k, k < 1646 → S k = S2 k) (h : W_wb3 n S) : W_wb3 n S2 := by
  intro b p h0 h1
  have h9 := h b p h0 h1
  simp only [← hS (21 * b + 1) (by omega), ← hS (21 * b + 5 + p) (by omega)]
  exact h9
theorem W_wb4_cg {n : Nat} {S S2 : AT} (hS : ∀ k, k < 1646 → S k = S2 k) (h : W_wb4 n S) : W_wb4 n S2 := by
  intro b h0
  have h9 := h b h0
  simp only [← hS (21 * b + 3) (by omega)]
  exact h9
theorem W_wb4k_cg {n : Nat} {S S2 : AT} (hS : ∀ k, k < 1646 → S k = S2 k) (h : W_wb4k n S) : W_wb4k n S2 := by
  intro b h0
  have h9 := h b h0
  simp only [← hS (21 * b + 4) (by omega)]
  exact h9
theorem W_wb5_cg {n : Nat} {S S2 : AT} (hS : ∀ k, k < 1646 → S k = S2 k) (h : W_wb5 n S) : W_wb5 n S2 := by
  intro b p h0 h1
  have h9 := h b p h0 h1
  simp only [← hS (21 * b + 5 + p) (by omega), ← hS (1641) (by omega)]
  exact h9
theorem W_wl0_cg {n : Nat} {S S2 : AT} (hS : ∀ k, k < 1646 → S k = S2 k) (h : W_wl0 n S) : W_wl0 n S2 := by
  intro l h0
  have h9 := h l h0
  simp only [← hS (1640) (by omega), ← hS (252 + 12 * l + 3) (by omega)]
  exact h9
theorem W_wla_cg {n : Nat} {S S2 : AT} (hS : ∀ k, k < 1646 → S k = S2 k) (h : W_wla n S) : W_wla n S2 := by
  intro l h0
  have h9 := h l h0
  simp only [← hS (1640) (by omega), ← hS (252 + 12 * l) (by omega)]
  exact h9
theorem W_wlb_cg {n : Nat} {S S2 : AT} (hS : ∀ k, k < 1646 → S k = S2 k) (h : W_wlb n S) : W_wlb n S2 := by
  intro l h0
  have h9 := h l h0
  simp only [← hS (1640) (by omega), ← hS (252 + 12 * l + 1) (by omega)]
  exact h9
theorem W_wlc_cg {n : Nat} {S S2 : AT} (hS : ∀ k, k < 1646 → S k = S2 k) (h : W_wlc n S) : W_wlc n S2 := by
  intro l h0
  have h9 := h l h0
  simp only [← hS (1640) (by omega), ← hS (252 + 12 * l + 2) (by omega)]
  exact h9
theorem W_wld_cg {n : Nat} {S S2 : AT} (hS : ∀ k, k < 1646 → S k = S2 k) (h : W_wld n S) : W_wld n S2 := by
  intro l h0
  have h9 := h l h0
  simp only [← hS (1640) (by omega), ← hS (252 + 12 * l + 3) (by omega)]
  exact h9
theorem W_wl2_cg {n : Nat} {S S2 : AT} (hS : ∀ k, k < 1646 → S k = S2 k) (h : W_wl2 n S) : W_wl2 n S2 := by
  intro l i h0 h1
  have h9 := h l i h0 h1
  simp only [← hS (1640) (by omega), ← hS (252 + 12 * l + 2) (by omega), ← hS (252 + 12 * l + 4 + i) (by omega)]
  exact h9
theorem W_wl4_cg {n : Nat} {S S2 : AT} (hS : ∀ k, k < 1646 → S k = S2 k) (h : W_wl4 n S) : W_wl4 n S2 := by
  intro l m h0 h1 h2
  have h9 := h l m h0 h1 h2
  simp only [← hS (252 + 12 * l + 3) (by omega), ← hS (252 + 12 * m + 3) (by omega), ← hS (252 + 12 * l) (by omega), ← hS (252 + 12 * m) (by omega), ← hS (252 + 12 * l + 1) (by omega), ← hS (252 + 12 * m + 1) (by omega)]
  exact h9
theorem W_wt0_cg {n : Nat} {S S2 : AT} (hS : ∀ k, k < 1646 → S k = S2 k) (h : W_wt0 n S) : W_wt0 n S2 := by
  intro t h0
  have h9 := h t h0
  simp only [← hS (1641) (by omega), ← hS (732 + 5 * t) (by omega)]
  exact h9
theorem W_wt1_cg {n : Nat} {S S2 : AT} (hS : ∀ k, k < 1646 → S k = S2 k) (h : W_wt1 n S) : W_wt1 n S2 := by
  intro t h0
  have h9 := h t h0
  simp only [← hS (1641) (by omega), ← hS (732 + 5 * t + 1) (by omega)]
  exact h9
theorem W_wt2_cg {n : Nat} {S S2 : AT} (hS : ∀ k, k < 1646 → S k = S2 k) (h : W_wt2 n S) : W_wt2 n S2 := by
  intro t h0
  have h9 := h t h0
  simp only [← hS (1641) (by omega), ← hS (732 + 5 * t + 2) (by omega)]
  exact h9
theorem W_wt3_cg {n : Nat} {S S2 : AT} (hS : ∀ k, k < 1646 → S k = S2 k) (h : W_wt3 n S) : W_wt3 n S2 := by
  intro t h0
  have h9 := h t h0
  simp only [← hS (1641) (by omega), ← hS (732 + 5 * t + 3) (by omega)]
  exact h9
theorem W_wt4_cg {n : Nat} {S S2 : AT} (hS : ∀ k, k < 1646 → S k = S2 k) (h : W_wt4 n S) : W_wt4 n S2 := by
  intro t h0
  have h9 := h t h0
  simp only [← hS (1641) (by omega), ← hS (732 + 5 * t + 4) (by omega), ← hS (732 + 5 * t) (by omega)]
  exact h9
theorem W_wqa_cg {n : Nat} {S S2 : AT} (hS : ∀ k, k < 1646 → S k = S2 k) (h : W_wqa n S) : W_wqa n S2 := by
  intro c h0
  have h9 := h c h0
  simp only [← hS (1642) (by omega), ← hS (1132 + 5 * c) (by omega)]
  exact h9
theorem W_wqb_cg {n : Nat} {S S2 : AT} (hS : ∀ k, k < 1646 → S k = S2 k) (h : W_wqb n S) : W_wqb n S2 := by
  intro c h0
  have h9 := h c h0
  simp only [← hS (1642) (by omega), ← hS (1132 + 5 * c + 1) (by omega)]
  exact h9
theorem W_wqc_cg {n : Nat} {S S2 : AT} (hS : ∀ k, k < 1646 → S k = S2 k) (h : W_wqc n S) : W_wqc n S2 := by
  intro c h0
  have h9 := h c h0
  simp only [← hS (1642) (by omega), ← hS (1132 + 5 * c + 2) (by omega)]
  exact h9
theorem W_wqd_cg {n : Nat} {S S2 : AT} (hS : ∀ k, k < 1646 → S k = S2 k) (h : W_wqd n S) : W_wqd n S2 := by
  intro c h0
  have h9 := h c h0
  simp only [← hS (1642) (by omega), ← hS (1132 + 5 * c + 3) (by omega)]
  exact h9
theorem W_wqe_cg {n : Nat} {S S2 : AT} (hS : ∀ k, k < 1646 → S k = S2 k) (h : W_wqe n S) : W_wqe n S2 := by
  intro c h0
  have h9 := h c h0
  simp only [← hS (1642) (by omega), ← hS (1132 + 5 * c + 4) (by omega)]
  exact h9
theorem W_wq2_cg {n : Nat} {S S2 : AT} (hS : ∀ k, k < 1646 → S k = S2 k) (h : W_wq2 n S) : W_wq2 n S2 := by
  intro c b h0 h1
  have h9 := h c b h0 h1
  simp only [← hS (1642) (by omega), ← hS (1132 + 5 * c) (by omega), ← hS (21 * b) (by omega), ← hS (1132 + 5 * c + 4) (by omega), ← hS (1132 + 5 * c + 2) (by omega), ← hS (1132 + 5 * c + 3) (by omega), ← hS (1645) (by omega)]
  exact h9
theorem W_wf_cg {n : Nat} {S S2 : AT} (hS : ∀ k, k < 1646 → S k = S2 k) (h : W_wf n S) : W_wf n S2 := by
  intro k h0
  have h9 := h k h0
  simp only [← hS (1432 + k) (by omega)]
  exact h9
theorem W_wh_cg {n : Nat} {S S2 : AT} (hS : ∀ k, k < 1646 → S k = S2 k) (h : W_wh n S) : W_wh n S2 := by
  intro b p q t u h0 h1 h2 h3 h4 h5 h6 h7
  have h9 := h b p q t u h0 h1 h2 h3 h4 h5 h6 h7
  simp only [← hS (21 * b + 5 + p) (by omega), ← hS (21 * b + 5 + q) (by omega), ← hS (732 + 5 * t) (by omega), ← hS (732 + 5 * u + 4) (by omega)]
  exact h9
theorem RG.mono {x : Int32} {lo a b : Nat} (h : RG x lo a) (hab : a ≤ b) : RG x lo b := by
  obtain ⟨n, h1, h2, h3⟩ := h
  exact ⟨n, h1, Nat.le_trans h2 hab, h3⟩
theorem gg_ok : GOK GG := by
  refine ⟨fun n C S h => ⟨h.1, ?_⟩, fun n C S S2 hS h => ⟨⟨R_rb0_cg hS h.1.rb0, R_rb1_cg hS h.1.rb1, R_rb2_cg hS h.1.rb2, R_rb3_cg hS h.1.rb3, R_rc_cg hS h.1.rc, R_rl0_cg hS h.1.rl0, R_rl1_cg hS h.1.rl1, R_rl2_cg hS h.1.rl2, R_rl3_cg hS h.1.rl3, R_rls_cg hS h.1.rls, R_rt0_cg hS h.1.rt0, R_rt1_cg hS h.1.rt1, R_rt2_cg hS h.1.rt2, R_rt3_cg hS h.1.rt3, R_rh_cg hS h.1.rh, R_rf_cg hS h.1.rf, R_rq0_cg hS h.1.rq0, R_rq1_cg hS h.1.rq1, R_rq2_cg hS h.1.rq2, R_rq3_cg hS h.1.rq3, R_rq4_cg hS h.1.rq4, R_rn0_cg hS h.1.rn0, R_rn1_cg hS h.1.rn1, R_rn2_cg hS h.1.rn2, R_rn3_cg hS h.1.rn3, R_rn4_cg hS h.1.rn4, R_rn5_cg hS h.1.rn5, R_rg_cg hS h.1.rg, R_rp_cg hS h.1.rp, R_rs_cg hS h.1.rs⟩, ⟨W_wn0_cg hS h.2.wn0, W_wn1_cg hS h.2.wn1, W_wn2_cg hS h.2.wn2, W_wn3_cg hS h.2.wn3, W_wn4_cg hS h.2.wn4, W_wn5_cg hS h.2.wn5, W_wb0_cg hS h.2.wb0, W_wbp_cg hS h.2.wbp, W_wbg_cg hS h.2.wbg, W_wbh_cg hS h.2.wbh, W_wbk_cg hS h.2.wbk, W_wb2_cg hS h.2.wb2, W_wb2g_cg hS h.2.wb2g, W_wb3_cg hS h.2.wb3, W_wb4_cg hS h.2.wb4, W_wb4k_cg hS h.2.wb4k, W_wb5_cg hS h.2.wb5, W_wl0_cg hS h.2.wl0, W_wla_cg hS h.2.wla, W_wlb_cg hS h.2.wlb, W_wlc_cg hS h.2.wlc, W_wld_cg hS h.2.wld, W_wl2_cg hS h.2.wl2, W_wl4_cg hS h.2.wl4, W_wt0_cg hS h.2.wt0, W_wt1_cg hS h.2.wt1, W_wt2_cg hS h.2.wt2, W_wt3_cg hS h.2.wt3, W_wt4_cg hS h.2.wt4, W_wqa_cg hS h.2.wqa, W_wqb_cg hS h.2.wqb, W_wqc_cg hS h.2.wqc, W_wqd_cg hS h.2.wqd, W_wqe_cg hS h.2.wqe, W_wq2_cg hS h.2.wq2, W_wf_cg hS h.2.wf, W_wh_cg hS h.2.wh⟩⟩⟩
  exact ⟨h.2.wn0, h.2.wn1, h.2.wn2, RG.mono h.2.wn3 (by omega), RG.mono h.2.wn4 (by omega), RG.mono h.2.wn5 (by omega), h.2.wb0, h.2.wbp, h.2.wbg, h.2.wbh, h.2.wbk, h.2.wb2, h.2.wb2g, h.2.wb3, h.2.wb4, h.2.wb4k, h.2.wb5, h.2.wl0, h.2.wla, h.2.wlb, h.2.wlc, h.2.wld, h.2.wl2, h.2.wl4, h.2.wt0, h.2.wt1, h.2.wt2, h.2.wt3, h.2.wt4, h.2.wqa, h.2.wqb, h.2.wqc, h.2.wqd, h.2.wqe, h.2.wq2, h.2.wf, (fun b p q t u a1 a2 a3 a4 a5 a6 a7 a8 => h.2.wh b p q t u a1 a2 a3 a4 a5 a6 a7 (by omega))⟩
