/-! what clashes -/
def clP (S : AT) (b : Nat) (h : Int32) (o p : Nat) : Prop := ((¬ S (21 * b + 5 + p) < 2 ∧ ¬ S (21 * o + 5 + p) < 2 ∧ ¬ S (21 * b + 5 + p) = S (21 * o + 5 + p)) ∧ ¬ S (732 + 5 * tix (S (21 * b + 5 + p)) + 1) + S (732 + 5 * tix (S (21 * o + 5 + p)) + 1) < S (21 * (if o < b then o else b) + 2) ∧ (S (732 + 5 * tix (S (21 * b + 5 + p)) + 1) + S (732 + 5 * tix (S (21 * o + 5 + p)) + 1) = S (21 * (if o < b then o else b) + 2) → 3 ≤ S (732 + 5 * tix (S (21 * b + 5 + p))) ∨ 3 ≤ S (732 + 5 * tix (S (21 * o + 5 + p))))) ∧ ¬ S (21 * o + 3) ≤ h - S (732 + 5 * tix (S (21 * b + 5 + p)) + 2) ∧ ¬ h ≤ S (21 * o + 3) - S (732 + 5 * tix (S (21 * o + 5 + p)) + 2)
noncomputable def clb (S : AT) (b : Nat) (h : Int32) (o p : Nat) : Bool := @decide (clP S b h o p) (Classical.propDecidable _)
theorem clb_iff {S : AT} {b : Nat} {h : Int32} {o p : Nat} : clb S b h o p = true ↔ clP S b h o p := by
  unfold clb
  exact @decide_eq_true_iff (clP S b h o p) (Classical.propDecidable _)
theorem max3 {a b : Int32} : (3 ≤ if a < b then b else a) ↔ 3 ≤ a ∨ 3 ≤ b := by
  rw [Int32.le_iff_toInt_le, Int32.le_iff_toInt_le, Int32.le_iff_toInt_le]
  by_cases q : a < b
  · rw [if_pos q]
    rw [Int32.lt_iff_toInt_lt] at q; omega
  · rw [if_neg q]
    rw [Int32.lt_iff_toInt_lt] at q; omega
theorem gap_min {b o : Nat} (hb : b < 12) (ho : o < 12) : (if Int32.ofNat o < Int32.ofNat b then Int32.ofNat o else Int32.ofNat b) = Int32.ofNat (if o < b then o else b) := by
  by_cases q : o < b
  · rw [if_pos q, if_pos ((nat_lt (by omega) (by omega)).mpr q)]
  · rw [if_neg q, if_neg (fun x => q ((nat_lt (by omega) (by omega)).mp x))]
theorem c_would {n : Nat} {V : VT} {S : AT} {b o p : Nat} (v : Int32) (h : GG n (V 0) S) (hb : b < 12) (ho : o < 12) (hp : p < 16) : f_X5_wouldClash (Int32.ofNat b) v (Int32.ofNat o) (Int32.ofNat p) V = some (if clb S b v o p = true then 1 else 0) := by
  have g1 : f_X7_get 48 12 16 (Int32.ofNat b) (Int32.ofNat p) V = some (S (21 * b + 5 + p)) := by rw [← h.1.rc b p hb hp]; exact gcon hb hp
  have g2 : f_X7_get 48 12 16 (Int32.ofNat o) (Int32.ofNat p) V = some (S (21 * o + 5 + p)) := by rw [← h.1.rc o p ho hp]; exact gcon ho hp
  rcases low_ct h hb hp with ⟨hl, hlo⟩ | ⟨hl, x, hx, hxt, ex⟩
  · rw [if_neg (fun q => (clb_iff.mp q).1.1.1 hl)]
    simp only [f_X5_wouldClash, g1, g2, low_sub hlo, if_true, bsm]
  · have nx : ¬ Int32.ofNat x < 0 := nat_nneg (by omega)
    rcases low_ct h ho hp with ⟨hl2, hlo2⟩ | ⟨hl2, y, hy, hyt, ey⟩
    · rw [if_neg (fun q => (clb_iff.mp q).1.1.2.1 hl2)]
      rw [ex] at g1
      simp only [f_X5_wouldClash, g1, g2, sub2, nx, if_false, low_sub hlo2, if_true, bsm]
    · have ny : ¬ Int32.ofNat y < 0 := nat_nneg (by omega)
      have hmin : (if o < b then o else b) < 12 := by split <;> omega
      have gg1 : f_X7_get 0 12 4 (Int32.ofNat (if o < b then o else b)) 1 V = some (S (21 * (if o < b then o else b) + 2)) := by rw [← h.1.rb1 _ hmin]; exact gbar (c := 1) hmin (by omega)
      have gh : f_X7_get 0 12 4 (Int32.ofNat o) 2 V = some (S (21 * o + 3)) := by rw [← h.1.rb2 o ho]; exact gbar (c := 2) ho (by omega)
      have tg : ∀ t, t < 80 → ∀ c : Nat, c < 4 → f_X7_get 720 80 8 (Int32.ofNat t) (Int32.ofNat c) V = some (S (732 + 5 * t + c)) := fun t ht c hc => by rw [← h.1.rt t c ht hc]; exact tget ht (by omega)
      have x0 : f_X7_get 720 80 8 (Int32.ofNat x) 0 V = some (S (732 + 5 * x)) := tg x hx 0 (by omega)
      have x1 : f_X7_get 720 80 8 (Int32.ofNat x) 1 V = some (S (732 + 5 * x + 1)) := tg x hx 1 (by omega)
      have x2 : f_X7_get 720 80 8 (Int32.ofNat x) 2 V = some (S (732 + 5 * x + 2)) := tg x hx 2 (by omega)
      have y0 : f_X7_get 720 80 8 (Int32.ofNat y) 0 V = some (S (732 + 5 * y)) := tg y hy 0 (by omega)
      have y1 : f_X7_get 720 80 8 (Int32.ofNat y) 1 V = some (S (732 + 5 * y + 1)) := tg y hy 1 (by omega)
      have y2 : f_X7_get 720 80 8 (Int32.ofNat y) 2 V = some (S (732 + 5 * y + 2)) := tg y hy 2 (by omega)
      have hcl : clb S b v o p = true ↔ (¬ x = y) ∧ (¬ S (732 + 5 * x + 1) + S (732 + 5 * y + 1) < S (21 * (if o < b then o else b) + 2)) ∧ (S (732 + 5 * x + 1) + S (732 + 5 * y + 1) = S (21 * (if o < b then o else b) + 2) → 3 ≤ S (732 + 5 * x) ∨ 3 ≤ S (732 + 5 * y)) ∧ ¬ S (21 * o + 3) ≤ v - S (732 + 5 * x + 2) ∧ ¬ v ≤ S (21 * o + 3) - S (732 + 5 * y + 2) := by
        rw [clb_iff]
        unfold clP
        rw [tix_at hx ex, tix_at hy ey]
        constructor
        · intro q; exact ⟨fun e => q.1.1.2.2 (by rw [ex, ey, e]), q.1.2.1, q.1.2.2, q.2.1, q.2.2⟩
        · intro q; exact ⟨⟨⟨hl, hl2, fun e => q.1 (thing_inj hx hy (ex.symm.trans (e.trans ey)))⟩, q.2.1, q.2.2.1⟩, q.2.2.2.1, q.2.2.2.2⟩
      rw [ex] at g1
      rw [ey] at g2
      by_cases exy : x = y
      · rw [if_neg (fun q => (hcl.mp q).1 exy)]
        have e9 := eq_true (congrArg Int32.ofNat exy)
        simp only [f_X5_wouldClash, g1, g2, sub2, nx, ny, if_false, e9, if_true, bsm]
      · have nxy : ¬ Int32.ofNat x = Int32.ofNat y := fun e => exy ((nat_eq (by omega) (by omega)).mp e)
        by_cases c1 : S (732 + 5 * x + 1) + S (732 + 5 * y + 1) < S (21 * (if o < b then o else b) + 2)
        · rw [if_neg (fun q => (hcl.mp q).2.1 c1)]
          simp only [f_X5_wouldClash, g1, g2, sub2, nx, ny, if_false, nxy, gap_min hb ho, gg1, x1, y1, x0, y0, c1, if_true, bsm]
        · have tail : f_X5_wouldClash_j153 v (Int32.ofNat o) (Int32.ofNat x) (Int32.ofNat y) V = some (if ¬ S (21 * o + 3) ≤ v - S (732 + 5 * x + 2) ∧ ¬ v ≤ S (21 * o + 3) - S (732 + 5 * y + 2) then 1 else 0) := by
            unfold f_X5_wouldClash_j153 f_X5_wouldClash_j211
            rw [gh, bsm, x2, bsm]
            by_cases d1 : S (21 * o + 3) ≤ v - S (732 + 5 * x + 2)
            · rw [if_pos d1, if_neg (fun q => q.1 d1)]
            · rw [if_neg d1, y2, bsm]
              by_cases d2 : v ≤ S (21 * o + 3) - S (732 + 5 * y + 2)
              · rw [if_pos d2, if_neg (fun q => q.2 d2)]
              · rw [if_neg d2, if_pos ⟨d1, d2⟩]
          have fin : (S (732 + 5 * x + 1) + S (732 + 5 * y + 1) = S (21 * (if o < b then o else b) + 2) → 3 ≤ S (732 + 5 * x) ∨ 3 ≤ S (732 + 5 * y)) → (if ¬ S (21 * o + 3) ≤ v - S (732 + 5 * x + 2) ∧ ¬ v ≤ S (21 * o + 3) - S (732 + 5 * y + 2) then (1 : Int32) else 0) = if clb S b v o p = true then 1 else 0 := by
            intro hc
            by_cases d : ¬ S (21 * o + 3) ≤ v - S (732 + 5 * x + 2) ∧ ¬ v ≤ S (21 * o + 3) - S (732 + 5 * y + 2)
            · rw [if_pos d, if_pos (hcl.mpr ⟨exy, c1, hc, d.1, d.2⟩)]
            · rw [if_neg d, if_neg (fun q => d ⟨(hcl.mp q).2.2.2.1, (hcl.mp q).2.2.2.2⟩)]
          by_cases c2 : S (732 + 5 * x + 1) + S (732 + 5 * y + 1) = S (21 * (if o < b then o else b) + 2)
          · by_cases c3 : 3 ≤ S (732 + 5 * x) ∨ 3 ≤ S (732 + 5 * y)
            · rw [fin (fun _ => c3)] at tail
              have c4 := max3.mpr c3
              simp only [f_X5_wouldClash, g1, g2, sub2, nx, ny, if_false, nxy, gap_min hb ho, gg1, x1, y1, x0, y0, c1, eq_true c2, if_true, c4, tail, bsm]
            · have c4 : ¬ (3 : Int32) ≤ (if S (732 + 5 * x) < S (732 + 5 * y) then S (732 + 5 * y) else S (732 + 5 * x)) := fun q => c3 (max3.mp q)
              rw [if_neg (fun q => c3 ((hcl.mp q).2.2.1 c2))]
              simp only [f_X5_wouldClash, g1, g2, sub2, nx, ny, if_false, nxy, gap_min hb ho, gg1, x1, y1, x0, y0, c1, eq_true c2, if_true, c4, bsm]
          · rw [fin (fun q => absurd q c2)] at tail
            simp only [f_X5_wouldClash, g1, g2, sub2, nx, ny, if_false, nxy, gap_min hb ho, gg1, x1, y1, x0, y0, c1, c2, tail, bsm]
theorem c_would_out {V : VT} {b : Nat} {v x w : Int32} (hx : x < 0 ∨ 12 ≤ x) (hg : ∃ y, f_X7_get 48 12 16 (Int32.ofNat b) w V = some y) : f_X5_wouldClash (Int32.ofNat b) v x w V = some 0 := by
  obtain ⟨y, g1⟩ := hg
  have g2 : f_X7_get 48 12 16 x w V = some 0 := get_row V hx
  have nn : (0 : Int32) - 2 < 0 := by decide
  simp only [f_X5_wouldClash, g1, g2, nn, if_true, ite_self, bsm]
theorem m_gap {M : VT} {b : Nat} (hb : b < 12) : f_X12_gap (Int32.ofNat b) M = some (M 0 (21 * b + 2)) := by
  unfold f_X12_gap
  rw [m_bar0, bsm, show Int32.ofNat (21 * b) + 2 = Int32.ofNat (21 * b + 2) from (Int32.ofNat_add (21 * b) 2).symm, ck_nat (by omega) (by omega), bsm]
theorem m_clash {n : Nat} {C : AT} {M : VT} {b o p : Nat} (v : Int32) (h : GG n C (M 0)) (hb : b < 12) (ho : o < 12) (hp : p < 16) : f_X12_clash (Int32.ofNat b) v (Int32.ofNat o) (M 0 (21 * o + 3)) (Int32.ofNat p) M = some (if clb (M 0) b v o p = true then 1 else 0) := by
  have e3 := m_isBar_yes (M := M) ho
  have er := m_rigged (M := M) ho
  have epl := m_isPlace (M := M) (Int32.ofNat p) ho
  have g1 := m_held (M := M) hb hp
  have g2 := m_held (M := M) ho hp
  rcases low_ct h ho hp with ⟨hl2, hlo2⟩ | ⟨hl2, y, hy, hyt, ey⟩
  · rw [if_neg (fun q => (clb_iff.mp q).1.1.2.1 hl2)]
    unfold f_X12_clash
    rw [e3, bsm, if_neg (by decide), er, bsm]
    by_cases r1 : M 0 (21 * o) = 1
    · rw [if_pos r1, if_neg (by decide), epl, bsm]
      by_cases r2 : Int32.ofNat p < 0 ∨ M 0 (21 * o + 1) ≤ Int32.ofNat p
      · rw [if_pos r2, if_pos rfl]
      · rw [if_neg r2, if_neg (by decide), g1, bsm, bsm, g2, bsm, bsm]
        simp only [low_sub hlo2, if_true, ite_self]
    · rw [if_neg r1, if_pos rfl]
  · obtain ⟨r1, P, -, hP, hpP, hS⟩ := full_rig h ho hp (thing_ne0 hy ey)
    have r2 : ¬ (Int32.ofNat p < 0 ∨ M 0 (21 * o + 1) ≤ Int32.ofNat p) := by
      rw [hS]
      intro q
      rcases q with q | q
      · exact nat_nneg (by omega) q
      · have := (nat_le (by omega) (by omega)).mp q; omega
    rw [if_pos r1] at er
    rw [if_neg r2] at epl
    have ny : ¬ Int32.ofNat y < 0 := nat_nneg (by omega)
    rcases low_ct h hb hp with ⟨hl, hlo⟩ | ⟨hl, x, hx, hxt, ex⟩
    · rw [if_neg (fun q => (clb_iff.mp q).1.1.1 hl)]
      rw [ey] at g2
      simp only [f_X12_clash, e3, er, epl, i10, if_false, g1, g2, low_sub hlo, if_true, bsm]
    · have nx : ¬ Int32.ofNat x < 0 := nat_nneg (by omega)
      have hmin : (if o < b then o else b) < 12 := by split <;> omega
      have x0 : f_X12_thingIs (Int32.ofNat x) 0 M = some (M 0 (732 + 5 * x)) := m_thingIs (c := 0) hx (by omega)
      have x1 : f_X12_thingIs (Int32.ofNat x) 1 M = some (M 0 (732 + 5 * x + 1)) := m_thingIs (c := 1) hx (by omega)
      have x2 : f_X12_thingIs (Int32.ofNat x) 2 M = some (M 0 (732 + 5 * x + 2)) := m_thingIs (c := 2) hx (by omega)
      have y0 : f_X12_thingIs (Int32.ofNat y) 0 M = some (M 0 (732 + 5 * y)) := m_thingIs (c := 0) hy (by omega)
      have y1 : f_X12_thingIs (Int32.ofNat y) 1 M = some (M 0 (732 + 5 * y + 1)) := m_thingIs (c := 1) hy (by omega)
      have y2 : f_X12_thingIs (Int32.ofNat y) 2 M = some (M 0 (732 + 5 * y + 2)) := m_thingIs (c := 2) hy (by omega)
      have hcl : clb (M 0) b v o p = true ↔ (¬ x = y) ∧ (¬ M 0 (732 + 5 * x + 1) + M 0 (732 + 5 * y + 1) < M 0 (21 * (if o < b then o else b) + 2)) ∧ (M 0 (732 + 5 * x + 1) + M 0 (732 + 5 * y + 1) = M 0 (21 * (if o < b then o else b) + 2) → 3 ≤ M 0 (732 + 5 * x) ∨ 3 ≤ M 0 (732 + 5 * y)) ∧ ¬ M 0 (21 * o + 3) ≤ v - M 0 (732 + 5 * x + 2) ∧ ¬ v ≤ M 0 (21 * o + 3) - M 0 (732 + 5 * y + 2) := by
        rw [clb_iff]
        unfold clP
        rw [tix_at hx ex, tix_at hy ey]
        constructor
        · intro q; exact ⟨fun e => q.1.1.2.2 (by rw [ex, ey, e]), q.1.2.1, q.1.2.2, q.2.1, q.2.2⟩
        · intro q; exact ⟨⟨⟨hl, hl2, fun e => q.1 (thing_inj hx hy (ex.symm.trans (e.trans ey)))⟩, q.2.1, q.2.2.1⟩, q.2.2.2.1, q.2.2.2.2⟩
      rw [ex] at g1
      rw [ey] at g2
      by_cases exy : x = y
      · rw [if_neg (fun q => (hcl.mp q).1 exy)]
        have e9 := eq_true (congrArg Int32.ofNat exy)
        simp only [f_X12_clash, e3, er, epl, i10, g1, g2, sub2, nx, ny, if_false, e9, if_true, bsm]
      · have nxy : ¬ Int32.ofNat x = Int32.ofNat y := fun e => exy ((nat_eq (by omega) (by omega)).mp e)
        have tail : f_X12_clash_j151 v (M 0 (21 * o + 3)) (Int32.ofNat x) (Int32.ofNat y) M = some (if ¬ M 0 (21 * o + 3) ≤ v - M 0 (732 + 5 * x + 2) ∧ ¬ v ≤ M 0 (21 * o + 3) - M 0 (732 + 5 * y + 2) then 1 else 0) := by
          unfold f_X12_clash_j151 f_X12_clash_j183
          rw [x2, bsm]
          by_cases d1 : M 0 (21 * o + 3) ≤ v - M 0 (732 + 5 * x + 2)
          · rw [if_pos d1, if_neg (fun q => q.1 d1)]
          · rw [if_neg d1, y2, bsm]
            by_cases d2 : v ≤ M 0 (21 * o + 3) - M 0 (732 + 5 * y + 2)
            · rw [if_pos d2, if_neg (fun q => q.2 d2)]
            · rw [if_neg d2, if_pos ⟨d1, d2⟩]
        have hgap : f_X12_clash (Int32.ofNat b) v (Int32.ofNat o) (M 0 (21 * o + 3)) (Int32.ofNat p) M = f_X12_clash_j96 v (M 0 (21 * o + 3)) (Int32.ofNat x) (Int32.ofNat y) (M 0 (732 + 5 * x + 1) + M 0 (732 + 5 * y + 1)) (Int32.ofNat (if o < b then o else b)) M := by
          by_cases q : o < b
          · have ql : Int32.ofNat o ≤ Int32.ofNat b := (nat_le (by omega) (by omega)).mpr (by omega)
            rw [if_pos q]
            simp only [f_X12_clash, e3, er, epl, i10, g1, g2, sub2, nx, ny, if_false, nxy, x1, y1, ql, if_true, bsm]
          · rw [if_neg q]
            by_cases qe : o = b
            · subst qe
              exact absurd (thing_inj hx hy (ex.symm.trans ey)) exy
            · have ql : ¬ Int32.ofNat o ≤ Int32.ofNat b := fun z => by have := (nat_le (by omega) (by omega)).mp z; omega
              simp only [f_X12_clash, e3, er, epl, i10, g1, g2, sub2, nx, ny, if_false, nxy, x1, y1, ql, bsm]
        rw [hgap]
        have h128 : ∀ s0 : Int32, (s0 = 0 ↔ ¬ (3 ≤ M 0 (732 + 5 * x) ∨ 3 ≤ M 0 (732 + 5 * y))) → f_X12_clash_j128 v (M 0 (21 * o + 3)) (Int32.ofNat x) (Int32.ofNat y) (M 0 (732 + 5 * x + 1) + M 0 (732 + 5 * y + 1)) (M 0 (21 * (if o < b then o else b) + 2)) s0 M = some (if clb (M 0) b v o p = true then 1 else 0) := by
          intro s0 hs
          unfold f_X12_clash_j128
          by_cases c1 : M 0 (732 + 5 * x + 1) + M 0 (732 + 5 * y + 1) < M 0 (21 * (if o < b then o else b) + 2)
          · rw [if_pos c1, if_neg (fun q => (hcl.mp q).2.1 c1)]
          · rw [if_neg c1]
            have fin : (M 0 (732 + 5 * x + 1) + M 0 (732 + 5 * y + 1) = M 0 (21 * (if o < b then o else b) + 2) → 3 ≤ M 0 (732 + 5 * x) ∨ 3 ≤ M 0 (732 + 5 * y)) → (if ¬ M 0 (21 * o + 3) ≤ v - M 0 (732 + 5 * x + 2) ∧ ¬ v ≤ M 0 (21 * o + 3) - M 0 (732 + 5 * y + 2) then (1 : Int32) else 0) = if clb (M 0) b v o p = true then 1 else 0 := by
              intro hc
              by_cases d : ¬ M 0 (21 * o + 3) ≤ v - M 0 (732 + 5 * x + 2) ∧ ¬ v ≤ M 0 (21 * o + 3) - M 0 (732 + 5 * y + 2)
              · rw [if_pos d, if_pos (hcl.mpr ⟨exy, c1, hc, d.1, d.2⟩)]
              · rw [if_neg d, if_neg (fun q => d ⟨(hcl.mp q).2.2.2.1, (hcl.mp q).2.2.2.2⟩)]
            by_cases c2 : M 0 (732 + 5 * x + 1) + M 0 (732 + 5 * y + 1) = M 0 (21 * (if o < b then o else b) + 2)
            · rw [if_pos c2]
              by_cases c3 : 3 ≤ M 0 (732 + 5 * x) ∨ 3 ≤ M 0 (732 + 5 * y)
              · rw [if_neg (fun q => hs.mp q c3), tail, fin (fun _ => c3)]
              · rw [if_pos (hs.mpr c3), if_neg (fun q => c3 ((hcl.mp q).2.2.1 c2))]
            · rw [if_neg c2, tail, fin (fun q => absurd q c2)]
        unfold f_X12_clash_j96 f_X12_clash_j123
        rw [m_gap hmin, bsm, x0, bsm]
        by_cases k1 : 3 ≤ M 0 (732 + 5 * x)
        · rw [if_pos k1]; exact h128 1 ⟨fun q => absurd q (by decide), fun q => absurd (Or.inl k1) q⟩
        · rw [if_neg k1, y0, bsm]
          by_cases k2 : M 0 (732 + 5 * y) < 3
          · rw [if_pos k2]; exact h128 0 ⟨fun _ q => q.elim k1 (fun z => lt_nle k2 z), fun _ => rfl⟩
          · rw [if_neg k2]; exact h128 1 ⟨fun q => absurd q (by decide), fun q => absurd (Or.inr (nlt_le k2)) q⟩
/-! the least thing that clashes -/
def lsP : Option Nat → Option Nat → Option Nat
  | none, y => y
  | some a, none => some a
  | some a, some c => some (if c < a then c else a)
theorem lsO_P {m : Option Nat} {t : Nat} : lsO m t = lsP m (some t) := by cases m <;> rfl
theorem lsP_none {m : Option Nat} : lsP m none = m := by cases m <;> rfl
theorem lsP_assoc {x y z : Option Nat} : lsP (lsP x y) z = lsP x (lsP y z) := by
  cases x with
  | none => rfl
  | some a =>
    cases y with
    | none => rfl
    | some c =>
      cases z with
      | none => rfl
      | some d =>
        simp only [lsP]
        congr 1
        repeat' split
        all_goals omega
theorem lsP_self {x : Option Nat} : lsP x x = x := by
  cases x with
  | none => rfl
  | some a => simp only [lsP]; congr 1; split <;> rfl
theorem m_lesserP {V : VT} {m y : Option Nat} (hm : ∀ a, m = some a → a < 80) (hy : ∀ a, y = some a → a < 80) : f_X12_lesser (o32 (-1) m) (o32 (-1) y) V = some (o32 (-1) (lsP m y)) := by
  cases y with
  | some t => rw [← lsO_P]; exact m_lesser hm (hy t rfl)
  | none =>
    rw [lsP_none]
    unfold f_X12_lesser
    have nm : ¬ (0 : Int32) ≤ o32 (-1) none := by show ¬ (0 : Int32) ≤ -1; decide
    cases m with
    | none => rw [if_neg nm]
    | some a =>
      have ha := hm a rfl
      rw [if_pos (show (0 : Int32) ≤ o32 (-1) (some a) from nlt_le (nat_nneg (by omega))), if_neg nm]
/-- the clashes of what a bar has in a place with its two neighbours -/
noncomputable def ckl (S : AT) (b p : Nat) (m : Option Nat) : Option Nat := if 1 ≤ b ∧ clb S b (S (21 * b + 3)) (b - 1) p = true then lsO m (tix (S (21 * (b - 1) + 5 + p))) else m
noncomputable def ckr (S : AT) (b p : Nat) (m : Option Nat) : Option Nat := if b + 1 < 12 ∧ clb S b (S (21 * b + 3)) (b + 1) p = true then lsO m (tix (S (21 * (b + 1) + 5 + p))) else m
noncomputable def ck2 (S : AT) (b p : Nat) (m : Option Nat) : Option Nat := ckr S b p (ckl S b p m)
theorem ck2_P {S : AT} {b p : Nat} {m : Option Nat} : ck2 S b p m = lsP m (ck2 S b p none) := by
  have e1 : ∀ m, ckl S b p m = lsP m (ckl S b p none) := by
    intro m
    unfold ckl
    split
    · rw [lsO_P]; rfl
    · rw [lsP_none]
  have e2 : ∀ m, ckr S b p m = lsP m (ckr S b p none) := by
    intro m
    unfold ckr
    split
    · rw [lsO_P]; rfl
    · rw [lsP_none]
  unfold ck2
  rw [e2 (ckl S b p m), e1 m, e2 (ckl S b p none), lsP_assoc]
theorem cl_thing {n : Nat} {C S : AT} {b o p : Nat} {v : Int32} (h : GG n C S) (ho : o < 12) (hp : p < 16) (hc : clb S b v o p = true) : ∃ t, t < 80 ∧ S (21 * o + 5 + p) = Int32.ofNat (2 + t) ∧ tix (S (21 * o + 5 + p)) = t := by
  rcases low_ct h ho hp with ⟨hl, -⟩ | ⟨-, t, ht, -, e⟩
  · exact absurd hl (clb_iff.mp hc).1.1.2.1
  · exact ⟨t, ht, e, tix_at ht e⟩
theorem ck_lt {n : Nat} {C S : AT} {b p : Nat} {m : Option Nat} (h : GG n C S) (hb : b < 12) (hp : p < 16) (hm : ∀ a, m = some a → a < 80) : (∀ a, ckl S b p m = some a → a < 80) ∧ ∀ a, ck2 S b p m = some a → a < 80 := by
  have lt1 : ∀ (m : Option Nat) (t : Nat), (∀ a, m = some a → a < 80) → t < 80 → ∀ a, lsO m t = some a → a < 80 := by
    intro m t hm ht a ha
    cases m with
    | none => cases ha; exact ht
    | some x =>
      have := hm x rfl
      cases ha
      split <;> omega
  have h1 : ∀ a, ckl S b p m = some a → a < 80 := by
    intro a ha
    unfold ckl at ha
    by_cases q : 1 ≤ b ∧ clb S b (S (21 * b + 3)) (b - 1) p = true
    · rw [if_pos q] at ha
      obtain ⟨t, ht, -, e⟩ := cl_thing h (by omega) hp q.2
      rw [e] at ha
      exact lt1 m t hm ht a ha
    · rw [if_neg q] at ha; exact hm a ha
  refine ⟨h1, ?_⟩
  intro a ha
  unfold ck2 ckr at ha
  by_cases q : b + 1 < 12 ∧ clb S b (S (21 * b + 3)) (b + 1) p = true
  · rw [if_pos q] at ha
    obtain ⟨t, ht, -, e⟩ := cl_thing h q.1 hp q.2
    rw [e] at ha
    exact lt1 _ t h1 ht a ha
  · rw [if_neg q] at ha; exact h1 a ha
