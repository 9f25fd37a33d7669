/-! go: what a tick leaves as it was (heights, ends of cues, stops and counts alone change) -/
def UN (S S2 : AT) : Prop := ∀ j, (∀ b, b < 12 → j ≠ 21 * b + 3) → (∀ c, c < 60 → j ≠ 1132 + 5 * c + 4) → (j < 1440 ∨ (1640 ≤ j ∧ j < 1643)) → S2 j = S j
theorem UN.rf {S : AT} : UN S S := fun _ _ _ _ => rfl
theorem UN.tr {S S2 S3 : AT} (h : UN S S2) (h2 : UN S2 S3) : UN S S3 := fun j a b c => (h2 j a b c).trans (h j a b c)
theorem un_ct {S S2 : AT} {b p : Nat} (h : UN S S2) (hb : b < 12) (hp : p < 16) : S2 (21 * b + 5 + p) = S (21 * b + 5 + p) := h _ (fun _ _ => by omega) (fun _ _ => by omega) (by omega)
theorem un_t {S S2 : AT} {t i : Nat} (h : UN S S2) (ht : t < 80) (hi : i < 5) : S2 (732 + 5 * t + i) = S (732 + 5 * t + i) := h _ (fun _ _ => by omega) (fun _ _ => by omega) (by omega)
theorem un_t0 {S S2 : AT} {t : Nat} (h : UN S S2) (ht : t < 80) : S2 (732 + 5 * t) = S (732 + 5 * t) := un_t (i := 0) h ht (by omega)
theorem un_l {S S2 : AT} {l i : Nat} (h : UN S S2) (hl : l < 40) (hi : i < 12) : S2 (252 + 12 * l + i) = S (252 + 12 * l + i) := h _ (fun _ _ => by omega) (fun _ _ => by omega) (by omega)
theorem un_l0 {S S2 : AT} {l : Nat} (h : UN S S2) (hl : l < 40) : S2 (252 + 12 * l) = S (252 + 12 * l) := un_l (i := 0) h hl (by omega)
theorem un_tdb {S S2 : AT} {b : Nat} (h : UN S S2) (hb : b < 12) : tdb S2 b = tdb S b := tdb_cg hb (fun c p hc hp => (un_ct h hc hp).symm)
theorem un_ghi {S S2 : AT} {b : Nat} (h : UN S S2) (hb : b < 12) : ghi S2 b = ghi S b := gup_cg (fun c hc => un_tdb h hc) (11 - b) b (by omega)
theorem un_l16 {n : Nat} {C S S2 : AT} {b : Nat} (hg : GG n C S) (h : UN S S2) (hb : b < 12) : ∀ p, p ≤ 16 → l16 S2 b p = l16 S b p := by
  intro p
  induction p with
  | zero => intro _; rfl
  | succ p ih =>
    intro hp
    rw [l16_succ, l16_succ, un_ct h hb (by omega), ih (by omega)]
    rcases low_ct hg hb (p := p) (by omega) with ⟨hl, -⟩ | ⟨hl, t, ht, htl, e⟩
    · rw [if_pos hl, if_pos hl]
    · rw [if_neg hl, if_neg hl, tix_at ht e, un_t0 h ht, un_t (i := 3) h ht (by omega)]
theorem un_gm {S S2 : AT} {t : Nat} (h : UN S S2) (ht : t < 80) : gm S2 t = gm S t := by
  unfold gm; rw [un_t0 h ht, un_t (i := 3) h ht (by omega)]
theorem un_lnp {S S2 : AT} {b q : Nat} (h : UN S S2) : lnp S2 b q = lnp S b q := by
  have e : hln S2 b q ↔ hln S b q := by
    unfold hln hat
    constructor
    · rintro ⟨l, hl, ⟨h1, h2⟩, h3⟩
      rw [un_l (i := 3) h hl (by omega)] at h1
      rw [un_l0 h hl] at h2
      rw [un_l (i := 1) h hl (by omega)] at h3
      exact ⟨l, hl, ⟨h1, h2⟩, h3⟩
    · rintro ⟨l, hl, ⟨h1, h2⟩, h3⟩
      rw [← un_l (i := 3) h hl (by omega)] at h1
      rw [← un_l0 h hl] at h2
      rw [← un_l (i := 1) h hl (by omega)] at h3
      exact ⟨l, hl, ⟨h1, h2⟩, h3⟩
  by_cases q1 : hln S b q
  · rw [lnp_iff.mpr q1, lnp_iff.mpr (e.mpr q1)]
  · rw [Bool.eq_false_iff.mpr (fun q2 => q1 (lnp_iff.mp q2)), Bool.eq_false_iff.mpr (fun q2 => q1 (e.mp (lnp_iff.mp q2)))]
theorem un_lef {S S2 : AT} {b : Nat} (h : UN S S2) : ∀ p, lef S2 b p = lef S b p := by
  intro p
  induction p with
  | zero => unfold lef; rw [un_lnp h]
  | succ p ih => unfold lef; rw [un_lnp h, ih]
theorem un_rgt {S S2 : AT} {b : Nat} (h : UN S S2) : ∀ k p, rgt S2 b k p = rgt S b k p := by
  intro k
  induction k with
  | zero => intro p; rfl
  | succ k ih => intro p; unfold rgt; rw [un_lnp h, ih]
theorem un_shN {n : Nat} {C S S2 : AT} {b a : Nat} (hg : GG n C S) (h : UN S S2) (hb : b < 12) : ∀ p, p ≤ 16 → shN S2 b a p = shN S b a p := by
  intro p
  induction p with
  | zero => intro _; rfl
  | succ p ih =>
    intro hp
    rw [shN_succ, shN_succ, un_ct h hb (by omega), ih (by omega)]
    rcases low_ct hg hb (p := p) (by omega) with ⟨hl, -⟩ | ⟨hl, t, ht, htl, e⟩
    · rw [if_pos hl, if_pos hl]
    · rw [if_neg hl, if_neg hl, tix_at ht e, un_gm h ht]
      unfold cn
      rw [un_lef h, un_rgt h]
theorem un_tsm {n : Nat} {C S S2 : AT} {b q : Nat} (hg : GG n C S) (h : UN S S2) (hb : b < 12) : ∀ p, p ≤ 16 → tsm S2 b q p = tsm S b q p := by
  intro p
  induction p with
  | zero => intro _; rfl
  | succ p ih =>
    intro hp
    rw [tsm_succ, tsm_succ, un_ct h hb (by omega), ih (by omega)]
    rcases low_ct hg hb (p := p) (by omega) with ⟨hl, -⟩ | ⟨hl, t, ht, htl, e⟩
    · rw [if_pos hl, if_pos hl]
    · rw [if_neg hl, if_neg hl, tix_at ht e, un_gm h ht]
theorem un_bad {n : Nat} {C S S2 : AT} {b l : Nat} (hg : GG n C S) (h : UN S S2) (hb : b < 12) (hl : l < 40) : bad S2 b l ↔ bad S b l := by
  unfold bad
  rw [un_l (i := 3) h hl (by omega), un_l0 h hl]
  have e : S (252 + 12 * l + 3) = 1 → wkn S2 l = wkn S l ∧ pln S2 l = pln S l := by
    intro h1
    obtain ⟨P, hP1, hP2, eP, -⟩ := wkn_ok hg hl (hold_tl hg hl h1)
    refine ⟨?_, ?_⟩
    · unfold wkn
      rw [un_l (i := 2) h hl (by omega), eP, tn_nat (by omega)]
      rw [wkf_cg (S := S2) (S2 := S) (P - 1) (fun i hi => by
        have := un_l (i := 4 + i) h hl (by omega)
        rw [show 252 + 12 * l + (4 + i) = 252 + 12 * l + 4 + i by omega] at this; exact this)]
    · unfold pln; rw [un_l (i := 1) h hl (by omega)]
  constructor
  · rintro ⟨h1, h2⟩
    obtain ⟨e1, e2⟩ := e h1.1
    rw [e1, e2, un_shN hg h hb 16 (Nat.le_refl _)] at h2
    exact ⟨h1, h2⟩
  · rintro ⟨h1, h2⟩
    obtain ⟨e1, e2⟩ := e h1.1
    rw [e1, e2, un_shN hg h hb 16 (Nat.le_refl _)]
    exact ⟨h1, h2⟩
theorem un_hdb {n : Nat} {C S S2 : AT} {b : Nat} (hg : GG n C S) (h : UN S S2) (hb : b < 12) : hdb S2 b = hdb S b := by
  have a1 : cnt (thb S2 b) 16 = cnt (thb S b) 16 := cnt_cg 16 (fun i hi => by unfold thb; rw [un_ct h hb hi])
  have a2 : cnt (holdb S2 (Int32.ofNat b)) 40 = cnt (holdb S (Int32.ofNat b)) 40 := cnt_cg 40 (fun l hl => by unfold holdb; rw [un_l (i := 3) h hl (by omega), un_l0 h hl])
  have e : hdP S2 b ↔ hdP S b := by
    unfold hdP
    rw [a1, a2, un_rgt h, un_tsm hg h hb 16 (Nat.le_refl _)]
    constructor
    · rintro (q | ⟨q1, q2, q3⟩)
      · exact Or.inl q
      · exact Or.inr ⟨q1, fun l hl q => q2 l hl ((un_bad hg h hb hl).mpr q), q3⟩
    · rintro (q | ⟨q1, q2, q3⟩)
      · exact Or.inl q
      · exact Or.inr ⟨q1, fun l hl q => q2 l hl ((un_bad hg h hb hl).mp q), q3⟩
  by_cases q1 : hdP S b
  · rw [hdb_iff.mpr q1, hdb_iff.mpr (e.mpr q1)]
  · rw [Bool.eq_false_iff.mpr (fun q2 => q1 (hdb_iff.mp q2)), Bool.eq_false_iff.mpr (fun q2 => q1 (e.mp (hdb_iff.mp q2)))]
/-! the group's last bar -/
theorem gup_in {S : AT} : ∀ k b j, b ≤ j → j < gup S k b → tdb S (j + 1) = true := by
  intro k
  induction k with
  | zero => intro b j h1 h2; unfold gup at h2; omega
  | succ k ih =>
    intro b j h1 h2
    unfold gup at h2
    by_cases q : tdb S (b + 1) = true
    · rw [if_pos q] at h2
      by_cases e : j = b
      · rw [e]; exact q
      · exact ih (b + 1) j (by omega) h2
    · rw [if_neg q] at h2; omega
theorem gup_end {S : AT} : ∀ k b, gup S k b = b + k ∨ ¬ tdb S (gup S k b + 1) = true := by
  intro k
  induction k with
  | zero => intro b; exact Or.inl rfl
  | succ k ih =>
    intro b
    unfold gup
    by_cases q : tdb S (b + 1) = true
    · rw [if_pos q]
      rcases ih (b + 1) with h | h
      · exact Or.inl (by omega)
      · exact Or.inr h
    · rw [if_neg q]; exact Or.inr q
theorem unrig_ct {n : Nat} {C S : AT} {b p : Nat} (h : GG n C S) (hb : b < 12) (hp : p < 16) (h0 : S (21 * b) = 0) : S (21 * b + 5 + p) = 0 := h.2.wb3 b p hb hp (by
  rw [h.2.wbp b hb h0]
  exact (nat_le (a := 0) (by omega) (by omega)).mpr (Nat.zero_le _))
theorem tied_rig {n : Nat} {C S : AT} {b : Nat} (h : GG n C S) (hb : b < 12) (ht : tdb S b = true) : S (21 * b) = 1 ∧ S (21 * (b - 1)) = 1 := by
  obtain ⟨h1, p, hp, h2, h3⟩ := tdb_iff.mp ht
  refine ⟨(h.2.wb0 b hb).resolve_left (fun q => h2 ?_), (h.2.wb0 (b - 1) (by omega)).resolve_left (fun q => h2 ?_)⟩
  · rw [unrig_ct h hb hp q]; decide
  · rw [h3, unrig_ct h (by omega) hp q]; decide
/-- a loop's first rounds -/
theorem lp_go {S Y : Type} {f : S → Option (S ⊕ Y)} (g : Nat → S) : ∀ (k a n : Nat), (∀ i, a ≤ i → i < a + k → f (g i) = some (.inl (g (i + 1)))) → lp f (n + k) (g a) = lp f n (g (a + k)) := by
  intro k
  induction k with
  | zero => intro a n _; rfl
  | succ k ih =>
    intro a n h
    rw [show n + (k + 1) = n + k + 1 from rfl, lp_step (h a (Nat.le_refl _) (by omega)), ih (a + 1) n (fun i h1 h2 => h i (by omega) (by omega)), show a + 1 + k = a + (k + 1) by omega]
