/-! the pure side: numbers, loops, rows -/
theorem ti_nat {n : Nat} (h : n < 2147483648) : (Int32.ofNat n).toInt = (n : Int) := Int32.toInt_ofNat_of_lt h
theorem tn_nat {n : Nat} (h : n < 2147483648) : (Int32.ofNat n).toNatClampNeg = n := Int32.toNatClampNeg_ofNat_of_lt h
theorem nat_lt {a b : Nat} (ha : a < 2147483648) (hb : b < 2147483648) : (Int32.ofNat a < Int32.ofNat b) ↔ a < b := Int32.ofNat_lt_iff_lt ha hb
theorem nat_le {a b : Nat} (ha : a < 2147483648) (hb : b < 2147483648) : (Int32.ofNat a ≤ Int32.ofNat b) ↔ a ≤ b := Int32.ofNat_le_iff_le ha hb
theorem nat_eq {a b : Nat} (ha : a < 2147483648) (hb : b < 2147483648) : (Int32.ofNat a = Int32.ofNat b) ↔ a = b := by
  constructor
  · intro h
    have h1 := congrArg Int32.toInt h
    rw [ti_nat ha, ti_nat hb] at h1
    omega
  · intro h; rw [h]
theorem ti_lit0 : (0 : Int32).toInt = 0 := by decide
theorem nat_nneg {n : Nat} (h : n < 2147483648) : ¬ Int32.ofNat n < 0 := by
  rw [Int32.lt_iff_toInt_lt, ti_nat h, ti_lit0]; omega
theorem ck_nat {N n : Nat} (h : n < N) (hN : N ≤ 2147483648) : ckA N (Int32.ofNat n) = some n := by
  unfold ckA
  have h1 : (Int32.ofNat n).toNatClampNeg = n := tn_nat (by omega)
  have h2 : ¬ Int32.ofNat n < 0 := nat_nneg (by omega)
  rw [h1, if_neg]
  intro q
  rcases q with q | q
  · exact h2 q
  · omega
theorem ck_bad {N : Nat} {x : Int32} (h : x < 0 ∨ N ≤ x.toNatClampNeg) : ckA N x = none := by
  unfold ckA; rw [if_pos h]
theorem nat_of {x : Int32} (h : ¬ x < 0) : x = Int32.ofNat x.toNatClampNeg := by
  have h1 : (0 : Int32) ≤ x := by
    rw [Int32.le_iff_toInt_le, ti_lit0]
    have : ¬ x.toInt < (0 : Int32).toInt := fun q => h (Int32.lt_iff_toInt_lt.mpr q)
    rw [ti_lit0] at this; omega
  exact (Int32.ofNat_toNatClampNeg x h1).symm
theorem rng (N : Nat) (hN : N < 2147483648) (x : Int32) : (∃ n : Nat, n < N ∧ x = Int32.ofNat n) ∨ (x < 0 ∨ Int32.ofNat N ≤ x) := by
  by_cases h : x < 0
  · exact Or.inr (Or.inl h)
  · have hx := nat_of h
    by_cases h2 : x.toNatClampNeg < N
    · exact Or.inl ⟨_, h2, hx⟩
    · refine Or.inr (Or.inr ?_)
      rw [hx]
      exact (nat_le hN (Int32.toNatClampNeg_lt x)).mpr (by omega)
theorem lp_iter {S Y : Type} {f : S → Option (S ⊕ Y)} (g : Nat → S) {y : Y} : ∀ (k a n : Nat), (∀ i, a ≤ i → i < a + k → f (g i) = some (.inl (g (i + 1)))) → f (g (a + k)) = some (.inr y) → k < n → lp f n (g a) = some y := by
  intro k
  induction k with
  | zero =>
    intro a n _ h hn
    obtain ⟨n, rfl⟩ : ∃ q, n = q + 1 := ⟨n - 1, by omega⟩
    show (f (g a)).bind _ = some y
    rw [show g a = g (a + 0) from rfl, h]; rfl
  | succ k ih =>
    intro a n h1 h hn
    obtain ⟨n, rfl⟩ : ∃ q, n = q + 1 := ⟨n - 1, by omega⟩
    show (f (g a)).bind _ = some y
    rw [h1 a (by omega) (by omega)]
    exact ih (a + 1) n (fun i h2 h3 => h1 i (by omega) (by omega)) (by rw [show a + 1 + k = a + (k + 1) by omega]; exact h) (by omega)
theorem u2_at (V : VT) (k i : Nat) (x : Int32) (b j : Nat) : u2 V k i x b j = if b = k ∧ j = i then x else V b j := by
  unfold u2 upd
  by_cases h : b = k
  · subst h
    by_cases h2 : j = i <;> simp [h2]
  · simp [h]
theorem u2_ne {V : VT} {k i : Nat} {x : Int32} {b : Nat} (h : b ≠ k) : u2 V k i x b = V b := by
  unfold u2; rw [if_neg h]
theorem u2_eq {V : VT} {k i : Nat} {x : Int32} : u2 V k i x k = upd (V k) i x := by
  unfold u2; rw [if_pos rfl]
theorem upd_at (f : Nat → Int32) (k : Nat) (x : Int32) (j : Nat) : upd f k x j = if j = k then x else f j := rfl
theorem upd_id (f : Nat → Int32) (k : Nat) : upd f k (f k) = f := by
  funext j; rw [upd_at]; split
  · next h => rw [h]
  · rfl
theorem pigeon : ∀ (N m : Nat) (pos : Nat → Nat), (∀ j, j < m → pos j < N) → (∀ i j, i < m → j < m → pos i = pos j → i = j) → m ≤ N := by
  intro N
  induction N with
  | zero =>
    intro m pos h1 _
    cases m with
    | zero => exact Nat.le_refl 0
    | succ m => exact absurd (h1 0 (by omega)) (by omega)
  | succ N ih =>
    intro m pos h1 h2
    by_cases h : ∃ j0, j0 < m ∧ pos j0 = N
    · obtain ⟨j0, hj, hp⟩ := h
      have h3 : m - 1 ≤ N := by
        refine ih (m - 1) (fun j => if j = j0 then pos (m - 1) else pos j) (fun j hj2 => ?_) (fun i j hi hj2 he => ?_)
        · show (if j = j0 then pos (m - 1) else pos j) < N
          split
          · have a1 := h1 (m - 1) (by omega)
            have a2 : pos (m - 1) ≠ N := fun q => by
              have := h2 (m - 1) j0 (by omega) hj (by rw [q, hp])
              omega
            omega
          · next hne =>
            have a1 := h1 j (by omega)
            have a2 : pos j ≠ N := fun q => hne (h2 j j0 (by omega) hj (by rw [q, hp]))
            omega
        · have he : (if i = j0 then pos (m - 1) else pos i) = (if j = j0 then pos (m - 1) else pos j) := he
          split at he
          · next a =>
            split at he
            · next b => rw [a, b]
            · next b =>
              have := h2 (m - 1) j (by omega) (by omega) he
              omega
          · next a =>
            split at he
            · next b =>
              have := h2 i (m - 1) (by omega) (by omega) he
              omega
            · exact h2 i j (by omega) (by omega) he
      omega
    · have := ih m pos (fun j hj => by
        have a1 := h1 j hj
        have a2 : pos j ≠ N := fun q => h ⟨j, hj, q⟩
        omega) h2
      omega
/-- a place of a table -/
theorem cell_lt {R C r c : Nat} (hr : r < R) (hc : c < C) : r * C + c < R * C := by
  have h1 : (r + 1) * C ≤ R * C := Nat.mul_le_mul_right C hr
  rw [Nat.add_mul, Nat.one_mul] at h1
  omega
theorem get_nat {B R C r c : Nat} (V : VT) (hr : r < R) (hc : c < C) (hR : R < 2147483648) (hC : C < 2147483648) (hB : B + R * C ≤ 1874) : f_X7_get (Int32.ofNat B) (Int32.ofNat R) (Int32.ofNat C) (Int32.ofNat r) (Int32.ofNat c) V = some (V 0 (B + r * C + c)) := by
  have h0 := cell_lt hr hc
  have e : Int32.ofNat B + Int32.ofNat r * Int32.ofNat C + Int32.ofNat c = Int32.ofNat (B + r * C + c) := by
    rw [← Int32.ofNat_mul, ← Int32.ofNat_add, ← Int32.ofNat_add]
  unfold f_X7_get
  rw [if_neg (nat_nneg (by omega)), if_neg (fun q => by have := (nat_le hR (by omega)).mp q; omega), if_neg (nat_nneg (by omega)), if_pos ((nat_lt (by omega) hC).mpr hc)]
  rw [Option.bind_some, e, if_neg (nat_nneg (by omega)), if_neg (fun q => by have := (nat_le (a := 1874) (by omega) (by omega)).mp q; omega), ck_nat (by omega) (by omega)]
  rfl
theorem get_row {tB tR tC x c : Int32} (V : VT) (h : x < 0 ∨ tR ≤ x) : f_X7_get tB tR tC x c V = some 0 := by
  unfold f_X7_get
  by_cases h1 : x < 0
  · rw [if_pos h1]
  · rw [if_neg h1, if_pos (h.resolve_left h1)]
theorem get_col {tB tR tC x c : Int32} (V : VT) (h : c < 0 ∨ ¬ c < tC) : f_X7_get tB tR tC x c V = some 0 := by
  unfold f_X7_get
  by_cases h0 : x < 0
  · rw [if_pos h0]
  · rw [if_neg h0]
    by_cases h1 : tR ≤ x
    · rw [if_pos h1]
    · rw [if_neg h1]
      by_cases h2 : c < 0
      · rw [if_pos h2]
      · rw [if_neg h2, if_neg (h.resolve_left h2)]
theorem set_nat {B R C r c : Nat} (V : VT) (x : Int32) (hr : r < R) (hc : c < C) (hR : R < 2147483648) (hC : C < 2147483648) : f_X7_set (Int32.ofNat B) (Int32.ofNat R) (Int32.ofNat C) (Int32.ofNat r) (Int32.ofNat c) x V = f_X4_write (Int32.ofNat (B + r * C + c)) x V := by
  have e : Int32.ofNat B + Int32.ofNat r * Int32.ofNat C + Int32.ofNat c = Int32.ofNat (B + r * C + c) := by
    rw [← Int32.ofNat_mul, ← Int32.ofNat_add, ← Int32.ofNat_add]
  unfold f_X7_set
  rw [if_neg (nat_nneg (by omega)), if_neg (fun q => by have := (nat_le hR (by omega)).mp q; omega), if_neg (nat_nneg (by omega)), if_neg (fun q => by have := (nat_le hC (by omega)).mp q; omega), e]
  cases f_X4_write (Int32.ofNat (B + r * C + c)) x V <;> rfl
/-- while an act goes on: the notes say what the values O were at its beginning -/
def MIv (O : Nat → Int32) (V : VT) : Prop := ∃ (m : Nat) (pos : Nat → Nat), m ≤ 1874 ∧ V 11 2 = Int32.ofNat m ∧ (∀ j, j < m → pos j < 1874 ∧ V 2 j = Int32.ofNat (pos j) ∧ V 3 j = O (pos j)) ∧ (∀ i j, i < m → j < m → pos i = pos j → i = j) ∧ (∀ c, c < 1874 → (V 1 c = V 11 1 ↔ ∃ j, j < m ∧ pos j = c)) ∧ (∀ c, (¬ ∃ j, j < m ∧ pos j = c) → V 0 c = O c) ∧ (∀ c, c < 1874 → (V 1 c).toInt ≤ (V 11 1).toInt)
/-- what a write leaves alone -/
def Fr (V V2 : VT) : Prop := (∀ k, 4 ≤ k → k ≠ 11 → V2 k = V k) ∧ ∀ i, i ≠ 2 → V2 11 i = V 11 i
theorem Fr.rf {V : VT} : Fr V V := ⟨fun _ _ _ => rfl, fun _ _ => rfl⟩
theorem Fr.tr {V V2 V3 : VT} (h : Fr V V2) (h2 : Fr V2 V3) : Fr V V3 := ⟨fun k a b => (h2.1 k a b).trans (h.1 k a b), fun i a => (h2.2 i a).trans (h.2 i a)⟩
theorem write_ok {O : Nat → Int32} {V : VT} {c : Nat} (x : Int32) (hM : MIv O V) (hc : c < 1874) : ∃ V2, f_X4_write (Int32.ofNat c) x V = some V2 ∧ MIv O V2 ∧ V2 0 = upd (V 0) c x ∧ Fr V V2 := by
  obtain ⟨m, pos, hm, hn, hp, hinj, hch, hO, hle⟩ := hM
  have hck : ckA 1874 (Int32.ofNat c) = some c := ck_nat hc (by omega)
  unfold f_X4_write f_X4_write_j94
  rw [if_neg (nat_nneg (by omega)), if_neg (fun q => by have := (nat_le (a := 1874) (by omega) (by omega)).mp q; omega), hck]
  simp only [Option.bind_some]
  by_cases h1 : V 0 c = x
  · rw [if_pos h1]
    exact ⟨V, rfl, ⟨m, pos, hm, hn, hp, hinj, hch, hO, hle⟩, by rw [← h1, upd_id], Fr.rf⟩
  · rw [if_neg h1]
    by_cases h2 : V 1 c = V 11 1
    · rw [if_pos h2]
      refine ⟨_, rfl, ⟨m, pos, hm, ?_, ?_, hinj, ?_, ?_, ?_⟩, u2_eq, ⟨fun k a b => u2_ne (by omega), fun i _ => by rw [u2_ne (by omega)]⟩⟩
      · rw [u2_ne (by omega)]; exact hn
      · intro j hj
        rw [u2_ne (by omega), u2_ne (by omega)]; exact hp j hj
      · intro q hq
        rw [u2_ne (by omega), u2_ne (by omega)]; exact hch q hq
      · intro q hq
        rw [u2_at, if_neg]
        · exact hO q hq
        · rintro ⟨-, rfl⟩
          exact hq ((hch q hc).mp h2)
      · intro q hq
        rw [u2_ne (by omega), u2_ne (by omega)]; exact hle q hq
    · have hnot : ¬ ∃ j, j < m ∧ pos j = c := fun q => h2 ((hch c hc).mpr q)
      have hm2 : m + 1 ≤ 1874 := by
        refine pigeon 1874 (m + 1) (fun j => if j = m then c else pos j) (fun j hj => ?_) (fun i j hi hj he => ?_)
        · show (if j = m then c else pos j) < 1874
          split
          · exact hc
          · exact (hp j (by omega)).1
        · have he : (if i = m then c else pos i) = (if j = m then c else pos j) := he
          split at he
          · next a =>
            split at he
            · next b => rw [a, b]
            · next b => exact absurd ⟨j, by omega, he.symm⟩ hnot
          · next a =>
            split at he
            · next b => exact absurd ⟨i, by omega, he⟩ hnot
            · exact hinj i j (by omega) (by omega) he
      rw [if_neg h2, if_neg (fun q => by rw [hn] at q; have := (nat_le (a := 1874) (by omega) (by omega)).mp q; omega)]
      have e1 : ∀ (i k : Nat) (y : Int32), u2 V 1 k y 11 i = V 11 i := fun i k y => by rw [u2_ne (by omega)]
      have hckm : ckA 1874 (V 11 2) = some m := by rw [hn]; exact ck_nat (by omega) (by omega)
      rw [show u2 V 1 c (V 11 1) 11 2 = V 11 2 by rw [u2_ne (by omega)], hckm]
      simp only [Option.bind_some]
      rw [show u2 (u2 V 1 c (V 11 1)) 2 m (Int32.ofNat c) 11 2 = V 11 2 by rw [u2_ne (by omega), u2_ne (by omega)], hckm]
      simp only [Option.bind_some]
      refine ⟨_, rfl, ⟨m + 1, fun j => if j = m then c else pos j, hm2, ?_, ?_, ?_, ?_, ?_, ?_⟩, ?_, ⟨fun k a b => ?_, fun i hi => ?_⟩⟩
      · simp only [u2_at]
        simp only [hn]
        simp
      · intro j hj
        by_cases hjm : j = m
        · subst hjm
          simp [u2_at, hO c hnot, hc]
        · have := hp j (by omega)
          simp [u2_at, hjm, this]
      · intro i j hi hj he
        have he : (if i = m then c else pos i) = (if j = m then c else pos j) := he
        split at he
        · next a =>
          split at he
          · next b => rw [a, b]
          · next b => exact absurd ⟨j, by omega, he.symm⟩ hnot
        · next a =>
          split at he
          · next b => exact absurd ⟨i, by omega, he⟩ hnot
          · exact hinj i j (by omega) (by omega) he
      · intro q hq
        by_cases hqc : q = c
        · subst hqc
          simp only [u2_at]
          constructor
          · intro _; exact ⟨m, by omega, by simp⟩
          · intro _; simp
        · have a1 := hch q hq
          simp [u2_at, hqc, a1]
          constructor
          · rintro ⟨j, hj, rfl⟩
            exact ⟨j, by omega, by rw [if_neg (by omega)]⟩
          · rintro ⟨j, hj, he⟩
            by_cases hjm : j = m
            · rw [if_pos hjm] at he; exact absurd he.symm hqc
            · rw [if_neg hjm] at he; exact ⟨j, by omega, he⟩
      · intro q hq
        have hqc : q ≠ c := fun e => hq ⟨m, by omega, by rw [e]; simp⟩
        simp [u2_at, hqc]
        refine hO q (fun ⟨j, hj, he⟩ => hq ⟨j, by omega, ?_⟩)
        show (if j = m then c else pos j) = q
        rw [if_neg (by omega)]; exact he
      · intro q hq
        by_cases hqc : q = c
        · subst hqc
          simp [u2_at]
        · have a1 := hle q hq
          simp [u2_at, hqc, a1]
      · rw [u2_eq]
        congr 1
      · rw [u2_ne (by omega), u2_ne b, u2_ne (by omega), u2_ne (by omega), u2_ne (by omega)]
      · simp [u2_at, hi]
