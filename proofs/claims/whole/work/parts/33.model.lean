/-! the reference's acts: begun, kept, taken back -/
def cpyTo (f g : AT) (n : Nat) : AT := fun k => if k < n then f k else g k
theorem cpy_0 {f g : AT} : cpyTo f g 0 = g := by funext k; unfold cpyTo; rw [if_neg (by omega)]
theorem cpy_succ {f g : AT} {n : Nat} : upd (cpyTo f g n) n (f n) = cpyTo f g (n + 1) := by
  funext k; rw [upd_at]; unfold cpyTo
  by_cases h : k = n
  · subst h; rw [if_pos rfl, if_pos (by omega)]
  · rw [if_neg h]
    by_cases h2 : k < n
    · rw [if_pos h2, if_pos (by omega)]
    · rw [if_neg h2, if_neg (by omega)]
/-- an act of the reference goes on: the row was S0, is S; finding f, subject s; the rest is B's -/
def Ms (S0 : AT) (B : VT) (S : AT) (f s : Int32) (M : VT) : Prop := M 0 = S ∧ (∀ k, k < 1646 → M 2 k = S0 k) ∧ (∀ k, 1646 ≤ k → S k = S0 k) ∧ M 7 2 = f ∧ M 7 3 = s ∧ M 1 = B 1 ∧ M 3 = B 3 ∧ M 4 = B 4 ∧ M 6 = B 6 ∧ M 7 0 = B 7 0 ∧ M 7 1 = B 7 1 ∧ M 7 4 = B 7 4
theorem mbegin_ok (M : VT) : ∃ M1, f_X12_begin M = some M1 ∧ Ms (M 0) M1 (M 0) 0 0 M1 ∧ M1 1 = M 1 ∧ M1 3 = M 3 ∧ M1 4 = M 4 ∧ M1 6 = M 6 ∧ M1 7 0 = M 7 0 ∧ M1 7 1 = M 7 1 ∧ M1 7 4 = M 7 4 := by
  have key := lp_iter (f := f_X12_begin_B12) (y := setRow (u2 (u2 M 7 2 0) 7 3 0) 2 (cpyTo (M 0) (M 2) 1646)) (fun j => (Int32.ofNat j, setRow (u2 (u2 M 7 2 0) 7 3 0) 2 (cpyTo (M 0) (M 2) j))) 1646 0 fuel (fun j _ hj => ?_) ?_ (fuel_big (by omega))
  · have e : f_X12_begin M = some (setRow (u2 (u2 M 7 2 0) 7 3 0) 2 (cpyTo (M 0) (M 2) 1646)) := by
      unfold f_X12_begin
      simp only [Option.bind_some]
      rw [cpy_0] at key
      have e2 : setRow (u2 (u2 M 7 2 0) 7 3 0) 2 (M 2) = u2 (u2 M 7 2 0) 7 3 0 := by
        have : (u2 (u2 M 7 2 0) 7 3 0) 2 = M 2 := by rw [u2_ne (by omega), u2_ne (by omega)]
        rw [← this, setRow_id]
      rw [e2] at key
      exact key
    refine ⟨_, e, ⟨?_, ?_, fun _ _ => rfl, ?_, ?_, rfl, rfl, rfl, rfl, rfl, rfl, rfl⟩, ?_, ?_, ?_, ?_, ?_, ?_, ?_⟩
    · rw [setRow_ne (by omega), u2_ne (by omega), u2_ne (by omega)]
    · intro k hk
      rw [setRow_eq]; unfold cpyTo; rw [if_pos hk]
    · rw [setRow_ne (by omega)]; simp [u2_at]
    · rw [setRow_ne (by omega)]; simp [u2_at]
    · rw [setRow_ne (by omega), u2_ne (by omega), u2_ne (by omega)]
    · rw [setRow_ne (by omega), u2_ne (by omega), u2_ne (by omega)]
    · rw [setRow_ne (by omega), u2_ne (by omega), u2_ne (by omega)]
    · rw [setRow_ne (by omega), u2_ne (by omega), u2_ne (by omega)]
    · rw [setRow_ne (by omega)]; simp [u2_at]
    · rw [setRow_ne (by omega)]; simp [u2_at]
    · rw [setRow_ne (by omega)]; simp [u2_at]
  · have hj : j < 1646 := by omega
    unfold f_X12_begin_B12
    have n1 : ¬ (1646 : Int32) ≤ Int32.ofNat j := fun q => by have := (nat_le (a := 1646) (by omega) (by omega)).mp q; omega
    simp only [n1, if_false]
    rw [ck_nat hj (by omega)]
    simp only [Option.bind_some]
    rw [setRow_u2, nat_succ]
    rw [show setRow (u2 (u2 M 7 2 0) 7 3 0) 2 (cpyTo (M 0) (M 2) j) 0 = M 0 by rw [setRow_ne (by omega), u2_ne (by omega), u2_ne (by omega)], cpy_succ]
  · unfold f_X12_begin_B12
    rw [Nat.zero_add, if_pos (show (1646 : Int32) ≤ Int32.ofNat 1646 by decide)]
    rfl
theorem ms_put {S0 : AT} {B : VT} {S : AT} {f s : Int32} {M : VT} {k : Nat} (x : Int32) (h : Ms S0 B S f s M) (hk : k < 1646) : Ms S0 B (upd S k x) f s (u2 M 0 k x) := by
  obtain ⟨a0, a2, at_, f1, f2, b1, b3, b4, b6, c0, c1, c4⟩ := h
  refine ⟨by rw [u2_eq, a0], ?_, ?_, ?_, ?_, ?_, ?_, ?_, ?_, ?_, ?_, ?_⟩
  · intro q hq; rw [u2_ne (by omega)]; exact a2 q hq
  · intro q hq; rw [upd_at, if_neg (by omega)]; exact at_ q hq
  all_goals rw [u2_ne (by omega)]; assumption
/-- what no law speaks of may change -/
theorem ms_scr {S0 : AT} {B : VT} {S : AT} {f s : Int32} {M : VT} {k : Nat} (x : Int32) (h : Ms S0 B S f s M) : Ms S0 B S f s (u2 M 5 k x) := by
  obtain ⟨a0, a2, at_, f1, f2, b1, b3, b4, b6, c0, c1, c4⟩ := h
  refine ⟨?_, ?_, at_, ?_, ?_, ?_, ?_, ?_, ?_, ?_, ?_, ?_⟩
  · rw [u2_ne (by omega)]; exact a0
  · intro q hq; rw [u2_ne (by omega)]; exact a2 q hq
  all_goals rw [u2_ne (by omega)]; assumption
theorem is_no {M : VT} (w : Int32) (h : M 7 2 = 0) : f_X12_is 0 w M = some (0, M) := by
  unfold f_X12_is f_X12_is_j16
  rw [if_pos rfl, if_pos h]
theorem is_yes {S0 : AT} {B : VT} {S : AT} {s : Int32} {M : VT} (w : Int32) (h : Ms S0 B S 0 s M) (hw : w ≠ 0) : ∃ M2, f_X12_is 1 w M = some (1, M2) ∧ Ms S0 B S w s M2 := by
  obtain ⟨a0, a2, at_, f1, f2, b1, b3, b4, b6, c0, c1, c4⟩ := h
  unfold f_X12_is f_X12_is_j16
  rw [if_neg (by decide), if_pos f1, if_neg (by simp [u2_at]; exact hw)]
  refine ⟨_, rfl, ?_, ?_, at_, ?_, ?_, ?_, ?_, ?_, ?_, ?_, ?_, ?_⟩
  · rw [u2_ne (by omega)]; exact a0
  · intro q hq; rw [u2_ne (by omega)]; exact a2 q hq
  · simp [u2_at]
  · simp [u2_at]; exact f2
  · rw [u2_ne (by omega)]; exact b1
  · rw [u2_ne (by omega)]; exact b3
  · rw [u2_ne (by omega)]; exact b4
  · rw [u2_ne (by omega)]; exact b6
  · simp [u2_at]; exact c0
  · simp [u2_at]; exact c1
  · simp [u2_at]; exact c4
theorem ms_sub {S0 : AT} {B : VT} {S : AT} {f s : Int32} {M : VT} (x : Int32) (h : Ms S0 B S f s M) : Ms S0 B S f x (u2 M 7 3 x) := by
  obtain ⟨a0, a2, at_, f1, f2, b1, b3, b4, b6, c0, c1, c4⟩ := h
  refine ⟨?_, ?_, at_, ?_, ?_, ?_, ?_, ?_, ?_, ?_, ?_, ?_⟩
  · rw [u2_ne (by omega)]; exact a0
  · intro q hq; rw [u2_ne (by omega)]; exact a2 q hq
  · simp [u2_at]; exact f1
  · simp [u2_at]
  · rw [u2_ne (by omega)]; exact b1
  · rw [u2_ne (by omega)]; exact b3
  · rw [u2_ne (by omega)]; exact b4
  · rw [u2_ne (by omega)]; exact b6
  · simp [u2_at]; exact c0
  · simp [u2_at]; exact c1
  · simp [u2_at]; exact c4
/-- behind a refused act of the reference -/
def Mf (S0 : AT) (f s : Int32) (M M3 : VT) : Prop := M3 0 = S0 ∧ M3 7 2 = f ∧ M3 7 3 = s ∧ M3 7 4 = M 7 4 + 1 ∧ M3 7 0 = M 7 0 ∧ M3 7 1 = M 7 1 ∧ M3 1 = M 1 ∧ M3 3 = M 3 ∧ M3 4 = M 4 ∧ M3 6 = M 6
theorem mref_ok {B : VT} {S : AT} {f s : Int32} {M : VT} (h : Ms S B S f s M) : ∃ M3, f_X12_refused M = some (-1000000000, M3) ∧ Mf S f s M M3 := by
  obtain ⟨a0, a2, at_, f1, f2, b1, b3, b4, b6, c0, c1, c4⟩ := h
  refine ⟨_, rfl, ?_, ?_, ?_, ?_, ?_, ?_, ?_, ?_, ?_, ?_⟩
  · rw [u2_ne (by omega)]; exact a0
  · simp [u2_at]; exact f1
  · simp [u2_at]; exact f2
  · simp [u2_at]
  · simp [u2_at]
  · simp [u2_at]
  all_goals rw [u2_ne (by omega)]
theorem mtaken_ok {S0 : AT} {B : VT} {S : AT} {f s : Int32} {M : VT} (h : Ms S0 B S f s M) : ∃ M3, f_X12_takenBack M = some (-1000000000, M3) ∧ Mf S0 f s M M3 := by
  obtain ⟨a0, a2, at_, f1, f2, b1, b3, b4, b6, c0, c1, c4⟩ := h
  have e0 : cpyTo (M 2) (M 0) 1646 = S0 := by
    funext k; unfold cpyTo
    by_cases hk : k < 1646
    · rw [if_pos hk]; exact a2 k hk
    · rw [if_neg hk, a0]; exact at_ k (by omega)
  have key := lp_iter (f := f_X12_takenBack_B2) (y := ((-1000000000 : Int32), u2 (setRow M 0 S0) 7 4 (M 7 4 + 1))) (fun j => (Int32.ofNat j, setRow M 0 (cpyTo (M 2) (M 0) j))) 1646 0 fuel (fun j _ hj => ?_) ?_ (fuel_big (by omega))
  · have e : f_X12_takenBack M = some ((-1000000000 : Int32), u2 (setRow M 0 S0) 7 4 (M 7 4 + 1)) := by
      unfold f_X12_takenBack
      simp only [Option.bind_some]
      rw [cpy_0, setRow_id] at key
      exact key
    refine ⟨_, e, ?_, ?_, ?_, ?_, ?_, ?_, ?_, ?_, ?_, ?_⟩
    · rw [u2_ne (by omega), setRow_eq]
    · simp [u2_at, setRow_ne]; exact f1
    · simp [u2_at, setRow_ne]; exact f2
    · simp [u2_at]
    · simp [u2_at, setRow_ne]
    · simp [u2_at, setRow_ne]
    all_goals rw [u2_ne (by omega), setRow_ne (by omega)]
  · have hj : j < 1646 := by omega
    unfold f_X12_takenBack_B2
    have n1 : ¬ (1646 : Int32) ≤ Int32.ofNat j := fun q => by have := (nat_le (a := 1646) (by omega) (by omega)).mp q; omega
    simp only [n1, if_false]
    rw [ck_nat hj (by omega)]
    simp only [Option.bind_some]
    rw [setRow_u2, nat_succ]
    rw [show setRow M 0 (cpyTo (M 2) (M 0) j) 2 = M 2 by rw [setRow_ne (by omega)], cpy_succ]
  · unfold f_X12_takenBack_B2 f_X12_refused
    rw [Nat.zero_add, if_pos (show (1646 : Int32) ≤ Int32.ofNat 1646 by decide), e0]
    simp only [Option.bind_some]
    rw [setRow_ne (by omega)]
/-- behind an act of the reference that was done -/
def Mk (S0 S : AT) (s : Int32) (cnt : Nat) (M M3 : VT) : Prop := M3 0 = S ∧ M3 7 2 = 0 ∧ M3 7 3 = s ∧ M3 7 4 = M 7 4 ∧ M3 7 0 = Int32.ofNat (if cnt < 60 then cnt + 1 else cnt) ∧ M3 7 1 = M 7 1 ∧ M3 3 = M 3 ∧ M3 4 = M 4 ∧ M3 6 = M 6 ∧ (if cnt < 60 then (∀ i k, i < cnt → k < 1646 → M3 1 (1646 * i + k) = M 1 (1646 * i + k)) ∧ (∀ k, k < 1646 → M3 1 (1646 * cnt + k) = S0 k) else (∀ i k, i < 59 → k < 1646 → M3 1 (1646 * i + k) = M 1 (1646 * (i + 1) + k)) ∧ (∀ k, k < 1646 → M3 1 (1646 * 59 + k) = S0 k))
/-- rows that keep() makes -/
def blk (f g : AT) (c j : Nat) : AT := fun i => if 1646 * c ≤ i ∧ i < 1646 * c + j then g (i - 1646 * c) else f i
def shf (f : AT) (j : Nat) : AT := fun i => if i < j then f (i + 1646) else f i
theorem blk_0 {f g : AT} {c : Nat} : blk f g c 0 = f := by funext i; unfold blk; rw [if_neg (by omega)]
theorem blk_succ {f g : AT} {c j : Nat} : upd (blk f g c j) (1646 * c + j) (g j) = blk f g c (j + 1) := by
  funext i
  rw [upd_at]
  unfold blk
  by_cases h : i = 1646 * c + j
  · rw [if_pos h, if_pos (by omega)]
    congr 1
    omega
  · rw [if_neg h]
    by_cases h2 : 1646 * c ≤ i ∧ i < 1646 * c + j
    · rw [if_pos h2, if_pos (by omega)]
    · rw [if_neg h2, if_neg (by omega)]
theorem blk_in {f g : AT} {c j k : Nat} (h : k < j) : blk f g c j (1646 * c + k) = g k := by
  unfold blk; rw [if_pos (by omega)]
  congr 1; omega
theorem blk_out {f g : AT} {c j i : Nat} (h : i < 1646 * c) : blk f g c j i = f i := by
  unfold blk; rw [if_neg (by omega)]
theorem shf_0 {f : AT} : shf f 0 = f := by funext i; unfold shf; rw [if_neg (by omega)]
theorem shf_at {f : AT} {j i : Nat} (h : j ≤ i) : shf f j i = f i := by unfold shf; rw [if_neg (by omega)]
theorem shf_in {f : AT} {j i : Nat} (h : i < j) : shf f j i = f (i + 1646) := by unfold shf; rw [if_pos h]
theorem shf_succ {f : AT} {j : Nat} : upd (shf f j) j (f (j + 1646)) = shf f (j + 1) := by
  funext i
  rw [upd_at]
  unfold shf
  by_cases h : i = j
  · rw [if_pos h, if_pos (by omega), h]
  · rw [if_neg h]
    by_cases h2 : i < j
    · rw [if_pos h2, if_pos (by omega)]
    · rw [if_neg h2, if_neg (by omega)]
/-- the second loop of keep() -/
theorem mkeep_in {M : VT} {cnt : Nat} (r : Int32) (hc : cnt < 60) (h0 : M 7 0 = Int32.ofNat cnt) : f_X12_keep_j45 r M = some (r, u2 (setRow M 1 (blk (M 1) (M 2) cnt 1646)) 7 0 (Int32.ofNat (cnt + 1))) := by
  unfold f_X12_keep_j45
  simp only [Option.bind_some]
  have key := lp_iter (f := f_X12_keep_B47 r) (y := (r, u2 (setRow M 1 (blk (M 1) (M 2) cnt 1646)) 7 0 (Int32.ofNat (cnt + 1)))) (fun j => (Int32.ofNat j, setRow M 1 (blk (M 1) (M 2) cnt j))) 1646 0 fuel (fun j _ hj => ?_) ?_ (fuel_big (by omega))
  · simp only [blk_0, setRow_id] at key
    exact key
  · have hj : j < 1646 := by omega
    unfold f_X12_keep_B47
    have n1 : ¬ (1646 : Int32) ≤ Int32.ofNat j := fun q => by have := (nat_le (a := 1646) (by omega) (by omega)).mp q; omega
    simp only [n1, if_false]
    rw [ck_nat hj (by omega)]
    simp only [Option.bind_some]
    rw [setRow_ne (by omega), h0, show (1646 : Int32) * Int32.ofNat cnt + Int32.ofNat j = Int32.ofNat (1646 * cnt + j) by rw [Int32.ofNat_add, Int32.ofNat_mul]; rfl, ck_nat (by omega) (by omega)]
    simp only [Option.bind_some]
    rw [setRow_u2, nat_succ, setRow_ne (by omega), blk_succ]
  · unfold f_X12_keep_B47
    rw [Nat.zero_add, if_pos (show (1646 : Int32) ≤ Int32.ofNat 1646 by decide)]
    simp only [Option.bind_some]
    rw [setRow_ne (by omega), h0, nat_succ]
/-- the first loop of keep() -/
theorem shift_loop {F : Int32 × VT → Option ((Int32 × VT) ⊕ (Int32 × VT))} {N : Nat} {M : VT} {Y : Int32 × VT} (hN : N < 1000000) (hs : ∀ j, j < N → F (Int32.ofNat j, setRow M 1 (shf (M 1) j)) = some (.inl (Int32.ofNat (j + 1), setRow M 1 (shf (M 1) (j + 1))))) (he : F (Int32.ofNat N, setRow M 1 (shf (M 1) N)) = some (.inr Y)) : lp F fuel (Int32.ofNat 0, M) = some Y := by
  have key := lp_iter (f := F) (y := Y) (fun j => (Int32.ofNat j, setRow M 1 (shf (M 1) j))) N 0 fuel (fun j _ hj => hs j (by omega)) (by rw [Nat.zero_add]; exact he) (fuel_big hN)
  simp only [shf_0, setRow_id] at key
  exact key
theorem shift_step {M : VT} (r : Int32) (j : Nat) (hj : j < 97114) : f_X12_keep_B11 r (Int32.ofNat j, setRow M 1 (shf (M 1) j)) = some (.inl (Int32.ofNat (j + 1), setRow M 1 (shf (M 1) (j + 1)))) := by
  unfold f_X12_keep_B11
  have n1 : ¬ (97114 : Int32) ≤ Int32.ofNat j := fun q => by have := (nat_le (a := 97114) (by omega) (by omega)).mp q; omega
  simp only [n1, if_false]
  rw [show Int32.ofNat j + (1646 : Int32) = Int32.ofNat (j + 1646) from (Int32.ofNat_add j 1646).symm, ck_nat (by omega) (by omega)]
  simp only [Option.bind_some]
  rw [ck_nat (N := 98760) (by omega) (by omega)]
  simp only [Option.bind_some]
  rw [setRow_u2, nat_succ, setRow_eq, shf_at (by omega), shf_succ]
theorem shift_end {M : VT} (r : Int32) (n : Nat) (hn : (97114 : Int32) ≤ Int32.ofNat n) {Y : Int32 × VT} (hY : f_X12_keep_j45 r (u2 (setRow M 1 (shf (M 1) n)) 7 0 59) = some Y) : f_X12_keep_B11 r (Int32.ofNat n, setRow M 1 (shf (M 1) n)) = some (.inr Y) := by
  unfold f_X12_keep_B11
  simp only [hn, if_true, hY, Option.bind_some]
theorem le_97114 : (97114 : Int32) ≤ Int32.ofNat 97114 := Int32.le_refl _
theorem keep_if {α : Type} {c : Prop} [Decidable c] {L : Int32 × VT → Option α} {E : Option α} {M : VT} (hc : c) : (if c then ((some (0 : Int32)).bind fun a6 => L (a6, M)) else E) = L (Int32.ofNat 0, M) := by
  rw [if_pos hc]; rfl
theorem keep_60u {M : VT} (r : Int32) (h0 : M 7 0 = 60) : f_X12_keep r M = lp (f_X12_keep_B11 r) fuel (Int32.ofNat 0, M) := keep_if (L := lp (f_X12_keep_B11 r) fuel) h0
theorem mkeep_60 {M : VT} (r : Int32) (h0 : M 7 0 = Int32.ofNat 60) {Y : Int32 × VT} {n : Nat} (hn : n = 97114) (hY : f_X12_keep_j45 r (u2 (setRow M 1 (shf (M 1) n)) 7 0 59) = some Y) : f_X12_keep r M = some Y := by
  have h1 : (97114 : Int32) ≤ Int32.ofNat n := by rw [hn]; exact le_97114
  have h2 : n < 1000000 := by omega
  exact (keep_60u r h0).trans (shift_loop h2 (fun j hj => shift_step r j (by omega)) (shift_end r n h1 hY))
theorem mkeep_ok {S0 : AT} {B : VT} {S : AT} {s : Int32} {M : VT} {cnt : Nat} (r : Int32) (h : Ms S0 B S 0 s M) (hc : cnt ≤ 60) (h0 : M 7 0 = Int32.ofNat cnt) : ∃ M3, f_X12_keep r M = some (r, M3) ∧ Mk S0 S s cnt M M3 := by
  obtain ⟨a0, a2, at_, f1, f2, b1, b3, b4, b6, c0, c1, c4⟩ := h
  by_cases hlt : cnt < 60
  · unfold f_X12_keep
    rw [if_neg (fun q => by rw [h0] at q; have := (nat_eq (b := 60) (by omega) (by omega)).mp q; omega), mkeep_in r hlt h0]
    refine ⟨_, rfl, ?_, ?_, ?_, ?_, ?_, ?_, ?_, ?_, ?_, ?_⟩
    · rw [u2_ne (by omega), setRow_ne (by omega)]; exact a0
    · simp [u2_at, setRow_ne]; exact f1
    · simp [u2_at, setRow_ne]; exact f2
    · simp [u2_at, setRow_ne]
    · rw [if_pos hlt]; simp [u2_at]
    · simp [u2_at, setRow_ne]
    · rw [u2_ne (by omega), setRow_ne (by omega)]
    · rw [u2_ne (by omega), setRow_ne (by omega)]
    · rw [u2_ne (by omega), setRow_ne (by omega)]
    · rw [if_pos hlt]
      refine ⟨fun i k hi hk => ?_, fun k hk => ?_⟩
      · rw [u2_ne (by omega), setRow_eq, blk_out (by omega)]
      · rw [u2_ne (by omega), setRow_eq, blk_in hk, a2 k hk]
  · have hcc : cnt = 60 := by omega
    rw [hcc] at h0
    obtain ⟨n, hn⟩ : ∃ n : Nat, n = 97114 := ⟨_, rfl⟩
    refine ⟨_, mkeep_60 r h0 hn (mkeep_in (cnt := 59) r (by omega) (by simp [u2_at])), ?_, ?_, ?_, ?_, ?_, ?_, ?_, ?_, ?_, ?_⟩
    · rw [u2_ne (by omega), setRow_ne (by omega), u2_ne (by omega), setRow_ne (by omega)]; exact a0
    · simp [u2_at, setRow_ne]; exact f1
    · simp [u2_at, setRow_ne]; exact f2
    · simp [u2_at, setRow_ne]
    · rw [if_neg hlt, hcc]; simp [u2_at]
    · simp [u2_at, setRow_ne]
    · rw [u2_ne (by omega), setRow_ne (by omega), u2_ne (by omega), setRow_ne (by omega)]
    · rw [u2_ne (by omega), setRow_ne (by omega), u2_ne (by omega), setRow_ne (by omega)]
    · rw [u2_ne (by omega), setRow_ne (by omega), u2_ne (by omega), setRow_ne (by omega)]
    · rw [if_neg hlt]
      refine ⟨fun i k hi hk => ?_, fun k hk => ?_⟩
      · rw [u2_ne (by omega), setRow_eq, blk_out (by omega), u2_ne (by omega), setRow_eq, shf_in (by omega), show 1646 * i + k + 1646 = 1646 * (i + 1) + k by omega]
      · rw [u2_ne (by omega), setRow_eq, blk_in hk, u2_ne (by omega), setRow_ne (by omega), a2 k hk]
