/-! check: copies, the end, one step -/
theorem copy_loop {Y : Type} {F : Int32 × VT → Option ((Int32 × VT) ⊕ Y)} {N a b : Nat} {M : VT} {X : Option Y} (hN : N < 1000000) (hs : ∀ j, j < N → F (Int32.ofNat j, setRow M b (cpyTo (M a) (M b) j)) = some (.inl (Int32.ofNat (j + 1), setRow M b (cpyTo (M a) (M b) (j + 1))))) (he : F (Int32.ofNat N, setRow M b (cpyTo (M a) (M b) N)) = X.bind fun y => some (.inr y)) : lp F fuel (Int32.ofNat 0, M) = X := by
  have key := lp_run (f := F) (X := X) (fun j => (Int32.ofNat j, setRow M b (cpyTo (M a) (M b) j))) N 0 fuel (fun j _ hj => hs j (by omega)) (by rw [Nat.zero_add]; exact he) (fuel_big hN)
  simp only [cpy_0, setRow_id] at key
  exact key
theorem cpy_in {f g : AT} {n k : Nat} (h : k < n) : cpyTo f g n k = f k := by unfold cpyTo; rw [if_pos h]
theorem cp_step {M : VT} {a b N j : Nat} (hab : a ≠ b) : u2 (setRow M b (cpyTo (M a) (M b) j)) b j (setRow M b (cpyTo (M a) (M b) j) a j) = setRow M b (cpyTo (M a) (M b) (j + 1)) := by
  rw [setRow_u2, setRow_ne hab, cpy_succ]
theorem m_ck6 {M : VT} {n : Nat} (hn : n = 1646) : lp f_X12_check_B6 fuel (Int32.ofNat 0, M) = lp f_X12_check_B33 fuel (Int32.ofNat 0, setRow M 3 (cpyTo (M 0) (M 3) n)) := by
  refine copy_loop (a := 0) (b := 3) (N := n) (by omega) (fun j hj => ?_) ?_
  · have n1 : ¬ (1646 : Int32) ≤ Int32.ofNat j := fun q => by have := (nat_le (a := 1646) (by omega) (by omega)).mp q; omega
    have ck : ckA 1646 (Int32.ofNat j) = some j := ck_nat (by omega) (by omega)
    simp only [f_X12_check_B6, n1, if_false, ck, bsm, nat_succ]
    rw [cp_step (N := n) (by omega)]
  · have n1 : (1646 : Int32) ≤ Int32.ofNat n := by rw [hn]; exact Int32.le_refl _
    unfold f_X12_check_B6
    rw [if_pos n1, bsm]
    rfl
theorem m_ck33 {M : VT} {n : Nat} (hn : n = 98760) : lp f_X12_check_B33 fuel (Int32.ofNat 0, M) = lp (f_X12_check_B69 (M 7 0) (M 7 4)) fuel (Int32.ofNat 0, setRow M 6 (cpyTo (M 1) (M 6) n)) := by
  refine copy_loop (a := 1) (b := 6) (N := n) (by omega) (fun j hj => ?_) ?_
  · have n1 : ¬ (98760 : Int32) ≤ Int32.ofNat j := fun q => by have := (nat_le (a := 98760) (by omega) (by omega)).mp q; omega
    have ck : ckA 98760 (Int32.ofNat j) = some j := ck_nat (by omega) (by omega)
    simp only [f_X12_check_B33, n1, if_false, ck, bsm, nat_succ]
    rw [cp_step (N := n) (by omega)]
  · have n1 : (98760 : Int32) ≤ Int32.ofNat n := by rw [hn]; exact Int32.le_refl _
    have r7 : setRow M 6 (cpyTo (M 1) (M 6) n) 7 = M 7 := setRow_ne (by omega)
    unfold f_X12_check_B33
    rw [if_pos n1, bsm, bsm, bsm]
    show ((lp (f_X12_check_B69 (setRow M 6 (cpyTo (M 1) (M 6) n) 7 0) (setRow M 6 (cpyTo (M 1) (M 6) n) 7 4)) fuel (Int32.ofNat 0, setRow M 6 (cpyTo (M 1) (M 6) n))).bind fun y5 => some (Sum.inr y5)) = _
    rw [r7]
theorem m_ck168 {M : VT} {n : Nat} (v1 v2 v3 : Int32) (hn : n = 98760) : lp (f_X12_check_B168 v1 v2 v3) fuel (Int32.ofNat 0, M) = some (v3, u2 (u2 (setRow M 1 (cpyTo (M 6) (M 1) n)) 7 0 v1) 7 4 v2) := by
  refine copy_loop (a := 6) (b := 1) (N := n) (by omega) (fun j hj => ?_) ?_
  · have n1 : ¬ (98760 : Int32) ≤ Int32.ofNat j := fun q => by have := (nat_le (a := 98760) (by omega) (by omega)).mp q; omega
    have ck : ckA 98760 (Int32.ofNat j) = some j := ck_nat (by omega) (by omega)
    simp only [f_X12_check_B168, n1, if_false, ck, bsm, nat_succ]
    rw [cp_step (N := n) (by omega)]
  · have n1 : (98760 : Int32) ≤ Int32.ofNat n := by rw [hn]; exact Int32.le_refl _
    unfold f_X12_check_B168
    rw [if_pos n1]
theorem m_ck137 {M : VT} {n : Nat} (v1 v2 v3 : Int32) (hn : n = 1646) : lp (f_X12_check_B137 v1 v2 v3) fuel (Int32.ofNat 0, M) = lp (f_X12_check_B168 v1 v2 v3) fuel (Int32.ofNat 0, setRow M 0 (cpyTo (M 3) (M 0) n)) := by
  refine copy_loop (a := 3) (b := 0) (N := n) (by omega) (fun j hj => ?_) ?_
  · have n1 : ¬ (1646 : Int32) ≤ Int32.ofNat j := fun q => by have := (nat_le (a := 1646) (by omega) (by omega)).mp q; omega
    have ck : ckA 1646 (Int32.ofNat j) = some j := ck_nat (by omega) (by omega)
    simp only [f_X12_check_B137, n1, if_false, ck, bsm, nat_succ]
    rw [cp_step (N := n) (by omega)]
  · have n1 : (1646 : Int32) ≤ Int32.ofNat n := by rw [hn]; exact Int32.le_refl _
    unfold f_X12_check_B137
    rw [if_pos n1, bsm]
    rfl
/-- what the reference put aside -/
def AS (M M2 : VT) : Prop := (∀ k, k < 1646 → M2 3 k = M 0 k) ∧ (∀ k, k < 98760 → M2 6 k = M 1 k) ∧ M2 4 = M 4 ∧ M2 7 1 = M 7 1
/-- the reference behind its check -/
def FM (M : VT) (f s : Int32) (M3 : VT) : Prop := (∀ k, k < 1646 → M3 0 k = M 0 k) ∧ (∀ k, k < 98760 → M3 1 k = M 1 k) ∧ M3 4 = M 4 ∧ M3 7 0 = M 7 0 ∧ M3 7 1 = M 7 1 ∧ M3 7 2 = f ∧ M3 7 3 = s ∧ M3 7 4 = M 7 4
theorem m_ckEnd {M M2 : VT} (v3 : Int32) (h : AS M M2) : ∃ M3, f_X12_check_j134 (M 7 0) (M 7 4) v3 M2 = some (v3, M3) ∧ FM M (M2 7 2) (M2 7 3) M3 := by
  obtain ⟨n, hn⟩ : ∃ n, n = 1646 := ⟨_, rfl⟩
  obtain ⟨m, hm⟩ : ∃ m, m = 98760 := ⟨_, rfl⟩
  refine ⟨u2 (u2 (setRow (setRow M2 0 (cpyTo (M2 3) (M2 0) n)) 1 (cpyTo (M2 6) (M2 1) m)) 7 0 (M 7 0)) 7 4 (M 7 4), ?_, ?_⟩
  · unfold f_X12_check_j134
    rw [bsm]
    refine Eq.trans (m_ck137 _ _ _ hn) (Eq.trans (m_ck168 _ _ _ hm) ?_)
    rw [setRow_ne (show 6 ≠ 0 by omega), setRow_ne (show 1 ≠ 0 by omega)]
  · obtain ⟨h1, h2, h3, h4⟩ := h
    refine ⟨fun k hk => ?_, fun k hk => ?_, ?_, ?_, ?_, ?_, ?_, ?_⟩
    · rw [u2_ne (by omega), u2_ne (by omega), setRow_ne (by omega), setRow_eq, cpy_in (by omega)]; exact h1 k hk
    · rw [u2_ne (by omega), u2_ne (by omega), setRow_eq, cpy_in (by omega)]; exact h2 k hk
    · rw [u2_ne (by omega), u2_ne (by omega), setRow_ne (by omega), setRow_ne (by omega)]; exact h3
    · rw [u2_at, if_neg (by omega), u2_at, if_pos ⟨rfl, rfl⟩]
    · rw [u2_at, if_neg (by omega), u2_at, if_neg (by omega), setRow_ne (by omega), setRow_ne (by omega)]; exact h4
    · rw [u2_at, if_neg (by omega), u2_at, if_neg (by omega), setRow_ne (by omega), setRow_ne (by omega)]
    · rw [u2_at, if_neg (by omega), u2_at, if_neg (by omega), setRow_ne (by omega), setRow_ne (by omega)]
    · rw [u2_at, if_pos ⟨rfl, rfl⟩]
/-! the tape is read -/
theorem c_number {V : VT} {i k steps : Nat} (hi : i < steps) (hs : steps ≤ 40) (hk : k < 5) (h : V 11 11 = Int32.ofNat steps) : f_X8_number (Int32.ofNat i) (Int32.ofNat k) V = some (V 10 (5 * i + k)) := by
  have e2 : Int32.ofNat i * 5 + Int32.ofNat k = Int32.ofNat (5 * i + k) := by
    rw [Int32.ofNat_add, show 5 * i = i * 5 from Nat.mul_comm 5 i, Int32.ofNat_mul]; rfl
  have ec : f_X8_cellOf (Int32.ofNat i) (Int32.ofNat k) V = some (Int32.ofNat (5 * i + k)) := by
    unfold f_X8_cellOf f_X8_cellOf_j26
    rw [if_neg (nat_nneg (by omega)), if_neg (fun q => by rw [h] at q; have := (nat_le (by omega) (by omega)).mp q; omega), if_neg (nat_nneg (by omega)), if_neg (fun q => by have := (nat_le (a := 5) (by omega) (by omega)).mp q; omega), if_neg (by decide), e2]
  unfold f_X8_number
  rw [ec, bsm, if_neg (nat_nneg (by omega)), if_neg (fun q => by have := (nat_le (a := 200) (by omega) (by omega)).mp q; omega), ck_nat (by omega) (by omega), bsm]
theorem bind_eta3 {x : Option (Int32 × VT × JT)} : (x.bind fun r => some (r.1, r.2.1, r.2.2)) = x := by cases x <;> rfl
theorem bind_eta2 {x : Option (Int32 × VT)} : (x.bind fun r => some (r.1, r.2)) = x := by cases x <;> rfl
theorem play_ok {n i steps : Nat} {V M : VT} {J : JT} (hg : GG n (V 0) (M 0)) (hi : i < steps) (hs : steps ≤ 40) (h11 : V 11 11 = Int32.ofNat steps) (ht : ∀ j, j < 200 → V 10 j = M 4 j) (ha : ∃ a : Nat, 1 ≤ a ∧ a ≤ 5 ∧ M 4 (5 * i) = Int32.ofNat a) : ∃ (ci : VT → JT → Option (Int32 × VT × JT)) (mi : VT → Option (Int32 × VT)), AOK ci mi ∧ f_X11_play (Int32.ofNat i) V J = ci V J ∧ f_X12_done (Int32.ofNat i) M = mi M := by
  have r0 : f_X8_number (Int32.ofNat i) (0 : Int32) V = some (V 10 (5 * i)) := c_number (k := 0) hi hs (by omega) h11
  have r1 : f_X8_number (Int32.ofNat i) (1 : Int32) V = some (V 10 (5 * i + 1)) := c_number (k := 1) hi hs (by omega) h11
  have r2 : f_X8_number (Int32.ofNat i) (2 : Int32) V = some (V 10 (5 * i + 2)) := c_number (k := 2) hi hs (by omega) h11
  have r3 : f_X8_number (Int32.ofNat i) (3 : Int32) V = some (V 10 (5 * i + 3)) := c_number (k := 3) hi hs (by omega) h11
  rw [ht _ (by omega)] at r0 r1 r2 r3
  have k0 : ckA 200 ((5 : Int32) * Int32.ofNat i) = some (5 * i) := ck_lit (by rw [Int32.ofNat_mul]; rfl) (by omega) (by omega)
  have k1 : ckA 200 ((5 : Int32) * Int32.ofNat i + 1) = some (5 * i + 1) := ck_lit (by rw [Int32.ofNat_add, Int32.ofNat_mul]; rfl) (by omega) (by omega)
  have k2 : ckA 200 ((5 : Int32) * Int32.ofNat i + 2) = some (5 * i + 2) := ck_lit (by rw [Int32.ofNat_add, Int32.ofNat_mul]; rfl) (by omega) (by omega)
  have k3 : ckA 200 ((5 : Int32) * Int32.ofNat i + 3) = some (5 * i + 3) := ck_lit (by rw [Int32.ofNat_add, Int32.ofNat_mul]; rfl) (by omega) (by omega)
  have k45 : ckA 1646 (1645 : Int32) = some 1645 := ck_lit (k := 1645) rfl (by omega) (by omega)
  obtain ⟨a, ha1, ha5, ea⟩ := ha
  rw [ea] at r0
  have hp : f_X11_play (Int32.ofNat i) V J = if Int32.ofNat a = 1 then ((f_X2_hangThing (M 4 (5 * i + 1)) (M 4 (5 * i + 2)) (M 4 (5 * i + 3)) V J).bind fun r5 => some (r5.1, r5.2.1, r5.2.2)) else if Int32.ofNat a = 2 then ((f_X2_takeDown (M 4 (5 * i + 1)) V).bind fun r6 => some (r6.1, r6.2, J)) else if Int32.ofNat a = 3 then ((f_X6_putBricks (M 4 (5 * i + 1)) (M 4 (5 * i + 2)) V).bind fun r7 => some (r7.1, r7.2, J)) else if Int32.ofNat a = 4 then ((f_X3_time V).bind fun r8 => (f_X0_addCue (M 4 (5 * i + 1)) (M 4 (5 * i + 2)) r8 (4 : Int32) V).bind fun r9 => some (r9.1, r9.2, J)) else ((f_X0_runTicks (M 4 (5 * i + 1)) V J).bind fun r10 => some (r10.1, r10.2.1, r10.2.2)) := by
    unfold f_X11_play
    rw [r1, bsm, r2, bsm, r3, bsm, r0, bsm]
  have hd : f_X12_done (Int32.ofNat i) M = if Int32.ofNat a = 1 then ((f_X12_hang (M 4 (5 * i + 1)) (M 4 (5 * i + 2)) (M 4 (5 * i + 3)) M).bind fun r8 => some (r8.1, r8.2)) else if Int32.ofNat a = 2 then ((f_X12_strike (M 4 (5 * i + 1)) M).bind fun r9 => some (r9.1, r9.2)) else if Int32.ofNat a = 3 then ((f_X12_brick (M 4 (5 * i + 1)) (M 4 (5 * i + 2)) M).bind fun r10 => some (r10.1, r10.2)) else if Int32.ofNat a = 4 then ((f_X12_cue (M 4 (5 * i + 1)) (M 4 (5 * i + 2)) (M 0 1645) (4 : Int32) M).bind fun r12 => some (r12.1, r12.2)) else ((f_X12_go (M 4 (5 * i + 1)) M).bind fun r13 => some (r13.1, r13.2)) := by
    unfold f_X12_done
    rw [k1, bsm, bsm, k2, bsm, bsm, k3, bsm, bsm, k0, bsm, ea, k45, bsm]
  rw [hp, hd]
  have hc : a = 1 ∨ a = 2 ∨ a = 3 ∨ a = 4 ∨ a = 5 := by omega
  rcases hc with rfl | rfl | rfl | rfl | rfl
  · rw [if_pos (by decide), if_pos (by decide), bind_eta3, bind_eta2]
    exact ⟨_, _, aok_hang _ _ _, rfl, rfl⟩
  · rw [if_neg (by decide), if_pos (by decide), if_neg (by decide), if_pos (by decide), bind_eta2]
    exact ⟨_, _, aok_strike _, rfl, rfl⟩
  · rw [if_neg (by decide), if_neg (by decide), if_pos (by decide), if_neg (by decide), if_neg (by decide), if_pos (by decide), bind_eta2]
    exact ⟨_, _, aok_brick _ _, rfl, rfl⟩
  · rw [if_neg (by decide), if_neg (by decide), if_neg (by decide), if_pos (by decide), if_neg (by decide), if_neg (by decide), if_neg (by decide), if_pos (by decide), bind_eta2, c_time hg, bsm]
    exact ⟨_, _, aok_cue _ _ _ _, rfl, rfl⟩
  · rw [if_neg (by decide), if_neg (by decide), if_neg (by decide), if_neg (by decide), if_neg (by decide), if_neg (by decide), if_neg (by decide), if_neg (by decide), bind_eta3, bind_eta2]
    exact ⟨_, _, aok_go _, rfl, rfl⟩
