/-! the component's acts: begun, kept, settled -/
theorem i32_add {x y : Int32} (h1 : -2147483648 ≤ x.toInt + y.toInt) (h2 : x.toInt + y.toInt < 2147483648) : (x + y).toInt = x.toInt + y.toInt := by
  rw [Int32.toInt_add]; exact Int.bmod_eq_of_le (by omega) (by omega)
theorem i32_sub {x y : Int32} (h1 : -2147483648 ≤ x.toInt - y.toInt) (h2 : x.toInt - y.toInt < 2147483648) : (x - y).toInt = x.toInt - y.toInt := by
  rw [Int32.toInt_sub]; exact Int.bmod_eq_of_le (by omega) (by omega)
theorem i32_mul {x y : Int32} (h1 : -2147483648 ≤ x.toInt * y.toInt) (h2 : x.toInt * y.toInt < 2147483648) : (x * y).toInt = x.toInt * y.toInt := by
  rw [Int32.toInt_mul]; exact Int.bmod_eq_of_le (by omega) (by omega)
theorem nat_div {n d : Nat} (hn : n < 2147483648) (hd : d < 2147483648) : Int32.ofNat n / Int32.ofNat d = Int32.ofNat (n / d) := (Int32.ofNat_div hn hd).symm
theorem nat_rem {n d : Nat} (hn : n < 2147483648) (hd : d < 2147483648) : Int32.ofNat n - Int32.ofNat n / Int32.ofNat d * Int32.ofNat d = Int32.ofNat (n % d) := by
  have h0 : n / d * d ≤ n := Nat.div_mul_le_self n d
  have h1 : n % d = n - n / d * d := by
    have := Nat.div_add_mod n d
    rw [Nat.mul_comm] at this
    omega
  rw [nat_div hn hd, ← Int32.ofNat_mul, ← Int32.ofNat_sub _ _ h0, h1]
/-- no act goes on -/
def Rest (V : VT) : Prop := 0 ≤ (V 11 1).toInt ∧ (V 11 1).toInt < 1000000 ∧ ∀ c, c < 1874 → (V 1 c).toInt ≤ (V 11 1).toInt
theorem begin_ok {V : VT} (z : Nat) (hz : z < 1874) (h : Rest V) : ∃ V1, f_X11_begin V = some V1 ∧ St (V 0) V1 z (V 0) 0 0 V1 ∧ V1 11 1 = V 11 1 + 1 ∧ V1 11 3 = V 11 3 ∧ V1 11 4 = V 11 4 ∧ V1 11 7 = V 11 7 ∧ V1 11 11 = V 11 11 ∧ V1 10 = V 10 := by
  obtain ⟨h0, h1, h2⟩ := h
  have e1 : (1 : Int32).toInt = 1 := by decide
  have ea : (V 11 1 + 1).toInt = (V 11 1).toInt + 1 := by rw [i32_add (by omega) (by omega), e1]
  have hne : ∀ c, c < 1874 → V 1 c ≠ V 11 1 + 1 := fun c hc q => by
    have := h2 c hc
    rw [q, ea] at this
    omega
  unfold f_X11_begin f_X9_forget f_X4_open
  simp only [Option.bind_some]
  refine ⟨_, rfl, ⟨⟨0, fun _ => 0, by omega, ?_, fun j hj => by omega, fun i j hi => by omega, ?_, ?_, ?_⟩, ?_, ?_, ?_, ?_, ?_, ?_, ?_, ?_, ?_, ?_⟩, ?_, ?_, ?_, ?_, ?_, ?_⟩
  · simp [u2_at]
  · intro c hc
    have := hne c hc
    simp [u2_at, this]
  · intro c _; simp [u2_at]
  · intro c hc
    have := h2 c hc
    simp [u2_at, -Int32.toInt_add]
    rw [ea]
    omega
  · rw [u2_ne (by omega), u2_ne (by omega), u2_ne (by omega), u2_ne (by omega)]
  · have := hne z hz
    simp [u2_at, this]
  · rw [u2_ne (by omega), u2_ne (by omega), u2_ne (by omega), u2_ne (by omega)]
  all_goals simp [u2_at]
  all_goals first | rfl | (rw [u2_ne (by omega), u2_ne (by omega), u2_ne (by omega), u2_ne (by omega)])
/-- behind a refused act -/
def Rf (O : AT) (f s : Int32) (V V3 : VT) : Prop := V3 0 = O ∧ V3 11 5 = f ∧ V3 11 6 = s ∧ V3 11 7 = V 11 7 + 1 ∧ V3 11 1 = V 11 1 + 1 ∧ V3 11 3 = V 11 3 ∧ V3 11 4 = V 11 4 ∧ V3 11 11 = V 11 11 ∧ V3 10 = V 10 ∧ V3 1 = V 1
theorem rest_of {O : AT} {B : VT} {z : Nat} {C : AT} {f s : Int32} {V : VT} (h : St O B z C f s V) : ∀ c, c < 1874 → (V 1 c).toInt ≤ (V 11 1).toInt := by
  obtain ⟨⟨m, pos, hm, hn, hp, hinj, hch, hO, hle⟩, -⟩ := h
  exact hle
theorem rollBack_ok {O : AT} {B : VT} {z : Nat} {C : AT} {f s : Int32} {V : VT} (hz : z < 1874) (h : St O B z C f s V) : ∃ V3, f_X4_rollBack V = some V3 ∧ V3 0 = O ∧ V3 11 5 = f ∧ V3 11 6 = s ∧ V3 11 7 = V 11 7 ∧ V3 11 1 = V 11 1 + 1 ∧ V3 11 3 = V 11 3 ∧ V3 11 4 = V 11 4 ∧ V3 11 11 = V 11 11 ∧ V3 10 = V 10 ∧ V3 1 = V 1 := by
  obtain ⟨m, hn, hrs⟩ := st_rs hz h
  obtain ⟨-, a0, hzz, a10, a5, a6, a1, a3, a4, a7, a11⟩ := h
  unfold f_X4_rollBack f_X4_open
  rw [hn, restore_n_ok hrs a0 (fun _ _ => rfl) (fun _ _ => rfl)]
  simp only [Option.bind_some]
  refine ⟨_, rfl, ?_, ?_, ?_, ?_, ?_, ?_, ?_, ?_, ?_, ?_⟩
  · rw [u2_ne (by omega), u2_ne (by omega), setRow_eq]
  · simp [u2_at, setRow_ne, a5]
  · simp [u2_at, setRow_ne, a6]
  · simp [u2_at, setRow_ne]
  · simp [u2_at, setRow_ne]
  · simp [u2_at, setRow_ne]
  · simp [u2_at, setRow_ne]
  · simp [u2_at, setRow_ne]
  · rw [u2_ne (by omega), u2_ne (by omega), setRow_ne (by omega)]
  · rw [u2_ne (by omega), u2_ne (by omega), setRow_ne (by omega)]
theorem settle_no {O : AT} {B : VT} {z : Nat} {C : AT} {f s : Int32} {V : VT} (r : Int32) (hz : z < 1874) (h : St O B z C f s V) (hf : f ≠ 0) : ∃ V3, f_X11_settle r V = some (-1000000000, V3) ∧ Rf O f s V V3 := by
  have h5 : V 11 5 = f := h.2.2.2.2.1
  have e1 : f_X9_isRefusal V = some 1 := by unfold f_X9_isRefusal; rw [h5, if_neg hf]
  have hs2 : St O (u2 V 11 7 (V 11 7 + 1)) z C f s (u2 V 11 7 (V 11 7 + 1)) := by
    obtain ⟨⟨m, pos, hm, hn, hp, hinj, hch, hO, hle⟩, a0, hzz, a10, a5, a6, a1, a3, a4, a7, a11⟩ := h
    refine ⟨⟨m, pos, hm, ?_, ?_, hinj, ?_, ?_, ?_⟩, ?_, ?_, rfl, ?_, ?_, rfl, rfl, rfl, rfl, rfl⟩
    · simp [u2_at]; exact hn
    · intro j hj
      have := hp j hj
      simp [u2_at, this]
    · intro c hc
      have := hch c hc
      simp [u2_at, this]
    · intro c hc
      have := hO c hc
      simp [u2_at, this]
    · intro c hc
      have := hle c hc
      simp [u2_at, this]
    · rw [u2_ne (by omega)]; exact a0
    · simp [u2_at]; exact hzz
    · simp [u2_at]; exact a5
    · simp [u2_at]; exact a6
  obtain ⟨V3, e, b0, b5, b6, b7, b1, b3, b4, b11, b10, br⟩ := rollBack_ok hz hs2
  unfold f_X11_settle f_X9_countRefusal
  rw [e1]
  simp only [Option.bind_some]
  rw [if_neg (by decide), e]
  refine ⟨V3, rfl, b0, b5, b6, ?_, ?_, ?_, ?_, ?_, ?_, ?_⟩
  · rw [b7]; simp [u2_at]
  · rw [b1]; simp [u2_at]
  · rw [b3]; simp [u2_at]
  · rw [b4]; simp [u2_at]
  · rw [b11]; simp [u2_at]
  · rw [b10, u2_ne (by omega)]
  · rw [br, u2_ne (by omega)]
theorem settle_yes {V : VT} (r : Int32) (h : V 11 5 = 0) : f_X11_settle r V = some (r, V) := by
  unfold f_X11_settle f_X9_isRefusal
  rw [h, if_pos rfl]
  rfl
theorem keep_no {O : AT} {B : VT} {z : Nat} {C : AT} {f s : Int32} {V : VT} (r : Int32) (hz : z < 1874) (h : St O B z C f s V) (hf : f ≠ 0) : ∃ V3, f_X11_keep r V = some (-1000000000, V3, none) ∧ Rf O f s V V3 := by
  have h5 : V 11 5 = f := h.2.2.2.2.1
  have e1 : f_X9_isRefusal V = some 1 := by unfold f_X9_isRefusal; rw [h5, if_neg hf]
  obtain ⟨V3, e, hR⟩ := settle_no r hz h hf
  unfold f_X11_keep
  rw [e1]
  simp only [Option.bind_some]
  rw [if_neg (by decide), e]
  exact ⟨V3, rfl, hR⟩
/-- behind an act that was done -/
def Kp (C : AT) (s : Int32) (old cnt : Nat) (V V3 : VT) : Prop := V3 0 = C ∧ V3 11 5 = 0 ∧ V3 11 6 = s ∧ V3 11 7 = V 11 7 ∧ V3 11 1 = V 11 1 ∧ V3 11 3 = Int32.ofNat (if cnt < 60 then old else (old + 1) % 60) ∧ V3 11 4 = Int32.ofNat (if cnt < 60 then cnt + 1 else cnt) ∧ V3 11 11 = V 11 11 ∧ V3 10 = V 10 ∧ V3 1 = V 1
theorem keep_yes {O : AT} {B : VT} {z : Nat} {C : AT} {s : Int32} {V : VT} {old cnt : Nat} (r : Int32) (hz : z < 1874) (h : St O B z C 0 s V) (ho : old < 60) (hc : cnt ≤ 60) (h3 : V 11 3 = Int32.ofNat old) (h4 : V 11 4 = Int32.ofNat cnt) : ∃ (V3 : VT) (m : Nat) (f g : AT), f_X11_keep r V = some (r, V3, some ((old + cnt) % 60, m, f, g)) ∧ RS m f g C O ∧ Kp C s old cnt V V3 := by
  obtain ⟨m, hn, hrs⟩ := st_rs hz h
  obtain ⟨-, a0, hzz, a10, a5, a6, a1, a3, a4, a7, a11⟩ := h
  have e1 : f_X9_isRefusal V = some 0 := by unfold f_X9_isRefusal; rw [a5, if_pos rfl]
  have es : ckA 60 ((V 11 3 + V 11 4) - (V 11 3 + V 11 4) / 60 * 60) = some ((old + cnt) % 60) := by
    rw [h3, h4, ← Int32.ofNat_add]
    rw [show Int32.ofNat (old + cnt) - Int32.ofNat (old + cnt) / 60 * 60 = Int32.ofNat ((old + cnt) % 60) from nat_rem (d := 60) (by omega) (by omega)]
    exact ck_nat (Nat.mod_lt _ (by omega)) (by omega)
  have em : ckA 1874 (V 11 2) = some m := by rw [hn]; exact ck_nat hrs.1 (by omega)
  unfold f_X11_keep f_X4_keepAct
  rw [e1]
  simp only [Option.bind_some, if_true]
  rw [es, em]
  simp only [Option.bind_some]
  by_cases hlt : cnt < 60
  · have n1 : ¬ (60 : Int32) ≤ V 11 4 := fun q => by rw [h4] at q; have := (nat_le (a := 60) (by omega) (by omega)).mp q; omega
    rw [if_neg n1]
    simp only [Option.bind_some]
    rw [settle_yes r (by simp [u2_at]; exact a5)]
    refine ⟨_, m, _, _, rfl, hrs.cpy, ?_, ?_, ?_, ?_, ?_, ?_, ?_, ?_, ?_, ?_⟩
    · show u2 V 11 4 (V 11 4 + 1) 0 = C
      rw [u2_ne (by omega)]; exact a0
    · simp [u2_at]; exact a5
    · simp [u2_at]; exact a6
    · simp [u2_at]
    · simp [u2_at]
    · simp [u2_at, hlt]; exact h3
    · simp only [u2_at]
      simp only [hlt, if_true]
      simp
      rw [h4]
    · simp [u2_at]
    · show u2 V 11 4 (V 11 4 + 1) 10 = V 10
      rw [u2_ne (by omega)]
    · show u2 V 11 4 (V 11 4 + 1) 1 = V 1
      rw [u2_ne (by omega)]
  · have hcc : cnt = 60 := by omega
    subst hcc
    rw [if_pos (by rw [h4]; exact (nat_le (a := 60) (by omega) (by omega)).mpr (Nat.le_refl _))]
    simp only [Option.bind_some]
    rw [settle_yes r (by simp [u2_at]; exact a5)]
    have e3 : (V 11 3 + 1) - (V 11 3 + 1) / 60 * 60 = Int32.ofNat ((old + 1) % 60) := by
      rw [h3, nat_succ]
      exact nat_rem (d := 60) (by omega) (by omega)
    rw [e3]
    refine ⟨_, m, _, _, rfl, hrs.cpy, ?_, ?_, ?_, ?_, ?_, ?_, ?_, ?_, ?_, ?_⟩
    · show u2 V 11 3 (Int32.ofNat ((old + 1) % 60)) 0 = C
      rw [u2_ne (by omega)]; exact a0
    · simp [u2_at]; exact a5
    · simp [u2_at]; exact a6
    · simp [u2_at]
    · simp [u2_at]
    · simp [u2_at]
    · simp [u2_at]; exact h4
    · simp [u2_at]
    · show u2 V 11 3 (Int32.ofNat ((old + 1) % 60)) 10 = V 10
      rw [u2_ne (by omega)]
    · show u2 V 11 3 (Int32.ofNat ((old + 1) % 60)) 1 = V 1
      rw [u2_ne (by omega)]
