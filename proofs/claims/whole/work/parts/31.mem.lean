/-! the component's memory: acts are begun, kept, rolled back, taken back -/
abbrev AT : Type := Nat → Int32
theorem write_oth {O : AT} {V V2 : VT} {c : Nat} {x : Int32} (hc : c < 1874) (h : f_X4_write (Int32.ofNat c) x V = some V2) (hM : MIv O V) : ∀ q, q ≠ c → V2 1 q = V 1 q := by
  obtain ⟨m, pos, hm, hn, hp, hinj, hch, hO, hle⟩ := hM
  have hck : ckA 1874 (Int32.ofNat c) = some c := ck_nat hc (by omega)
  intro q hq
  unfold f_X4_write f_X4_write_j94 at h
  rw [if_neg (nat_nneg (by omega)), if_neg (fun q => by have := (nat_le (a := 1874) (by omega) (by omega)).mp q; omega), hck] at h
  simp only [Option.bind_some] at h
  split at h
  · cases h; rfl
  · split at h
    · cases h; rw [u2_ne (by omega)]
    · split at h
      · cases h; rw [u2_ne (by omega)]
      · have e1 : u2 V 1 c (V 11 1) 11 2 = V 11 2 := by rw [u2_ne (by omega)]
        have e2 : ∀ k : Nat, u2 (u2 V 1 c (V 11 1)) 2 k (Int32.ofNat c) 11 2 = V 11 2 := fun k => by rw [u2_ne (by omega), u2_ne (by omega)]
        rw [e1] at h
        obtain ⟨k5, h5, h⟩ := op_bind h
        simp only [e2] at h
        obtain ⟨k7, h7, h⟩ := op_bind h
        cases h
        simp [u2_at, hq]
/-- an act is going on: the values were O, are C; finding f, subject s; the cell z wasn't written; the rest is B's -/
def St (O : AT) (B : VT) (z : Nat) (C : AT) (f s : Int32) (V : VT) : Prop := MIv O V ∧ V 0 = C ∧ V 1 z ≠ V 11 1 ∧ V 10 = B 10 ∧ V 11 5 = f ∧ V 11 6 = s ∧ V 11 1 = B 11 1 ∧ V 11 3 = B 11 3 ∧ V 11 4 = B 11 4 ∧ V 11 7 = B 11 7 ∧ V 11 11 = B 11 11
theorem st_write {O : AT} {B : VT} {z : Nat} {C : AT} {f s : Int32} {V : VT} {c : Nat} (x : Int32) (h : St O B z C f s V) (hc : c < 1874) (hz : c ≠ z) : ∃ V2, f_X4_write (Int32.ofNat c) x V = some V2 ∧ St O B z (upd C c x) f s V2 ∧ Fr V V2 := by
  obtain ⟨hM, h0, hzz, h10, h5, h6, h1, h3, h4, h7, h11⟩ := h
  obtain ⟨V2, e, hM2, e0, hF⟩ := write_ok x hM hc
  refine ⟨V2, e, ⟨hM2, by rw [e0, h0], ?_, by rw [hF.1 10 (by omega) (by omega)]; exact h10, ?_, ?_, ?_, ?_, ?_, ?_, ?_⟩, hF⟩
  · rw [write_oth hc e hM z (fun q => hz q.symm), hF.2 1 (by omega)]; exact hzz
  · rw [hF.2 5 (by omega)]; exact h5
  · rw [hF.2 6 (by omega)]; exact h6
  · rw [hF.2 1 (by omega)]; exact h1
  · rw [hF.2 3 (by omega)]; exact h3
  · rw [hF.2 4 (by omega)]; exact h4
  · rw [hF.2 7 (by omega)]; exact h7
  · rw [hF.2 11 (by omega)]; exact h11
/-- rows and scalars that no law speaks of may change -/
theorem st_scr {O : AT} {B : VT} {z : Nat} {C : AT} {f s : Int32} {V V2 : VT} (h : St O B z C f s V) (h0 : ∀ k, k < 4 → V2 k = V k) (h10 : V2 10 = V 10) (h11 : ∀ i, i < 8 ∨ i = 11 → V2 11 i = V 11 i) : St O B z C f s V2 := by
  obtain ⟨⟨m, pos, hm, hn, hp, hinj, hch, hO, hle⟩, a0, hzz, a10, a5, a6, a1, a3, a4, a7, a11⟩ := h
  have e0 := h0 0 (by omega)
  have e1 := h0 1 (by omega)
  have e2 := h0 2 (by omega)
  have e3 := h0 3 (by omega)
  refine ⟨⟨m, pos, hm, ?_, ?_, hinj, ?_, ?_, ?_⟩, by rw [e0]; exact a0, ?_, by rw [h10]; exact a10, ?_, ?_, ?_, ?_, ?_, ?_, ?_⟩
  · rw [h11 2 (by omega)]; exact hn
  · rw [e2, e3]; exact hp
  · rw [e1, h11 1 (by omega)]; exact hch
  · rw [e0]; exact hO
  · rw [e1, h11 1 (by omega)]; exact hle
  · rw [e1, h11 1 (by omega)]; exact hzz
  · rw [h11 5 (by omega)]; exact a5
  · rw [h11 6 (by omega)]; exact a6
  · rw [h11 1 (by omega)]; exact a1
  · rw [h11 3 (by omega)]; exact a3
  · rw [h11 4 (by omega)]; exact a4
  · rw [h11 7 (by omega)]; exact a7
  · rw [h11 11 (by omega)]; exact a11
theorem st_refuse {O : AT} {B : VT} {z : Nat} {C : AT} {f s : Int32} {V : VT} (a b : Int32) (h : St O B z C f s V) : ∃ V2, f_X9_refuseOver a b V = some (-1000000000, V2) ∧ St O B z C a b V2 := by
  obtain ⟨⟨m, pos, hm, hn, hp, hinj, hch, hO, hle⟩, a0, hzz, a10, a5, a6, a1, a3, a4, a7, a11⟩ := h
  refine ⟨_, rfl, ⟨m, pos, hm, ?_, ?_, hinj, ?_, ?_, ?_⟩, ?_, ?_, ?_, ?_, ?_, ?_, ?_, ?_, ?_, ?_⟩
  · simp [u2_at]; exact hn
  · intro j hj
    have := hp j hj
    simp [u2_at, this]
  · intro c hc
    have := hch c hc
    simp [u2_at, this]
  · intro c hc
    have := hO c hc
    simp [u2_at, this]
  · intro c hc
    have := hle c hc
    simp [u2_at, this]
  · rw [u2_ne (by omega), u2_ne (by omega)]; exact a0
  · simp [u2_at]; exact hzz
  · rw [u2_ne (by omega), u2_ne (by omega)]; exact a10
  · simp [u2_at]
  · simp [u2_at]
  · simp [u2_at]; exact a1
  · simp [u2_at]; exact a3
  · simp [u2_at]; exact a4
  · simp [u2_at]; exact a7
  · simp [u2_at]; exact a11
theorem st_ref {O : AT} {B : VT} {z : Nat} {C : AT} {f s : Int32} {V : VT} (a : Int32) (h : St O B z C f s V) : ∃ V2, f_X9_refuse a V = some (-1000000000, V2) ∧ St O B z C a 0 V2 := by
  obtain ⟨V2, e, h2⟩ := st_refuse a 0 h
  exact ⟨V2, by unfold f_X9_refuse; rw [e]; rfl, h2⟩
/-- what notes say: the rows f, g bring C back to O -/
def RS (m : Nat) (f g : AT) (C O : AT) : Prop := m < 1874 ∧ ∃ pos : Nat → Nat, (∀ j, j < m → pos j < 1874 ∧ f j = Int32.ofNat (pos j) ∧ g j = O (pos j)) ∧ ∀ c, (¬ ∃ j, j < m ∧ pos j = c) → C c = O c
def rst (pos : Nat → Nat) (g C : AT) : Nat → AT
  | 0 => C
  | j + 1 => upd (rst pos g C j) (pos j) (g j)
theorem rst_in {m : Nat} {pos : Nat → Nat} {g C O : AT} (hg : ∀ j, j < m → g j = O (pos j)) : ∀ j, j ≤ m → ∀ c, ((∃ i, i < j ∧ pos i = c) → rst pos g C j c = O c) ∧ ((¬ ∃ i, i < j ∧ pos i = c) → rst pos g C j c = C c) := by
  intro j
  induction j with
  | zero =>
    intro _ c
    exact ⟨fun ⟨i, hi, _⟩ => by omega, fun _ => rfl⟩
  | succ j ih =>
    intro hj c
    have ih := ih (by omega) c
    by_cases hc : pos j = c
    · refine ⟨fun _ => ?_, fun hn => absurd ⟨j, by omega, hc⟩ hn⟩
      show upd (rst pos g C j) (pos j) (g j) c = O c
      rw [upd_at, if_pos hc.symm, hg j (by omega), hc]
    · have e : rst pos g C (j + 1) c = rst pos g C j c := by
        show upd (rst pos g C j) (pos j) (g j) c = _
        rw [upd_at, if_neg (fun q => hc q.symm)]
      rw [e]
      refine ⟨fun ⟨i, hi, hp⟩ => ih.1 ⟨i, ?_, hp⟩, fun hn => ih.2 (fun ⟨i, hi, hp⟩ => hn ⟨i, by omega, hp⟩)⟩
      by_cases hij : i = j
      · subst hij; exact absurd hp hc
      · omega
theorem rst_all {m : Nat} {pos : Nat → Nat} {g C O : AT} (hg : ∀ j, j < m → g j = O (pos j)) (hO : ∀ c, (¬ ∃ j, j < m ∧ pos j = c) → C c = O c) : rst pos g C m = O := by
  funext c
  by_cases h : ∃ i, i < m ∧ pos i = c
  · exact (rst_in hg m (Nat.le_refl m) c).1 h
  · rw [(rst_in hg m (Nat.le_refl m) c).2 h, hO c h]
theorem nat_succ {j : Nat} : Int32.ofNat j + 1 = Int32.ofNat (j + 1) := (Int32.ofNat_add j 1).symm
def setRow (V : VT) (k : Nat) (f : AT) : VT := fun b => if b = k then f else V b
theorem setRow_u2 {V : VT} {k i : Nat} {f : AT} {x : Int32} : u2 (setRow V k f) k i x = setRow V k (upd f i x) := by
  funext b
  unfold u2 setRow
  by_cases h : b = k
  · subst h; simp
  · simp [h]
theorem setRow_eq {V : VT} {k : Nat} {f : AT} : setRow V k f k = f := by unfold setRow; rw [if_pos rfl]
theorem setRow_ne {V : VT} {k b : Nat} {f : AT} (h : b ≠ k) : setRow V k f b = V b := by unfold setRow; rw [if_neg h]
theorem setRow_id {V : VT} {k : Nat} : setRow V k (V k) = V := by
  funext b; unfold setRow; split
  · next h => rw [h]
  · rfl
theorem fuel_big {k : Nat} (h : k < 1000000) : k < fuel := h
theorem restore_d_ok {m : Nat} {f g C O : AT} {V : VT} (h : RS m f g C O) (h0 : V 0 = C) : f_X4_restore_d m f g (Int32.ofNat m) V = some (setRow V 0 O) := by
  obtain ⟨hm, pos, hp, hO⟩ := h
  unfold f_X4_restore_d
  simp only [Option.bind_some]
  have key := lp_iter (f := f_X4_restore_d_B3 m f g (Int32.ofNat m)) (y := setRow V 0 O) (fun j => (Int32.ofNat j, setRow V 0 (rst pos g C j))) m 0 fuel (fun j _ hj => ?_) ?_ (fuel_big (by omega))
  · have e : setRow V 0 (rst pos g C 0) = V := by
      show setRow V 0 C = V
      rw [← h0, setRow_id]
    rw [e] at key
    exact key
  · have hj : j < m := by omega
    obtain ⟨p1, p2, p3⟩ := hp j hj
    unfold f_X4_restore_d_B3 f_X4_restore_d_j55
    have n1 : ¬ Int32.ofNat m ≤ Int32.ofNat j := fun q => by have := (nat_le (by omega) (by omega)).mp q; omega
    simp only [n1, if_false]
    rw [ck_nat hj (by omega)]
    simp only [Option.bind_some]
    rw [p2, if_neg (nat_nneg (by omega)), if_neg (fun q => by have := (nat_le (a := 1874) (by omega) (by omega)).mp q; omega), ck_nat p1 (by omega)]
    simp only [Option.bind_some]
    rw [setRow_u2, nat_succ]
    rfl
  · unfold f_X4_restore_d_B3
    rw [Nat.zero_add, if_pos ((nat_le (by omega) (by omega)).mpr (Nat.le_refl m))]
    rw [rst_all (fun j hj => (hp j hj).2.2) hO]
    rfl
theorem restore_n_ok {m : Nat} {f g C O : AT} {V : VT} (h : RS m f g C O) (h0 : V 0 = C) (h2 : ∀ j, j < m → V 2 j = f j) (h3 : ∀ j, j < m → V 3 j = g j) : f_X4_restore_n (Int32.ofNat m) V = some (setRow V 0 O) := by
  obtain ⟨hm, pos, hp, hO⟩ := h
  unfold f_X4_restore_n
  simp only [Option.bind_some]
  have key := lp_iter (f := f_X4_restore_n_B3 (Int32.ofNat m)) (y := setRow V 0 O) (fun j => (Int32.ofNat j, setRow V 0 (rst pos g C j))) m 0 fuel (fun j _ hj => ?_) ?_ (fuel_big (by omega))
  · have e : setRow V 0 (rst pos g C 0) = V := by
      show setRow V 0 C = V
      rw [← h0, setRow_id]
    rw [e] at key
    exact key
  · have hj : j < m := by omega
    obtain ⟨p1, p2, p3⟩ := hp j hj
    unfold f_X4_restore_n_B3 f_X4_restore_n_j55
    have n1 : ¬ Int32.ofNat m ≤ Int32.ofNat j := fun q => by have := (nat_le (by omega) (by omega)).mp q; omega
    have n2 : ¬ (1874 : Int32) ≤ Int32.ofNat j := fun q => by have := (nat_le (a := 1874) (by omega) (by omega)).mp q; omega
    simp only [n1, n2, if_false]
    rw [ck_nat (N := 1874) (by omega) (by omega)]
    simp only [Option.bind_some]
    rw [setRow_ne (by omega), setRow_ne (by omega), h2 j hj, h3 j hj]
    rw [p2, if_neg (nat_nneg (by omega)), if_neg (fun q => by have := (nat_le (a := 1874) (by omega) (by omega)).mp q; omega), ck_nat p1 (by omega)]
    simp only [Option.bind_some]
    rw [setRow_u2, nat_succ]
    rfl
  · unfold f_X4_restore_n_B3
    rw [Nat.zero_add, if_pos ((nat_le (by omega) (by omega)).mpr (Nat.le_refl m))]
    rw [rst_all (fun j hj => (hp j hj).2.2) hO]
    rfl
/-- the notes of an act that goes on -/
theorem st_rs {O : AT} {B : VT} {z : Nat} {C : AT} {f s : Int32} {V : VT} (hz : z < 1874) (h : St O B z C f s V) : ∃ m : Nat, V 11 2 = Int32.ofNat m ∧ RS m (V 2) (V 3) C O := by
  obtain ⟨⟨m, pos, hm, hn, hp, hinj, hch, hO, hle⟩, a0, hzz, -⟩ := h
  have hnot : ¬ ∃ j, j < m ∧ pos j = z := fun q => hzz ((hch z hz).mpr q)
  have hm2 : m + 1 ≤ 1874 := by
    refine pigeon 1874 (m + 1) (fun j => if j = m then z else pos j) (fun j hj => ?_) (fun i j hi hj he => ?_)
    · show (if j = m then z else pos j) < 1874
      split
      · exact hz
      · exact (hp j (by omega)).1
    · have he : (if i = m then z else pos i) = (if j = m then z else pos j) := he
      split at he
      · next a =>
        split at he
        · next b => rw [a, b]
        · next b => exact absurd ⟨j, by omega, he.symm⟩ hnot
      · next a =>
        split at he
        · next b => exact absurd ⟨i, by omega, he⟩ hnot
        · exact hinj i j (by omega) (by omega) he
  exact ⟨m, hn, by omega, pos, hp, fun c hc => by rw [← a0]; exact hO c hc⟩
theorem RS.cpy {m : Nat} {f g C O : AT} (h : RS m f g C O) : RS m (va_cpy f (fun _ => 0) 0 0 m) (va_cpy g (fun _ => 0) 0 0 m) C O := by
  obtain ⟨hm, pos, hp, hO⟩ := h
  refine ⟨hm, pos, fun j hj => ?_, hO⟩
  have e1 : va_cpy f (fun _ => 0) 0 0 m j = f j := by unfold va_cpy; simp [hj]
  have e2 : va_cpy g (fun _ => 0) 0 0 m j = g j := by unfold va_cpy; simp [hj]
  rw [e1, e2]; exact hp j hj
