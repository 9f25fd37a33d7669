/-! go: a group's way in a tick -/
def PQ (O : AT) (B : VT) (S0 : AT) (M1 : VT) (s : Nat) (t : Int32) (V M : VT) : Prop := St O B 1360 (V 0) 0 0 V ∧ Ms S0 M1 (M 0) 0 0 M ∧ GG 1000 (V 0) (M 0) ∧ RW (M 0) V ∧ UN S0 (M 0) ∧ (∃ m, m ≤ s ∧ M 0 1643 = Int32.ofNat m) ∧ M 0 1644 = S0 1644 ∧ M 0 1645 = t
theorem pq_sc {O : AT} {B : VT} {S0 : AT} {M1 : VT} {s : Nat} {t : Int32} {V V2 M : VT} (h : PQ O B S0 M1 s t V M) (hs : SC V V2) : PQ O B S0 M1 s t V2 M := by
  have e0 := hs.1 0 (by omega)
  obtain ⟨h1, h2, h3, h4, h5⟩ := h
  refine ⟨?_, h2, ?_, rw_sc h4 hs, h5⟩
  · rw [e0]; exact sc_st h1 hs
  · rw [e0]; exact h3
theorem pq_mono {O : AT} {B : VT} {S0 : AT} {M1 : VT} {s s2 : Nat} {t : Int32} {V M : VT} (h : PQ O B S0 M1 s t V M) (hs : s ≤ s2) : PQ O B S0 M1 s2 t V M := by
  obtain ⟨h1, h2, h3, h4, h5, ⟨m, hm, e⟩, h7⟩ := h
  exact ⟨h1, h2, h3, h4, h5, ⟨m, by omega, e⟩, h7⟩
theorem rw_fr {S : AT} {V V2 : VT} (h : RW S V) (hf : Fr V V2) : RW S V2 := fun b hb => by
  rw [hf.1 6 (by omega) (by omega), hf.1 7 (by omega) (by omega), hf.1 8 (by omega) (by omega)]; exact h b hb
theorem pq_next {O : AT} {B : VT} {S0 : AT} {M1 : VT} {s s2 : Nat} {t : Int32} {V V2 M : VT} {C2 S2 : AT} (h : PQ O B S0 M1 s t V M) (hst : St O B 1360 C2 0 0 V2) (hf : Fr V V2) (hg : GG 1000 C2 S2) (hu : UN (M 0) S2) (hR : ∀ k, 1646 ≤ k → S2 k = M 0 k) (h3 : ∃ m, m ≤ s2 ∧ S2 1643 = Int32.ofNat m) (h4 : S2 1644 = M 0 1644) (h5 : S2 1645 = M 0 1645) : PQ O B S0 M1 s2 t V2 (setRow M 0 S2) := by
  obtain ⟨p1, p2, p3, p4, p5, p6, p7, p8⟩ := h
  have e0 : V2 0 = C2 := hst.2.1
  refine ⟨?_, ?_, ?_, ?_, ?_, ?_, ?_, ?_⟩
  · rw [e0]; exact hst
  · rw [setRow_eq]; exact ms_row S2 p2 hR
  · rw [setRow_eq, e0]; exact hg
  · rw [setRow_eq]; exact rw_fr (rw_un p3 hu p4) hf
  · rw [setRow_eq]; exact p5.tr hu
  · rw [setRow_eq]; exact h3
  · rw [setRow_eq, h4]; exact p7
  · rw [setRow_eq, h5]; exact p8
def LQ (hi : Nat) (S S2 : AT) : Prop := ∀ c b, c < 60 → hi < b → b < 12 → S (1132 + 5 * c) = Int32.ofNat b → S2 (1132 + 5 * c + 4) = S (1132 + 5 * c + 4)
theorem LQ.rf {hi : Nat} {S : AT} : LQ hi S S := fun _ _ _ _ _ _ => rfl
theorem un_q {S S2 : AT} {c i : Nat} (h : UN S S2) (hc : c < 60) (hi : i < 4) : S2 (1132 + 5 * c + i) = S (1132 + 5 * c + i) := h _ (fun _ _ => by omega) (fun _ _ => by omega) (by omega)
theorem un_q0 {S S2 : AT} {c : Nat} (h : UN S S2) (hc : c < 60) : S2 (1132 + 5 * c) = S (1132 + 5 * c) := un_q (i := 0) h hc (by omega)
theorem LQ.tr {hi : Nat} {S S2 S3 : AT} (h : LQ hi S S2) (hu : UN S S2) (h2 : LQ hi S2 S3) : LQ hi S S3 := fun c b hc x y e => (h2 c b hc x y (by rw [un_q0 hu hc]; exact e)).trans (h c b hc x y e)
theorem un_nt {S : AT} {m : Nat} {w x y z : Int32} : UN S (ntS S m w x y z) := fun j _ _ h => ntS_oth (by omega) (by omega)
theorem lp_endX {S Y : Type} {f : S → Option (S ⊕ Y)} {X : Option Y} {n : Nat} {x : S} (h : f x = X.bind fun y => some (.inr y)) : lp f (n + 1) x = X :=
  lp_run (f := f) (X := X) (fun _ => x) 0 0 (n + 1) (fun i _ hi => by omega) h (by omega)
theorem unit_loop {O : AT} {B : VT} {S0 : AT} {M1 : VT} {s : Nat} {t : Int32} {lo hi U : Nat} {d v4 v6 nx : Int32} (hlo : lo ≤ hi) (hh : hi < 12) (hs : s < 1200000) (hc : (if 0 ≤ v4 then v4 else 0 - v4) = Int32.ofNat U) (hv : v6 * d = Int32.ofNat U) (hU : U ≤ 5) : ∀ (k i : Nat) (V M : VT) (acc : Int32) (f g : Nat), i + k = U → k < f → k + 1 < g → PQ O B S0 M1 s t V M → (∀ b, lo ≤ b → b ≤ hi → M 0 (21 * b) = 1) → ∃ (u : Nat) (V2 M2 : VT), u ≤ k ∧ lp (f_X0_moveGroup_B91 (Int32.ofNat lo) (Int32.ofNat hi) v4 d) f (Int32.ofNat i, V) = some (Int32.ofNat (i + u), V2) ∧ lp (f_X12_tick_B104 nx (Int32.ofNat lo) (Int32.ofNat hi) v6 d) g (acc, 0, Int32.ofNat i, M) = some (.inl (acc + Int32.ofNat u, nx, M2)) ∧ PQ O B S0 M1 (s + 1) t V2 M2 ∧ LQ hi (M 0) (M2 0) ∧ UN (M 0) (M2 0) ∧ V2 9 = V 9 := by
  intro k
  induction k with
  | zero =>
    intro i V M acc f g hi2 hf hg hP _
    have ei : i = U := by omega
    subst ei
    obtain ⟨F, rfl⟩ : ∃ F, f = F + 1 := ⟨f - 1, by omega⟩
    obtain ⟨H, rfl⟩ : ∃ H, g = H + 1 := ⟨g - 1, by omega⟩
    refine ⟨0, V, M, Nat.le_refl _, lp_last ?_, lp_last ?_, pq_mono hP (by omega), LQ.rf, UN.rf, rfl⟩
    · unfold f_X0_moveGroup_B91
      rw [hc, if_pos (Int32.le_refl _), bsm]
      rfl
    · unfold f_X12_tick_B104
      rw [hv, if_pos (Int32.le_refl _), m_noEnd, bsm, show acc + Int32.ofNat 0 = acc from Int32.add_zero _]
  | succ k ih =>
    intro i V M acc f g hi2 hf hg hP hrig
    obtain ⟨F, rfl⟩ : ∃ F, f = F + 1 := ⟨f - 1, by omega⟩
    obtain ⟨H, rfl⟩ : ∃ H, g = H + 1 + 1 := ⟨g - 2, by omega⟩
    have n1 : ¬ Int32.ofNat U ≤ Int32.ofNat i := fun q => by have := (nat_le (by omega) (by omega)).mp q; omega
    obtain ⟨m, hm, hN⟩ := hP.2.2.2.2.2.1
    obtain ⟨w, W, hsc, hK, hc2⟩ := unit_both (d := d) hP.2.2.1 hP.2.2.2.1 hlo hh (by omega) hN
    have eB : f_X0_moveGroup_B91 (Int32.ofNat lo) (Int32.ofNat hi) v4 d (Int32.ofNat i, V) = f_X0_moveGroup_j130 (Int32.ofNat lo) (Int32.ofNat hi) v4 d (Int32.ofNat i) w W := by
      unfold f_X0_moveGroup_B91
      rw [hc, if_neg n1]
      exact hK _ (fun a X => f_X0_moveGroup_j130 (Int32.ofNat lo) (Int32.ofNat hi) v4 d (Int32.ofNat i) a X)
    have pW := pq_sc hP hsc
    have w9 : W 9 = V 9 := hsc.1 9 (by omega)
    rcases hc2 with ⟨rfl, hp1, es⟩ | ⟨hw, es⟩
    · obtain ⟨V3, em, sm, fm⟩ := c_move v4 d (Int32.ofNat i) hlo hh pW.1
      have hmm := m_move (M := M) acc nx v6 d 0 (Int32.ofNat i) hlo hh
      have gm := gg_mvs (d := d) (lo := lo) pW.2.2.1 (hi + 1 - lo) (by omega) (fun b x y => ⟨hrig b x (by omega), hp1 b x (by omega)⟩)
      have um : UN (M 0) (mvs (M 0) d lo (hi + 1 - lo)) := un_mvs (by omega)
      have oth : ∀ j, 300 ≤ j → mvs (M 0) d lo (hi + 1 - lo) j = M 0 j := fun j hj => mvs_oth _ (fun b hb => by omega)
      have p3 := pq_next (s2 := s) pW sm fm gm um (fun j hj => oth j (by omega)) ⟨m, hm, by rw [oth _ (by omega)]; exact hN⟩ (oth _ (by omega)) (oth _ (by omega))
      have lq : LQ hi (M 0) (mvs (M 0) d lo (hi + 1 - lo)) := fun c b hc x y e => oth _ (by omega)
      obtain ⟨u, V4, M4, hu, e1, e2, e3, e4, e5, e6⟩ := ih (i + 1) V3 _ (acc + 1) F (H + 1) (by omega) (by omega) (by omega) p3 (fun b x y => by rw [setRow_eq, mvs_oth _ (fun c hc => by omega)]; exact hrig b x y)
      rw [setRow_eq] at e4 e5
      refine ⟨u + 1, V4, M4, by omega, ?_, ?_, e3, lq.tr um e4, um.tr e5, ?_⟩
      · have e7 : f_X0_moveGroup_B91 (Int32.ofNat lo) (Int32.ofNat hi) v4 d (Int32.ofNat i, V) = some (.inl (Int32.ofNat (i + 1), V3)) := by
          rw [eB]
          unfold f_X0_moveGroup_j130
          rw [if_pos rfl, em, nat_succ]
        rw [lp_step e7, e1, show i + 1 + u = i + (u + 1) by omega]
      · have e7 : f_X12_tick_B104 nx (Int32.ofNat lo) (Int32.ofNat hi) v6 d (acc, 0, Int32.ofNat i, M) = some (.inl (acc + 1, 0, Int32.ofNat (i + 1), setRow M 0 (mvs (M 0) d lo (hi + 1 - lo)))) := by
          unfold f_X12_tick_B104
          rw [hv, if_neg n1, if_pos rfl, es, bsm, if_pos rfl, ← nat_succ]
          exact hmm
        rw [lp_step e7, e2, Int32.add_assoc, Int32.add_comm 1, nat_succ]
      · rw [e6, fm.1 9 (by omega) (by omega), w9]
    · obtain ⟨V3, en, sn, fn⟩ := c_note w pW.1 pW.2.2.1 (by omega) hN
      have gn := gg_note2 (w := w) (x := W 11 8) (y := W 11 9) (z := W 11 10) pW.2.2.1 (by omega) hN
      have s43 : ntS (M 0) m w (W 11 8) (W 11 9) (W 11 10) 1643 = Int32.ofNat (m + 1) := by unfold ntS; rw [upd_same]
      have p2 := pq_next (s2 := s + 1) pW sn fn gn un_nt (fun j hj => ntS_oth (by omega) (by omega)) ⟨m + 1, by omega, s43⟩ (ntS_oth (by omega) (by omega)) (ntS_oth (by omega) (by omega))
      generalize hM' : setRow M 0 (ntS (M 0) m w (W 11 8) (W 11 9) (W 11 10)) = M' at *
      have m0 : M' 0 = ntS (M 0) m w (W 11 8) (W 11 9) (W 11 10) := by rw [← hM', setRow_eq]
      have u1 : UN (M 0) (M' 0) := by rw [m0]; exact un_nt
      have l1 : LQ hi (M 0) (M' 0) := fun c b hc x y e => by rw [m0]; exact ntS_oth (by omega) (by omega)
      obtain ⟨mc, -, hmc, hNc⟩ := p2.2.2.1.2.wn2
      obtain ⟨V4, ee, se, fe⟩ := c_end (lo := lo) (hi := hi) p2.1 p2.2.2.1 hmc hNc
      have hme := m_end (M := M') (lo := lo) (hi := hi) acc nx hmc hNc
      have oth : ∀ j, 1440 ≤ j → hus (enp lo hi) (M' 0) mc j = M' 0 j := fun j hj => hus_oth (fun c hc => by omega) mc hmc
      have u2 : UN (M' 0) (hus (enp lo hi) (M' 0) mc) := fun j _ h2 _ => hus_oth h2 mc hmc
      have l2 : LQ hi (M' 0) (hus (enp lo hi) (M' 0) mc) := fun c b hc x y e => hus_bar x y hc e mc hmc
      obtain ⟨m3, hm3, hN3⟩ := p2.2.2.2.2.2.1
      have p3 := pq_next (s2 := s + 1) p2 se fe (hu_gg p2.2.2.1 mc hmc) u2 (fun j hj => oth j (by omega)) ⟨m3, hm3, by rw [oth _ (by omega)]; exact hN3⟩ (oth _ (by omega)) (oth _ (by omega))
      refine ⟨0, V4, setRow M' 0 (hus (enp lo hi) (M' 0) mc), Nat.zero_le _, ?_, ?_, p3, ?_, ?_, ?_⟩
      · refine lp_last ?_
        rw [eB]
        unfold f_X0_moveGroup_j130
        rw [if_neg hw, en, bsm, ee, bsm, bsm]
        rfl
      · have e7 : f_X12_tick_B104 nx (Int32.ofNat lo) (Int32.ofNat hi) v6 d (acc, 0, Int32.ofNat i, M) = some (.inl (acc, 1, Int32.ofNat (i + 1), M')) := by
          unfold f_X12_tick_B104
          rw [hv, if_neg n1, if_pos rfl, es, bsm, if_neg (show ¬ (1 : Int32) = 0 by decide)]
          unfold f_X12_tick_j174
          rw [bsm, nat_succ]
        rw [lp_step e7, show acc + Int32.ofNat 0 = acc from Int32.add_zero _]
        refine lp_last ?_
        unfold f_X12_tick_B104
        rw [hv]
        by_cases q : Int32.ofNat U ≤ Int32.ofNat (i + 1)
        · rw [if_pos q, hme, bsm]
        · rw [if_neg q, if_neg (show ¬ (1 : Int32) = 0 by decide), hme, bsm]
      · rw [setRow_eq]; exact l1.tr u1 l2
      · rw [setRow_eq]; exact u1.tr u2
      · rw [fe.1 9 (by omega) (by omega), fn.1 9 (by omega) (by omega), w9]
