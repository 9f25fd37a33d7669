/-! check: the loop, the act -/
theorem isRef0 {V : VT} (h : V 11 5 = 0) : f_X9_isRefusal V = some 0 := by unfold f_X9_isRefusal; rw [if_pos h]
theorem isRef1 {V : VT} (h : ¬ V 11 5 = 0) : f_X9_isRefusal V = some 1 := by unfold f_X9_isRefusal; rw [if_neg h]
theorem check_loop {n steps : Nat} {O : AT} {B M : VT} (hn : n < 512) (hs : steps ≤ 40) (h11 : B 11 11 = Int32.ofNat steps) (h10 : ∀ j, j < 200 → B 10 j = M 4 j) (h71 : M 7 1 = Int32.ofNat steps) (ha : ∀ i, i < steps → ∃ a : Nat, 1 ≤ a ∧ a ≤ 5 ∧ M 4 (5 * i) = Int32.ofNat a) : ∀ (k i : Nat) (V M2 : VT) (J : JT) (f g : Nat), i + k = steps → k < f → k < g → St O B 1360 (V 0) 0 0 V → GG (n + i) (V 0) (M2 0) → AS M M2 → (∃ c : Nat, c ≤ 60 ∧ M2 7 0 = Int32.ofNat c) → M2 7 2 = 0 → M2 7 3 = 0 → ∃ (r : Int32) (V3 M3 : VT) (J3 : JT) (C2 : AT) (V2 : VT) (fd sj : Int32), lp f_X11_check_B8 f (Int32.ofNat i, Int32.ofNat i, V, J) = some (r, V3, J3) ∧ lp (f_X12_check_B69 (M 7 0) (M 7 4)) g (Int32.ofNat i, M2) = some (r, M3) ∧ St O B 1360 C2 fd sj V2 ∧ f_X4_rollBack V2 = some V3 ∧ FM M fd sj M3 := by
  intro k
  induction k with
  | zero =>
    intro i V M2 J f g hi hf hg sb hgg has hc h2 h3
    have e : i = steps := by omega
    subst e
    obtain ⟨F, rfl⟩ : ∃ F, f = F + 1 := ⟨f - 1, by omega⟩
    obtain ⟨H, rfl⟩ : ∃ H, g = H + 1 := ⟨g - 1, by omega⟩
    obtain ⟨V3, er, -⟩ := rollBack_ok (by omega) sb
    obtain ⟨M3, ee, hfm⟩ := m_ckEnd (Int32.ofNat i) has
    rw [h2, h3] at hfm
    have v11 : V 11 11 = Int32.ofNat i := by rw [sb.2.2.2.2.2.2.2.2.2.2, h11]
    have m71 : M2 7 1 = Int32.ofNat i := by rw [has.2.2.2, h71]
    refine ⟨Int32.ofNat i, V3, M3, J, _, V, 0, 0, lp_last ?_, lp_last ?_, sb, er, hfm⟩
    · unfold f_X11_check_B8 f_X8_size f_X11_check_j81
      rw [bsm]
      show (if V 11 11 ≤ Int32.ofNat i then _ else _) = _
      rw [v11, if_pos (Int32.le_refl _), er, bsm, bsm]
    · unfold f_X12_check_B69
      show (if M2 7 1 ≤ Int32.ofNat i then _ else _) = _
      rw [m71, if_pos (Int32.le_refl _), ee, bsm]
  | succ k ih =>
    intro i V M2 J f g hi hf hg sb hgg has hc h2 h3
    obtain ⟨F, rfl⟩ : ∃ F, f = F + 1 := ⟨f - 1, by omega⟩
    obtain ⟨H, rfl⟩ : ∃ H, g = H + 1 := ⟨g - 1, by omega⟩
    have v11 : V 11 11 = Int32.ofNat steps := by rw [sb.2.2.2.2.2.2.2.2.2.2, h11]
    have m71 : M2 7 1 = Int32.ofNat steps := by rw [has.2.2.2, h71]
    have n1 : ¬ Int32.ofNat steps ≤ Int32.ofNat i := fun q => by have := (nat_le (by omega) (by omega)).mp q; omega
    obtain ⟨ci, mi, hok, ep, ed⟩ := play_ok (J := J) hgg (i := i) (steps := steps) (by omega) hs v11 (fun j hj => by rw [sb.2.2.2.1, has.2.2.1]; exact h10 j hj) (by rw [has.2.2.1]; exact ha i (by omega))
    obtain ⟨M1, em, sm, b1, b3, b4, b6, b70, b71, b74⟩ := mbegin_ok M2
    obtain ⟨c, hc60, ec0⟩ := hc
    have cB : ∀ (r : Int32) (V2 : VT) (J2 : JT), ci V J = some (r, V2, J2) → f_X11_check_B8 (Int32.ofNat i, Int32.ofNat i, V, J) = ((f_X9_isRefusal V2).bind fun r8 => if r8 = 0 then ((f_X8_number (Int32.ofNat i) (4 : Int32) V2).bind fun r13 => if r = r13 then (f_X11_check_j59 (Int32.ofNat i) (Int32.ofNat i) V2 J2) else ((f_X9_refuseOver (19 : Int32) r V2).bind fun r14 => f_X11_check_j59 (Int32.ofNat i) (Int32.ofNat i) r14.2 J2)) else (f_X11_check_j59 (Int32.ofNat i) (Int32.ofNat i) V2 J2)) := by
      intro r V2 J2 e
      unfold f_X11_check_B8 f_X8_size
      rw [bsm]
      show (if V 11 11 ≤ Int32.ofNat i then _ else ((f_X11_play (Int32.ofNat i) V J).bind _)) = _
      rw [v11, if_neg n1, ep, e, bsm]
    have cM : ∀ (r : Int32) (M3 : VT), mi M2 = some (r, M3) → f_X12_check_B69 (M 7 0) (M 7 4) (Int32.ofNat i, M2) = if (M3 7 2) = 0 then ((ckA 200 (((5 : Int32) * Int32.ofNat i) + (4 : Int32))).bind fun k23 => if r = (M3 4 k23) then (f_X12_check_j118 (M 7 0) (M 7 4) (Int32.ofNat i) M3) else (f_X12_check_j118 (M 7 0) (M 7 4) (Int32.ofNat i) (u2 (u2 M3 7 2 (19 : Int32)) 7 3 r))) else (f_X12_check_j118 (M 7 0) (M 7 4) (Int32.ofNat i) M3) := by
      intro r M3 e
      unfold f_X12_check_B69
      show (if M2 7 1 ≤ Int32.ofNat i then _ else ((f_X12_done (Int32.ofNat i) M2).bind _)) = _
      rw [m71, if_neg n1, ed, e, bsm]
    have j59 : ∀ (V2 V3 : VT) (J2 : JT), ¬ V2 11 5 = 0 → f_X4_rollBack V2 = some V3 → f_X11_check_j59 (Int32.ofNat i) (Int32.ofNat i) V2 J2 = some (.inr (Int32.ofNat i, V3, J2)) := by
      intro V2 V3 J2 q e
      unfold f_X11_check_j59 f_X11_check_j81
      rw [isRef1 q, bsm, if_neg (by decide), e, bsm, bsm]
    have j118 : ∀ (Mx M3 : VT), ¬ Mx 7 2 = 0 → f_X12_check_j134 (M 7 0) (M 7 4) (Int32.ofNat i) Mx = some (Int32.ofNat i, M3) → f_X12_check_j118 (M 7 0) (M 7 4) (Int32.ofNat i) Mx = some (.inr (Int32.ofNat i, M3)) := by
      intro Mx M3 q e
      unfold f_X12_check_j118
      rw [if_neg q, e, bsm]
    rcases hok (n + i) O B V J M2 M1 (by omega) sb hgg em sm with ⟨fd, sj, r, V2, J2, C2, Mx, M3, hfd, ec, sc, e2, ⟨S2, si⟩, hm⟩ | ⟨r, V2, J2, C2, S2, Mx, ec, sc, si, e2, hg2⟩
    · obtain ⟨V3, er, -⟩ := rollBack_ok (by omega) sc
      have v5 : ¬ V2 11 5 = 0 := by rw [sc.2.2.2.2.1]; exact hfd
      have m5 : ¬ M3 7 2 = 0 := by rw [hm.2.1]; exact hfd
      have as3 : AS M M3 := by
        obtain ⟨a1, a2, a3, a4⟩ := has
        refine ⟨fun k hk => ?_, fun k hk => ?_, ?_, ?_⟩
        · rw [hm.2.2.2.2.2.2.2.1, si.2.2.2.2.2.2.1, b3]; exact a1 k hk
        · rw [hm.2.2.2.2.2.2.2.2.2, si.2.2.2.2.2.2.2.2.1, b6]; exact a2 k hk
        · rw [hm.2.2.2.2.2.2.2.2.1, si.2.2.2.2.2.2.2.1, b4]; exact a3
        · rw [hm.2.2.2.2.2.1, si.2.2.2.2.2.2.2.2.2.2.1, b71]; exact a4
      obtain ⟨M4, ee, hfm⟩ := m_ckEnd (Int32.ofNat i) as3
      rw [hm.2.1, hm.2.2.1] at hfm
      refine ⟨Int32.ofNat i, V3, M4, J2, C2, V2, fd, sj, lp_last ?_, lp_last ?_, sc, er, hfm⟩
      · rw [cB r V2 J2 ec, isRef1 v5, bsm, if_neg (by decide)]
        exact j59 V2 V3 J2 v5 er
      · rw [cM _ M3 e2, if_neg m5]
        exact j118 M3 M4 m5 ee
    · have x70 : Mx 7 0 = Int32.ofNat c := by rw [si.2.2.2.2.2.2.2.2.2.1, b70]; exact ec0
      obtain ⟨M3, ek, hk⟩ := mkeep_ok r si hc60 x70
      rw [ek, bsm] at e2
      have v5 : V2 11 5 = 0 := sc.2.2.2.2.1
      have m5 : M3 7 2 = 0 := hk.2.1
      have as3 : AS M M3 := by
        obtain ⟨a1, a2, a3, a4⟩ := has
        refine ⟨fun k hk2 => ?_, fun k hk2 => ?_, ?_, ?_⟩
        · rw [hk.2.2.2.2.2.2.1, si.2.2.2.2.2.2.1, b3]; exact a1 k hk2
        · rw [hk.2.2.2.2.2.2.2.2.1, si.2.2.2.2.2.2.2.2.1, b6]; exact a2 k hk2
        · rw [hk.2.2.2.2.2.2.2.1, si.2.2.2.2.2.2.2.1, b4]; exact a3
        · rw [hk.2.2.2.2.2.1, si.2.2.2.2.2.2.2.2.2.2.1, b71]; exact a4
      have w11 : V2 11 11 = Int32.ofNat steps := by rw [sc.2.2.2.2.2.2.2.2.2.2, h11]
      have t4 : f_X8_number (Int32.ofNat i) (4 : Int32) V2 = some (M 4 (5 * i + 4)) := by
        have := c_number (k := 4) (i := i) (by omega) hs (by omega) w11
        rw [sc.2.2.2.1, h10 _ (by omega)] at this
        exact this
      have k4 : ckA 200 ((5 : Int32) * Int32.ofNat i + 4) = some (5 * i + 4) := ck_lit (by rw [Int32.ofNat_add, Int32.ofNat_mul]; rfl) (by omega) (by omega)
      have bB := cB r V2 J2 ec
      rw [isRef0 v5, bsm, if_pos rfl, t4, bsm] at bB
      have bM := cM r M3 e2
      rw [if_pos m5, k4, bsm, as3.2.2.1] at bM
      by_cases q : r = M 4 (5 * i + 4)
      · rw [if_pos q] at bB bM
        have st : f_X11_check_j59 (Int32.ofNat i) (Int32.ofNat i) V2 J2 = some (.inl (Int32.ofNat (i + 1), Int32.ofNat (i + 1), V2, J2)) := by
          unfold f_X11_check_j59
          rw [isRef0 v5, bsm, if_pos rfl, bsm, bsm, nat_succ]
        have mt : f_X12_check_j118 (M 7 0) (M 7 4) (Int32.ofNat i) M3 = some (.inl (Int32.ofNat (i + 1), M3)) := by
          unfold f_X12_check_j118
          rw [if_pos m5, bsm, nat_succ]
        have v0 : V2 0 = C2 := sc.2.1
        obtain ⟨r2, V4, M4, J4, C4, V5, fd, sj, e5, e6, e7⟩ := ih (i + 1) V2 M3 J2 F H (by omega) (by omega) (by omega) (by rw [v0]; exact sc) (by rw [v0, hk.1]; exact hg2) as3 ⟨_, by split <;> omega, hk.2.2.2.2.1⟩ m5 hk.2.2.1
        refine ⟨r2, V4, M4, J4, C4, V5, fd, sj, ?_, ?_, e7⟩
        · rw [lp_step (bB.trans st)]; exact e5
        · rw [lp_step (bM.trans mt)]; exact e6
      · rw [if_neg q] at bB bM
        obtain ⟨V6, er6, s6⟩ := st_refuse 19 r sc
        rw [er6, bsm] at bB
        obtain ⟨V3, er, -⟩ := rollBack_ok (by omega) s6
        have v6 : ¬ V6 11 5 = 0 := by rw [s6.2.2.2.2.1]; decide
        have y2 : u2 (u2 M3 7 2 (19 : Int32)) 7 3 r 7 2 = 19 := by rw [u2_at, if_neg (by omega), u2_at, if_pos ⟨rfl, rfl⟩]
        have y3 : u2 (u2 M3 7 2 (19 : Int32)) 7 3 r 7 3 = r := by rw [u2_at, if_pos ⟨rfl, rfl⟩]
        have as4 : AS M (u2 (u2 M3 7 2 (19 : Int32)) 7 3 r) := by
          obtain ⟨a1, a2, a3, a4⟩ := as3
          refine ⟨fun k hk2 => ?_, fun k hk2 => ?_, ?_, ?_⟩
          · rw [u2_ne (by omega), u2_ne (by omega)]; exact a1 k hk2
          · rw [u2_ne (by omega), u2_ne (by omega)]; exact a2 k hk2
          · rw [u2_ne (by omega), u2_ne (by omega)]; exact a3
          · rw [u2_at, if_neg (by omega), u2_at, if_neg (by omega)]; exact a4
        obtain ⟨M4, ee, hfm⟩ := m_ckEnd (Int32.ofNat i) as4
        rw [y2, y3] at hfm
        refine ⟨Int32.ofNat i, V3, M4, J2, C2, V6, 19, r, lp_last ?_, lp_last ?_, s6, er, hfm⟩
        · rw [bB]; exact j59 V6 V3 J2 v6 er
        · rw [bM]; exact j118 _ M4 (by rw [y2]; decide) ee
theorem o_check : O_check (IG GG) := by
  intro n V J dd M hn hI
  obtain ⟨V1, eb, sb, c1, c3, c4, c7, c11, c10⟩ := begin_ok 1360 (by omega) (ig_rest hn hI)
  obtain ⟨M1, em, sm, k1, k3, k4, k6, k70, k71, k74⟩ := mbegin_ok M
  obtain ⟨⟨a1, a2, a3⟩, old, cnt, steps, b1, b2, b3, b4, b5, b6, b7, b8, b9, b10, b11, b12, b13, b14, b15⟩ := hI
  have e0 : V1 0 = V 0 := sb.2.1
  obtain ⟨n1, hn1⟩ : ∃ n, n = 1646 := ⟨_, rfl⟩
  obtain ⟨n2, hn2⟩ : ∃ n, n = 98760 := ⟨_, rfl⟩
  obtain ⟨Ma, hMa⟩ : ∃ Ma, Ma = setRow M1 3 (cpyTo (M1 0) (M1 3) n1) := ⟨_, rfl⟩
  obtain ⟨Mb, hMb⟩ : ∃ Mb, Mb = setRow Ma 6 (cpyTo (Ma 1) (Ma 6) n2) := ⟨_, rfl⟩
  have a7 : Ma 7 = M1 7 := by rw [hMa, setRow_ne (by omega)]
  have bb7 : Mb 7 = M1 7 := by rw [hMb, setRow_ne (by omega), a7]
  have bb0 : Mb 0 = M 0 := by rw [hMb, setRow_ne (by omega), hMa, setRow_ne (by omega)]; exact sm.1
  have hAS : AS M Mb := by
    refine ⟨fun k hk => ?_, fun k hk => ?_, ?_, ?_⟩
    · rw [hMb, setRow_ne (by omega), hMa, setRow_eq, cpy_in (by omega), sm.1]
    · rw [hMb, setRow_eq, cpy_in (by omega), hMa, setRow_ne (by omega), k1]
    · rw [hMb, setRow_ne (by omega), hMa, setRow_ne (by omega), k4]
    · rw [bb7, k71]
  obtain ⟨r, V3, M3, J3, C2, V2, fd, sj, e1, e2, hst, hrb, hfm⟩ := check_loop (n := n) (steps := steps) (O := V 0) (B := V1) (M := M) hn b3 (by rw [c11]; exact b10) (fun j hj => by rw [c10]; exact b12 j hj) b11 b13 steps 0 V1 Mb J fuel fuel (by omega) (fuel_big (by omega)) (fuel_big (by omega)) (by rw [e0]; exact sb) (by rw [e0, bb0]; exact b14) hAS ⟨cnt, b2, by rw [bb7, k70]; exact b6⟩ (by rw [bb7]; exact sm.2.2.2.1) (by rw [bb7]; exact sm.2.2.2.2.1)
  obtain ⟨V3', er, d0, d5, d6, d7, d1, d3, d4, d11, d10, dr⟩ := rollBack_ok (by omega) hst
  rw [hrb] at er
  cases er
  have hle := rest_of hst
  obtain ⟨-, s0, -, s10, s5, s6, s1, s3, s4, s7, s11⟩ := hst
  obtain ⟨f0, f1, f4, f70, f71, f72, f73, f74⟩ := hfm
  have ea := act_inc hn a1 a2
  have e11 : (V2 11 1).toInt = (V 11 1).toInt + 1 := by rw [s1, c1, ea]
  have e1' : (1 : Int32).toInt = 1 := by decide
  have e12 : (V3 11 1).toInt = (V 11 1).toInt + 2 := by
    rw [d1, i32_add (by omega) (by omega), e11, e1']; omega
  refine ⟨(r, V3, J3), (r, M3), ?_, ?_, rfl, ?_⟩
  · unfold f_X11_check
    rw [eb, bsm, bsm, bsm]
    exact e1
  · unfold f_X12_check
    rw [em, bsm, bsm]
    refine Eq.trans (m_ck6 hn1) ?_
    rw [← hMa]
    refine Eq.trans (m_ck33 hn2) ?_
    rw [← hMb, a7, k70, k74]
    exact e2
  · show IG GG (n + 1) V3 J3 dd M3
    refine ⟨⟨by omega, by omega, fun c hc => ?_⟩, old, cnt, steps, b1, b2, b3, ?_, ?_, ?_, ?_, ?_, ?_, ?_, ?_, ?_, ?_, ?_, ?_⟩
    · have := hle c hc
      rw [dr]; omega
    · rw [d3, s3, c3]; exact b4
    · rw [d4, s4, c4]; exact b5
    · rw [f70]; exact b6
    · rw [d5, f72]
    · rw [d6, f73]
    · rw [d7, s7, c7, f74]; exact b9
    · rw [d11, s11, c11]; exact b10
    · rw [f71]; exact b11
    · intro i hi; rw [d10, s10, c10, f4]; exact b12 i hi
    · intro i hi; rw [f4]; exact b13 i hi
    · rw [d0]; exact gg_ok.2 _ _ _ _ (fun k hk => (f0 k hk).symm) (gg_ok.1 _ _ _ b14)
    · rw [d0]
      obtain ⟨ch, h0, h1⟩ := b15
      refine ⟨ch, h0, fun i hi => ⟨(h1 i hi).1, ?_⟩⟩
      refine gg_ok.2 _ _ _ _ (fun k hk => ?_) (gg_ok.1 _ _ _ (h1 i hi).2)
      exact (f1 (1646 * i + k) (by omega)).symm
