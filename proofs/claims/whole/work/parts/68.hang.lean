/-! hang -/
theorem gg_hang2 {n t b o p : Nat} {C S C2 S2 : AT} (h : GG n C S) (ht : t < 80) (htl : Int32.ofNat t < S 1641) (hb : b < 12) (ho : o < 12) (hp : p < 16) (hk : (S (732 + 5 * t) = 4 ∧ o = b + 1) ∨ (¬ S (732 + 5 * t) = 4 ∧ o = b)) (hl : ∀ c q, c < 12 → q < 16 → ¬ S (21 * c + 5 + q) = Int32.ofNat (2 + t)) (f1 : S (21 * b + 5 + p) = 0) (f2 : S (21 * o + 5 + p) = 0) (pl1 : ¬ S (21 * b + 1) ≤ Int32.ofNat p) (pl2 : ¬ S (21 * o + 1) ≤ Int32.ofNat p)
  (c6 : C2 (720 + 8 * t + 6) = Int32.ofNat b) (c7 : C2 (720 + 8 * t + 7) = Int32.ofNat p) (cn : ∀ j, j ≠ 720 + 8 * t + 6 → j ≠ 720 + 8 * t + 7 → (∀ c q, c < 12 → q < 16 → j ≠ 48 + 16 * c + q) → C2 j = C j) (sn : ∀ j, (∀ c q, c < 12 → q < 16 → j ≠ 21 * c + 5 + q) → S2 j = S j)
  (cc : ∀ c q, c < 12 → q < 16 → C2 (48 + 16 * c + q) = S2 (21 * c + 5 + q)) (sc : ∀ c q, c < 12 → q < 16 → S2 (21 * c + 5 + q) = if q = p ∧ (c = b ∨ c = o) then Int32.ofNat (2 + t) else S (21 * c + 5 + q)) (hw : W_wh (n + 1) S2) : GG (n + 1) C2 S2 := by
  have old0 : ∀ c q, c < 12 → q < 16 → q = p ∧ (c = b ∨ c = o) → S (21 * c + 5 + q) = 0 := by
    rintro c q - - ⟨rfl, rfl | rfl⟩
    · exact f1
    · exact f2
  have key : ∀ c q u, c < 12 → q < 16 → u < 80 → u ≠ t → (S2 (21 * c + 5 + q) = Int32.ofNat (2 + u) ↔ S (21 * c + 5 + q) = Int32.ofNat (2 + u)) := by
    intro c q u hc hq hu hne
    rw [sc c q hc hq]
    by_cases g : q = p ∧ (c = b ∨ c = o)
    · rw [if_pos g, old0 c q hc hq g]
      exact ⟨fun e => absurd (thing_inj ht hu e) (fun z => hne z.symm), fun e => absurd e (ne_thing (Or.inl rfl) hu)⟩
    · rw [if_neg g]
  have keyt : ∀ c q, c < 12 → q < 16 → (S2 (21 * c + 5 + q) = Int32.ofNat (2 + t) ↔ q = p ∧ (c = b ∨ c = o)) := by
    intro c q hc hq
    rw [sc c q hc hq]
    by_cases g : q = p ∧ (c = b ∨ c = o)
    · rw [if_pos g]; exact ⟨fun _ => g, fun _ => rfl⟩
    · rw [if_neg g]; exact ⟨fun e => absurd e (hl c q hc hq), fun e => absurd e g⟩
  refine gg_strike h (fun j h0 h1 h2 => (cn j (h1 t ht) (h2 t ht) h0).symm) (fun j h0 => (sn j h0).symm) cc ?_ ?_ ?_ hw
  · intro u hu q
    rw [sn 1641 (by intros; omega)] at q
    rw [sn (732 + 5 * u) (by intros; omega)]
    by_cases e : u = t
    · subst e
      rw [c6, c7]
      refine Or.inr ⟨b, p, hb, hp, rfl, rfl, ?_, fun k4 => ?_, fun c q hc hq e => ?_⟩
      · rw [ctS_at hb hp]; exact (keyt b p hb hp).mpr ⟨rfl, Or.inl rfl⟩
      · have hob : o = b + 1 := by
          rcases hk with ⟨-, z⟩ | ⟨z, -⟩
          · exact z
          · exact absurd k4 z
        subst hob
        rw [ctS_at ho hp]
        exact ⟨ho, (keyt (b + 1) p ho hp).mpr ⟨rfl, Or.inr rfl⟩⟩
      · rw [ctS_at hc hq] at e
        obtain ⟨x1, x2⟩ := (keyt c q hc hq).mp e
        refine ⟨x1, ?_⟩
        rcases x2 with x2 | x2
        · exact Or.inl x2
        · rcases hk with ⟨z1, z2⟩ | ⟨-, z2⟩
          · exact Or.inr ⟨z1, by omega⟩
          · exact Or.inl (by omega)
    · rw [cn _ (by omega) (by omega) (by intros; omega), cn _ (by omega) (by omega) (by intros; omega)]
      refine hung_iff (h.1.rp u hu q) (fun c q hc hq => ?_)
      rw [ctS_at hc hq, ctS_at hc hq]
      exact key c q u hc hq hu e
  · intro c q hc hq hle
    rw [sn (21 * c + 1) (by intros; omega)] at hle
    rw [sc c q hc hq, if_neg (fun g => by
      rcases g with ⟨rfl, rfl | rfl⟩
      · exact pl1 hle
      · exact pl2 hle)]
    exact h.2.wb3 c q hc hq hle
  · intro c q hc hq
    rw [sc c q hc hq, sn 1641 (by intros; omega)]
    by_cases g : q = p ∧ (c = b ∨ c = o)
    · rw [if_pos g]; exact Or.inr (Or.inr ⟨t, ht, htl, rfl⟩)
    · rw [if_neg g]; exact h.2.wb5 c q hc hq
/-- a thing hung on a second bar is neither hot nor too hot -/
theorem sc_other {n t b o p c q : Nat} {C S S2 : AT} (h : GG n C S) (hn : n < 1000) (ht : t < 80) (htl : Int32.ofNat t < S 1641) (hk : (S (732 + 5 * t) = 4 ∧ o = b + 1) ∨ (¬ S (732 + 5 * t) = 4 ∧ o = b)) (sn : ∀ j, (∀ c q, c < 12 → q < 16 → j ≠ 21 * c + 5 + q) → S2 j = S j) (sc : ∀ c q, c < 12 → q < 16 → S2 (21 * c + 5 + q) = if q = p ∧ (c = b ∨ c = o) then Int32.ofNat (2 + t) else S (21 * c + 5 + q)) (hc : c < 12) (hq : q < 16) (hcb : c ≠ b) : ¬ scP S2 c q := by
  have ct : ∀ r u, r < 16 → u < 80 → (u ≠ t ∨ ¬ S (732 + 5 * t) = 4) → S2 (21 * c + 5 + r) = Int32.ofNat (2 + u) → S (21 * c + 5 + r) = Int32.ofNat (2 + u) := by
    intro r u hr hu hne e
    rw [sc c r hc hr] at e
    by_cases g : r = p ∧ (c = b ∨ c = o)
    · rw [if_pos g] at e
      have := thing_inj ht hu e
      subst this
      rcases hne with z | z
      · exact absurd rfl z
      · rcases hk with ⟨z1, -⟩ | ⟨-, z2⟩
        · exact absurd z1 z
        · rcases g.2 with y | y
          · exact absurd y hcb
          · exact absurd (y.trans z2) hcb
    · rw [if_neg g] at e; exact e
  have k4h : S (732 + 5 * t) = 4 → S (732 + 5 * t + 4) = 0 := fun k4 => (h.2.wt4 t ht htl).2.resolve_right (fun e => by rw [k4] at e; exact absurd e (by decide))
  rintro ⟨⟨t2, ht2, x1, x2⟩, k, hk5, k2, k3, u, hu, x3, x4⟩
  rw [sn _ (by intros; omega)] at x2
  rw [sn _ (by intros; omega)] at x4
  refine no_sc h hn hc hq ⟨⟨t2, ht2, ct q t2 hq ht2 ?_ x1, x2⟩, k, hk5, k2, k3, u, hu, ct _ u k3 hu ?_ x3, x4⟩
  · by_cases z : S (732 + 5 * t) = 4
    · refine Or.inl (fun e => ?_)
      subst e
      rcases x2 with y | y <;> rw [y] at z <;> exact absurd z (by decide)
    · exact Or.inr z
  · by_cases z : S (732 + 5 * t) = 4
    · refine Or.inl (fun e => ?_)
      subst e
      exact x4 (by rw [k4h z]; exact Int32.le_refl _)
    · exact Or.inr z
theorem ckf_one {S : AT} {b p : Nat} {m : Option Nat} : ckf S b p m 1 = ck2 S b p m := rfl
theorem cl2_one {S : AT} {b o p : Nat} : cl2 S b o p 1 = lsP (ck2 S b p none) (ck2 S o p none) := by
  unfold cl2
  rw [ckf_one]
  by_cases e : o = b
  · subst e; rw [if_pos rfl, lsP_self]
  · rw [if_neg e, ckf_one, ck2_P]
/-- the part of hang() behind the bar and its neighbour -/
theorem aok_hang3 {n t b o : Nat} {O : AT} {B V M M1 : VT} {J : JT} (v3 : Int32) (hn : n < 600) (sb : St O B 1360 (V 0) 0 0 V) (hgg : GG n (V 0) (M 0)) (sm : Ms (M 0) M1 (M 0) 0 0 M1) (ht : t < 80) (htl : Int32.ofNat t < M 0 1641) (hb : b < 12) (ho : o < 12) (hk : (M 0 (732 + 5 * t) = 4 ∧ o = b + 1) ∨ (¬ M 0 (732 + 5 * t) = 4 ∧ o = b)) (hl : ∀ c q, c < 12 → q < 16 → ¬ M 0 (21 * c + 5 + q) = Int32.ofNat (2 + t)) : AO n O B M M1 (f_X2_hangThing_j60 (Int32.ofNat t) (Int32.ofNat b) v3 (Int32.ofNat o) V J) (f_X12_hang_j89 (Int32.ofNat t) (Int32.ofNat b) v3 (Int32.ofNat o) M1) := by
  have hf0 : M1 7 2 = 0 := sm.2.2.2.1
  have m0 : M1 0 = M 0 := sm.1
  have hbo : o = b ∨ o = b + 1 := by rcases hk with ⟨-, z⟩ | ⟨-, z⟩; exact Or.inr z; exact Or.inl z
  have a1 := c_isBar_yes (V := V) hb
  have a2 := c_isBar_yes (V := V) ho
  have a3 := c_rigged hgg hb
  have a4 := c_rigged hgg ho
  have d1 := m_isBar_yes (M := M1) hb
  have d2 := m_isBar_yes (M := M1) ho
  have d3 := m_rigged (M := M1) hb
  have d4 := m_rigged (M := M1) ho
  rw [m0] at d3 d4
  have i1 := is_no 1 hf0
  have i2 := is_no 2 hf0
  have i10' := is_no 10 hf0
  have i12 := is_no 12 hf0
  by_cases hr : M 0 (21 * b) = 1 ∧ M 0 (21 * o) = 1
  · obtain ⟨r1, r2⟩ := hr
    rw [if_pos r1] at a3 d3
    rw [if_pos r2] at a4 d4
    have a5 := c_hasPlace v3 hgg hb
    have a6 := c_hasPlace v3 hgg ho
    have d5 := m_isPlace (M := M1) v3 hb
    have d6 := m_isPlace (M := M1) v3 ho
    rw [m0] at d5 d6
    by_cases hpl : (v3 < 0 ∨ M 0 (21 * b + 1) ≤ v3) ∨ (v3 < 0 ∨ M 0 (21 * o + 1) ≤ v3)
    · refine aok_refJ (J := J) 2 (by decide) sb sm (fun V2 er sr => ?_) (fun M2 M3 ei er2 => ?_)
      · by_cases q1 : v3 < 0 ∨ M 0 (21 * b + 1) ≤ v3
        · rw [if_pos q1] at a5
          simp only [f_X2_hangThing_j60, f_X2_whyNoRoom, a1, a2, a3, a4, a5, er, bsm, i10, if_false, if_true, show ¬ (2 : Int32) = 0 by decide]
        · rw [if_neg q1] at a5
          rw [if_pos (hpl.resolve_left q1)] at a6
          simp only [f_X2_hangThing_j60, f_X2_whyNoRoom, a1, a2, a3, a4, a5, a6, er, bsm, i10, if_false, if_true, show ¬ (2 : Int32) = 0 by decide]
      · by_cases q1 : v3 < 0 ∨ M 0 (21 * b + 1) ≤ v3
        · rw [if_pos q1] at d5
          simp only [f_X12_hang_j49, f_X12_hang_j181, f_X12_hang_j250, f_X12_hang_j398, f_X12_hang_j385, f_X12_hang_j339, f_X12_hang_j303, f_X12_hang_j242, f_X12_hang_j237, f_X12_hang_j209, f_X12_hang_j204, f_X12_hang_j174, f_X12_hang_j169, f_X12_hang_j142, f_X12_hang_j137, f_X12_hang_j112, f_X12_hang_j107, f_X12_hang_j89, f_X12_hang_j88, f_X12_hang_j69, f_X12_hang_j41, f_X12_hang_j18, f_X12_hang, d1, d2, i2, d3, d4, i1, d5, ei, er2, bsm, i10, if_false, if_true]
        · rw [if_neg q1] at d5
          rw [if_pos (hpl.resolve_left q1)] at d6
          simp only [f_X12_hang_j49, f_X12_hang_j181, f_X12_hang_j250, f_X12_hang_j398, f_X12_hang_j385, f_X12_hang_j339, f_X12_hang_j303, f_X12_hang_j242, f_X12_hang_j237, f_X12_hang_j209, f_X12_hang_j204, f_X12_hang_j174, f_X12_hang_j169, f_X12_hang_j142, f_X12_hang_j137, f_X12_hang_j112, f_X12_hang_j107, f_X12_hang_j89, f_X12_hang_j88, f_X12_hang_j69, f_X12_hang_j41, f_X12_hang_j18, f_X12_hang, d1, d2, i2, d3, d4, i1, d5, d6, ei, er2, bsm, i10, if_false, if_true]
    · have q1 : ¬ (v3 < 0 ∨ M 0 (21 * b + 1) ≤ v3) := fun q => hpl (Or.inl q)
      have q2 : ¬ (v3 < 0 ∨ M 0 (21 * o + 1) ≤ v3) := fun q => hpl (Or.inr q)
      rw [if_neg q1] at a5 d5
      rw [if_neg q2] at a6 d6
      obtain ⟨p, hp, rfl⟩ := place_of hgg hb r1 q1
      have a7 := c_isHigh hgg hb
      have a8 := c_isHigh hgg ho
      have d7 := m_height (M := M1) hb
      have d8 := m_height (M := M1) ho
      rw [m0] at d7 d8
      by_cases hh : M 0 (21 * b + 3) = 0 ∧ M 0 (21 * o + 3) = 0
      · obtain ⟨h1, h2⟩ := hh
        rw [if_pos h1] at a7
        rw [if_pos h2] at a8
        rw [h1] at d7
        rw [h2] at d8
        have a9 := c_isFree hgg hb hp
        have a10 := c_isFree hgg ho hp
        have d9 := m_held (M := M1) hb hp
        have d10 := m_held (M := M1) ho hp
        rw [m0] at d9 d10
        by_cases hfr : M 0 (21 * b + 5 + p) = 0 ∧ M 0 (21 * o + 5 + p) = 0
        · obtain ⟨f1, f2⟩ := hfr
          rw [if_pos f1] at a9
          rw [if_pos f2] at a10
          rw [f1] at d9
          rw [f2] at d10
          have hwhy : f_X2_whyNoRoom (Int32.ofNat b) (Int32.ofNat o) (Int32.ofNat p) V = some 0 := by
            simp only [f_X2_whyNoRoom, a1, a2, a3, a4, a5, a6, a7, a8, a9, a10, bsm, i10, if_false, if_true]
          have hj60 : f_X2_hangThing_j60 (Int32.ofNat t) (Int32.ofNat b) (Int32.ofNat p) (Int32.ofNat o) V J = lp (f_X2_hangThing_B90 (Int32.ofNat t) (Int32.ofNat b) (Int32.ofNat p) (Int32.ofNat o) J) fuel (Int32.ofNat b, V) := by
            simp only [f_X2_hangThing_j60, hwhy, bsm, if_true]
          -- the component's writes
          have scn : ∀ c, c < 12 → ∀ x V, f_X7_set 48 12 16 (Int32.ofNat c) (Int32.ofNat p) x V = f_X4_write (Int32.ofNat (48 + 16 * c + p)) x V := fun c hc x V => scon x hc hp
          have sw6 : ∀ x V, f_X7_set 720 80 8 (Int32.ofNat t) 6 x V = f_X4_write (Int32.ofNat (720 + 8 * t + 6)) x V := fun x V => sthing (c := 6) x ht (by omega)
          have sw7 : ∀ x V, f_X7_set 720 80 8 (Int32.ofNat t) 7 x V = f_X4_write (Int32.ofNat (720 + 8 * t + 7)) x V := fun x V => sthing (c := 7) x ht (by omega)
          obtain ⟨W1, ew1, s1, -⟩ := st_write (c := 48 + 16 * b + p) (Int32.ofNat (2 + t)) sb (by omega) (by omega)
          obtain ⟨W2, s2, hlp⟩ : ∃ W2, St O B 1360 (upd (upd (V 0) (48 + 16 * b + p) (Int32.ofNat (2 + t))) (48 + 16 * o + p) (Int32.ofNat (2 + t))) 0 0 W2 ∧ ∀ X, (∀ V', V' = W2 → f_X2_hangThing_B90 (Int32.ofNat t) (Int32.ofNat b) (Int32.ofNat p) (Int32.ofNat o) J (Int32.ofNat (o + 1), V') = X.bind fun y => some (.inr y)) → lp (f_X2_hangThing_B90 (Int32.ofNat t) (Int32.ofNat b) (Int32.ofNat p) (Int32.ofNat o) J) fuel (Int32.ofNat b, V) = X := by
            have nb : ¬ Int32.ofNat o < Int32.ofNat b := fun q => by have := (nat_lt (by omega) (by omega)).mp q; omega
            have st1 : f_X2_hangThing_B90 (Int32.ofNat t) (Int32.ofNat b) (Int32.ofNat p) (Int32.ofNat o) J (Int32.ofNat b, V) = some (.inl (Int32.ofNat (b + 1), W1)) := by
              simp only [f_X2_hangThing_B90, nb, if_false, two_plus, scn b hb, ew1, bsm, nat_succ]
            rcases hbo with ob | ob
            · subst ob
              refine ⟨W1, ?_, fun X hX => ?_⟩
              · have e : upd (upd (V 0) (48 + 16 * o + p) (Int32.ofNat (2 + t))) (48 + 16 * o + p) (Int32.ofNat (2 + t)) = upd (V 0) (48 + 16 * o + p) (Int32.ofNat (2 + t)) := by
                  funext j; rw [upd_at]; split
                  · next z => rw [z, upd_same]
                  · rfl
                rw [e]; exact s1
              · refine lp_run (fun j => if j = 0 then (Int32.ofNat o, V) else (Int32.ofNat (o + 1), W1)) 1 0 fuel (fun j _ hj => ?_) ?_ (fuel_big (by omega))
                · rw [show j = 0 by omega]; exact st1
                · exact hX W1 rfl
            · subst ob
              obtain ⟨W2, ew2, s2, -⟩ := st_write (c := 48 + 16 * (b + 1) + p) (Int32.ofNat (2 + t)) s1 (by omega) (by omega)
              refine ⟨W2, s2, fun X hX => ?_⟩
              refine lp_run (fun j => if j = 0 then (Int32.ofNat b, V) else if j = 1 then (Int32.ofNat (b + 1), W1) else (Int32.ofNat (b + 1 + 1), W2)) 2 0 fuel (fun j _ hj => ?_) ?_ (fuel_big (by omega))
              · rcases (show j = 0 ∨ j = 1 by omega) with rfl | rfl
                · exact st1
                · have nb2 : ¬ Int32.ofNat (b + 1) < Int32.ofNat (b + 1) := Int32.lt_irrefl
                  show f_X2_hangThing_B90 (Int32.ofNat t) (Int32.ofNat b) (Int32.ofNat p) (Int32.ofNat (b + 1)) J (Int32.ofNat (b + 1), W1) = some (.inl (Int32.ofNat (b + 1 + 1), W2))
                  simp only [f_X2_hangThing_B90, nb2, if_false, two_plus, scn (b + 1) ho, ew2, bsm, nat_succ]
              · exact hX W2 rfl
          obtain ⟨W3, ew3, s3, -⟩ := st_write (c := 720 + 8 * t + 6) (Int32.ofNat b) s2 (by omega) (by omega)
          obtain ⟨W4, ew4, s4, -⟩ := st_write (c := 720 + 8 * t + 7) (Int32.ofNat p) s3 (by omega) (by omega)
          have mt1 := ms_put (k := 21 * b + 5 + p) (Int32.ofNat (2 + t)) sm (by omega)
          have mt2 := ms_put (k := 21 * o + 5 + p) (Int32.ofNat (2 + t)) mt1 (by omega)
          have mp1 : f_X12_put (Int32.ofNat b) (Int32.ofNat p) (Int32.ofNat (2 + t)) M1 = some (u2 M1 0 (21 * b + 5 + p) (Int32.ofNat (2 + t))) := m_put _ hb hp
          have mp2 : f_X12_put (Int32.ofNat o) (Int32.ofNat p) (Int32.ofNat (2 + t)) (u2 M1 0 (21 * b + 5 + p) (Int32.ofNat (2 + t))) = some (u2 (u2 M1 0 (21 * b + 5 + p) (Int32.ofNat (2 + t))) 0 (21 * o + 5 + p) (Int32.ofNat (2 + t))) := m_put _ ho hp
          have mm : f_X12_hang_j89 (Int32.ofNat t) (Int32.ofNat b) (Int32.ofNat p) (Int32.ofNat o) M1 = (f_X12_clashing (Int32.ofNat b) (Int32.ofNat p) (u2 (u2 M1 0 (21 * b + 5 + p) (Int32.ofNat (2 + t))) 0 (21 * o + 5 + p) (Int32.ofNat (2 + t)))).bind fun r22 => (f_X12_clashing (Int32.ofNat o) (Int32.ofNat p) (u2 (u2 M1 0 (21 * b + 5 + p) (Int32.ofNat (2 + t))) 0 (21 * o + 5 + p) (Int32.ofNat (2 + t)))).bind fun r23 => (f_X12_lesser r22 r23 (u2 (u2 M1 0 (21 * b + 5 + p) (Int32.ofNat (2 + t))) 0 (21 * o + 5 + p) (Int32.ofNat (2 + t)))).bind fun r24 => if r24 < 0 then (f_X12_hang_j303 (Int32.ofNat b) (Int32.ofNat o) r24 (0 : Int32) (u2 (u2 M1 0 (21 * b + 5 + p) (Int32.ofNat (2 + t))) 0 (21 * o + 5 + p) (Int32.ofNat (2 + t)))) else (f_X12_hang_j303 (Int32.ofNat b) (Int32.ofNat o) r24 (1 : Int32) (u2 (u2 M1 0 (21 * b + 5 + p) (Int32.ofNat (2 + t))) 0 (21 * o + 5 + p) (Int32.ofNat (2 + t)))) := by
            simp only [f_X12_hang_j89, f_X12_hang_j112, f_X12_hang_j142, f_X12_hang_j174, f_X12_hang_j209, f_X12_hang_j242, d1, d2, i2, d3, d4, i1, d5, d6, d7, d8, i10', d9, d10, i12, two_plus, mp1, mp2, bsm, i10, if_false, if_true]
          generalize hM2 : u2 (u2 M1 0 (21 * b + 5 + p) (Int32.ofNat (2 + t))) 0 (21 * o + 5 + p) (Int32.ofNat (2 + t)) = M2 at mm mt2
          generalize hS2 : upd (upd (M 0) (21 * b + 5 + p) (Int32.ofNat (2 + t))) (21 * o + 5 + p) (Int32.ofNat (2 + t)) = S2 at mt2
          have sn : ∀ j, (∀ c q, c < 12 → q < 16 → j ≠ 21 * c + 5 + q) → S2 j = M 0 j := by
            intro j hj; rw [← hS2, upd_ne (hj o p ho hp), upd_ne (hj b p hb hp)]
          have sc : ∀ c q, c < 12 → q < 16 → S2 (21 * c + 5 + q) = if q = p ∧ (c = b ∨ c = o) then Int32.ofNat (2 + t) else M 0 (21 * c + 5 + q) := by
            intro c q hc hq
            rw [← hS2]
            by_cases g1 : q = p ∧ c = o
            · rw [if_pos ⟨g1.1, Or.inr g1.2⟩, g1.1, g1.2, upd_same]
            · rw [upd_ne (by omega)]
              by_cases g2 : q = p ∧ c = b
              · rw [if_pos ⟨g2.1, Or.inl g2.2⟩, g2.1, g2.2, upd_same]
              · rw [upd_ne (by omega), if_neg (fun z => by rcases z with ⟨z1, z2 | z2⟩; exact g2 ⟨z1, z2⟩; exact g1 ⟨z1, z2⟩)]
          have cc : ∀ c q, c < 12 → q < 16 → upd (upd (upd (upd (V 0) (48 + 16 * b + p) (Int32.ofNat (2 + t))) (48 + 16 * o + p) (Int32.ofNat (2 + t))) (720 + 8 * t + 6) (Int32.ofNat b)) (720 + 8 * t + 7) (Int32.ofNat p) (48 + 16 * c + q) = S2 (21 * c + 5 + q) := by
            intro c q hc hq
            rw [upd_ne (by omega), upd_ne (by omega), sc c q hc hq]
            by_cases g1 : q = p ∧ c = o
            · rw [if_pos ⟨g1.1, Or.inr g1.2⟩, g1.1, g1.2, upd_same]
            · rw [upd_ne (by omega)]
              by_cases g2 : q = p ∧ c = b
              · rw [if_pos ⟨g2.1, Or.inl g2.2⟩, g2.1, g2.2, upd_same]
              · rw [upd_ne (by omega), if_neg (fun z => by rcases z with ⟨z1, z2 | z2⟩; exact g2 ⟨z1, z2⟩; exact g1 ⟨z1, z2⟩)]
                exact hgg.1.rc c q hc hq
          have mkGG : ∀ k, GG k (V 0) (M 0) → W_wh (k + 1) S2 → GG (k + 1) (upd (upd (upd (upd (V 0) (48 + 16 * b + p) (Int32.ofNat (2 + t))) (48 + 16 * o + p) (Int32.ofNat (2 + t))) (720 + 8 * t + 6) (Int32.ofNat b)) (720 + 8 * t + 7) (Int32.ofNat p)) S2 := by
            intro k hg hw
            refine gg_hang2 hg ht htl hb ho hp hk hl f1 f2 (fun q => q1 (Or.inr q)) (fun q => q2 (Or.inr q)) ?_ upd_same ?_ sn cc sc hw
            · rw [upd_ne (by omega), upd_same]
            · intro j z1 z2 z3
              rw [upd_ne z2, upd_ne z1, upd_ne (z3 o p ho hp), upd_ne (z3 b p hb hp)]
          have hmid := mkGG 999 (gg_999 hgg hn) wh_1000
          generalize upd (upd (upd (upd (V 0) (48 + 16 * b + p) (Int32.ofNat (2 + t))) (48 + 16 * o + p) (Int32.ofNat (2 + t))) (720 + 8 * t + 6) (Int32.ofNat b)) (720 + 8 * t + 7) (Int32.ofNat p) = C2 at s4 hmid mkGG
          have v4 : W4 0 = C2 := s4.2.1
          have m2 : M2 0 = S2 := mt2.1
          have hg4 : GG 1000 (W4 0) S2 := by rw [v4]; exact hmid
          have hgm : GG 1000 C2 (M2 0) := by rw [m2]; exact hmid
          obtain ⟨V5, J5, ej, hcase⟩ := c_judge (J := J) (fr := p) (k := 1) hg4 (by rw [v4]; exact s4) hb ho hbo (by omega)
          rw [v4] at hcase
          have v5 : V5 0 = C2 := by
            rcases hcase with ⟨a, -, -, z⟩ | ⟨-, a, -, -, z⟩ | ⟨-, -, ⟨-, z⟩ | ⟨-, -, z⟩ | ⟨-, -, z⟩⟩
            all_goals exact z.2.1
          have eth := c_thingsOn (V := V5) (n := 1000) (S := S2) (by rw [v5]; exact hmid) hb
          have hcy : f_X2_hangThing_j60 (Int32.ofNat t) (Int32.ofNat b) (Int32.ofNat p) (Int32.ofNat o) V J = some (Int32.ofNat (cnt (thb S2 b) 16), V5, J5) := by
            rw [hj60]
            refine hlp _ (fun V' hV' => ?_)
            subst hV'
            have n1 : Int32.ofNat o < Int32.ofNat (o + 1) := (nat_lt (by omega) (by omega)).mpr (by omega)
            have ej : f_X2_judge (Int32.ofNat b) (Int32.ofNat o) (Int32.ofNat p) 1 W4 J = some (V5, J5) := ej
            simp only [f_X2_hangThing_B90, n1, if_true, sw6, ew3, sw7, ew4, ej, eth, bsm]
          -- the reference
          have h0 : ∀ a, (none : Option Nat) = some a → a < 80 := fun a ha => by cases ha
          have ecl1 := m_clashing hgm hb hp
          have ecl2 := m_clashing hgm ho hp
          have els := m_lesserP (V := M2) (ck_lt hgm hb hp h0).2 (ck_lt hgm ho hp h0).2
          rw [m2] at ecl1 ecl2 els
          rw [← cl2_one] at els
          have mm2 : f_X12_hang_j89 (Int32.ofNat t) (Int32.ofNat b) (Int32.ofNat p) (Int32.ofNat o) M1 = if o32 (-1) (cl2 S2 b o p 1) < 0 then (f_X12_hang_j303 (Int32.ofNat b) (Int32.ofNat o) (o32 (-1) (cl2 S2 b o p 1)) (0 : Int32) M2) else (f_X12_hang_j303 (Int32.ofNat b) (Int32.ofNat o) (o32 (-1) (cl2 S2 b o p 1)) (1 : Int32) M2) := by
            rw [mm, ecl1, bsm, ecl2, bsm, els, bsm]
          have oth : ∀ c q, c < 12 → q < 16 → c ≠ b → ¬ scP S2 c q := fun c q hc hq hne => sc_other hgg (by omega) ht htl hk sn sc hc hq hne
          have esco := m_scorched (B := b) hgm hb (fun c q hc hq hne => by rw [m2]; exact oth c q hc hq hne)
          rw [m2] at esco
          have eh1 := m_isHeld hgm hb
          have eh2 := m_isHeld hgm ho
          rw [m2] at eh1 eh2
          have emt := m_things hgm hb
          rw [m2] at emt
          have nn : (-1 : Int32) < 0 := by decide
          have fi13 := is_no 13 mt2.2.2.2.1
          have fi14 := is_no 14 mt2.2.2.2.1
          have fi15 := is_no 15 mt2.2.2.2.1
          have nnat : ∀ a : Nat, a < 80 → ¬ Int32.ofNat a < 0 := fun a ha => nat_nneg (by omega)
          rw [hcy, mm2]
          rcases hcase with ⟨a, ha, hc, z⟩ | ⟨hc, a, ha, hm, z⟩ | ⟨hc, hm, ⟨hd, z⟩ | ⟨hd, hd2, z⟩ | ⟨hd, hd2, z⟩⟩
          · rw [hc]
            refine aok_back 13 (Int32.ofNat a) (by decide) z rfl mt2 (fun M3 M4 ei e4 => ?_)
            simp only [o32, nnat a ha, if_false, f_X12_hang_j303, ei, e4, bsm, i10]
          · rw [hc]
            rw [hm] at esco
            simp only [o32] at esco
            refine aok_back 14 (Int32.ofNat a) (by decide) z rfl mt2 (fun M3 M4 ei e4 => ?_)
            simp only [o32, nn, if_true, f_X12_hang_j303, f_X12_hang_j339, fi13, esco, nnat a ha, if_false, ei, e4, bsm, i10]
          · rw [hc]
            rw [hm] at esco
            simp only [o32] at esco
            rw [if_neg hd] at eh1
            refine aok_back 15 (Int32.ofNat b) (by decide) z rfl mt2 (fun M3 M4 ei e4 => ?_)
            simp only [o32, nn, if_true, f_X12_hang_j303, f_X12_hang_j339, f_X12_hang_j385, f_X12_hang_j398, fi13, esco, fi14, eh1, nnat b (by omega), if_false, ei, e4, bsm, i10]
          · rw [hc]
            rw [hm] at esco
            simp only [o32] at esco
            rw [if_pos hd] at eh1
            rw [if_neg hd2] at eh2
            refine aok_back 15 (Int32.ofNat o) (by decide) z rfl mt2 (fun M3 M4 ei e4 => ?_)
            simp only [o32, nn, if_true, f_X12_hang_j303, f_X12_hang_j339, f_X12_hang_j385, f_X12_hang_j398, fi13, esco, fi14, eh1, eh2, nnat o (by omega), if_false, ei, e4, bsm, i10]
          · rw [hc]
            rw [hm] at esco
            simp only [o32] at esco
            rw [if_pos hd] at eh1
            rw [if_pos hd2] at eh2
            refine Or.inr ⟨Int32.ofNat (cnt (thb S2 b) 16), V5, J5, C2, S2, M2, rfl, z, mt2, ?_, mkGG n hgg (wh_of hmid (fun c q hc2 hq => ?_))⟩
            · simp only [o32, nn, if_true, f_X12_hang_j303, f_X12_hang_j339, f_X12_hang_j385, f_X12_hang_j398, fi13, esco, fi14, eh1, eh2, fi15, emt, if_false, bsm, i10]
            · by_cases e : c = b
              · subst e; exact mhm_none 16 hm q hq
              · exact oth c q hc2 hq e
        · refine aok_refJ (J := J) 12 (by decide) sb sm (fun V2 er sr => ?_) (fun M2 M3 ei er2 => ?_)
          · by_cases z1 : M 0 (21 * b + 5 + p) = 0
            · rw [if_pos z1] at a9
              rw [if_neg (fun z => hfr ⟨z1, z⟩)] at a10
              simp only [f_X2_hangThing_j60, f_X2_whyNoRoom, f_X2_whyNoRoom_j127, a1, a2, a3, a4, a5, a6, a7, a8, a9, a10, er, bsm, i10, if_false, if_true, show ¬ (12 : Int32) = 0 by decide]
            · rw [if_neg z1] at a9
              simp only [f_X2_hangThing_j60, f_X2_whyNoRoom, f_X2_whyNoRoom_j127, a1, a2, a3, a4, a5, a6, a7, a8, a9, er, bsm, i10, if_false, if_true, show ¬ (12 : Int32) = 0 by decide]
          · by_cases z1 : M 0 (21 * b + 5 + p) = 0
            · have z2 : ¬ M 0 (21 * o + 5 + p) = 0 := fun z => hfr ⟨z1, z⟩
              simp only [f_X12_hang_j89, f_X12_hang_j112, f_X12_hang_j142, f_X12_hang_j174, f_X12_hang_j209, f_X12_hang_j237, f_X12_hang_j242, f_X12_hang_j250, d1, d2, i2, d3, d4, i1, d5, d6, d7, d8, i10', d9, d10, z1, z2, ei, er2, bsm, i10, if_false, if_true]
            · simp only [f_X12_hang_j89, f_X12_hang_j112, f_X12_hang_j142, f_X12_hang_j174, f_X12_hang_j209, f_X12_hang_j237, f_X12_hang_j242, f_X12_hang_j250, d1, d2, i2, d3, d4, i1, d5, d6, d7, d8, i10', d9, z1, ei, er2, bsm, i10, if_false, if_true]
      · refine aok_refJ (J := J) 10 (by decide) sb sm (fun V2 er sr => ?_) (fun M2 M3 ei er2 => ?_)
        · by_cases z1 : M 0 (21 * b + 3) = 0
          · rw [if_pos z1] at a7
            rw [if_neg (fun z => hh ⟨z1, z⟩)] at a8
            simp only [f_X2_hangThing_j60, f_X2_whyNoRoom, a1, a2, a3, a4, a5, a6, a7, a8, er, bsm, i10, if_false, if_true, show ¬ (10 : Int32) = 0 by decide]
          · rw [if_neg z1] at a7
            simp only [f_X2_hangThing_j60, f_X2_whyNoRoom, a1, a2, a3, a4, a5, a6, a7, er, bsm, i10, if_false, if_true, show ¬ (10 : Int32) = 0 by decide]
        · by_cases z1 : M 0 (21 * b + 3) = 0
          · have z2 : ¬ M 0 (21 * o + 3) = 0 := fun z => hh ⟨z1, z⟩
            simp only [f_X12_hang_j89, f_X12_hang_j112, f_X12_hang_j142, f_X12_hang_j174, f_X12_hang_j204, f_X12_hang_j209, f_X12_hang_j250, d1, d2, i2, d3, d4, i1, d5, d6, d7, d8, z1, z2, ei, er2, bsm, i10, if_false, if_true]
          · simp only [f_X12_hang_j89, f_X12_hang_j112, f_X12_hang_j142, f_X12_hang_j174, f_X12_hang_j204, f_X12_hang_j209, f_X12_hang_j250, d1, d2, i2, d3, d4, i1, d5, d6, d7, z1, ei, er2, bsm, i10, if_false, if_true]
  · refine aok_refJ (J := J) 1 (by decide) sb sm (fun V2 er sr => ?_) (fun M2 M3 ei er2 => ?_)
    · by_cases z1 : M 0 (21 * b) = 1
      · rw [if_pos z1] at a3
        rw [if_neg (fun z => hr ⟨z1, z⟩)] at a4
        simp only [f_X2_hangThing_j60, f_X2_whyNoRoom, a1, a2, a3, a4, er, bsm, i10, if_false, if_true]
      · rw [if_neg z1] at a3
        simp only [f_X2_hangThing_j60, f_X2_whyNoRoom, a1, a2, a3, er, bsm, i10, if_false, if_true]
    · by_cases z1 : M 0 (21 * b) = 1
      · rw [if_pos z1] at d3
        rw [if_neg (fun z => hr ⟨z1, z⟩)] at d4
        simp only [f_X12_hang_j89, f_X12_hang_j112, f_X12_hang_j137, f_X12_hang_j142, f_X12_hang_j181, d1, d2, i2, d3, d4, ei, er2, bsm, i10, if_false, if_true]
      · rw [if_neg z1] at d3
        simp only [f_X12_hang_j89, f_X12_hang_j112, f_X12_hang_j137, f_X12_hang_j142, f_X12_hang_j181, d1, d2, i2, d3, ei, er2, bsm, i10, if_false, if_true]
theorem aok_hang (v1 v2 v3 : Int32) : AOK (f_X2_hangThing v1 v2 v3) (f_X12_hang v1 v2 v3) := by
  intro n O B V J M M1 hn sb hgg em sm
  have hf0 : M1 7 2 = 0 := sm.2.2.2.1
  have m0 : M1 0 = M 0 := sm.1
  have ei := c_isThing v1 hgg
  have e2 := m_isTold (M := M1) v1
  rw [m0] at e2
  by_cases hv : v1 < 0 ∨ M 0 1641 ≤ v1
  · rw [if_pos hv] at ei e2
    refine aok_refJ (J := J) 2 (by decide) sb sm (fun V2 er sr => ?_) (fun M2 M3 ei2 er2 => ?_)
    · simp only [f_X2_hangThing, ei, er, bsm, if_true, if_false, ite_self, i10, i01, ite01, ite10, true_or, or_true, false_or, or_false, leN, ite_not, not_true_eq_false, not_false_eq_true]
    · simp only [f_X12_hang, f_X12_hang_j18, f_X12_hang_j49, em, e2, ei2, er2, bsm, if_true, if_false, ite_self, i10, i01, ite01, ite10, true_or, or_true, false_or, or_false, leN, ite_not, not_true_eq_false, not_false_eq_true]
  · rw [if_neg hv] at ei e2
    obtain ⟨t, ht, rfl, htl⟩ := thing_of hgg hv
    obtain ⟨ebw, hcase⟩ := m_barWith (M := M1) (k := M 0 (732 + 5 * t)) (tb := V 0 (720 + 8 * t + 6)) (tp := V 0 (720 + 8 * t + 7)) (by rw [m0]; exact hgg) ht (by rw [m0]; exact hgg.1.rp t ht htl)
    rw [m0] at hcase
    have g6 : f_X7_get 720 80 8 (Int32.ofNat t) 6 V = some (V 0 (720 + 8 * t + 6)) := tget (c := 6) ht (by omega)
    have i2 := is_no 2 hf0
    have i8 := is_no 8 hf0
    have ekk := c_isKind 4 hgg ht
    have t0 : f_X12_thingIs (Int32.ofNat t) 0 M1 = some (M 0 (732 + 5 * t)) := by rw [← m0]; exact m_thingIs (c := 0) ht (by omega)
    rcases hcase with ⟨x1, x2, hl⟩ | ⟨b0, p0, hb0, hp0, x1, x2, -⟩
    · rw [x1] at ebw g6
      have hc0 : ∀ s0, (M 0 (732 + 5 * t) = 4 ∧ s0 = v2 + 1) ∨ (¬ M 0 (732 + 5 * t) = 4 ∧ s0 = v2) → f_X2_hangThing (Int32.ofNat t) v2 v3 V J = f_X2_hangThing_j60 (Int32.ofNat t) v2 v3 s0 V J := by
        rintro s0 (⟨k4, rfl⟩ | ⟨k4, rfl⟩)
        · rw [if_pos k4] at ekk
          simp only [f_X2_hangThing, f_X3_hangs, ei, g6, ekk, bsm, i10, if_false, if_true]
        · rw [if_neg k4] at ekk
          simp only [f_X2_hangThing, f_X3_hangs, ei, g6, ekk, bsm, i10, if_false, if_true]
      have hm0 : f_X12_hang (Int32.ofNat t) v2 v3 M = if M 0 (732 + 5 * t) = 4 then f_X12_hang_j69 (Int32.ofNat t) v2 v3 1 M1 else f_X12_hang_j69 (Int32.ofNat t) v2 v3 0 M1 := by
        simp only [f_X12_hang, f_X12_hang_j18, f_X12_hang_j41, em, e2, i2, ebw, i8, t0, bsm, i10, if_false, if_true]
      have why2 : ∀ s0, (v2 < 0 ∨ 12 ≤ v2) ∨ (s0 < 0 ∨ 12 ≤ s0) → f_X2_whyNoRoom v2 s0 v3 V = some 2 := by
        intro s0 hs
        by_cases z : v2 < 0 ∨ 12 ≤ v2
        · simp only [f_X2_whyNoRoom, c_isBar_no (V := V) z, bsm, if_true]
        · have hs2 := hs.resolve_left z
          obtain ⟨b, hb, rfl⟩ : ∃ b : Nat, b < 12 ∧ v2 = Int32.ofNat b := by
            rcases rng 12 (by omega) v2 with h | h
            · exact h
            · exact absurd h z
          simp only [f_X2_whyNoRoom, c_isBar_yes (V := V) hb, c_isBar_no (V := V) hs2, bsm, i10, if_false, if_true]
      have j60r : ∀ s0 V2, f_X2_whyNoRoom v2 s0 v3 V = some 2 → f_X9_refuse 2 V = some (-1000000000, V2) → f_X2_hangThing_j60 (Int32.ofNat t) v2 v3 s0 V J = some (-1000000000, V2, J) := by
        intro s0 V2 hw er
        simp only [f_X2_hangThing_j60, hw, er, bsm, show ¬ (2 : Int32) = 0 by decide, if_false]
      have j89r : ∀ s0 M2 M3, (v2 < 0 ∨ 12 ≤ v2) ∨ (s0 < 0 ∨ 12 ≤ s0) → f_X12_is 1 2 M1 = some (1, M2) → f_X12_refused M2 = some (-1000000000, M3) → f_X12_hang_j89 (Int32.ofNat t) v2 v3 s0 M1 = some (-1000000000, M3) := by
        intro s0 M2 M3 hs e1 e3
        by_cases z : v2 < 0 ∨ 12 ≤ v2
        · simp only [f_X12_hang_j89, f_X12_hang_j107, f_X12_hang_j112, f_X12_hang_j181, m_isBar_no (M := M1) z, e1, e3, bsm, i10, if_false, if_true]
        · have hs2 := hs.resolve_left z
          obtain ⟨b, hb, rfl⟩ : ∃ b : Nat, b < 12 ∧ v2 = Int32.ofNat b := by
            rcases rng 12 (by omega) v2 with h | h
            · exact h
            · exact absurd h z
          simp only [f_X12_hang_j89, f_X12_hang_j107, f_X12_hang_j112, f_X12_hang_j181, m_isBar_yes (M := M1) hb, m_isBar_no (M := M1) hs2, e1, e3, bsm, i10, if_false, if_true]
      by_cases k4 : M 0 (732 + 5 * t) = 4
      · rw [hc0 (v2 + 1) (Or.inl ⟨k4, rfl⟩), hm0, if_pos k4]
        rcases rng 12 (by omega) v2 with ⟨b, hb, rfl⟩ | hbad
        · have nb : ¬ (12 : Int32) ≤ Int32.ofNat b := fun q => by have := (nat_le (a := 12) (by omega) (by omega)).mp q; omega
          have hj : f_X12_hang_j69 (Int32.ofNat t) (Int32.ofNat b) v3 1 M1 = f_X12_hang_j89 (Int32.ofNat t) (Int32.ofNat b) v3 (Int32.ofNat (b + 1)) M1 := by
            simp only [f_X12_hang_j69, nb, bsm, i10, if_false, nat_succ]
          rw [hj, nat_succ]
          by_cases hb1 : b + 1 < 12
          · exact aok_hang3 v3 hn sb hgg sm ht htl hb hb1 (Or.inl ⟨k4, rfl⟩) hl
          · have hout : Int32.ofNat (b + 1) < 0 ∨ 12 ≤ Int32.ofNat (b + 1) := Or.inr ((nat_le (a := 12) (by omega) (by omega)).mpr (by omega))
            exact aok_refJ (J := J) 2 (by decide) sb sm (fun V2 er sr => j60r _ V2 (why2 _ (Or.inr hout)) er) (fun M2 M3 ei2 er2 => j89r _ M2 M3 (Or.inr hout) ei2 er2)
        · refine aok_refJ (J := J) 2 (by decide) sb sm (fun V2 er sr => j60r _ V2 (why2 _ (Or.inl hbad)) er) (fun M2 M3 ei2 er2 => ?_)
          unfold f_X12_hang_j69 f_X12_hang_j88
          rw [if_neg (by decide)]
          by_cases z : 12 ≤ v2
          · rw [if_pos z]; exact j89r _ M2 M3 (Or.inl hbad) ei2 er2
          · rw [if_neg z]; exact j89r _ M2 M3 (Or.inl hbad) ei2 er2
      · rw [hc0 v2 (Or.inr ⟨k4, rfl⟩), hm0, if_neg k4]
        have hj : f_X12_hang_j69 (Int32.ofNat t) v2 v3 0 M1 = f_X12_hang_j89 (Int32.ofNat t) v2 v3 v2 M1 := by
          unfold f_X12_hang_j69 f_X12_hang_j88
          rw [if_pos rfl]
        rw [hj]
        rcases rng 12 (by omega) v2 with ⟨b, hb, rfl⟩ | hbad
        · exact aok_hang3 v3 hn sb hgg sm ht htl hb hb (Or.inr ⟨k4, rfl⟩) hl
        · exact aok_refJ (J := J) 2 (by decide) sb sm (fun V2 er sr => j60r _ V2 (why2 _ (Or.inl hbad)) er) (fun M2 M3 ei2 er2 => j89r _ M2 M3 (Or.inl hbad) ei2 er2)
    · rw [x1] at ebw g6
      have hnn := eq_false (hung_no hb0)
      refine aok_refJ (J := J) 8 (by decide) sb sm (fun V2 er sr => ?_) (fun M2 M3 ei2 er2 => ?_)
      · simp only [f_X2_hangThing, f_X3_hangs, ei, g6, hnn, er, bsm, i10, if_false]
      · simp only [f_X12_hang, f_X12_hang_j18, f_X12_hang_j41, f_X12_hang_j49, em, e2, i2, ebw, hnn, ei2, er2, bsm, i10, if_false, if_true]
theorem o_hang : O_hang (IG GG) := fun _ _ _ _ _ v1 v2 v3 hn hI => aok_run (aok_hang v1 v2 v3) hn hI rfl
