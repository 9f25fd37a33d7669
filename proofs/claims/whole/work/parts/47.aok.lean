/-! acts: what is asked of the two inner functions of an act (so that check() may use it too) -/
/-- cy, mz: what the component's inner function and the reference's act answer -/
def AO (n : Nat) (O : AT) (B : VT) (M M1 : VT) (cy : Option (Int32 × VT × JT)) (mz : Option (Int32 × VT)) : Prop :=
  (∃ (f s r : Int32) (V2 : VT) (J2 : JT) (C2 : AT) (M2 M3 : VT), f ≠ 0 ∧ cy = some (r, V2, J2) ∧ St O B 1360 C2 f s V2 ∧ mz = some (-1000000000, M3) ∧ (∃ S2, Ms (M 0) M1 S2 f s M2) ∧ Mf (M 0) f s M2 M3) ∨
  (∃ (r : Int32) (V2 : VT) (J2 : JT) (C2 S2 : AT) (M2 : VT), cy = some (r, V2, J2) ∧ St O B 1360 C2 0 0 V2 ∧ Ms (M 0) M1 S2 0 0 M2 ∧ (mz = (f_X12_keep r M2).bind fun r => some (r.1, r.2)) ∧ GG (n + 1) C2 S2)
def AOK (ci : VT → JT → Option (Int32 × VT × JT)) (mi : VT → Option (Int32 × VT)) : Prop := ∀ (n : Nat) (O : AT) (B V : VT) (J : JT) (M M1 : VT), n < 600 → St O B 1360 (V 0) 0 0 V → GG n (V 0) (M 0) → f_X12_begin M = some M1 → Ms (M 0) M1 (M 0) 0 0 M1 → AO n O B M M1 (ci V J) (mi M)
def noJ (f : VT → Option (Int32 × VT)) : VT → JT → Option (Int32 × VT × JT) := fun V J => (f V).bind fun r => some (r.1, r.2, J)
theorem noJ_eq {f : VT → Option (Int32 × VT)} {V V2 : VT} {J : JT} {r : Int32} (h : f V = some (r, V2)) : noJ f V J = some (r, V2, J) := by unfold noJ; rw [h]; rfl
theorem aok_run {ci : VT → JT → Option (Int32 × VT × JT)} {mi : VT → Option (Int32 × VT)} (h : AOK ci mi) {n : Nat} {V : VT} {J : JT} {dd : DT} {M : VT} (hn : n < 512) (hI : IG GG n V J dd M) {F : Option (Int32 × VT × JT × KO)} (hF : F = (f_X11_begin V).bind fun r1 => (ci r1 J).bind fun r2 => (f_X11_keep r2.1 r2.2.1).bind fun r3 => some (r3.1, r3.2.1, r2.2.2, r3.2.2)) : ∃ (y : Int32 × VT × JT × KO) (z : Int32 × VT), F = some y ∧ mi M = some z ∧ y.1 = z.1 ∧ IG GG (n + 1) y.2.1 y.2.2.1 (ddK dd y.2.2.2) z.2 := by
  obtain ⟨V1, eb, sb, c1, c3, c4, c7, c11, c10⟩ := begin_ok 1360 (by omega) (ig_rest hn hI)
  obtain ⟨M1, em, sm, k1, k3, k4, k6, k70, k71, k74⟩ := mbegin_ok M
  have hgg := ig_gg hI
  have e0 : V1 0 = V 0 := sb.2.1
  rcases h n (V 0) V1 V1 J M M1 (by omega) (by rw [e0]; exact sb) (by rw [e0]; exact hgg) em sm with ⟨f, s, r, V2, J2, C2, M2, M3, hf, ec, sc, e2, ⟨S2, si⟩, hm⟩ | ⟨r, V2, J2, C2, S2, M2, ec, sc, si, e2, hg2⟩
  · obtain ⟨V3, ek, hI3⟩ := act_ref gg_ok (J2 := J2) hn (by omega) hI eb sc hf em (ms_same si k1 k4 k70 k71 k74) hm r
    refine ⟨(-1000000000, V3, J2, none), (-1000000000, M3), ?_, e2, rfl, hI3⟩
    rw [hF, eb]; simp only [Option.bind_some]
    rw [ec]; simp only [Option.bind_some]
    rw [ek]; simp only [Option.bind_some]
  · obtain ⟨V3, ko, M3, e3, e4, hI3⟩ := act_done gg_ok (J2 := J2) hn (by omega) hI eb sc em si hg2 r
    refine ⟨(r, V3, J2, ko), (r, M3), ?_, ?_, rfl, hI3⟩
    · rw [hF, eb]; simp only [Option.bind_some]
      rw [ec]; simp only [Option.bind_some]
      rw [e3]; simp only [Option.bind_some]
    · rw [e2, e4]; simp only [Option.bind_some]
theorem aok_nF {f : VT → Option (Int32 × VT)} {V : VT} {J : JT} : ((f_X11_begin V).bind fun r1 => (f r1).bind fun r2 => (f_X11_keep r2.1 r2.2).bind fun r3 => some (r3.1, r3.2.1, J, r3.2.2)) = (f_X11_begin V).bind fun r1 => (noJ f r1 J).bind fun r2 => (f_X11_keep r2.1 r2.2.1).bind fun r3 => some (r3.1, r3.2.1, r2.2.2, r3.2.2) := by
  congr 1; funext r1
  unfold noJ
  cases f r1 <;> rfl
/-- the reference refuses at once -/
theorem ref_m {S : AT} {M1 : VT} (f : Int32) (sm : Ms S M1 S 0 0 M1) (hf : f ≠ 0) : ∃ M2 M3, f_X12_is 1 f M1 = some (1, M2) ∧ f_X12_refused M2 = some (-1000000000, M3) ∧ Ms S M1 S f 0 M2 ∧ Mf S f 0 M2 M3 := by
  obtain ⟨M2, ei, si⟩ := is_yes f sm hf
  obtain ⟨M3, e3, hm⟩ := mref_ok si
  exact ⟨M2, M3, ei, e3, si, hm⟩
theorem aok_ref {ci : VT → Option (Int32 × VT)} {mz : Option (Int32 × VT)} {n : Nat} {O : AT} {B V : VT} {J : JT} {M M1 : VT} {C : AT} (f : Int32) (hf : f ≠ 0) (sb : St O B 1360 C 0 0 V) (sm : Ms (M 0) M1 (M 0) 0 0 M1) (hc : ∀ V2, f_X9_refuse f V = some (-1000000000, V2) → St O B 1360 C f 0 V2 → ci V = some (-1000000000, V2)) (hm : ∀ M2 M3, f_X12_is 1 f M1 = some (1, M2) → f_X12_refused M2 = some (-1000000000, M3) → mz = some (-1000000000, M3)) : AO n O B M M1 (noJ ci V J) mz := by
  obtain ⟨V2, er, sr⟩ := st_ref f sb
  obtain ⟨M2, M3, ei, e3, si, hm3⟩ := ref_m f sm hf
  exact Or.inl ⟨f, 0, -1000000000, V2, J, C, M2, M3, hf, noJ_eq (hc V2 er sr), sr, hm M2 M3 ei e3, ⟨_, si⟩, hm3⟩
theorem aok_refJ {cy : Option (Int32 × VT × JT)} {mz : Option (Int32 × VT)} {n : Nat} {O : AT} {B V : VT} {J : JT} {M M1 : VT} {C : AT} (f : Int32) (hf : f ≠ 0) (sb : St O B 1360 C 0 0 V) (sm : Ms (M 0) M1 (M 0) 0 0 M1) (hc : ∀ V2, f_X9_refuse f V = some (-1000000000, V2) → St O B 1360 C f 0 V2 → cy = some (-1000000000, V2, J)) (hm : ∀ M2 M3, f_X12_is 1 f M1 = some (1, M2) → f_X12_refused M2 = some (-1000000000, M3) → mz = some (-1000000000, M3)) : AO n O B M M1 cy mz := by
  obtain ⟨V2, er, sr⟩ := st_ref f sb
  obtain ⟨M2, M3, ei, e3, si, hm3⟩ := ref_m f sm hf
  exact Or.inl ⟨f, 0, -1000000000, V2, J, C, M2, M3, hf, hc V2 er sr, sr, hm M2 M3 ei e3, ⟨_, si⟩, hm3⟩
theorem aok_done {ci : VT → Option (Int32 × VT)} {mz : Option (Int32 × VT)} {n : Nat} {O : AT} {B V : VT} {J : JT} {M M1 : VT} {r : Int32} {V2 M2 : VT} {C2 S2 : AT} (sw : St O B 1360 C2 0 0 V2) (sm2 : Ms (M 0) M1 S2 0 0 M2) (hc : ci V = some (r, V2)) (hm : mz = (f_X12_keep r M2).bind fun r => some (r.1, r.2)) (hg : GG (n + 1) C2 S2) : AO n O B M M1 (noJ ci V J) mz :=
  Or.inr ⟨r, V2, J, C2, S2, M2, noJ_eq hc, sw, sm2, hm, hg⟩
/-- the first two refusals of an act on a bar: no bar, not rigged -/
theorem c_bar_ref {O : AT} {B V V2 : VT} {C : AT} {f : Int32} {v : Int32} (hf : f ≠ 0) (h : (v < 0 ∨ 12 ≤ v) ∧ f = 2 ∨ ∃ (b n : Nat) (S : AT), v = Int32.ofNat b ∧ b < 12 ∧ GG n (V 0) S ∧ ¬ S (21 * b) = 1 ∧ f = 1) (er : f_X9_refuse f V = some (-1000000000, V2)) (sr : St O B 1360 C f 0 V2) : f_X9_refusesBar v V = some (1, V2) := by
  rcases h with ⟨hv, rfl⟩ | ⟨b, n, S, rfl, hb, hg, h0, rfl⟩
  · unfold f_X9_refusesBar
    rw [c_isBar_no hv]; simp only [Option.bind_some, if_true]
    rw [er]; simp only [Option.bind_some]
    exact c_refBar_j sr hf
  · unfold f_X9_refusesBar
    rw [c_isBar_yes hb]; simp only [Option.bind_some]
    rw [if_neg (by decide), c_rigged hg hb, if_neg h0]; simp only [Option.bind_some, if_true]
    rw [er]; simp only [Option.bind_some]
    exact c_refBar_j sr hf
theorem i10 : ((1 : Int32) = 0) = False := eq_false (by decide)
theorem i01 : ((0 : Int32) = 1) = False := eq_false (by decide)
theorem leN {a b : Int32} : (a ≤ b) = ¬ (b < a) := propext Int32.not_lt.symm
theorem ite01 {α : Type} {p : Prop} [Decidable p] {X Y : α} : (if (if p then (0 : Int32) else 1) = 0 then X else Y) = if p then X else Y := by
  by_cases h : p
  · rw [if_pos h, if_pos rfl, if_pos h]
  · rw [if_neg h, if_neg (by decide), if_neg h]
theorem ite10 {α : Type} {p : Prop} [Decidable p] {X Y : α} : (if (if p then (1 : Int32) else 0) = 0 then X else Y) = if p then Y else X := by
  by_cases h : p
  · rw [if_pos h, if_neg (by decide), if_pos h]
  · rw [if_neg h, if_pos rfl, if_neg h]
theorem u2_id {V : VT} {k i : Nat} {x : Int32} (h : V k i = x) : u2 V k i x = V := by
  funext b j; rw [u2_at]
  by_cases q : b = k ∧ j = i
  · rw [if_pos q, q.1, q.2]; exact h.symm
  · rw [if_neg q]
theorem upd_ne {f : AT} {k : Nat} {x : Int32} {j : Nat} (h : j ≠ k) : upd f k x j = f j := by rw [upd_at, if_neg h]
theorem upd_same {f : AT} {k : Nat} {x : Int32} : upd f k x k = x := by rw [upd_at, if_pos rfl]
theorem in_eq {v a b : Int32} {M : VT} : f_X12_in v a b M = some (if v < a ∨ b < v then 0 else 1) := by
  by_cases h : v < a ∨ b < v
  · rw [if_pos h]; exact in_no h
  · rw [if_neg h]; exact in_yes (fun q => h (Or.inl q)) (fun q => h (Or.inr q))
/-! brick -/
theorem lg_lt0 {x y : Int64} : (lg_cmp x y < 0) ↔ x < y := by
  unfold lg_cmp
  have h1 := @Int64.lt_iff_toInt_lt y x
  have h2 := @Int64.lt_iff_toInt_lt x y
  have h3 : x = y ↔ x.toInt = y.toInt := Int64.toInt_inj.symm
  by_cases a : x > y
  · rw [if_pos a, h2]
    have := h1.mp a
    exact ⟨fun q => absurd q (by decide), fun q => by omega⟩
  · rw [if_neg a]
    have a2 : ¬ y.toInt < x.toInt := fun q => a (h1.mpr q)
    by_cases b : x = y
    · rw [if_pos b, h2]
      have := h3.mp b
      exact ⟨fun q => absurd q (by decide), fun q => by omega⟩
    · rw [if_neg b, h2]
      have b2 : ¬ x.toInt = y.toInt := fun q => b (h3.mpr q)
      exact ⟨fun _ => by omega, fun _ => by decide⟩
theorem lg_le0 {x y : Int64} : (lg_cmp x y ≤ 0) ↔ x ≤ y := by
  unfold lg_cmp
  have h1 := @Int64.lt_iff_toInt_lt y x
  have h2 := @Int64.le_iff_toInt_le x y
  have h3 : x = y ↔ x.toInt = y.toInt := Int64.toInt_inj.symm
  by_cases a : x > y
  · rw [if_pos a, h2]
    have := h1.mp a
    exact ⟨fun q => absurd q (by decide), fun q => by omega⟩
  · rw [if_neg a]
    have a2 : ¬ y.toInt < x.toInt := fun q => a (h1.mpr q)
    by_cases b : x = y
    · rw [if_pos b, h2]
      exact ⟨fun q => by omega, fun _ => by decide⟩
    · rw [if_neg b, h2]
      exact ⟨fun _ => by omega, fun _ => by decide⟩
theorem rg_long {x : Int64} {hi : Nat} (hh : hi < 2147483648) (h0 : 0 ≤ x.toInt) (h1 : x.toInt ≤ hi) : RG x.toInt32 0 hi := by
  refine ⟨x.toInt.toNat, Nat.zero_le _, by omega, ?_⟩
  rw [← Int32.toInt_inj, Int64.toInt_toInt32, ti_nat (by omega), Int.bmod_eq_of_le (by omega) (by omega)]
  omega
theorem gg_brick {n : Nat} {C C2 S S2 : AT} (h0 : GG n C S) (uC : ∀ j, (∀ b : Nat, b < 12 → j ≠ 4 * b + 3) → C j = C2 j) (uS : ∀ j, (∀ b : Nat, b < 12 → j ≠ 21 * b + 4) → S j = S2 j) (a_rb3 : R_rb3 C2 S2) (a_wbk : W_wbk (n + 1) S2) (a_wb4k : W_wb4k (n + 1) S2) : GG (n + 1) C2 S2 := by
  have h := gg_ok.1 _ _ _ h0
  exact ⟨⟨R_rb0_rg (fun b _ => uC (4 * b) (fun _ _ => by omega)) (fun b _ => uS (21 * b + 1) (fun _ _ => by omega)) h.1.rb0, R_rb1_rg (fun b _ => uC (4 * b + 1) (fun _ _ => by omega)) (fun b _ => uS (21 * b + 2) (fun _ _ => by omega)) h.1.rb1, R_rb2_rg (fun b _ => uC (4 * b + 2) (fun _ _ => by omega)) (fun b _ => uS (21 * b + 3) (fun _ _ => by omega)) h.1.rb2, a_rb3, R_rc_rg (fun b p _ _ => uC (48 + 16 * b + p) (fun _ _ => by omega)) (fun b p _ _ => uS (21 * b + 5 + p) (fun _ _ => by omega)) h.1.rc, R_rl0_rg (fun l _ => uC (240 + 12 * l) (fun _ _ => by omega)) (fun l _ => uS (252 + 12 * l) (fun _ _ => by omega)) h.1.rl0, R_rl1_rg (fun l _ => uC (240 + 12 * l + 1) (fun _ _ => by omega)) (fun l _ => uS (252 + 12 * l + 1) (fun _ _ => by omega)) h.1.rl1, R_rl2_rg (fun l _ => uC (240 + 12 * l + 2) (fun _ _ => by omega)) (fun l _ => uS (252 + 12 * l + 2) (fun _ _ => by omega)) h.1.rl2, R_rl3_rg (fun l _ => uC (240 + 12 * l + 3) (fun _ _ => by omega)) (fun l _ => uS (252 + 12 * l + 3) (fun _ _ => by omega)) h.1.rl3, R_rls_rg (fun l i _ _ => uC (240 + 12 * l + 4 + i) (fun _ _ => by omega)) (fun l i _ _ => uS (252 + 12 * l + 4 + i) (fun _ _ => by omega)) h.1.rls, R_rt0_rg (fun t _ => uC (720 + 8 * t) (fun _ _ => by omega)) (fun t _ => uS (732 + 5 * t) (fun _ _ => by omega)) h.1.rt0, R_rt1_rg (fun t _ => uC (720 + 8 * t + 1) (fun _ _ => by omega)) (fun t _ => uS (732 + 5 * t + 1) (fun _ _ => by omega)) h.1.rt1, R_rt2_rg (fun t _ => uC (720 + 8 * t + 2) (fun _ _ => by omega)) (fun t _ => uS (732 + 5 * t + 2) (fun _ _ => by omega)) h.1.rt2, R_rt3_rg (fun t _ => uC (720 + 8 * t + 3) (fun _ _ => by omega)) (fun t _ => uS (732 + 5 * t + 3) (fun _ _ => by omega)) h.1.rt3, R_rh_rg (fun t _ => uC (720 + 8 * t + 5) (fun _ _ => by omega)) (fun t _ => uS (732 + 5 * t + 4) (fun _ _ => by omega)) h.1.rh, R_rf_rg (fun k _ => uC (1360 + k) (fun _ _ => by omega)) (fun k _ => uS (1432 + k) (fun _ _ => by omega)) h.1.rf, R_rq0_rg (fun c _ => uC (1368 + 5 * c) (fun _ _ => by omega)) (fun c _ => uS (1132 + 5 * c) (fun _ _ => by omega)) h.1.rq0, R_rq1_rg (fun c _ => uC (1368 + 5 * c + 1) (fun _ _ => by omega)) (fun c _ => uS (1132 + 5 * c + 1) (fun _ _ => by omega)) h.1.rq1, R_rq2_rg (fun c _ => uC (1368 + 5 * c + 2) (fun _ _ => by omega)) (fun c _ => uS (1132 + 5 * c + 2) (fun _ _ => by omega)) h.1.rq2, R_rq3_rg (fun c _ => uC (1368 + 5 * c + 3) (fun _ _ => by omega)) (fun c _ => uS (1132 + 5 * c + 3) (fun _ _ => by omega)) h.1.rq3, R_rq4_rg (fun c _ => uC (1368 + 5 * c + 4) (fun _ _ => by omega)) (fun c _ => uS (1132 + 5 * c + 4) (fun _ _ => by omega)) h.1.rq4, R_rn0_rg (uC (1868) (fun _ _ => by omega)) (uS (1640) (fun _ _ => by omega)) h.1.rn0, R_rn1_rg (uC (1869) (fun _ _ => by omega)) (uS (1641) (fun _ _ => by omega)) h.1.rn1, R_rn2_rg (uC (1870) (fun _ _ => by omega)) (uS (1642) (fun _ _ => by omega)) h.1.rn2, R_rn3_rg (uC (1871) (fun _ _ => by omega)) (uS (1643) (fun _ _ => by omega)) h.1.rn3, R_rn4_rg (uC (1872) (fun _ _ => by omega)) (uS (1644) (fun _ _ => by omega)) h.1.rn4, R_rn5_rg (uC (1873) (fun _ _ => by omega)) (uS (1645) (fun _ _ => by omega)) h.1.rn5, R_rg_rg (uS (1641) (fun _ _ => by omega)) (fun t _ => uS (732 + 5 * t) (fun _ _ => by omega)) (fun t _ => uS (732 + 5 * t + 3) (fun _ _ => by omega)) (fun t _ => uC (720 + 8 * t + 4) (fun _ _ => by omega)) h.1.rg, R_rp_rg (uS (1641) (fun _ _ => by omega)) (fun t _ => uS (732 + 5 * t) (fun _ _ => by omega)) (fun b p _ _ => uS (21 * b + 5 + p) (fun _ _ => by omega)) (fun t _ => uC (720 + 8 * t + 6) (fun _ _ => by omega)) (fun t _ => uC (720 + 8 * t + 7) (fun _ _ => by omega)) h.1.rp, R_rs_rg (uS (1643) (fun _ _ => by omega)) (fun k _ => uS (1440 + k) (fun _ _ => by omega)) (fun k _ => uC (1668 + k) (fun _ _ => by omega)) h.1.rs⟩, ⟨W_wn0_rg (uS (1640) (fun _ _ => by omega)) h.2.wn0, W_wn1_rg (uS (1641) (fun _ _ => by omega)) h.2.wn1, W_wn2_rg (uS (1642) (fun _ _ => by omega)) h.2.wn2, W_wn3_rg (uS (1643) (fun _ _ => by omega)) h.2.wn3, W_wn4_rg (uS (1644) (fun _ _ => by omega)) h.2.wn4, W_wn5_rg (uS (1645) (fun _ _ => by omega)) h.2.wn5, W_wb0_rg (fun b _ => uS (21 * b) (fun _ _ => by omega)) h.2.wb0, W_wbp_rg (fun b _ => uS (21 * b) (fun _ _ => by omega)) (fun b _ => uS (21 * b + 1) (fun _ _ => by omega)) h.2.wbp, W_wbg_rg (fun b _ => uS (21 * b) (fun _ _ => by omega)) (fun b _ => uS (21 * b + 2) (fun _ _ => by omega)) h.2.wbg, W_wbh_rg (fun b _ => uS (21 * b) (fun _ _ => by omega)) (fun b _ => uS (21 * b + 3) (fun _ _ => by omega)) h.2.wbh, a_wbk, W_wb2_rg (fun b _ => uS (21 * b) (fun _ _ => by omega)) (fun b _ => uS (21 * b + 1) (fun _ _ => by omega)) h.2.wb2, W_wb2g_rg (fun b _ => uS (21 * b) (fun _ _ => by omega)) (fun b _ => uS (21 * b + 2) (fun _ _ => by omega)) h.2.wb2g, W_wb3_rg (fun b _ => uS (21 * b + 1) (fun _ _ => by omega)) (fun b p _ _ => uS (21 * b + 5 + p) (fun _ _ => by omega)) h.2.wb3, W_wb4_rg (fun b _ => uS (21 * b + 3) (fun _ _ => by omega)) h.2.wb4, a_wb4k, W_wb5_rg (fun b p _ _ => uS (21 * b + 5 + p) (fun _ _ => by omega)) (uS (1641) (fun _ _ => by omega)) h.2.wb5, W_wl0_rg (uS (1640) (fun _ _ => by omega)) (fun l _ => uS (252 + 12 * l + 3) (fun _ _ => by omega)) h.2.wl0, W_wla_rg (uS (1640) (fun _ _ => by omega)) (fun l _ => uS (252 + 12 * l) (fun _ _ => by omega)) h.2.wla, W_wlb_rg (uS (1640) (fun _ _ => by omega)) (fun l _ => uS (252 + 12 * l + 1) (fun _ _ => by omega)) h.2.wlb, W_wlc_rg (uS (1640) (fun _ _ => by omega)) (fun l _ => uS (252 + 12 * l + 2) (fun _ _ => by omega)) h.2.wlc, W_wld_rg (uS (1640) (fun _ _ => by omega)) (fun l _ => uS (252 + 12 * l + 3) (fun _ _ => by omega)) h.2.wld, W_wl2_rg (uS (1640) (fun _ _ => by omega)) (fun l _ => uS (252 + 12 * l + 2) (fun _ _ => by omega)) (fun l i _ _ => uS (252 + 12 * l + 4 + i) (fun _ _ => by omega)) h.2.wl2, W_wl4_rg (fun l _ => uS (252 + 12 * l + 3) (fun _ _ => by omega)) (fun l _ => uS (252 + 12 * l) (fun _ _ => by omega)) (fun l _ => uS (252 + 12 * l + 1) (fun _ _ => by omega)) h.2.wl4, W_wt0_rg (uS (1641) (fun _ _ => by omega)) (fun t _ => uS (732 + 5 * t) (fun _ _ => by omega)) h.2.wt0, W_wt1_rg (uS (1641) (fun _ _ => by omega)) (fun t _ => uS (732 + 5 * t + 1) (fun _ _ => by omega)) h.2.wt1, W_wt2_rg (uS (1641) (fun _ _ => by omega)) (fun t _ => uS (732 + 5 * t + 2) (fun _ _ => by omega)) h.2.wt2, W_wt3_rg (uS (1641) (fun _ _ => by omega)) (fun t _ => uS (732 + 5 * t + 3) (fun _ _ => by omega)) h.2.wt3, W_wt4_rg (uS (1641) (fun _ _ => by omega)) (fun t _ => uS (732 + 5 * t + 4) (fun _ _ => by omega)) (fun t _ => uS (732 + 5 * t) (fun _ _ => by omega)) h.2.wt4, W_wqa_rg (uS (1642) (fun _ _ => by omega)) (fun c _ => uS (1132 + 5 * c) (fun _ _ => by omega)) h.2.wqa, W_wqb_rg (uS (1642) (fun _ _ => by omega)) (fun c _ => uS (1132 + 5 * c + 1) (fun _ _ => by omega)) h.2.wqb, W_wqc_rg (uS (1642) (fun _ _ => by omega)) (fun c _ => uS (1132 + 5 * c + 2) (fun _ _ => by omega)) h.2.wqc, W_wqd_rg (uS (1642) (fun _ _ => by omega)) (fun c _ => uS (1132 + 5 * c + 3) (fun _ _ => by omega)) h.2.wqd, W_wqe_rg (uS (1642) (fun _ _ => by omega)) (fun c _ => uS (1132 + 5 * c + 4) (fun _ _ => by omega)) h.2.wqe, W_wq2_rg (uS (1642) (fun _ _ => by omega)) (fun c _ => uS (1132 + 5 * c) (fun _ _ => by omega)) (fun b _ => uS (21 * b) (fun _ _ => by omega)) (fun c _ => uS (1132 + 5 * c + 4) (fun _ _ => by omega)) (fun c _ => uS (1132 + 5 * c + 2) (fun _ _ => by omega)) (fun c _ => uS (1132 + 5 * c + 3) (fun _ _ => by omega)) (uS (1645) (fun _ _ => by omega)) h.2.wq2, W_wf_rg (fun k _ => uS (1432 + k) (fun _ _ => by omega)) h.2.wf, W_wh_rg (fun b p _ _ => uS (21 * b + 5 + p) (fun _ _ => by omega)) (fun t _ => uS (732 + 5 * t) (fun _ _ => by omega)) (fun t _ => uS (732 + 5 * t + 4) (fun _ _ => by omega)) h.2.wh⟩⟩
theorem aok_brick (v1 v2 : Int32) : AOK (noJ (f_X6_putBricks v1 v2)) (f_X12_brick v1 v2) := by
  intro n O B V J M M1 hn sb hgg em sm
  have hf0 : M1 7 2 = 0 := sm.2.2.2.1
  have h5 : V 11 5 = 0 := sb.2.2.2.2.1
  have m0 : M1 0 = M 0 := sm.1
  rcases rng 12 (by omega) v1 with ⟨b, hb, rfl⟩ | hbad
  · have e3 := m_isBar_yes (M := M1) hb
    have e4 := m_rigged (M := M1) hb
    rw [m0] at e4
    have eb := m_bar0 (b := b) (M := M1)
    have i2 := is_no 2 hf0
    have i1 := is_no 1 hf0
    by_cases h1 : M 0 (21 * b) = 1
    · have e1 := c_refBar_yes h5 hgg hb h1
      have e2 : f_X7_get 0 12 4 (Int32.ofNat b) 3 V = some (M 0 (21 * b + 4)) := by rw [← hgg.1.rb3 b hb]; exact gbar (c := 3) hb (by omega)
      have ek : ckA 1646 (Int32.ofNat (21 * b) + 4) = some (21 * b + 4) := ck_lit (Int32.ofNat_add (21 * b) 4).symm (by omega) (by omega)
      have i7 := is_no 7 hf0
      generalize hx : (M 0 (21 * b + 4)).toInt64 + v2.toInt64 = x
      by_cases hv : x < 0 ∨ ¬ x ≤ 2000
      · refine aok_ref 7 (by decide) sb sm (fun V2 er _ => ?_) (fun M2 M3 ei er2 => ?_)
        · unfold f_X6_putBricks f_X6_putBricks_j49
          by_cases q : x < 0
          · simp only [e1, e2, hx, lg_lt0, q, er, Option.bind_some, if_true, if_false, ite_self, i10, i01, ite01, ite10, true_or, or_true, false_or, or_false, ite_not, not_true_eq_false, not_false_eq_true]
          · have q2 := hv.resolve_left q
            simp only [e1, e2, hx, lg_lt0, lg_le0, q, q2, er, Option.bind_some, if_true, if_false, ite_self, i10, i01, ite01, ite10, true_or, or_true, false_or, or_false, ite_not, not_true_eq_false, not_false_eq_true]
        · by_cases q : x < 0
          · simp only [f_X12_brick_j45, f_X12_brick_j86, f_X12_brick_j81, f_X12_brick_j38, f_X12_brick_j17, f_X12_brick, em, e3, i2, e4, h1, i1, eb, ek, m0, hx, lg_lt0, q, ei, er2, Option.bind_some, if_true, if_false, ite_self, i10, i01, ite01, ite10, true_or, or_true, false_or, or_false, ite_not, not_true_eq_false, not_false_eq_true]
          · have q2 := hv.resolve_left q
            simp only [f_X12_brick_j45, f_X12_brick_j86, f_X12_brick_j81, f_X12_brick_j38, f_X12_brick_j17, f_X12_brick, em, e3, i2, e4, h1, i1, eb, ek, m0, hx, lg_lt0, lg_le0, q, q2, ei, er2, Option.bind_some, if_true, if_false, ite_self, i10, i01, ite01, ite10, true_or, or_true, false_or, or_false, ite_not, not_true_eq_false, not_false_eq_true]
      · have q : ¬ x < 0 := fun q => hv (Or.inl q)
        have q2 : x ≤ 2000 := Classical.byContradiction (fun q => hv (Or.inr q))
        have es : f_X7_set 0 12 4 (Int32.ofNat b) 3 x.toInt32 V = f_X4_write (Int32.ofNat (0 + b * 4 + 3)) x.toInt32 V := set_nat (B := 0) (R := 12) (C := 4) (c := 3) V _ hb (by omega) (by omega) (by omega)
        rw [show 0 + b * 4 + 3 = 4 * b + 3 by omega] at es
        obtain ⟨V2, ew, sw, -⟩ := st_write (c := 4 * b + 3) x.toInt32 sb (by omega) (by omega)
        have sm2 := ms_put (k := 21 * b + 4) x.toInt32 sm (by omega)
        refine aok_done (r := x.toInt32) sw sm2 ?_ ?_ ?_
        · simp only [f_X6_putBricks_j49, f_X6_putBricks, e1, e2, hx, lg_lt0, lg_le0, q, q2, es, ew, Option.bind_some, if_true, if_false, ite_self, i10, i01, ite01, ite10, true_or, or_true, false_or, or_false, ite_not, not_true_eq_false, not_false_eq_true]
        · simp only [f_X12_brick_j45, f_X12_brick_j86, f_X12_brick_j81, f_X12_brick_j38, f_X12_brick_j17, f_X12_brick, em, e3, i2, e4, h1, i1, eb, ek, m0, hx, lg_lt0, lg_le0, q, q2, i7, Option.bind_some, if_true, if_false, ite_self, i10, i01, ite01, ite10, true_or, or_true, false_or, or_false, ite_not, not_true_eq_false, not_false_eq_true]
        · have hx0 : 0 ≤ x.toInt := by
            have : ¬ x.toInt < (0 : Int64).toInt := fun p => q (Int64.lt_iff_toInt_lt.mpr p)
            rw [show (0 : Int64).toInt = 0 by decide] at this; omega
          have hx1 : x.toInt ≤ (2000 : Nat) := by
            have := Int64.le_iff_toInt_le.mp q2
            rw [show (2000 : Int64).toInt = 2000 by decide] at this; exact this
          have hxr := rg_long (by omega) hx0 hx1
          refine gg_brick hgg (fun j hj => by rw [upd_at, if_neg (hj b hb)]) (fun j hj => by rw [upd_at, if_neg (hj b hb)]) ?_ ?_ ?_
          · intro c hc
            rw [upd_at, upd_at]
            by_cases hcb : c = b
            · rw [if_pos (by omega), if_pos (by omega)]
            · rw [if_neg (by omega), if_neg (by omega)]; exact hgg.1.rb3 c hc
          · intro c hc h0
            have h00 : M 0 (21 * c) = 0 := by rw [upd_at, if_neg (by omega)] at h0; exact h0
            rw [upd_at, if_neg (fun e => by have hcb : c = b := by omega
                                            subst hcb; rw [h00] at h1; exact absurd h1 (by decide))]
            exact hgg.2.wbk c hc h00
          · intro c hc
            rw [upd_at]
            by_cases hcb : c = b
            · rw [if_pos (by omega)]; exact hxr
            · rw [if_neg (by omega)]; exact hgg.2.wb4k c hc
    · refine aok_ref 1 (by decide) sb sm (fun V2 er sr => ?_) (fun M2 M3 ei er2 => ?_)
      · have e1 := c_bar_ref (by decide) (Or.inr ⟨b, n, _, rfl, hb, hgg, h1, rfl⟩) er sr
        simp only [f_X6_putBricks_j49, f_X6_putBricks, e1, Option.bind_some, if_true, if_false, ite_self, i10, i01, ite01, ite10, true_or, or_true, false_or, or_false, leN, ite_not, not_true_eq_false, not_false_eq_true]
      · simp only [f_X12_brick_j45, f_X12_brick_j86, f_X12_brick_j81, f_X12_brick_j38, f_X12_brick_j17, f_X12_brick, em, e3, i2, e4, h1, ei, er2, Option.bind_some, if_true, if_false, ite_self, i10, i01, ite01, ite10, true_or, or_true, false_or, or_false, leN, ite_not, not_true_eq_false, not_false_eq_true]
  · have e3 := m_isBar_no (M := M1) hbad
    refine aok_ref 2 (by decide) sb sm (fun V2 er sr => ?_) (fun M2 M3 ei er2 => ?_)
    · have e1 := c_bar_ref (by decide) (Or.inl ⟨hbad, rfl⟩) er sr
      simp only [f_X6_putBricks_j49, f_X6_putBricks, e1, Option.bind_some, if_true, if_false, ite_self, i10, i01, ite01, ite10, true_or, or_true, false_or, or_false, leN, ite_not, not_true_eq_false, not_false_eq_true]
    · simp only [f_X12_brick_j45, f_X12_brick_j86, f_X12_brick_j81, f_X12_brick_j38, f_X12_brick_j17, f_X12_brick, em, e3, ei, er2, Option.bind_some, if_true, if_false, ite_self, i10, i01, ite01, ite10, true_or, or_true, false_or, or_false, leN, ite_not, not_true_eq_false, not_false_eq_true]
theorem o_brick : O_brick (IG GG) := fun _ _ _ _ _ v1 v2 hn hI => aok_run (aok_brick v1 v2) hn hI aok_nF
