theorem tm_J7_150 : Cond.methodLink RJ7 150 arraycopyName ∈ lw_T := List.mem_filter.mpr ⟨List.mem_append_right _ (List.mem_append_right _ (List.mem_append_left _ (List.mem_of_getElem? (i := 154) rfl))), rfl⟩
theorem tst_copy : Cond.static arraycopyName ∈ lw_T := List.mem_filter.mpr ⟨List.mem_append_right _ (List.mem_append_right _ (List.mem_append_left _ (List.mem_of_getElem? (i := 155) rfl))), rfl⟩
theorem tnat_copy : Cond.native arraycopyName ∈ lw_T := List.mem_filter.mpr ⟨List.mem_append_right _ (List.mem_append_right _ (List.mem_append_left _ (List.mem_of_getElem? (i := 156) rfl))), rfl⟩
theorem tnest_11 : Cond.methodLinkNest RX11 11 yX4_init RX11 ∈ lw_tbl := List.mem_append_right _ (List.mem_append_left _ (List.mem_of_getElem? (i := 27) rfl))
theorem tnest_18 : Cond.methodLinkNest RX11 18 yX9_init RX11 ∈ lw_tbl := List.mem_append_right _ (List.mem_append_left _ (List.mem_of_getElem? (i := 67) rfl))
def RMA (d mc ms : Nat) : Room := { frames := d, cells := mc, slots := ms, locals := 42 * d }
def PreE (E : State → Prop) (D : va_G) (cy : Nat → ClassId) (w : va_W) (sz : Nat) (U : State) : Prop := PreW D cy w sz U ∧ E U
def QA (D : va_G) (A : Nat → Prop) (Φ : va_W → Option Value → Prop) : Array Value → State → Outcome → State → Prop := fun _ s oc t => (∃ (w2 : va_W) (r : Option Value), oc = .returned r ∧ Φ w2 r ∧ va_P D vwCl w2 t.heap ∧ va_D A w2) ∧ va_F A s t
/-- a method that makes at most mc cells of ms slots -/
def CTA (E : State → Prop) (l : Launch) (D : va_G) (cy : Nat → ClassId) (y : MethodName) (b : ByteArray) (n : Nat) (ret : Option FieldType) (d mc ms : Nat) (av : List Value) (w : va_W) (Φ : va_W → Option Value → Prop) : Prop := ∀ sz : Nat, Met l y (TT y b n ret) (RMA d mc ms) (va_Pc av (PreE E D cy w sz)) (QA D (va_A w sz) Φ) mc ms (va_A w sz)
/-- what the constructors need beside the words -/
def EX (U : State) : Prop := va_AO "RiggingLoft$Deed" U ∧ va_Nw (.methodLinkNest RX11 11 yX4_init RX11) U ∧ va_Nw (.methodLinkNest RX11 18 yX9_init RX11) U
def EN (U : State) : Prop := True
def EOK (E : State → Prop) : Prop := (∀ (s U : State), s.WarmedH U.vm → E s → E U) ∧ ∀ (U : State) (g : JFrame) (mk : MethodId) (a : Array Value), E U → E (U.calling g mk a)
theorem en_ok : EOK EN := ⟨fun _ _ _ _ => trivial, fun _ _ _ _ _ => trivial⟩
theorem ex_ok : EOK EX := ⟨fun s U hW h => ⟨h.1.moved hW.alike, va_Nw.warmM hW h.2.1, va_Nw.warmM hW h.2.2⟩, fun U g mk a h => ⟨va_AO.moved (u := U) (U := U.calling g mk a) (Vm.Alike.refl U.vm) h.1, va_Nw.same (u := U) (U := U.calling g mk a) rfl rfl h.2.1, va_Nw.same (u := U) (U := U.calling g mk a) rfl rfl h.2.2⟩⟩
theorem pre_blindE {E : State → Prop} (hE : EOK E) {D : va_G} {cy : Nat → ClassId} {w : va_W} {sz : Nat} {av : List Value} : FrameBlind (va_Pc av (PreE E D cy w sz)) := fun a U g mk q => by
  obtain ⟨q0, ⟨q1, qP, qK, qD⟩, qE⟩ := q
  exact ⟨q0, ⟨q1, qP, va_K.moved (u := U) (U := U.calling g mk a) (Vm.Alike.refl U.vm) qK, qD⟩, hE.2 U g mk a qE⟩
def FAV (Γ : Gam) (cc : ByteArray) (mc ms : Nat) (Φ : va_W → Option Value → Prop) : Prop := ∀ {ce sl pc : Nat} {lv : List (Nat × Value)} {w : va_W} , ce ≤ mc → sl ≤ ms → Φ w none → va_D Γ.2.2.2.2.2.2.2.2.2.2.2.2.1 w → decode cc pc = .ok (.return_, 1) → Wp Γ ce sl pc lv [] w
theorem mkAV {E : State → Prop} {l : Launch} {D : va_G} {cy : Nat → ClassId} {y : MethodName} {b : ByteArray} {n d mc ms : Nat} {av : List Value} {w : va_W} {Φ : va_W → Option Value → Prop} (hy : plainName y.cls = true) (hn : (lg_sl av).length ≤ n) (body : ∀ Γ : Gam, CXg Γ b n d y.cls cy → E Γ.2.2.2.2.1 → Γ.2.2.2.1.cells = mc → Γ.2.2.2.1.slots = ms → Γ.2.2.2.2.2.2.2.2.1.name = y.name → va_D Γ.2.2.2.2.2.2.2.2.2.2.2.2.1 w → FAV Γ b mc ms Φ → Wp Γ 0 0 0 (lv_args 0 av) [] w) : CTA E l D cy y b n none d mc ms av w Φ := by
  intro sz
  refine Met.ofW (cc := b) (maxL := n) (ret := none) hy rfl ?_
  intro p e s m args below meth c s₁ B hml hv
  obtain ⟨rfl, ⟨hsz, hP, hK, hD0⟩, hE⟩ := hv
  have hx := B.exec
  have hb := B.bytes
  have hr := B.returns
  have hts := atoms_spec (ws := TT y b n none) B.pre
  have hown : s.vm.findClass y.cls = some m.cls := findClass_of_methodNamed B.named
  have hlocks := B.notSynchronized
  subst hsz
  have hD := hD0.self (sz := s.heap.size)
  have hS : va_S (va_A w s.heap.size) s.heap s.heap [] := va_S.rf
  have hl := lv_entry av (n := n) hn
  rw [lg_entry_eq]
  refine body (p, l, e, (headSpec (TT y b n none) (RMA d mc ms)).room, s, m, av.toArray, below, meth, c, MQ below (QA D (va_A w s.heap.size) Φ) av.toArray s mc ms (va_A w s.heap.size), D, va_A w s.heap.size, s.heap, n) ⟨⟨hx, hb, hml, hown, tt_of hts, hK⟩, fun q h => Or.inr h, rfl, Nat.le_refl _, Nat.le_refl _⟩ hE rfl rfl (name_of_methodNamed B.named B.method).1 hD ?_ s.heap [] _ hl hP hS
  intro ce sl pc lv w2 h1 h2 hΦ hD2 hdg H locs ls hl hP hS
  refine W.widen h1 h2 ?_
  exact W.vret hx hb hr (fun t ht hW => ⟨⟨w2, _, rfl, hΦ, by rw [ht]; exact hP, hD2⟩, hS.F ht⟩) hS.2.2 hdg hlocks
def FAI (Γ : Gam) (cc : ByteArray) (mc ms : Nat) (Φ : va_W → Option Value → Prop) : Prop := ∀ {ce sl pc : Nat} {lv : List (Nat × Value)} {w : va_W} {x : Int32} , ce ≤ mc → sl ≤ ms → Φ w (some (.int x)) → va_D Γ.2.2.2.2.2.2.2.2.2.2.2.2.1 w → decode cc pc = .ok (.ireturn, 1) → Wp Γ ce sl pc lv [.int x] w
theorem mkAI {E : State → Prop} {l : Launch} {D : va_G} {cy : Nat → ClassId} {y : MethodName} {b : ByteArray} {n d mc ms : Nat} {av : List Value} {w : va_W} {Φ : va_W → Option Value → Prop} (hy : plainName y.cls = true) (hn : (lg_sl av).length ≤ n) (body : ∀ Γ : Gam, CXg Γ b n d y.cls cy → E Γ.2.2.2.2.1 → Γ.2.2.2.1.cells = mc → Γ.2.2.2.1.slots = ms → Γ.2.2.2.2.2.2.2.2.1.name = y.name → va_D Γ.2.2.2.2.2.2.2.2.2.2.2.2.1 w → FAI Γ b mc ms Φ → Wp Γ 0 0 0 (lv_args 0 av) [] w) : CTA E l D cy y b n (some .int) d mc ms av w Φ := by
  intro sz
  refine Met.ofW (cc := b) (maxL := n) (ret := (some .int)) hy rfl ?_
  intro p e s m args below meth c s₁ B hml hv
  obtain ⟨rfl, ⟨hsz, hP, hK, hD0⟩, hE⟩ := hv
  have hx := B.exec
  have hb := B.bytes
  have hr := B.returns
  have hts := atoms_spec (ws := TT y b n (some .int)) B.pre
  have hown : s.vm.findClass y.cls = some m.cls := findClass_of_methodNamed B.named
  have hlocks := B.notSynchronized
  subst hsz
  have hD := hD0.self (sz := s.heap.size)
  have hS : va_S (va_A w s.heap.size) s.heap s.heap [] := va_S.rf
  have hl := lv_entry av (n := n) hn
  rw [lg_entry_eq]
  refine body (p, l, e, (headSpec (TT y b n (some .int)) (RMA d mc ms)).room, s, m, av.toArray, below, meth, c, MQ below (QA D (va_A w s.heap.size) Φ) av.toArray s mc ms (va_A w s.heap.size), D, va_A w s.heap.size, s.heap, n) ⟨⟨hx, hb, hml, hown, tt_of hts, hK⟩, fun q h => Or.inr h, rfl, Nat.le_refl _, Nat.le_refl _⟩ hE rfl rfl (name_of_methodNamed B.named B.method).1 hD ?_ s.heap [] _ hl hP hS
  intro ce sl pc lv w2 x h1 h2 hΦ hD2 hdg H locs ls hl hP hS
  refine W.widen h1 h2 ?_
  exact W.iret hx hb hr (fun t ht hW => ⟨⟨w2, _, rfl, hΦ, by rw [ht]; exact hP, hD2⟩, hS.F ht⟩) hS.2.2 hdg hlocks
def FAR (Γ : Gam) (cc : ByteArray) (mc ms : Nat) (Φ : va_W → Option Value → Prop) : Prop := ∀ {ce sl pc : Nat} {lv : List (Nat × Value)} {w : va_W} {x : Nat} , ce ≤ mc → sl ≤ ms → Φ w (some (.ref x)) → va_D Γ.2.2.2.2.2.2.2.2.2.2.2.2.1 w → decode cc pc = .ok (.areturn, 1) → Wp Γ ce sl pc lv [.ref x] w
theorem mkAR {E : State → Prop} {l : Launch} {D : va_G} {cy : Nat → ClassId} {y : MethodName} {b : ByteArray} {n d mc ms : Nat} {rt : FieldType} {av : List Value} {w : va_W} {Φ : va_W → Option Value → Prop} (hy : plainName y.cls = true) (hn : (lg_sl av).length ≤ n) (hrt : (∃ n, rt = .object n) ∨ ∃ t, rt = .array t) (body : ∀ Γ : Gam, CXg Γ b n d y.cls cy → E Γ.2.2.2.2.1 → Γ.2.2.2.1.cells = mc → Γ.2.2.2.1.slots = ms → Γ.2.2.2.2.2.2.2.2.1.name = y.name → va_D Γ.2.2.2.2.2.2.2.2.2.2.2.2.1 w → FAR Γ b mc ms Φ → Wp Γ 0 0 0 (lv_args 0 av) [] w) : CTA E l D cy y b n (some rt) d mc ms av w Φ := by
  intro sz
  refine Met.ofW (cc := b) (maxL := n) (ret := (some rt)) hy rfl ?_
  intro p e s m args below meth c s₁ B hml hv
  obtain ⟨rfl, ⟨hsz, hP, hK, hD0⟩, hE⟩ := hv
  have hx := B.exec
  have hb := B.bytes
  have hr := B.returns
  have hts := atoms_spec (ws := TT y b n (some rt)) B.pre
  have hown : s.vm.findClass y.cls = some m.cls := findClass_of_methodNamed B.named
  have hlocks := B.notSynchronized
  subst hsz
  have hD := hD0.self (sz := s.heap.size)
  have hS : va_S (va_A w s.heap.size) s.heap s.heap [] := va_S.rf
  have hl := lv_entry av (n := n) hn
  rw [lg_entry_eq]
  refine body (p, l, e, (headSpec (TT y b n (some rt)) (RMA d mc ms)).room, s, m, av.toArray, below, meth, c, MQ below (QA D (va_A w s.heap.size) Φ) av.toArray s mc ms (va_A w s.heap.size), D, va_A w s.heap.size, s.heap, n) ⟨⟨hx, hb, hml, hown, tt_of hts, hK⟩, fun q h => Or.inr h, rfl, Nat.le_refl _, Nat.le_refl _⟩ hE rfl rfl (name_of_methodNamed B.named B.method).1 hD ?_ s.heap [] _ hl hP hS
  intro ce sl pc lv w2 x h1 h2 hΦ hD2 hdg H locs ls hl hP hS
  refine W.widen h1 h2 ?_
  exact W.aret hx hb hr hrt (Or.inr ⟨_, rfl⟩) (fun t ht hW => ⟨⟨w2, _, rfl, hΦ, by rw [ht]; exact hP, hD2⟩, hS.F ht⟩) hS.2.2 hdg hlocks
section CALLA
variable {p : Program} {l : Launch} {e : Env} {R : Room} {s : State} {m : MethodId} {args : Array Value} {below : List Frame} {meth : Method} {c : Code} {H : Heap} {locs : List Loc} {cells slots : Nat} {Q : State → Prop}
variable {pc : Nat} {ls : Array Slot} {rest st0 : List Value} {a : Array Value} {A0 A1 : Nat → Prop} {H0 : Heap} {mc ms : Nat} {free : Addr → Prop}
theorem call_anyA {D : va_G} {Φ : va_W → Option Value → Prop} (hr : va_Run p l e R s m args below meth c H locs cells slots mc ms (F0 m pc ls st0) rest (QA D A1 Φ a) free) (hS : va_S A0 H0 H locs) (hA : ∀ q, q < H.size → A1 q → A0 q) (hf : ∀ q, free q → A0 q)
    (kk : ∀ (w2 : va_W) (r : Option Value) (H1 : Heap) (locs1 : List Loc), Φ w2 r → va_P D vwCl w2 H1 → va_D A1 w2 → va_S A0 H0 H1 locs1 → W p l e R s m args below meth c H1 locs1 (cells + mc) (slots + ms) Q (F0 m (pc + 3) ls (r.toList ++ rest))) : W p l e R s m args below meth c H locs cells slots Q (F0 m pc ls st0) := by
  intro T hT X
  obtain ⟨v, st₀, t, T2, L, h0, X2, hL, e1, e2, ⟨⟨w2, r, hv, hΦ, hb, hd⟩, hz, hk⟩, st⟩ := hr T hT X
  cases hv
  rw [h0] at hz hk
  obtain ⟨t2, a1, b1⟩ := kk w2 v T2.heap (locs ++ L) hΦ (by rw [e1]; exact hb) hd
    ⟨Nat.le_trans hS.1 (by rw [e1]; exact hz), fun q h1 h2 => by rw [e1, hk q (Nat.lt_of_lt_of_le h1 hS.1) (fun z => h2 (hA q (Nat.lt_of_lt_of_le h1 hS.1) z))]; exact hS.2.1 q h1 h2, fun q hq => by
      rcases List.mem_append.mp hq with h | h
      · exact hS.2.2 q h
      · exact hf _ (hL q h)⟩ T2 rfl X2
  exact ⟨t2, st t2 a1, b1⟩
end CALLA
section CALLX
variable {Γ : Gam} {cc : ByteArray} {n d : Nat} {own : String} {cy : Nat → ClassId} {ce sl pc : Nat} {lv : List (Nat × Value)} {rest : List Value} {w : va_W} {y : MethodName} {cb : ByteArray} {mL d2 index mc ms na : Nat} {ret : Option FieldType} {C : String} {b : Nat} {E : State → Prop} {Φ : va_W → Option Value → Prop} {As : List Value}
theorem callAV (C0 : CXg Γ cc n d own cy) (hE : EOK E) (hE0 : E Γ.2.2.2.2.1) (hD : va_D Γ.2.2.2.2.2.2.2.2.2.2.2.2.1 w) (hm : MW y cb mL ret C na) (hrv : RV w b C) (hlk : Cond.methodLink own index y ∈ lw_T) (hM : CTA E Γ.2.1 Γ.2.2.2.2.2.2.2.2.2.2.2.1 cy y cb mL ret d2 mc ms (.ref b :: As) w Φ) (hna : As.length = na) (hd : d2 + 1 ≤ d) (hst : (rest.map fun v => v.category).sum ≤ 8) (hce : ce + mc ≤ Γ.2.2.2.1.cells ∧ sl + ms ≤ Γ.2.2.2.1.slots) (hdg : decode cc pc = .ok (.invokevirtual index, 3)) (k : ∀ (w2 : va_W) (r : Option Value), Φ w2 r → va_D Γ.2.2.2.2.2.2.2.2.2.2.2.2.1 w2 → Wp Γ (ce + mc) (sl + ms) (pc + 3) lv (r.toList ++ rest) w2) : Wp Γ ce sl pc lv (As.reverse ++ .ref b :: rest) w := by
  intro H locs ls hl hP hS
  have hK : va_K Γ.2.2.2.2.2.2.2.2.2.2.2.1 vwCl (TY cy) Γ.2.2.2.2.1 := C0.1.2.2.2.2.2
  have hts := C0.1.2.2.2.2.1
  have h23 := hm.2.2.2.2.2.2
  have hR : (RMA d2 mc ms).frames + 1 ≤ Γ.2.2.2.1.frames ∧ 8 + (mL + 11) + (RMA d2 mc ms).locals ≤ Γ.2.2.2.1.locals := by
    have c1 := C0.2.2.2.1
    have c2 := C0.2.2.2.2
    exact ⟨Nat.le_trans hd c1, Nat.le_trans (by show 8 + (mL + 11) + 42 * d2 ≤ 42 * d; omega) c2⟩
  have cb0 := callB_of (R := Γ.2.2.2.1) (s := Γ.2.2.2.2.1) (args := Γ.2.2.2.2.2.2.1) (own := own) (index := index) (rm := RMA d2 mc ms) (mc := mc) (ms := ms) na hts (goodT hm.1) rfl rfl rfl (by rw [hm.2.2.2.2.1]; exact hts _ hm.2.2.2.1) (hts _ hlk) hm.2.2.2.2.2.1 hR
  obtain ⟨ci, vc, qr, fs, g1, rfl, g3⟩ := hrv
  have hA1 : ∀ q : Nat, va_A w H.size q → Γ.2.2.2.2.2.2.2.2.2.2.2.2.1 q := fun q hq => by
    rcases hq with ⟨k0, e0, h0⟩ | h0
    · exact hD.2 k0 _ h0
    · exact C0.2.1 q (Nat.le_trans hS.1 h0)
  exact call_anyA (va_runV (As := As) (rest := rest) (C := vc.1) ⟨C0.1.1, C0.1.2.1, C0.1.2.2.1, C0.1.2.2.2.1, hts⟩ (hM H.size) ⟨cb0, hts _ hm.2.1, hts _ hm.2.2.1⟩ ⟨pre_blindE hE, va_recv hK hP g1 g3, fun U hU hW => ⟨rfl, ⟨by rw [hU], by rw [hU]; exact hP, va_K.moved hW.alike hK, hD.weaken (fun _ _ _ _ => trivial)⟩, hE.1 _ U hW hE0⟩⟩ rfl hna hl.1 rfl (lv_room hst) hdg hce) hS (fun q _ hq => hA1 q hq) hA1 (fun w2 r H1 locs1 hΦ hP1 hD1 hS1 => k w2 r hΦ (hD1.weaken (fun _ _ _ hq => hA1 _ hq)) H1 locs1 ls hl hP1 hS1)
theorem callAS (C0 : CXg Γ cc n d own cy) (hE : EOK E) (hE0 : E Γ.2.2.2.2.1) (hD : va_D Γ.2.2.2.2.2.2.2.2.2.2.2.2.1 w) (hm : MS y cb mL ret na) (hlk : Cond.methodLink own index y ∈ lw_T) (hM : CTA E Γ.2.1 Γ.2.2.2.2.2.2.2.2.2.2.2.1 cy y cb mL ret d2 mc ms As w Φ) (hna : As.length = na) (hd : d2 + 1 ≤ d) (hst : (rest.map fun v => v.category).sum ≤ 8) (hce : ce + mc ≤ Γ.2.2.2.1.cells ∧ sl + ms ≤ Γ.2.2.2.1.slots) (hdg : decode cc pc = .ok (.invokestatic index, 3)) (k : ∀ (w2 : va_W) (r : Option Value), Φ w2 r → va_D Γ.2.2.2.2.2.2.2.2.2.2.2.2.1 w2 → Wp Γ (ce + mc) (sl + ms) (pc + 3) lv (r.toList ++ rest) w2) : Wp Γ ce sl pc lv (As.reverse ++ rest) w := by
  intro H locs ls hl hP hS
  have hK : va_K Γ.2.2.2.2.2.2.2.2.2.2.2.1 vwCl (TY cy) Γ.2.2.2.2.1 := C0.1.2.2.2.2.2
  have hts := C0.1.2.2.2.2.1
  have h23 := hm.2.2.2.2
  have hR : (RMA d2 mc ms).frames + 1 ≤ Γ.2.2.2.1.frames ∧ 8 + (mL + 11) + (RMA d2 mc ms).locals ≤ Γ.2.2.2.1.locals := by
    have c1 := C0.2.2.2.1
    have c2 := C0.2.2.2.2
    exact ⟨Nat.le_trans hd c1, Nat.le_trans (by show 8 + (mL + 11) + 42 * d2 ≤ 42 * d; omega) c2⟩
  have cb0 := callB_of (R := Γ.2.2.2.1) (s := Γ.2.2.2.2.1) (args := Γ.2.2.2.2.2.2.1) (own := own) (index := index) (rm := RMA d2 mc ms) (mc := mc) (ms := ms) na hts (goodT hm.1) rfl rfl rfl (hts _ hm.2.2.1) (hts _ hlk) hm.2.2.2.1 hR
  have hA1 : ∀ q : Nat, va_A w H.size q → Γ.2.2.2.2.2.2.2.2.2.2.2.2.1 q := fun q hq => by
    rcases hq with ⟨k0, e0, h0⟩ | h0
    · exact hD.2 k0 _ h0
    · exact C0.2.1 q (Nat.le_trans hS.1 h0)
  exact call_anyA (va_runS (As := As) (rest := rest) ⟨C0.1.1, C0.1.2.1, C0.1.2.2.1, C0.1.2.2.2.1, hts⟩ (hM H.size) ⟨cb0, hts _ hm.2.1⟩ ⟨pre_blindE hE, fun U hU hW => ⟨rfl, ⟨by rw [hU], by rw [hU]; exact hP, va_K.moved hW.alike hK, hD.weaken (fun _ _ _ _ => trivial)⟩, hE.1 _ U hW hE0⟩⟩ rfl hna hl.1 rfl (lv_room hst) hdg hce) hS (fun q _ hq => hA1 q hq) hA1 (fun w2 r H1 locs1 hΦ hP1 hD1 hS1 => k w2 r hΦ (hD1.weaken (fun _ _ _ hq => hA1 _ hq)) H1 locs1 ls hl hP1 hS1)
/-- the words of a constructor that is called -/
def MI (y : MethodName) (cb : ByteArray) (mL : Nat) (na : Nat) : Prop := Cond.code y cb mL none ∈ lw_T ∧ Cond.instanceMethod y ∈ lw_T ∧ Cond.initialized y.cls ∈ lw_T ∧ y.name = "<init>" ∧ (y.cls ≠ "java/lang/invoke/MethodHandle" ∧ y.cls ≠ "java/lang/invoke/VarHandle" ∧ (parseMethodDescriptor y.desc).map (fun d => d.parameters.length) = some na) ∧ mL ≤ 23
theorem callAI (C0 : CXg Γ cc n d own cy) (hE : EOK E) (hE0 : E Γ.2.2.2.2.1) (hD : va_D Γ.2.2.2.2.2.2.2.2.2.2.2.2.1 w) (hm : MI y cb mL na) (hlk : Cond.methodLink own index y ∈ lw_T) (hM : CTA E Γ.2.1 Γ.2.2.2.2.2.2.2.2.2.2.2.1 cy y cb mL none d2 mc ms (.ref b :: As) w Φ) (hna : As.length = na) (hd : d2 + 1 ≤ d) (hst : (rest.map fun v => v.category).sum ≤ 8) (hce : ce + mc ≤ Γ.2.2.2.1.cells ∧ sl + ms ≤ Γ.2.2.2.1.slots) (hdg : decode cc pc = .ok (.invokespecial index, 3)) (k : ∀ (w2 : va_W) (r : Option Value), Φ w2 r → va_D Γ.2.2.2.2.2.2.2.2.2.2.2.2.1 w2 → Wp Γ (ce + mc) (sl + ms) (pc + 3) lv (r.toList ++ rest) w2) : Wp Γ ce sl pc lv (As.reverse ++ .ref b :: rest) w := by
  intro H locs ls hl hP hS
  have hK : va_K Γ.2.2.2.2.2.2.2.2.2.2.2.1 vwCl (TY cy) Γ.2.2.2.2.1 := C0.1.2.2.2.2.2
  have hts := C0.1.2.2.2.2.1
  have h23 := hm.2.2.2.2.2
  have hR : (RMA d2 mc ms).frames + 1 ≤ Γ.2.2.2.1.frames ∧ 8 + (mL + 11) + (RMA d2 mc ms).locals ≤ Γ.2.2.2.1.locals := by
    have c1 := C0.2.2.2.1
    have c2 := C0.2.2.2.2
    exact ⟨Nat.le_trans hd c1, Nat.le_trans (by show 8 + (mL + 11) + 42 * d2 ≤ 42 * d; omega) c2⟩
  have cb0 := callB_of (R := Γ.2.2.2.1) (s := Γ.2.2.2.2.1) (args := Γ.2.2.2.2.2.2.1) (own := own) (index := index) (rm := RMA d2 mc ms) (mc := mc) (ms := ms) na hts (goodT hm.1) rfl rfl rfl (hts _ hm.2.2.1) (hts _ hlk) hm.2.2.2.2.1 hR
  have hA1 : ∀ q : Nat, va_A w H.size q → Γ.2.2.2.2.2.2.2.2.2.2.2.2.1 q := fun q hq => by
    rcases hq with ⟨k0, e0, h0⟩ | h0
    · exact hD.2 k0 _ h0
    · exact C0.2.1 q (Nat.le_trans hS.1 h0)
  exact call_anyA (va_runI (As := As) (rest := rest) ⟨C0.1.1, C0.1.2.1, C0.1.2.2.1, C0.1.2.2.2.1, hts⟩ (hM H.size) ⟨cb0, hm.2.2.2.1, hts _ hm.2.1⟩ ⟨pre_blindE hE, fun U hU hW => ⟨rfl, ⟨by rw [hU], by rw [hU]; exact hP, va_K.moved hW.alike hK, hD.weaken (fun _ _ _ _ => trivial)⟩, hE.1 _ U hW hE0⟩⟩ rfl hna hl.1 rfl (lv_room hst) hdg hce) hS (fun q _ hq => hA1 q hq) hA1 (fun w2 r H1 locs1 hΦ hP1 hD1 hS1 => k w2 r hΦ (hD1.weaken (fun _ _ _ hq => hA1 _ hq)) H1 locs1 ls hl hP1 hS1)
theorem callAN {host : String} (C0 : CXg Γ cc n d own cy) (hE : EOK E) (hE0 : E Γ.2.2.2.2.1) (hD : va_D Γ.2.2.2.2.2.2.2.2.2.2.2.2.1 w) (hm : MI y cb mL na) (hlk : va_Nw (.methodLinkNest own index y host) Γ.2.2.2.2.1) (hM : CTA E Γ.2.1 Γ.2.2.2.2.2.2.2.2.2.2.2.1 cy y cb mL none d2 mc ms (.ref b :: As) w Φ) (hna : As.length = na) (hd : d2 + 1 ≤ d) (hst : (rest.map fun v => v.category).sum ≤ 8) (hce : ce + mc ≤ Γ.2.2.2.1.cells ∧ sl + ms ≤ Γ.2.2.2.1.slots) (hdg : decode cc pc = .ok (.invokespecial index, 3)) (k : ∀ (w2 : va_W) (r : Option Value), Φ w2 r → va_D Γ.2.2.2.2.2.2.2.2.2.2.2.2.1 w2 → Wp Γ (ce + mc) (sl + ms) (pc + 3) lv (r.toList ++ rest) w2) : Wp Γ ce sl pc lv (As.reverse ++ .ref b :: rest) w := by
  intro H locs ls hl hP hS
  have hK : va_K Γ.2.2.2.2.2.2.2.2.2.2.2.1 vwCl (TY cy) Γ.2.2.2.2.1 := C0.1.2.2.2.2.2
  have hts := C0.1.2.2.2.2.1
  have h23 := hm.2.2.2.2.2
  have hR : (RMA d2 mc ms).frames + 1 ≤ Γ.2.2.2.1.frames ∧ 8 + (mL + 11) + (RMA d2 mc ms).locals ≤ Γ.2.2.2.1.locals := by
    have c1 := C0.2.2.2.1
    have c2 := C0.2.2.2.2
    exact ⟨Nat.le_trans hd c1, Nat.le_trans (by show 8 + (mL + 11) + 42 * d2 ≤ 42 * d; omega) c2⟩
  have cb0 := va_cnB (R := Γ.2.2.2.1) (s := Γ.2.2.2.2.1) (args := Γ.2.2.2.2.2.2.1) (own := own) (index := index) (rm := RMA d2 mc ms) (mc := mc) (ms := ms) na hts (goodT hm.1) rfl rfl rfl hlk (hts _ hm.2.2.1) hm.2.2.2.2.1 hR
  have hA1 : ∀ q : Nat, va_A w H.size q → Γ.2.2.2.2.2.2.2.2.2.2.2.2.1 q := fun q hq => by
    rcases hq with ⟨k0, e0, h0⟩ | h0
    · exact hD.2 k0 _ h0
    · exact C0.2.1 q (Nat.le_trans hS.1 h0)
  exact call_anyA (va_runIN (As := As) (rest := rest) ⟨C0.1.1, C0.1.2.1, C0.1.2.2.1, C0.1.2.2.2.1, hts⟩ (hM H.size) ⟨cb0, hm.2.2.2.1, hts _ hm.2.1⟩ ⟨pre_blindE hE, fun U hU hW => ⟨rfl, ⟨by rw [hU], by rw [hU]; exact hP, va_K.moved hW.alike hK, hD.weaken (fun _ _ _ _ => trivial)⟩, hE.1 _ U hW hE0⟩⟩ rfl hna hl.1 rfl (lv_room hst) hdg hce) hS (fun q _ hq => hA1 q hq) hA1 (fun w2 r H1 locs1 hΦ hP1 hD1 hS1 => k w2 r hΦ (hD1.weaken (fun _ _ _ hq => hA1 _ hq)) H1 locs1 ls hl hP1 hS1)
end CALLX
theorem arr_same {U : State} {c1 c2 : ClassId} {ty : FieldType} (h1 : va_RA U c1 ty) (h2 : va_RA U c2 ty) : c1 = c2 := by
  cases ty with
  | object C =>
    obtain ⟨_, _, _, _, _, a⟩ := h1
    obtain ⟨_, _, _, _, _, b⟩ := h2
    exact Option.some.inj (a.symm.trans b)
  | _ => exact Option.some.inj ((show U.vm.findClass _ = some c1 from h1).symm.trans (show U.vm.findClass _ = some c2 from h2))
section RULES2
variable {Γ : Gam} {cc : ByteArray} {n d : Nat} {own : String} {cy : Nat → ClassId} {ce sl pc : Nat} {lv : List (Nat × Value)} {st : List Value} {w : va_W}
theorem r_new (C0 : CXg Γ cc n d own cy) {C : String} {T : u_T} {N ci index : Nat} (hin : ∀ w ∈ u_ws C T N, w ∈ lw_T) (ty : Nat → FieldType) (hty : ∀ k, k < N → parseFieldDescriptor (T k).2.2.1 = some (ty k)) (hcl : Cond.classLink own index C ∈ lw_T) (hinst : Cond.instantiable C N ∈ lw_T) (hini : Cond.initialized C ∈ lw_T) (hD : va_D Γ.2.2.2.2.2.2.2.2.2.2.2.2.1 w) (hc : vwCl[ci]? = some (C, T, N)) {fs : List Value} (hfs : ∀ j, j < N → defaultValue (ty j) = vp_V fs j) (hce : ce + 1 ≤ Γ.2.2.2.1.cells) (hsl : sl + N ≤ Γ.2.2.2.1.slots) (hdg : decode cc pc = .ok (.new index, 3)) (k : ∀ q : Nat, va_D Γ.2.2.2.2.2.2.2.2.2.2.2.2.1 (w ++ [(q, .inr (ci, fs))]) → Wp Γ (ce + 1) (sl + N) (pc + 3) lv (.ref q :: st) (w ++ [(q, .inr (ci, fs))])) : Wp Γ ce sl pc lv st w := fun H locs ls hl hP hS => va_new C0.1.1 C0.1.2.1 C0.1.2.2.2.2.1 hin ty hty C0.1.2.2.2.1 (C0.1.2.2.2.2.1 _ hcl) (C0.1.2.2.2.2.1 _ hinst) (C0.1.2.2.2.2.1 _ hini) C0.1.2.2.2.2.2 hP hD hS C0.2.1 hc hfs hce hsl hdg (fun q H1 hP1 hD1 hS1 => k q hD1 H1 locs ls hl hP1 hS1)
theorem r_newaI (C0 : CXg Γ cc n d own cy) (hD : va_D Γ.2.2.2.2.2.2.2.2.2.2.2.2.1 w) {x : Int32} {N : Nat} (hn : ¬ x < 0) (hN : x.toNatClampNeg = N) (hb : N * 8 ≤ 536870912) (hce : ce + 1 ≤ Γ.2.2.2.1.cells) (hsl : sl + N ≤ Γ.2.2.2.1.slots) (hdg : decode cc pc = .ok (.newarray .int, 2)) (k : ∀ q : Nat, va_D Γ.2.2.2.2.2.2.2.2.2.2.2.2.1 (w ++ [(q, .inl (cy 0, N, .inl (fun _ => 0)))]) → Wp Γ (ce + 1) (sl + N) (pc + 2) lv (.ref q :: st) (w ++ [(q, .inl (cy 0, N, .inl (fun _ => 0)))])) : Wp Γ ce sl pc lv (.int x :: st) w := by
  intro H locs ls hl hP hS
  have hK : va_K Γ.2.2.2.2.2.2.2.2.2.2.2.1 vwCl (TY cy) Γ.2.2.2.2.1 := C0.1.2.2.2.2.2
  refine va_newa (atype := .int) (ty := .int) (a0 := (N, .inl (fun _ => 0))) C0.1.1 C0.1.2.1 (C0.1.2.2.2.2.1 _ tac_int) rfl hK hP hD hS C0.2.1 (fun cA => rfl) hn hN (Nat.le_trans (Nat.mul_le_mul_left N (by decide)) hb) hce hsl hdg (fun q cA H1 hK1 hP1 hD1 hS1 => ?_)
  have hcA : cA = cy 0 := arr_same (hK1.2 4 (cA, .int) rfl).2 (hK.2 0 (cy 0, .int) rfl).2
  subst hcA
  exact k q hD1 H1 locs ls hl hP1 hS1
theorem r_newaJ (C0 : CXg Γ cc n d own cy) (hD : va_D Γ.2.2.2.2.2.2.2.2.2.2.2.2.1 w) {x : Int32} {N : Nat} (hn : ¬ x < 0) (hN : x.toNatClampNeg = N) (hb : N * 8 ≤ 536870912) (hce : ce + 1 ≤ Γ.2.2.2.1.cells) (hsl : sl + N ≤ Γ.2.2.2.1.slots) (hdg : decode cc pc = .ok (.newarray .long, 2)) (k : ∀ q : Nat, va_D Γ.2.2.2.2.2.2.2.2.2.2.2.2.1 (w ++ [(q, .inl (cy 1, N, .inr (.inl (fun _ => 0))))]) → Wp Γ (ce + 1) (sl + N) (pc + 2) lv (.ref q :: st) (w ++ [(q, .inl (cy 1, N, .inr (.inl (fun _ => 0))))])) : Wp Γ ce sl pc lv (.int x :: st) w := by
  intro H locs ls hl hP hS
  have hK : va_K Γ.2.2.2.2.2.2.2.2.2.2.2.1 vwCl (TY cy) Γ.2.2.2.2.1 := C0.1.2.2.2.2.2
  refine va_newa (atype := .long) (ty := .long) (a0 := (N, .inr (.inl (fun _ => 0)))) C0.1.1 C0.1.2.1 (C0.1.2.2.2.2.1 _ tac_long) rfl hK hP hD hS C0.2.1 (fun cA => rfl) hn hN (Nat.le_trans (Nat.mul_le_mul_left N (by decide)) hb) hce hsl hdg (fun q cA H1 hK1 hP1 hD1 hS1 => ?_)
  have hcA : cA = cy 1 := arr_same (hK1.2 4 (cA, .long) rfl).2 (hK.2 1 (cy 1, .long) rfl).2
  subst hcA
  exact k q hD1 H1 locs ls hl hP1 hS1
theorem r_newaZ (C0 : CXg Γ cc n d own cy) (hD : va_D Γ.2.2.2.2.2.2.2.2.2.2.2.2.1 w) {x : Int32} {N : Nat} (hn : ¬ x < 0) (hN : x.toNatClampNeg = N) (hb : N * 8 ≤ 536870912) (hce : ce + 1 ≤ Γ.2.2.2.1.cells) (hsl : sl + N ≤ Γ.2.2.2.1.slots) (hdg : decode cc pc = .ok (.newarray .boolean, 2)) (k : ∀ q : Nat, va_D Γ.2.2.2.2.2.2.2.2.2.2.2.2.1 (w ++ [(q, .inl (cy 2, N, .inl (fun _ => 0)))]) → Wp Γ (ce + 1) (sl + N) (pc + 2) lv (.ref q :: st) (w ++ [(q, .inl (cy 2, N, .inl (fun _ => 0)))])) : Wp Γ ce sl pc lv (.int x :: st) w := by
  intro H locs ls hl hP hS
  have hK : va_K Γ.2.2.2.2.2.2.2.2.2.2.2.1 vwCl (TY cy) Γ.2.2.2.2.1 := C0.1.2.2.2.2.2
  refine va_newa (atype := .boolean) (ty := .boolean) (a0 := (N, .inl (fun _ => 0))) C0.1.1 C0.1.2.1 (C0.1.2.2.2.2.1 _ tac_boolean) rfl hK hP hD hS C0.2.1 (fun cA => rfl) hn hN (Nat.le_trans (Nat.mul_le_mul_left N (by decide)) hb) hce hsl hdg (fun q cA H1 hK1 hP1 hD1 hS1 => ?_)
  have hcA : cA = cy 2 := arr_same (hK1.2 4 (cA, .boolean) rfl).2 (hK.2 2 (cy 2, .boolean) rfl).2
  subst hcA
  exact k q hD1 H1 locs ls hl hP1 hS1
theorem r_objinit (C0 : CXg Γ cc n d own cy) {index b : Nat} (hlk : Cond.methodLink own index objectInit ∈ lw_T) (hd : 1 ≤ d) (hst : (st.map fun v => v.category).sum ≤ 8) (hdg : decode cc pc = .ok (.invokespecial index, 3)) (k : Wp Γ ce sl (pc + 3) lv st w) : Wp Γ ce sl pc lv (.ref b :: st) w := fun H locs ls hl hP hS => W.objInit C0.1.1 C0.1.2.1 C0.1.2.2.2.1 (C0.1.2.2.2.2.1 _ hlk) (C0.1.2.2.2.2.1 _ tim_obj) (C0.1.2.2.2.2.1 _ tcode_obj) rfl (by rw [C0.1.2.2.1]; exact hl.1) rfl hdg (Nat.le_trans hd C0.2.2.2.1) (by have c2 := C0.2.2.2.2; have := lv_room (m := Γ.2.2.2.2.2.1) (pc := pc) (ls := ls) (rest := .ref b :: st) hst; omega) (k H locs ls hl hP hS)
theorem r_astore_n (C0 : CXg Γ cc n d own cy) {q : Fin 4} {i x : Nat} {lv2 : List (Nat × Value)} (hdg : decode cc pc = .ok (.astore_n q, 1)) (hi : (q : Nat) = i) (hn : i < n) (hlv : (i, Value.ref x) :: lv.filter (fun q => !(q.1 == i) && !(q.1 + 1 == i && q.2.category == 2)) = lv2) (k : Wp Γ ce sl (pc + 1) lv2 st w) : Wp Γ ce sl pc lv (.ref x :: st) w := fun H locs ls hl hP hS => lv_astore_n C0.1.1 C0.1.2.1 hdg hi hl (by rw [C0.2.2.1]; exact hn) hlv (fun ls2 hl2 => k H locs ls2 hl2 hP hS)
theorem r_astore (C0 : CXg Γ cc n d own cy) {i x : Nat} {lv2 : List (Nat × Value)} (hdg : decode cc pc = .ok (.astore i, 2)) (hn : i < n) (hlv : (i, Value.ref x) :: lv.filter (fun q => !(q.1 == i) && !(q.1 + 1 == i && q.2.category == 2)) = lv2) (k : Wp Γ ce sl (pc + 2) lv2 st w) : Wp Γ ce sl pc lv (.ref x :: st) w := fun H locs ls hl hP hS => lv_astore C0.1.1 C0.1.2.1 hdg hl (by rw [C0.2.2.1]; exact hn) hlv (fun ls2 hl2 => k H locs ls2 hl2 hP hS)
theorem r_null (C0 : CXg Γ cc n d own cy) (hdg : decode cc pc = .ok (.aconst_null, 1)) (k : Wp Γ ce sl (pc + 1) lv (.null :: st) w) : Wp Γ ce sl pc lv st w := fun H locs ls hl hP hS => lv_null C0.1.1 C0.1.2.1 hdg (k H locs ls hl hP hS)
theorem r_ifnull (C0 : CXg Γ cc n d own cy) {x : Nat} {off : Int} (hdg : decode cc pc = .ok (.ifnull off, 3)) (k : Wp Γ ce sl (pc + 3) lv st w) : Wp Γ ce sl pc lv (.ref x :: st) w := fun H locs ls hl hP hS => lv_ifnull C0.1.1 C0.1.2.1 hdg (k H locs ls hl hP hS)
theorem r_alen (C0 : CXg Γ cc n d own cy) {i t b : Nat} {cA : ClassId} {x : vp_A} {ty : FieldType} (ha : w[i]? = some (b, .inl (cA, x))) (ht : (TY cy)[t]? = some (cA, ty)) {v : Int32} (hv : Int32.ofNat x.1 = v) (hdg : decode cc pc = .ok (.arraylength, 1)) (k : Wp Γ ce sl (pc + 1) lv (.int v :: st) w) : Wp Γ ce sl pc lv (.ref b :: st) w := fun H locs ls hl hP hS => va_alen C0.1.1 C0.1.2.1 C0.1.2.2.2.2.2 hP i t ha ht hv hdg (k H locs ls hl hP hS)
theorem r_xald (C0 : CXg Γ cc n d own cy) {i b N : Nat} {f : Nat → Int32} (ha : w[i]? = some (b, .inl (cy 0, N, .inl f))) {x : Int32} {T : Type} {z : T} {g : Nat → Option T} (h : (ckA N x).bind g = some z) (hdg : decode cc pc = .ok (.iaload, 1)) (k : ∀ q : Nat, g q = some z → Wp Γ ce sl (pc + 1) lv (.int (f q) :: st) w) : Wp Γ ce sl pc lv (.int x :: .ref b :: st) w := by
  obtain ⟨q, h1, h⟩ := op_bind h
  obtain ⟨h2, rfl⟩ := ckA_spec h1
  exact fun H locs ls hl hP hS => va_iald C0.1.1 C0.1.2.1 C0.1.2.2.2.2.2 hP i 0 ha rfl h2 hdg (k _ h H locs ls hl hP hS)
theorem r_get (C0 : CXg Γ cc n d own cy) {C : String} {T : u_T} {N ci index b i : Nat} {fs : List Value} (hin : ∀ w ∈ u_ws C T N, w ∈ lw_T) (he : w[i]? = some (b, .inr (ci, fs))) (hc : vwCl[ci]? = some (C, T, N)) (kf : Nat) (hk : kf < N) (hlk : Cond.fieldLink own index (T kf).1 (T kf).2.1 (T kf).2.2.1 ∈ lw_T) {v : Value} (hv : fs[kf]? = some v) (hdg : decode cc pc = .ok (.getfield index, 3)) (k : Wp Γ ce sl (pc + 3) lv (v :: st) w) : Wp Γ ce sl pc lv (.ref b :: st) w := fun H locs ls hl hP hS => va_get C0.1.1 C0.1.2.1 C0.1.2.2.2.2.1 hin C0.1.2.2.2.1 C0.1.2.2.2.2.2 hP i he hc kf hk (C0.1.2.2.2.2.1 _ hlk) (fun _ h9 => h9) hv hdg (k H locs ls hl hP hS)
theorem r_putF (C0 : CXg Γ cc n d own cy) {C : String} {T : u_T} {N ci index b i : Nat} {fs : List Value} (hin : ∀ w ∈ u_ws C T N, w ∈ lw_T) (ty0 : Nat → FieldType) (hty : ∀ k, k < N → parseFieldDescriptor (T k).2.2.1 = some (ty0 k)) (hnm : ∀ a, a < N → ∀ b, b < N → a ≠ b → (T a).2.1 ≠ (T b).2.1) (hD : va_D Γ.2.2.2.2.2.2.2.2.2.2.2.2.1 w) (he : w[i]? = some (b, .inr (ci, fs))) (hc : vwCl[ci]? = some (C, T, N)) (kf : Nat) (hk : kf < N) (hlk : Cond.fieldLink own index (T kf).1 (T kf).2.1 (T kf).2.2.1 ∈ lw_T) (hfin : (T kf).2.2.2 = true) (hin2 : Γ.2.2.2.2.2.2.2.2.1.name = "<init>") (hdecl : (T kf).1 = own) {ty : FieldType} {v : Value} (hd : parseFieldDescriptor (T kf).2.2.1 = some ty) (hn : narrow ty v = v) (hfit : fits ty v = true) (hlen : kf < fs.length) (hdg : decode cc pc = .ok (.putfield index, 3)) (k : va_D Γ.2.2.2.2.2.2.2.2.2.2.2.2.1 (w.set i (b, .inr (ci, fs.set kf v))) → Wp Γ ce sl (pc + 3) lv st (w.set i (b, .inr (ci, fs.set kf v)))) : Wp Γ ce sl pc lv (v :: .ref b :: st) w := fun H locs ls hl hP hS => va_putF C0.1.1 C0.1.2.1 C0.1.2.2.2.2.1 hin ty0 hty hnm C0.1.2.2.2.1 C0.1.2.2.2.2.2 hP hD hS i he hc kf hk (C0.1.2.2.2.2.1 _ hlk) (fun _ h9 => h9) hfin hin2 hdecl hd hn hfit hlen hdg (fun H1 locs1 hP1 hD1 hS1 => k hD1 H1 locs1 ls hl hP1 hS1)
theorem r_putN (C0 : CXg Γ cc n d own cy) {C : String} {T : u_T} {N ci index b i : Nat} {fs : List Value} (hin : ∀ w ∈ u_ws C T N, w ∈ lw_T) (ty0 : Nat → FieldType) (hty : ∀ k, k < N → parseFieldDescriptor (T k).2.2.1 = some (ty0 k)) (hnm : ∀ a, a < N → ∀ b, b < N → a ≠ b → (T a).2.1 ≠ (T b).2.1) (hD : va_D Γ.2.2.2.2.2.2.2.2.2.2.2.2.1 w) (he : w[i]? = some (b, .inr (ci, fs))) (hc : vwCl[ci]? = some (C, T, N)) (kf : Nat) (hk : kf < N) (hlk : Cond.fieldLink own index (T kf).1 (T kf).2.1 (T kf).2.2.1 ∈ lw_T) (hfin : (T kf).2.2.2 = false) {ty : FieldType} {v : Value} (hd : parseFieldDescriptor (T kf).2.2.1 = some ty) (hn : narrow ty v = v) (hfit : fits ty v = true) (hlen : kf < fs.length) (hdg : decode cc pc = .ok (.putfield index, 3)) (k : va_D Γ.2.2.2.2.2.2.2.2.2.2.2.2.1 (w.set i (b, .inr (ci, fs.set kf v))) → Wp Γ ce sl (pc + 3) lv st (w.set i (b, .inr (ci, fs.set kf v)))) : Wp Γ ce sl pc lv (v :: .ref b :: st) w := fun H locs ls hl hP hS => va_put C0.1.1 C0.1.2.1 C0.1.2.2.2.2.1 hin ty0 hty hnm C0.1.2.2.2.1 C0.1.2.2.2.2.2 hP hD hS i he hc kf hk (C0.1.2.2.2.2.1 _ hlk) (fun _ h9 => h9) hfin hd hn hfit hlen hdg (fun H1 locs1 hP1 hD1 hS1 => k hD1 H1 locs1 ls hl hP1 hS1)
theorem r_copy (C0 : CXg Γ cc n d own cy) {index : Nat} (hlk : Cond.methodLink own index arraycopyName ∈ lw_T) (hD : va_D Γ.2.2.2.2.2.2.2.2.2.2.2.2.1 w) {i j a0 a1 n0 n1 : Nat} {f g : Nat → Int32} (h0 : w[i]? = some (a0, .inl (cy 0, n0, .inl f))) (h1 : w[j]? = some (a1, .inl (cy 0, n1, .inl g))) {x : Int32} (hx : ¬ x < 0) (h4 : x.toNatClampNeg ≤ n0) (h5 : x.toNatClampNeg ≤ n1) (hd : 1 ≤ d) (hst : (st.map fun v => v.category).sum ≤ 8) (hdg : decode cc pc = .ok (.invokestatic index, 3)) (k : va_D Γ.2.2.2.2.2.2.2.2.2.2.2.2.1 (w.set j (a1, .inl (cy 0, n1, .inl (va_cpy f g 0 0 x.toNatClampNeg)))) → Wp Γ ce sl (pc + 3) lv st (w.set j (a1, .inl (cy 0, n1, .inl (va_cpy f g 0 0 x.toNatClampNeg))))) : Wp Γ ce sl pc lv (.int x :: .int 0 :: .ref a1 :: .int 0 :: .ref a0 :: st) w := fun H locs ls hl hP hS => va_copyi C0.1.1 C0.1.2.1 (by rw [C0.1.2.2.1]; exact hl.1.symm) C0.1.2.2.2.1 (C0.1.2.2.2.2.1 _ hlk) (C0.1.2.2.2.2.1 _ tnat_copy) (C0.1.2.2.2.2.1 _ tst_copy) (C0.1.2.2.2.2.1 _ tin_J10) C0.1.2.2.2.2.2 hP hD hS i j 0 0 (ty := .int) h0 h1 rfl rfl rfl (by decide) (by decide) hx (by rw [show (0 : Int32).toNatClampNeg = 0 from rfl, Nat.zero_add]; exact h4) (by rw [show (0 : Int32).toNatClampNeg = 0 from rfl, Nat.zero_add]; exact h5) (fun _ _ => rfl) (Nat.le_trans hd C0.2.2.2.1) (by have c2 := C0.2.2.2.2; refine Nat.le_trans (Nat.add_le_add_right hst _) ?_; refine Nat.le_trans (m := 42) (by decide) (by omega)) hdg (fun H1 locs1 hP1 hD1 hS1 => k hD1 H1 locs1 ls hl hP1 hS1)
end RULES2
