abbrev Gam : Type := Program × Launch × Env × Room × State × MethodId × Array Value × List Frame × Method × Code × (State → Prop) × va_G × (Nat → Prop) × Heap × Nat
/-- from this point, with these locals and stack and this world, the machine comes to an end with Q -/
def Wp (Γ : Gam) (ce sl pc : Nat) (lv : List (Nat × Value)) (st : List Value) (w : va_W) : Prop := ∀ (H : Heap) (locs : List Loc) (ls : Array Slot), lv_has ls Γ.2.2.2.2.2.2.2.2.2.2.2.2.2.2 lv → va_P Γ.2.2.2.2.2.2.2.2.2.2.2.1 vwCl w H → va_S Γ.2.2.2.2.2.2.2.2.2.2.2.2.1 Γ.2.2.2.2.2.2.2.2.2.2.2.2.2.1 H locs → W Γ.1 Γ.2.1 Γ.2.2.1 Γ.2.2.2.1 Γ.2.2.2.2.1 Γ.2.2.2.2.2.1 Γ.2.2.2.2.2.2.1 Γ.2.2.2.2.2.2.2.1 Γ.2.2.2.2.2.2.2.2.1 Γ.2.2.2.2.2.2.2.2.2.1 H locs ce sl Γ.2.2.2.2.2.2.2.2.2.2.1 (F0 Γ.2.2.2.2.2.1 pc ls st)
def CXg (Γ : Gam) (cc : ByteArray) (n d : Nat) (own : String) (cy : Nat → ClassId) : Prop := CX Γ.1 Γ.2.2.2.2.1 Γ.2.2.2.2.2.1 Γ.2.2.2.2.2.2.2.2.2.1 cc Γ.2.2.2.2.2.2.2.2.2.2.2.2.2.2 Γ.2.2.2.2.2.2.1 own Γ.2.2.2.2.2.2.2.2.2.2.2.1 cy ∧ (∀ q : Nat, Γ.2.2.2.2.2.2.2.2.2.2.2.2.2.1.size ≤ q → Γ.2.2.2.2.2.2.2.2.2.2.2.2.1 q) ∧ Γ.2.2.2.2.2.2.2.2.2.2.2.2.2.2 = n ∧ d ≤ Γ.2.2.2.1.frames ∧ 42 * d ≤ Γ.2.2.2.1.locals
theorem fin_of {T : Type} {x z : T} {P : T → Prop} (h : some x = some z) (hz : P z) : P x := by cases h; exact hz
theorem op_if {c : Prop} [Decidable c] {T : Type} {E1 E2 : Option T} {z : T} {P : Prop} (h : (if c then E1 else E2) = some z) (kt : c → E1 = some z → P) (kf : ¬ c → E2 = some z → P) : P := by
  by_cases hc : c
  · exact kt hc (op_pos hc h)
  · exact kf hc (op_neg hc h)
theorem lp_rule {S Y : Type} {f : S → Option (S ⊕ Y)} {hd : S → Prop} {C : Y → Prop} (step : ∀ (x : S) (z : S ⊕ Y), f x = some z → Sum.elim hd C z → hd x) : ∀ (n : Nat) (x : S) (y : Y), lp f n x = some y → C y → hd x := by
  intro n
  induction n with
  | zero => intro x y h _; exact lp_zero h
  | succ n ih =>
    intro x y h hy
    obtain ⟨z, h1, h2⟩ := lp_succ h
    refine step x z h1 ?_
    cases z with
    | inl x2 => exact ih x2 y h2 hy
    | inr y0 => exact (fin_of (P := C) (show some y0 = some y from h2) hy : C y0)
/-- a boolean answer -/
def ckZ (r : Int32) : Option Int32 := if r = 0 ∨ r = 1 then some r else none
theorem ckZ_spec {r q : Int32} (h : ckZ r = some q) : q = r ∧ narrow .boolean (.int q) = .int q := by
  unfold ckZ at h; split at h
  · next g => cases h; exact ⟨rfl, by rcases g with rfl | rfl <;> decide⟩
  · cases h
theorem el_inl {S Y : Type} {hd : S → Prop} {C : Y → Prop} {x : S} (h : Sum.elim hd C (Sum.inl x)) : hd x := h
theorem el_inr {S Y : Type} {hd : S → Prop} {C : Y → Prop} {y : Y} (h : Sum.elim hd C (Sum.inr y)) : C y := h
theorem nz_0 : narrow .boolean (.int 0) = .int 0 := by decide
theorem nz_1 : narrow .boolean (.int 1) = .int 1 := by decide
section RULES
variable {Γ : Gam} {cc : ByteArray} {n d : Nat} {own : String} {cy : Nat → ClassId} {ce sl pc : Nat} {lv : List (Nat × Value)} {st : List Value} {w : va_W}
theorem r_iconst (C0 : CXg Γ cc n d own cy) {m : Int} {v : Int32} (hdg : decode cc pc = .ok (.iconst m, 1)) (hv : Int32.ofInt m = v) (k : Wp Γ ce sl (pc + 1) lv (.int v :: st) w) : Wp Γ ce sl pc lv (st) w := fun H locs ls hl hP hS => lv_iconst C0.1.1 C0.1.2.1 hdg hv (k H locs ls hl hP hS)
theorem r_bipush (C0 : CXg Γ cc n d own cy) {m : Int} {v : Int32} (hdg : decode cc pc = .ok (.bipush m, 2)) (hv : (Int8.ofInt m).toInt32 = v) (k : Wp Γ ce sl (pc + 2) lv (.int v :: st) w) : Wp Γ ce sl pc lv (st) w := fun H locs ls hl hP hS => lv_bipush C0.1.1 C0.1.2.1 hdg hv (k H locs ls hl hP hS)
theorem r_sipush (C0 : CXg Γ cc n d own cy) {m : Int} {v : Int32} (hdg : decode cc pc = .ok (.sipush m, 3)) (hv : (Int16.ofInt m).toInt32 = v) (k : Wp Γ ce sl (pc + 3) lv (.int v :: st) w) : Wp Γ ce sl pc lv (st) w := fun H locs ls hl hP hS => lv_sipush C0.1.1 C0.1.2.1 hdg hv (k H locs ls hl hP hS)
theorem r_lconst (C0 : CXg Γ cc n d own cy) {m : Fin 2} {v : Int64} (hdg : decode cc pc = .ok (.lconst m, 1)) (hv : Int64.ofNat (m : Nat) = v) (k : Wp Γ ce sl (pc + 1) lv (.long v :: st) w) : Wp Γ ce sl pc lv (st) w := fun H locs ls hl hP hS => lv_lconst C0.1.1 C0.1.2.1 hdg hv (k H locs ls hl hP hS)
theorem r_fconst (C0 : CXg Γ cc n d own cy)  (hdg : decode cc pc = .ok (.fconst 0, 1))  (k : Wp Γ ce sl (pc + 1) lv (.float FP.fconst0 :: st) w) : Wp Γ ce sl pc lv (st) w := fun H locs ls hl hP hS => lv_fconst0 C0.1.1 C0.1.2.1 hdg (k H locs ls hl hP hS)
theorem r_dconst (C0 : CXg Γ cc n d own cy)  (hdg : decode cc pc = .ok (.dconst 0, 1))  (k : Wp Γ ce sl (pc + 1) lv (.double FP.dconst0 :: st) w) : Wp Γ ce sl pc lv (st) w := fun H locs ls hl hP hS => lv_dconst0 C0.1.1 C0.1.2.1 hdg (k H locs ls hl hP hS)
theorem r_iload_n (C0 : CXg Γ cc n d own cy) {q : Fin 4} {i : Nat} {x : Int32} (hdg : decode cc pc = .ok (.iload_n q, 1)) (hi : (q : Nat) = i) (j : Nat) (hk : lv[j]? = some (i, .int x)) (k : Wp Γ ce sl (pc + 1) lv (.int x :: st) w) : Wp Γ ce sl pc lv (st) w := fun H locs ls hl hP hS => lv_iload_n C0.1.1 C0.1.2.1 hdg hi (lv_at hl j hk) (k H locs ls hl hP hS)
theorem r_iload (C0 : CXg Γ cc n d own cy) {i : Nat} {x : Int32} (hdg : decode cc pc = .ok (.iload i, 2)) (j : Nat) (hk : lv[j]? = some (i, .int x)) (k : Wp Γ ce sl (pc + 2) lv (.int x :: st) w) : Wp Γ ce sl pc lv (st) w := fun H locs ls hl hP hS => lv_iload C0.1.1 C0.1.2.1 hdg (lv_at hl j hk) (k H locs ls hl hP hS)
theorem r_lload_n (C0 : CXg Γ cc n d own cy) {q : Fin 4} {i : Nat} {x : Int64} (hdg : decode cc pc = .ok (.lload_n q, 1)) (hi : (q : Nat) = i) (j : Nat) (hk : lv[j]? = some (i, .long x)) (k : Wp Γ ce sl (pc + 1) lv (.long x :: st) w) : Wp Γ ce sl pc lv (st) w := fun H locs ls hl hP hS => lv_lload_n C0.1.1 C0.1.2.1 hdg hi (lv_at hl j hk) (k H locs ls hl hP hS)
theorem r_lload (C0 : CXg Γ cc n d own cy) {i : Nat} {x : Int64} (hdg : decode cc pc = .ok (.lload i, 2)) (j : Nat) (hk : lv[j]? = some (i, .long x)) (k : Wp Γ ce sl (pc + 2) lv (.long x :: st) w) : Wp Γ ce sl pc lv (st) w := fun H locs ls hl hP hS => lv_lload C0.1.1 C0.1.2.1 hdg (lv_at hl j hk) (k H locs ls hl hP hS)
theorem r_fload_n (C0 : CXg Γ cc n d own cy) {q : Fin 4} {i : Nat} {x : UInt32} (hdg : decode cc pc = .ok (.fload_n q, 1)) (hi : (q : Nat) = i) (j : Nat) (hk : lv[j]? = some (i, .float x)) (k : Wp Γ ce sl (pc + 1) lv (.float x :: st) w) : Wp Γ ce sl pc lv (st) w := fun H locs ls hl hP hS => lv_fload_n C0.1.1 C0.1.2.1 hdg hi (lv_at hl j hk) (k H locs ls hl hP hS)
theorem r_fload (C0 : CXg Γ cc n d own cy) {i : Nat} {x : UInt32} (hdg : decode cc pc = .ok (.fload i, 2)) (j : Nat) (hk : lv[j]? = some (i, .float x)) (k : Wp Γ ce sl (pc + 2) lv (.float x :: st) w) : Wp Γ ce sl pc lv (st) w := fun H locs ls hl hP hS => lv_fload C0.1.1 C0.1.2.1 hdg (lv_at hl j hk) (k H locs ls hl hP hS)
theorem r_aload_n (C0 : CXg Γ cc n d own cy) {q : Fin 4} {i : Nat} {x : Nat} (hdg : decode cc pc = .ok (.aload_n q, 1)) (hi : (q : Nat) = i) (j : Nat) (hk : lv[j]? = some (i, .ref x)) (k : Wp Γ ce sl (pc + 1) lv (.ref x :: st) w) : Wp Γ ce sl pc lv (st) w := fun H locs ls hl hP hS => lv_aload_n C0.1.1 C0.1.2.1 hdg hi (lv_at hl j hk) (k H locs ls hl hP hS)
theorem r_aload (C0 : CXg Γ cc n d own cy) {i : Nat} {x : Nat} (hdg : decode cc pc = .ok (.aload i, 2)) (j : Nat) (hk : lv[j]? = some (i, .ref x)) (k : Wp Γ ce sl (pc + 2) lv (.ref x :: st) w) : Wp Γ ce sl pc lv (st) w := fun H locs ls hl hP hS => lv_aload C0.1.1 C0.1.2.1 hdg (lv_at hl j hk) (k H locs ls hl hP hS)
theorem r_istore_n (C0 : CXg Γ cc n d own cy) {q : Fin 4} {i : Nat} {x v : Int32} {lv2 : List (Nat × Value)} (hdg : decode cc pc = .ok (.istore_n q, 1)) (hi : (q : Nat) = i) (hx : x = v) (hn : i < n) (hlv : (i, Value.int v) :: lv.filter (fun q => !(q.1 == i) && !(q.1 + 1 == i && q.2.category == 2)) = lv2) (k : Wp Γ ce sl (pc + 1) lv2 st w) : Wp Γ ce sl pc lv (.int x :: st) w := fun H locs ls hl hP hS => lv_istore_n C0.1.1 C0.1.2.1 hdg hi hl (by rw [C0.2.2.1]; exact hn) (by rw [hx]; exact hlv) (fun ls2 hl2 => k H locs ls2 hl2 hP hS)
theorem r_istore (C0 : CXg Γ cc n d own cy) {i : Nat} {x v : Int32} {lv2 : List (Nat × Value)} (hdg : decode cc pc = .ok (.istore i, 2)) (hx : x = v) (hn : i < n) (hlv : (i, Value.int v) :: lv.filter (fun q => !(q.1 == i) && !(q.1 + 1 == i && q.2.category == 2)) = lv2) (k : Wp Γ ce sl (pc + 2) lv2 st w) : Wp Γ ce sl pc lv (.int x :: st) w := fun H locs ls hl hP hS => lv_istore C0.1.1 C0.1.2.1 hdg hl (by rw [C0.2.2.1]; exact hn) (by rw [hx]; exact hlv) (fun ls2 hl2 => k H locs ls2 hl2 hP hS)
theorem r_lstore_n (C0 : CXg Γ cc n d own cy) {q : Fin 4} {i : Nat} {x v : Int64} {lv2 : List (Nat × Value)} (hdg : decode cc pc = .ok (.lstore_n q, 1)) (hi : (q : Nat) = i) (hx : x = v) (hn : i + 1 < n) (hlv : (i, Value.long v) :: lv.filter (fun q => !(q.1 == i) && (!(q.1 == i + 1) && !(q.1 + 1 == i && q.2.category == 2))) = lv2) (k : Wp Γ ce sl (pc + 1) lv2 st w) : Wp Γ ce sl pc lv (.long x :: st) w := fun H locs ls hl hP hS => lv_lstore_n C0.1.1 C0.1.2.1 hdg hi hl (by rw [C0.2.2.1]; exact hn) (by rw [hx]; exact hlv) (fun ls2 hl2 => k H locs ls2 hl2 hP hS)
theorem r_lstore (C0 : CXg Γ cc n d own cy) {i : Nat} {x v : Int64} {lv2 : List (Nat × Value)} (hdg : decode cc pc = .ok (.lstore i, 2)) (hx : x = v) (hn : i + 1 < n) (hlv : (i, Value.long v) :: lv.filter (fun q => !(q.1 == i) && (!(q.1 == i + 1) && !(q.1 + 1 == i && q.2.category == 2))) = lv2) (k : Wp Γ ce sl (pc + 2) lv2 st w) : Wp Γ ce sl pc lv (.long x :: st) w := fun H locs ls hl hP hS => lv_lstore C0.1.1 C0.1.2.1 hdg hl (by rw [C0.2.2.1]; exact hn) (by rw [hx]; exact hlv) (fun ls2 hl2 => k H locs ls2 hl2 hP hS)
theorem r_fstore_n (C0 : CXg Γ cc n d own cy) {q : Fin 4} {i : Nat} {x v : UInt32} {lv2 : List (Nat × Value)} (hdg : decode cc pc = .ok (.fstore_n q, 1)) (hi : (q : Nat) = i) (hx : x = v) (hn : i < n) (hlv : (i, Value.float v) :: lv.filter (fun q => !(q.1 == i) && !(q.1 + 1 == i && q.2.category == 2)) = lv2) (k : Wp Γ ce sl (pc + 1) lv2 st w) : Wp Γ ce sl pc lv (.float x :: st) w := fun H locs ls hl hP hS => lv_fstore_n C0.1.1 C0.1.2.1 hdg hi hl (by rw [C0.2.2.1]; exact hn) (by rw [hx]; exact hlv) (fun ls2 hl2 => k H locs ls2 hl2 hP hS)
theorem r_fstore (C0 : CXg Γ cc n d own cy) {i : Nat} {x v : UInt32} {lv2 : List (Nat × Value)} (hdg : decode cc pc = .ok (.fstore i, 2)) (hx : x = v) (hn : i < n) (hlv : (i, Value.float v) :: lv.filter (fun q => !(q.1 == i) && !(q.1 + 1 == i && q.2.category == 2)) = lv2) (k : Wp Γ ce sl (pc + 2) lv2 st w) : Wp Γ ce sl pc lv (.float x :: st) w := fun H locs ls hl hP hS => lv_fstore C0.1.1 C0.1.2.1 hdg hl (by rw [C0.2.2.1]; exact hn) (by rw [hx]; exact hlv) (fun ls2 hl2 => k H locs ls2 hl2 hP hS)
theorem r_iinc (C0 : CXg Γ cc n d own cy) {i : Nat} {m : Int} {x v mv : Int32} {lv2 : List (Nat × Value)} (hdg : decode cc pc = .ok (.iinc i m, 3)) (j : Nat) (hk : lv[j]? = some (i, .int x)) (hm : Int32.ofInt m = mv) (hv : x + mv = v) (hn : i < n) (hlv : (i, Value.int v) :: lv.filter (fun q => !(q.1 == i) && !(q.1 + 1 == i && q.2.category == 2)) = lv2) (k : Wp Γ ce sl (pc + 3) lv2 st w) : Wp Γ ce sl pc lv st w := fun H locs ls hl hP hS => lv_iinc C0.1.1 C0.1.2.1 hdg hl hk (by rw [hm]; exact hv) (by rw [C0.2.2.1]; exact hn) hlv (fun ls2 hl2 => k H locs ls2 hl2 hP hS)
theorem r_iadd (C0 : CXg Γ cc n d own cy) {x y : Int32} (hdg : decode cc pc = .ok (.iadd, 1))  (k : Wp Γ ce sl (pc + 1) lv (.int (x + y) :: st) w) : Wp Γ ce sl pc lv (.int y :: .int x :: st) w := fun H locs ls hl hP hS => lv_iadd C0.1.1 C0.1.2.1 hdg (k H locs ls hl hP hS)
theorem r_isub (C0 : CXg Γ cc n d own cy) {x y : Int32} (hdg : decode cc pc = .ok (.isub, 1))  (k : Wp Γ ce sl (pc + 1) lv (.int (x - y) :: st) w) : Wp Γ ce sl pc lv (.int y :: .int x :: st) w := fun H locs ls hl hP hS => lv_isub C0.1.1 C0.1.2.1 hdg (k H locs ls hl hP hS)
theorem r_imul (C0 : CXg Γ cc n d own cy) {x y : Int32} (hdg : decode cc pc = .ok (.imul, 1))  (k : Wp Γ ce sl (pc + 1) lv (.int (x * y) :: st) w) : Wp Γ ce sl pc lv (.int y :: .int x :: st) w := fun H locs ls hl hP hS => lv_imul C0.1.1 C0.1.2.1 hdg (k H locs ls hl hP hS)
theorem r_iand (C0 : CXg Γ cc n d own cy) {x y : Int32} (hdg : decode cc pc = .ok (.iand, 1))  (k : Wp Γ ce sl (pc + 1) lv (.int (x &&& y) :: st) w) : Wp Γ ce sl pc lv (.int y :: .int x :: st) w := fun H locs ls hl hP hS => lv_iand C0.1.1 C0.1.2.1 hdg (k H locs ls hl hP hS)
theorem r_ladd (C0 : CXg Γ cc n d own cy) {x y : Int64} (hdg : decode cc pc = .ok (.ladd, 1))  (k : Wp Γ ce sl (pc + 1) lv (.long (x + y) :: st) w) : Wp Γ ce sl pc lv (.long y :: .long x :: st) w := fun H locs ls hl hP hS => lv_ladd C0.1.1 C0.1.2.1 hdg (k H locs ls hl hP hS)
theorem r_lmul (C0 : CXg Γ cc n d own cy) {x y : Int64} (hdg : decode cc pc = .ok (.lmul, 1))  (k : Wp Γ ce sl (pc + 1) lv (.long (x * y) :: st) w) : Wp Γ ce sl pc lv (.long y :: .long x :: st) w := fun H locs ls hl hP hS => lv_lmul C0.1.1 C0.1.2.1 hdg (k H locs ls hl hP hS)
def ckE (y : Int32) : Option Unit := if y = 0 then none else some ()
theorem ckE_spec {y : Int32} {u : Unit} (h : ckE y = some u) : ¬ y = 0 := by
  unfold ckE at h; split at h
  · cases h
  · next g => exact g
theorem r_idiv (C0 : CXg Γ cc n d own cy) {x y : Int32} {T : Type} {z : T} {g : Unit → Option T} (hdg : decode cc pc = .ok (.idiv, 1)) (h : (ckE y).bind g = some z) (k : ∀ q : Unit, g q = some z → Wp Γ ce sl (pc + 1) lv (.int (x / y) :: st) w) : Wp Γ ce sl pc lv (.int y :: .int x :: st) w := by
  obtain ⟨q, h1, h⟩ := op_bind h
  skip
  exact fun H locs ls hl hP hS => lv_idiv C0.1.1 C0.1.2.1 hdg (ckE_spec h1) (k _ h H locs ls hl hP hS)
theorem r_irem (C0 : CXg Γ cc n d own cy) {x y : Int32} {T : Type} {z : T} {g : Unit → Option T} (hdg : decode cc pc = .ok (.irem, 1)) (h : (ckE y).bind g = some z) (k : ∀ q : Unit, g q = some z → Wp Γ ce sl (pc + 1) lv (.int (x - x / y * y) :: st) w) : Wp Γ ce sl pc lv (.int y :: .int x :: st) w := by
  obtain ⟨q, h1, h⟩ := op_bind h
  skip
  exact fun H locs ls hl hP hS => lv_irem C0.1.1 C0.1.2.1 hdg (ckE_spec h1) (k _ h H locs ls hl hP hS)
theorem r_ldiv (C0 : CXg Γ cc n d own cy) {x y : Int64} {T : Type} {z : T} {g : Unit → Option T} (hdg : decode cc pc = .ok (.ldiv, 1)) (h : (ckD y).bind g = some z) (k : ∀ q : Unit, g q = some z → Wp Γ ce sl (pc + 1) lv (.long (x / y) :: st) w) : Wp Γ ce sl pc lv (.long y :: .long x :: st) w := by
  obtain ⟨q, h1, h⟩ := op_bind h
  skip
  exact fun H locs ls hl hP hS => lv_ldiv C0.1.1 C0.1.2.1 hdg (ckD_spec h1) (k _ h H locs ls hl hP hS)
theorem r_fadd (C0 : CXg Γ cc n d own cy) {x y : UInt32} {T : Type} {z : T} {g : UInt32 → Option T} (hdg : decode cc pc = .ok (.fadd, 1)) (h : (ckF (FP.fadd x y)).bind g = some z) (k : ∀ q : UInt32, g q = some z → Wp Γ ce sl (pc + 1) lv (.float q :: st) w) : Wp Γ ce sl pc lv (.float y :: .float x :: st) w := by
  obtain ⟨q, h1, h⟩ := op_bind h
  obtain ⟨h2, rfl⟩ := ckF_spec h1
  exact fun H locs ls hl hP hS => lv_fadd C0.1.1 C0.1.2.1 hdg h2 (k _ h H locs ls hl hP hS)
theorem r_fsub (C0 : CXg Γ cc n d own cy) {x y : UInt32} {T : Type} {z : T} {g : UInt32 → Option T} (hdg : decode cc pc = .ok (.fsub, 1)) (h : (ckF (FP.fsub x y)).bind g = some z) (k : ∀ q : UInt32, g q = some z → Wp Γ ce sl (pc + 1) lv (.float q :: st) w) : Wp Γ ce sl pc lv (.float y :: .float x :: st) w := by
  obtain ⟨q, h1, h⟩ := op_bind h
  obtain ⟨h2, rfl⟩ := ckF_spec h1
  exact fun H locs ls hl hP hS => lv_fsub C0.1.1 C0.1.2.1 hdg h2 (k _ h H locs ls hl hP hS)
theorem r_fmul (C0 : CXg Γ cc n d own cy) {x y : UInt32} {T : Type} {z : T} {g : UInt32 → Option T} (hdg : decode cc pc = .ok (.fmul, 1)) (h : (ckF (FP.fmul x y)).bind g = some z) (k : ∀ q : UInt32, g q = some z → Wp Γ ce sl (pc + 1) lv (.float q :: st) w) : Wp Γ ce sl pc lv (.float y :: .float x :: st) w := by
  obtain ⟨q, h1, h⟩ := op_bind h
  obtain ⟨h2, rfl⟩ := ckF_spec h1
  exact fun H locs ls hl hP hS => lv_fmul C0.1.1 C0.1.2.1 hdg h2 (k _ h H locs ls hl hP hS)
theorem r_f2d (C0 : CXg Γ cc n d own cy) {x : UInt32} {T : Type} {z : T} {g : UInt64 → Option T} (hdg : decode cc pc = .ok (.f2d, 1)) (h : (ckG (FP.f2d x)).bind g = some z) (k : ∀ q : UInt64, g q = some z → Wp Γ ce sl (pc + 1) lv (.double q :: st) w) : Wp Γ ce sl pc lv (.float x :: st) w := by
  obtain ⟨q, h1, h⟩ := op_bind h
  obtain ⟨h2, rfl⟩ := ckG_spec h1
  exact fun H locs ls hl hP hS => lv_f2d C0.1.1 C0.1.2.1 hdg h2 (k _ h H locs ls hl hP hS)
theorem r_ineg (C0 : CXg Γ cc n d own cy) {x : Int32} (hdg : decode cc pc = .ok (.ineg, 1))  (k : Wp Γ ce sl (pc + 1) lv (.int (-x) :: st) w) : Wp Γ ce sl pc lv (.int x :: st) w := fun H locs ls hl hP hS => lv_ineg C0.1.1 C0.1.2.1 hdg (k H locs ls hl hP hS)
theorem r_i2l (C0 : CXg Γ cc n d own cy) {x : Int32} (hdg : decode cc pc = .ok (.i2l, 1))  (k : Wp Γ ce sl (pc + 1) lv (.long (x.toInt64) :: st) w) : Wp Γ ce sl pc lv (.int x :: st) w := fun H locs ls hl hP hS => lv_i2l C0.1.1 C0.1.2.1 hdg rfl (k H locs ls hl hP hS)
theorem r_l2i (C0 : CXg Γ cc n d own cy) {x : Int64} (hdg : decode cc pc = .ok (.l2i, 1))  (k : Wp Γ ce sl (pc + 1) lv (.int (x.toInt32) :: st) w) : Wp Γ ce sl pc lv (.long x :: st) w := fun H locs ls hl hP hS => lv_l2i C0.1.1 C0.1.2.1 hdg rfl (k H locs ls hl hP hS)
theorem r_i2f (C0 : CXg Γ cc n d own cy) {x : Int32} (hdg : decode cc pc = .ok (.i2f, 1))  (k : Wp Γ ce sl (pc + 1) lv (.float (FP.i2f x) :: st) w) : Wp Γ ce sl pc lv (.int x :: st) w := fun H locs ls hl hP hS => lv_i2f C0.1.1 C0.1.2.1 hdg (k H locs ls hl hP hS)
theorem r_f2i (C0 : CXg Γ cc n d own cy) {x : UInt32} (hdg : decode cc pc = .ok (.f2i, 1))  (k : Wp Γ ce sl (pc + 1) lv (.int (FP.f2i x) :: st) w) : Wp Γ ce sl pc lv (.float x :: st) w := fun H locs ls hl hP hS => lv_f2i C0.1.1 C0.1.2.1 hdg (k H locs ls hl hP hS)
theorem r_lcmp (C0 : CXg Γ cc n d own cy) {x y : Int64} (hdg : decode cc pc = .ok (.lcmp, 1))  (k : Wp Γ ce sl (pc + 1) lv (.int (lg_cmp x y) :: st) w) : Wp Γ ce sl pc lv (.long y :: .long x :: st) w := fun H locs ls hl hP hS => W.lcmp C0.1.1 C0.1.2.1 hdg (k H locs ls hl hP hS)
theorem r_fcmp (C0 : CXg Γ cc n d own cy) {x y : UInt32} {op : CmpOp} (hdg : decode cc pc = .ok (.fcmp op, 1))  (k : Wp Γ ce sl (pc + 1) lv (.int (Op.cmpValue (FP.fcmp x y) op) :: st) w) : Wp Γ ce sl pc lv (.float y :: .float x :: st) w := fun H locs ls hl hP hS => lv_fcmp C0.1.1 C0.1.2.1 hdg (k H locs ls hl hP hS)
theorem r_dup (C0 : CXg Γ cc n d own cy) {v : Value} (hdg : decode cc pc = .ok (.dup, 1)) (hv : v.category = 1) (k : Wp Γ ce sl (pc + 1) lv (v :: v :: st) w) : Wp Γ ce sl pc lv (v :: st) w := fun H locs ls hl hP hS => lv_dup C0.1.1 C0.1.2.1 hdg hv (k H locs ls hl hP hS)
theorem r_dup2 (C0 : CXg Γ cc n d own cy) {v u : Value} (hdg : decode cc pc = .ok (.dup2, 1)) (hv : v.category = 1) (hu : u.category = 1) (k : Wp Γ ce sl (pc + 1) lv (v :: u :: v :: u :: st) w) : Wp Γ ce sl pc lv (v :: u :: st) w := fun H locs ls hl hP hS => lv_dup2_11 C0.1.1 C0.1.2.1 hdg hv hu (k H locs ls hl hP hS)
theorem r_pop (C0 : CXg Γ cc n d own cy) {v : Value} (hdg : decode cc pc = .ok (.pop, 1)) (hv : v.category = 1) (k : Wp Γ ce sl (pc + 1) lv (st) w) : Wp Γ ce sl pc lv (v :: st) w := fun H locs ls hl hP hS => lv_pop C0.1.1 C0.1.2.1 hdg hv (k H locs ls hl hP hS)
theorem r_if_eq (C0 : CXg Γ cc n d own cy) {x : Int32} {off : Int} {T : Type} {z : T} {E1 E2 : Option T} (tgt : Nat) (hdg : decode cc pc = .ok (.ifCond .eq off, 3)) (ht : (pc : Int) + off = (tgt : Int)) (h : (if x = 0 then E1 else E2) = some z) (kt : x = 0 → E1 = some z → Wp Γ ce sl tgt lv st w) (kf : ¬ (x = 0) → E2 = some z → Wp Γ ce sl (pc + 3) lv st w) : Wp Γ ce sl pc lv (.int x :: st) w := fun H locs ls hl hP hS => lv_if_eq C0.1.1 C0.1.2.1 hdg ht (fun hc => kt hc (op_pos hc h) H locs ls hl hP hS) (fun hc => kf hc (op_neg hc h) H locs ls hl hP hS)
theorem r_icmp_eq (C0 : CXg Γ cc n d own cy) {x y : Int32} {off : Int} {T : Type} {z : T} {E1 E2 : Option T} (tgt : Nat) (hdg : decode cc pc = .ok (.if_icmp .eq off, 3)) (ht : (pc : Int) + off = (tgt : Int)) (h : (if x = y then E1 else E2) = some z) (kt : x = y → E1 = some z → Wp Γ ce sl tgt lv st w) (kf : ¬ (x = y) → E2 = some z → Wp Γ ce sl (pc + 3) lv st w) : Wp Γ ce sl pc lv (.int y :: .int x :: st) w := fun H locs ls hl hP hS => lv_icmp_eq C0.1.1 C0.1.2.1 hdg ht (fun hc => kt hc (op_pos hc h) H locs ls hl hP hS) (fun hc => kf hc (op_neg hc h) H locs ls hl hP hS)
theorem r_if_lt (C0 : CXg Γ cc n d own cy) {x : Int32} {off : Int} {T : Type} {z : T} {E1 E2 : Option T} (tgt : Nat) (hdg : decode cc pc = .ok (.ifCond .lt off, 3)) (ht : (pc : Int) + off = (tgt : Int)) (h : (if x < 0 then E1 else E2) = some z) (kt : x < 0 → E1 = some z → Wp Γ ce sl tgt lv st w) (kf : ¬ (x < 0) → E2 = some z → Wp Γ ce sl (pc + 3) lv st w) : Wp Γ ce sl pc lv (.int x :: st) w := fun H locs ls hl hP hS => lv_if_lt C0.1.1 C0.1.2.1 hdg ht (fun hc => kt hc (op_pos hc h) H locs ls hl hP hS) (fun hc => kf hc (op_neg hc h) H locs ls hl hP hS)
theorem r_icmp_lt (C0 : CXg Γ cc n d own cy) {x y : Int32} {off : Int} {T : Type} {z : T} {E1 E2 : Option T} (tgt : Nat) (hdg : decode cc pc = .ok (.if_icmp .lt off, 3)) (ht : (pc : Int) + off = (tgt : Int)) (h : (if x < y then E1 else E2) = some z) (kt : x < y → E1 = some z → Wp Γ ce sl tgt lv st w) (kf : ¬ (x < y) → E2 = some z → Wp Γ ce sl (pc + 3) lv st w) : Wp Γ ce sl pc lv (.int y :: .int x :: st) w := fun H locs ls hl hP hS => lv_icmp_lt C0.1.1 C0.1.2.1 hdg ht (fun hc => kt hc (op_pos hc h) H locs ls hl hP hS) (fun hc => kf hc (op_neg hc h) H locs ls hl hP hS)
theorem r_if_ge (C0 : CXg Γ cc n d own cy) {x : Int32} {off : Int} {T : Type} {z : T} {E1 E2 : Option T} (tgt : Nat) (hdg : decode cc pc = .ok (.ifCond .ge off, 3)) (ht : (pc : Int) + off = (tgt : Int)) (h : (if 0 ≤ x then E1 else E2) = some z) (kt : 0 ≤ x → E1 = some z → Wp Γ ce sl tgt lv st w) (kf : ¬ (0 ≤ x) → E2 = some z → Wp Γ ce sl (pc + 3) lv st w) : Wp Γ ce sl pc lv (.int x :: st) w := fun H locs ls hl hP hS => lv_if_ge C0.1.1 C0.1.2.1 hdg ht (fun hc => kt hc (op_pos hc h) H locs ls hl hP hS) (fun hc => kf hc (op_neg hc h) H locs ls hl hP hS)
theorem r_icmp_ge (C0 : CXg Γ cc n d own cy) {x y : Int32} {off : Int} {T : Type} {z : T} {E1 E2 : Option T} (tgt : Nat) (hdg : decode cc pc = .ok (.if_icmp .ge off, 3)) (ht : (pc : Int) + off = (tgt : Int)) (h : (if y ≤ x then E1 else E2) = some z) (kt : y ≤ x → E1 = some z → Wp Γ ce sl tgt lv st w) (kf : ¬ (y ≤ x) → E2 = some z → Wp Γ ce sl (pc + 3) lv st w) : Wp Γ ce sl pc lv (.int y :: .int x :: st) w := fun H locs ls hl hP hS => lv_icmp_ge C0.1.1 C0.1.2.1 hdg ht (fun hc => kt hc (op_pos hc h) H locs ls hl hP hS) (fun hc => kf hc (op_neg hc h) H locs ls hl hP hS)
theorem r_if_gt (C0 : CXg Γ cc n d own cy) {x : Int32} {off : Int} {T : Type} {z : T} {E1 E2 : Option T} (tgt : Nat) (hdg : decode cc pc = .ok (.ifCond .gt off, 3)) (ht : (pc : Int) + off = (tgt : Int)) (h : (if 0 < x then E1 else E2) = some z) (kt : 0 < x → E1 = some z → Wp Γ ce sl tgt lv st w) (kf : ¬ (0 < x) → E2 = some z → Wp Γ ce sl (pc + 3) lv st w) : Wp Γ ce sl pc lv (.int x :: st) w := fun H locs ls hl hP hS => lv_if_gt C0.1.1 C0.1.2.1 hdg ht (fun hc => kt hc (op_pos hc h) H locs ls hl hP hS) (fun hc => kf hc (op_neg hc h) H locs ls hl hP hS)
theorem r_icmp_gt (C0 : CXg Γ cc n d own cy) {x y : Int32} {off : Int} {T : Type} {z : T} {E1 E2 : Option T} (tgt : Nat) (hdg : decode cc pc = .ok (.if_icmp .gt off, 3)) (ht : (pc : Int) + off = (tgt : Int)) (h : (if y < x then E1 else E2) = some z) (kt : y < x → E1 = some z → Wp Γ ce sl tgt lv st w) (kf : ¬ (y < x) → E2 = some z → Wp Γ ce sl (pc + 3) lv st w) : Wp Γ ce sl pc lv (.int y :: .int x :: st) w := fun H locs ls hl hP hS => lv_icmp_gt C0.1.1 C0.1.2.1 hdg ht (fun hc => kt hc (op_pos hc h) H locs ls hl hP hS) (fun hc => kf hc (op_neg hc h) H locs ls hl hP hS)
theorem r_if_le (C0 : CXg Γ cc n d own cy) {x : Int32} {off : Int} {T : Type} {z : T} {E1 E2 : Option T} (tgt : Nat) (hdg : decode cc pc = .ok (.ifCond .le off, 3)) (ht : (pc : Int) + off = (tgt : Int)) (h : (if x ≤ 0 then E1 else E2) = some z) (kt : x ≤ 0 → E1 = some z → Wp Γ ce sl tgt lv st w) (kf : ¬ (x ≤ 0) → E2 = some z → Wp Γ ce sl (pc + 3) lv st w) : Wp Γ ce sl pc lv (.int x :: st) w := fun H locs ls hl hP hS => lv_if_le C0.1.1 C0.1.2.1 hdg ht (fun hc => kt hc (op_pos hc h) H locs ls hl hP hS) (fun hc => kf hc (op_neg hc h) H locs ls hl hP hS)
theorem r_icmp_le (C0 : CXg Γ cc n d own cy) {x y : Int32} {off : Int} {T : Type} {z : T} {E1 E2 : Option T} (tgt : Nat) (hdg : decode cc pc = .ok (.if_icmp .le off, 3)) (ht : (pc : Int) + off = (tgt : Int)) (h : (if x ≤ y then E1 else E2) = some z) (kt : x ≤ y → E1 = some z → Wp Γ ce sl tgt lv st w) (kf : ¬ (x ≤ y) → E2 = some z → Wp Γ ce sl (pc + 3) lv st w) : Wp Γ ce sl pc lv (.int y :: .int x :: st) w := fun H locs ls hl hP hS => lv_icmp_le C0.1.1 C0.1.2.1 hdg ht (fun hc => kt hc (op_pos hc h) H locs ls hl hP hS) (fun hc => kf hc (op_neg hc h) H locs ls hl hP hS)
theorem r_if_ne (C0 : CXg Γ cc n d own cy) {x : Int32} {off : Int} {T : Type} {z : T} {E1 E2 : Option T} (tgt : Nat) (hdg : decode cc pc = .ok (.ifCond .ne off, 3)) (ht : (pc : Int) + off = (tgt : Int)) (h : (if x = 0 then E1 else E2) = some z) (kt : ¬ (x = 0) → E2 = some z → Wp Γ ce sl tgt lv st w) (kf : x = 0 → E1 = some z → Wp Γ ce sl (pc + 3) lv st w) : Wp Γ ce sl pc lv (.int x :: st) w := fun H locs ls hl hP hS => lv_if_ne C0.1.1 C0.1.2.1 hdg ht (fun hc => kt hc (op_neg hc h) H locs ls hl hP hS) (fun hc => kf hc (op_pos hc h) H locs ls hl hP hS)
theorem r_icmp_ne (C0 : CXg Γ cc n d own cy) {x y : Int32} {off : Int} {T : Type} {z : T} {E1 E2 : Option T} (tgt : Nat) (hdg : decode cc pc = .ok (.if_icmp .ne off, 3)) (ht : (pc : Int) + off = (tgt : Int)) (h : (if x = y then E1 else E2) = some z) (kt : ¬ (x = y) → E2 = some z → Wp Γ ce sl tgt lv st w) (kf : x = y → E1 = some z → Wp Γ ce sl (pc + 3) lv st w) : Wp Γ ce sl pc lv (.int y :: .int x :: st) w := fun H locs ls hl hP hS => lv_icmp_ne C0.1.1 C0.1.2.1 hdg ht (fun hc => kt hc (op_neg hc h) H locs ls hl hP hS) (fun hc => kf hc (op_pos hc h) H locs ls hl hP hS)
theorem r_goto (C0 : CXg Γ cc n d own cy) {off : Int} (tgt : Nat) (hdg : decode cc pc = .ok (.goto off, 3)) (ht : (pc : Int) + off = (tgt : Int)) (k : Wp Γ ce sl tgt lv st w) : Wp Γ ce sl pc lv st w := fun H locs ls hl hP hS => lv_goto C0.1.1 C0.1.2.1 hdg ht (k H locs ls hl hP hS)
theorem r_sub {lv2 : List (Nat × Value)} (ks : List Nat) (h : lv_pick lv ks = lv2) (k : Wp Γ ce sl pc lv2 st w) : Wp Γ ce sl pc lv st w := fun H locs ls hl hP hS => k H locs ls (lv_sub hl ks h) hP hS
theorem r_swI (C0 : CXg Γ cc n d own cy) {dflt lo hi off : Int} {offs : Array Int} {len : Nat} {x kv : Int32} (tgt : Nat) (hdg : decode cc pc = .ok (.tableswitch dflt lo hi offs, len)) (hc : x = kv) (h1 : ¬ kv.toInt < lo) (h2 : ¬ hi < kv.toInt) (ho : offs[(kv.toInt - lo).toNat]? = some off) (ht : (pc : Int) + off = (tgt : Int)) (k : Wp Γ ce sl tgt lv st w) : Wp Γ ce sl pc lv (.int x :: st) w := by
  subst hc
  exact fun H locs ls hl hP hS => lv_tableIn C0.1.1 C0.1.2.1 hdg h1 h2 ho ht (k H locs ls hl hP hS)
theorem r_swD (C0 : CXg Γ cc n d own cy) {dflt lo hi : Int} {offs : Array Int} {len : Nat} {x : Int32} (tgt : Nat) (hdg : decode cc pc = .ok (.tableswitch dflt lo hi offs, len)) (hc : x.toInt < lo ∨ hi < x.toInt) (ht : (pc : Int) + dflt = (tgt : Int)) (k : Wp Γ ce sl tgt lv st w) : Wp Γ ce sl pc lv (.int x :: st) w := fun H locs ls hl hP hS => lv_tableOut C0.1.1 C0.1.2.1 hdg hc ht (k H locs ls hl hP hS)
theorem ne_toInt {x k : Int32} {i : Int} (h : ¬ x = k) (hk : k.toInt = i) : ¬ x.toInt = i := fun e => h (Int32.toInt_inj.mp (e.trans hk.symm))
theorem r_ldc (C0 : CXg Γ cc n d own cy) {index : Nat} {v : Int32} (hw : Cond.constant own index v ∈ lw_T) (hdg : decode cc pc = .ok (.ldc index, 2)) (k : Wp Γ ce sl (pc + 2) lv (.int v :: st) w) : Wp Γ ce sl pc lv st w := fun H locs ls hl hP hS => lv_ldc C0.1.1 C0.1.2.1 C0.1.2.2.2.1 (C0.1.2.2.2.2.1 _ hw) hdg (k H locs ls hl hP hS)
theorem r_ldcf (C0 : CXg Γ cc n d own cy) {index : Nat} {v : UInt32} (hw : Cond.constantFloat own index v ∈ lw_T) (hdg : decode cc pc = .ok (.ldc index, 2)) (k : Wp Γ ce sl (pc + 2) lv (.float v :: st) w) : Wp Γ ce sl pc lv st w := fun H locs ls hl hP hS => lv_ldcf C0.1.1 C0.1.2.1 C0.1.2.2.2.1 (C0.1.2.2.2.2.1 _ hw) hdg (k H locs ls hl hP hS)
theorem r_ldc2 (C0 : CXg Γ cc n d own cy) {index : Nat} {v : Int64} (hw : Cond.constantLong own index v ∈ lw_T) (hdg : decode cc pc = .ok (.ldc2_w index, 3)) (k : Wp Γ ce sl (pc + 3) lv (.long v :: st) w) : Wp Γ ce sl pc lv st w := fun H locs ls hl hP hS => lv_ldc2 C0.1.1 C0.1.2.1 C0.1.2.2.2.1 (C0.1.2.2.2.2.1 _ hw) hdg (k H locs ls hl hP hS)
theorem r_mmax (C0 : CXg Γ cc n d own cy) {x y : Int32} {index : Nat} (hdg : decode cc pc = .ok (.invokestatic index, 3)) (hlk : Cond.methodLink own index Lib.Math.max.name ∈ lw_T) (hd : 1 ≤ d) (hr : (st.map fun v => v.category).sum ≤ 8) (k : Wp Γ 0 0 (pc + 3) lv (.int (if x < y then y else x) :: st) w) : Wp Γ 0 0 pc lv (.int y :: .int x :: st) w := fun H locs ls hl hP hS => va_mmax C0.1.1 C0.1.2.1 (by rw [C0.1.2.2.1]; exact hl.1.symm) C0.1.2.2.2.1 (C0.1.2.2.2.2.1 _ hlk) (C0.1.2.2.2.2.1 _ tst_Mmax) (C0.1.2.2.2.2.1 _ tin_J9) (C0.1.2.2.2.2.1 _ tcode_Mmax) (Nat.le_trans hd C0.2.2.2.1) (by have := C0.2.2.2.2; omega) (Nat.zero_le _) (Nat.zero_le _) hdg (k H locs ls hl hP hS)
theorem r_mmin (C0 : CXg Γ cc n d own cy) {x y : Int32} {index : Nat} (hdg : decode cc pc = .ok (.invokestatic index, 3)) (hlk : Cond.methodLink own index Lib.Math.min.name ∈ lw_T) (hd : 1 ≤ d) (hr : (st.map fun v => v.category).sum ≤ 8) (k : Wp Γ 0 0 (pc + 3) lv (.int (if y < x then y else x) :: st) w) : Wp Γ 0 0 pc lv (.int y :: .int x :: st) w := fun H locs ls hl hP hS => va_mmin C0.1.1 C0.1.2.1 (by rw [C0.1.2.2.1]; exact hl.1.symm) C0.1.2.2.2.1 (C0.1.2.2.2.2.1 _ hlk) (C0.1.2.2.2.2.1 _ tst_Mmin) (C0.1.2.2.2.2.1 _ tin_J9) (C0.1.2.2.2.2.1 _ tcode_Mmin) (Nat.le_trans hd C0.2.2.2.1) (by have := C0.2.2.2.2; omega) (Nat.zero_le _) (Nat.zero_le _) hdg (k H locs ls hl hP hS)
theorem r_mabs (C0 : CXg Γ cc n d own cy) {x y : Int32} {index : Nat} (hdg : decode cc pc = .ok (.invokestatic index, 3)) (hlk : Cond.methodLink own index Lib.Math.abs.name ∈ lw_T) (hd : 1 ≤ d) (hr : (st.map fun v => v.category).sum ≤ 8) (k : Wp Γ 0 0 (pc + 3) lv (.int (if 0 ≤ x then x else 0 - x) :: st) w) : Wp Γ 0 0 pc lv (.int x :: st) w := fun H locs ls hl hP hS => va_mabs C0.1.1 C0.1.2.1 (by rw [C0.1.2.2.1]; exact hl.1.symm) C0.1.2.2.2.1 (C0.1.2.2.2.2.1 _ hlk) (C0.1.2.2.2.2.1 _ tst_Mabs) (C0.1.2.2.2.2.1 _ tin_J9) (C0.1.2.2.2.2.1 _ tcode_Mabs) (Nat.le_trans hd C0.2.2.2.1) (by have := C0.2.2.2.2; omega) (Nat.zero_le _) (Nat.zero_le _) hdg (k H locs ls hl hP hS)
end RULES
section WORLDS
variable {Γ : Gam} {cc : ByteArray} {n d : Nat} {own : String} {cy : Nat → ClassId} {ce sl pc : Nat} {lv : List (Nat × Value)} {st : List Value} {a : Nat → Nat} {V : VT} {J : JT} {K : Nat → Option Nat} {X : va_W}
def DC (Γ : Gam) (cy : Nat → ClassId) (a : Nat → Nat) (X : va_W) : Prop := ∀ (V : VT) (J : JT) (K : Nat → Option Nat), va_D Γ.2.2.2.2.2.2.2.2.2.2.2.2.1 (WC cy a V J K X)
def DM (Γ : Gam) (cy : Nat → ClassId) (a : Nat → Nat) (X : va_W) : Prop := ∀ (V : VT), va_D Γ.2.2.2.2.2.2.2.2.2.2.2.2.1 (WM cy a V X)
theorem wcg_0_0 (C0 : CXg Γ cc n d own cy) {index : Nat} (hl0 : Cond.fieldLink own index "RiggingLoft" "memory" "LRiggingLoft$Memory;" ∈ lw_T) (hdg : decode cc pc = .ok (.getfield index, 3)) (k : Wp Γ ce sl (pc + 3) lv (.ref (a 1) :: st) (WC cy a V J K X)) : Wp Γ ce sl pc lv (.ref (a 0) :: st) (WC cy a V J K X) := fun H locs ls hl hP hS => cg_0_0 C0.1 hl0 hP hdg (k H locs ls hl hP hS)
theorem wcg_0_1 (C0 : CXg Γ cc n d own cy) {index : Nat} (hl0 : Cond.fieldLink own index "RiggingLoft" "verdict" "LRiggingLoft$Verdict;" ∈ lw_T) (hdg : decode cc pc = .ok (.getfield index, 3)) (k : Wp Γ ce sl (pc + 3) lv (.ref (a 2) :: st) (WC cy a V J K X)) : Wp Γ ce sl pc lv (.ref (a 0) :: st) (WC cy a V J K X) := fun H locs ls hl hP hS => cg_0_1 C0.1 hl0 hP hdg (k H locs ls hl hP hS)
theorem wcg_0_2 (C0 : CXg Γ cc n d own cy) {index : Nat} (hl0 : Cond.fieldLink own index "RiggingLoft" "loft" "LRiggingLoft$Loft;" ∈ lw_T) (hdg : decode cc pc = .ok (.getfield index, 3)) (k : Wp Γ ce sl (pc + 3) lv (.ref (a 3) :: st) (WC cy a V J K X)) : Wp Γ ce sl pc lv (.ref (a 0) :: st) (WC cy a V J K X) := fun H locs ls hl hP hS => cg_0_2 C0.1 hl0 hP hdg (k H locs ls hl hP hS)
theorem wcg_0_3 (C0 : CXg Γ cc n d own cy) {index : Nat} (hl0 : Cond.fieldLink own index "RiggingLoft" "weights" "LRiggingLoft$Weights;" ∈ lw_T) (hdg : decode cc pc = .ok (.getfield index, 3)) (k : Wp Γ ce sl (pc + 3) lv (.ref (a 4) :: st) (WC cy a V J K X)) : Wp Γ ce sl pc lv (.ref (a 0) :: st) (WC cy a V J K X) := fun H locs ls hl hP hS => cg_0_3 C0.1 hl0 hP hdg (k H locs ls hl hP hS)
theorem wcg_0_4 (C0 : CXg Γ cc n d own cy) {index : Nat} (hl0 : Cond.fieldLink own index "RiggingLoft" "nearness" "LRiggingLoft$Nearness;" ∈ lw_T) (hdg : decode cc pc = .ok (.getfield index, 3)) (k : Wp Γ ce sl (pc + 3) lv (.ref (a 5) :: st) (WC cy a V J K X)) : Wp Γ ce sl pc lv (.ref (a 0) :: st) (WC cy a V J K X) := fun H locs ls hl hP hS => cg_0_4 C0.1 hl0 hP hdg (k H locs ls hl hP hS)
theorem wcg_0_5 (C0 : CXg Γ cc n d own cy) {index : Nat} (hl0 : Cond.fieldLink own index "RiggingLoft" "rigger" "LRiggingLoft$Rigger;" ∈ lw_T) (hdg : decode cc pc = .ok (.getfield index, 3)) (k : Wp Γ ce sl (pc + 3) lv (.ref (a 6) :: st) (WC cy a V J K X)) : Wp Γ ce sl pc lv (.ref (a 0) :: st) (WC cy a V J K X) := fun H locs ls hl hP hS => cg_0_5 C0.1 hl0 hP hdg (k H locs ls hl hP hS)
theorem wcg_0_6 (C0 : CXg Γ cc n d own cy) {index : Nat} (hl0 : Cond.fieldLink own index "RiggingLoft" "hanger" "LRiggingLoft$Hanger;" ∈ lw_T) (hdg : decode cc pc = .ok (.getfield index, 3)) (k : Wp Γ ce sl (pc + 3) lv (.ref (a 7) :: st) (WC cy a V J K X)) : Wp Γ ce sl pc lv (.ref (a 0) :: st) (WC cy a V J K X) := fun H locs ls hl hP hS => cg_0_6 C0.1 hl0 hP hdg (k H locs ls hl hP hS)
theorem wcg_0_7 (C0 : CXg Γ cc n d own cy) {index : Nat} (hl0 : Cond.fieldLink own index "RiggingLoft" "caller" "LRiggingLoft$Caller;" ∈ lw_T) (hdg : decode cc pc = .ok (.getfield index, 3)) (k : Wp Γ ce sl (pc + 3) lv (.ref (a 8) :: st) (WC cy a V J K X)) : Wp Γ ce sl pc lv (.ref (a 0) :: st) (WC cy a V J K X) := fun H locs ls hl hP hS => cg_0_7 C0.1 hl0 hP hdg (k H locs ls hl hP hS)
theorem wcg_0_8 (C0 : CXg Γ cc n d own cy) {index : Nat} (hl0 : Cond.fieldLink own index "RiggingLoft" "tape" "LRiggingLoft$Tape;" ∈ lw_T) (hdg : decode cc pc = .ok (.getfield index, 3)) (k : Wp Γ ce sl (pc + 3) lv (.ref (a 9) :: st) (WC cy a V J K X)) : Wp Γ ce sl pc lv (.ref (a 0) :: st) (WC cy a V J K X) := fun H locs ls hl hP hS => cg_0_8 C0.1 hl0 hP hdg (k H locs ls hl hP hS)
theorem wcg_1_0 (C0 : CXg Γ cc n d own cy) {index : Nat} (hl0 : Cond.fieldLink own index "RiggingLoft$Memory" "values" "[I" ∈ lw_T) (hdg : decode cc pc = .ok (.getfield index, 3)) (k : Wp Γ ce sl (pc + 3) lv (.ref (a 18) :: st) (WC cy a V J K X)) : Wp Γ ce sl pc lv (.ref (a 1) :: st) (WC cy a V J K X) := fun H locs ls hl hP hS => cg_1_0 C0.1 hl0 hP hdg (k H locs ls hl hP hS)
theorem wcg_1_1 (C0 : CXg Γ cc n d own cy) {index : Nat} (hl0 : Cond.fieldLink own index "RiggingLoft$Memory" "changedIn" "[I" ∈ lw_T) (hdg : decode cc pc = .ok (.getfield index, 3)) (k : Wp Γ ce sl (pc + 3) lv (.ref (a 19) :: st) (WC cy a V J K X)) : Wp Γ ce sl pc lv (.ref (a 1) :: st) (WC cy a V J K X) := fun H locs ls hl hP hS => cg_1_1 C0.1 hl0 hP hdg (k H locs ls hl hP hS)
theorem wcg_1_2 (C0 : CXg Γ cc n d own cy) {index : Nat} (hl0 : Cond.fieldLink own index "RiggingLoft$Memory" "noteCell" "[I" ∈ lw_T) (hdg : decode cc pc = .ok (.getfield index, 3)) (k : Wp Γ ce sl (pc + 3) lv (.ref (a 20) :: st) (WC cy a V J K X)) : Wp Γ ce sl pc lv (.ref (a 1) :: st) (WC cy a V J K X) := fun H locs ls hl hP hS => cg_1_2 C0.1 hl0 hP hdg (k H locs ls hl hP hS)
theorem wcg_1_3 (C0 : CXg Γ cc n d own cy) {index : Nat} (hl0 : Cond.fieldLink own index "RiggingLoft$Memory" "noteValue" "[I" ∈ lw_T) (hdg : decode cc pc = .ok (.getfield index, 3)) (k : Wp Γ ce sl (pc + 3) lv (.ref (a 21) :: st) (WC cy a V J K X)) : Wp Γ ce sl pc lv (.ref (a 1) :: st) (WC cy a V J K X) := fun H locs ls hl hP hS => cg_1_3 C0.1 hl0 hP hdg (k H locs ls hl hP hS)
theorem wcg_1_4 (C0 : CXg Γ cc n d own cy) {index : Nat} (hl0 : Cond.fieldLink own index "RiggingLoft$Memory" "kept" "[LRiggingLoft$Deed;" ∈ lw_T) (hdg : decode cc pc = .ok (.getfield index, 3)) (k : Wp Γ ce sl (pc + 3) lv (.ref (a 22) :: st) (WC cy a V J K X)) : Wp Γ ce sl pc lv (.ref (a 1) :: st) (WC cy a V J K X) := fun H locs ls hl hP hS => cg_1_4 C0.1 hl0 hP hdg (k H locs ls hl hP hS)
theorem wcg_1_5 (C0 : CXg Γ cc n d own cy) {index : Nat} (hl0 : Cond.fieldLink own index "RiggingLoft$Memory" "used" "I" ∈ lw_T) (hdg : decode cc pc = .ok (.getfield index, 3)) (k : Wp Γ ce sl (pc + 3) lv (.int (V 11 0) :: st) (WC cy a V J K X)) : Wp Γ ce sl pc lv (.ref (a 1) :: st) (WC cy a V J K X) := fun H locs ls hl hP hS => cg_1_5 C0.1 hl0 hP hdg (k H locs ls hl hP hS)
theorem wcp_1_5 (C0 : CXg Γ cc n d own cy) (hD : DC Γ cy a X) {index : Nat} (hl0 : Cond.fieldLink own index "RiggingLoft$Memory" "used" "I" ∈ lw_T) {x : Int32} (hdg : decode cc pc = .ok (.putfield index, 3)) (k : Wp Γ ce sl (pc + 3) lv st (WC cy a (u2 V 11 0 x) J K X)) : Wp Γ ce sl pc lv (.int x :: .ref (a 1) :: st) (WC cy a V J K X) := fun H locs ls hl hP hS => cp_1_5 C0.1 hl0 hP hD hS hdg (fun H locs hP hS => k H locs ls hl hP hS)
theorem wcg_1_6 (C0 : CXg Γ cc n d own cy) {index : Nat} (hl0 : Cond.fieldLink own index "RiggingLoft$Memory" "act" "I" ∈ lw_T) (hdg : decode cc pc = .ok (.getfield index, 3)) (k : Wp Γ ce sl (pc + 3) lv (.int (V 11 1) :: st) (WC cy a V J K X)) : Wp Γ ce sl pc lv (.ref (a 1) :: st) (WC cy a V J K X) := fun H locs ls hl hP hS => cg_1_6 C0.1 hl0 hP hdg (k H locs ls hl hP hS)
theorem wcp_1_6 (C0 : CXg Γ cc n d own cy) (hD : DC Γ cy a X) {index : Nat} (hl0 : Cond.fieldLink own index "RiggingLoft$Memory" "act" "I" ∈ lw_T) {x : Int32} (hdg : decode cc pc = .ok (.putfield index, 3)) (k : Wp Γ ce sl (pc + 3) lv st (WC cy a (u2 V 11 1 x) J K X)) : Wp Γ ce sl pc lv (.int x :: .ref (a 1) :: st) (WC cy a V J K X) := fun H locs ls hl hP hS => cp_1_6 C0.1 hl0 hP hD hS hdg (fun H locs hP hS => k H locs ls hl hP hS)
theorem wcg_1_7 (C0 : CXg Γ cc n d own cy) {index : Nat} (hl0 : Cond.fieldLink own index "RiggingLoft$Memory" "notes" "I" ∈ lw_T) (hdg : decode cc pc = .ok (.getfield index, 3)) (k : Wp Γ ce sl (pc + 3) lv (.int (V 11 2) :: st) (WC cy a V J K X)) : Wp Γ ce sl pc lv (.ref (a 1) :: st) (WC cy a V J K X) := fun H locs ls hl hP hS => cg_1_7 C0.1 hl0 hP hdg (k H locs ls hl hP hS)
theorem wcp_1_7 (C0 : CXg Γ cc n d own cy) (hD : DC Γ cy a X) {index : Nat} (hl0 : Cond.fieldLink own index "RiggingLoft$Memory" "notes" "I" ∈ lw_T) {x : Int32} (hdg : decode cc pc = .ok (.putfield index, 3)) (k : Wp Γ ce sl (pc + 3) lv st (WC cy a (u2 V 11 2 x) J K X)) : Wp Γ ce sl pc lv (.int x :: .ref (a 1) :: st) (WC cy a V J K X) := fun H locs ls hl hP hS => cp_1_7 C0.1 hl0 hP hD hS hdg (fun H locs hP hS => k H locs ls hl hP hS)
theorem wcg_1_8 (C0 : CXg Γ cc n d own cy) {index : Nat} (hl0 : Cond.fieldLink own index "RiggingLoft$Memory" "oldest" "I" ∈ lw_T) (hdg : decode cc pc = .ok (.getfield index, 3)) (k : Wp Γ ce sl (pc + 3) lv (.int (V 11 3) :: st) (WC cy a V J K X)) : Wp Γ ce sl pc lv (.ref (a 1) :: st) (WC cy a V J K X) := fun H locs ls hl hP hS => cg_1_8 C0.1 hl0 hP hdg (k H locs ls hl hP hS)
theorem wcp_1_8 (C0 : CXg Γ cc n d own cy) (hD : DC Γ cy a X) {index : Nat} (hl0 : Cond.fieldLink own index "RiggingLoft$Memory" "oldest" "I" ∈ lw_T) {x : Int32} (hdg : decode cc pc = .ok (.putfield index, 3)) (k : Wp Γ ce sl (pc + 3) lv st (WC cy a (u2 V 11 3 x) J K X)) : Wp Γ ce sl pc lv (.int x :: .ref (a 1) :: st) (WC cy a V J K X) := fun H locs ls hl hP hS => cp_1_8 C0.1 hl0 hP hD hS hdg (fun H locs hP hS => k H locs ls hl hP hS)
theorem wcg_1_9 (C0 : CXg Γ cc n d own cy) {index : Nat} (hl0 : Cond.fieldLink own index "RiggingLoft$Memory" "count" "I" ∈ lw_T) (hdg : decode cc pc = .ok (.getfield index, 3)) (k : Wp Γ ce sl (pc + 3) lv (.int (V 11 4) :: st) (WC cy a V J K X)) : Wp Γ ce sl pc lv (.ref (a 1) :: st) (WC cy a V J K X) := fun H locs ls hl hP hS => cg_1_9 C0.1 hl0 hP hdg (k H locs ls hl hP hS)
theorem wcp_1_9 (C0 : CXg Γ cc n d own cy) (hD : DC Γ cy a X) {index : Nat} (hl0 : Cond.fieldLink own index "RiggingLoft$Memory" "count" "I" ∈ lw_T) {x : Int32} (hdg : decode cc pc = .ok (.putfield index, 3)) (k : Wp Γ ce sl (pc + 3) lv st (WC cy a (u2 V 11 4 x) J K X)) : Wp Γ ce sl pc lv (.int x :: .ref (a 1) :: st) (WC cy a V J K X) := fun H locs ls hl hP hS => cp_1_9 C0.1 hl0 hP hD hS hdg (fun H locs hP hS => k H locs ls hl hP hS)
theorem wcg_2_0 (C0 : CXg Γ cc n d own cy) {index : Nat} (hl0 : Cond.fieldLink own index "RiggingLoft$Verdict" "finding" "I" ∈ lw_T) (hdg : decode cc pc = .ok (.getfield index, 3)) (k : Wp Γ ce sl (pc + 3) lv (.int (V 11 5) :: st) (WC cy a V J K X)) : Wp Γ ce sl pc lv (.ref (a 2) :: st) (WC cy a V J K X) := fun H locs ls hl hP hS => cg_2_0 C0.1 hl0 hP hdg (k H locs ls hl hP hS)
theorem wcp_2_0 (C0 : CXg Γ cc n d own cy) (hD : DC Γ cy a X) {index : Nat} (hl0 : Cond.fieldLink own index "RiggingLoft$Verdict" "finding" "I" ∈ lw_T) {x : Int32} (hdg : decode cc pc = .ok (.putfield index, 3)) (k : Wp Γ ce sl (pc + 3) lv st (WC cy a (u2 V 11 5 x) J K X)) : Wp Γ ce sl pc lv (.int x :: .ref (a 2) :: st) (WC cy a V J K X) := fun H locs ls hl hP hS => cp_2_0 C0.1 hl0 hP hD hS hdg (fun H locs hP hS => k H locs ls hl hP hS)
theorem wcg_2_1 (C0 : CXg Γ cc n d own cy) {index : Nat} (hl0 : Cond.fieldLink own index "RiggingLoft$Verdict" "subject" "I" ∈ lw_T) (hdg : decode cc pc = .ok (.getfield index, 3)) (k : Wp Γ ce sl (pc + 3) lv (.int (V 11 6) :: st) (WC cy a V J K X)) : Wp Γ ce sl pc lv (.ref (a 2) :: st) (WC cy a V J K X) := fun H locs ls hl hP hS => cg_2_1 C0.1 hl0 hP hdg (k H locs ls hl hP hS)
theorem wcp_2_1 (C0 : CXg Γ cc n d own cy) (hD : DC Γ cy a X) {index : Nat} (hl0 : Cond.fieldLink own index "RiggingLoft$Verdict" "subject" "I" ∈ lw_T) {x : Int32} (hdg : decode cc pc = .ok (.putfield index, 3)) (k : Wp Γ ce sl (pc + 3) lv st (WC cy a (u2 V 11 6 x) J K X)) : Wp Γ ce sl pc lv (.int x :: .ref (a 2) :: st) (WC cy a V J K X) := fun H locs ls hl hP hS => cp_2_1 C0.1 hl0 hP hD hS hdg (fun H locs hP hS => k H locs ls hl hP hS)
theorem wcg_2_2 (C0 : CXg Γ cc n d own cy) {index : Nat} (hl0 : Cond.fieldLink own index "RiggingLoft$Verdict" "refusals" "I" ∈ lw_T) (hdg : decode cc pc = .ok (.getfield index, 3)) (k : Wp Γ ce sl (pc + 3) lv (.int (V 11 7) :: st) (WC cy a V J K X)) : Wp Γ ce sl pc lv (.ref (a 2) :: st) (WC cy a V J K X) := fun H locs ls hl hP hS => cg_2_2 C0.1 hl0 hP hdg (k H locs ls hl hP hS)
theorem wcp_2_2 (C0 : CXg Γ cc n d own cy) (hD : DC Γ cy a X) {index : Nat} (hl0 : Cond.fieldLink own index "RiggingLoft$Verdict" "refusals" "I" ∈ lw_T) {x : Int32} (hdg : decode cc pc = .ok (.putfield index, 3)) (k : Wp Γ ce sl (pc + 3) lv st (WC cy a (u2 V 11 7 x) J K X)) : Wp Γ ce sl pc lv (.int x :: .ref (a 2) :: st) (WC cy a V J K X) := fun H locs ls hl hP hS => cp_2_2 C0.1 hl0 hP hD hS hdg (fun H locs hP hS => k H locs ls hl hP hS)
theorem wcg_3_0 (C0 : CXg Γ cc n d own cy) {index : Nat} (hl0 : Cond.fieldLink own index "RiggingLoft$Loft" "bars" "LRiggingLoft$Table;" ∈ lw_T) (hdg : decode cc pc = .ok (.getfield index, 3)) (k : Wp Γ ce sl (pc + 3) lv (.ref (a 10) :: st) (WC cy a V J K X)) : Wp Γ ce sl pc lv (.ref (a 3) :: st) (WC cy a V J K X) := fun H locs ls hl hP hS => cg_3_0 C0.1 hl0 hP hdg (k H locs ls hl hP hS)
theorem wcg_3_1 (C0 : CXg Γ cc n d own cy) {index : Nat} (hl0 : Cond.fieldLink own index "RiggingLoft$Loft" "content" "LRiggingLoft$Table;" ∈ lw_T) (hdg : decode cc pc = .ok (.getfield index, 3)) (k : Wp Γ ce sl (pc + 3) lv (.ref (a 11) :: st) (WC cy a V J K X)) : Wp Γ ce sl pc lv (.ref (a 3) :: st) (WC cy a V J K X) := fun H locs ls hl hP hS => cg_3_1 C0.1 hl0 hP hdg (k H locs ls hl hP hS)
theorem wcg_3_2 (C0 : CXg Γ cc n d own cy) {index : Nat} (hl0 : Cond.fieldLink own index "RiggingLoft$Loft" "lines" "LRiggingLoft$Table;" ∈ lw_T) (hdg : decode cc pc = .ok (.getfield index, 3)) (k : Wp Γ ce sl (pc + 3) lv (.ref (a 12) :: st) (WC cy a V J K X)) : Wp Γ ce sl pc lv (.ref (a 3) :: st) (WC cy a V J K X) := fun H locs ls hl hP hS => cg_3_2 C0.1 hl0 hP hdg (k H locs ls hl hP hS)
theorem wcg_3_3 (C0 : CXg Γ cc n d own cy) {index : Nat} (hl0 : Cond.fieldLink own index "RiggingLoft$Loft" "things" "LRiggingLoft$Table;" ∈ lw_T) (hdg : decode cc pc = .ok (.getfield index, 3)) (k : Wp Γ ce sl (pc + 3) lv (.ref (a 13) :: st) (WC cy a V J K X)) : Wp Γ ce sl pc lv (.ref (a 3) :: st) (WC cy a V J K X) := fun H locs ls hl hP hS => cg_3_3 C0.1 hl0 hP hdg (k H locs ls hl hP hS)
theorem wcg_3_4 (C0 : CXg Γ cc n d own cy) {index : Nat} (hl0 : Cond.fieldLink own index "RiggingLoft$Loft" "flags" "LRiggingLoft$Table;" ∈ lw_T) (hdg : decode cc pc = .ok (.getfield index, 3)) (k : Wp Γ ce sl (pc + 3) lv (.ref (a 14) :: st) (WC cy a V J K X)) : Wp Γ ce sl pc lv (.ref (a 3) :: st) (WC cy a V J K X) := fun H locs ls hl hP hS => cg_3_4 C0.1 hl0 hP hdg (k H locs ls hl hP hS)
theorem wcg_3_5 (C0 : CXg Γ cc n d own cy) {index : Nat} (hl0 : Cond.fieldLink own index "RiggingLoft$Loft" "cues" "LRiggingLoft$Table;" ∈ lw_T) (hdg : decode cc pc = .ok (.getfield index, 3)) (k : Wp Γ ce sl (pc + 3) lv (.ref (a 15) :: st) (WC cy a V J K X)) : Wp Γ ce sl pc lv (.ref (a 3) :: st) (WC cy a V J K X) := fun H locs ls hl hP hS => cg_3_5 C0.1 hl0 hP hdg (k H locs ls hl hP hS)
theorem wcg_3_6 (C0 : CXg Γ cc n d own cy) {index : Nat} (hl0 : Cond.fieldLink own index "RiggingLoft$Loft" "stops" "LRiggingLoft$Table;" ∈ lw_T) (hdg : decode cc pc = .ok (.getfield index, 3)) (k : Wp Γ ce sl (pc + 3) lv (.ref (a 16) :: st) (WC cy a V J K X)) : Wp Γ ce sl pc lv (.ref (a 3) :: st) (WC cy a V J K X) := fun H locs ls hl hP hS => cg_3_6 C0.1 hl0 hP hdg (k H locs ls hl hP hS)
theorem wcg_3_7 (C0 : CXg Γ cc n d own cy) {index : Nat} (hl0 : Cond.fieldLink own index "RiggingLoft$Loft" "counts" "LRiggingLoft$Table;" ∈ lw_T) (hdg : decode cc pc = .ok (.getfield index, 3)) (k : Wp Γ ce sl (pc + 3) lv (.ref (a 17) :: st) (WC cy a V J K X)) : Wp Γ ce sl pc lv (.ref (a 3) :: st) (WC cy a V J K X) := fun H locs ls hl hP hS => cg_3_7 C0.1 hl0 hP hdg (k H locs ls hl hP hS)
theorem wcg_4_0 (C0 : CXg Γ cc n d own cy) {index : Nat} (hl0 : Cond.fieldLink own index "RiggingLoft$Weights" "loft" "LRiggingLoft$Loft;" ∈ lw_T) (hdg : decode cc pc = .ok (.getfield index, 3)) (k : Wp Γ ce sl (pc + 3) lv (.ref (a 3) :: st) (WC cy a V J K X)) : Wp Γ ce sl pc lv (.ref (a 4) :: st) (WC cy a V J K X) := fun H locs ls hl hP hS => cg_4_0 C0.1 hl0 hP hdg (k H locs ls hl hP hS)
theorem wcg_4_1 (C0 : CXg Γ cc n d own cy) {index : Nat} (hl0 : Cond.fieldLink own index "RiggingLoft$Weights" "lineAt" "[I" ∈ lw_T) (hdg : decode cc pc = .ok (.getfield index, 3)) (k : Wp Γ ce sl (pc + 3) lv (.ref (a 23) :: st) (WC cy a V J K X)) : Wp Γ ce sl pc lv (.ref (a 4) :: st) (WC cy a V J K X) := fun H locs ls hl hP hS => cg_4_1 C0.1 hl0 hP hdg (k H locs ls hl hP hS)
theorem wcg_4_2 (C0 : CXg Γ cc n d own cy) {index : Nat} (hl0 : Cond.fieldLink own index "RiggingLoft$Weights" "shares" "[J" ∈ lw_T) (hdg : decode cc pc = .ok (.getfield index, 3)) (k : Wp Γ ce sl (pc + 3) lv (.ref (a 24) :: st) (WC cy a V J K X)) : Wp Γ ce sl pc lv (.ref (a 4) :: st) (WC cy a V J K X) := fun H locs ls hl hP hS => cg_4_2 C0.1 hl0 hP hdg (k H locs ls hl hP hS)
theorem wcg_5_0 (C0 : CXg Γ cc n d own cy) {index : Nat} (hl0 : Cond.fieldLink own index "RiggingLoft$Nearness" "loft" "LRiggingLoft$Loft;" ∈ lw_T) (hdg : decode cc pc = .ok (.getfield index, 3)) (k : Wp Γ ce sl (pc + 3) lv (.ref (a 3) :: st) (WC cy a V J K X)) : Wp Γ ce sl pc lv (.ref (a 5) :: st) (WC cy a V J K X) := fun H locs ls hl hP hS => cg_5_0 C0.1 hl0 hP hdg (k H locs ls hl hP hS)
theorem wcg_6_0 (C0 : CXg Γ cc n d own cy) {index : Nat} (hl0 : Cond.fieldLink own index "RiggingLoft$Rigger" "loft" "LRiggingLoft$Loft;" ∈ lw_T) (hdg : decode cc pc = .ok (.getfield index, 3)) (k : Wp Γ ce sl (pc + 3) lv (.ref (a 3) :: st) (WC cy a V J K X)) : Wp Γ ce sl pc lv (.ref (a 6) :: st) (WC cy a V J K X) := fun H locs ls hl hP hS => cg_6_0 C0.1 hl0 hP hdg (k H locs ls hl hP hS)
theorem wcg_6_1 (C0 : CXg Γ cc n d own cy) {index : Nat} (hl0 : Cond.fieldLink own index "RiggingLoft$Rigger" "verdict" "LRiggingLoft$Verdict;" ∈ lw_T) (hdg : decode cc pc = .ok (.getfield index, 3)) (k : Wp Γ ce sl (pc + 3) lv (.ref (a 2) :: st) (WC cy a V J K X)) : Wp Γ ce sl pc lv (.ref (a 6) :: st) (WC cy a V J K X) := fun H locs ls hl hP hS => cg_6_1 C0.1 hl0 hP hdg (k H locs ls hl hP hS)
theorem wcg_7_0 (C0 : CXg Γ cc n d own cy) {index : Nat} (hl0 : Cond.fieldLink own index "RiggingLoft$Hanger" "loft" "LRiggingLoft$Loft;" ∈ lw_T) (hdg : decode cc pc = .ok (.getfield index, 3)) (k : Wp Γ ce sl (pc + 3) lv (.ref (a 3) :: st) (WC cy a V J K X)) : Wp Γ ce sl pc lv (.ref (a 7) :: st) (WC cy a V J K X) := fun H locs ls hl hP hS => cg_7_0 C0.1 hl0 hP hdg (k H locs ls hl hP hS)
theorem wcg_7_1 (C0 : CXg Γ cc n d own cy) {index : Nat} (hl0 : Cond.fieldLink own index "RiggingLoft$Hanger" "weights" "LRiggingLoft$Weights;" ∈ lw_T) (hdg : decode cc pc = .ok (.getfield index, 3)) (k : Wp Γ ce sl (pc + 3) lv (.ref (a 4) :: st) (WC cy a V J K X)) : Wp Γ ce sl pc lv (.ref (a 7) :: st) (WC cy a V J K X) := fun H locs ls hl hP hS => cg_7_1 C0.1 hl0 hP hdg (k H locs ls hl hP hS)
theorem wcg_7_2 (C0 : CXg Γ cc n d own cy) {index : Nat} (hl0 : Cond.fieldLink own index "RiggingLoft$Hanger" "nearness" "LRiggingLoft$Nearness;" ∈ lw_T) (hdg : decode cc pc = .ok (.getfield index, 3)) (k : Wp Γ ce sl (pc + 3) lv (.ref (a 5) :: st) (WC cy a V J K X)) : Wp Γ ce sl pc lv (.ref (a 7) :: st) (WC cy a V J K X) := fun H locs ls hl hP hS => cg_7_2 C0.1 hl0 hP hdg (k H locs ls hl hP hS)
theorem wcg_7_3 (C0 : CXg Γ cc n d own cy) {index : Nat} (hl0 : Cond.fieldLink own index "RiggingLoft$Hanger" "verdict" "LRiggingLoft$Verdict;" ∈ lw_T) (hdg : decode cc pc = .ok (.getfield index, 3)) (k : Wp Γ ce sl (pc + 3) lv (.ref (a 2) :: st) (WC cy a V J K X)) : Wp Γ ce sl pc lv (.ref (a 7) :: st) (WC cy a V J K X) := fun H locs ls hl hP hS => cg_7_3 C0.1 hl0 hP hdg (k H locs ls hl hP hS)
theorem wcg_7_4 (C0 : CXg Γ cc n d own cy) {index : Nat} (hl0 : Cond.fieldLink own index "RiggingLoft$Hanger" "carried" "[I" ∈ lw_T) (hdg : decode cc pc = .ok (.getfield index, 3)) (k : Wp Γ ce sl (pc + 3) lv (.ref (a 25) :: st) (WC cy a V J K X)) : Wp Γ ce sl pc lv (.ref (a 7) :: st) (WC cy a V J K X) := fun H locs ls hl hP hS => cg_7_4 C0.1 hl0 hP hdg (k H locs ls hl hP hS)
theorem wcg_8_0 (C0 : CXg Γ cc n d own cy) {index : Nat} (hl0 : Cond.fieldLink own index "RiggingLoft$Caller" "loft" "LRiggingLoft$Loft;" ∈ lw_T) (hdg : decode cc pc = .ok (.getfield index, 3)) (k : Wp Γ ce sl (pc + 3) lv (.ref (a 3) :: st) (WC cy a V J K X)) : Wp Γ ce sl pc lv (.ref (a 8) :: st) (WC cy a V J K X) := fun H locs ls hl hP hS => cg_8_0 C0.1 hl0 hP hdg (k H locs ls hl hP hS)
theorem wcg_8_1 (C0 : CXg Γ cc n d own cy) {index : Nat} (hl0 : Cond.fieldLink own index "RiggingLoft$Caller" "weights" "LRiggingLoft$Weights;" ∈ lw_T) (hdg : decode cc pc = .ok (.getfield index, 3)) (k : Wp Γ ce sl (pc + 3) lv (.ref (a 4) :: st) (WC cy a V J K X)) : Wp Γ ce sl pc lv (.ref (a 8) :: st) (WC cy a V J K X) := fun H locs ls hl hP hS => cg_8_1 C0.1 hl0 hP hdg (k H locs ls hl hP hS)
theorem wcg_8_2 (C0 : CXg Γ cc n d own cy) {index : Nat} (hl0 : Cond.fieldLink own index "RiggingLoft$Caller" "nearness" "LRiggingLoft$Nearness;" ∈ lw_T) (hdg : decode cc pc = .ok (.getfield index, 3)) (k : Wp Γ ce sl (pc + 3) lv (.ref (a 5) :: st) (WC cy a V J K X)) : Wp Γ ce sl pc lv (.ref (a 8) :: st) (WC cy a V J K X) := fun H locs ls hl hP hS => cg_8_2 C0.1 hl0 hP hdg (k H locs ls hl hP hS)
theorem wcg_8_3 (C0 : CXg Γ cc n d own cy) {index : Nat} (hl0 : Cond.fieldLink own index "RiggingLoft$Caller" "verdict" "LRiggingLoft$Verdict;" ∈ lw_T) (hdg : decode cc pc = .ok (.getfield index, 3)) (k : Wp Γ ce sl (pc + 3) lv (.ref (a 2) :: st) (WC cy a V J K X)) : Wp Γ ce sl pc lv (.ref (a 8) :: st) (WC cy a V J K X) := fun H locs ls hl hP hS => cg_8_3 C0.1 hl0 hP hdg (k H locs ls hl hP hS)
theorem wcg_8_4 (C0 : CXg Γ cc n d own cy) {index : Nat} (hl0 : Cond.fieldLink own index "RiggingLoft$Caller" "tiedDown" "[Z" ∈ lw_T) (hdg : decode cc pc = .ok (.getfield index, 3)) (k : Wp Γ ce sl (pc + 3) lv (.ref (a 26) :: st) (WC cy a V J K X)) : Wp Γ ce sl pc lv (.ref (a 8) :: st) (WC cy a V J K X) := fun H locs ls hl hP hS => cg_8_4 C0.1 hl0 hP hdg (k H locs ls hl hP hS)
theorem wcg_8_5 (C0 : CXg Γ cc n d own cy) {index : Nat} (hl0 : Cond.fieldLink own index "RiggingLoft$Caller" "balanced" "[Z" ∈ lw_T) (hdg : decode cc pc = .ok (.getfield index, 3)) (k : Wp Γ ce sl (pc + 3) lv (.ref (a 27) :: st) (WC cy a V J K X)) : Wp Γ ce sl pc lv (.ref (a 8) :: st) (WC cy a V J K X) := fun H locs ls hl hP hS => cg_8_5 C0.1 hl0 hP hdg (k H locs ls hl hP hS)
theorem wcg_8_6 (C0 : CXg Γ cc n d own cy) {index : Nat} (hl0 : Cond.fieldLink own index "RiggingLoft$Caller" "held" "[Z" ∈ lw_T) (hdg : decode cc pc = .ok (.getfield index, 3)) (k : Wp Γ ce sl (pc + 3) lv (.ref (a 28) :: st) (WC cy a V J K X)) : Wp Γ ce sl pc lv (.ref (a 8) :: st) (WC cy a V J K X) := fun H locs ls hl hP hS => cg_8_6 C0.1 hl0 hP hdg (k H locs ls hl hP hS)
theorem wcg_8_7 (C0 : CXg Γ cc n d own cy) {index : Nat} (hl0 : Cond.fieldLink own index "RiggingLoft$Caller" "deciding" "[I" ∈ lw_T) (hdg : decode cc pc = .ok (.getfield index, 3)) (k : Wp Γ ce sl (pc + 3) lv (.ref (a 29) :: st) (WC cy a V J K X)) : Wp Γ ce sl pc lv (.ref (a 8) :: st) (WC cy a V J K X) := fun H locs ls hl hP hS => cg_8_7 C0.1 hl0 hP hdg (k H locs ls hl hP hS)
theorem wcg_8_8 (C0 : CXg Γ cc n d own cy) {index : Nat} (hl0 : Cond.fieldLink own index "RiggingLoft$Caller" "stopBar" "I" ∈ lw_T) (hdg : decode cc pc = .ok (.getfield index, 3)) (k : Wp Γ ce sl (pc + 3) lv (.int (V 11 8) :: st) (WC cy a V J K X)) : Wp Γ ce sl pc lv (.ref (a 8) :: st) (WC cy a V J K X) := fun H locs ls hl hP hS => cg_8_8 C0.1 hl0 hP hdg (k H locs ls hl hP hS)
theorem wcp_8_8 (C0 : CXg Γ cc n d own cy) (hD : DC Γ cy a X) {index : Nat} (hl0 : Cond.fieldLink own index "RiggingLoft$Caller" "stopBar" "I" ∈ lw_T) {x : Int32} (hdg : decode cc pc = .ok (.putfield index, 3)) (k : Wp Γ ce sl (pc + 3) lv st (WC cy a (u2 V 11 8 x) J K X)) : Wp Γ ce sl pc lv (.int x :: .ref (a 8) :: st) (WC cy a V J K X) := fun H locs ls hl hP hS => cp_8_8 C0.1 hl0 hP hD hS hdg (fun H locs hP hS => k H locs ls hl hP hS)
theorem wcg_8_9 (C0 : CXg Γ cc n d own cy) {index : Nat} (hl0 : Cond.fieldLink own index "RiggingLoft$Caller" "stopNeighbour" "I" ∈ lw_T) (hdg : decode cc pc = .ok (.getfield index, 3)) (k : Wp Γ ce sl (pc + 3) lv (.int (V 11 9) :: st) (WC cy a V J K X)) : Wp Γ ce sl pc lv (.ref (a 8) :: st) (WC cy a V J K X) := fun H locs ls hl hP hS => cg_8_9 C0.1 hl0 hP hdg (k H locs ls hl hP hS)
theorem wcp_8_9 (C0 : CXg Γ cc n d own cy) (hD : DC Γ cy a X) {index : Nat} (hl0 : Cond.fieldLink own index "RiggingLoft$Caller" "stopNeighbour" "I" ∈ lw_T) {x : Int32} (hdg : decode cc pc = .ok (.putfield index, 3)) (k : Wp Γ ce sl (pc + 3) lv st (WC cy a (u2 V 11 9 x) J K X)) : Wp Γ ce sl pc lv (.int x :: .ref (a 8) :: st) (WC cy a V J K X) := fun H locs ls hl hP hS => cp_8_9 C0.1 hl0 hP hD hS hdg (fun H locs hP hS => k H locs ls hl hP hS)
theorem wcg_8_10 (C0 : CXg Γ cc n d own cy) {index : Nat} (hl0 : Cond.fieldLink own index "RiggingLoft$Caller" "stopPlace" "I" ∈ lw_T) (hdg : decode cc pc = .ok (.getfield index, 3)) (k : Wp Γ ce sl (pc + 3) lv (.int (V 11 10) :: st) (WC cy a V J K X)) : Wp Γ ce sl pc lv (.ref (a 8) :: st) (WC cy a V J K X) := fun H locs ls hl hP hS => cg_8_10 C0.1 hl0 hP hdg (k H locs ls hl hP hS)
theorem wcp_8_10 (C0 : CXg Γ cc n d own cy) (hD : DC Γ cy a X) {index : Nat} (hl0 : Cond.fieldLink own index "RiggingLoft$Caller" "stopPlace" "I" ∈ lw_T) {x : Int32} (hdg : decode cc pc = .ok (.putfield index, 3)) (k : Wp Γ ce sl (pc + 3) lv st (WC cy a (u2 V 11 10 x) J K X)) : Wp Γ ce sl pc lv (.int x :: .ref (a 8) :: st) (WC cy a V J K X) := fun H locs ls hl hP hS => cp_8_10 C0.1 hl0 hP hD hS hdg (fun H locs hP hS => k H locs ls hl hP hS)
theorem wcg_9_0 (C0 : CXg Γ cc n d own cy) {index : Nat} (hl0 : Cond.fieldLink own index "RiggingLoft$Tape" "verdict" "LRiggingLoft$Verdict;" ∈ lw_T) (hdg : decode cc pc = .ok (.getfield index, 3)) (k : Wp Γ ce sl (pc + 3) lv (.ref (a 2) :: st) (WC cy a V J K X)) : Wp Γ ce sl pc lv (.ref (a 9) :: st) (WC cy a V J K X) := fun H locs ls hl hP hS => cg_9_0 C0.1 hl0 hP hdg (k H locs ls hl hP hS)
theorem wcg_9_1 (C0 : CXg Γ cc n d own cy) {index : Nat} (hl0 : Cond.fieldLink own index "RiggingLoft$Tape" "numbers" "[I" ∈ lw_T) (hdg : decode cc pc = .ok (.getfield index, 3)) (k : Wp Γ ce sl (pc + 3) lv (.ref (a 30) :: st) (WC cy a V J K X)) : Wp Γ ce sl pc lv (.ref (a 9) :: st) (WC cy a V J K X) := fun H locs ls hl hP hS => cg_9_1 C0.1 hl0 hP hdg (k H locs ls hl hP hS)
theorem wcg_9_2 (C0 : CXg Γ cc n d own cy) {index : Nat} (hl0 : Cond.fieldLink own index "RiggingLoft$Tape" "steps" "I" ∈ lw_T) (hdg : decode cc pc = .ok (.getfield index, 3)) (k : Wp Γ ce sl (pc + 3) lv (.int (V 11 11) :: st) (WC cy a V J K X)) : Wp Γ ce sl pc lv (.ref (a 9) :: st) (WC cy a V J K X) := fun H locs ls hl hP hS => cg_9_2 C0.1 hl0 hP hdg (k H locs ls hl hP hS)
theorem wcp_9_2 (C0 : CXg Γ cc n d own cy) (hD : DC Γ cy a X) {index : Nat} (hl0 : Cond.fieldLink own index "RiggingLoft$Tape" "steps" "I" ∈ lw_T) {x : Int32} (hdg : decode cc pc = .ok (.putfield index, 3)) (k : Wp Γ ce sl (pc + 3) lv st (WC cy a (u2 V 11 11 x) J K X)) : Wp Γ ce sl pc lv (.int x :: .ref (a 9) :: st) (WC cy a V J K X) := fun H locs ls hl hP hS => cp_9_2 C0.1 hl0 hP hD hS hdg (fun H locs hP hS => k H locs ls hl hP hS)
theorem wcal_18 (C0 : CXg Γ cc n d own cy) {i : Int32} {T : Type} {z : T} {g : Nat → Option T} (h : (ckA 1874 i).bind g = some z) (hdg : decode cc pc = .ok (.iaload, 1)) (k : ∀ q : Nat, g q = some z → Wp Γ ce sl (pc + 1) lv (.int (V 0 q) :: st) (WC cy a V J K X)) : Wp Γ ce sl pc lv (.int i :: .ref (a 18) :: st) (WC cy a V J K X) := by
  obtain ⟨q, h1, h⟩ := op_bind h
  obtain ⟨h2, rfl⟩ := ckA_spec h1
  exact fun H locs ls hl hP hS => cal_18 C0.1 hP h2 hdg (k _ h H locs ls hl hP hS)
theorem wcas_18 (C0 : CXg Γ cc n d own cy) (hD : DC Γ cy a X) {i : Int32} {x : Int32} {T : Type} {z : T} {g : Nat → Option T} (h : (ckA 1874 i).bind g = some z) (hdg : decode cc pc = .ok (.iastore, 1)) (k : ∀ q : Nat, g q = some z → Wp Γ ce sl (pc + 1) lv st (WC cy a (u2 V 0 q x) J K X)) : Wp Γ ce sl pc lv (.int x :: .int i :: .ref (a 18) :: st) (WC cy a V J K X) := by
  obtain ⟨q, h1, h⟩ := op_bind h
  obtain ⟨h2, rfl⟩ := ckA_spec h1
  exact fun H locs ls hl hP hS => cas_18 C0.1 hP hD hS h2 hdg (fun H locs hP hS => k _ h H locs ls hl hP hS)
theorem wcln_18 (C0 : CXg Γ cc n d own cy) (hdg : decode cc pc = .ok (.arraylength, 1)) (k : Wp Γ ce sl (pc + 1) lv (.int 1874 :: st) (WC cy a V J K X)) : Wp Γ ce sl pc lv (.ref (a 18) :: st) (WC cy a V J K X) := fun H locs ls hl hP hS => cln_18 C0.1 hP hdg (k H locs ls hl hP hS)
theorem wcal_19 (C0 : CXg Γ cc n d own cy) {i : Int32} {T : Type} {z : T} {g : Nat → Option T} (h : (ckA 1874 i).bind g = some z) (hdg : decode cc pc = .ok (.iaload, 1)) (k : ∀ q : Nat, g q = some z → Wp Γ ce sl (pc + 1) lv (.int (V 1 q) :: st) (WC cy a V J K X)) : Wp Γ ce sl pc lv (.int i :: .ref (a 19) :: st) (WC cy a V J K X) := by
  obtain ⟨q, h1, h⟩ := op_bind h
  obtain ⟨h2, rfl⟩ := ckA_spec h1
  exact fun H locs ls hl hP hS => cal_19 C0.1 hP h2 hdg (k _ h H locs ls hl hP hS)
theorem wcas_19 (C0 : CXg Γ cc n d own cy) (hD : DC Γ cy a X) {i : Int32} {x : Int32} {T : Type} {z : T} {g : Nat → Option T} (h : (ckA 1874 i).bind g = some z) (hdg : decode cc pc = .ok (.iastore, 1)) (k : ∀ q : Nat, g q = some z → Wp Γ ce sl (pc + 1) lv st (WC cy a (u2 V 1 q x) J K X)) : Wp Γ ce sl pc lv (.int x :: .int i :: .ref (a 19) :: st) (WC cy a V J K X) := by
  obtain ⟨q, h1, h⟩ := op_bind h
  obtain ⟨h2, rfl⟩ := ckA_spec h1
  exact fun H locs ls hl hP hS => cas_19 C0.1 hP hD hS h2 hdg (fun H locs hP hS => k _ h H locs ls hl hP hS)
theorem wcln_19 (C0 : CXg Γ cc n d own cy) (hdg : decode cc pc = .ok (.arraylength, 1)) (k : Wp Γ ce sl (pc + 1) lv (.int 1874 :: st) (WC cy a V J K X)) : Wp Γ ce sl pc lv (.ref (a 19) :: st) (WC cy a V J K X) := fun H locs ls hl hP hS => cln_19 C0.1 hP hdg (k H locs ls hl hP hS)
theorem wcal_20 (C0 : CXg Γ cc n d own cy) {i : Int32} {T : Type} {z : T} {g : Nat → Option T} (h : (ckA 1874 i).bind g = some z) (hdg : decode cc pc = .ok (.iaload, 1)) (k : ∀ q : Nat, g q = some z → Wp Γ ce sl (pc + 1) lv (.int (V 2 q) :: st) (WC cy a V J K X)) : Wp Γ ce sl pc lv (.int i :: .ref (a 20) :: st) (WC cy a V J K X) := by
  obtain ⟨q, h1, h⟩ := op_bind h
  obtain ⟨h2, rfl⟩ := ckA_spec h1
  exact fun H locs ls hl hP hS => cal_20 C0.1 hP h2 hdg (k _ h H locs ls hl hP hS)
theorem wcas_20 (C0 : CXg Γ cc n d own cy) (hD : DC Γ cy a X) {i : Int32} {x : Int32} {T : Type} {z : T} {g : Nat → Option T} (h : (ckA 1874 i).bind g = some z) (hdg : decode cc pc = .ok (.iastore, 1)) (k : ∀ q : Nat, g q = some z → Wp Γ ce sl (pc + 1) lv st (WC cy a (u2 V 2 q x) J K X)) : Wp Γ ce sl pc lv (.int x :: .int i :: .ref (a 20) :: st) (WC cy a V J K X) := by
  obtain ⟨q, h1, h⟩ := op_bind h
  obtain ⟨h2, rfl⟩ := ckA_spec h1
  exact fun H locs ls hl hP hS => cas_20 C0.1 hP hD hS h2 hdg (fun H locs hP hS => k _ h H locs ls hl hP hS)
theorem wcln_20 (C0 : CXg Γ cc n d own cy) (hdg : decode cc pc = .ok (.arraylength, 1)) (k : Wp Γ ce sl (pc + 1) lv (.int 1874 :: st) (WC cy a V J K X)) : Wp Γ ce sl pc lv (.ref (a 20) :: st) (WC cy a V J K X) := fun H locs ls hl hP hS => cln_20 C0.1 hP hdg (k H locs ls hl hP hS)
theorem wcal_21 (C0 : CXg Γ cc n d own cy) {i : Int32} {T : Type} {z : T} {g : Nat → Option T} (h : (ckA 1874 i).bind g = some z) (hdg : decode cc pc = .ok (.iaload, 1)) (k : ∀ q : Nat, g q = some z → Wp Γ ce sl (pc + 1) lv (.int (V 3 q) :: st) (WC cy a V J K X)) : Wp Γ ce sl pc lv (.int i :: .ref (a 21) :: st) (WC cy a V J K X) := by
  obtain ⟨q, h1, h⟩ := op_bind h
  obtain ⟨h2, rfl⟩ := ckA_spec h1
  exact fun H locs ls hl hP hS => cal_21 C0.1 hP h2 hdg (k _ h H locs ls hl hP hS)
theorem wcas_21 (C0 : CXg Γ cc n d own cy) (hD : DC Γ cy a X) {i : Int32} {x : Int32} {T : Type} {z : T} {g : Nat → Option T} (h : (ckA 1874 i).bind g = some z) (hdg : decode cc pc = .ok (.iastore, 1)) (k : ∀ q : Nat, g q = some z → Wp Γ ce sl (pc + 1) lv st (WC cy a (u2 V 3 q x) J K X)) : Wp Γ ce sl pc lv (.int x :: .int i :: .ref (a 21) :: st) (WC cy a V J K X) := by
  obtain ⟨q, h1, h⟩ := op_bind h
  obtain ⟨h2, rfl⟩ := ckA_spec h1
  exact fun H locs ls hl hP hS => cas_21 C0.1 hP hD hS h2 hdg (fun H locs hP hS => k _ h H locs ls hl hP hS)
theorem wcln_21 (C0 : CXg Γ cc n d own cy) (hdg : decode cc pc = .ok (.arraylength, 1)) (k : Wp Γ ce sl (pc + 1) lv (.int 1874 :: st) (WC cy a V J K X)) : Wp Γ ce sl pc lv (.ref (a 21) :: st) (WC cy a V J K X) := fun H locs ls hl hP hS => cln_21 C0.1 hP hdg (k H locs ls hl hP hS)
theorem wcal_23 (C0 : CXg Γ cc n d own cy) {i : Int32} {T : Type} {z : T} {g : Nat → Option T} (h : (ckA 16 i).bind g = some z) (hdg : decode cc pc = .ok (.iaload, 1)) (k : ∀ q : Nat, g q = some z → Wp Γ ce sl (pc + 1) lv (.int (V 4 q) :: st) (WC cy a V J K X)) : Wp Γ ce sl pc lv (.int i :: .ref (a 23) :: st) (WC cy a V J K X) := by
  obtain ⟨q, h1, h⟩ := op_bind h
  obtain ⟨h2, rfl⟩ := ckA_spec h1
  exact fun H locs ls hl hP hS => cal_23 C0.1 hP h2 hdg (k _ h H locs ls hl hP hS)
theorem wcas_23 (C0 : CXg Γ cc n d own cy) (hD : DC Γ cy a X) {i : Int32} {x : Int32} {T : Type} {z : T} {g : Nat → Option T} (h : (ckA 16 i).bind g = some z) (hdg : decode cc pc = .ok (.iastore, 1)) (k : ∀ q : Nat, g q = some z → Wp Γ ce sl (pc + 1) lv st (WC cy a (u2 V 4 q x) J K X)) : Wp Γ ce sl pc lv (.int x :: .int i :: .ref (a 23) :: st) (WC cy a V J K X) := by
  obtain ⟨q, h1, h⟩ := op_bind h
  obtain ⟨h2, rfl⟩ := ckA_spec h1
  exact fun H locs ls hl hP hS => cas_23 C0.1 hP hD hS h2 hdg (fun H locs hP hS => k _ h H locs ls hl hP hS)
theorem wcln_23 (C0 : CXg Γ cc n d own cy) (hdg : decode cc pc = .ok (.arraylength, 1)) (k : Wp Γ ce sl (pc + 1) lv (.int 16 :: st) (WC cy a V J K X)) : Wp Γ ce sl pc lv (.ref (a 23) :: st) (WC cy a V J K X) := fun H locs ls hl hP hS => cln_23 C0.1 hP hdg (k H locs ls hl hP hS)
theorem wcal_24 (C0 : CXg Γ cc n d own cy) {i : Int32} {T : Type} {z : T} {g : Nat → Option T} (h : (ckA 16 i).bind g = some z) (hdg : decode cc pc = .ok (.laload, 1)) (k : ∀ q : Nat, g q = some z → Wp Γ ce sl (pc + 1) lv (.long (J q) :: st) (WC cy a V J K X)) : Wp Γ ce sl pc lv (.int i :: .ref (a 24) :: st) (WC cy a V J K X) := by
  obtain ⟨q, h1, h⟩ := op_bind h
  obtain ⟨h2, rfl⟩ := ckA_spec h1
  exact fun H locs ls hl hP hS => cal_24 C0.1 hP h2 hdg (k _ h H locs ls hl hP hS)
theorem wcas_24 (C0 : CXg Γ cc n d own cy) (hD : DC Γ cy a X) {i : Int32} {x : Int64} {T : Type} {z : T} {g : Nat → Option T} (h : (ckA 16 i).bind g = some z) (hdg : decode cc pc = .ok (.lastore, 1)) (k : ∀ q : Nat, g q = some z → Wp Γ ce sl (pc + 1) lv st (WC cy a V (vp_updL J q x) K X)) : Wp Γ ce sl pc lv (.long x :: .int i :: .ref (a 24) :: st) (WC cy a V J K X) := by
  obtain ⟨q, h1, h⟩ := op_bind h
  obtain ⟨h2, rfl⟩ := ckA_spec h1
  exact fun H locs ls hl hP hS => cas_24 C0.1 hP hD hS h2 hdg (fun H locs hP hS => k _ h H locs ls hl hP hS)
theorem wcln_24 (C0 : CXg Γ cc n d own cy) (hdg : decode cc pc = .ok (.arraylength, 1)) (k : Wp Γ ce sl (pc + 1) lv (.int 16 :: st) (WC cy a V J K X)) : Wp Γ ce sl pc lv (.ref (a 24) :: st) (WC cy a V J K X) := fun H locs ls hl hP hS => cln_24 C0.1 hP hdg (k H locs ls hl hP hS)
theorem wcal_25 (C0 : CXg Γ cc n d own cy) {i : Int32} {T : Type} {z : T} {g : Nat → Option T} (h : (ckA 16 i).bind g = some z) (hdg : decode cc pc = .ok (.iaload, 1)) (k : ∀ q : Nat, g q = some z → Wp Γ ce sl (pc + 1) lv (.int (V 5 q) :: st) (WC cy a V J K X)) : Wp Γ ce sl pc lv (.int i :: .ref (a 25) :: st) (WC cy a V J K X) := by
  obtain ⟨q, h1, h⟩ := op_bind h
  obtain ⟨h2, rfl⟩ := ckA_spec h1
  exact fun H locs ls hl hP hS => cal_25 C0.1 hP h2 hdg (k _ h H locs ls hl hP hS)
theorem wcas_25 (C0 : CXg Γ cc n d own cy) (hD : DC Γ cy a X) {i : Int32} {x : Int32} {T : Type} {z : T} {g : Nat → Option T} (h : (ckA 16 i).bind g = some z) (hdg : decode cc pc = .ok (.iastore, 1)) (k : ∀ q : Nat, g q = some z → Wp Γ ce sl (pc + 1) lv st (WC cy a (u2 V 5 q x) J K X)) : Wp Γ ce sl pc lv (.int x :: .int i :: .ref (a 25) :: st) (WC cy a V J K X) := by
  obtain ⟨q, h1, h⟩ := op_bind h
  obtain ⟨h2, rfl⟩ := ckA_spec h1
  exact fun H locs ls hl hP hS => cas_25 C0.1 hP hD hS h2 hdg (fun H locs hP hS => k _ h H locs ls hl hP hS)
theorem wcln_25 (C0 : CXg Γ cc n d own cy) (hdg : decode cc pc = .ok (.arraylength, 1)) (k : Wp Γ ce sl (pc + 1) lv (.int 16 :: st) (WC cy a V J K X)) : Wp Γ ce sl pc lv (.ref (a 25) :: st) (WC cy a V J K X) := fun H locs ls hl hP hS => cln_25 C0.1 hP hdg (k H locs ls hl hP hS)
theorem wcal_26 (C0 : CXg Γ cc n d own cy) {i : Int32} {T : Type} {z : T} {g : Nat → Option T} (h : (ckA 12 i).bind g = some z) (hdg : decode cc pc = .ok (.baload, 1)) (k : ∀ q : Nat, g q = some z → Wp Γ ce sl (pc + 1) lv (.int (V 6 q) :: st) (WC cy a V J K X)) : Wp Γ ce sl pc lv (.int i :: .ref (a 26) :: st) (WC cy a V J K X) := by
  obtain ⟨q, h1, h⟩ := op_bind h
  obtain ⟨h2, rfl⟩ := ckA_spec h1
  exact fun H locs ls hl hP hS => cal_26 C0.1 hP h2 hdg (k _ h H locs ls hl hP hS)
theorem wcas_26 (C0 : CXg Γ cc n d own cy) (hD : DC Γ cy a X) {i : Int32} {x : Int32} {T : Type} {z : T} {g : Nat → Option T} (h : (ckA 12 i).bind g = some z) (hdg : decode cc pc = .ok (.bastore, 1)) (k : ∀ q : Nat, g q = some z → Wp Γ ce sl (pc + 1) lv st (WC cy a (u2 V 6 q (vp_nar .boolean x)) J K X)) : Wp Γ ce sl pc lv (.int x :: .int i :: .ref (a 26) :: st) (WC cy a V J K X) := by
  obtain ⟨q, h1, h⟩ := op_bind h
  obtain ⟨h2, rfl⟩ := ckA_spec h1
  exact fun H locs ls hl hP hS => cas_26 C0.1 hP hD hS h2 hdg (fun H locs hP hS => k _ h H locs ls hl hP hS)
theorem wcln_26 (C0 : CXg Γ cc n d own cy) (hdg : decode cc pc = .ok (.arraylength, 1)) (k : Wp Γ ce sl (pc + 1) lv (.int 12 :: st) (WC cy a V J K X)) : Wp Γ ce sl pc lv (.ref (a 26) :: st) (WC cy a V J K X) := fun H locs ls hl hP hS => cln_26 C0.1 hP hdg (k H locs ls hl hP hS)
theorem wcal_27 (C0 : CXg Γ cc n d own cy) {i : Int32} {T : Type} {z : T} {g : Nat → Option T} (h : (ckA 12 i).bind g = some z) (hdg : decode cc pc = .ok (.baload, 1)) (k : ∀ q : Nat, g q = some z → Wp Γ ce sl (pc + 1) lv (.int (V 7 q) :: st) (WC cy a V J K X)) : Wp Γ ce sl pc lv (.int i :: .ref (a 27) :: st) (WC cy a V J K X) := by
  obtain ⟨q, h1, h⟩ := op_bind h
  obtain ⟨h2, rfl⟩ := ckA_spec h1
  exact fun H locs ls hl hP hS => cal_27 C0.1 hP h2 hdg (k _ h H locs ls hl hP hS)
theorem wcas_27 (C0 : CXg Γ cc n d own cy) (hD : DC Γ cy a X) {i : Int32} {x : Int32} {T : Type} {z : T} {g : Nat → Option T} (h : (ckA 12 i).bind g = some z) (hdg : decode cc pc = .ok (.bastore, 1)) (k : ∀ q : Nat, g q = some z → Wp Γ ce sl (pc + 1) lv st (WC cy a (u2 V 7 q (vp_nar .boolean x)) J K X)) : Wp Γ ce sl pc lv (.int x :: .int i :: .ref (a 27) :: st) (WC cy a V J K X) := by
  obtain ⟨q, h1, h⟩ := op_bind h
  obtain ⟨h2, rfl⟩ := ckA_spec h1
  exact fun H locs ls hl hP hS => cas_27 C0.1 hP hD hS h2 hdg (fun H locs hP hS => k _ h H locs ls hl hP hS)
theorem wcln_27 (C0 : CXg Γ cc n d own cy) (hdg : decode cc pc = .ok (.arraylength, 1)) (k : Wp Γ ce sl (pc + 1) lv (.int 12 :: st) (WC cy a V J K X)) : Wp Γ ce sl pc lv (.ref (a 27) :: st) (WC cy a V J K X) := fun H locs ls hl hP hS => cln_27 C0.1 hP hdg (k H locs ls hl hP hS)
theorem wcal_28 (C0 : CXg Γ cc n d own cy) {i : Int32} {T : Type} {z : T} {g : Nat → Option T} (h : (ckA 12 i).bind g = some z) (hdg : decode cc pc = .ok (.baload, 1)) (k : ∀ q : Nat, g q = some z → Wp Γ ce sl (pc + 1) lv (.int (V 8 q) :: st) (WC cy a V J K X)) : Wp Γ ce sl pc lv (.int i :: .ref (a 28) :: st) (WC cy a V J K X) := by
  obtain ⟨q, h1, h⟩ := op_bind h
  obtain ⟨h2, rfl⟩ := ckA_spec h1
  exact fun H locs ls hl hP hS => cal_28 C0.1 hP h2 hdg (k _ h H locs ls hl hP hS)
theorem wcas_28 (C0 : CXg Γ cc n d own cy) (hD : DC Γ cy a X) {i : Int32} {x : Int32} {T : Type} {z : T} {g : Nat → Option T} (h : (ckA 12 i).bind g = some z) (hdg : decode cc pc = .ok (.bastore, 1)) (k : ∀ q : Nat, g q = some z → Wp Γ ce sl (pc + 1) lv st (WC cy a (u2 V 8 q (vp_nar .boolean x)) J K X)) : Wp Γ ce sl pc lv (.int x :: .int i :: .ref (a 28) :: st) (WC cy a V J K X) := by
  obtain ⟨q, h1, h⟩ := op_bind h
  obtain ⟨h2, rfl⟩ := ckA_spec h1
  exact fun H locs ls hl hP hS => cas_28 C0.1 hP hD hS h2 hdg (fun H locs hP hS => k _ h H locs ls hl hP hS)
theorem wcln_28 (C0 : CXg Γ cc n d own cy) (hdg : decode cc pc = .ok (.arraylength, 1)) (k : Wp Γ ce sl (pc + 1) lv (.int 12 :: st) (WC cy a V J K X)) : Wp Γ ce sl pc lv (.ref (a 28) :: st) (WC cy a V J K X) := fun H locs ls hl hP hS => cln_28 C0.1 hP hdg (k H locs ls hl hP hS)
theorem wcal_29 (C0 : CXg Γ cc n d own cy) {i : Int32} {T : Type} {z : T} {g : Nat → Option T} (h : (ckA 12 i).bind g = some z) (hdg : decode cc pc = .ok (.iaload, 1)) (k : ∀ q : Nat, g q = some z → Wp Γ ce sl (pc + 1) lv (.int (V 9 q) :: st) (WC cy a V J K X)) : Wp Γ ce sl pc lv (.int i :: .ref (a 29) :: st) (WC cy a V J K X) := by
  obtain ⟨q, h1, h⟩ := op_bind h
  obtain ⟨h2, rfl⟩ := ckA_spec h1
  exact fun H locs ls hl hP hS => cal_29 C0.1 hP h2 hdg (k _ h H locs ls hl hP hS)
theorem wcas_29 (C0 : CXg Γ cc n d own cy) (hD : DC Γ cy a X) {i : Int32} {x : Int32} {T : Type} {z : T} {g : Nat → Option T} (h : (ckA 12 i).bind g = some z) (hdg : decode cc pc = .ok (.iastore, 1)) (k : ∀ q : Nat, g q = some z → Wp Γ ce sl (pc + 1) lv st (WC cy a (u2 V 9 q x) J K X)) : Wp Γ ce sl pc lv (.int x :: .int i :: .ref (a 29) :: st) (WC cy a V J K X) := by
  obtain ⟨q, h1, h⟩ := op_bind h
  obtain ⟨h2, rfl⟩ := ckA_spec h1
  exact fun H locs ls hl hP hS => cas_29 C0.1 hP hD hS h2 hdg (fun H locs hP hS => k _ h H locs ls hl hP hS)
theorem wcln_29 (C0 : CXg Γ cc n d own cy) (hdg : decode cc pc = .ok (.arraylength, 1)) (k : Wp Γ ce sl (pc + 1) lv (.int 12 :: st) (WC cy a V J K X)) : Wp Γ ce sl pc lv (.ref (a 29) :: st) (WC cy a V J K X) := fun H locs ls hl hP hS => cln_29 C0.1 hP hdg (k H locs ls hl hP hS)
theorem wcal_30 (C0 : CXg Γ cc n d own cy) {i : Int32} {T : Type} {z : T} {g : Nat → Option T} (h : (ckA 200 i).bind g = some z) (hdg : decode cc pc = .ok (.iaload, 1)) (k : ∀ q : Nat, g q = some z → Wp Γ ce sl (pc + 1) lv (.int (V 10 q) :: st) (WC cy a V J K X)) : Wp Γ ce sl pc lv (.int i :: .ref (a 30) :: st) (WC cy a V J K X) := by
  obtain ⟨q, h1, h⟩ := op_bind h
  obtain ⟨h2, rfl⟩ := ckA_spec h1
  exact fun H locs ls hl hP hS => cal_30 C0.1 hP h2 hdg (k _ h H locs ls hl hP hS)
theorem wcas_30 (C0 : CXg Γ cc n d own cy) (hD : DC Γ cy a X) {i : Int32} {x : Int32} {T : Type} {z : T} {g : Nat → Option T} (h : (ckA 200 i).bind g = some z) (hdg : decode cc pc = .ok (.iastore, 1)) (k : ∀ q : Nat, g q = some z → Wp Γ ce sl (pc + 1) lv st (WC cy a (u2 V 10 q x) J K X)) : Wp Γ ce sl pc lv (.int x :: .int i :: .ref (a 30) :: st) (WC cy a V J K X) := by
  obtain ⟨q, h1, h⟩ := op_bind h
  obtain ⟨h2, rfl⟩ := ckA_spec h1
  exact fun H locs ls hl hP hS => cas_30 C0.1 hP hD hS h2 hdg (fun H locs hP hS => k _ h H locs ls hl hP hS)
theorem wcln_30 (C0 : CXg Γ cc n d own cy) (hdg : decode cc pc = .ok (.arraylength, 1)) (k : Wp Γ ce sl (pc + 1) lv (.int 200 :: st) (WC cy a V J K X)) : Wp Γ ce sl pc lv (.ref (a 30) :: st) (WC cy a V J K X) := fun H locs ls hl hP hS => cln_30 C0.1 hP hdg (k H locs ls hl hP hS)
theorem wmg_0_0 (C0 : CXg Γ cc n d own cy) {index : Nat} (hl0 : Cond.fieldLink own index "RiggingLoftModel" "s" "[I" ∈ lw_T) (hdg : decode cc pc = .ok (.getfield index, 3)) (k : Wp Γ ce sl (pc + 3) lv (.ref (a 1) :: st) (WM cy a V X)) : Wp Γ ce sl pc lv (.ref (a 0) :: st) (WM cy a V X) := fun H locs ls hl hP hS => mg_0_0 C0.1 hl0 hP hdg (k H locs ls hl hP hS)
theorem wmg_0_1 (C0 : CXg Γ cc n d own cy) {index : Nat} (hl0 : Cond.fieldLink own index "RiggingLoftModel" "kept" "[I" ∈ lw_T) (hdg : decode cc pc = .ok (.getfield index, 3)) (k : Wp Γ ce sl (pc + 3) lv (.ref (a 2) :: st) (WM cy a V X)) : Wp Γ ce sl pc lv (.ref (a 0) :: st) (WM cy a V X) := fun H locs ls hl hP hS => mg_0_1 C0.1 hl0 hP hdg (k H locs ls hl hP hS)
theorem wmg_0_2 (C0 : CXg Γ cc n d own cy) {index : Nat} (hl0 : Cond.fieldLink own index "RiggingLoftModel" "keptMany" "I" ∈ lw_T) (hdg : decode cc pc = .ok (.getfield index, 3)) (k : Wp Γ ce sl (pc + 3) lv (.int (V 7 0) :: st) (WM cy a V X)) : Wp Γ ce sl pc lv (.ref (a 0) :: st) (WM cy a V X) := fun H locs ls hl hP hS => mg_0_2 C0.1 hl0 hP hdg (k H locs ls hl hP hS)
theorem wmp_0_2 (C0 : CXg Γ cc n d own cy) (hD : DM Γ cy a X) {index : Nat} (hl0 : Cond.fieldLink own index "RiggingLoftModel" "keptMany" "I" ∈ lw_T) {x : Int32} (hdg : decode cc pc = .ok (.putfield index, 3)) (k : Wp Γ ce sl (pc + 3) lv st (WM cy a (u2 V 7 0 x) X)) : Wp Γ ce sl pc lv (.int x :: .ref (a 0) :: st) (WM cy a V X) := fun H locs ls hl hP hS => mp_0_2 C0.1 hl0 hP hD hS hdg (fun H locs hP hS => k H locs ls hl hP hS)
theorem wmg_0_3 (C0 : CXg Γ cc n d own cy) {index : Nat} (hl0 : Cond.fieldLink own index "RiggingLoftModel" "before" "[I" ∈ lw_T) (hdg : decode cc pc = .ok (.getfield index, 3)) (k : Wp Γ ce sl (pc + 3) lv (.ref (a 3) :: st) (WM cy a V X)) : Wp Γ ce sl pc lv (.ref (a 0) :: st) (WM cy a V X) := fun H locs ls hl hP hS => mg_0_3 C0.1 hl0 hP hdg (k H locs ls hl hP hS)
theorem wmg_0_4 (C0 : CXg Γ cc n d own cy) {index : Nat} (hl0 : Cond.fieldLink own index "RiggingLoftModel" "ahead" "[I" ∈ lw_T) (hdg : decode cc pc = .ok (.getfield index, 3)) (k : Wp Γ ce sl (pc + 3) lv (.ref (a 4) :: st) (WM cy a V X)) : Wp Γ ce sl pc lv (.ref (a 0) :: st) (WM cy a V X) := fun H locs ls hl hP hS => mg_0_4 C0.1 hl0 hP hdg (k H locs ls hl hP hS)
theorem wmg_0_5 (C0 : CXg Γ cc n d own cy) {index : Nat} (hl0 : Cond.fieldLink own index "RiggingLoftModel" "tape" "[I" ∈ lw_T) (hdg : decode cc pc = .ok (.getfield index, 3)) (k : Wp Γ ce sl (pc + 3) lv (.ref (a 5) :: st) (WM cy a V X)) : Wp Γ ce sl pc lv (.ref (a 0) :: st) (WM cy a V X) := fun H locs ls hl hP hS => mg_0_5 C0.1 hl0 hP hdg (k H locs ls hl hP hS)
theorem wmg_0_6 (C0 : CXg Γ cc n d own cy) {index : Nat} (hl0 : Cond.fieldLink own index "RiggingLoftModel" "steps" "I" ∈ lw_T) (hdg : decode cc pc = .ok (.getfield index, 3)) (k : Wp Γ ce sl (pc + 3) lv (.int (V 7 1) :: st) (WM cy a V X)) : Wp Γ ce sl pc lv (.ref (a 0) :: st) (WM cy a V X) := fun H locs ls hl hP hS => mg_0_6 C0.1 hl0 hP hdg (k H locs ls hl hP hS)
theorem wmp_0_6 (C0 : CXg Γ cc n d own cy) (hD : DM Γ cy a X) {index : Nat} (hl0 : Cond.fieldLink own index "RiggingLoftModel" "steps" "I" ∈ lw_T) {x : Int32} (hdg : decode cc pc = .ok (.putfield index, 3)) (k : Wp Γ ce sl (pc + 3) lv st (WM cy a (u2 V 7 1 x) X)) : Wp Γ ce sl pc lv (.int x :: .ref (a 0) :: st) (WM cy a V X) := fun H locs ls hl hP hS => mp_0_6 C0.1 hl0 hP hD hS hdg (fun H locs hP hS => k H locs ls hl hP hS)
theorem wmg_0_7 (C0 : CXg Γ cc n d own cy) {index : Nat} (hl0 : Cond.fieldLink own index "RiggingLoftModel" "finding" "I" ∈ lw_T) (hdg : decode cc pc = .ok (.getfield index, 3)) (k : Wp Γ ce sl (pc + 3) lv (.int (V 7 2) :: st) (WM cy a V X)) : Wp Γ ce sl pc lv (.ref (a 0) :: st) (WM cy a V X) := fun H locs ls hl hP hS => mg_0_7 C0.1 hl0 hP hdg (k H locs ls hl hP hS)
theorem wmp_0_7 (C0 : CXg Γ cc n d own cy) (hD : DM Γ cy a X) {index : Nat} (hl0 : Cond.fieldLink own index "RiggingLoftModel" "finding" "I" ∈ lw_T) {x : Int32} (hdg : decode cc pc = .ok (.putfield index, 3)) (k : Wp Γ ce sl (pc + 3) lv st (WM cy a (u2 V 7 2 x) X)) : Wp Γ ce sl pc lv (.int x :: .ref (a 0) :: st) (WM cy a V X) := fun H locs ls hl hP hS => mp_0_7 C0.1 hl0 hP hD hS hdg (fun H locs hP hS => k H locs ls hl hP hS)
theorem wmg_0_8 (C0 : CXg Γ cc n d own cy) {index : Nat} (hl0 : Cond.fieldLink own index "RiggingLoftModel" "subject" "I" ∈ lw_T) (hdg : decode cc pc = .ok (.getfield index, 3)) (k : Wp Γ ce sl (pc + 3) lv (.int (V 7 3) :: st) (WM cy a V X)) : Wp Γ ce sl pc lv (.ref (a 0) :: st) (WM cy a V X) := fun H locs ls hl hP hS => mg_0_8 C0.1 hl0 hP hdg (k H locs ls hl hP hS)
theorem wmp_0_8 (C0 : CXg Γ cc n d own cy) (hD : DM Γ cy a X) {index : Nat} (hl0 : Cond.fieldLink own index "RiggingLoftModel" "subject" "I" ∈ lw_T) {x : Int32} (hdg : decode cc pc = .ok (.putfield index, 3)) (k : Wp Γ ce sl (pc + 3) lv st (WM cy a (u2 V 7 3 x) X)) : Wp Γ ce sl pc lv (.int x :: .ref (a 0) :: st) (WM cy a V X) := fun H locs ls hl hP hS => mp_0_8 C0.1 hl0 hP hD hS hdg (fun H locs hP hS => k H locs ls hl hP hS)
theorem wmg_0_9 (C0 : CXg Γ cc n d own cy) {index : Nat} (hl0 : Cond.fieldLink own index "RiggingLoftModel" "refusals" "I" ∈ lw_T) (hdg : decode cc pc = .ok (.getfield index, 3)) (k : Wp Γ ce sl (pc + 3) lv (.int (V 7 4) :: st) (WM cy a V X)) : Wp Γ ce sl pc lv (.ref (a 0) :: st) (WM cy a V X) := fun H locs ls hl hP hS => mg_0_9 C0.1 hl0 hP hdg (k H locs ls hl hP hS)
theorem wmp_0_9 (C0 : CXg Γ cc n d own cy) (hD : DM Γ cy a X) {index : Nat} (hl0 : Cond.fieldLink own index "RiggingLoftModel" "refusals" "I" ∈ lw_T) {x : Int32} (hdg : decode cc pc = .ok (.putfield index, 3)) (k : Wp Γ ce sl (pc + 3) lv st (WM cy a (u2 V 7 4 x) X)) : Wp Γ ce sl pc lv (.int x :: .ref (a 0) :: st) (WM cy a V X) := fun H locs ls hl hP hS => mp_0_9 C0.1 hl0 hP hD hS hdg (fun H locs hP hS => k H locs ls hl hP hS)
theorem wmg_0_10 (C0 : CXg Γ cc n d own cy) {index : Nat} (hl0 : Cond.fieldLink own index "RiggingLoftModel" "carried" "[I" ∈ lw_T) (hdg : decode cc pc = .ok (.getfield index, 3)) (k : Wp Γ ce sl (pc + 3) lv (.ref (a 6) :: st) (WM cy a V X)) : Wp Γ ce sl pc lv (.ref (a 0) :: st) (WM cy a V X) := fun H locs ls hl hP hS => mg_0_10 C0.1 hl0 hP hdg (k H locs ls hl hP hS)
theorem wmg_0_11 (C0 : CXg Γ cc n d own cy) {index : Nat} (hl0 : Cond.fieldLink own index "RiggingLoftModel" "aside" "[I" ∈ lw_T) (hdg : decode cc pc = .ok (.getfield index, 3)) (k : Wp Γ ce sl (pc + 3) lv (.ref (a 7) :: st) (WM cy a V X)) : Wp Γ ce sl pc lv (.ref (a 0) :: st) (WM cy a V X) := fun H locs ls hl hP hS => mg_0_11 C0.1 hl0 hP hdg (k H locs ls hl hP hS)
theorem wmal_1 (C0 : CXg Γ cc n d own cy) {i : Int32} {T : Type} {z : T} {g : Nat → Option T} (h : (ckA 1646 i).bind g = some z) (hdg : decode cc pc = .ok (.iaload, 1)) (k : ∀ q : Nat, g q = some z → Wp Γ ce sl (pc + 1) lv (.int (V 0 q) :: st) (WM cy a V X)) : Wp Γ ce sl pc lv (.int i :: .ref (a 1) :: st) (WM cy a V X) := by
  obtain ⟨q, h1, h⟩ := op_bind h
  obtain ⟨h2, rfl⟩ := ckA_spec h1
  exact fun H locs ls hl hP hS => mal_1 C0.1 hP h2 hdg (k _ h H locs ls hl hP hS)
theorem wmas_1 (C0 : CXg Γ cc n d own cy) (hD : DM Γ cy a X) {i : Int32} {x : Int32} {T : Type} {z : T} {g : Nat → Option T} (h : (ckA 1646 i).bind g = some z) (hdg : decode cc pc = .ok (.iastore, 1)) (k : ∀ q : Nat, g q = some z → Wp Γ ce sl (pc + 1) lv st (WM cy a (u2 V 0 q x) X)) : Wp Γ ce sl pc lv (.int x :: .int i :: .ref (a 1) :: st) (WM cy a V X) := by
  obtain ⟨q, h1, h⟩ := op_bind h
  obtain ⟨h2, rfl⟩ := ckA_spec h1
  exact fun H locs ls hl hP hS => mas_1 C0.1 hP hD hS h2 hdg (fun H locs hP hS => k _ h H locs ls hl hP hS)
theorem wmln_1 (C0 : CXg Γ cc n d own cy) (hdg : decode cc pc = .ok (.arraylength, 1)) (k : Wp Γ ce sl (pc + 1) lv (.int 1646 :: st) (WM cy a V X)) : Wp Γ ce sl pc lv (.ref (a 1) :: st) (WM cy a V X) := fun H locs ls hl hP hS => mln_1 C0.1 hP hdg (k H locs ls hl hP hS)
theorem wmal_2 (C0 : CXg Γ cc n d own cy) {i : Int32} {T : Type} {z : T} {g : Nat → Option T} (h : (ckA 98760 i).bind g = some z) (hdg : decode cc pc = .ok (.iaload, 1)) (k : ∀ q : Nat, g q = some z → Wp Γ ce sl (pc + 1) lv (.int (V 1 q) :: st) (WM cy a V X)) : Wp Γ ce sl pc lv (.int i :: .ref (a 2) :: st) (WM cy a V X) := by
  obtain ⟨q, h1, h⟩ := op_bind h
  obtain ⟨h2, rfl⟩ := ckA_spec h1
  exact fun H locs ls hl hP hS => mal_2 C0.1 hP h2 hdg (k _ h H locs ls hl hP hS)
theorem wmas_2 (C0 : CXg Γ cc n d own cy) (hD : DM Γ cy a X) {i : Int32} {x : Int32} {T : Type} {z : T} {g : Nat → Option T} (h : (ckA 98760 i).bind g = some z) (hdg : decode cc pc = .ok (.iastore, 1)) (k : ∀ q : Nat, g q = some z → Wp Γ ce sl (pc + 1) lv st (WM cy a (u2 V 1 q x) X)) : Wp Γ ce sl pc lv (.int x :: .int i :: .ref (a 2) :: st) (WM cy a V X) := by
  obtain ⟨q, h1, h⟩ := op_bind h
  obtain ⟨h2, rfl⟩ := ckA_spec h1
  exact fun H locs ls hl hP hS => mas_2 C0.1 hP hD hS h2 hdg (fun H locs hP hS => k _ h H locs ls hl hP hS)
theorem wmln_2 (C0 : CXg Γ cc n d own cy) (hdg : decode cc pc = .ok (.arraylength, 1)) (k : Wp Γ ce sl (pc + 1) lv (.int 98760 :: st) (WM cy a V X)) : Wp Γ ce sl pc lv (.ref (a 2) :: st) (WM cy a V X) := fun H locs ls hl hP hS => mln_2 C0.1 hP hdg (k H locs ls hl hP hS)
theorem wmal_3 (C0 : CXg Γ cc n d own cy) {i : Int32} {T : Type} {z : T} {g : Nat → Option T} (h : (ckA 1646 i).bind g = some z) (hdg : decode cc pc = .ok (.iaload, 1)) (k : ∀ q : Nat, g q = some z → Wp Γ ce sl (pc + 1) lv (.int (V 2 q) :: st) (WM cy a V X)) : Wp Γ ce sl pc lv (.int i :: .ref (a 3) :: st) (WM cy a V X) := by
  obtain ⟨q, h1, h⟩ := op_bind h
  obtain ⟨h2, rfl⟩ := ckA_spec h1
  exact fun H locs ls hl hP hS => mal_3 C0.1 hP h2 hdg (k _ h H locs ls hl hP hS)
theorem wmas_3 (C0 : CXg Γ cc n d own cy) (hD : DM Γ cy a X) {i : Int32} {x : Int32} {T : Type} {z : T} {g : Nat → Option T} (h : (ckA 1646 i).bind g = some z) (hdg : decode cc pc = .ok (.iastore, 1)) (k : ∀ q : Nat, g q = some z → Wp Γ ce sl (pc + 1) lv st (WM cy a (u2 V 2 q x) X)) : Wp Γ ce sl pc lv (.int x :: .int i :: .ref (a 3) :: st) (WM cy a V X) := by
  obtain ⟨q, h1, h⟩ := op_bind h
  obtain ⟨h2, rfl⟩ := ckA_spec h1
  exact fun H locs ls hl hP hS => mas_3 C0.1 hP hD hS h2 hdg (fun H locs hP hS => k _ h H locs ls hl hP hS)
theorem wmln_3 (C0 : CXg Γ cc n d own cy) (hdg : decode cc pc = .ok (.arraylength, 1)) (k : Wp Γ ce sl (pc + 1) lv (.int 1646 :: st) (WM cy a V X)) : Wp Γ ce sl pc lv (.ref (a 3) :: st) (WM cy a V X) := fun H locs ls hl hP hS => mln_3 C0.1 hP hdg (k H locs ls hl hP hS)
theorem wmal_4 (C0 : CXg Γ cc n d own cy) {i : Int32} {T : Type} {z : T} {g : Nat → Option T} (h : (ckA 1646 i).bind g = some z) (hdg : decode cc pc = .ok (.iaload, 1)) (k : ∀ q : Nat, g q = some z → Wp Γ ce sl (pc + 1) lv (.int (V 3 q) :: st) (WM cy a V X)) : Wp Γ ce sl pc lv (.int i :: .ref (a 4) :: st) (WM cy a V X) := by
  obtain ⟨q, h1, h⟩ := op_bind h
  obtain ⟨h2, rfl⟩ := ckA_spec h1
  exact fun H locs ls hl hP hS => mal_4 C0.1 hP h2 hdg (k _ h H locs ls hl hP hS)
theorem wmas_4 (C0 : CXg Γ cc n d own cy) (hD : DM Γ cy a X) {i : Int32} {x : Int32} {T : Type} {z : T} {g : Nat → Option T} (h : (ckA 1646 i).bind g = some z) (hdg : decode cc pc = .ok (.iastore, 1)) (k : ∀ q : Nat, g q = some z → Wp Γ ce sl (pc + 1) lv st (WM cy a (u2 V 3 q x) X)) : Wp Γ ce sl pc lv (.int x :: .int i :: .ref (a 4) :: st) (WM cy a V X) := by
  obtain ⟨q, h1, h⟩ := op_bind h
  obtain ⟨h2, rfl⟩ := ckA_spec h1
  exact fun H locs ls hl hP hS => mas_4 C0.1 hP hD hS h2 hdg (fun H locs hP hS => k _ h H locs ls hl hP hS)
theorem wmln_4 (C0 : CXg Γ cc n d own cy) (hdg : decode cc pc = .ok (.arraylength, 1)) (k : Wp Γ ce sl (pc + 1) lv (.int 1646 :: st) (WM cy a V X)) : Wp Γ ce sl pc lv (.ref (a 4) :: st) (WM cy a V X) := fun H locs ls hl hP hS => mln_4 C0.1 hP hdg (k H locs ls hl hP hS)
theorem wmal_5 (C0 : CXg Γ cc n d own cy) {i : Int32} {T : Type} {z : T} {g : Nat → Option T} (h : (ckA 200 i).bind g = some z) (hdg : decode cc pc = .ok (.iaload, 1)) (k : ∀ q : Nat, g q = some z → Wp Γ ce sl (pc + 1) lv (.int (V 4 q) :: st) (WM cy a V X)) : Wp Γ ce sl pc lv (.int i :: .ref (a 5) :: st) (WM cy a V X) := by
  obtain ⟨q, h1, h⟩ := op_bind h
  obtain ⟨h2, rfl⟩ := ckA_spec h1
  exact fun H locs ls hl hP hS => mal_5 C0.1 hP h2 hdg (k _ h H locs ls hl hP hS)
theorem wmas_5 (C0 : CXg Γ cc n d own cy) (hD : DM Γ cy a X) {i : Int32} {x : Int32} {T : Type} {z : T} {g : Nat → Option T} (h : (ckA 200 i).bind g = some z) (hdg : decode cc pc = .ok (.iastore, 1)) (k : ∀ q : Nat, g q = some z → Wp Γ ce sl (pc + 1) lv st (WM cy a (u2 V 4 q x) X)) : Wp Γ ce sl pc lv (.int x :: .int i :: .ref (a 5) :: st) (WM cy a V X) := by
  obtain ⟨q, h1, h⟩ := op_bind h
  obtain ⟨h2, rfl⟩ := ckA_spec h1
  exact fun H locs ls hl hP hS => mas_5 C0.1 hP hD hS h2 hdg (fun H locs hP hS => k _ h H locs ls hl hP hS)
theorem wmln_5 (C0 : CXg Γ cc n d own cy) (hdg : decode cc pc = .ok (.arraylength, 1)) (k : Wp Γ ce sl (pc + 1) lv (.int 200 :: st) (WM cy a V X)) : Wp Γ ce sl pc lv (.ref (a 5) :: st) (WM cy a V X) := fun H locs ls hl hP hS => mln_5 C0.1 hP hdg (k H locs ls hl hP hS)
theorem wmal_6 (C0 : CXg Γ cc n d own cy) {i : Int32} {T : Type} {z : T} {g : Nat → Option T} (h : (ckA 16 i).bind g = some z) (hdg : decode cc pc = .ok (.iaload, 1)) (k : ∀ q : Nat, g q = some z → Wp Γ ce sl (pc + 1) lv (.int (V 5 q) :: st) (WM cy a V X)) : Wp Γ ce sl pc lv (.int i :: .ref (a 6) :: st) (WM cy a V X) := by
  obtain ⟨q, h1, h⟩ := op_bind h
  obtain ⟨h2, rfl⟩ := ckA_spec h1
  exact fun H locs ls hl hP hS => mal_6 C0.1 hP h2 hdg (k _ h H locs ls hl hP hS)
theorem wmas_6 (C0 : CXg Γ cc n d own cy) (hD : DM Γ cy a X) {i : Int32} {x : Int32} {T : Type} {z : T} {g : Nat → Option T} (h : (ckA 16 i).bind g = some z) (hdg : decode cc pc = .ok (.iastore, 1)) (k : ∀ q : Nat, g q = some z → Wp Γ ce sl (pc + 1) lv st (WM cy a (u2 V 5 q x) X)) : Wp Γ ce sl pc lv (.int x :: .int i :: .ref (a 6) :: st) (WM cy a V X) := by
  obtain ⟨q, h1, h⟩ := op_bind h
  obtain ⟨h2, rfl⟩ := ckA_spec h1
  exact fun H locs ls hl hP hS => mas_6 C0.1 hP hD hS h2 hdg (fun H locs hP hS => k _ h H locs ls hl hP hS)
theorem wmln_6 (C0 : CXg Γ cc n d own cy) (hdg : decode cc pc = .ok (.arraylength, 1)) (k : Wp Γ ce sl (pc + 1) lv (.int 16 :: st) (WM cy a V X)) : Wp Γ ce sl pc lv (.ref (a 6) :: st) (WM cy a V X) := fun H locs ls hl hP hS => mln_6 C0.1 hP hdg (k H locs ls hl hP hS)
theorem wmal_7 (C0 : CXg Γ cc n d own cy) {i : Int32} {T : Type} {z : T} {g : Nat → Option T} (h : (ckA 98760 i).bind g = some z) (hdg : decode cc pc = .ok (.iaload, 1)) (k : ∀ q : Nat, g q = some z → Wp Γ ce sl (pc + 1) lv (.int (V 6 q) :: st) (WM cy a V X)) : Wp Γ ce sl pc lv (.int i :: .ref (a 7) :: st) (WM cy a V X) := by
  obtain ⟨q, h1, h⟩ := op_bind h
  obtain ⟨h2, rfl⟩ := ckA_spec h1
  exact fun H locs ls hl hP hS => mal_7 C0.1 hP h2 hdg (k _ h H locs ls hl hP hS)
theorem wmas_7 (C0 : CXg Γ cc n d own cy) (hD : DM Γ cy a X) {i : Int32} {x : Int32} {T : Type} {z : T} {g : Nat → Option T} (h : (ckA 98760 i).bind g = some z) (hdg : decode cc pc = .ok (.iastore, 1)) (k : ∀ q : Nat, g q = some z → Wp Γ ce sl (pc + 1) lv st (WM cy a (u2 V 6 q x) X)) : Wp Γ ce sl pc lv (.int x :: .int i :: .ref (a 7) :: st) (WM cy a V X) := by
  obtain ⟨q, h1, h⟩ := op_bind h
  obtain ⟨h2, rfl⟩ := ckA_spec h1
  exact fun H locs ls hl hP hS => mas_7 C0.1 hP hD hS h2 hdg (fun H locs hP hS => k _ h H locs ls hl hP hS)
theorem wmln_7 (C0 : CXg Γ cc n d own cy) (hdg : decode cc pc = .ok (.arraylength, 1)) (k : Wp Γ ce sl (pc + 1) lv (.int 98760 :: st) (WM cy a V X)) : Wp Γ ce sl pc lv (.ref (a 7) :: st) (WM cy a V X) := fun H locs ls hl hP hS => mln_7 C0.1 hP hdg (k H locs ls hl hP hS)
theorem wtg_0 (C0 : CXg Γ cc n d own cy) {index : Nat} (hl0 : Cond.fieldLink own index "RiggingLoft$Table" "memory" "LRiggingLoft$Memory;" ∈ lw_T) {tq ta : Nat} {tB tR tC : Int32} (ht : TB cy a X tq ta tB tR tC) (hdg : decode cc pc = .ok (.getfield index, 3)) (k : Wp Γ ce sl (pc + 3) lv (.ref (a 1) :: st) (WC cy a V J K X)) : Wp Γ ce sl pc lv (.ref ta :: st) (WC cy a V J K X) := fun H locs ls hl hP hS => tg_0 C0.1 hl0 hP ht hdg (k H locs ls hl hP hS)
theorem wtg_1 (C0 : CXg Γ cc n d own cy) {index : Nat} (hl0 : Cond.fieldLink own index "RiggingLoft$Table" "values" "[I" ∈ lw_T) {tq ta : Nat} {tB tR tC : Int32} (ht : TB cy a X tq ta tB tR tC) (hdg : decode cc pc = .ok (.getfield index, 3)) (k : Wp Γ ce sl (pc + 3) lv (.ref (a 18) :: st) (WC cy a V J K X)) : Wp Γ ce sl pc lv (.ref ta :: st) (WC cy a V J K X) := fun H locs ls hl hP hS => tg_1 C0.1 hl0 hP ht hdg (k H locs ls hl hP hS)
theorem wtg_2 (C0 : CXg Γ cc n d own cy) {index : Nat} (hl0 : Cond.fieldLink own index "RiggingLoft$Table" "base" "I" ∈ lw_T) {tq ta : Nat} {tB tR tC : Int32} (ht : TB cy a X tq ta tB tR tC) (hdg : decode cc pc = .ok (.getfield index, 3)) (k : Wp Γ ce sl (pc + 3) lv (.int tB :: st) (WC cy a V J K X)) : Wp Γ ce sl pc lv (.ref ta :: st) (WC cy a V J K X) := fun H locs ls hl hP hS => tg_2 C0.1 hl0 hP ht hdg (k H locs ls hl hP hS)
theorem wtg_3 (C0 : CXg Γ cc n d own cy) {index : Nat} (hl0 : Cond.fieldLink own index "RiggingLoft$Table" "rows" "I" ∈ lw_T) {tq ta : Nat} {tB tR tC : Int32} (ht : TB cy a X tq ta tB tR tC) (hdg : decode cc pc = .ok (.getfield index, 3)) (k : Wp Γ ce sl (pc + 3) lv (.int tR :: st) (WC cy a V J K X)) : Wp Γ ce sl pc lv (.ref ta :: st) (WC cy a V J K X) := fun H locs ls hl hP hS => tg_3 C0.1 hl0 hP ht hdg (k H locs ls hl hP hS)
theorem wtg_4 (C0 : CXg Γ cc n d own cy) {index : Nat} (hl0 : Cond.fieldLink own index "RiggingLoft$Table" "columns" "I" ∈ lw_T) {tq ta : Nat} {tB tR tC : Int32} (ht : TB cy a X tq ta tB tR tC) (hdg : decode cc pc = .ok (.getfield index, 3)) (k : Wp Γ ce sl (pc + 3) lv (.int tC :: st) (WC cy a V J K X)) : Wp Γ ce sl pc lv (.ref ta :: st) (WC cy a V J K X) := fun H locs ls hl hP hS => tg_4 C0.1 hl0 hP ht hdg (k H locs ls hl hP hS)
end WORLDS
/-- contracts -/
def RM (d : Nat) : Room := { frames := d, cells := 0, slots := 0, locals := 42 * d }
def PreW (D : va_G) (cy : Nat → ClassId) (w : va_W) (sz : Nat) (U : State) : Prop := U.heap.size = sz ∧ va_P D vwCl w U.heap ∧ va_K D vwCl (TY cy) U ∧ va_D (fun _ => True) w
def QW (D : va_G) (w : va_W) (A : Nat → Prop) (r : Option Value) : Array Value → State → Outcome → State → Prop := fun _ s oc t => (oc = .returned r ∧ va_P D vwCl w t.heap) ∧ va_F A s t
def CT (l : Launch) (D : va_G) (cy : Nat → ClassId) (y : MethodName) (b : ByteArray) (n : Nat) (ret : Option FieldType) (d : Nat) (av : List Value) (w w2 : va_W) (r : Option Value) : Prop := ∀ sz : Nat, Met l y (TT y b n ret) (RM d) (va_Pc av (PreW D cy w sz)) (QW D w2 (va_A w sz) r) 0 0 (va_A w sz)
theorem pre_blind {D : va_G} {cy : Nat → ClassId} {w : va_W} {sz : Nat} {av : List Value} : FrameBlind (va_Pc av (PreW D cy w sz)) := fun a U g mk q => by
  obtain ⟨q0, q1, qP, qK, qD⟩ := q
  exact ⟨q0, q1, qP, va_K.moved (u := U) (U := U.calling g mk a) (Vm.Alike.refl U.vm) qK, qD⟩
theorem va_D_same {A : Nat → Prop} {w w2 : va_W} (h : w.map Prod.fst = w2.map Prod.fst) (hD : va_D A w) : va_D A w2 := by
  have key : ∀ (k : Nat) (q : Nat × va_E), w2[k]? = some q → ∃ q0 : Nat × va_E, w[k]? = some q0 ∧ q0.1 = q.1 := by
    intro k q hq
    have h1 : (w2.map Prod.fst)[k]? = some q.1 := by rw [List.getElem?_map, hq]; rfl
    rw [← h, List.getElem?_map] at h1
    cases hw : w[k]? with
    | none => rw [hw] at h1; cases h1
    | some q0 => rw [hw] at h1; exact ⟨q0, rfl, Option.some.inj h1⟩
  refine ⟨fun i j p q hp hq he => ?_, fun k q hq => ?_⟩
  · obtain ⟨p0, h1, h2⟩ := key i p hp
    obtain ⟨q0, h3, h4⟩ := key j q hq
    exact hD.1 i j p0 q0 h1 h3 (by rw [h2, h4]; exact he)
  · obtain ⟨q0, h1, h2⟩ := key k q hq
    rw [← h2]; exact hD.2 k q0 h1
theorem dc_of {Γ : Gam} {cy : Nat → ClassId} {a : Nat → Nat} {V : VT} {J : JT} {K : Nat → Option Nat} {X : va_W} (h : va_D Γ.2.2.2.2.2.2.2.2.2.2.2.2.1 (WC cy a V J K X)) : DC Γ cy a X := fun V2 J2 K2 => va_D_same (by rfl) h
theorem dm_of {Γ : Gam} {cy : Nat → ClassId} {a : Nat → Nat} {V : VT} {X : va_W} (h : va_D Γ.2.2.2.2.2.2.2.2.2.2.2.2.1 (WM cy a V X)) : DM Γ cy a X := fun V2 => va_D_same (by rfl) h
def FinI (Γ : Gam) (cc : ByteArray) (w : va_W) (x : Int32) : Prop := ∀ (pc : Nat) (lv : List (Nat × Value)), decode cc pc = .ok (.ireturn, 1) → Wp Γ 0 0 pc lv [.int x] w
def FinZ (Γ : Gam) (cc : ByteArray) (w : va_W) (x : Int32) : Prop := ∀ (pc : Nat) (lv : List (Nat × Value)), narrow .boolean (.int x) = .int x → decode cc pc = .ok (.ireturn, 1) → Wp Γ 0 0 pc lv [.int x] w
def FinL (Γ : Gam) (cc : ByteArray) (w : va_W) (x : Int64) : Prop := ∀ (pc : Nat) (lv : List (Nat × Value)), decode cc pc = .ok (.lreturn, 1) → Wp Γ 0 0 pc lv [.long x] w
def FinF (Γ : Gam) (cc : ByteArray) (w : va_W) (x : UInt32) : Prop := ∀ (pc : Nat) (lv : List (Nat × Value)), decode cc pc = .ok (.freturn, 1) → Wp Γ 0 0 pc lv [.float x] w
def FinD (Γ : Gam) (cc : ByteArray) (w : va_W) (x : UInt64) : Prop := ∀ (pc : Nat) (lv : List (Nat × Value)), decode cc pc = .ok (.dreturn, 1) → Wp Γ 0 0 pc lv [.double x] w
def FinV (Γ : Gam) (cc : ByteArray) (w : va_W) : Prop := ∀ (pc : Nat) (lv : List (Nat × Value)), decode cc pc = .ok (.return_, 1) → Wp Γ 0 0 pc lv [] w
theorem mkI {l : Launch} {D : va_G} {cy : Nat → ClassId} {y : MethodName} {b : ByteArray} {n d : Nat} {av : List Value} {w w2 : va_W} {x : Int32} (hy : plainName y.cls = true) (hn : (lg_sl av).length ≤ n) (body : ∀ Γ : Gam, Γ.2.1 = l → Γ.2.2.2.2.2.2.2.2.2.2.2.1 = D → CXg Γ b n d y.cls cy → va_D Γ.2.2.2.2.2.2.2.2.2.2.2.2.1 w → FinI Γ b w2 x → Wp Γ 0 0 0 (lv_args 0 av) [] w) : CT l D cy y b n (some .int) d av w w2 (some (.int x)) := by
  intro sz
  refine Met.ofW (cc := b) (maxL := n) (ret := (some .int)) hy rfl ?_
  intro p e s m args below meth c s₁ B hml hv
  obtain ⟨rfl, hsz, hP, hK, hD0⟩ := hv
  have hx := B.exec
  have hb := B.bytes
  have hr := B.returns
  have hts := atoms_spec (ws := TT y b n (some .int)) B.pre
  have hown : s.vm.findClass y.cls = some m.cls := findClass_of_methodNamed B.named
  have hlocks := B.notSynchronized
  subst hsz
  have hD := hD0.self (sz := s.heap.size)
  have hS : va_S (va_A w s.heap.size) s.heap s.heap [] := va_S.rf
  have hl := lv_entry av (n := n) hn
  rw [lg_entry_eq]
  refine body (p, l, e, (headSpec (TT y b n (some .int)) (RM d)).room, s, m, av.toArray, below, meth, c, MQ below (QW D w2 (va_A w s.heap.size) (some (.int x))) av.toArray s 0 0 (va_A w s.heap.size), D, va_A w s.heap.size, s.heap, n) rfl rfl ⟨⟨hx, hb, hml, hown, tt_of hts, hK⟩, fun q h => Or.inr h, rfl, Nat.le_refl _, Nat.le_refl _⟩ hD ?_ s.heap [] _ hl hP hS
  intro pc lv hdg H locs ls hl hP hS
  exact W.iret hx hb hr (fun t ht hW => ⟨⟨rfl, by rw [ht]; exact hP⟩, hS.F ht⟩) hS.2.2 hdg hlocks
theorem mkZ {l : Launch} {D : va_G} {cy : Nat → ClassId} {y : MethodName} {b : ByteArray} {n d : Nat} {av : List Value} {w w2 : va_W} {x : Int32} (hy : plainName y.cls = true) (hn : (lg_sl av).length ≤ n) (body : ∀ Γ : Gam, Γ.2.1 = l → Γ.2.2.2.2.2.2.2.2.2.2.2.1 = D → CXg Γ b n d y.cls cy → va_D Γ.2.2.2.2.2.2.2.2.2.2.2.2.1 w → FinZ Γ b w2 x → Wp Γ 0 0 0 (lv_args 0 av) [] w) : CT l D cy y b n (some .boolean) d av w w2 (some (.int x)) := by
  intro sz
  refine Met.ofW (cc := b) (maxL := n) (ret := (some .boolean)) hy rfl ?_
  intro p e s m args below meth c s₁ B hml hv
  obtain ⟨rfl, hsz, hP, hK, hD0⟩ := hv
  have hx := B.exec
  have hb := B.bytes
  have hr := B.returns
  have hts := atoms_spec (ws := TT y b n (some .boolean)) B.pre
  have hown : s.vm.findClass y.cls = some m.cls := findClass_of_methodNamed B.named
  have hlocks := B.notSynchronized
  subst hsz
  have hD := hD0.self (sz := s.heap.size)
  have hS : va_S (va_A w s.heap.size) s.heap s.heap [] := va_S.rf
  have hl := lv_entry av (n := n) hn
  rw [lg_entry_eq]
  refine body (p, l, e, (headSpec (TT y b n (some .boolean)) (RM d)).room, s, m, av.toArray, below, meth, c, MQ below (QW D w2 (va_A w s.heap.size) (some (.int x))) av.toArray s 0 0 (va_A w s.heap.size), D, va_A w s.heap.size, s.heap, n) rfl rfl ⟨⟨hx, hb, hml, hown, tt_of hts, hK⟩, fun q h => Or.inr h, rfl, Nat.le_refl _, Nat.le_refl _⟩ hD ?_ s.heap [] _ hl hP hS
  intro pc lv hz hdg H locs ls hl hP hS
  exact W.zret hx hb hr hz (fun t ht hW => ⟨⟨rfl, by rw [ht]; exact hP⟩, hS.F ht⟩) hS.2.2 hdg hlocks
theorem mkL {l : Launch} {D : va_G} {cy : Nat → ClassId} {y : MethodName} {b : ByteArray} {n d : Nat} {av : List Value} {w w2 : va_W} {x : Int64} (hy : plainName y.cls = true) (hn : (lg_sl av).length ≤ n) (body : ∀ Γ : Gam, Γ.2.1 = l → Γ.2.2.2.2.2.2.2.2.2.2.2.1 = D → CXg Γ b n d y.cls cy → va_D Γ.2.2.2.2.2.2.2.2.2.2.2.2.1 w → FinL Γ b w2 x → Wp Γ 0 0 0 (lv_args 0 av) [] w) : CT l D cy y b n (some .long) d av w w2 (some (.long x)) := by
  intro sz
  refine Met.ofW (cc := b) (maxL := n) (ret := (some .long)) hy rfl ?_
  intro p e s m args below meth c s₁ B hml hv
  obtain ⟨rfl, hsz, hP, hK, hD0⟩ := hv
  have hx := B.exec
  have hb := B.bytes
  have hr := B.returns
  have hts := atoms_spec (ws := TT y b n (some .long)) B.pre
  have hown : s.vm.findClass y.cls = some m.cls := findClass_of_methodNamed B.named
  have hlocks := B.notSynchronized
  subst hsz
  have hD := hD0.self (sz := s.heap.size)
  have hS : va_S (va_A w s.heap.size) s.heap s.heap [] := va_S.rf
  have hl := lv_entry av (n := n) hn
  rw [lg_entry_eq]
  refine body (p, l, e, (headSpec (TT y b n (some .long)) (RM d)).room, s, m, av.toArray, below, meth, c, MQ below (QW D w2 (va_A w s.heap.size) (some (.long x))) av.toArray s 0 0 (va_A w s.heap.size), D, va_A w s.heap.size, s.heap, n) rfl rfl ⟨⟨hx, hb, hml, hown, tt_of hts, hK⟩, fun q h => Or.inr h, rfl, Nat.le_refl _, Nat.le_refl _⟩ hD ?_ s.heap [] _ hl hP hS
  intro pc lv hdg H locs ls hl hP hS
  exact W.lret hx hb hr (fun t ht hW => ⟨⟨rfl, by rw [ht]; exact hP⟩, hS.F ht⟩) hS.2.2 hdg hlocks
theorem mkF {l : Launch} {D : va_G} {cy : Nat → ClassId} {y : MethodName} {b : ByteArray} {n d : Nat} {av : List Value} {w w2 : va_W} {x : UInt32} (hy : plainName y.cls = true) (hn : (lg_sl av).length ≤ n) (body : ∀ Γ : Gam, Γ.2.1 = l → Γ.2.2.2.2.2.2.2.2.2.2.2.1 = D → CXg Γ b n d y.cls cy → va_D Γ.2.2.2.2.2.2.2.2.2.2.2.2.1 w → FinF Γ b w2 x → Wp Γ 0 0 0 (lv_args 0 av) [] w) : CT l D cy y b n (some .float) d av w w2 (some (.float x)) := by
  intro sz
  refine Met.ofW (cc := b) (maxL := n) (ret := (some .float)) hy rfl ?_
  intro p e s m args below meth c s₁ B hml hv
  obtain ⟨rfl, hsz, hP, hK, hD0⟩ := hv
  have hx := B.exec
  have hb := B.bytes
  have hr := B.returns
  have hts := atoms_spec (ws := TT y b n (some .float)) B.pre
  have hown : s.vm.findClass y.cls = some m.cls := findClass_of_methodNamed B.named
  have hlocks := B.notSynchronized
  subst hsz
  have hD := hD0.self (sz := s.heap.size)
  have hS : va_S (va_A w s.heap.size) s.heap s.heap [] := va_S.rf
  have hl := lv_entry av (n := n) hn
  rw [lg_entry_eq]
  refine body (p, l, e, (headSpec (TT y b n (some .float)) (RM d)).room, s, m, av.toArray, below, meth, c, MQ below (QW D w2 (va_A w s.heap.size) (some (.float x))) av.toArray s 0 0 (va_A w s.heap.size), D, va_A w s.heap.size, s.heap, n) rfl rfl ⟨⟨hx, hb, hml, hown, tt_of hts, hK⟩, fun q h => Or.inr h, rfl, Nat.le_refl _, Nat.le_refl _⟩ hD ?_ s.heap [] _ hl hP hS
  intro pc lv hdg H locs ls hl hP hS
  exact W.fret hx hb hr (fun t ht hW => ⟨⟨rfl, by rw [ht]; exact hP⟩, hS.F ht⟩) hS.2.2 hdg hlocks
theorem mkD {l : Launch} {D : va_G} {cy : Nat → ClassId} {y : MethodName} {b : ByteArray} {n d : Nat} {av : List Value} {w w2 : va_W} {x : UInt64} (hy : plainName y.cls = true) (hn : (lg_sl av).length ≤ n) (body : ∀ Γ : Gam, Γ.2.1 = l → Γ.2.2.2.2.2.2.2.2.2.2.2.1 = D → CXg Γ b n d y.cls cy → va_D Γ.2.2.2.2.2.2.2.2.2.2.2.2.1 w → FinD Γ b w2 x → Wp Γ 0 0 0 (lv_args 0 av) [] w) : CT l D cy y b n (some .double) d av w w2 (some (.double x)) := by
  intro sz
  refine Met.ofW (cc := b) (maxL := n) (ret := (some .double)) hy rfl ?_
  intro p e s m args below meth c s₁ B hml hv
  obtain ⟨rfl, hsz, hP, hK, hD0⟩ := hv
  have hx := B.exec
  have hb := B.bytes
  have hr := B.returns
  have hts := atoms_spec (ws := TT y b n (some .double)) B.pre
  have hown : s.vm.findClass y.cls = some m.cls := findClass_of_methodNamed B.named
  have hlocks := B.notSynchronized
  subst hsz
  have hD := hD0.self (sz := s.heap.size)
  have hS : va_S (va_A w s.heap.size) s.heap s.heap [] := va_S.rf
  have hl := lv_entry av (n := n) hn
  rw [lg_entry_eq]
  refine body (p, l, e, (headSpec (TT y b n (some .double)) (RM d)).room, s, m, av.toArray, below, meth, c, MQ below (QW D w2 (va_A w s.heap.size) (some (.double x))) av.toArray s 0 0 (va_A w s.heap.size), D, va_A w s.heap.size, s.heap, n) rfl rfl ⟨⟨hx, hb, hml, hown, tt_of hts, hK⟩, fun q h => Or.inr h, rfl, Nat.le_refl _, Nat.le_refl _⟩ hD ?_ s.heap [] _ hl hP hS
  intro pc lv hdg H locs ls hl hP hS
  exact W.dret hx hb hr (fun t ht hW => ⟨⟨rfl, by rw [ht]; exact hP⟩, hS.F ht⟩) hS.2.2 hdg hlocks
theorem mkV {l : Launch} {D : va_G} {cy : Nat → ClassId} {y : MethodName} {b : ByteArray} {n d : Nat} {av : List Value} {w w2 : va_W} (hy : plainName y.cls = true) (hn : (lg_sl av).length ≤ n) (body : ∀ Γ : Gam, Γ.2.1 = l → Γ.2.2.2.2.2.2.2.2.2.2.2.1 = D → CXg Γ b n d y.cls cy → va_D Γ.2.2.2.2.2.2.2.2.2.2.2.2.1 w → FinV Γ b w2 → Wp Γ 0 0 0 (lv_args 0 av) [] w) : CT l D cy y b n none d av w w2 none := by
  intro sz
  refine Met.ofW (cc := b) (maxL := n) (ret := none) hy rfl ?_
  intro p e s m args below meth c s₁ B hml hv
  obtain ⟨rfl, hsz, hP, hK, hD0⟩ := hv
  have hx := B.exec
  have hb := B.bytes
  have hr := B.returns
  have hts := atoms_spec (ws := TT y b n none) B.pre
  have hown : s.vm.findClass y.cls = some m.cls := findClass_of_methodNamed B.named
  have hlocks := B.notSynchronized
  subst hsz
  have hD := hD0.self (sz := s.heap.size)
  have hS : va_S (va_A w s.heap.size) s.heap s.heap [] := va_S.rf
  have hl := lv_entry av (n := n) hn
  rw [lg_entry_eq]
  refine body (p, l, e, (headSpec (TT y b n none) (RM d)).room, s, m, av.toArray, below, meth, c, MQ below (QW D w2 (va_A w s.heap.size) none) av.toArray s 0 0 (va_A w s.heap.size), D, va_A w s.heap.size, s.heap, n) rfl rfl ⟨⟨hx, hb, hml, hown, tt_of hts, hK⟩, fun q h => Or.inr h, rfl, Nat.le_refl _, Nat.le_refl _⟩ hD ?_ s.heap [] _ hl hP hS
  intro pc lv hdg H locs ls hl hP hS
  exact W.vret hx hb hr (fun t ht hW => ⟨⟨rfl, by rw [ht]; exact hP⟩, hS.F ht⟩) hS.2.2 hdg hlocks
/-- the words of a method that is called -/
def MW (y : MethodName) (cb : ByteArray) (mL : Nat) (ret : Option FieldType) (C : String) (na : Nat) : Prop := Cond.code y cb mL ret ∈ lw_T ∧ Cond.instanceMethod y ∈ lw_T ∧ Cond.selects C y y ∈ lw_T ∧ Cond.initialized C ∈ lw_T ∧ y.cls = C ∧ (y.cls ≠ "java/lang/invoke/MethodHandle" ∧ y.cls ≠ "java/lang/invoke/VarHandle" ∧ (parseMethodDescriptor y.desc).map (fun d => d.parameters.length) = some na) ∧ mL ≤ 23
def MS (y : MethodName) (cb : ByteArray) (mL : Nat) (ret : Option FieldType) (na : Nat) : Prop := Cond.code y cb mL ret ∈ lw_T ∧ Cond.static y ∈ lw_T ∧ Cond.initialized y.cls ∈ lw_T ∧ (y.cls ≠ "java/lang/invoke/MethodHandle" ∧ y.cls ≠ "java/lang/invoke/VarHandle" ∧ (parseMethodDescriptor y.desc).map (fun d => d.parameters.length) = some na) ∧ mL ≤ 23
def RV (w : va_W) (b : Nat) (C : String) : Prop := ∃ (ci : Nat) (q : vw_C) (q0 : Nat) (fs : List Value), vwCl[ci]? = some q ∧ q.1 = C ∧ w[q0]? = some (b, .inr (ci, fs))
theorem goodT {y : MethodName} {b : ByteArray} {n : Nat} {r : Option FieldType} (h : Cond.code y b n r ∈ lw_T) : GoodIn lw_T (TT y b n r) := lw_goodT (fun w hw => by
  rcases List.mem_cons.mp hw with rfl | hw
  · exact h
  · exact hw)
section CALLS
variable {p : Program} {l : Launch} {e : Env} {R : Room} {s : State} {m : MethodId} {args : Array Value} {below : List Frame} {meth : Method} {c : Code} {H : Heap} {locs : List Loc} {cells slots : Nat} {Q : State → Prop}
variable {pc : Nat} {ls : Array Slot} {rest st0 : List Value} {a : Array Value} {A0 A1 : Nat → Prop} {H0 : Heap} {mc ms : Nat} {free : Addr → Prop}
theorem call_any {D : va_G} {w2 : va_W} {r : Option Value} (hr : va_Run p l e R s m args below meth c H locs cells slots mc ms (F0 m pc ls st0) rest (QW D w2 A1 r a) free) (hS : va_S A0 H0 H locs) (hA : ∀ q, q < H.size → A1 q → A0 q) (hf : ∀ q, free q → A0 q)
    (kk : ∀ (H1 : Heap) (locs1 : List Loc), va_P D vwCl w2 H1 → H.size ≤ H1.size → (∀ q : Nat, q < H.size → ¬ A1 q → H1[q]? = H[q]?) → va_S A0 H0 H1 locs1 → W p l e R s m args below meth c H1 locs1 (cells + mc) (slots + ms) Q (F0 m (pc + 3) ls (r.toList ++ rest))) : W p l e R s m args below meth c H locs cells slots Q (F0 m pc ls st0) := by
  intro T hT X
  obtain ⟨v, st₀, t, T2, L, h0, X2, hL, e1, e2, ⟨⟨hv, hb⟩, hz, hk⟩, st⟩ := hr T hT X
  cases hv
  rw [h0] at hz hk
  obtain ⟨t2, a1, b1⟩ := kk T2.heap (locs ++ L) (by rw [e1]; exact hb) (by rw [e1]; exact hz) (fun q h1 h2 => by rw [e1]; exact hk q h1 h2)
    ⟨Nat.le_trans hS.1 (by rw [e1]; exact hz), fun q h1 h2 => by rw [e1, hk q (Nat.lt_of_lt_of_le h1 hS.1) (fun z => h2 (hA q (Nat.lt_of_lt_of_le h1 hS.1) z))]; exact hS.2.1 q h1 h2, fun q hq => by
      rcases List.mem_append.mp hq with h | h
      · exact hS.2.2 q h
      · exact hf _ (hL q h)⟩ T2 rfl X2
  exact ⟨t2, st t2 a1, b1⟩
end CALLS
section CALLW
variable {Γ : Gam} {cc : ByteArray} {n d : Nat} {own : String} {cy : Nat → ClassId} {pc : Nat} {lv : List (Nat × Value)} {rest : List Value} {w : va_W} {T F1 : Type} {z : T} {F : Option F1} {g : F1 → Option T} {w2 : F1 → va_W} {y : MethodName} {cb : ByteArray} {mL d2 index : Nat} {ret : Option FieldType} {C : String} {b : Nat}
theorem callV0 {rr : F1 → Value} (C0 : CXg Γ cc n d own cy) (h : F.bind g = some z) (hD : va_D Γ.2.2.2.2.2.2.2.2.2.2.2.2.1 w) (hm : MW y cb mL ret C 0) (hrv : RV w b C) (hlk : Cond.methodLink own index y ∈ lw_T) (hc : ∀ q : F1, F = some q → CT Γ.2.1 Γ.2.2.2.2.2.2.2.2.2.2.2.1 cy y cb mL ret d2 [.ref b] w (w2 q) (some (rr q))) (hd : d2 + 1 ≤ d) (hst : (rest.map fun v => v.category).sum ≤ 8) (hdg : decode cc pc = .ok (.invokevirtual index, 3)) (k : ∀ q : F1, g q = some z → Wp Γ 0 0 (pc + 3) lv (rr q :: rest) (w2 q)) : Wp Γ 0 0 pc lv (.ref b :: rest) w := by
  obtain ⟨q, h1, h⟩ := op_bind h
  intro H locs ls hl hP hS
  have hK : va_K Γ.2.2.2.2.2.2.2.2.2.2.2.1 vwCl (TY cy) Γ.2.2.2.2.1 := C0.1.2.2.2.2.2
  have hts := C0.1.2.2.2.2.1
  have hR : (RM d2).frames + 1 ≤ Γ.2.2.2.1.frames ∧ 8 + (mL + 11) + (RM d2).locals ≤ Γ.2.2.2.1.locals := by
    have h23 := hm.2.2.2.2.2.2
    have c1 := C0.2.2.2.1
    have c2 := C0.2.2.2.2
    exact ⟨Nat.le_trans hd c1, Nat.le_trans (by show 8 + (mL + 11) + 42 * d2 ≤ 42 * d; omega) c2⟩
  have cb0 := callB_of (R := Γ.2.2.2.1) (s := Γ.2.2.2.2.1) (args := Γ.2.2.2.2.2.2.1) (own := own) (index := index) (rm := RM d2) (mc := 0) (ms := 0) 0 hts (goodT hm.1) rfl rfl rfl (by rw [hm.2.2.2.2.1]; exact hts _ hm.2.2.2.1) (hts _ hlk) hm.2.2.2.2.2.1 hR
  obtain ⟨ci, vc, qr, fs, g1, rfl, g3⟩ := hrv
  refine call_any (va_runV (As := []) (rest := rest) (C := vc.1) ⟨C0.1.1, C0.1.2.1, C0.1.2.2.1, C0.1.2.2.2.1, hts⟩ (hc q h1 H.size) ⟨cb0, hts _ hm.2.1, hts _ hm.2.2.1⟩ ⟨pre_blind, va_recv hK hP g1 g3, fun U hU hW => ⟨rfl, by rw [hU], by rw [hU]; exact hP, va_K.moved hW.alike hK, hD.weaken (fun _ _ _ _ => trivial)⟩⟩ rfl rfl hl.1 rfl (lv_room hst) hdg ⟨Nat.zero_le _, Nat.zero_le _⟩) hS (fun q _ hq => ?_) (fun q hq => ?_) (fun H1 locs1 hP1 _ _ hS1 => k q h H1 locs1 ls hl hP1 hS1)
  · rcases hq with ⟨k0, e0, h0⟩ | h0
    · exact hD.2 k0 _ h0
    · exact C0.2.1 q (Nat.le_trans hS.1 h0)
  · rcases hq with ⟨k0, e0, h0⟩ | h0
    · exact hD.2 k0 _ h0
    · exact C0.2.1 q (Nat.le_trans hS.1 h0)
theorem callV1 {q0 : Value} {rr : F1 → Value} (C0 : CXg Γ cc n d own cy) (h : F.bind g = some z) (hD : va_D Γ.2.2.2.2.2.2.2.2.2.2.2.2.1 w) (hm : MW y cb mL ret C 1) (hrv : RV w b C) (hlk : Cond.methodLink own index y ∈ lw_T) (hc : ∀ q : F1, F = some q → CT Γ.2.1 Γ.2.2.2.2.2.2.2.2.2.2.2.1 cy y cb mL ret d2 [.ref b, q0] w (w2 q) (some (rr q))) (hd : d2 + 1 ≤ d) (hst : (rest.map fun v => v.category).sum ≤ 8) (hdg : decode cc pc = .ok (.invokevirtual index, 3)) (k : ∀ q : F1, g q = some z → Wp Γ 0 0 (pc + 3) lv (rr q :: rest) (w2 q)) : Wp Γ 0 0 pc lv (q0 :: .ref b :: rest) w := by
  obtain ⟨q, h1, h⟩ := op_bind h
  intro H locs ls hl hP hS
  have hK : va_K Γ.2.2.2.2.2.2.2.2.2.2.2.1 vwCl (TY cy) Γ.2.2.2.2.1 := C0.1.2.2.2.2.2
  have hts := C0.1.2.2.2.2.1
  have hR : (RM d2).frames + 1 ≤ Γ.2.2.2.1.frames ∧ 8 + (mL + 11) + (RM d2).locals ≤ Γ.2.2.2.1.locals := by
    have h23 := hm.2.2.2.2.2.2
    have c1 := C0.2.2.2.1
    have c2 := C0.2.2.2.2
    exact ⟨Nat.le_trans hd c1, Nat.le_trans (by show 8 + (mL + 11) + 42 * d2 ≤ 42 * d; omega) c2⟩
  have cb0 := callB_of (R := Γ.2.2.2.1) (s := Γ.2.2.2.2.1) (args := Γ.2.2.2.2.2.2.1) (own := own) (index := index) (rm := RM d2) (mc := 0) (ms := 0) 1 hts (goodT hm.1) rfl rfl rfl (by rw [hm.2.2.2.2.1]; exact hts _ hm.2.2.2.1) (hts _ hlk) hm.2.2.2.2.2.1 hR
  obtain ⟨ci, vc, qr, fs, g1, rfl, g3⟩ := hrv
  refine call_any (va_runV (As := [q0]) (rest := rest) (C := vc.1) ⟨C0.1.1, C0.1.2.1, C0.1.2.2.1, C0.1.2.2.2.1, hts⟩ (hc q h1 H.size) ⟨cb0, hts _ hm.2.1, hts _ hm.2.2.1⟩ ⟨pre_blind, va_recv hK hP g1 g3, fun U hU hW => ⟨rfl, by rw [hU], by rw [hU]; exact hP, va_K.moved hW.alike hK, hD.weaken (fun _ _ _ _ => trivial)⟩⟩ rfl rfl hl.1 rfl (lv_room hst) hdg ⟨Nat.zero_le _, Nat.zero_le _⟩) hS (fun q _ hq => ?_) (fun q hq => ?_) (fun H1 locs1 hP1 _ _ hS1 => k q h H1 locs1 ls hl hP1 hS1)
  · rcases hq with ⟨k0, e0, h0⟩ | h0
    · exact hD.2 k0 _ h0
    · exact C0.2.1 q (Nat.le_trans hS.1 h0)
  · rcases hq with ⟨k0, e0, h0⟩ | h0
    · exact hD.2 k0 _ h0
    · exact C0.2.1 q (Nat.le_trans hS.1 h0)
theorem callV2 {q0 q1 : Value} {rr : F1 → Value} (C0 : CXg Γ cc n d own cy) (h : F.bind g = some z) (hD : va_D Γ.2.2.2.2.2.2.2.2.2.2.2.2.1 w) (hm : MW y cb mL ret C 2) (hrv : RV w b C) (hlk : Cond.methodLink own index y ∈ lw_T) (hc : ∀ q : F1, F = some q → CT Γ.2.1 Γ.2.2.2.2.2.2.2.2.2.2.2.1 cy y cb mL ret d2 [.ref b, q0, q1] w (w2 q) (some (rr q))) (hd : d2 + 1 ≤ d) (hst : (rest.map fun v => v.category).sum ≤ 8) (hdg : decode cc pc = .ok (.invokevirtual index, 3)) (k : ∀ q : F1, g q = some z → Wp Γ 0 0 (pc + 3) lv (rr q :: rest) (w2 q)) : Wp Γ 0 0 pc lv (q1 :: q0 :: .ref b :: rest) w := by
  obtain ⟨q, h1, h⟩ := op_bind h
  intro H locs ls hl hP hS
  have hK : va_K Γ.2.2.2.2.2.2.2.2.2.2.2.1 vwCl (TY cy) Γ.2.2.2.2.1 := C0.1.2.2.2.2.2
  have hts := C0.1.2.2.2.2.1
  have hR : (RM d2).frames + 1 ≤ Γ.2.2.2.1.frames ∧ 8 + (mL + 11) + (RM d2).locals ≤ Γ.2.2.2.1.locals := by
    have h23 := hm.2.2.2.2.2.2
    have c1 := C0.2.2.2.1
    have c2 := C0.2.2.2.2
    exact ⟨Nat.le_trans hd c1, Nat.le_trans (by show 8 + (mL + 11) + 42 * d2 ≤ 42 * d; omega) c2⟩
  have cb0 := callB_of (R := Γ.2.2.2.1) (s := Γ.2.2.2.2.1) (args := Γ.2.2.2.2.2.2.1) (own := own) (index := index) (rm := RM d2) (mc := 0) (ms := 0) 2 hts (goodT hm.1) rfl rfl rfl (by rw [hm.2.2.2.2.1]; exact hts _ hm.2.2.2.1) (hts _ hlk) hm.2.2.2.2.2.1 hR
  obtain ⟨ci, vc, qr, fs, g1, rfl, g3⟩ := hrv
  refine call_any (va_runV (As := [q0, q1]) (rest := rest) (C := vc.1) ⟨C0.1.1, C0.1.2.1, C0.1.2.2.1, C0.1.2.2.2.1, hts⟩ (hc q h1 H.size) ⟨cb0, hts _ hm.2.1, hts _ hm.2.2.1⟩ ⟨pre_blind, va_recv hK hP g1 g3, fun U hU hW => ⟨rfl, by rw [hU], by rw [hU]; exact hP, va_K.moved hW.alike hK, hD.weaken (fun _ _ _ _ => trivial)⟩⟩ rfl rfl hl.1 rfl (lv_room hst) hdg ⟨Nat.zero_le _, Nat.zero_le _⟩) hS (fun q _ hq => ?_) (fun q hq => ?_) (fun H1 locs1 hP1 _ _ hS1 => k q h H1 locs1 ls hl hP1 hS1)
  · rcases hq with ⟨k0, e0, h0⟩ | h0
    · exact hD.2 k0 _ h0
    · exact C0.2.1 q (Nat.le_trans hS.1 h0)
  · rcases hq with ⟨k0, e0, h0⟩ | h0
    · exact hD.2 k0 _ h0
    · exact C0.2.1 q (Nat.le_trans hS.1 h0)
theorem callV3 {q0 q1 q2 : Value} {rr : F1 → Value} (C0 : CXg Γ cc n d own cy) (h : F.bind g = some z) (hD : va_D Γ.2.2.2.2.2.2.2.2.2.2.2.2.1 w) (hm : MW y cb mL ret C 3) (hrv : RV w b C) (hlk : Cond.methodLink own index y ∈ lw_T) (hc : ∀ q : F1, F = some q → CT Γ.2.1 Γ.2.2.2.2.2.2.2.2.2.2.2.1 cy y cb mL ret d2 [.ref b, q0, q1, q2] w (w2 q) (some (rr q))) (hd : d2 + 1 ≤ d) (hst : (rest.map fun v => v.category).sum ≤ 8) (hdg : decode cc pc = .ok (.invokevirtual index, 3)) (k : ∀ q : F1, g q = some z → Wp Γ 0 0 (pc + 3) lv (rr q :: rest) (w2 q)) : Wp Γ 0 0 pc lv (q2 :: q1 :: q0 :: .ref b :: rest) w := by
  obtain ⟨q, h1, h⟩ := op_bind h
  intro H locs ls hl hP hS
  have hK : va_K Γ.2.2.2.2.2.2.2.2.2.2.2.1 vwCl (TY cy) Γ.2.2.2.2.1 := C0.1.2.2.2.2.2
  have hts := C0.1.2.2.2.2.1
  have hR : (RM d2).frames + 1 ≤ Γ.2.2.2.1.frames ∧ 8 + (mL + 11) + (RM d2).locals ≤ Γ.2.2.2.1.locals := by
    have h23 := hm.2.2.2.2.2.2
    have c1 := C0.2.2.2.1
    have c2 := C0.2.2.2.2
    exact ⟨Nat.le_trans hd c1, Nat.le_trans (by show 8 + (mL + 11) + 42 * d2 ≤ 42 * d; omega) c2⟩
  have cb0 := callB_of (R := Γ.2.2.2.1) (s := Γ.2.2.2.2.1) (args := Γ.2.2.2.2.2.2.1) (own := own) (index := index) (rm := RM d2) (mc := 0) (ms := 0) 3 hts (goodT hm.1) rfl rfl rfl (by rw [hm.2.2.2.2.1]; exact hts _ hm.2.2.2.1) (hts _ hlk) hm.2.2.2.2.2.1 hR
  obtain ⟨ci, vc, qr, fs, g1, rfl, g3⟩ := hrv
  refine call_any (va_runV (As := [q0, q1, q2]) (rest := rest) (C := vc.1) ⟨C0.1.1, C0.1.2.1, C0.1.2.2.1, C0.1.2.2.2.1, hts⟩ (hc q h1 H.size) ⟨cb0, hts _ hm.2.1, hts _ hm.2.2.1⟩ ⟨pre_blind, va_recv hK hP g1 g3, fun U hU hW => ⟨rfl, by rw [hU], by rw [hU]; exact hP, va_K.moved hW.alike hK, hD.weaken (fun _ _ _ _ => trivial)⟩⟩ rfl rfl hl.1 rfl (lv_room hst) hdg ⟨Nat.zero_le _, Nat.zero_le _⟩) hS (fun q _ hq => ?_) (fun q hq => ?_) (fun H1 locs1 hP1 _ _ hS1 => k q h H1 locs1 ls hl hP1 hS1)
  · rcases hq with ⟨k0, e0, h0⟩ | h0
    · exact hD.2 k0 _ h0
    · exact C0.2.1 q (Nat.le_trans hS.1 h0)
  · rcases hq with ⟨k0, e0, h0⟩ | h0
    · exact hD.2 k0 _ h0
    · exact C0.2.1 q (Nat.le_trans hS.1 h0)
theorem callV4 {q0 q1 q2 q3 : Value} {rr : F1 → Value} (C0 : CXg Γ cc n d own cy) (h : F.bind g = some z) (hD : va_D Γ.2.2.2.2.2.2.2.2.2.2.2.2.1 w) (hm : MW y cb mL ret C 4) (hrv : RV w b C) (hlk : Cond.methodLink own index y ∈ lw_T) (hc : ∀ q : F1, F = some q → CT Γ.2.1 Γ.2.2.2.2.2.2.2.2.2.2.2.1 cy y cb mL ret d2 [.ref b, q0, q1, q2, q3] w (w2 q) (some (rr q))) (hd : d2 + 1 ≤ d) (hst : (rest.map fun v => v.category).sum ≤ 8) (hdg : decode cc pc = .ok (.invokevirtual index, 3)) (k : ∀ q : F1, g q = some z → Wp Γ 0 0 (pc + 3) lv (rr q :: rest) (w2 q)) : Wp Γ 0 0 pc lv (q3 :: q2 :: q1 :: q0 :: .ref b :: rest) w := by
  obtain ⟨q, h1, h⟩ := op_bind h
  intro H locs ls hl hP hS
  have hK : va_K Γ.2.2.2.2.2.2.2.2.2.2.2.1 vwCl (TY cy) Γ.2.2.2.2.1 := C0.1.2.2.2.2.2
  have hts := C0.1.2.2.2.2.1
  have hR : (RM d2).frames + 1 ≤ Γ.2.2.2.1.frames ∧ 8 + (mL + 11) + (RM d2).locals ≤ Γ.2.2.2.1.locals := by
    have h23 := hm.2.2.2.2.2.2
    have c1 := C0.2.2.2.1
    have c2 := C0.2.2.2.2
    exact ⟨Nat.le_trans hd c1, Nat.le_trans (by show 8 + (mL + 11) + 42 * d2 ≤ 42 * d; omega) c2⟩
  have cb0 := callB_of (R := Γ.2.2.2.1) (s := Γ.2.2.2.2.1) (args := Γ.2.2.2.2.2.2.1) (own := own) (index := index) (rm := RM d2) (mc := 0) (ms := 0) 4 hts (goodT hm.1) rfl rfl rfl (by rw [hm.2.2.2.2.1]; exact hts _ hm.2.2.2.1) (hts _ hlk) hm.2.2.2.2.2.1 hR
  obtain ⟨ci, vc, qr, fs, g1, rfl, g3⟩ := hrv
  refine call_any (va_runV (As := [q0, q1, q2, q3]) (rest := rest) (C := vc.1) ⟨C0.1.1, C0.1.2.1, C0.1.2.2.1, C0.1.2.2.2.1, hts⟩ (hc q h1 H.size) ⟨cb0, hts _ hm.2.1, hts _ hm.2.2.1⟩ ⟨pre_blind, va_recv hK hP g1 g3, fun U hU hW => ⟨rfl, by rw [hU], by rw [hU]; exact hP, va_K.moved hW.alike hK, hD.weaken (fun _ _ _ _ => trivial)⟩⟩ rfl rfl hl.1 rfl (lv_room hst) hdg ⟨Nat.zero_le _, Nat.zero_le _⟩) hS (fun q _ hq => ?_) (fun q hq => ?_) (fun H1 locs1 hP1 _ _ hS1 => k q h H1 locs1 ls hl hP1 hS1)
  · rcases hq with ⟨k0, e0, h0⟩ | h0
    · exact hD.2 k0 _ h0
    · exact C0.2.1 q (Nat.le_trans hS.1 h0)
  · rcases hq with ⟨k0, e0, h0⟩ | h0
    · exact hD.2 k0 _ h0
    · exact C0.2.1 q (Nat.le_trans hS.1 h0)
theorem callV5 {q0 q1 q2 q3 q4 : Value} {rr : F1 → Value} (C0 : CXg Γ cc n d own cy) (h : F.bind g = some z) (hD : va_D Γ.2.2.2.2.2.2.2.2.2.2.2.2.1 w) (hm : MW y cb mL ret C 5) (hrv : RV w b C) (hlk : Cond.methodLink own index y ∈ lw_T) (hc : ∀ q : F1, F = some q → CT Γ.2.1 Γ.2.2.2.2.2.2.2.2.2.2.2.1 cy y cb mL ret d2 [.ref b, q0, q1, q2, q3, q4] w (w2 q) (some (rr q))) (hd : d2 + 1 ≤ d) (hst : (rest.map fun v => v.category).sum ≤ 8) (hdg : decode cc pc = .ok (.invokevirtual index, 3)) (k : ∀ q : F1, g q = some z → Wp Γ 0 0 (pc + 3) lv (rr q :: rest) (w2 q)) : Wp Γ 0 0 pc lv (q4 :: q3 :: q2 :: q1 :: q0 :: .ref b :: rest) w := by
  obtain ⟨q, h1, h⟩ := op_bind h
  intro H locs ls hl hP hS
  have hK : va_K Γ.2.2.2.2.2.2.2.2.2.2.2.1 vwCl (TY cy) Γ.2.2.2.2.1 := C0.1.2.2.2.2.2
  have hts := C0.1.2.2.2.2.1
  have hR : (RM d2).frames + 1 ≤ Γ.2.2.2.1.frames ∧ 8 + (mL + 11) + (RM d2).locals ≤ Γ.2.2.2.1.locals := by
    have h23 := hm.2.2.2.2.2.2
    have c1 := C0.2.2.2.1
    have c2 := C0.2.2.2.2
    exact ⟨Nat.le_trans hd c1, Nat.le_trans (by show 8 + (mL + 11) + 42 * d2 ≤ 42 * d; omega) c2⟩
  have cb0 := callB_of (R := Γ.2.2.2.1) (s := Γ.2.2.2.2.1) (args := Γ.2.2.2.2.2.2.1) (own := own) (index := index) (rm := RM d2) (mc := 0) (ms := 0) 5 hts (goodT hm.1) rfl rfl rfl (by rw [hm.2.2.2.2.1]; exact hts _ hm.2.2.2.1) (hts _ hlk) hm.2.2.2.2.2.1 hR
  obtain ⟨ci, vc, qr, fs, g1, rfl, g3⟩ := hrv
  refine call_any (va_runV (As := [q0, q1, q2, q3, q4]) (rest := rest) (C := vc.1) ⟨C0.1.1, C0.1.2.1, C0.1.2.2.1, C0.1.2.2.2.1, hts⟩ (hc q h1 H.size) ⟨cb0, hts _ hm.2.1, hts _ hm.2.2.1⟩ ⟨pre_blind, va_recv hK hP g1 g3, fun U hU hW => ⟨rfl, by rw [hU], by rw [hU]; exact hP, va_K.moved hW.alike hK, hD.weaken (fun _ _ _ _ => trivial)⟩⟩ rfl rfl hl.1 rfl (lv_room hst) hdg ⟨Nat.zero_le _, Nat.zero_le _⟩) hS (fun q _ hq => ?_) (fun q hq => ?_) (fun H1 locs1 hP1 _ _ hS1 => k q h H1 locs1 ls hl hP1 hS1)
  · rcases hq with ⟨k0, e0, h0⟩ | h0
    · exact hD.2 k0 _ h0
    · exact C0.2.1 q (Nat.le_trans hS.1 h0)
  · rcases hq with ⟨k0, e0, h0⟩ | h0
    · exact hD.2 k0 _ h0
    · exact C0.2.1 q (Nat.le_trans hS.1 h0)
theorem callVv0 (C0 : CXg Γ cc n d own cy) (h : F.bind g = some z) (hD : va_D Γ.2.2.2.2.2.2.2.2.2.2.2.2.1 w) (hm : MW y cb mL ret C 0) (hrv : RV w b C) (hlk : Cond.methodLink own index y ∈ lw_T) (hc : ∀ q : F1, F = some q → CT Γ.2.1 Γ.2.2.2.2.2.2.2.2.2.2.2.1 cy y cb mL ret d2 [.ref b] w (w2 q) none) (hd : d2 + 1 ≤ d) (hst : (rest.map fun v => v.category).sum ≤ 8) (hdg : decode cc pc = .ok (.invokevirtual index, 3)) (k : ∀ q : F1, g q = some z → Wp Γ 0 0 (pc + 3) lv (rest) (w2 q)) : Wp Γ 0 0 pc lv (.ref b :: rest) w := by
  obtain ⟨q, h1, h⟩ := op_bind h
  intro H locs ls hl hP hS
  have hK : va_K Γ.2.2.2.2.2.2.2.2.2.2.2.1 vwCl (TY cy) Γ.2.2.2.2.1 := C0.1.2.2.2.2.2
  have hts := C0.1.2.2.2.2.1
  have hR : (RM d2).frames + 1 ≤ Γ.2.2.2.1.frames ∧ 8 + (mL + 11) + (RM d2).locals ≤ Γ.2.2.2.1.locals := by
    have h23 := hm.2.2.2.2.2.2
    have c1 := C0.2.2.2.1
    have c2 := C0.2.2.2.2
    exact ⟨Nat.le_trans hd c1, Nat.le_trans (by show 8 + (mL + 11) + 42 * d2 ≤ 42 * d; omega) c2⟩
  have cb0 := callB_of (R := Γ.2.2.2.1) (s := Γ.2.2.2.2.1) (args := Γ.2.2.2.2.2.2.1) (own := own) (index := index) (rm := RM d2) (mc := 0) (ms := 0) 0 hts (goodT hm.1) rfl rfl rfl (by rw [hm.2.2.2.2.1]; exact hts _ hm.2.2.2.1) (hts _ hlk) hm.2.2.2.2.2.1 hR
  obtain ⟨ci, vc, qr, fs, g1, rfl, g3⟩ := hrv
  refine call_any (va_runV (As := []) (rest := rest) (C := vc.1) ⟨C0.1.1, C0.1.2.1, C0.1.2.2.1, C0.1.2.2.2.1, hts⟩ (hc q h1 H.size) ⟨cb0, hts _ hm.2.1, hts _ hm.2.2.1⟩ ⟨pre_blind, va_recv hK hP g1 g3, fun U hU hW => ⟨rfl, by rw [hU], by rw [hU]; exact hP, va_K.moved hW.alike hK, hD.weaken (fun _ _ _ _ => trivial)⟩⟩ rfl rfl hl.1 rfl (lv_room hst) hdg ⟨Nat.zero_le _, Nat.zero_le _⟩) hS (fun q _ hq => ?_) (fun q hq => ?_) (fun H1 locs1 hP1 _ _ hS1 => k q h H1 locs1 ls hl hP1 hS1)
  · rcases hq with ⟨k0, e0, h0⟩ | h0
    · exact hD.2 k0 _ h0
    · exact C0.2.1 q (Nat.le_trans hS.1 h0)
  · rcases hq with ⟨k0, e0, h0⟩ | h0
    · exact hD.2 k0 _ h0
    · exact C0.2.1 q (Nat.le_trans hS.1 h0)
theorem callVv1 {q0 : Value} (C0 : CXg Γ cc n d own cy) (h : F.bind g = some z) (hD : va_D Γ.2.2.2.2.2.2.2.2.2.2.2.2.1 w) (hm : MW y cb mL ret C 1) (hrv : RV w b C) (hlk : Cond.methodLink own index y ∈ lw_T) (hc : ∀ q : F1, F = some q → CT Γ.2.1 Γ.2.2.2.2.2.2.2.2.2.2.2.1 cy y cb mL ret d2 [.ref b, q0] w (w2 q) none) (hd : d2 + 1 ≤ d) (hst : (rest.map fun v => v.category).sum ≤ 8) (hdg : decode cc pc = .ok (.invokevirtual index, 3)) (k : ∀ q : F1, g q = some z → Wp Γ 0 0 (pc + 3) lv (rest) (w2 q)) : Wp Γ 0 0 pc lv (q0 :: .ref b :: rest) w := by
  obtain ⟨q, h1, h⟩ := op_bind h
  intro H locs ls hl hP hS
  have hK : va_K Γ.2.2.2.2.2.2.2.2.2.2.2.1 vwCl (TY cy) Γ.2.2.2.2.1 := C0.1.2.2.2.2.2
  have hts := C0.1.2.2.2.2.1
  have hR : (RM d2).frames + 1 ≤ Γ.2.2.2.1.frames ∧ 8 + (mL + 11) + (RM d2).locals ≤ Γ.2.2.2.1.locals := by
    have h23 := hm.2.2.2.2.2.2
    have c1 := C0.2.2.2.1
    have c2 := C0.2.2.2.2
    exact ⟨Nat.le_trans hd c1, Nat.le_trans (by show 8 + (mL + 11) + 42 * d2 ≤ 42 * d; omega) c2⟩
  have cb0 := callB_of (R := Γ.2.2.2.1) (s := Γ.2.2.2.2.1) (args := Γ.2.2.2.2.2.2.1) (own := own) (index := index) (rm := RM d2) (mc := 0) (ms := 0) 1 hts (goodT hm.1) rfl rfl rfl (by rw [hm.2.2.2.2.1]; exact hts _ hm.2.2.2.1) (hts _ hlk) hm.2.2.2.2.2.1 hR
  obtain ⟨ci, vc, qr, fs, g1, rfl, g3⟩ := hrv
  refine call_any (va_runV (As := [q0]) (rest := rest) (C := vc.1) ⟨C0.1.1, C0.1.2.1, C0.1.2.2.1, C0.1.2.2.2.1, hts⟩ (hc q h1 H.size) ⟨cb0, hts _ hm.2.1, hts _ hm.2.2.1⟩ ⟨pre_blind, va_recv hK hP g1 g3, fun U hU hW => ⟨rfl, by rw [hU], by rw [hU]; exact hP, va_K.moved hW.alike hK, hD.weaken (fun _ _ _ _ => trivial)⟩⟩ rfl rfl hl.1 rfl (lv_room hst) hdg ⟨Nat.zero_le _, Nat.zero_le _⟩) hS (fun q _ hq => ?_) (fun q hq => ?_) (fun H1 locs1 hP1 _ _ hS1 => k q h H1 locs1 ls hl hP1 hS1)
  · rcases hq with ⟨k0, e0, h0⟩ | h0
    · exact hD.2 k0 _ h0
    · exact C0.2.1 q (Nat.le_trans hS.1 h0)
  · rcases hq with ⟨k0, e0, h0⟩ | h0
    · exact hD.2 k0 _ h0
    · exact C0.2.1 q (Nat.le_trans hS.1 h0)
theorem callVv2 {q0 q1 : Value} (C0 : CXg Γ cc n d own cy) (h : F.bind g = some z) (hD : va_D Γ.2.2.2.2.2.2.2.2.2.2.2.2.1 w) (hm : MW y cb mL ret C 2) (hrv : RV w b C) (hlk : Cond.methodLink own index y ∈ lw_T) (hc : ∀ q : F1, F = some q → CT Γ.2.1 Γ.2.2.2.2.2.2.2.2.2.2.2.1 cy y cb mL ret d2 [.ref b, q0, q1] w (w2 q) none) (hd : d2 + 1 ≤ d) (hst : (rest.map fun v => v.category).sum ≤ 8) (hdg : decode cc pc = .ok (.invokevirtual index, 3)) (k : ∀ q : F1, g q = some z → Wp Γ 0 0 (pc + 3) lv (rest) (w2 q)) : Wp Γ 0 0 pc lv (q1 :: q0 :: .ref b :: rest) w := by
  obtain ⟨q, h1, h⟩ := op_bind h
  intro H locs ls hl hP hS
  have hK : va_K Γ.2.2.2.2.2.2.2.2.2.2.2.1 vwCl (TY cy) Γ.2.2.2.2.1 := C0.1.2.2.2.2.2
  have hts := C0.1.2.2.2.2.1
  have hR : (RM d2).frames + 1 ≤ Γ.2.2.2.1.frames ∧ 8 + (mL + 11) + (RM d2).locals ≤ Γ.2.2.2.1.locals := by
    have h23 := hm.2.2.2.2.2.2
    have c1 := C0.2.2.2.1
    have c2 := C0.2.2.2.2
    exact ⟨Nat.le_trans hd c1, Nat.le_trans (by show 8 + (mL + 11) + 42 * d2 ≤ 42 * d; omega) c2⟩
  have cb0 := callB_of (R := Γ.2.2.2.1) (s := Γ.2.2.2.2.1) (args := Γ.2.2.2.2.2.2.1) (own := own) (index := index) (rm := RM d2) (mc := 0) (ms := 0) 2 hts (goodT hm.1) rfl rfl rfl (by rw [hm.2.2.2.2.1]; exact hts _ hm.2.2.2.1) (hts _ hlk) hm.2.2.2.2.2.1 hR
  obtain ⟨ci, vc, qr, fs, g1, rfl, g3⟩ := hrv
  refine call_any (va_runV (As := [q0, q1]) (rest := rest) (C := vc.1) ⟨C0.1.1, C0.1.2.1, C0.1.2.2.1, C0.1.2.2.2.1, hts⟩ (hc q h1 H.size) ⟨cb0, hts _ hm.2.1, hts _ hm.2.2.1⟩ ⟨pre_blind, va_recv hK hP g1 g3, fun U hU hW => ⟨rfl, by rw [hU], by rw [hU]; exact hP, va_K.moved hW.alike hK, hD.weaken (fun _ _ _ _ => trivial)⟩⟩ rfl rfl hl.1 rfl (lv_room hst) hdg ⟨Nat.zero_le _, Nat.zero_le _⟩) hS (fun q _ hq => ?_) (fun q hq => ?_) (fun H1 locs1 hP1 _ _ hS1 => k q h H1 locs1 ls hl hP1 hS1)
  · rcases hq with ⟨k0, e0, h0⟩ | h0
    · exact hD.2 k0 _ h0
    · exact C0.2.1 q (Nat.le_trans hS.1 h0)
  · rcases hq with ⟨k0, e0, h0⟩ | h0
    · exact hD.2 k0 _ h0
    · exact C0.2.1 q (Nat.le_trans hS.1 h0)
theorem callVv3 {q0 q1 q2 : Value} (C0 : CXg Γ cc n d own cy) (h : F.bind g = some z) (hD : va_D Γ.2.2.2.2.2.2.2.2.2.2.2.2.1 w) (hm : MW y cb mL ret C 3) (hrv : RV w b C) (hlk : Cond.methodLink own index y ∈ lw_T) (hc : ∀ q : F1, F = some q → CT Γ.2.1 Γ.2.2.2.2.2.2.2.2.2.2.2.1 cy y cb mL ret d2 [.ref b, q0, q1, q2] w (w2 q) none) (hd : d2 + 1 ≤ d) (hst : (rest.map fun v => v.category).sum ≤ 8) (hdg : decode cc pc = .ok (.invokevirtual index, 3)) (k : ∀ q : F1, g q = some z → Wp Γ 0 0 (pc + 3) lv (rest) (w2 q)) : Wp Γ 0 0 pc lv (q2 :: q1 :: q0 :: .ref b :: rest) w := by
  obtain ⟨q, h1, h⟩ := op_bind h
  intro H locs ls hl hP hS
  have hK : va_K Γ.2.2.2.2.2.2.2.2.2.2.2.1 vwCl (TY cy) Γ.2.2.2.2.1 := C0.1.2.2.2.2.2
  have hts := C0.1.2.2.2.2.1
  have hR : (RM d2).frames + 1 ≤ Γ.2.2.2.1.frames ∧ 8 + (mL + 11) + (RM d2).locals ≤ Γ.2.2.2.1.locals := by
    have h23 := hm.2.2.2.2.2.2
    have c1 := C0.2.2.2.1
    have c2 := C0.2.2.2.2
    exact ⟨Nat.le_trans hd c1, Nat.le_trans (by show 8 + (mL + 11) + 42 * d2 ≤ 42 * d; omega) c2⟩
  have cb0 := callB_of (R := Γ.2.2.2.1) (s := Γ.2.2.2.2.1) (args := Γ.2.2.2.2.2.2.1) (own := own) (index := index) (rm := RM d2) (mc := 0) (ms := 0) 3 hts (goodT hm.1) rfl rfl rfl (by rw [hm.2.2.2.2.1]; exact hts _ hm.2.2.2.1) (hts _ hlk) hm.2.2.2.2.2.1 hR
  obtain ⟨ci, vc, qr, fs, g1, rfl, g3⟩ := hrv
  refine call_any (va_runV (As := [q0, q1, q2]) (rest := rest) (C := vc.1) ⟨C0.1.1, C0.1.2.1, C0.1.2.2.1, C0.1.2.2.2.1, hts⟩ (hc q h1 H.size) ⟨cb0, hts _ hm.2.1, hts _ hm.2.2.1⟩ ⟨pre_blind, va_recv hK hP g1 g3, fun U hU hW => ⟨rfl, by rw [hU], by rw [hU]; exact hP, va_K.moved hW.alike hK, hD.weaken (fun _ _ _ _ => trivial)⟩⟩ rfl rfl hl.1 rfl (lv_room hst) hdg ⟨Nat.zero_le _, Nat.zero_le _⟩) hS (fun q _ hq => ?_) (fun q hq => ?_) (fun H1 locs1 hP1 _ _ hS1 => k q h H1 locs1 ls hl hP1 hS1)
  · rcases hq with ⟨k0, e0, h0⟩ | h0
    · exact hD.2 k0 _ h0
    · exact C0.2.1 q (Nat.le_trans hS.1 h0)
  · rcases hq with ⟨k0, e0, h0⟩ | h0
    · exact hD.2 k0 _ h0
    · exact C0.2.1 q (Nat.le_trans hS.1 h0)
theorem callVv4 {q0 q1 q2 q3 : Value} (C0 : CXg Γ cc n d own cy) (h : F.bind g = some z) (hD : va_D Γ.2.2.2.2.2.2.2.2.2.2.2.2.1 w) (hm : MW y cb mL ret C 4) (hrv : RV w b C) (hlk : Cond.methodLink own index y ∈ lw_T) (hc : ∀ q : F1, F = some q → CT Γ.2.1 Γ.2.2.2.2.2.2.2.2.2.2.2.1 cy y cb mL ret d2 [.ref b, q0, q1, q2, q3] w (w2 q) none) (hd : d2 + 1 ≤ d) (hst : (rest.map fun v => v.category).sum ≤ 8) (hdg : decode cc pc = .ok (.invokevirtual index, 3)) (k : ∀ q : F1, g q = some z → Wp Γ 0 0 (pc + 3) lv (rest) (w2 q)) : Wp Γ 0 0 pc lv (q3 :: q2 :: q1 :: q0 :: .ref b :: rest) w := by
  obtain ⟨q, h1, h⟩ := op_bind h
  intro H locs ls hl hP hS
  have hK : va_K Γ.2.2.2.2.2.2.2.2.2.2.2.1 vwCl (TY cy) Γ.2.2.2.2.1 := C0.1.2.2.2.2.2
  have hts := C0.1.2.2.2.2.1
  have hR : (RM d2).frames + 1 ≤ Γ.2.2.2.1.frames ∧ 8 + (mL + 11) + (RM d2).locals ≤ Γ.2.2.2.1.locals := by
    have h23 := hm.2.2.2.2.2.2
    have c1 := C0.2.2.2.1
    have c2 := C0.2.2.2.2
    exact ⟨Nat.le_trans hd c1, Nat.le_trans (by show 8 + (mL + 11) + 42 * d2 ≤ 42 * d; omega) c2⟩
  have cb0 := callB_of (R := Γ.2.2.2.1) (s := Γ.2.2.2.2.1) (args := Γ.2.2.2.2.2.2.1) (own := own) (index := index) (rm := RM d2) (mc := 0) (ms := 0) 4 hts (goodT hm.1) rfl rfl rfl (by rw [hm.2.2.2.2.1]; exact hts _ hm.2.2.2.1) (hts _ hlk) hm.2.2.2.2.2.1 hR
  obtain ⟨ci, vc, qr, fs, g1, rfl, g3⟩ := hrv
  refine call_any (va_runV (As := [q0, q1, q2, q3]) (rest := rest) (C := vc.1) ⟨C0.1.1, C0.1.2.1, C0.1.2.2.1, C0.1.2.2.2.1, hts⟩ (hc q h1 H.size) ⟨cb0, hts _ hm.2.1, hts _ hm.2.2.1⟩ ⟨pre_blind, va_recv hK hP g1 g3, fun U hU hW => ⟨rfl, by rw [hU], by rw [hU]; exact hP, va_K.moved hW.alike hK, hD.weaken (fun _ _ _ _ => trivial)⟩⟩ rfl rfl hl.1 rfl (lv_room hst) hdg ⟨Nat.zero_le _, Nat.zero_le _⟩) hS (fun q _ hq => ?_) (fun q hq => ?_) (fun H1 locs1 hP1 _ _ hS1 => k q h H1 locs1 ls hl hP1 hS1)
  · rcases hq with ⟨k0, e0, h0⟩ | h0
    · exact hD.2 k0 _ h0
    · exact C0.2.1 q (Nat.le_trans hS.1 h0)
  · rcases hq with ⟨k0, e0, h0⟩ | h0
    · exact hD.2 k0 _ h0
    · exact C0.2.1 q (Nat.le_trans hS.1 h0)
theorem callVv5 {q0 q1 q2 q3 q4 : Value} (C0 : CXg Γ cc n d own cy) (h : F.bind g = some z) (hD : va_D Γ.2.2.2.2.2.2.2.2.2.2.2.2.1 w) (hm : MW y cb mL ret C 5) (hrv : RV w b C) (hlk : Cond.methodLink own index y ∈ lw_T) (hc : ∀ q : F1, F = some q → CT Γ.2.1 Γ.2.2.2.2.2.2.2.2.2.2.2.1 cy y cb mL ret d2 [.ref b, q0, q1, q2, q3, q4] w (w2 q) none) (hd : d2 + 1 ≤ d) (hst : (rest.map fun v => v.category).sum ≤ 8) (hdg : decode cc pc = .ok (.invokevirtual index, 3)) (k : ∀ q : F1, g q = some z → Wp Γ 0 0 (pc + 3) lv (rest) (w2 q)) : Wp Γ 0 0 pc lv (q4 :: q3 :: q2 :: q1 :: q0 :: .ref b :: rest) w := by
  obtain ⟨q, h1, h⟩ := op_bind h
  intro H locs ls hl hP hS
  have hK : va_K Γ.2.2.2.2.2.2.2.2.2.2.2.1 vwCl (TY cy) Γ.2.2.2.2.1 := C0.1.2.2.2.2.2
  have hts := C0.1.2.2.2.2.1
  have hR : (RM d2).frames + 1 ≤ Γ.2.2.2.1.frames ∧ 8 + (mL + 11) + (RM d2).locals ≤ Γ.2.2.2.1.locals := by
    have h23 := hm.2.2.2.2.2.2
    have c1 := C0.2.2.2.1
    have c2 := C0.2.2.2.2
    exact ⟨Nat.le_trans hd c1, Nat.le_trans (by show 8 + (mL + 11) + 42 * d2 ≤ 42 * d; omega) c2⟩
  have cb0 := callB_of (R := Γ.2.2.2.1) (s := Γ.2.2.2.2.1) (args := Γ.2.2.2.2.2.2.1) (own := own) (index := index) (rm := RM d2) (mc := 0) (ms := 0) 5 hts (goodT hm.1) rfl rfl rfl (by rw [hm.2.2.2.2.1]; exact hts _ hm.2.2.2.1) (hts _ hlk) hm.2.2.2.2.2.1 hR
  obtain ⟨ci, vc, qr, fs, g1, rfl, g3⟩ := hrv
  refine call_any (va_runV (As := [q0, q1, q2, q3, q4]) (rest := rest) (C := vc.1) ⟨C0.1.1, C0.1.2.1, C0.1.2.2.1, C0.1.2.2.2.1, hts⟩ (hc q h1 H.size) ⟨cb0, hts _ hm.2.1, hts _ hm.2.2.1⟩ ⟨pre_blind, va_recv hK hP g1 g3, fun U hU hW => ⟨rfl, by rw [hU], by rw [hU]; exact hP, va_K.moved hW.alike hK, hD.weaken (fun _ _ _ _ => trivial)⟩⟩ rfl rfl hl.1 rfl (lv_room hst) hdg ⟨Nat.zero_le _, Nat.zero_le _⟩) hS (fun q _ hq => ?_) (fun q hq => ?_) (fun H1 locs1 hP1 _ _ hS1 => k q h H1 locs1 ls hl hP1 hS1)
  · rcases hq with ⟨k0, e0, h0⟩ | h0
    · exact hD.2 k0 _ h0
    · exact C0.2.1 q (Nat.le_trans hS.1 h0)
  · rcases hq with ⟨k0, e0, h0⟩ | h0
    · exact hD.2 k0 _ h0
    · exact C0.2.1 q (Nat.le_trans hS.1 h0)
theorem callS0 {rr : F1 → Value} (C0 : CXg Γ cc n d own cy) (h : F.bind g = some z) (hD : va_D Γ.2.2.2.2.2.2.2.2.2.2.2.2.1 w) (hm : MS y cb mL ret 0) (hlk : Cond.methodLink own index y ∈ lw_T) (hc : ∀ q : F1, F = some q → CT Γ.2.1 Γ.2.2.2.2.2.2.2.2.2.2.2.1 cy y cb mL ret d2 [] w (w2 q) (some (rr q))) (hd : d2 + 1 ≤ d) (hst : (rest.map fun v => v.category).sum ≤ 8) (hdg : decode cc pc = .ok (.invokestatic index, 3)) (k : ∀ q : F1, g q = some z → Wp Γ 0 0 (pc + 3) lv (rr q :: rest) (w2 q)) : Wp Γ 0 0 pc lv (rest) w := by
  obtain ⟨q, h1, h⟩ := op_bind h
  intro H locs ls hl hP hS
  have hK : va_K Γ.2.2.2.2.2.2.2.2.2.2.2.1 vwCl (TY cy) Γ.2.2.2.2.1 := C0.1.2.2.2.2.2
  have hts := C0.1.2.2.2.2.1
  have hR : (RM d2).frames + 1 ≤ Γ.2.2.2.1.frames ∧ 8 + (mL + 11) + (RM d2).locals ≤ Γ.2.2.2.1.locals := by
    have h23 := hm.2.2.2.2
    have c1 := C0.2.2.2.1
    have c2 := C0.2.2.2.2
    exact ⟨Nat.le_trans hd c1, Nat.le_trans (by show 8 + (mL + 11) + 42 * d2 ≤ 42 * d; omega) c2⟩
  have cb0 := callB_of (R := Γ.2.2.2.1) (s := Γ.2.2.2.2.1) (args := Γ.2.2.2.2.2.2.1) (own := own) (index := index) (rm := RM d2) (mc := 0) (ms := 0) 0 hts (goodT hm.1) rfl rfl rfl (hts _ hm.2.2.1) (hts _ hlk) hm.2.2.2.1 hR
  refine call_any (va_runS (As := []) (rest := rest) ⟨C0.1.1, C0.1.2.1, C0.1.2.2.1, C0.1.2.2.2.1, hts⟩ (hc q h1 H.size) ⟨cb0, hts _ hm.2.1⟩ ⟨pre_blind, fun U hU hW => ⟨rfl, by rw [hU], by rw [hU]; exact hP, va_K.moved hW.alike hK, hD.weaken (fun _ _ _ _ => trivial)⟩⟩ rfl rfl hl.1 rfl (lv_room hst) hdg ⟨Nat.zero_le _, Nat.zero_le _⟩) hS (fun q _ hq => ?_) (fun q hq => ?_) (fun H1 locs1 hP1 _ _ hS1 => k q h H1 locs1 ls hl hP1 hS1)
  · rcases hq with ⟨k0, e0, h0⟩ | h0
    · exact hD.2 k0 _ h0
    · exact C0.2.1 q (Nat.le_trans hS.1 h0)
  · rcases hq with ⟨k0, e0, h0⟩ | h0
    · exact hD.2 k0 _ h0
    · exact C0.2.1 q (Nat.le_trans hS.1 h0)
theorem callS1 {q0 : Value} {rr : F1 → Value} (C0 : CXg Γ cc n d own cy) (h : F.bind g = some z) (hD : va_D Γ.2.2.2.2.2.2.2.2.2.2.2.2.1 w) (hm : MS y cb mL ret 1) (hlk : Cond.methodLink own index y ∈ lw_T) (hc : ∀ q : F1, F = some q → CT Γ.2.1 Γ.2.2.2.2.2.2.2.2.2.2.2.1 cy y cb mL ret d2 [q0] w (w2 q) (some (rr q))) (hd : d2 + 1 ≤ d) (hst : (rest.map fun v => v.category).sum ≤ 8) (hdg : decode cc pc = .ok (.invokestatic index, 3)) (k : ∀ q : F1, g q = some z → Wp Γ 0 0 (pc + 3) lv (rr q :: rest) (w2 q)) : Wp Γ 0 0 pc lv (q0 :: rest) w := by
  obtain ⟨q, h1, h⟩ := op_bind h
  intro H locs ls hl hP hS
  have hK : va_K Γ.2.2.2.2.2.2.2.2.2.2.2.1 vwCl (TY cy) Γ.2.2.2.2.1 := C0.1.2.2.2.2.2
  have hts := C0.1.2.2.2.2.1
  have hR : (RM d2).frames + 1 ≤ Γ.2.2.2.1.frames ∧ 8 + (mL + 11) + (RM d2).locals ≤ Γ.2.2.2.1.locals := by
    have h23 := hm.2.2.2.2
    have c1 := C0.2.2.2.1
    have c2 := C0.2.2.2.2
    exact ⟨Nat.le_trans hd c1, Nat.le_trans (by show 8 + (mL + 11) + 42 * d2 ≤ 42 * d; omega) c2⟩
  have cb0 := callB_of (R := Γ.2.2.2.1) (s := Γ.2.2.2.2.1) (args := Γ.2.2.2.2.2.2.1) (own := own) (index := index) (rm := RM d2) (mc := 0) (ms := 0) 1 hts (goodT hm.1) rfl rfl rfl (hts _ hm.2.2.1) (hts _ hlk) hm.2.2.2.1 hR
  refine call_any (va_runS (As := [q0]) (rest := rest) ⟨C0.1.1, C0.1.2.1, C0.1.2.2.1, C0.1.2.2.2.1, hts⟩ (hc q h1 H.size) ⟨cb0, hts _ hm.2.1⟩ ⟨pre_blind, fun U hU hW => ⟨rfl, by rw [hU], by rw [hU]; exact hP, va_K.moved hW.alike hK, hD.weaken (fun _ _ _ _ => trivial)⟩⟩ rfl rfl hl.1 rfl (lv_room hst) hdg ⟨Nat.zero_le _, Nat.zero_le _⟩) hS (fun q _ hq => ?_) (fun q hq => ?_) (fun H1 locs1 hP1 _ _ hS1 => k q h H1 locs1 ls hl hP1 hS1)
  · rcases hq with ⟨k0, e0, h0⟩ | h0
    · exact hD.2 k0 _ h0
    · exact C0.2.1 q (Nat.le_trans hS.1 h0)
  · rcases hq with ⟨k0, e0, h0⟩ | h0
    · exact hD.2 k0 _ h0
    · exact C0.2.1 q (Nat.le_trans hS.1 h0)
theorem callS2 {q0 q1 : Value} {rr : F1 → Value} (C0 : CXg Γ cc n d own cy) (h : F.bind g = some z) (hD : va_D Γ.2.2.2.2.2.2.2.2.2.2.2.2.1 w) (hm : MS y cb mL ret 2) (hlk : Cond.methodLink own index y ∈ lw_T) (hc : ∀ q : F1, F = some q → CT Γ.2.1 Γ.2.2.2.2.2.2.2.2.2.2.2.1 cy y cb mL ret d2 [q0, q1] w (w2 q) (some (rr q))) (hd : d2 + 1 ≤ d) (hst : (rest.map fun v => v.category).sum ≤ 8) (hdg : decode cc pc = .ok (.invokestatic index, 3)) (k : ∀ q : F1, g q = some z → Wp Γ 0 0 (pc + 3) lv (rr q :: rest) (w2 q)) : Wp Γ 0 0 pc lv (q1 :: q0 :: rest) w := by
  obtain ⟨q, h1, h⟩ := op_bind h
  intro H locs ls hl hP hS
  have hK : va_K Γ.2.2.2.2.2.2.2.2.2.2.2.1 vwCl (TY cy) Γ.2.2.2.2.1 := C0.1.2.2.2.2.2
  have hts := C0.1.2.2.2.2.1
  have hR : (RM d2).frames + 1 ≤ Γ.2.2.2.1.frames ∧ 8 + (mL + 11) + (RM d2).locals ≤ Γ.2.2.2.1.locals := by
    have h23 := hm.2.2.2.2
    have c1 := C0.2.2.2.1
    have c2 := C0.2.2.2.2
    exact ⟨Nat.le_trans hd c1, Nat.le_trans (by show 8 + (mL + 11) + 42 * d2 ≤ 42 * d; omega) c2⟩
  have cb0 := callB_of (R := Γ.2.2.2.1) (s := Γ.2.2.2.2.1) (args := Γ.2.2.2.2.2.2.1) (own := own) (index := index) (rm := RM d2) (mc := 0) (ms := 0) 2 hts (goodT hm.1) rfl rfl rfl (hts _ hm.2.2.1) (hts _ hlk) hm.2.2.2.1 hR
  refine call_any (va_runS (As := [q0, q1]) (rest := rest) ⟨C0.1.1, C0.1.2.1, C0.1.2.2.1, C0.1.2.2.2.1, hts⟩ (hc q h1 H.size) ⟨cb0, hts _ hm.2.1⟩ ⟨pre_blind, fun U hU hW => ⟨rfl, by rw [hU], by rw [hU]; exact hP, va_K.moved hW.alike hK, hD.weaken (fun _ _ _ _ => trivial)⟩⟩ rfl rfl hl.1 rfl (lv_room hst) hdg ⟨Nat.zero_le _, Nat.zero_le _⟩) hS (fun q _ hq => ?_) (fun q hq => ?_) (fun H1 locs1 hP1 _ _ hS1 => k q h H1 locs1 ls hl hP1 hS1)
  · rcases hq with ⟨k0, e0, h0⟩ | h0
    · exact hD.2 k0 _ h0
    · exact C0.2.1 q (Nat.le_trans hS.1 h0)
  · rcases hq with ⟨k0, e0, h0⟩ | h0
    · exact hD.2 k0 _ h0
    · exact C0.2.1 q (Nat.le_trans hS.1 h0)
theorem callS3 {q0 q1 q2 : Value} {rr : F1 → Value} (C0 : CXg Γ cc n d own cy) (h : F.bind g = some z) (hD : va_D Γ.2.2.2.2.2.2.2.2.2.2.2.2.1 w) (hm : MS y cb mL ret 3) (hlk : Cond.methodLink own index y ∈ lw_T) (hc : ∀ q : F1, F = some q → CT Γ.2.1 Γ.2.2.2.2.2.2.2.2.2.2.2.1 cy y cb mL ret d2 [q0, q1, q2] w (w2 q) (some (rr q))) (hd : d2 + 1 ≤ d) (hst : (rest.map fun v => v.category).sum ≤ 8) (hdg : decode cc pc = .ok (.invokestatic index, 3)) (k : ∀ q : F1, g q = some z → Wp Γ 0 0 (pc + 3) lv (rr q :: rest) (w2 q)) : Wp Γ 0 0 pc lv (q2 :: q1 :: q0 :: rest) w := by
  obtain ⟨q, h1, h⟩ := op_bind h
  intro H locs ls hl hP hS
  have hK : va_K Γ.2.2.2.2.2.2.2.2.2.2.2.1 vwCl (TY cy) Γ.2.2.2.2.1 := C0.1.2.2.2.2.2
  have hts := C0.1.2.2.2.2.1
  have hR : (RM d2).frames + 1 ≤ Γ.2.2.2.1.frames ∧ 8 + (mL + 11) + (RM d2).locals ≤ Γ.2.2.2.1.locals := by
    have h23 := hm.2.2.2.2
    have c1 := C0.2.2.2.1
    have c2 := C0.2.2.2.2
    exact ⟨Nat.le_trans hd c1, Nat.le_trans (by show 8 + (mL + 11) + 42 * d2 ≤ 42 * d; omega) c2⟩
  have cb0 := callB_of (R := Γ.2.2.2.1) (s := Γ.2.2.2.2.1) (args := Γ.2.2.2.2.2.2.1) (own := own) (index := index) (rm := RM d2) (mc := 0) (ms := 0) 3 hts (goodT hm.1) rfl rfl rfl (hts _ hm.2.2.1) (hts _ hlk) hm.2.2.2.1 hR
  refine call_any (va_runS (As := [q0, q1, q2]) (rest := rest) ⟨C0.1.1, C0.1.2.1, C0.1.2.2.1, C0.1.2.2.2.1, hts⟩ (hc q h1 H.size) ⟨cb0, hts _ hm.2.1⟩ ⟨pre_blind, fun U hU hW => ⟨rfl, by rw [hU], by rw [hU]; exact hP, va_K.moved hW.alike hK, hD.weaken (fun _ _ _ _ => trivial)⟩⟩ rfl rfl hl.1 rfl (lv_room hst) hdg ⟨Nat.zero_le _, Nat.zero_le _⟩) hS (fun q _ hq => ?_) (fun q hq => ?_) (fun H1 locs1 hP1 _ _ hS1 => k q h H1 locs1 ls hl hP1 hS1)
  · rcases hq with ⟨k0, e0, h0⟩ | h0
    · exact hD.2 k0 _ h0
    · exact C0.2.1 q (Nat.le_trans hS.1 h0)
  · rcases hq with ⟨k0, e0, h0⟩ | h0
    · exact hD.2 k0 _ h0
    · exact C0.2.1 q (Nat.le_trans hS.1 h0)
theorem callS4 {q0 q1 q2 q3 : Value} {rr : F1 → Value} (C0 : CXg Γ cc n d own cy) (h : F.bind g = some z) (hD : va_D Γ.2.2.2.2.2.2.2.2.2.2.2.2.1 w) (hm : MS y cb mL ret 4) (hlk : Cond.methodLink own index y ∈ lw_T) (hc : ∀ q : F1, F = some q → CT Γ.2.1 Γ.2.2.2.2.2.2.2.2.2.2.2.1 cy y cb mL ret d2 [q0, q1, q2, q3] w (w2 q) (some (rr q))) (hd : d2 + 1 ≤ d) (hst : (rest.map fun v => v.category).sum ≤ 8) (hdg : decode cc pc = .ok (.invokestatic index, 3)) (k : ∀ q : F1, g q = some z → Wp Γ 0 0 (pc + 3) lv (rr q :: rest) (w2 q)) : Wp Γ 0 0 pc lv (q3 :: q2 :: q1 :: q0 :: rest) w := by
  obtain ⟨q, h1, h⟩ := op_bind h
  intro H locs ls hl hP hS
  have hK : va_K Γ.2.2.2.2.2.2.2.2.2.2.2.1 vwCl (TY cy) Γ.2.2.2.2.1 := C0.1.2.2.2.2.2
  have hts := C0.1.2.2.2.2.1
  have hR : (RM d2).frames + 1 ≤ Γ.2.2.2.1.frames ∧ 8 + (mL + 11) + (RM d2).locals ≤ Γ.2.2.2.1.locals := by
    have h23 := hm.2.2.2.2
    have c1 := C0.2.2.2.1
    have c2 := C0.2.2.2.2
    exact ⟨Nat.le_trans hd c1, Nat.le_trans (by show 8 + (mL + 11) + 42 * d2 ≤ 42 * d; omega) c2⟩
  have cb0 := callB_of (R := Γ.2.2.2.1) (s := Γ.2.2.2.2.1) (args := Γ.2.2.2.2.2.2.1) (own := own) (index := index) (rm := RM d2) (mc := 0) (ms := 0) 4 hts (goodT hm.1) rfl rfl rfl (hts _ hm.2.2.1) (hts _ hlk) hm.2.2.2.1 hR
  refine call_any (va_runS (As := [q0, q1, q2, q3]) (rest := rest) ⟨C0.1.1, C0.1.2.1, C0.1.2.2.1, C0.1.2.2.2.1, hts⟩ (hc q h1 H.size) ⟨cb0, hts _ hm.2.1⟩ ⟨pre_blind, fun U hU hW => ⟨rfl, by rw [hU], by rw [hU]; exact hP, va_K.moved hW.alike hK, hD.weaken (fun _ _ _ _ => trivial)⟩⟩ rfl rfl hl.1 rfl (lv_room hst) hdg ⟨Nat.zero_le _, Nat.zero_le _⟩) hS (fun q _ hq => ?_) (fun q hq => ?_) (fun H1 locs1 hP1 _ _ hS1 => k q h H1 locs1 ls hl hP1 hS1)
  · rcases hq with ⟨k0, e0, h0⟩ | h0
    · exact hD.2 k0 _ h0
    · exact C0.2.1 q (Nat.le_trans hS.1 h0)
  · rcases hq with ⟨k0, e0, h0⟩ | h0
    · exact hD.2 k0 _ h0
    · exact C0.2.1 q (Nat.le_trans hS.1 h0)
theorem callS5 {q0 q1 q2 q3 q4 : Value} {rr : F1 → Value} (C0 : CXg Γ cc n d own cy) (h : F.bind g = some z) (hD : va_D Γ.2.2.2.2.2.2.2.2.2.2.2.2.1 w) (hm : MS y cb mL ret 5) (hlk : Cond.methodLink own index y ∈ lw_T) (hc : ∀ q : F1, F = some q → CT Γ.2.1 Γ.2.2.2.2.2.2.2.2.2.2.2.1 cy y cb mL ret d2 [q0, q1, q2, q3, q4] w (w2 q) (some (rr q))) (hd : d2 + 1 ≤ d) (hst : (rest.map fun v => v.category).sum ≤ 8) (hdg : decode cc pc = .ok (.invokestatic index, 3)) (k : ∀ q : F1, g q = some z → Wp Γ 0 0 (pc + 3) lv (rr q :: rest) (w2 q)) : Wp Γ 0 0 pc lv (q4 :: q3 :: q2 :: q1 :: q0 :: rest) w := by
  obtain ⟨q, h1, h⟩ := op_bind h
  intro H locs ls hl hP hS
  have hK : va_K Γ.2.2.2.2.2.2.2.2.2.2.2.1 vwCl (TY cy) Γ.2.2.2.2.1 := C0.1.2.2.2.2.2
  have hts := C0.1.2.2.2.2.1
  have hR : (RM d2).frames + 1 ≤ Γ.2.2.2.1.frames ∧ 8 + (mL + 11) + (RM d2).locals ≤ Γ.2.2.2.1.locals := by
    have h23 := hm.2.2.2.2
    have c1 := C0.2.2.2.1
    have c2 := C0.2.2.2.2
    exact ⟨Nat.le_trans hd c1, Nat.le_trans (by show 8 + (mL + 11) + 42 * d2 ≤ 42 * d; omega) c2⟩
  have cb0 := callB_of (R := Γ.2.2.2.1) (s := Γ.2.2.2.2.1) (args := Γ.2.2.2.2.2.2.1) (own := own) (index := index) (rm := RM d2) (mc := 0) (ms := 0) 5 hts (goodT hm.1) rfl rfl rfl (hts _ hm.2.2.1) (hts _ hlk) hm.2.2.2.1 hR
  refine call_any (va_runS (As := [q0, q1, q2, q3, q4]) (rest := rest) ⟨C0.1.1, C0.1.2.1, C0.1.2.2.1, C0.1.2.2.2.1, hts⟩ (hc q h1 H.size) ⟨cb0, hts _ hm.2.1⟩ ⟨pre_blind, fun U hU hW => ⟨rfl, by rw [hU], by rw [hU]; exact hP, va_K.moved hW.alike hK, hD.weaken (fun _ _ _ _ => trivial)⟩⟩ rfl rfl hl.1 rfl (lv_room hst) hdg ⟨Nat.zero_le _, Nat.zero_le _⟩) hS (fun q _ hq => ?_) (fun q hq => ?_) (fun H1 locs1 hP1 _ _ hS1 => k q h H1 locs1 ls hl hP1 hS1)
  · rcases hq with ⟨k0, e0, h0⟩ | h0
    · exact hD.2 k0 _ h0
    · exact C0.2.1 q (Nat.le_trans hS.1 h0)
  · rcases hq with ⟨k0, e0, h0⟩ | h0
    · exact hD.2 k0 _ h0
    · exact C0.2.1 q (Nat.le_trans hS.1 h0)
theorem callSv0 (C0 : CXg Γ cc n d own cy) (h : F.bind g = some z) (hD : va_D Γ.2.2.2.2.2.2.2.2.2.2.2.2.1 w) (hm : MS y cb mL ret 0) (hlk : Cond.methodLink own index y ∈ lw_T) (hc : ∀ q : F1, F = some q → CT Γ.2.1 Γ.2.2.2.2.2.2.2.2.2.2.2.1 cy y cb mL ret d2 [] w (w2 q) none) (hd : d2 + 1 ≤ d) (hst : (rest.map fun v => v.category).sum ≤ 8) (hdg : decode cc pc = .ok (.invokestatic index, 3)) (k : ∀ q : F1, g q = some z → Wp Γ 0 0 (pc + 3) lv (rest) (w2 q)) : Wp Γ 0 0 pc lv (rest) w := by
  obtain ⟨q, h1, h⟩ := op_bind h
  intro H locs ls hl hP hS
  have hK : va_K Γ.2.2.2.2.2.2.2.2.2.2.2.1 vwCl (TY cy) Γ.2.2.2.2.1 := C0.1.2.2.2.2.2
  have hts := C0.1.2.2.2.2.1
  have hR : (RM d2).frames + 1 ≤ Γ.2.2.2.1.frames ∧ 8 + (mL + 11) + (RM d2).locals ≤ Γ.2.2.2.1.locals := by
    have h23 := hm.2.2.2.2
    have c1 := C0.2.2.2.1
    have c2 := C0.2.2.2.2
    exact ⟨Nat.le_trans hd c1, Nat.le_trans (by show 8 + (mL + 11) + 42 * d2 ≤ 42 * d; omega) c2⟩
  have cb0 := callB_of (R := Γ.2.2.2.1) (s := Γ.2.2.2.2.1) (args := Γ.2.2.2.2.2.2.1) (own := own) (index := index) (rm := RM d2) (mc := 0) (ms := 0) 0 hts (goodT hm.1) rfl rfl rfl (hts _ hm.2.2.1) (hts _ hlk) hm.2.2.2.1 hR
  refine call_any (va_runS (As := []) (rest := rest) ⟨C0.1.1, C0.1.2.1, C0.1.2.2.1, C0.1.2.2.2.1, hts⟩ (hc q h1 H.size) ⟨cb0, hts _ hm.2.1⟩ ⟨pre_blind, fun U hU hW => ⟨rfl, by rw [hU], by rw [hU]; exact hP, va_K.moved hW.alike hK, hD.weaken (fun _ _ _ _ => trivial)⟩⟩ rfl rfl hl.1 rfl (lv_room hst) hdg ⟨Nat.zero_le _, Nat.zero_le _⟩) hS (fun q _ hq => ?_) (fun q hq => ?_) (fun H1 locs1 hP1 _ _ hS1 => k q h H1 locs1 ls hl hP1 hS1)
  · rcases hq with ⟨k0, e0, h0⟩ | h0
    · exact hD.2 k0 _ h0
    · exact C0.2.1 q (Nat.le_trans hS.1 h0)
  · rcases hq with ⟨k0, e0, h0⟩ | h0
    · exact hD.2 k0 _ h0
    · exact C0.2.1 q (Nat.le_trans hS.1 h0)
theorem callSv1 {q0 : Value} (C0 : CXg Γ cc n d own cy) (h : F.bind g = some z) (hD : va_D Γ.2.2.2.2.2.2.2.2.2.2.2.2.1 w) (hm : MS y cb mL ret 1) (hlk : Cond.methodLink own index y ∈ lw_T) (hc : ∀ q : F1, F = some q → CT Γ.2.1 Γ.2.2.2.2.2.2.2.2.2.2.2.1 cy y cb mL ret d2 [q0] w (w2 q) none) (hd : d2 + 1 ≤ d) (hst : (rest.map fun v => v.category).sum ≤ 8) (hdg : decode cc pc = .ok (.invokestatic index, 3)) (k : ∀ q : F1, g q = some z → Wp Γ 0 0 (pc + 3) lv (rest) (w2 q)) : Wp Γ 0 0 pc lv (q0 :: rest) w := by
  obtain ⟨q, h1, h⟩ := op_bind h
  intro H locs ls hl hP hS
  have hK : va_K Γ.2.2.2.2.2.2.2.2.2.2.2.1 vwCl (TY cy) Γ.2.2.2.2.1 := C0.1.2.2.2.2.2
  have hts := C0.1.2.2.2.2.1
  have hR : (RM d2).frames + 1 ≤ Γ.2.2.2.1.frames ∧ 8 + (mL + 11) + (RM d2).locals ≤ Γ.2.2.2.1.locals := by
    have h23 := hm.2.2.2.2
    have c1 := C0.2.2.2.1
    have c2 := C0.2.2.2.2
    exact ⟨Nat.le_trans hd c1, Nat.le_trans (by show 8 + (mL + 11) + 42 * d2 ≤ 42 * d; omega) c2⟩
  have cb0 := callB_of (R := Γ.2.2.2.1) (s := Γ.2.2.2.2.1) (args := Γ.2.2.2.2.2.2.1) (own := own) (index := index) (rm := RM d2) (mc := 0) (ms := 0) 1 hts (goodT hm.1) rfl rfl rfl (hts _ hm.2.2.1) (hts _ hlk) hm.2.2.2.1 hR
  refine call_any (va_runS (As := [q0]) (rest := rest) ⟨C0.1.1, C0.1.2.1, C0.1.2.2.1, C0.1.2.2.2.1, hts⟩ (hc q h1 H.size) ⟨cb0, hts _ hm.2.1⟩ ⟨pre_blind, fun U hU hW => ⟨rfl, by rw [hU], by rw [hU]; exact hP, va_K.moved hW.alike hK, hD.weaken (fun _ _ _ _ => trivial)⟩⟩ rfl rfl hl.1 rfl (lv_room hst) hdg ⟨Nat.zero_le _, Nat.zero_le _⟩) hS (fun q _ hq => ?_) (fun q hq => ?_) (fun H1 locs1 hP1 _ _ hS1 => k q h H1 locs1 ls hl hP1 hS1)
  · rcases hq with ⟨k0, e0, h0⟩ | h0
    · exact hD.2 k0 _ h0
    · exact C0.2.1 q (Nat.le_trans hS.1 h0)
  · rcases hq with ⟨k0, e0, h0⟩ | h0
    · exact hD.2 k0 _ h0
    · exact C0.2.1 q (Nat.le_trans hS.1 h0)
theorem callSv2 {q0 q1 : Value} (C0 : CXg Γ cc n d own cy) (h : F.bind g = some z) (hD : va_D Γ.2.2.2.2.2.2.2.2.2.2.2.2.1 w) (hm : MS y cb mL ret 2) (hlk : Cond.methodLink own index y ∈ lw_T) (hc : ∀ q : F1, F = some q → CT Γ.2.1 Γ.2.2.2.2.2.2.2.2.2.2.2.1 cy y cb mL ret d2 [q0, q1] w (w2 q) none) (hd : d2 + 1 ≤ d) (hst : (rest.map fun v => v.category).sum ≤ 8) (hdg : decode cc pc = .ok (.invokestatic index, 3)) (k : ∀ q : F1, g q = some z → Wp Γ 0 0 (pc + 3) lv (rest) (w2 q)) : Wp Γ 0 0 pc lv (q1 :: q0 :: rest) w := by
  obtain ⟨q, h1, h⟩ := op_bind h
  intro H locs ls hl hP hS
  have hK : va_K Γ.2.2.2.2.2.2.2.2.2.2.2.1 vwCl (TY cy) Γ.2.2.2.2.1 := C0.1.2.2.2.2.2
  have hts := C0.1.2.2.2.2.1
  have hR : (RM d2).frames + 1 ≤ Γ.2.2.2.1.frames ∧ 8 + (mL + 11) + (RM d2).locals ≤ Γ.2.2.2.1.locals := by
    have h23 := hm.2.2.2.2
    have c1 := C0.2.2.2.1
    have c2 := C0.2.2.2.2
    exact ⟨Nat.le_trans hd c1, Nat.le_trans (by show 8 + (mL + 11) + 42 * d2 ≤ 42 * d; omega) c2⟩
  have cb0 := callB_of (R := Γ.2.2.2.1) (s := Γ.2.2.2.2.1) (args := Γ.2.2.2.2.2.2.1) (own := own) (index := index) (rm := RM d2) (mc := 0) (ms := 0) 2 hts (goodT hm.1) rfl rfl rfl (hts _ hm.2.2.1) (hts _ hlk) hm.2.2.2.1 hR
  refine call_any (va_runS (As := [q0, q1]) (rest := rest) ⟨C0.1.1, C0.1.2.1, C0.1.2.2.1, C0.1.2.2.2.1, hts⟩ (hc q h1 H.size) ⟨cb0, hts _ hm.2.1⟩ ⟨pre_blind, fun U hU hW => ⟨rfl, by rw [hU], by rw [hU]; exact hP, va_K.moved hW.alike hK, hD.weaken (fun _ _ _ _ => trivial)⟩⟩ rfl rfl hl.1 rfl (lv_room hst) hdg ⟨Nat.zero_le _, Nat.zero_le _⟩) hS (fun q _ hq => ?_) (fun q hq => ?_) (fun H1 locs1 hP1 _ _ hS1 => k q h H1 locs1 ls hl hP1 hS1)
  · rcases hq with ⟨k0, e0, h0⟩ | h0
    · exact hD.2 k0 _ h0
    · exact C0.2.1 q (Nat.le_trans hS.1 h0)
  · rcases hq with ⟨k0, e0, h0⟩ | h0
    · exact hD.2 k0 _ h0
    · exact C0.2.1 q (Nat.le_trans hS.1 h0)
theorem callSv3 {q0 q1 q2 : Value} (C0 : CXg Γ cc n d own cy) (h : F.bind g = some z) (hD : va_D Γ.2.2.2.2.2.2.2.2.2.2.2.2.1 w) (hm : MS y cb mL ret 3) (hlk : Cond.methodLink own index y ∈ lw_T) (hc : ∀ q : F1, F = some q → CT Γ.2.1 Γ.2.2.2.2.2.2.2.2.2.2.2.1 cy y cb mL ret d2 [q0, q1, q2] w (w2 q) none) (hd : d2 + 1 ≤ d) (hst : (rest.map fun v => v.category).sum ≤ 8) (hdg : decode cc pc = .ok (.invokestatic index, 3)) (k : ∀ q : F1, g q = some z → Wp Γ 0 0 (pc + 3) lv (rest) (w2 q)) : Wp Γ 0 0 pc lv (q2 :: q1 :: q0 :: rest) w := by
  obtain ⟨q, h1, h⟩ := op_bind h
  intro H locs ls hl hP hS
  have hK : va_K Γ.2.2.2.2.2.2.2.2.2.2.2.1 vwCl (TY cy) Γ.2.2.2.2.1 := C0.1.2.2.2.2.2
  have hts := C0.1.2.2.2.2.1
  have hR : (RM d2).frames + 1 ≤ Γ.2.2.2.1.frames ∧ 8 + (mL + 11) + (RM d2).locals ≤ Γ.2.2.2.1.locals := by
    have h23 := hm.2.2.2.2
    have c1 := C0.2.2.2.1
    have c2 := C0.2.2.2.2
    exact ⟨Nat.le_trans hd c1, Nat.le_trans (by show 8 + (mL + 11) + 42 * d2 ≤ 42 * d; omega) c2⟩
  have cb0 := callB_of (R := Γ.2.2.2.1) (s := Γ.2.2.2.2.1) (args := Γ.2.2.2.2.2.2.1) (own := own) (index := index) (rm := RM d2) (mc := 0) (ms := 0) 3 hts (goodT hm.1) rfl rfl rfl (hts _ hm.2.2.1) (hts _ hlk) hm.2.2.2.1 hR
  refine call_any (va_runS (As := [q0, q1, q2]) (rest := rest) ⟨C0.1.1, C0.1.2.1, C0.1.2.2.1, C0.1.2.2.2.1, hts⟩ (hc q h1 H.size) ⟨cb0, hts _ hm.2.1⟩ ⟨pre_blind, fun U hU hW => ⟨rfl, by rw [hU], by rw [hU]; exact hP, va_K.moved hW.alike hK, hD.weaken (fun _ _ _ _ => trivial)⟩⟩ rfl rfl hl.1 rfl (lv_room hst) hdg ⟨Nat.zero_le _, Nat.zero_le _⟩) hS (fun q _ hq => ?_) (fun q hq => ?_) (fun H1 locs1 hP1 _ _ hS1 => k q h H1 locs1 ls hl hP1 hS1)
  · rcases hq with ⟨k0, e0, h0⟩ | h0
    · exact hD.2 k0 _ h0
    · exact C0.2.1 q (Nat.le_trans hS.1 h0)
  · rcases hq with ⟨k0, e0, h0⟩ | h0
    · exact hD.2 k0 _ h0
    · exact C0.2.1 q (Nat.le_trans hS.1 h0)
theorem callSv4 {q0 q1 q2 q3 : Value} (C0 : CXg Γ cc n d own cy) (h : F.bind g = some z) (hD : va_D Γ.2.2.2.2.2.2.2.2.2.2.2.2.1 w) (hm : MS y cb mL ret 4) (hlk : Cond.methodLink own index y ∈ lw_T) (hc : ∀ q : F1, F = some q → CT Γ.2.1 Γ.2.2.2.2.2.2.2.2.2.2.2.1 cy y cb mL ret d2 [q0, q1, q2, q3] w (w2 q) none) (hd : d2 + 1 ≤ d) (hst : (rest.map fun v => v.category).sum ≤ 8) (hdg : decode cc pc = .ok (.invokestatic index, 3)) (k : ∀ q : F1, g q = some z → Wp Γ 0 0 (pc + 3) lv (rest) (w2 q)) : Wp Γ 0 0 pc lv (q3 :: q2 :: q1 :: q0 :: rest) w := by
  obtain ⟨q, h1, h⟩ := op_bind h
  intro H locs ls hl hP hS
  have hK : va_K Γ.2.2.2.2.2.2.2.2.2.2.2.1 vwCl (TY cy) Γ.2.2.2.2.1 := C0.1.2.2.2.2.2
  have hts := C0.1.2.2.2.2.1
  have hR : (RM d2).frames + 1 ≤ Γ.2.2.2.1.frames ∧ 8 + (mL + 11) + (RM d2).locals ≤ Γ.2.2.2.1.locals := by
    have h23 := hm.2.2.2.2
    have c1 := C0.2.2.2.1
    have c2 := C0.2.2.2.2
    exact ⟨Nat.le_trans hd c1, Nat.le_trans (by show 8 + (mL + 11) + 42 * d2 ≤ 42 * d; omega) c2⟩
  have cb0 := callB_of (R := Γ.2.2.2.1) (s := Γ.2.2.2.2.1) (args := Γ.2.2.2.2.2.2.1) (own := own) (index := index) (rm := RM d2) (mc := 0) (ms := 0) 4 hts (goodT hm.1) rfl rfl rfl (hts _ hm.2.2.1) (hts _ hlk) hm.2.2.2.1 hR
  refine call_any (va_runS (As := [q0, q1, q2, q3]) (rest := rest) ⟨C0.1.1, C0.1.2.1, C0.1.2.2.1, C0.1.2.2.2.1, hts⟩ (hc q h1 H.size) ⟨cb0, hts _ hm.2.1⟩ ⟨pre_blind, fun U hU hW => ⟨rfl, by rw [hU], by rw [hU]; exact hP, va_K.moved hW.alike hK, hD.weaken (fun _ _ _ _ => trivial)⟩⟩ rfl rfl hl.1 rfl (lv_room hst) hdg ⟨Nat.zero_le _, Nat.zero_le _⟩) hS (fun q _ hq => ?_) (fun q hq => ?_) (fun H1 locs1 hP1 _ _ hS1 => k q h H1 locs1 ls hl hP1 hS1)
  · rcases hq with ⟨k0, e0, h0⟩ | h0
    · exact hD.2 k0 _ h0
    · exact C0.2.1 q (Nat.le_trans hS.1 h0)
  · rcases hq with ⟨k0, e0, h0⟩ | h0
    · exact hD.2 k0 _ h0
    · exact C0.2.1 q (Nat.le_trans hS.1 h0)
theorem callSv5 {q0 q1 q2 q3 q4 : Value} (C0 : CXg Γ cc n d own cy) (h : F.bind g = some z) (hD : va_D Γ.2.2.2.2.2.2.2.2.2.2.2.2.1 w) (hm : MS y cb mL ret 5) (hlk : Cond.methodLink own index y ∈ lw_T) (hc : ∀ q : F1, F = some q → CT Γ.2.1 Γ.2.2.2.2.2.2.2.2.2.2.2.1 cy y cb mL ret d2 [q0, q1, q2, q3, q4] w (w2 q) none) (hd : d2 + 1 ≤ d) (hst : (rest.map fun v => v.category).sum ≤ 8) (hdg : decode cc pc = .ok (.invokestatic index, 3)) (k : ∀ q : F1, g q = some z → Wp Γ 0 0 (pc + 3) lv (rest) (w2 q)) : Wp Γ 0 0 pc lv (q4 :: q3 :: q2 :: q1 :: q0 :: rest) w := by
  obtain ⟨q, h1, h⟩ := op_bind h
  intro H locs ls hl hP hS
  have hK : va_K Γ.2.2.2.2.2.2.2.2.2.2.2.1 vwCl (TY cy) Γ.2.2.2.2.1 := C0.1.2.2.2.2.2
  have hts := C0.1.2.2.2.2.1
  have hR : (RM d2).frames + 1 ≤ Γ.2.2.2.1.frames ∧ 8 + (mL + 11) + (RM d2).locals ≤ Γ.2.2.2.1.locals := by
    have h23 := hm.2.2.2.2
    have c1 := C0.2.2.2.1
    have c2 := C0.2.2.2.2
    exact ⟨Nat.le_trans hd c1, Nat.le_trans (by show 8 + (mL + 11) + 42 * d2 ≤ 42 * d; omega) c2⟩
  have cb0 := callB_of (R := Γ.2.2.2.1) (s := Γ.2.2.2.2.1) (args := Γ.2.2.2.2.2.2.1) (own := own) (index := index) (rm := RM d2) (mc := 0) (ms := 0) 5 hts (goodT hm.1) rfl rfl rfl (hts _ hm.2.2.1) (hts _ hlk) hm.2.2.2.1 hR
  refine call_any (va_runS (As := [q0, q1, q2, q3, q4]) (rest := rest) ⟨C0.1.1, C0.1.2.1, C0.1.2.2.1, C0.1.2.2.2.1, hts⟩ (hc q h1 H.size) ⟨cb0, hts _ hm.2.1⟩ ⟨pre_blind, fun U hU hW => ⟨rfl, by rw [hU], by rw [hU]; exact hP, va_K.moved hW.alike hK, hD.weaken (fun _ _ _ _ => trivial)⟩⟩ rfl rfl hl.1 rfl (lv_room hst) hdg ⟨Nat.zero_le _, Nat.zero_le _⟩) hS (fun q _ hq => ?_) (fun q hq => ?_) (fun H1 locs1 hP1 _ _ hS1 => k q h H1 locs1 ls hl hP1 hS1)
  · rcases hq with ⟨k0, e0, h0⟩ | h0
    · exact hD.2 k0 _ h0
    · exact C0.2.1 q (Nat.le_trans hS.1 h0)
  · rcases hq with ⟨k0, e0, h0⟩ | h0
    · exact hD.2 k0 _ h0
    · exact C0.2.1 q (Nat.le_trans hS.1 h0)
end CALLW
theorem rv_0 {cy : Nat → ClassId} {a : Nat → Nat} {V : VT} {J : JT} {K : Nat → Option Nat} {X : va_W} : RV (WC cy a V J K X) (a 0) RX11 := ⟨11, _, 0, _, rfl, rfl, rfl⟩
theorem rv_1 {cy : Nat → ClassId} {a : Nat → Nat} {V : VT} {J : JT} {K : Nat → Option Nat} {X : va_W} : RV (WC cy a V J K X) (a 1) RX4 := ⟨4, _, 1, _, rfl, rfl, rfl⟩
theorem rv_2 {cy : Nat → ClassId} {a : Nat → Nat} {V : VT} {J : JT} {K : Nat → Option Nat} {X : va_W} : RV (WC cy a V J K X) (a 2) RX9 := ⟨9, _, 2, _, rfl, rfl, rfl⟩
theorem rv_3 {cy : Nat → ClassId} {a : Nat → Nat} {V : VT} {J : JT} {K : Nat → Option Nat} {X : va_W} : RV (WC cy a V J K X) (a 3) RX3 := ⟨3, _, 3, _, rfl, rfl, rfl⟩
theorem rv_4 {cy : Nat → ClassId} {a : Nat → Nat} {V : VT} {J : JT} {K : Nat → Option Nat} {X : va_W} : RV (WC cy a V J K X) (a 4) RX10 := ⟨10, _, 4, _, rfl, rfl, rfl⟩
theorem rv_5 {cy : Nat → ClassId} {a : Nat → Nat} {V : VT} {J : JT} {K : Nat → Option Nat} {X : va_W} : RV (WC cy a V J K X) (a 5) RX5 := ⟨5, _, 5, _, rfl, rfl, rfl⟩
theorem rv_6 {cy : Nat → ClassId} {a : Nat → Nat} {V : VT} {J : JT} {K : Nat → Option Nat} {X : va_W} : RV (WC cy a V J K X) (a 6) RX6 := ⟨6, _, 6, _, rfl, rfl, rfl⟩
theorem rv_7 {cy : Nat → ClassId} {a : Nat → Nat} {V : VT} {J : JT} {K : Nat → Option Nat} {X : va_W} : RV (WC cy a V J K X) (a 7) RX2 := ⟨2, _, 7, _, rfl, rfl, rfl⟩
theorem rv_8 {cy : Nat → ClassId} {a : Nat → Nat} {V : VT} {J : JT} {K : Nat → Option Nat} {X : va_W} : RV (WC cy a V J K X) (a 8) RX0 := ⟨0, _, 8, _, rfl, rfl, rfl⟩
theorem rv_9 {cy : Nat → ClassId} {a : Nat → Nat} {V : VT} {J : JT} {K : Nat → Option Nat} {X : va_W} : RV (WC cy a V J K X) (a 9) RX8 := ⟨8, _, 9, _, rfl, rfl, rfl⟩
theorem rv_t {cy : Nat → ClassId} {a : Nat → Nat} {V : VT} {J : JT} {K : Nat → Option Nat} {X : va_W} {tq ta : Nat} {tB tR tC : Int32} (ht : TB cy a X tq ta tB tR tC) : RV (WC cy a V J K X) ta RX7 := ⟨7, _, tq, _, rfl, rfl, ht V J K⟩
theorem rv_m {cy : Nat → ClassId} {a : Nat → Nat} {V : VT} {X : va_W} : RV (WM cy a V X) (a 0) RX12 := ⟨12, _, 0, _, rfl, rfl, rfl⟩
