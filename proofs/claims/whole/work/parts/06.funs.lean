def f_X7_get_j62 (tB tR tC : Int32) (V : VT) : Option (Int32) :=
  some ((0 : Int32))
def f_X7_get (tB tR tC : Int32) (v1 : Int32) (v2 : Int32) (V : VT) : Option (Int32) :=
  if v1 < 0 then (some ((0 : Int32))) else (if tR ≤ v1 then (some ((0 : Int32))) else (if v2 < 0 then (some ((0 : Int32))) else (if v2 < tC then ((some ((tB + (v1 * tC)) + v2)).bind fun a1 =>
  if a1 < 0 then (f_X7_get_j62 tB tR tC V) else (if (1874 : Int32) ≤ a1 then (f_X7_get_j62 tB tR tC V) else ((ckA 1874 a1).bind fun k2 =>
  some ((V 0 k2))))) else (some ((0 : Int32))))))
def f_X4_write_j94 (v1 : Int32) (v2 : Int32) (V : VT) : Option (VT) :=
  (ckA 1874 v1).bind fun k3 =>
  some ((u2 V 0 k3 v2))
def f_X4_write (v1 : Int32) (v2 : Int32) (V : VT) : Option (VT) :=
  if v1 < 0 then (some (V)) else (if (1874 : Int32) ≤ v1 then (some (V)) else ((ckA 1874 v1).bind fun k1 =>
  if (V 0 k1) = v2 then (some (V)) else ((ckA 1874 v1).bind fun k2 =>
  if (V 1 k2) = (V 11 1) then (f_X4_write_j94 v1 v2 V) else (if (1874 : Int32) ≤ (V 11 2) then (f_X4_write_j94 v1 v2 V) else ((ckA 1874 v1).bind fun k4 =>
  (ckA 1874 ((u2 V 1 k4 (V 11 1)) 11 2)).bind fun k5 =>
  (ckA 1874 v1).bind fun k6 =>
  (ckA 1874 ((u2 (u2 V 1 k4 (V 11 1)) 2 k5 v1) 11 2)).bind fun k7 =>
  f_X4_write_j94 v1 v2 (u2 (u2 (u2 (u2 V 1 k4 (V 11 1)) 2 k5 v1) 3 k7 ((u2 (u2 V 1 k4 (V 11 1)) 2 k5 v1) 0 k6)) 11 2 (((u2 (u2 (u2 V 1 k4 (V 11 1)) 2 k5 v1) 3 k7 ((u2 (u2 V 1 k4 (V 11 1)) 2 k5 v1) 0 k6)) 11 2) + (1 : Int32))))))))
def f_X7_set (tB tR tC : Int32) (v1 : Int32) (v2 : Int32) (v3 : Int32) (V : VT) : Option (VT) :=
  if v1 < 0 then (some (V)) else (if tR ≤ v1 then (some (V)) else (if v2 < 0 then (some (V)) else (if tC ≤ v2 then (some (V)) else ((f_X4_write ((tB + (v1 * tC)) + v2) v3 V).bind fun r1 =>
  some (r1)))))
def f_X9_refuseOver (v1 : Int32) (v2 : Int32) (V : VT) : Option (Int32 × VT) :=
  some ((-1000000000 : Int32), (u2 (u2 V 11 5 v1) 11 6 v2))
def f_X9_refuse (v1 : Int32) (V : VT) : Option (Int32 × VT) :=
  (f_X9_refuseOver v1 (0 : Int32) V).bind fun r1 =>
  some (r1.1, r1.2)
def f_X3_isBar_j14 (V : VT) : Option (Int32) :=
  some ((0 : Int32))
def f_X3_isBar (v1 : Int32) (V : VT) : Option (Int32) :=
  if v1 < 0 then (f_X3_isBar_j14 V) else (if (12 : Int32) ≤ v1 then (f_X3_isBar_j14 V) else (some ((1 : Int32))))
def f_X3_isRigged (v1 : Int32) (V : VT) : Option (Int32) :=
  (f_X7_get 0 12 4 v1 (0 : Int32) V).bind fun r1 =>
  if r1 ≤ 0 then (some ((0 : Int32))) else (some ((1 : Int32)))
def f_X9_isRefusal (V : VT) : Option (Int32) :=
  if (V 11 5) = 0 then (some ((0 : Int32))) else (some ((1 : Int32)))
def f_X9_refusesBar_j31 (V : VT) : Option (Int32 × VT) :=
  (f_X9_isRefusal V).bind fun r3 =>
  (ckZ r3).bind fun q4 =>
  some (q4, V)
def f_X9_refusesBar (v2 : Int32) (V : VT) : Option (Int32 × VT) :=
  (f_X3_isBar v2 V).bind fun r1 =>
  if r1 = 0 then ((f_X9_refuse (2 : Int32) V).bind fun r6 =>
  f_X9_refusesBar_j31 r6.2) else ((f_X3_isRigged v2 V).bind fun r2 =>
  if r2 = 0 then ((f_X9_refuse (1 : Int32) V).bind fun r5 =>
  f_X9_refusesBar_j31 r5.2) else (f_X9_refusesBar_j31 V))
def f_X0_addCue_j57 (V : VT) : Option (Int32 × VT) :=
  (f_X9_refuse (7 : Int32) V).bind fun r2 =>
  some (r2.1, r2.2)
def f_X0_addCue (v1 : Int32) (v2 : Int32) (v3 : Int32) (v4 : Int32) (V : VT) : Option (Int32 × VT) :=
  (f_X9_refusesBar v1 V).bind fun r1 =>
  if r1.1 = 0 then (if v2 = 0 then (f_X0_addCue_j57 r1.2) else (if v2 < (-5 : Int32) then (f_X0_addCue_j57 r1.2) else (if (5 : Int32) < v2 then (f_X0_addCue_j57 r1.2) else (if v3 < 0 then (f_X0_addCue_j57 r1.2) else (if (1000000 : Int32) < v3 then (f_X0_addCue_j57 r1.2) else (if v4 < (1 : Int32) then (f_X0_addCue_j57 r1.2) else (if v4 ≤ (200 : Int32) then ((f_X7_get 1868 1 6 (0 : Int32) (2 : Int32) r1.2).bind fun r3 =>
  if r3 < (60 : Int32) then ((f_X7_set 1868 1 6 (0 : Int32) (2 : Int32) (r3 + (1 : Int32)) r1.2).bind fun r4 =>
  (f_X7_set 1368 60 5 r3 (0 : Int32) v1 r4).bind fun r5 =>
  (f_X7_set 1368 60 5 r3 (1 : Int32) v2 r5).bind fun r6 =>
  (f_X7_set 1368 60 5 r3 (2 : Int32) v3 r6).bind fun r7 =>
  (f_X7_set 1368 60 5 r3 (3 : Int32) v4 r7).bind fun r8 =>
  (f_X7_set 1368 60 5 r3 (4 : Int32) (0 : Int32) r8).bind fun r9 =>
  some (r3, r9)) else ((f_X9_refuse (11 : Int32) r1.2).bind fun r10 =>
  some (r10.1, r10.2))) else (f_X0_addCue_j57 r1.2)))))))) else (some ((-1000000000 : Int32), r1.2))
def f_X3_cueState (v1 : Int32) (V : VT) : Option (Int32) :=
  (f_X7_get 1368 60 5 v1 (4 : Int32) V).bind fun r1 =>
  if r1 = 0 then ((f_X7_get 1868 1 6 (0 : Int32) (5 : Int32) V).bind fun r2 =>
  (f_X7_get 1368 60 5 v1 (2 : Int32) V).bind fun r3 =>
  (some (r2 - r3)).bind fun a4 =>
  if 0 ≤ a4 then ((f_X7_get 1368 60 5 v1 (3 : Int32) V).bind fun r5 =>
  if r5 ≤ a4 then (some ((2 : Int32))) else (some ((1 : Int32)))) else (some ((0 : Int32)))) else (some ((3 : Int32)))
def f_X3_isPendingCue_j30 (V : VT) : Option (Int32) :=
  some ((1 : Int32))
def f_X3_isPendingCue (v1 : Int32) (v2 : Int32) (V : VT) : Option (Int32) :=
  (f_X7_get 1368 60 5 v1 (0 : Int32) V).bind fun r1 =>
  if r1 = v2 then ((f_X3_cueState v1 V).bind fun r2 =>
  if r2 = 0 then (f_X3_isPendingCue_j30 V) else (if r2 = (1 : Int32) then (f_X3_isPendingCue_j30 V) else (some ((0 : Int32))))) else (some ((0 : Int32)))
def f_X0_hushBar_j72 (v1 : Int32) (v2 : Int32) (v3 : Int32) (v4 : Int32) (V : VT) : Option ((Int32 × Int32 × VT) ⊕ (Int32 × VT)) :=
  (some (v4 + 1)).bind fun a7 =>
  some (.inl (v2, a7, V))
def f_X0_hushBar_B36 (v1 : Int32) (v3 : Int32) (x : Int32 × Int32 × VT) : Option ((Int32 × Int32 × VT) ⊕ (Int32 × VT)) :=
  if v3 ≤ x.2.1 then ((some (x.1, x.2.2)).bind fun y5 => some (.inr y5)) else ((f_X3_isPendingCue x.2.1 v1 x.2.2).bind fun r6 =>
  if r6 = 0 then (f_X0_hushBar_j72 v1 x.1 v3 x.2.1 x.2.2) else ((f_X7_set 1368 60 5 x.2.1 (4 : Int32) (1 : Int32) x.2.2).bind fun r8 =>
  (some (x.1 + 1)).bind fun a9 =>
  f_X0_hushBar_j72 v1 a9 v3 x.2.1 r8))
def f_X0_hushBar (v1 : Int32) (V : VT) : Option (Int32 × VT) :=
  (f_X9_refusesBar v1 V).bind fun r1 =>
  if r1.1 = 0 then ((some (0 : Int32)).bind fun a2 =>
  (f_X7_get 1868 1 6 (0 : Int32) (2 : Int32) r1.2).bind fun r3 =>
  (some (0 : Int32)).bind fun a4 =>
  lp (f_X0_hushBar_B36 v1 r3) fuel (a2, a4, r1.2)) else (some ((-1000000000 : Int32), r1.2))
def f_X10_burden (v1 : Int32) (V : VT) : Option (UInt32) :=
  (f_X7_get 720 80 8 v1 (3 : Int32) V).bind fun r1 =>
  (ckF (FP.fmul (FP.i2f r1) (1040187392 : UInt32))).bind fun w2 =>
  (f_X7_get 720 80 8 v1 (0 : Int32) V).bind fun r3 =>
  if r3 = (4 : Int32) then ((ckF (FP.fmul w2 (1056964608 : UInt32))).bind fun w4 =>
  some (w4)) else (some (w2))
def f_X3_thingIn (v1 : Int32) (v2 : Int32) (V : VT) : Option (Int32) :=
  (f_X7_get 48 12 16 v1 v2 V).bind fun r1 =>
  some ((r1 - (2 : Int32)))
def f_X10_burdens_j35 (v1 : Int32) (v2 : UInt32) (v3 : Int32) (V : VT) : Option ((UInt32 × Int32) ⊕ (UInt32)) :=
  (some (v3 + 1)).bind fun a5 =>
  some (.inl (v2, a5))
def f_X10_burdens_B4 (v1 : Int32) (V : VT) (x : UInt32 × Int32) : Option ((UInt32 × Int32) ⊕ (UInt32)) :=
  if (16 : Int32) ≤ x.2 then ((some (x.1)).bind fun y3 => some (.inr y3)) else ((f_X3_thingIn v1 x.2 V).bind fun r4 =>
  if r4 < 0 then (f_X10_burdens_j35 v1 x.1 x.2 V) else ((f_X10_burden r4 V).bind fun r6 =>
  (ckF (FP.fadd x.1 r6)).bind fun w7 =>
  f_X10_burdens_j35 v1 w7 x.2 V))
def f_X10_burdens (v1 : Int32) (V : VT) : Option (UInt32) :=
  (some (FP.fconst0)).bind fun a1 =>
  (some (0 : Int32)).bind fun a2 =>
  lp (f_X10_burdens_B4 v1 V) fuel (a1, a2)
def f_X10_isBalanced_j41 (V : VT) : Option (Int32) :=
  some ((0 : Int32))
def f_X10_isBalanced (v1 : Int32) (V : VT) : Option (Int32) :=
  (f_X10_burdens v1 V).bind fun r1 =>
  (f_X7_get 0 12 4 v1 (3 : Int32) V).bind fun r2 =>
  (ckF (FP.fmul (1148846080 : UInt32) (FP.i2f r2))).bind fun w3 =>
  (ckF (FP.fsub r1 w3)).bind fun w4 =>
  if (Op.cmpValue (FP.fcmp w4 (3296329728 : UInt32)) .l) ≤ 0 then (f_X10_isBalanced_j41 V) else (if 0 ≤ (Op.cmpValue (FP.fcmp w4 (1148846080 : UInt32)) .g) then (f_X10_isBalanced_j41 V) else (some ((1 : Int32))))
def f_X3_holdsBar_j30 (V : VT) : Option (Int32) :=
  some ((0 : Int32))
def f_X3_holdsBar (v1 : Int32) (v2 : Int32) (V : VT) : Option (Int32) :=
  (f_X7_get 240 40 12 v1 (3 : Int32) V).bind fun r1 =>
  if r1 = (1 : Int32) then ((f_X7_get 240 40 12 v1 (0 : Int32) V).bind fun r2 =>
  if r2 = v2 then (some ((1 : Int32))) else (f_X3_holdsBar_j30 V)) else (f_X3_holdsBar_j30 V)
def f_fill_23_B5 (v1 : Int32) (v3 : Int32) (x : Int32 × VT) : Option ((Int32 × VT) ⊕ (VT)) :=
  if v3 ≤ x.1 then ((some (x.2)).bind fun y3 => some (.inr y3)) else ((ckA 16 x.1).bind fun k4 =>
  (some (x.1 + 1)).bind fun a5 =>
  some (.inl (a5, (u2 x.2 4 k4 v1))))
def f_fill_23 (v1 : Int32) (V : VT) : Option (VT) :=
  (some (0 : Int32)).bind fun a1 =>
  (some (16 : Int32)).bind fun a2 =>
  lp (f_fill_23_B5 v1 a2) fuel (a1, V)
def f_fill_29_B5 (v1 : Int32) (v3 : Int32) (x : Int32 × VT) : Option ((Int32 × VT) ⊕ (VT)) :=
  if v3 ≤ x.1 then ((some (x.2)).bind fun y3 => some (.inr y3)) else ((ckA 12 x.1).bind fun k4 =>
  (some (x.1 + 1)).bind fun a5 =>
  some (.inl (a5, (u2 x.2 9 k4 v1))))
def f_fill_29 (v1 : Int32) (V : VT) : Option (VT) :=
  (some (0 : Int32)).bind fun a1 =>
  (some (12 : Int32)).bind fun a2 =>
  lp (f_fill_29_B5 v1 a2) fuel (a1, V)
def f_X10_findLines_j71 (v1 : Int32) (v2 : Int32) (v3 : Int32) (V : VT) : Option ((Int32 × Int32 × VT) ⊕ (Int32 × VT)) :=
  (some (v3 + 1)).bind fun a7 =>
  some (.inl (v2, a7, V))
def f_X10_findLines_B13 (v1 : Int32) (x : Int32 × Int32 × VT) : Option ((Int32 × Int32 × VT) ⊕ (Int32 × VT)) :=
  if (40 : Int32) ≤ x.2.1 then ((some (x.1, x.2.2)).bind fun y4 => some (.inr y4)) else ((f_X7_get 240 40 12 x.2.1 (1 : Int32) x.2.2).bind fun r5 =>
  (f_X3_holdsBar x.2.1 v1 x.2.2).bind fun r6 =>
  if r6 = 0 then (f_X10_findLines_j71 v1 x.1 x.2.1 x.2.2) else (if r5 < 0 then (f_X10_findLines_j71 v1 x.1 x.2.1 x.2.2) else (if (16 : Int32) ≤ r5 then (f_X10_findLines_j71 v1 x.1 x.2.1 x.2.2) else ((ckA 16 r5).bind fun k8 =>
  (some (x.1 + 1)).bind fun a9 =>
  f_X10_findLines_j71 v1 a9 x.2.1 (u2 x.2.2 4 k8 x.2.1)))))
def f_X10_findLines (v1 : Int32) (V : VT) : Option (Int32 × VT) :=
  (some (0 : Int32)).bind fun a1 =>
  (f_fill_23 (-1000000000 : Int32) V).bind fun r2 =>
  (some (0 : Int32)).bind fun a3 =>
  lp (f_X10_findLines_B13 v1) fuel (a1, a3, r2)
def f_X3_weakestPart_B17 (v1 : Int32) (v3 : Int32) (V : VT) (x : Int32 × Int32) : Option ((Int32 × Int32) ⊕ (Int32)) :=
  if v3 ≤ x.2 then ((some (x.1)).bind fun y4 => some (.inr y4)) else ((f_X7_get 240 40 12 v1 ((4 : Int32) + x.2) V).bind fun r5 =>
  (some (if r5 < x.1 then r5 else x.1)).bind fun a6 =>
  (some (x.2 + 1)).bind fun a7 =>
  some (.inl (a6, a7)))
def f_X3_weakestPart (v1 : Int32) (V : VT) : Option (Int32) :=
  (some (30000 : Int32)).bind fun a1 =>
  (f_X7_get 240 40 12 v1 (2 : Int32) V).bind fun r2 =>
  (some (0 : Int32)).bind fun a3 =>
  lp (f_X3_weakestPart_B17 v1 r2 V) fuel (a1, a3)
def f_X10_isOneTooWeak_j44 (v1 : Int32) (V : VT) (J : JT) : Option ((Int32) ⊕ (Int32)) :=
  (some (v1 + 1)).bind fun a5 =>
  some (.inl (a5))
def f_X10_isOneTooWeak_B2 (V : VT) (J : JT) (x : Int32) : Option ((Int32) ⊕ (Int32)) :=
  if (16 : Int32) ≤ x then ((some ((0 : Int32))).bind fun y2 => some (.inr y2)) else ((ckA 16 x).bind fun k3 =>
  (some (V 4 k3)).bind fun a4 =>
  if a4 < 0 then (f_X10_isOneTooWeak_j44 x V J) else ((ckA 16 x).bind fun k6 =>
  (f_X3_weakestPart a4 V).bind fun r7 =>
  if (lg_cmp (J k6) ((360360 : Int64) * (Int32.toInt64 r7))) ≤ 0 then (f_X10_isOneTooWeak_j44 x V J) else ((some ((1 : Int32))).bind fun y8 => some (.inr y8))))
def f_X10_isOneTooWeak (V : VT) (J : JT) : Option (Int32) :=
  (some (0 : Int32)).bind fun a1 =>
  lp (f_X10_isOneTooWeak_B2 V J) fuel (a1)
def f_X10_lineAtOrBehind_B2 (V : VT) (x : Int32) : Option ((Int32) ⊕ (Int32)) :=
  if x < 0 then ((some ((-1000000000 : Int32))).bind fun y1 => some (.inr y1)) else (if (16 : Int32) ≤ x then ((some ((-1000000000 : Int32))).bind fun y2 => some (.inr y2)) else ((ckA 16 x).bind fun k3 =>
  if (V 4 k3) < 0 then ((some (x + 1)).bind fun a4 =>
  some (.inl (a4))) else ((some (x)).bind fun y5 => some (.inr y5))))
def f_X10_lineAtOrBehind (v1 : Int32) (V : VT) : Option (Int32) :=
  lp (f_X10_lineAtOrBehind_B2 V) fuel (v1)
def f_X10_isUpright_j56 (v1 : Int32) (v2 : Int32) (v3 : Int32) (v4 : Int32) (V : VT) : Option ((Int32 × Int32) ⊕ (Int32)) :=
  (some (v4 + 1)).bind fun a6 =>
  some (.inl (v3, a6))
def f_X10_isUpright_B11 (v1 : Int32) (v2 : Int32) (V : VT) (x : Int32 × Int32) : Option ((Int32 × Int32) ⊕ (Int32)) :=
  if (16 : Int32) ≤ x.2 then ((if x.1 = 0 then (some ((1 : Int32))) else (some ((0 : Int32)))).bind fun y4 => some (.inr y4)) else ((f_X3_thingIn v1 x.2 V).bind fun r5 =>
  if r5 < 0 then (f_X10_isUpright_j56 v1 v2 x.1 x.2 V) else ((f_X7_get 720 80 8 r5 (4 : Int32) V).bind fun r7 =>
  (some (x.1 + (r7 * (x.2 - v2)))).bind fun a8 =>
  f_X10_isUpright_j56 v1 v2 a8 x.2 V))
def f_X10_isUpright (v1 : Int32) (V : VT) : Option (Int32) :=
  (f_X10_lineAtOrBehind (0 : Int32) V).bind fun r1 =>
  (some (0 : Int32)).bind fun a2 =>
  (some (0 : Int32)).bind fun a3 =>
  lp (f_X10_isUpright_B11 v1 r1 V) fuel (a2, a3)
def f_X10_addShare (v1 : Int32) (v2 : Int64) (V : VT) (J : JT) : Option (JT) :=
  if v1 < 0 then (some (J)) else (if (16 : Int32) ≤ v1 then (some (J)) else ((ckA 16 v1).bind fun k1 =>
  (ckA 16 v1).bind fun k2 =>
  some ((vp_updL J k2 ((J k1) + v2)))))
def f_X10_lineAtOrBefore_B2 (V : VT) (x : Int32) : Option ((Int32) ⊕ (Int32)) :=
  if x < 0 then ((some ((-1000000000 : Int32))).bind fun y1 => some (.inr y1)) else (if (16 : Int32) ≤ x then ((some ((-1000000000 : Int32))).bind fun y2 => some (.inr y2)) else ((ckA 16 x).bind fun k3 =>
  if (V 4 k3) < 0 then ((some (x + (-1))).bind fun a4 =>
  some (.inl (a4))) else ((some (x)).bind fun y5 => some (.inr y5))))
def f_X10_lineAtOrBefore (v1 : Int32) (V : VT) : Option (Int32) :=
  lp (f_X10_lineAtOrBefore_B2 V) fuel (v1)
def f_X10_bear_j86 (v2 : Int64) (s1 : Int32) (V : VT) (J : JT) : Option (JT) :=
  (f_X10_addShare s1 (v2 * (360360 : Int64)) V J).bind fun r3 =>
  some (r3)
def f_X10_bear_j73 (v2 : Int64) (v4 : Int32) (v5 : Int32) (V : VT) (J : JT) : Option (JT) :=
  if v4 < 0 then (f_X10_bear_j86 v2 v5 V J) else (f_X10_bear_j86 v2 v4 V J)
def f_X10_bear (v1 : Int32) (v2 : Int64) (V : VT) (J : JT) : Option (JT) :=
  (f_X10_lineAtOrBefore v1 V).bind fun r1 =>
  (f_X10_lineAtOrBehind v1 V).bind fun r2 =>
  if r1 < 0 then (f_X10_bear_j73 v2 r1 r2 V J) else (if r2 ≤ r1 then (f_X10_bear_j73 v2 r1 r2 V J) else ((ckD (Int32.toInt64 (r2 - r1))).bind fun u4 =>
  (some ((360360 : Int64) / (Int32.toInt64 (r2 - r1)))).bind fun a5 =>
  (f_X10_addShare r1 ((v2 * (Int32.toInt64 (r2 - v1))) * a5) V J).bind fun r6 =>
  (f_X10_addShare r2 ((v2 * (Int32.toInt64 (v1 - r1))) * a5) V r6).bind fun r7 =>
  some (r7)))
def f_fillJ_24_B6 (v1 : Int64) (v4 : Int32) (V : VT) (x : Int32 × JT) : Option ((Int32 × JT) ⊕ (JT)) :=
  if v4 ≤ x.1 then ((some (x.2)).bind fun y3 => some (.inr y3)) else ((ckA 16 x.1).bind fun k4 =>
  (some (x.1 + 1)).bind fun a5 =>
  some (.inl (a5, (vp_updL x.2 k4 v1))))
def f_fillJ_24 (v1 : Int64) (V : VT) (J : JT) : Option (JT) :=
  (some (0 : Int32)).bind fun a1 =>
  (some (16 : Int32)).bind fun a2 =>
  lp (f_fillJ_24_B6 v1 a2 V) fuel (a1, J)
def f_X10_spread_j48 (v1 : Int32) (v2 : Int32) (V : VT) (J : JT) : Option ((Int32 × JT) ⊕ (JT)) :=
  (some (v2 + 1)).bind fun a5 =>
  some (.inl (a5, J))
def f_X10_spread_B10 (v1 : Int32) (V : VT) (x : Int32 × JT) : Option ((Int32 × JT) ⊕ (JT)) :=
  if (16 : Int32) ≤ x.1 then ((some (x.2)).bind fun y3 => some (.inr y3)) else ((f_X3_thingIn v1 x.1 V).bind fun r4 =>
  if r4 < 0 then (f_X10_spread_j48 v1 x.1 V x.2) else ((f_X7_get 720 80 8 r4 (4 : Int32) V).bind fun r6 =>
  (f_X10_bear x.1 (Int32.toInt64 r6) V x.2).bind fun r7 =>
  f_X10_spread_j48 v1 x.1 V r7))
def f_X10_spread (v1 : Int32) (V : VT) (J : JT) : Option (JT) :=
  (f_fillJ_24 (0 : Int64) V J).bind fun r1 =>
  (some (0 : Int32)).bind fun a2 =>
  lp (f_X10_spread_B10 v1 V) fuel (a2, r1)
def f_X3_thingsOn_j26 (v1 : Int32) (v2 : Int32) (v3 : Int32) (V : VT) : Option ((Int32 × Int32) ⊕ (Int32)) :=
  (some (v3 + 1)).bind fun a5 =>
  some (.inl (v2, a5))
def f_X3_thingsOn_B4 (v1 : Int32) (V : VT) (x : Int32 × Int32) : Option ((Int32 × Int32) ⊕ (Int32)) :=
  if (16 : Int32) ≤ x.2 then ((some (x.1)).bind fun y3 => some (.inr y3)) else ((f_X7_get 48 12 16 v1 x.2 V).bind fun r4 =>
  if r4 < (2 : Int32) then (f_X3_thingsOn_j26 v1 x.1 x.2 V) else ((some (x.1 + 1)).bind fun a6 =>
  f_X3_thingsOn_j26 v1 a6 x.2 V))
def f_X3_thingsOn (v1 : Int32) (V : VT) : Option (Int32) :=
  (some (0 : Int32)).bind fun a1 =>
  (some (0 : Int32)).bind fun a2 =>
  lp (f_X3_thingsOn_B4 v1 V) fuel (a1, a2)
def f_X10_isHeld_j50 (V : VT) (J : JT) : Option (Int32 × VT × JT) :=
  some ((1 : Int32), V, J)
def f_X10_isHeld (v1 : Int32) (V : VT) (J : JT) : Option (Int32 × VT × JT) :=
  (f_X3_thingsOn v1 V).bind fun r1 =>
  if r1 = 0 then (some ((1 : Int32), V, J)) else ((f_X10_findLines v1 V).bind fun r2 =>
  (f_X10_spread v1 r2.2 J).bind fun r3 =>
  if r2.1 = 0 then (some ((0 : Int32), r2.2, r3)) else ((f_X10_isOneTooWeak r2.2 r3).bind fun r4 =>
  if r4 = 0 then (if (1 : Int32) < r2.1 then (f_X10_isHeld_j50 r2.2 r3) else ((f_X10_isUpright v1 r2.2).bind fun r5 =>
  if r5 = 0 then (some ((0 : Int32), r2.2, r3)) else (f_X10_isHeld_j50 r2.2 r3))) else (some ((0 : Int32), r2.2, r3))))
def f_X5_isTiedDown_j46 (v1 : Int32) (v2 : Int32) (V : VT) : Option ((Int32) ⊕ (Int32)) :=
  (some (v2 + 1)).bind fun a4 =>
  some (.inl (a4))
def f_X5_isTiedDown_B2 (v1 : Int32) (V : VT) (x : Int32) : Option ((Int32) ⊕ (Int32)) :=
  if (16 : Int32) ≤ x then ((some ((0 : Int32))).bind fun y2 => some (.inr y2)) else ((f_X7_get 48 12 16 v1 x V).bind fun r3 =>
  if r3 < (2 : Int32) then (f_X5_isTiedDown_j46 v1 x V) else ((f_X7_get 48 12 16 (v1 - (1 : Int32)) x V).bind fun r5 =>
  if r3 = r5 then ((some ((1 : Int32))).bind fun y6 => some (.inr y6)) else (f_X5_isTiedDown_j46 v1 x V)))
def f_X5_isTiedDown (v1 : Int32) (V : VT) : Option (Int32) :=
  (some (0 : Int32)).bind fun a1 =>
  lp (f_X5_isTiedDown_B2 v1 V) fuel (a1)
def f_X0_lookAtBars_B2 (x : Int32 × VT × JT) : Option ((Int32 × VT × JT) ⊕ (VT × JT)) :=
  if (12 : Int32) ≤ x.1 then ((some (x.2.1, x.2.2)).bind fun y2 => some (.inr y2)) else ((f_X5_isTiedDown x.1 x.2.1).bind fun r3 =>
  (ckA 12 x.1).bind fun k4 =>
  (f_X10_isBalanced x.1 (u2 x.2.1 6 k4 (vp_nar .boolean r3))).bind fun r5 =>
  (ckA 12 x.1).bind fun k6 =>
  (f_X10_isHeld x.1 (u2 (u2 x.2.1 6 k4 (vp_nar .boolean r3)) 7 k6 (vp_nar .boolean r5)) x.2.2).bind fun r7 =>
  (ckA 12 x.1).bind fun k8 =>
  (some (x.1 + 1)).bind fun a9 =>
  some (.inl (a9, (u2 r7.2.1 8 k8 (vp_nar .boolean r7.1)), r7.2.2)))
def f_X0_lookAtBars (V : VT) (J : JT) : Option (VT × JT) :=
  (some (0 : Int32)).bind fun a1 =>
  lp (f_X0_lookAtBars_B2) fuel (a1, V, J)
def f_X0_findDeciding_j85 (v1 : Int32) (v2 : Int32) (V : VT) : Option ((Int32 × VT) ⊕ (VT)) :=
  (some (v2 + 1)).bind fun a6 =>
  some (.inl (a6, V))
def f_X0_findDeciding_B24 (v1 : Int32) (x : Int32 × VT) : Option ((Int32 × VT) ⊕ (VT)) :=
  if v1 ≤ x.1 then ((some (x.2)).bind fun y4 => some (.inr y4)) else ((f_X7_get 1368 60 5 x.1 (0 : Int32) x.2).bind fun r5 =>
  if r5 < 0 then (f_X0_findDeciding_j85 v1 x.1 x.2) else (if (12 : Int32) ≤ r5 then (f_X0_findDeciding_j85 v1 x.1 x.2) else ((ckA 12 r5).bind fun k7 =>
  if (x.2 9 k7) = (-1000000000 : Int32) then ((f_X3_cueState x.1 x.2).bind fun r8 =>
  if r8 = (1 : Int32) then ((ckA 12 r5).bind fun k9 =>
  f_X0_findDeciding_j85 v1 x.1 (u2 x.2 9 k9 x.1)) else (f_X0_findDeciding_j85 v1 x.1 x.2)) else (f_X0_findDeciding_j85 v1 x.1 x.2))))
def f_X0_findDeciding (V : VT) : Option (VT) :=
  (f_fill_29 (-1000000000 : Int32) V).bind fun r1 =>
  (f_X7_get 1868 1 6 (0 : Int32) (2 : Int32) r1).bind fun r2 =>
  (some (0 : Int32)).bind fun a3 =>
  lp (f_X0_findDeciding_B24 r2) fuel (a3, r1)
def f_X0_endRunning_j76 (v1 : Int32) (v2 : Int32) (v3 : Int32) (v4 : Int32) (V : VT) : Option ((Int32 × VT) ⊕ (VT)) :=
  (some (v4 + 1)).bind fun a5 =>
  some (.inl (a5, V))
def f_X0_endRunning_B16 (v1 : Int32) (v2 : Int32) (v3 : Int32) (x : Int32 × VT) : Option ((Int32 × VT) ⊕ (VT)) :=
  if v3 ≤ x.1 then ((some (x.2)).bind fun y3 => some (.inr y3)) else ((f_X7_get 1368 60 5 x.1 (0 : Int32) x.2).bind fun r4 =>
  if r4 < v1 then (f_X0_endRunning_j76 v1 v2 v3 x.1 x.2) else (if v2 < r4 then (f_X0_endRunning_j76 v1 v2 v3 x.1 x.2) else ((f_X3_cueState x.1 x.2).bind fun r6 =>
  if r6 = (1 : Int32) then ((f_X7_set 1368 60 5 x.1 (4 : Int32) (1 : Int32) x.2).bind fun r7 =>
  f_X0_endRunning_j76 v1 v2 v3 x.1 r7) else (f_X0_endRunning_j76 v1 v2 v3 x.1 x.2))))
def f_X0_endRunning (v1 : Int32) (v2 : Int32) (V : VT) : Option (VT) :=
  (f_X7_get 1868 1 6 (0 : Int32) (2 : Int32) V).bind fun r1 =>
  (some (0 : Int32)).bind fun a2 =>
  lp (f_X0_endRunning_B16 v1 v2 r1) fuel (a2, V)
def f_X3_time (V : VT) : Option (Int32) :=
  (f_X7_get 1868 1 6 (0 : Int32) (5 : Int32) V).bind fun r1 =>
  some (r1)
def f_X0_noteStop (v1 : Int32) (V : VT) : Option (VT) :=
  (f_X7_get 1868 1 6 (0 : Int32) (3 : Int32) V).bind fun r1 =>
  (ckE (40 : Int32)).bind fun u2 =>
  (some (r1 - r1 / (40 : Int32) * (40 : Int32))).bind fun a3 =>
  (f_X3_time V).bind fun r4 =>
  (f_X7_set 1668 40 5 a3 (0 : Int32) r4 V).bind fun r5 =>
  (f_X7_set 1668 40 5 a3 (1 : Int32) v1 r5).bind fun r6 =>
  (f_X7_set 1668 40 5 a3 (2 : Int32) (r6 11 8) r6).bind fun r7 =>
  (f_X7_set 1668 40 5 a3 (3 : Int32) (r7 11 9) r7).bind fun r8 =>
  (f_X7_set 1668 40 5 a3 (4 : Int32) (r8 11 10) r8).bind fun r9 =>
  (f_X7_set 1868 1 6 (0 : Int32) (3 : Int32) (r1 + (1 : Int32)) r9).bind fun r10 =>
  some (r10)
def f_X0_whyStop_B115 (v2 : Int32) (V : VT) (x : Int32) : Option ((Int32) ⊕ (Int32 × VT)) :=
  if v2 < x then ((some ((0 : Int32), V)).bind fun y5 => some (.inr y5)) else (if (12 : Int32) ≤ x then ((some ((0 : Int32), V)).bind fun y6 => some (.inr y6)) else ((ckA 12 x).bind fun k7 =>
  if (V 8 k7) = 0 then ((some ((3 : Int32), (u2 V 11 8 x))).bind fun y9 => some (.inr y9)) else ((some (x + 1)).bind fun a8 =>
  some (.inl (a8)))))
def f_X0_whyStop_j108 (v1 : Int32) (v2 : Int32) (V : VT) : Option (Int32 × VT) :=
  (some (if v1 < (0 : Int32) then (0 : Int32) else v1)).bind fun a4 =>
  lp (f_X0_whyStop_B115 v2 V) fuel (a4)
def f_X0_whyStop_B71 (v1 : Int32) (v2 : Int32) (V : VT) (x : Int32) : Option ((Int32) ⊕ (Int32 × VT)) :=
  if v2 < x then ((f_X0_whyStop_j108 v1 v2 V).bind fun y3 => some (.inr y3)) else (if (12 : Int32) ≤ x then ((f_X0_whyStop_j108 v1 v2 V).bind fun y10 => some (.inr y10)) else ((ckA 12 x).bind fun k11 =>
  if (V 7 k11) = 0 then ((some ((2 : Int32), (u2 V 11 8 x))).bind fun y13 => some (.inr y13)) else ((some (x + 1)).bind fun a12 =>
  some (.inl (a12)))))
def f_X0_whyStop_j50 (v4 : Int32) (V : VT) : Option (Int32 × VT) :=
  some ((1 : Int32), (u2 V 11 8 v4))
def f_X0_whyStop_B15 (v1 : Int32) (v2 : Int32) (v3 : Int32) (V : VT) (x : Int32) : Option ((Int32) ⊕ (Int32 × VT)) :=
  if v2 < x then (((some (if v1 < (0 : Int32) then (0 : Int32) else v1)).bind fun a2 =>
  lp (f_X0_whyStop_B71 v1 v2 V) fuel (a2)).bind fun y1 => some (.inr y1)) else ((f_X7_get 0 12 4 x (2 : Int32) V).bind fun r14 =>
  (some (r14 + v3)).bind fun a15 =>
  if a15 < 0 then ((f_X0_whyStop_j50 x V).bind fun y16 => some (.inr y16)) else (if a15 ≤ (100 : Int32) then ((some (x + 1)).bind fun a17 =>
  some (.inl (a17))) else ((f_X0_whyStop_j50 x V).bind fun y18 => some (.inr y18))))
def f_X0_whyStop (v1 : Int32) (v2 : Int32) (v3 : Int32) (V : VT) : Option (Int32 × VT) :=
  lp (f_X0_whyStop_B15 v1 v2 v3 (u2 (u2 V 11 9 (-1000000000 : Int32)) 11 10 (-1000000000 : Int32))) fuel (v1)
def f_X5_wouldClash_j211 (V : VT) : Option (Int32) :=
  some ((0 : Int32))
def f_X5_wouldClash_j153 (v2 : Int32) (v3 : Int32) (v5 : Int32) (v6 : Int32) (V : VT) : Option (Int32) :=
  (f_X7_get 0 12 4 v3 (2 : Int32) V).bind fun r12 =>
  (f_X7_get 720 80 8 v5 (2 : Int32) V).bind fun r13 =>
  if r12 ≤ (v2 - r13) then (f_X5_wouldClash_j211 V) else ((f_X7_get 720 80 8 v6 (2 : Int32) V).bind fun r14 =>
  if v2 ≤ (r12 - r14) then (f_X5_wouldClash_j211 V) else (some ((1 : Int32))))
def f_X5_wouldClash (v1 : Int32) (v2 : Int32) (v3 : Int32) (v4 : Int32) (V : VT) : Option (Int32) :=
  (f_X7_get 48 12 16 v1 v4 V).bind fun r1 =>
  (some (r1 - (2 : Int32))).bind fun a2 =>
  (f_X7_get 48 12 16 v3 v4 V).bind fun r3 =>
  (some (r3 - (2 : Int32))).bind fun a4 =>
  if a2 < 0 then (some ((0 : Int32))) else (if a4 < 0 then (some ((0 : Int32))) else (if a2 = a4 then (some ((0 : Int32))) else ((f_X7_get 0 12 4 (if v3 < v1 then v3 else v1) (1 : Int32) V).bind fun r5 =>
  (f_X7_get 720 80 8 a2 (1 : Int32) V).bind fun r6 =>
  (f_X7_get 720 80 8 a4 (1 : Int32) V).bind fun r7 =>
  (some (r6 + r7)).bind fun a8 =>
  (f_X7_get 720 80 8 a2 (0 : Int32) V).bind fun r9 =>
  (f_X7_get 720 80 8 a4 (0 : Int32) V).bind fun r10 =>
  (some (if r9 < r10 then r10 else r9)).bind fun a11 =>
  if a8 < r5 then (some ((0 : Int32))) else (if a8 = r5 then (if (3 : Int32) ≤ a11 then (f_X5_wouldClash_j153 v2 v3 a2 a4 V) else (some ((0 : Int32)))) else (f_X5_wouldClash_j153 v2 v3 a2 a4 V)))))
def f_X0_willClash_j156 (v1 : Int32) (v2 : Int32) (v3 : Int32) (v4 : Int32) (V : VT) : Option ((Int32 × VT) ⊕ (Int32 × VT)) :=
  (some (v4 + 1)).bind fun a7 =>
  some (.inl (a7, V))
def f_X0_willClash_j150 (v1 : Int32) (v2 : Int32) (v3 : Int32) (v4 : Int32) (v5 : Int32) (v6 : Int32) (v7 : Int32) (V : VT) : Option ((Int32 × VT) ⊕ ((Int32 × VT) ⊕ (Int32 × VT))) :=
  (some (v7 + 1)).bind fun a8 =>
  some (.inl (a8, V))
def f_X0_willClash_j114 (v1 : Int32) (v2 : Int32) (v3 : Int32) (v4 : Int32) (v5 : Int32) (v6 : Int32) (v7 : Int32) (V : VT) : Option ((Int32 × VT) ⊕ ((Int32 × VT) ⊕ (Int32 × VT))) :=
  if v4 = v2 then ((f_X5_wouldClash v4 v5 ((u2 V 11 9 (v4 + (1 : Int32))) 11 9) v7 (u2 V 11 9 (v4 + (1 : Int32)))).bind fun r9 =>
  if r9 = 0 then (f_X0_willClash_j150 v1 v2 v3 v4 v5 v6 v7 (u2 V 11 9 (v4 + (1 : Int32)))) else ((some ((1 : Int32), (u2 V 11 9 (v4 + (1 : Int32))))).bind fun y10 => some (.inr (.inr y10)))) else (f_X0_willClash_j150 v1 v2 v3 v4 v5 v6 v7 (u2 V 11 9 (v4 + (1 : Int32))))
def f_X0_willClash_B59 (v1 : Int32) (v2 : Int32) (v3 : Int32) (v4 : Int32) (v5 : Int32) (v6 : Int32) (x : Int32 × VT) : Option ((Int32 × VT) ⊕ ((Int32 × VT) ⊕ (Int32 × VT))) :=
  if v6 ≤ x.1 then ((f_X0_willClash_j156 v1 v2 v3 v4 x.2).bind fun y6 => some (.inr y6)) else (if v4 = v1 then ((f_X5_wouldClash v4 v5 ((u2 (u2 (u2 x.2 11 8 v4) 11 10 x.1) 11 9 (v4 - (1 : Int32))) 11 9) x.1 (u2 (u2 (u2 x.2 11 8 v4) 11 10 x.1) 11 9 (v4 - (1 : Int32)))).bind fun r11 =>
  if r11 = 0 then (f_X0_willClash_j114 v1 v2 v3 v4 v5 v6 x.1 (u2 (u2 (u2 x.2 11 8 v4) 11 10 x.1) 11 9 (v4 - (1 : Int32)))) else ((some ((1 : Int32), (u2 (u2 (u2 x.2 11 8 v4) 11 10 x.1) 11 9 (v4 - (1 : Int32))))).bind fun y12 => some (.inr (.inr y12)))) else (f_X0_willClash_j114 v1 v2 v3 v4 v5 v6 x.1 (u2 (u2 (u2 x.2 11 8 v4) 11 10 x.1) 11 9 (v4 - (1 : Int32)))))
def f_X0_willClash_j24 (v1 : Int32) (v2 : Int32) (v3 : Int32) (v4 : Int32) (V : VT) : Option ((Int32 × VT) ⊕ (Int32 × VT)) :=
  (f_X7_get 0 12 4 v4 (2 : Int32) V).bind fun r2 =>
  (some (r2 + v3)).bind fun a3 =>
  (f_X7_get 0 12 4 v4 (0 : Int32) V).bind fun r4 =>
  (some (0 : Int32)).bind fun a5 =>
  lp (f_X0_willClash_B59 v1 v2 v3 v4 a3 r4) fuel (a5, V)
def f_X0_willClash_B3 (v1 : Int32) (v2 : Int32) (v3 : Int32) (x : Int32 × VT) : Option ((Int32 × VT) ⊕ (Int32 × VT)) :=
  if v2 < x.1 then ((some ((0 : Int32), x.2)).bind fun y1 => some (.inr y1)) else (if x.1 = v1 then (f_X0_willClash_j24 v1 v2 v3 x.1 x.2) else (if x.1 = v2 then (f_X0_willClash_j24 v1 v2 v3 x.1 x.2) else (f_X0_willClash_j156 v1 v2 v3 x.1 x.2)))
def f_X0_willClash (v1 : Int32) (v2 : Int32) (v3 : Int32) (V : VT) : Option (Int32 × VT) :=
  lp (f_X0_willClash_B3 v1 v2 v3) fuel (v1, V)
def f_X0_moveGroup_B153 (v1 : Int32) (v2 : Int32) (v4 : Int32) (v5 : Int32) (v6 : Int32) (x : Int32 × VT) : Option ((Int32 × VT) ⊕ ((Int32 × VT) ⊕ (Int32 × VT))) :=
  if v2 < x.1 then (((some (v6 + 1)).bind fun a8 =>
  some (.inl (a8, x.2))).bind fun y7 => some (.inr y7)) else ((f_X7_get 0 12 4 x.1 (2 : Int32) x.2).bind fun r9 =>
  (f_X7_set 0 12 4 x.1 (2 : Int32) (r9 + v5) x.2).bind fun r10 =>
  (some (x.1 + 1)).bind fun a11 =>
  some (.inl (a11, r10)))
def f_X0_moveGroup_j130 (v1 : Int32) (v2 : Int32) (v4 : Int32) (v5 : Int32) (v6 : Int32) (v7 : Int32) (V : VT) : Option ((Int32 × VT) ⊕ (Int32 × VT)) :=
  if v7 = 0 then (lp (f_X0_moveGroup_B153 v1 v2 v4 v5 v6) fuel (v1, V)) else (((f_X0_noteStop v7 V).bind fun r13 =>
  (f_X0_endRunning v1 v2 r13).bind fun r14 =>
  some (v6, r14)).bind fun y12 => some (.inr y12))
def f_X0_moveGroup_B91 (v1 : Int32) (v2 : Int32) (v4 : Int32) (v5 : Int32) (x : Int32 × VT) : Option ((Int32 × VT) ⊕ (Int32 × VT)) :=
  if (if 0 ≤ v4 then v4 else 0 - v4) ≤ x.1 then ((some ((if 0 ≤ v4 then v4 else 0 - v4), x.2)).bind fun y5 => some (.inr y5)) else ((f_X0_whyStop v1 v2 v5 x.2).bind fun r6 =>
  if r6.1 = 0 then ((f_X0_willClash v1 v2 v5 r6.2).bind fun r15 =>
  if r15.1 = 0 then (f_X0_moveGroup_j130 v1 v2 v4 v5 x.1 r6.1 r15.2) else ((some (4 : Int32)).bind fun a16 =>
  f_X0_moveGroup_j130 v1 v2 v4 v5 x.1 a16 r15.2)) else (f_X0_moveGroup_j130 v1 v2 v4 v5 x.1 r6.1 r6.2))
def f_X0_moveGroup_j86 (v1 : Int32) (v2 : Int32) (v4 : Int32) (s0 : Int32) (V : VT) : Option (Int32 × VT) :=
  (some (0 : Int32)).bind fun a4 =>
  lp (f_X0_moveGroup_B91 v1 v2 v4 s0) fuel (a4, V)
def f_X0_moveGroup_j54 (v1 : Int32) (v2 : Int32) (v3 : Int32) (V : VT) : Option (Int32 × VT) :=
  if v3 = (-1000000000 : Int32) then (some ((0 : Int32), V)) else ((f_X7_get 1368 60 5 v3 (1 : Int32) V).bind fun r3 =>
  if 0 ≤ r3 then (f_X0_moveGroup_j86 v1 v2 r3 (1 : Int32) V) else (f_X0_moveGroup_j86 v1 v2 r3 (-1 : Int32) V))
def f_X0_moveGroup_j47 (v1 : Int32) (v2 : Int32) (v4 : Int32) (s0 : Int32) (V : VT) : Option ((Int32 × Int32) ⊕ (Int32 × VT)) :=
  (some (v4 + (-1))).bind fun a20 =>
  some (.inl (s0, a20))
def f_X0_moveGroup_B6 (v1 : Int32) (v2 : Int32) (V : VT) (x : Int32 × Int32) : Option ((Int32 × Int32) ⊕ (Int32 × VT)) :=
  if x.2 < v1 then ((f_X0_moveGroup_j54 v1 v2 x.1 V).bind fun y2 => some (.inr y2)) else (if x.2 < 0 then ((f_X0_moveGroup_j54 v1 v2 x.1 V).bind fun y17 => some (.inr y17)) else (if (12 : Int32) ≤ x.2 then ((f_X0_moveGroup_j54 v1 v2 x.1 V).bind fun y18 => some (.inr y18)) else ((ckA 12 x.2).bind fun k19 =>
  if (V 9 k19) = (-1000000000 : Int32) then (f_X0_moveGroup_j47 v1 v2 x.2 x.1 V) else ((ckA 12 x.2).bind fun k21 =>
  f_X0_moveGroup_j47 v1 v2 x.2 (V 9 k21) V))))
def f_X0_moveGroup (v1 : Int32) (v2 : Int32) (V : VT) : Option (Int32 × VT) :=
  (some (-1000000000 : Int32)).bind fun a1 =>
  lp (f_X0_moveGroup_B6 v1 v2 V) fuel (a1, v2)
def f_X0_runTick_j46 (v1 : Int32) (v2 : Int32) (v3 : Int32) (V : VT) : Option ((Int32 × Int32 × Int32 × VT) ⊕ (Int32 × VT)) :=
  (some (v3 + 1)).bind fun a11 =>
  some (.inl (v1, v2, a11, V))
def f_X0_runTick_j33 (v1 : Int32) (v2 : Int32) (v3 : Int32) (V : VT) : Option ((Int32 × Int32 × Int32 × VT) ⊕ (Int32 × VT)) :=
  (f_X0_moveGroup v2 v3 V).bind fun r8 =>
  (some (v1 + r8.1)).bind fun a9 =>
  (some (v3 + (1 : Int32))).bind fun a10 =>
  f_X0_runTick_j46 a9 a10 v3 r8.2
def f_X0_runTick_B10 (x : Int32 × Int32 × Int32 × VT) : Option ((Int32 × Int32 × Int32 × VT) ⊕ (Int32 × VT)) :=
  if (12 : Int32) ≤ x.2.2.1 then (((f_X3_time x.2.2.2).bind fun r6 =>
  (f_X7_set 1868 1 6 (0 : Int32) (5 : Int32) (r6 + (1 : Int32)) x.2.2.2).bind fun r7 =>
  some (x.1, r7)).bind fun y5 => some (.inr y5)) else (if x.2.2.1 = (11 : Int32) then (f_X0_runTick_j33 x.1 x.2.1 x.2.2.1 x.2.2.2) else ((ckA 12 (x.2.2.1 + (1 : Int32))).bind fun k12 =>
  if (x.2.2.2 6 k12) = 0 then (f_X0_runTick_j33 x.1 x.2.1 x.2.2.1 x.2.2.2) else (f_X0_runTick_j46 x.1 x.2.1 x.2.2.1 x.2.2.2)))
def f_X0_runTick (V : VT) : Option (Int32 × VT) :=
  (f_X0_findDeciding V).bind fun r1 =>
  (some (0 : Int32)).bind fun a2 =>
  (some (0 : Int32)).bind fun a3 =>
  (some (0 : Int32)).bind fun a4 =>
  lp (f_X0_runTick_B10) fuel (a2, a3, a4, r1)
def f_X0_runTicks_j11 (V : VT) (J : JT) : Option (Int32 × VT × JT) :=
  (f_X9_refuse (7 : Int32) V).bind fun r1 =>
  some (r1.1, r1.2, J)
def f_X0_runTicks_B29 (v1 : Int32) (J : JT) (x : Int32 × Int32 × VT) : Option ((Int32 × Int32 × VT) ⊕ (Int32 × VT × JT)) :=
  if v1 ≤ x.2.1 then (((f_X7_get 1868 1 6 (0 : Int32) (4 : Int32) x.2.2).bind fun r6 =>
  (f_X7_set 1868 1 6 (0 : Int32) (4 : Int32) (r6 + x.1) x.2.2).bind fun r7 =>
  some (x.1, r7, J)).bind fun y5 => some (.inr y5)) else ((f_X0_runTick x.2.2).bind fun r8 =>
  (some (x.1 + r8.1)).bind fun a9 =>
  (some (x.2.1 + 1)).bind fun a10 =>
  some (.inl (a9, a10, r8.2)))
def f_X0_runTicks (v1 : Int32) (V : VT) (J : JT) : Option (Int32 × VT × JT) :=
  if v1 < (1 : Int32) then (f_X0_runTicks_j11 V J) else (if v1 ≤ (100 : Int32) then ((f_X0_lookAtBars V J).bind fun r2 =>
  (some (0 : Int32)).bind fun a3 =>
  (some (0 : Int32)).bind fun a4 =>
  lp (f_X0_runTicks_B29 v1 r2.2) fuel (a3, a4, r2.1)) else (f_X0_runTicks_j11 V J))
def f_X3_isBarCued_B12 (v1 : Int32) (v2 : Int32) (V : VT) (x : Int32) : Option ((Int32) ⊕ (Int32)) :=
  if v2 ≤ x then ((some ((0 : Int32))).bind fun y3 => some (.inr y3)) else ((f_X3_isPendingCue x v1 V).bind fun r4 =>
  if r4 = 0 then ((some (x + 1)).bind fun a5 =>
  some (.inl (a5))) else ((some ((1 : Int32))).bind fun y6 => some (.inr y6)))
def f_X3_isBarCued (v1 : Int32) (V : VT) : Option (Int32) :=
  (f_X7_get 1868 1 6 (0 : Int32) (2 : Int32) V).bind fun r1 =>
  (some (0 : Int32)).bind fun a2 =>
  lp (f_X3_isBarCued_B12 v1 r1 V) fuel (a2)
def f_X5_lastOfGroup_B2 (V : VT) (x : Int32) : Option ((Int32) ⊕ (Int32)) :=
  if (11 : Int32) ≤ x then ((some (x)).bind fun y1 => some (.inr y1)) else ((f_X5_isTiedDown (x + (1 : Int32)) V).bind fun r2 =>
  if r2 = 0 then ((some (x)).bind fun y3 => some (.inr y3)) else ((some (x + 1)).bind fun a4 =>
  some (.inl (a4))))
def f_X5_lastOfGroup (v1 : Int32) (V : VT) : Option (Int32) :=
  lp (f_X5_lastOfGroup_B2 V) fuel (v1)
def f_X5_leastOfGroup_B2 (V : VT) (x : Int32) : Option ((Int32) ⊕ (Int32)) :=
  if x ≤ 0 then ((some (x)).bind fun y1 => some (.inr y1)) else ((f_X5_isTiedDown x V).bind fun r2 =>
  if r2 = 0 then ((some (x)).bind fun y3 => some (.inr y3)) else ((some (x + (-1))).bind fun a4 =>
  some (.inl (a4))))
def f_X5_leastOfGroup (v1 : Int32) (V : VT) : Option (Int32) :=
  lp (f_X5_leastOfGroup_B2 V) fuel (v1)
def f_X0_isGroupCued_B18 (v2 : Int32) (V : VT) (x : Int32) : Option ((Int32) ⊕ (Int32)) :=
  if v2 < x then ((some ((0 : Int32))).bind fun y3 => some (.inr y3)) else ((f_X3_isBarCued x V).bind fun r4 =>
  if r4 = 0 then ((some (x + 1)).bind fun a5 =>
  some (.inl (a5))) else ((some ((1 : Int32))).bind fun y6 => some (.inr y6)))
def f_X0_isGroupCued (v1 : Int32) (V : VT) : Option (Int32) :=
  (f_X5_lastOfGroup v1 V).bind fun r1 =>
  (f_X5_leastOfGroup v1 V).bind fun r2 =>
  lp (f_X0_isGroupCued_B18 r1 V) fuel (r2)
def f_X2_addThing_j57 (V : VT) : Option (Int32 × VT) :=
  (f_X9_refuse (7 : Int32) V).bind fun r1 =>
  some (r1.1, r1.2)
def f_X2_addThing_j12 (v1 : Int32) (v2 : Int32) (v3 : Int32) (v4 : Int32) (s0 : Int32) (V : VT) : Option (Int32 × VT) :=
  if v1 < 0 then (f_X2_addThing_j57 V) else (if (4 : Int32) < v1 then (f_X2_addThing_j57 V) else (if v2 < (1 : Int32) then (f_X2_addThing_j57 V) else (if (15 : Int32) < v2 then (f_X2_addThing_j57 V) else (if v3 < (1 : Int32) then (f_X2_addThing_j57 V) else (if s0 < v3 then (f_X2_addThing_j57 V) else (if v4 < 0 then (f_X2_addThing_j57 V) else (if v4 ≤ (400000 : Int32) then ((f_X7_get 1868 1 6 (0 : Int32) (1 : Int32) V).bind fun r2 =>
  if r2 < (80 : Int32) then ((f_X7_set 1868 1 6 (0 : Int32) (1 : Int32) (r2 + (1 : Int32)) V).bind fun r3 =>
  (f_X7_set 720 80 8 r2 (0 : Int32) v1 r3).bind fun r4 =>
  (f_X7_set 720 80 8 r2 (1 : Int32) v2 r4).bind fun r5 =>
  (f_X7_set 720 80 8 r2 (2 : Int32) v3 r5).bind fun r6 =>
  (f_X7_set 720 80 8 r2 (3 : Int32) v4 r6).bind fun r7 =>
  (f_X10_burden r2 r7).bind fun r8 =>
  (f_X7_set 720 80 8 r2 (4 : Int32) (FP.f2i r8) r7).bind fun r9 =>
  (f_X7_set 720 80 8 r2 (5 : Int32) (0 : Int32) r9).bind fun r10 =>
  (f_X7_set 720 80 8 r2 (6 : Int32) (-1000000000 : Int32) r10).bind fun r11 =>
  (f_X7_set 720 80 8 r2 (7 : Int32) (-1000000000 : Int32) r11).bind fun r12 =>
  some (r2, r12)) else ((f_X9_refuse (11 : Int32) V).bind fun r13 =>
  some (r13.1, r13.2))) else (f_X2_addThing_j57 V))))))))
def f_X2_addThing (v1 : Int32) (v2 : Int32) (v3 : Int32) (v4 : Int32) (V : VT) : Option (Int32 × VT) :=
  if v1 = (1 : Int32) then (f_X2_addThing_j12 v1 v2 v3 v4 (6 : Int32) V) else (f_X2_addThing_j12 v1 v2 v3 v4 (40 : Int32) V)
def f_X3_isKind (v1 : Int32) (v2 : Int32) (V : VT) : Option (Int32) :=
  (f_X7_get 720 80 8 v1 (0 : Int32) V).bind fun r1 =>
  if r1 = v2 then (some ((1 : Int32))) else (some ((0 : Int32)))
def f_X3_isThing_j21 (V : VT) : Option (Int32) :=
  some ((0 : Int32))
def f_X3_isThing (v1 : Int32) (V : VT) : Option (Int32) :=
  if v1 < 0 then (f_X3_isThing_j21 V) else ((f_X7_get 1868 1 6 (0 : Int32) (1 : Int32) V).bind fun r1 =>
  if r1 ≤ v1 then (f_X3_isThing_j21 V) else (some ((1 : Int32))))
def f_X5_isHotAt_j45 (v1 : Int32) (v2 : Int32) (v3 : Int32) (V : VT) : Option ((Int32) ⊕ (Int32)) :=
  (some (v3 + 1)).bind fun a4 =>
  some (.inl (a4))
def f_X5_isHotAt_B4 (v1 : Int32) (v2 : Int32) (V : VT) (x : Int32) : Option ((Int32) ⊕ (Int32)) :=
  if (v2 + (2 : Int32)) < x then ((some ((0 : Int32))).bind fun y2 => some (.inr y2)) else ((f_X3_thingIn v1 x V).bind fun r3 =>
  if r3 < 0 then (f_X5_isHotAt_j45 v1 v2 x V) else ((f_X7_get 720 80 8 r3 (5 : Int32) V).bind fun r5 =>
  if r5 ≤ 0 then (f_X5_isHotAt_j45 v1 v2 x V) else ((some ((1 : Int32))).bind fun y6 => some (.inr y6))))
def f_X5_isHotAt (v1 : Int32) (v2 : Int32) (V : VT) : Option (Int32) :=
  (some (v2 - (2 : Int32))).bind fun a1 =>
  lp (f_X5_isHotAt_B4 v1 v2 V) fuel (a1)
def f_X5_lesser (v0 : Int32) (v1 : Int32) (V : VT) : Option (Int32) :=
  if v0 = (-1000000000 : Int32) then (some (v1)) else (some ((if v1 < v0 then v1 else v0)))
def f_X5_leastTooHot_j69 (v1 : Int32) (v2 : Int32) (v3 : Int32) (V : VT) : Option ((Int32 × Int32) ⊕ (Int32)) :=
  (some (v3 + 1)).bind fun a5 =>
  some (.inl (v2, a5))
def f_X5_leastTooHot_j53 (v1 : Int32) (v2 : Int32) (v3 : Int32) (v4 : Int32) (V : VT) : Option ((Int32 × Int32) ⊕ (Int32)) :=
  (f_X5_isHotAt v1 v3 V).bind fun r7 =>
  if r7 = 0 then (f_X5_leastTooHot_j69 v1 v2 v3 V) else ((f_X5_lesser v2 v4 V).bind fun r8 =>
  f_X5_leastTooHot_j69 v1 r8 v3 V)
def f_X5_leastTooHot_B5 (v1 : Int32) (V : VT) (x : Int32 × Int32) : Option ((Int32 × Int32) ⊕ (Int32)) :=
  if (16 : Int32) ≤ x.2 then ((some (x.1)).bind fun y3 => some (.inr y3)) else ((f_X3_thingIn v1 x.2 V).bind fun r4 =>
  if r4 < 0 then (f_X5_leastTooHot_j69 v1 x.1 x.2 V) else ((f_X3_isKind r4 (0 : Int32) V).bind fun r6 =>
  if r6 = 0 then ((f_X3_isKind r4 (1 : Int32) V).bind fun r9 =>
  if r9 = 0 then (f_X5_leastTooHot_j69 v1 x.1 x.2 V) else (f_X5_leastTooHot_j53 v1 x.1 x.2 r4 V)) else (f_X5_leastTooHot_j53 v1 x.1 x.2 r4 V)))
def f_X5_leastTooHot (v1 : Int32) (V : VT) : Option (Int32) :=
  (some (-1000000000 : Int32)).bind fun a1 =>
  (some (0 : Int32)).bind fun a2 =>
  lp (f_X5_leastTooHot_B5 v1 V) fuel (a1, a2)
def f_X2_heatLamp_j51 (V : VT) : Option (Int32 × VT) :=
  (f_X9_refuse (7 : Int32) V).bind fun r3 =>
  some (r3.1, r3.2)
def f_X2_heatLamp (v1 : Int32) (v2 : Int32) (V : VT) : Option (Int32 × VT) :=
  (f_X3_isThing v1 V).bind fun r1 =>
  if r1 = 0 then ((f_X9_refuse (2 : Int32) V).bind fun r10 =>
  some (r10.1, r10.2)) else ((f_X3_isKind v1 (2 : Int32) V).bind fun r2 =>
  if r2 = 0 then ((f_X9_refuse (4 : Int32) V).bind fun r9 =>
  some (r9.1, r9.2)) else (if v2 < 0 then (f_X2_heatLamp_j51 V) else (if v2 ≤ (80000 : Int32) then ((f_X7_get 720 80 8 v1 (5 : Int32) V).bind fun r4 =>
  (f_X7_set 720 80 8 v1 (5 : Int32) v2 V).bind fun r5 =>
  (f_X7_get 720 80 8 v1 (6 : Int32) r5).bind fun r6 =>
  (f_X5_leastTooHot r6 r5).bind fun r7 =>
  if r7 = (-1000000000 : Int32) then (some (r4, r5)) else ((f_X9_refuseOver (14 : Int32) r7 r5).bind fun r8 =>
  some (r8.1, r8.2))) else (f_X2_heatLamp_j51 V))))
def f_X5_leastClash_j114 (v2 : Int32) (v3 : Int32) (v4 : Int32) (v5 : Int32) (v6 : Int32) (v7 : Int32) (v8 : Int32) (V : VT) : Option ((Int32 × Int32) ⊕ ((Int32 × Int32) ⊕ (Int32))) :=
  (some (v8 + 1)).bind fun a8 =>
  some (.inl (v5, a8))
def f_X5_leastClash_j77 (v2 : Int32) (v3 : Int32) (v4 : Int32) (v5 : Int32) (v6 : Int32) (v7 : Int32) (v8 : Int32) (V : VT) : Option ((Int32 × Int32) ⊕ ((Int32 × Int32) ⊕ (Int32))) :=
  (f_X5_wouldClash v6 v7 (v6 + (1 : Int32)) v8 V).bind fun r7 =>
  if r7 = 0 then (f_X5_leastClash_j114 v2 v3 v4 v5 v6 v7 v8 V) else ((f_X3_thingIn (v6 + (1 : Int32)) v8 V).bind fun r9 =>
  (f_X5_lesser v5 r9 V).bind fun r10 =>
  f_X5_leastClash_j114 v2 v3 v4 r10 v6 v7 v8 V)
def f_X5_leastClash_B31 (v2 : Int32) (v3 : Int32) (v4 : Int32) (v6 : Int32) (v7 : Int32) (V : VT) (x : Int32 × Int32) : Option ((Int32 × Int32) ⊕ ((Int32 × Int32) ⊕ (Int32))) :=
  if (v3 + v4) ≤ x.2 then (((some (v6 + 1)).bind fun a5 =>
  some (.inl (x.1, a5))).bind fun y4 => some (.inr y4)) else ((f_X5_wouldClash v6 v7 (v6 - (1 : Int32)) x.2 V).bind fun r6 =>
  if r6 = 0 then (f_X5_leastClash_j77 v2 v3 v4 x.1 v6 v7 x.2 V) else ((f_X3_thingIn (v6 - (1 : Int32)) x.2 V).bind fun r11 =>
  (f_X5_lesser x.1 r11 V).bind fun r12 =>
  f_X5_leastClash_j77 v2 v3 v4 r12 v6 v7 x.2 V))
def f_X5_leastClash_B7 (v2 : Int32) (v3 : Int32) (v4 : Int32) (V : VT) (x : Int32 × Int32) : Option ((Int32 × Int32) ⊕ (Int32)) :=
  if v2 < x.2 then ((some (x.1)).bind fun y2 => some (.inr y2)) else ((f_X7_get 0 12 4 x.2 (2 : Int32) V).bind fun r3 =>
  lp (f_X5_leastClash_B31 v2 v3 v4 x.2 r3 V) fuel (x.1, v3))
def f_X5_leastClash (v1 : Int32) (v2 : Int32) (v3 : Int32) (v4 : Int32) (V : VT) : Option (Int32) :=
  (some (-1000000000 : Int32)).bind fun a1 =>
  lp (f_X5_leastClash_B7 v2 v3 v4 V) fuel (a1, v1)
def f_X2_judge_B67 (v2 : Int32) (x : Int32 × VT × JT) : Option ((Int32 × VT × JT) ⊕ (VT × JT)) :=
  if v2 < x.1 then ((some (x.2.1, x.2.2)).bind fun y3 => some (.inr y3)) else ((f_X10_isHeld x.1 x.2.1 x.2.2).bind fun r4 =>
  if r4.1 = 0 then (((f_X9_refuseOver (15 : Int32) x.1 r4.2.1).bind fun r7 =>
  some (r7.2, r4.2.2)).bind fun y6 => some (.inr y6)) else ((some (x.1 + 1)).bind fun a5 =>
  some (.inl (a5, r4.2.1, r4.2.2))))
def f_X2_judge (v1 : Int32) (v2 : Int32) (v3 : Int32) (v4 : Int32) (V : VT) (J : JT) : Option (VT × JT) :=
  (f_X5_leastClash v1 v2 v3 v4 V).bind fun r1 =>
  if r1 = (-1000000000 : Int32) then ((f_X5_leastTooHot v1 V).bind fun r2 =>
  if r2 = (-1000000000 : Int32) then (lp (f_X2_judge_B67 v2) fuel (v1, V, J)) else ((f_X9_refuseOver (14 : Int32) r2 V).bind fun r8 =>
  some (r8.2, J))) else ((f_X9_refuseOver (13 : Int32) r1 V).bind fun r9 =>
  some (r9.2, J))
def f_X3_hasPlace_j21 (V : VT) : Option (Int32) :=
  some ((0 : Int32))
def f_X3_hasPlace (v1 : Int32) (v2 : Int32) (V : VT) : Option (Int32) :=
  if v2 < 0 then (f_X3_hasPlace_j21 V) else ((f_X7_get 0 12 4 v1 (0 : Int32) V).bind fun r1 =>
  if r1 ≤ v2 then (f_X3_hasPlace_j21 V) else (some ((1 : Int32))))
def f_X3_isFree (v1 : Int32) (v2 : Int32) (V : VT) : Option (Int32) :=
  (f_X7_get 48 12 16 v1 v2 V).bind fun r1 =>
  if r1 = 0 then (some ((1 : Int32))) else (some ((0 : Int32)))
def f_X3_isHigh (v1 : Int32) (V : VT) : Option (Int32) :=
  (f_X7_get 0 12 4 v1 (2 : Int32) V).bind fun r1 =>
  if r1 = 0 then (some ((0 : Int32))) else (some ((1 : Int32)))
def f_X2_whyNoRoom_j127 (V : VT) : Option (Int32) :=
  some ((12 : Int32))
def f_X2_whyNoRoom (v1 : Int32) (v2 : Int32) (v3 : Int32) (V : VT) : Option (Int32) :=
  (f_X3_isBar v1 V).bind fun r1 =>
  if r1 = 0 then (some ((2 : Int32))) else ((f_X3_isBar v2 V).bind fun r2 =>
  if r2 = 0 then (some ((2 : Int32))) else ((f_X3_isRigged v1 V).bind fun r3 =>
  if r3 = 0 then (some ((1 : Int32))) else ((f_X3_isRigged v2 V).bind fun r4 =>
  if r4 = 0 then (some ((1 : Int32))) else ((f_X3_hasPlace v1 v3 V).bind fun r5 =>
  if r5 = 0 then (some ((2 : Int32))) else ((f_X3_hasPlace v2 v3 V).bind fun r6 =>
  if r6 = 0 then (some ((2 : Int32))) else ((f_X3_isHigh v1 V).bind fun r7 =>
  if r7 = 0 then ((f_X3_isHigh v2 V).bind fun r8 =>
  if r8 = 0 then ((f_X3_isFree v1 v3 V).bind fun r9 =>
  if r9 = 0 then (f_X2_whyNoRoom_j127 V) else ((f_X3_isFree v2 v3 V).bind fun r10 =>
  if r10 = 0 then (f_X2_whyNoRoom_j127 V) else (some ((0 : Int32))))) else (some ((10 : Int32)))) else (some ((10 : Int32)))))))))
def f_X3_hangs (v1 : Int32) (V : VT) : Option (Int32) :=
  (f_X7_get 720 80 8 v1 (6 : Int32) V).bind fun r1 =>
  if r1 = (-1000000000 : Int32) then (some ((0 : Int32))) else (some ((1 : Int32)))
def f_X2_hangThing_B90 (v1 : Int32) (v2 : Int32) (v3 : Int32) (v4 : Int32) (J : JT) (x : Int32 × VT) : Option ((Int32 × VT) ⊕ (Int32 × VT × JT)) :=
  if v4 < x.1 then (((f_X7_set 720 80 8 v1 (6 : Int32) v2 x.2).bind fun r6 =>
  (f_X7_set 720 80 8 v1 (7 : Int32) v3 r6).bind fun r7 =>
  (f_X2_judge v2 v4 v3 (1 : Int32) r7 J).bind fun r8 =>
  (f_X3_thingsOn v2 r8.1).bind fun r9 =>
  some (r9, r8.1, r8.2)).bind fun y5 => some (.inr y5)) else ((f_X7_set 48 12 16 x.1 v3 ((2 : Int32) + v1) x.2).bind fun r10 =>
  (some (x.1 + 1)).bind fun a11 =>
  some (.inl (a11, r10)))
def f_X2_hangThing_j60 (v1 : Int32) (v2 : Int32) (v3 : Int32) (s0 : Int32) (V : VT) (J : JT) : Option (Int32 × VT × JT) :=
  (f_X2_whyNoRoom v2 s0 v3 V).bind fun r4 =>
  if r4 = 0 then (lp (f_X2_hangThing_B90 v1 v2 v3 s0 J) fuel (v2, V)) else ((f_X9_refuse r4 V).bind fun r12 =>
  some (r12.1, r12.2, J))
def f_X2_hangThing (v1 : Int32) (v2 : Int32) (v3 : Int32) (V : VT) (J : JT) : Option (Int32 × VT × JT) :=
  (f_X3_isThing v1 V).bind fun r1 =>
  if r1 = 0 then ((f_X9_refuse (2 : Int32) V).bind fun r14 =>
  some (r14.1, r14.2, J)) else ((f_X3_hangs v1 V).bind fun r2 =>
  if r2 = 0 then ((f_X3_isKind v1 (4 : Int32) V).bind fun r3 =>
  if r3 = 0 then (f_X2_hangThing_j60 v1 v2 v3 v2 V J) else (f_X2_hangThing_j60 v1 v2 v3 (v2 + (1 : Int32)) V J)) else ((f_X9_refuse (8 : Int32) V).bind fun r13 =>
  some (r13.1, r13.2, J)))
def f_X2_takeDown_j97 (V : VT) : Option (Int32 × VT) :=
  (f_X9_refuse (10 : Int32) V).bind fun r6 =>
  some (r6.1, r6.2)
def f_X2_takeDown_j74 (v1 : Int32) (v2 : Int32) (s0 : Int32) (V : VT) : Option (Int32 × VT) :=
  (f_X3_isHigh v2 V).bind fun r5 =>
  if r5 = 0 then ((f_X3_isHigh s0 V).bind fun r7 =>
  if r7 = 0 then ((f_X7_get 720 80 8 v1 (7 : Int32) V).bind fun r8 =>
  (f_X7_set 48 12 16 v2 r8 (0 : Int32) V).bind fun r9 =>
  (f_X7_set 48 12 16 s0 r8 (0 : Int32) r9).bind fun r10 =>
  (f_X7_set 720 80 8 v1 (6 : Int32) (-1000000000 : Int32) r10).bind fun r11 =>
  (f_X7_set 720 80 8 v1 (7 : Int32) (-1000000000 : Int32) r11).bind fun r12 =>
  some (r8, r12)) else (f_X2_takeDown_j97 V)) else (f_X2_takeDown_j97 V)
def f_X2_takeDown (v1 : Int32) (V : VT) : Option (Int32 × VT) :=
  (f_X3_isThing v1 V).bind fun r1 =>
  if r1 = 0 then ((f_X9_refuse (2 : Int32) V).bind fun r14 =>
  some (r14.1, r14.2)) else ((f_X3_hangs v1 V).bind fun r2 =>
  if r2 = 0 then ((f_X9_refuse (9 : Int32) V).bind fun r13 =>
  some (r13.1, r13.2)) else ((f_X7_get 720 80 8 v1 (6 : Int32) V).bind fun r3 =>
  (f_X3_isKind v1 (4 : Int32) V).bind fun r4 =>
  if r4 = 0 then (f_X2_takeDown_j74 v1 r3 r3 V) else (f_X2_takeDown_j74 v1 r3 (r3 + (1 : Int32)) V)))
def f_X2_isInTheWay_j58 (v1 : Int32) (v2 : Int32) (v3 : Int32) (v4 : Int32) (v5 : Int32) (V : VT) : Option ((Int32) ⊕ (Int32)) :=
  (some (v5 + 1)).bind fun a4 =>
  some (.inl (a4))
def f_X2_isInTheWay_j36 (v1 : Int32) (v2 : Int32) (v3 : Int32) (v4 : Int32) (v5 : Int32) (v6 : Int32) (s0 : Int32) (V : VT) : Option ((Int32) ⊕ (Int32)) :=
  if s0 = 0 then ((f_X3_isFree v1 v6 V).bind fun r5 =>
  if r5 = 0 then ((some ((1 : Int32))).bind fun y6 => some (.inr y6)) else (f_X2_isInTheWay_j58 v1 v2 v3 v4 v5 V)) else (f_X2_isInTheWay_j58 v1 v2 v3 v4 v5 V)
def f_X2_isInTheWay_j35 (v1 : Int32) (v2 : Int32) (v3 : Int32) (v4 : Int32) (v5 : Int32) (v6 : Int32) (V : VT) : Option ((Int32) ⊕ (Int32)) :=
  f_X2_isInTheWay_j36 v1 v2 v3 v4 v5 v6 (0 : Int32) V
def f_X2_isInTheWay_B3 (v1 : Int32) (v2 : Int32) (v3 : Int32) (v4 : Int32) (V : VT) (x : Int32) : Option ((Int32) ⊕ (Int32)) :=
  if v4 ≤ x then ((some ((0 : Int32))).bind fun y2 => some (.inr y2)) else ((some (v3 + x)).bind fun a3 =>
  if a3 < v2 then (f_X2_isInTheWay_j35 v1 v2 v3 v4 x a3 V) else (if (v2 + v4) ≤ a3 then (f_X2_isInTheWay_j35 v1 v2 v3 v4 x a3 V) else (f_X2_isInTheWay_j36 v1 v2 v3 v4 x a3 (1 : Int32) V)))
def f_X2_isInTheWay (v1 : Int32) (v2 : Int32) (v3 : Int32) (v4 : Int32) (V : VT) : Option (Int32) :=
  (some (0 : Int32)).bind fun a1 =>
  lp (f_X2_isInTheWay_B3 v1 v2 v3 v4 V) fuel (a1)
def f_X2_isRange_j24 (V : VT) : Option (Int32) :=
  some ((0 : Int32))
def f_X2_isRange (v0 : Int32) (v1 : Int32) (v2 : Int32) (V : VT) : Option (Int32) :=
  if v0 < 0 then (f_X2_isRange_j24 V) else (if v1 < 0 then (f_X2_isRange_j24 V) else (if v2 < v0 then (f_X2_isRange_j24 V) else (if (v2 - v0) < v1 then (f_X2_isRange_j24 V) else (some ((1 : Int32))))))
def f_X2_isStuck_j55 (v1 : Int32) (v2 : Int32) (v3 : Int32) (v4 : Int32) (V : VT) : Option ((Int32) ⊕ (Int32)) :=
  (some (v4 + 1)).bind fun a5 =>
  some (.inl (a5))
def f_X2_isStuck_B3 (v1 : Int32) (v2 : Int32) (v3 : Int32) (V : VT) (x : Int32) : Option ((Int32) ⊕ (Int32)) :=
  if v3 ≤ x then ((some ((0 : Int32))).bind fun y2 => some (.inr y2)) else ((f_X7_get 48 12 16 v1 (v2 + x) V).bind fun r3 =>
  if r3 = (1 : Int32) then ((some ((1 : Int32))).bind fun y4 => some (.inr y4)) else (if r3 < (2 : Int32) then (f_X2_isStuck_j55 v1 v2 v3 x V) else ((f_X3_isKind (r3 - (2 : Int32)) (4 : Int32) V).bind fun r6 =>
  if r6 = 0 then (f_X2_isStuck_j55 v1 v2 v3 x V) else ((some ((1 : Int32))).bind fun y7 => some (.inr y7)))))
def f_X2_isStuck (v1 : Int32) (v2 : Int32) (v3 : Int32) (V : VT) : Option (Int32) :=
  (some (0 : Int32)).bind fun a1 =>
  lp (f_X2_isStuck_B3 v1 v2 v3 V) fuel (a1)
def f_X2_moveAll_j148 (v1 : Int32) (v3 : Int32) (v4 : Int32) (v5 : Int32) (v6 : Int32) (V : VT) : Option ((Int32 × Int32 × VT) ⊕ (Int32 × VT)) :=
  (some (v6 + 1)).bind fun a8 =>
  some (.inl (v5, a8, V))
def f_X2_moveAll_B70 (v1 : Int32) (v3 : Int32) (v4 : Int32) (x : Int32 × Int32 × VT) : Option ((Int32 × Int32 × VT) ⊕ (Int32 × VT)) :=
  if v4 ≤ x.2.1 then ((some (x.1, x.2.2)).bind fun y5 => some (.inr y5)) else (if (16 : Int32) ≤ x.2.1 then ((some (x.1, x.2.2)).bind fun y6 => some (.inr y6)) else ((ckA 16 x.2.1).bind fun k7 =>
  if (x.2.2 5 k7) < (2 : Int32) then (f_X2_moveAll_j148 v1 v3 v4 x.1 x.2.1 x.2.2) else ((ckA 16 x.2.1).bind fun k9 =>
  (f_X7_set 48 12 16 v1 (v3 + x.2.1) (x.2.2 5 k9) x.2.2).bind fun r10 =>
  (ckA 16 x.2.1).bind fun k11 =>
  (f_X7_set 720 80 8 ((r10 5 k11) - (2 : Int32)) (7 : Int32) (v3 + x.2.1) r10).bind fun r12 =>
  (some (x.1 + 1)).bind fun a13 =>
  f_X2_moveAll_j148 v1 v3 v4 a13 x.2.1 r12)))
def f_X2_moveAll_j67 (v1 : Int32) (v3 : Int32) (v4 : Int32) (v5 : Int32) (V : VT) : Option (Int32 × VT) :=
  (some (0 : Int32)).bind fun a4 =>
  lp (f_X2_moveAll_B70 v1 v3 v4) fuel (v5, a4, V)
def f_X2_moveAll_B6 (v1 : Int32) (v2 : Int32) (v3 : Int32) (v4 : Int32) (v5 : Int32) (x : Int32 × VT) : Option ((Int32 × VT) ⊕ (Int32 × VT)) :=
  if v4 ≤ x.1 then ((f_X2_moveAll_j67 v1 v3 v4 v5 x.2).bind fun y3 => some (.inr y3)) else (if (16 : Int32) ≤ x.1 then ((f_X2_moveAll_j67 v1 v3 v4 v5 x.2).bind fun y14 => some (.inr y14)) else ((f_X7_get 48 12 16 v1 (v2 + x.1) x.2).bind fun r15 =>
  (ckA 16 x.1).bind fun k16 =>
  (f_X7_set 48 12 16 v1 (v2 + x.1) (0 : Int32) (u2 x.2 5 k16 r15)).bind fun r17 =>
  (some (x.1 + 1)).bind fun a18 =>
  some (.inl (a18, r17))))
def f_X2_moveAll (v1 : Int32) (v2 : Int32) (v3 : Int32) (v4 : Int32) (V : VT) : Option (Int32 × VT) :=
  (some (0 : Int32)).bind fun a1 =>
  (some (0 : Int32)).bind fun a2 =>
  lp (f_X2_moveAll_B6 v1 v2 v3 v4 a1) fuel (a2, V)
def f_X2_carry_j75 (V : VT) (J : JT) : Option (Int32 × VT × JT) :=
  (f_X9_refuse (5 : Int32) V).bind fun r5 =>
  some (r5.1, r5.2, J)
def f_X2_carry_j107 (V : VT) (J : JT) : Option (Int32 × VT × JT) :=
  (f_X9_refuse (12 : Int32) V).bind fun r8 =>
  some (r8.1, r8.2, J)
def f_X2_carry (v1 : Int32) (v2 : Int32) (v3 : Int32) (v4 : Int32) (V : VT) (J : JT) : Option (Int32 × VT × JT) :=
  (f_X9_refusesBar v1 V).bind fun r1 =>
  if r1.1 = 0 then ((f_X3_isHigh v1 r1.2).bind fun r2 =>
  if r2 = 0 then ((f_X7_get 0 12 4 v1 (0 : Int32) r1.2).bind fun r3 =>
  (f_X2_isRange v2 v4 r3 r1.2).bind fun r4 =>
  if r4 = 0 then (f_X2_carry_j75 r1.2 J) else ((f_X2_isRange v3 v4 r3 r1.2).bind fun r6 =>
  if r6 = 0 then (f_X2_carry_j75 r1.2 J) else ((f_X2_isStuck v1 v2 v4 r1.2).bind fun r7 =>
  if r7 = 0 then ((f_X2_isInTheWay v1 v2 v3 v4 r1.2).bind fun r9 =>
  if r9 = 0 then ((f_X2_moveAll v1 v2 v3 v4 r1.2).bind fun r10 =>
  (f_X2_judge v1 v1 v3 v4 r10.2 J).bind fun r11 =>
  some (r10.1, r11.1, r11.2)) else (f_X2_carry_j107 r1.2 J)) else (f_X2_carry_j107 r1.2 J)))) else ((f_X9_refuse (10 : Int32) r1.2).bind fun r12 =>
  some (r12.1, r12.2, J))) else (some ((-1000000000 : Int32), r1.2, J))
def f_X3_isLine_j21 (V : VT) : Option (Int32) :=
  some ((0 : Int32))
def f_X3_isLine (v1 : Int32) (V : VT) : Option (Int32) :=
  if v1 < 0 then (f_X3_isLine_j21 V) else ((f_X7_get 1868 1 6 (0 : Int32) (0 : Int32) V).bind fun r1 =>
  if r1 ≤ v1 then (f_X3_isLine_j21 V) else (some ((1 : Int32))))
def f_X3_isLineThere_j25 (V : VT) : Option (Int32) :=
  some ((0 : Int32))
def f_X3_isLineThere (v1 : Int32) (V : VT) : Option (Int32) :=
  (f_X3_isLine v1 V).bind fun r1 =>
  if r1 = 0 then (f_X3_isLineThere_j25 V) else ((f_X7_get 240 40 12 v1 (3 : Int32) V).bind fun r2 =>
  if r2 = (1 : Int32) then (some ((1 : Int32))) else (f_X3_isLineThere_j25 V))
def f_X3_linesOf_j22 (v1 : Int32) (v2 : Int32) (v3 : Int32) (V : VT) : Option ((Int32 × Int32) ⊕ (Int32)) :=
  (some (v3 + 1)).bind fun a5 =>
  some (.inl (v2, a5))
def f_X3_linesOf_B4 (v1 : Int32) (V : VT) (x : Int32 × Int32) : Option ((Int32 × Int32) ⊕ (Int32)) :=
  if (40 : Int32) ≤ x.2 then ((some (x.1)).bind fun y3 => some (.inr y3)) else ((f_X3_holdsBar x.2 v1 V).bind fun r4 =>
  if r4 = 0 then (f_X3_linesOf_j22 v1 x.1 x.2 V) else ((some (x.1 + 1)).bind fun a6 =>
  f_X3_linesOf_j22 v1 a6 x.2 V))
def f_X3_linesOf (v1 : Int32) (V : VT) : Option (Int32) :=
  (some (0 : Int32)).bind fun a1 =>
  (some (0 : Int32)).bind fun a2 =>
  lp (f_X3_linesOf_B4 v1 V) fuel (a1, a2)
def f_X3_isCue_j21 (V : VT) : Option (Int32) :=
  some ((0 : Int32))
def f_X3_isCue (v1 : Int32) (V : VT) : Option (Int32) :=
  if v1 < 0 then (f_X3_isCue_j21 V) else ((f_X7_get 1868 1 6 (0 : Int32) (2 : Int32) V).bind fun r1 =>
  if r1 ≤ v1 then (f_X3_isCue_j21 V) else (some ((1 : Int32))))
def f_X3_riggedBars_j21 (v1 : Int32) (v2 : Int32) (V : VT) : Option ((Int32 × Int32) ⊕ (Int32)) :=
  (some (v2 + 1)).bind fun a5 =>
  some (.inl (v1, a5))
def f_X3_riggedBars_B4 (V : VT) (x : Int32 × Int32) : Option ((Int32 × Int32) ⊕ (Int32)) :=
  if (12 : Int32) ≤ x.2 then ((some (x.1)).bind fun y3 => some (.inr y3)) else ((f_X3_isRigged x.2 V).bind fun r4 =>
  if r4 = 0 then (f_X3_riggedBars_j21 x.1 x.2 V) else ((some (x.1 + 1)).bind fun a6 =>
  f_X3_riggedBars_j21 a6 x.2 V))
def f_X3_riggedBars (V : VT) : Option (Int32) :=
  (some (0 : Int32)).bind fun a1 =>
  (some (0 : Int32)).bind fun a2 =>
  lp (f_X3_riggedBars_B4 V) fuel (a1, a2)
def f_X3_linesThere_j21 (v1 : Int32) (v2 : Int32) (V : VT) : Option ((Int32 × Int32) ⊕ (Int32)) :=
  (some (v2 + 1)).bind fun a5 =>
  some (.inl (v1, a5))
def f_X3_linesThere_B4 (V : VT) (x : Int32 × Int32) : Option ((Int32 × Int32) ⊕ (Int32)) :=
  if (40 : Int32) ≤ x.2 then ((some (x.1)).bind fun y3 => some (.inr y3)) else ((f_X3_isLineThere x.2 V).bind fun r4 =>
  if r4 = 0 then (f_X3_linesThere_j21 x.1 x.2 V) else ((some (x.1 + 1)).bind fun a6 =>
  f_X3_linesThere_j21 a6 x.2 V))
def f_X3_linesThere (V : VT) : Option (Int32) :=
  (some (0 : Int32)).bind fun a1 =>
  (some (0 : Int32)).bind fun a2 =>
  lp (f_X3_linesThere_B4 V) fuel (a1, a2)
def f_X3_hangingThings_j28 (v1 : Int32) (v2 : Int32) (V : VT) : Option ((Int32 × Int32) ⊕ (Int32)) :=
  (some (v2 + 1)).bind fun a6 =>
  some (.inl (v1, a6))
def f_X3_hangingThings_B4 (V : VT) (x : Int32 × Int32) : Option ((Int32 × Int32) ⊕ (Int32)) :=
  (f_X7_get 1868 1 6 (0 : Int32) (1 : Int32) V).bind fun r3 =>
  if r3 ≤ x.2 then ((some (x.1)).bind fun y4 => some (.inr y4)) else ((f_X3_hangs x.2 V).bind fun r5 =>
  if r5 = 0 then (f_X3_hangingThings_j28 x.1 x.2 V) else ((some (x.1 + 1)).bind fun a7 =>
  f_X3_hangingThings_j28 a7 x.2 V))
def f_X3_hangingThings (V : VT) : Option (Int32) :=
  (some (0 : Int32)).bind fun a1 =>
  (some (0 : Int32)).bind fun a2 =>
  lp (f_X3_hangingThings_B4 V) fuel (a1, a2)
def f_X4_open (V : VT) : Option (VT) :=
  some ((u2 (u2 V 11 1 ((V 11 1) + (1 : Int32))) 11 2 (0 : Int32)))
def f_X4_restore_n_j55 (v3 : Int32) (v4 : Int32) (V : VT) : Option ((Int32 × VT) ⊕ (VT)) :=
  (some (v4 + 1)).bind fun a7 =>
  some (.inl (a7, V))
def f_X4_restore_n_B3 (v3 : Int32) (x : Int32 × VT) : Option ((Int32 × VT) ⊕ (VT)) :=
  if v3 ≤ x.1 then ((some (x.2)).bind fun y2 => some (.inr y2)) else (if (1874 : Int32) ≤ x.1 then ((some (x.2)).bind fun y3 => some (.inr y3)) else (if (1874 : Int32) ≤ x.1 then ((some (x.2)).bind fun y4 => some (.inr y4)) else ((ckA 1874 x.1).bind fun k5 =>
  (some (x.2 2 k5)).bind fun a6 =>
  if a6 < 0 then (f_X4_restore_n_j55 v3 x.1 x.2) else (if (1874 : Int32) ≤ a6 then (f_X4_restore_n_j55 v3 x.1 x.2) else ((ckA 1874 x.1).bind fun k8 =>
  (ckA 1874 a6).bind fun k9 =>
  f_X4_restore_n_j55 v3 x.1 (u2 x.2 0 k9 (x.2 3 k8)))))))
def f_X4_restore_n (v3 : Int32) (V : VT) : Option (VT) :=
  (some (0 : Int32)).bind fun a1 =>
  lp (f_X4_restore_n_B3 v3) fuel (a1, V)
def f_X4_rollBack (V : VT) : Option (VT) :=
  (f_X4_restore_n (V 11 2) V).bind fun r1 =>
  (f_X4_open r1).bind fun r2 =>
  some (r2)
def f_X4_keptActs (V : VT) : Option (Int32) :=
  some ((V 11 4))
def f_X6_rigBar_j76 (V : VT) : Option (Int32 × VT) :=
  (f_X9_refuse (7 : Int32) V).bind fun r3 =>
  some (r3.1, r3.2)
def f_X6_rigBar (v1 : Int32) (v2 : Int32) (v3 : Int32) (V : VT) : Option (Int32 × VT) :=
  (f_X3_isBar v1 V).bind fun r1 =>
  if r1 = 0 then ((f_X9_refuse (2 : Int32) V).bind fun r8 =>
  some (r8.1, r8.2)) else ((f_X3_isRigged v1 V).bind fun r2 =>
  if r2 = 0 then (if 0 ≤ v2 then (if v2 < (2 : Int32) then (f_X6_rigBar_j76 V) else (if (16 : Int32) < v2 then (f_X6_rigBar_j76 V) else (if v3 < (1 : Int32) then (f_X6_rigBar_j76 V) else (if v3 ≤ (30 : Int32) then ((f_X7_set 0 12 4 v1 (0 : Int32) v2 V).bind fun r4 =>
  (f_X7_set 0 12 4 v1 (1 : Int32) v3 r4).bind fun r5 =>
  some (v2, r5)) else (f_X6_rigBar_j76 V))))) else ((f_X9_refuse (3 : Int32) V).bind fun r6 =>
  some (r6.1, r6.2))) else ((f_X9_refuse (8 : Int32) V).bind fun r7 =>
  some (r7.1, r7.2)))
def f_X6_stripBar_B147 (v1 : Int32) (v2 : Int32) (x : Int32 × VT) : Option ((Int32 × VT) ⊕ (Int32 × VT)) :=
  if (4 : Int32) ≤ x.1 then ((some (v2, x.2)).bind fun y10 => some (.inr y10)) else ((f_X7_set 0 12 4 v1 x.1 (0 : Int32) x.2).bind fun r11 =>
  (some (x.1 + 1)).bind fun a12 =>
  some (.inl (a12, r11)))
def f_X6_stripBar_j139 (v1 : Int32) (v2 : Int32) (v3 : Int32) (V : VT) : Option ((Int32 × VT) ⊕ (Int32 × VT)) :=
  (some (v3 + 1)).bind fun a14 =>
  some (.inl (a14, V))
def f_X6_stripBar_B108 (v1 : Int32) (v2 : Int32) (x : Int32 × VT) : Option ((Int32 × VT) ⊕ (Int32 × VT)) :=
  if (40 : Int32) ≤ x.1 then (((some (0 : Int32)).bind fun a9 =>
  lp (f_X6_stripBar_B147 v1 v2) fuel (a9, x.2)).bind fun y8 => some (.inr y8)) else ((f_X3_holdsBar x.1 v1 x.2).bind fun r13 =>
  if r13 = 0 then (f_X6_stripBar_j139 v1 v2 x.1 x.2) else ((f_X7_set 240 40 12 x.1 (3 : Int32) (0 : Int32) x.2).bind fun r15 =>
  f_X6_stripBar_j139 v1 v2 x.1 r15))
def f_X6_stripBar_B62 (v1 : Int32) (V : VT) (x : Int32) : Option ((Int32) ⊕ (Int32 × VT)) :=
  if (16 : Int32) ≤ x then (((f_X3_linesOf v1 V).bind fun r6 =>
  (some (0 : Int32)).bind fun a7 =>
  lp (f_X6_stripBar_B108 v1 r6) fuel (a7, V)).bind fun y5 => some (.inr y5)) else ((f_X3_isFree v1 x V).bind fun r16 =>
  if r16 = 0 then (((f_X9_refuseOver (16 : Int32) x V).bind fun r19 =>
  some (r19.1, r19.2)).bind fun y18 => some (.inr y18)) else ((some (x + 1)).bind fun a17 =>
  some (.inl (a17))))
def f_X6_stripBar (v1 : Int32) (V : VT) : Option (Int32 × VT) :=
  (f_X9_refusesBar v1 V).bind fun r1 =>
  if r1.1 = 0 then ((f_X3_isHigh v1 r1.2).bind fun r2 =>
  if r2 = 0 then ((f_X3_isBarCued v1 r1.2).bind fun r3 =>
  if r3 = 0 then ((some (0 : Int32)).bind fun a4 =>
  lp (f_X6_stripBar_B62 v1 r1.2) fuel (a4)) else ((f_X9_refuse (18 : Int32) r1.2).bind fun r20 =>
  some (r20.1, r20.2))) else ((f_X9_refuse (10 : Int32) r1.2).bind fun r21 =>
  some (r21.1, r21.2))) else (some ((-1000000000 : Int32), r1.2))
def f_X6_isPlaceHeld_j38 (v1 : Int32) (v2 : Int32) (v3 : Int32) (V : VT) : Option ((Int32) ⊕ (Int32)) :=
  (some (v3 + 1)).bind fun a4 =>
  some (.inl (a4))
def f_X6_isPlaceHeld_B2 (v1 : Int32) (v2 : Int32) (V : VT) (x : Int32) : Option ((Int32) ⊕ (Int32)) :=
  if (40 : Int32) ≤ x then ((some ((0 : Int32))).bind fun y2 => some (.inr y2)) else ((f_X3_holdsBar x v1 V).bind fun r3 =>
  if r3 = 0 then (f_X6_isPlaceHeld_j38 v1 v2 x V) else ((f_X7_get 240 40 12 x (1 : Int32) V).bind fun r5 =>
  if r5 = v2 then ((some ((1 : Int32))).bind fun y6 => some (.inr y6)) else (f_X6_isPlaceHeld_j38 v1 v2 x V)))
def f_X6_isPlaceHeld (v1 : Int32) (v2 : Int32) (V : VT) : Option (Int32) :=
  (some (0 : Int32)).bind fun a1 =>
  lp (f_X6_isPlaceHeld_B2 v1 v2 V) fuel (a1)
def f_X6_addLine_j126 (V : VT) : Option (Int32 × VT) :=
  (f_X9_refuse (7 : Int32) V).bind fun r5 =>
  some (r5.1, r5.2)
def f_X6_addLine_B211 (v3 : Int32) (v4 : Int32) (v5 : Int32) (x : Int32 × VT) : Option ((Int32 × VT) ⊕ (Int32 × VT)) :=
  if v3 ≤ x.1 then ((some (v5, x.2)).bind fun y12 => some (.inr y12)) else ((f_X7_set 240 40 12 v5 ((4 : Int32) + x.1) v4 x.2).bind fun r13 =>
  (some (x.1 + 1)).bind fun a14 =>
  some (.inl (a14, r13)))
def f_X6_addLine (v1 : Int32) (v2 : Int32) (v3 : Int32) (v4 : Int32) (V : VT) : Option (Int32 × VT) :=
  (f_X9_refusesBar v1 V).bind fun r1 =>
  if r1.1 = 0 then ((f_X3_hasPlace v1 v2 r1.2).bind fun r2 =>
  if r2 = 0 then ((f_X9_refuse (2 : Int32) r1.2).bind fun r18 =>
  some (r18.1, r18.2)) else ((f_X6_isPlaceHeld v1 v2 r1.2).bind fun r3 =>
  if r3 = 0 then ((f_X7_get 1868 1 6 (0 : Int32) (0 : Int32) r1.2).bind fun r4 =>
  if r4 < (40 : Int32) then (if 0 ≤ v3 then (if v3 < (1 : Int32) then (f_X6_addLine_j126 r1.2) else (if (8 : Int32) < v3 then (f_X6_addLine_j126 r1.2) else (if v4 < 0 then (f_X6_addLine_j126 r1.2) else (if v4 ≤ (30000 : Int32) then ((f_X7_set 1868 1 6 (0 : Int32) (0 : Int32) (r4 + (1 : Int32)) r1.2).bind fun r6 =>
  (f_X7_set 240 40 12 r4 (0 : Int32) v1 r6).bind fun r7 =>
  (f_X7_set 240 40 12 r4 (1 : Int32) v2 r7).bind fun r8 =>
  (f_X7_set 240 40 12 r4 (2 : Int32) v3 r8).bind fun r9 =>
  (f_X7_set 240 40 12 r4 (3 : Int32) (1 : Int32) r9).bind fun r10 =>
  (some (0 : Int32)).bind fun a11 =>
  lp (f_X6_addLine_B211 v3 v4 r4) fuel (a11, r10)) else (f_X6_addLine_j126 r1.2))))) else ((f_X9_refuse (3 : Int32) r1.2).bind fun r15 =>
  some (r15.1, r15.2))) else ((f_X9_refuse (11 : Int32) r1.2).bind fun r16 =>
  some (r16.1, r16.2))) else ((f_X9_refuse (8 : Int32) r1.2).bind fun r17 =>
  some (r17.1, r17.2)))) else (some ((-1000000000 : Int32), r1.2))
def f_X9_refusesLine_j31 (V : VT) : Option (Int32 × VT) :=
  (f_X9_isRefusal V).bind fun r3 =>
  (ckZ r3).bind fun q4 =>
  some (q4, V)
def f_X9_refusesLine (v2 : Int32) (V : VT) : Option (Int32 × VT) :=
  (f_X3_isLine v2 V).bind fun r1 =>
  if r1 = 0 then ((f_X9_refuse (2 : Int32) V).bind fun r6 =>
  f_X9_refusesLine_j31 r6.2) else ((f_X3_isLineThere v2 V).bind fun r2 =>
  if r2 = 0 then ((f_X9_refuse (1 : Int32) V).bind fun r5 =>
  f_X9_refusesLine_j31 r5.2) else (f_X9_refusesLine_j31 V))
def f_X6_wearPart_j38 (V : VT) : Option (Int32 × VT) :=
  (f_X9_refuse (2 : Int32) V).bind fun r2 =>
  some (r2.1, r2.2)
def f_X6_wearPart_j58 (V : VT) : Option (Int32 × VT) :=
  (f_X9_refuse (7 : Int32) V).bind fun r4 =>
  some (r4.1, r4.2)
def f_X6_wearPart (v1 : Int32) (v2 : Int32) (v3 : Int32) (V : VT) : Option (Int32 × VT) :=
  (f_X9_refusesLine v1 V).bind fun r1 =>
  if r1.1 = 0 then (if v2 < 0 then (f_X6_wearPart_j38 r1.2) else ((f_X7_get 240 40 12 v1 (2 : Int32) r1.2).bind fun r3 =>
  if v2 < r3 then (if v3 < 0 then (f_X6_wearPart_j58 r1.2) else (if v3 ≤ (30000 : Int32) then ((f_X7_get 240 40 12 v1 ((4 : Int32) + v2) r1.2).bind fun r5 =>
  (some (if (0 : Int32) < (r5 - v3) then (r5 - v3) else (0 : Int32))).bind fun a6 =>
  (f_X7_set 240 40 12 v1 ((4 : Int32) + v2) a6 r1.2).bind fun r7 =>
  some (a6, r7)) else (f_X6_wearPart_j58 r1.2))) else (f_X6_wearPart_j38 r1.2))) else (some ((-1000000000 : Int32), r1.2))
def f_X6_cutLine (v1 : Int32) (V : VT) : Option (Int32 × VT) :=
  (f_X9_refusesLine v1 V).bind fun r1 =>
  if r1.1 = 0 then ((f_X7_set 240 40 12 v1 (3 : Int32) (0 : Int32) r1.2).bind fun r2 =>
  (f_X3_weakestPart v1 r2).bind fun r3 =>
  some (r3, r2)) else (some ((-1000000000 : Int32), r1.2))
def f_X6_setHook_j87 (v4 : Int32) (s1 : Int32) (s2 : Int32) (s3 : Int32) (V : VT) : Option (Int32 × VT) :=
  (f_X7_set 48 12 16 s1 s2 s3 V).bind fun r4 =>
  if v4 = (1 : Int32) then (some ((1 : Int32), r4)) else (some ((0 : Int32), r4))
def f_X6_setHook (v1 : Int32) (v2 : Int32) (v3 : Int32) (V : VT) : Option (Int32 × VT) :=
  (f_X9_refusesBar v1 V).bind fun r1 =>
  if r1.1 = 0 then ((f_X3_hasPlace v1 v2 r1.2).bind fun r2 =>
  if r2 = 0 then ((f_X9_refuse (2 : Int32) r1.2).bind fun r6 =>
  some (r6.1, r6.2)) else ((f_X7_get 48 12 16 v1 v2 r1.2).bind fun r3 =>
  if r3 < (2 : Int32) then (if v3 = 0 then (f_X6_setHook_j87 r3 v1 v2 (0 : Int32) r1.2) else (f_X6_setHook_j87 r3 v1 v2 (1 : Int32) r1.2)) else ((f_X9_refuse (12 : Int32) r1.2).bind fun r5 =>
  some (r5.1, r5.2)))) else (some ((-1000000000 : Int32), r1.2))
def f_X6_putBricks_j49 (V : VT) : Option (Int32 × VT) :=
  (f_X9_refuse (7 : Int32) V).bind fun r4 =>
  some (r4.1, r4.2)
def f_X6_putBricks (v1 : Int32) (v2 : Int32) (V : VT) : Option (Int32 × VT) :=
  (f_X9_refusesBar v1 V).bind fun r1 =>
  if r1.1 = 0 then ((f_X7_get 0 12 4 v1 (3 : Int32) r1.2).bind fun r2 =>
  (some ((Int32.toInt64 r2) + (Int32.toInt64 v2))).bind fun a3 =>
  if (lg_cmp a3 (0 : Int64)) < 0 then (f_X6_putBricks_j49 r1.2) else (if (lg_cmp a3 (2000 : Int64)) ≤ 0 then ((f_X7_set 0 12 4 v1 (3 : Int32) (Int64.toInt32 a3) r1.2).bind fun r5 =>
  some ((Int64.toInt32 a3), r5)) else (f_X6_putBricks_j49 r1.2))) else (some ((-1000000000 : Int32), r1.2))
def f_X6_setFlag_j10 (V : VT) : Option (Int32 × VT) :=
  (f_X9_refuse (2 : Int32) V).bind fun r1 =>
  some (r1.1, r1.2)
def f_X6_setFlag_j29 (V : VT) : Option (Int32 × VT) :=
  (f_X9_refuse (7 : Int32) V).bind fun r2 =>
  some (r2.1, r2.2)
def f_X6_setFlag (v1 : Int32) (v2 : Int32) (V : VT) : Option (Int32 × VT) :=
  if v1 < 0 then (f_X6_setFlag_j10 V) else (if v1 < (8 : Int32) then (if v2 < 0 then (f_X6_setFlag_j29 V) else (if v2 ≤ (99 : Int32) then ((f_X7_get 1360 8 1 v1 (0 : Int32) V).bind fun r3 =>
  (f_X7_set 1360 8 1 v1 (0 : Int32) v2 V).bind fun r4 =>
  some (r3, r4)) else (f_X6_setFlag_j29 V))) else (f_X6_setFlag_j10 V))
def f_X6_waveFlag_j10 (V : VT) : Option (Int32 × VT) :=
  (f_X9_refuse (2 : Int32) V).bind fun r1 =>
  some (r1.1, r1.2)
def f_X6_waveFlag (v1 : Int32) (V : VT) : Option (Int32 × VT) :=
  if v1 < 0 then (f_X6_waveFlag_j10 V) else (if v1 < (8 : Int32) then ((f_X7_get 1360 8 1 v1 (0 : Int32) V).bind fun r2 =>
  if r2 = 0 then ((f_X9_refuse (6 : Int32) V).bind fun r3 =>
  some (r3.1, r3.2)) else (some (r2, V))) else (f_X6_waveFlag_j10 V))
def f_X8_size (V : VT) : Option (Int32) :=
  some ((V 11 11))
def f_X8_cellOf_j26 (v1 : Int32) (v2 : Int32) (s0 : Int32) (V : VT) : Option (Int32) :=
  if s0 = 0 then (some ((-1000000000 : Int32))) else (some (((v1 * (5 : Int32)) + v2)))
def f_X8_cellOf_j25 (v1 : Int32) (v2 : Int32) (V : VT) : Option (Int32) :=
  f_X8_cellOf_j26 v1 v2 (0 : Int32) V
def f_X8_cellOf (v1 : Int32) (v2 : Int32) (V : VT) : Option (Int32) :=
  if v1 < 0 then (f_X8_cellOf_j25 v1 v2 V) else (if (V 11 11) ≤ v1 then (f_X8_cellOf_j25 v1 v2 V) else (if v2 < 0 then (f_X8_cellOf_j25 v1 v2 V) else (if (5 : Int32) ≤ v2 then (f_X8_cellOf_j25 v1 v2 V) else (f_X8_cellOf_j26 v1 v2 (1 : Int32) V))))
def f_X8_number_j29 (V : VT) : Option (Int32) :=
  some ((0 : Int32))
def f_X8_number (v1 : Int32) (v2 : Int32) (V : VT) : Option (Int32) :=
  (f_X8_cellOf v1 v2 V).bind fun r1 =>
  if r1 < 0 then (f_X8_number_j29 V) else (if (200 : Int32) ≤ r1 then (f_X8_number_j29 V) else ((ckA 200 r1).bind fun k2 =>
  some ((V 10 k2))))
def f_X8_isAct_j14 (V : VT) : Option (Int32) :=
  some ((0 : Int32))
def f_X8_isAct (v0 : Int32) (V : VT) : Option (Int32) :=
  if v0 < (1 : Int32) then (f_X8_isAct_j14 V) else (if (5 : Int32) < v0 then (f_X8_isAct_j14 V) else (some ((1 : Int32))))
def f_X8_put (v1 : Int32) (v2 : Int32) (V : VT) : Option (VT) :=
  (f_X8_cellOf ((V 11 11) - (1 : Int32)) v1 V).bind fun r1 =>
  if r1 < 0 then (some (V)) else (if (200 : Int32) ≤ r1 then (some (V)) else ((ckA 200 r1).bind fun k2 =>
  some ((u2 V 10 k2 v2))))
def f_X8_addStep (v1 : Int32) (v2 : Int32) (v3 : Int32) (v4 : Int32) (v5 : Int32) (V : VT) : Option (Int32 × VT) :=
  (f_X8_isAct v1 V).bind fun r1 =>
  if r1 = 0 then ((f_X9_refuse (7 : Int32) V).bind fun r8 =>
  some (r8.1, r8.2)) else (if (V 11 11) < (40 : Int32) then ((f_X8_put (0 : Int32) v1 (u2 V 11 11 ((V 11 11) + (1 : Int32)))).bind fun r2 =>
  (f_X8_put (1 : Int32) v2 r2).bind fun r3 =>
  (f_X8_put (2 : Int32) v3 r3).bind fun r4 =>
  (f_X8_put (3 : Int32) v4 r4).bind fun r5 =>
  (f_X8_put (4 : Int32) v5 r5).bind fun r6 =>
  some ((r6 11 11), r6)) else ((f_X9_refuse (11 : Int32) V).bind fun r7 =>
  some (r7.1, r7.2)))
def f_X8_change_j23 (V : VT) : Option (Int32 × VT) :=
  (f_X9_refuse (2 : Int32) V).bind fun r2 =>
  some (r2.1, r2.2)
def f_X8_change_j53 (v3 : Int32) (v4 : Int32) (V : VT) : Option (Int32 × VT) :=
  (ckA 200 v4).bind fun k3 =>
  (some (V 10 k3)).bind fun a4 =>
  (ckA 200 v4).bind fun k5 =>
  some (a4, (u2 V 10 k5 v3))
def f_X8_change (v1 : Int32) (v2 : Int32) (v3 : Int32) (V : VT) : Option (Int32 × VT) :=
  (f_X8_cellOf v1 v2 V).bind fun r1 =>
  if r1 < 0 then (f_X8_change_j23 V) else (if r1 < (200 : Int32) then (if v2 = 0 then ((f_X8_isAct v3 V).bind fun r6 =>
  if r6 = 0 then ((f_X9_refuse (7 : Int32) V).bind fun r7 =>
  some (r7.1, r7.2)) else (f_X8_change_j53 v3 r1 V)) else (f_X8_change_j53 v3 r1 V)) else (f_X8_change_j23 V))
def f_X8_empty (V : VT) : Option (Int32 × VT) :=
  (some (V 11 11)).bind fun a1 =>
  some (a1, (u2 V 11 11 (0 : Int32)))
def f_X9_forget (V : VT) : Option (VT) :=
  some ((u2 (u2 V 11 5 (0 : Int32)) 11 6 (0 : Int32)))
def f_X9_countRefusal (V : VT) : Option (VT) :=
  some ((u2 V 11 7 ((V 11 7) + (1 : Int32))))
def f_X9_finding (V : VT) : Option (Int32) :=
  some ((V 11 5))
def f_X9_subject (V : VT) : Option (Int32) :=
  some ((V 11 6))
def f_X9_refusals (V : VT) : Option (Int32) :=
  some ((V 11 7))
def f_X10_bricksWanted_j57 (v3 : Int32) (v4 : Int32) (V : VT) : Option (Int32) :=
  some ((v4 - v3))
def f_X10_bricksWanted (v1 : Int32) (V : VT) : Option (Int32) :=
  (f_X10_isBalanced v1 V).bind fun r1 =>
  if r1 = 0 then ((f_X10_burdens v1 V).bind fun r2 =>
  (f_X7_get 0 12 4 v1 (3 : Int32) V).bind fun r3 =>
  (ckE (1000 : Int32)).bind fun u4 =>
  (some ((FP.f2i r2) / (1000 : Int32))).bind fun a5 =>
  if r3 ≤ a5 then (f_X10_bricksWanted_j57 r3 a5 V) else ((ckF (FP.fmul (1148846080 : UInt32) (FP.i2f a5))).bind fun w6 =>
  if (Op.cmpValue (FP.fcmp r2 w6) .l) ≤ 0 then (f_X10_bricksWanted_j57 r3 a5 V) else ((some (a5 + 1)).bind fun a7 =>
  f_X10_bricksWanted_j57 r3 a7 V))) else (some ((0 : Int32)))
def f_X10_shareOf_j59 (V : VT) (J : JT) : Option (Int64 × VT × JT) :=
  some ((0 : Int64), V, J)
def f_X10_shareOf (v1 : Int32) (V : VT) (J : JT) : Option (Int64 × VT × JT) :=
  (f_X7_get 240 40 12 v1 (0 : Int32) V).bind fun r1 =>
  (f_X10_findLines r1 V).bind fun r2 =>
  (f_X10_spread r1 r2.2 J).bind fun r3 =>
  (f_X7_get 240 40 12 v1 (1 : Int32) r2.2).bind fun r4 =>
  if r4 < 0 then (f_X10_shareOf_j59 r2.2 r3) else (if (16 : Int32) ≤ r4 then (f_X10_shareOf_j59 r2.2 r3) else ((ckA 16 r4).bind fun k5 =>
  some ((r3 k5), r2.2, r3)))
def f_X11_begin (V : VT) : Option (VT) :=
  (f_X9_forget V).bind fun r1 =>
  (f_X4_open r1).bind fun r2 =>
  some (r2)
def f_X11_settle (v1 : Int32) (V : VT) : Option (Int32 × VT) :=
  (f_X9_isRefusal V).bind fun r1 =>
  if r1 = 0 then (some (v1, V)) else ((f_X9_countRefusal V).bind fun r2 =>
  (f_X4_rollBack r2).bind fun r3 =>
  some ((-1000000000 : Int32), r3))
def f_X11_wave (v1 : Int32) (V : VT) : Option (Int32 × VT) :=
  (f_X11_begin V).bind fun r1 =>
  (f_X6_waveFlag v1 r1).bind fun r2 =>
  (f_X11_settle r2.1 r2.2).bind fun r3 =>
  some (r3.1, r3.2)
def f_X11_tell (v1 : Int32) (v2 : Int32) (v3 : Int32) (v4 : Int32) (v5 : Int32) (V : VT) : Option (Int32 × VT) :=
  (f_X11_begin V).bind fun r1 =>
  (f_X8_addStep v1 v2 v3 v4 v5 r1).bind fun r2 =>
  (f_X11_settle r2.1 r2.2).bind fun r3 =>
  some (r3.1, r3.2)
def f_X11_forge (v1 : Int32) (v2 : Int32) (v3 : Int32) (V : VT) : Option (Int32 × VT) :=
  (f_X11_begin V).bind fun r1 =>
  (f_X8_change v1 v2 v3 r1).bind fun r2 =>
  (f_X11_settle r2.1 r2.2).bind fun r3 =>
  some (r3.1, r3.2)
def f_X11_clear (V : VT) : Option (Int32 × VT) :=
  (f_X11_begin V).bind fun r1 =>
  (f_X8_empty r1).bind fun r2 =>
  some (r2.1, r2.2)
def f_X11_play (v1 : Int32) (V : VT) (J : JT) : Option (Int32 × VT × JT) :=
  (f_X8_number v1 (1 : Int32) V).bind fun r1 =>
  (f_X8_number v1 (2 : Int32) V).bind fun r2 =>
  (f_X8_number v1 (3 : Int32) V).bind fun r3 =>
  (f_X8_number v1 (0 : Int32) V).bind fun r4 =>
  if r4 = 1 then ((f_X2_hangThing r1 r2 r3 V J).bind fun r5 =>
  some (r5.1, r5.2.1, r5.2.2)) else if r4 = 2 then ((f_X2_takeDown r1 V).bind fun r6 =>
  some (r6.1, r6.2, J)) else if r4 = 3 then ((f_X6_putBricks r1 r2 V).bind fun r7 =>
  some (r7.1, r7.2, J)) else if r4 = 4 then ((f_X3_time V).bind fun r8 =>
  (f_X0_addCue r1 r2 r8 (4 : Int32) V).bind fun r9 =>
  some (r9.1, r9.2, J)) else ((f_X0_runTicks r1 V J).bind fun r10 =>
  some (r10.1, r10.2.1, r10.2.2))
def f_X11_check_j81 (v1 : Int32) (V : VT) (J : JT) : Option (Int32 × VT × JT) :=
  (f_X4_rollBack V).bind fun r6 =>
  some (v1, r6, J)
def f_X11_check_j59 (v1 : Int32) (v2 : Int32) (V : VT) (J : JT) : Option ((Int32 × Int32 × VT × JT) ⊕ (Int32 × VT × JT)) :=
  (f_X9_isRefusal V).bind fun r9 =>
  if r9 = 0 then ((some (v1 + 1)).bind fun a10 =>
  (some (v2 + 1)).bind fun a11 =>
  some (.inl (a10, a11, V, J))) else ((f_X11_check_j81 v1 V J).bind fun y12 => some (.inr y12))
def f_X11_check_B8 (x : Int32 × Int32 × VT × JT) : Option ((Int32 × Int32 × VT × JT) ⊕ (Int32 × VT × JT)) :=
  (f_X8_size x.2.2.1).bind fun r4 =>
  if r4 ≤ x.2.1 then ((f_X11_check_j81 x.1 x.2.2.1 x.2.2.2).bind fun y5 => some (.inr y5)) else ((f_X11_play x.2.1 x.2.2.1 x.2.2.2).bind fun r7 =>
  (f_X9_isRefusal r7.2.1).bind fun r8 =>
  if r8 = 0 then ((f_X8_number x.2.1 (4 : Int32) r7.2.1).bind fun r13 =>
  if r7.1 = r13 then (f_X11_check_j59 x.1 x.2.1 r7.2.1 r7.2.2) else ((f_X9_refuseOver (19 : Int32) r7.1 r7.2.1).bind fun r14 =>
  f_X11_check_j59 x.1 x.2.1 r14.2 r7.2.2)) else (f_X11_check_j59 x.1 x.2.1 r7.2.1 r7.2.2))
def f_X11_check (V : VT) (J : JT) : Option (Int32 × VT × JT) :=
  (f_X11_begin V).bind fun r1 =>
  (some (0 : Int32)).bind fun a2 =>
  (some (0 : Int32)).bind fun a3 =>
  lp (f_X11_check_B8) fuel (a2, a3, r1, J)
def f_X11_at (v1 : Int32) (v2 : Int32) (V : VT) : Option (Int32) :=
  (f_X3_hasPlace v1 v2 V).bind fun r1 =>
  if r1 = 0 then (some ((-1000000000 : Int32))) else ((f_X7_get 48 12 16 v1 v2 V).bind fun r2 =>
  some (r2))
def f_X11_of (v1 : Int32) (v2 : Int32) (V : VT) : Option (Int32) :=
  (f_X3_isThing v1 V).bind fun r1 =>
  if r1 = 0 then (some ((-1000000000 : Int32))) else (if v2 = 0 then ((f_X7_get 720 80 8 v1 (0 : Int32) V).bind fun r2 =>
  some (r2)) else if v2 = 1 then ((f_X7_get 720 80 8 v1 (1 : Int32) V).bind fun r3 =>
  some (r3)) else if v2 = 2 then ((f_X7_get 720 80 8 v1 (2 : Int32) V).bind fun r4 =>
  some (r4)) else if v2 = 3 then ((f_X7_get 720 80 8 v1 (6 : Int32) V).bind fun r5 =>
  some (r5)) else if v2 = 4 then ((f_X7_get 720 80 8 v1 (7 : Int32) V).bind fun r6 =>
  some (r6)) else if v2 = 5 then ((f_X7_get 720 80 8 v1 (4 : Int32) V).bind fun r7 =>
  some (r7)) else if v2 = 6 then ((f_X7_get 720 80 8 v1 (5 : Int32) V).bind fun r8 =>
  if r8 ≤ 0 then (some ((0 : Int32))) else (some ((1 : Int32)))) else (some ((-1000000000 : Int32))))
def f_X11_barOf (v1 : Int32) (v2 : Int32) (V : VT) (J : JT) : Option (Int32 × VT × JT) :=
  (f_X3_isRigged v1 V).bind fun r1 =>
  if r1 = 0 then (some ((-1000000000 : Int32), V, J)) else (if v2 = 0 then ((f_X7_get 0 12 4 v1 (0 : Int32) V).bind fun r2 =>
  some (r2, V, J)) else if v2 = 1 then ((f_X7_get 0 12 4 v1 (1 : Int32) V).bind fun r3 =>
  some (r3, V, J)) else if v2 = 2 then ((f_X7_get 0 12 4 v1 (2 : Int32) V).bind fun r4 =>
  some (r4, V, J)) else if v2 = 3 then ((f_X7_get 0 12 4 v1 (3 : Int32) V).bind fun r5 =>
  some (r5, V, J)) else if v2 = 4 then ((f_X3_thingsOn v1 V).bind fun r6 =>
  some (r6, V, J)) else if v2 = 5 then ((f_X3_linesOf v1 V).bind fun r7 =>
  some (r7, V, J)) else if v2 = 6 then ((f_X5_leastOfGroup v1 V).bind fun r8 =>
  some (r8, V, J)) else if v2 = 7 then ((f_X10_isHeld v1 V J).bind fun r9 =>
  if r9.1 = 0 then (some ((0 : Int32), r9.2.1, r9.2.2)) else (some ((1 : Int32), r9.2.1, r9.2.2))) else if v2 = 8 then ((f_X10_isBalanced v1 V).bind fun r10 =>
  if r10 = 0 then (some ((0 : Int32), V, J)) else (some ((1 : Int32), V, J))) else (some ((-1000000000 : Int32), V, J)))
def f_X11_load (v1 : Int32) (V : VT) : Option (UInt64) :=
  (f_X3_isRigged v1 V).bind fun r1 =>
  if r1 = 0 then (some (FP.dconst0)) else ((f_X10_burdens v1 V).bind fun r2 =>
  (ckG (FP.f2d r2)).bind fun w3 =>
  some (w3))
def f_X11_share (v1 : Int32) (V : VT) (J : JT) : Option (Int64 × VT × JT) :=
  (f_X3_isLineThere v1 V).bind fun r1 =>
  if r1 = 0 then (some ((-1000000000 : Int64), V, J)) else ((f_X10_shareOf v1 V J).bind fun r2 =>
  some (r2.1, r2.2.1, r2.2.2))
def f_X11_strength (v1 : Int32) (V : VT) : Option (Int32) :=
  (f_X3_isLineThere v1 V).bind fun r1 =>
  if r1 = 0 then (some ((-1000000000 : Int32))) else ((f_X3_weakestPart v1 V).bind fun r2 =>
  some (r2))
def f_X11_even (v1 : Int32) (V : VT) : Option (Int32) :=
  (f_X3_isRigged v1 V).bind fun r1 =>
  if r1 = 0 then (some ((-1000000000 : Int32))) else ((f_X10_bricksWanted v1 V).bind fun r2 =>
  some (r2))
def f_X11_least_j35 (v1 : Int32) (v2 : Int32) (V : VT) : Option ((Int32 × Int32) ⊕ (Int32)) :=
  (some (v2 + 1)).bind fun a5 =>
  some (.inl (v1, a5))
def f_X11_least_B4 (V : VT) (x : Int32 × Int32) : Option ((Int32 × Int32) ⊕ (Int32)) :=
  if (12 : Int32) ≤ x.2 then ((some (x.1)).bind fun y3 => some (.inr y3)) else ((f_X0_isGroupCued x.2 V).bind fun r4 =>
  if r4 = 0 then (f_X11_least_j35 x.1 x.2 V) else ((f_X10_bricksWanted x.2 V).bind fun r6 =>
  (some (x.1 + (if 0 ≤ r6 then r6 else 0 - r6))).bind fun a7 =>
  f_X11_least_j35 a7 x.2 V))
def f_X11_least (V : VT) : Option (Int32) :=
  (some (0 : Int32)).bind fun a1 =>
  (some (0 : Int32)).bind fun a2 =>
  lp (f_X11_least_B4 V) fuel (a1, a2)
def f_X11_stop (v1 : Int32) (v2 : Int32) (V : VT) : Option (Int32) :=
  (f_X7_get 1868 1 6 (0 : Int32) (3 : Int32) V).bind fun r1 =>
  if v1 < 0 then (some ((-1000000000 : Int32))) else (if (40 : Int32) ≤ v1 then (some ((-1000000000 : Int32))) else (if r1 ≤ v1 then (some ((-1000000000 : Int32))) else (if v2 < 0 then (some ((-1000000000 : Int32))) else (if v2 < (5 : Int32) then ((ckE (40 : Int32)).bind fun u2 =>
  (f_X7_get 1668 40 5 (((r1 - (1 : Int32)) - v1) - ((r1 - (1 : Int32)) - v1) / (40 : Int32) * (40 : Int32)) v2 V).bind fun r3 =>
  some (r3)) else (some ((-1000000000 : Int32)))))))
def f_X11_cueOf (v1 : Int32) (v2 : Int32) (V : VT) : Option (Int32) :=
  (f_X3_isCue v1 V).bind fun r1 =>
  if r1 = 0 then (some ((-1000000000 : Int32))) else (if v2 = 0 then ((f_X7_get 1368 60 5 v1 (0 : Int32) V).bind fun r2 =>
  some (r2)) else if v2 = 1 then ((f_X7_get 1368 60 5 v1 (1 : Int32) V).bind fun r3 =>
  some (r3)) else if v2 = 2 then ((f_X7_get 1368 60 5 v1 (2 : Int32) V).bind fun r4 =>
  some (r4)) else if v2 = 3 then ((f_X7_get 1368 60 5 v1 (3 : Int32) V).bind fun r5 =>
  some (r5)) else if v2 = 4 then ((f_X3_cueState v1 V).bind fun r6 =>
  some (r6)) else (some ((-1000000000 : Int32))))
def f_X11_told (v1 : Int32) (V : VT) : Option (Int32) :=
  if v1 = 0 then ((f_X3_riggedBars V).bind fun r1 =>
  some (r1)) else if v1 = 1 then ((f_X3_linesThere V).bind fun r2 =>
  some (r2)) else if v1 = 2 then ((f_X7_get 1868 1 6 (0 : Int32) (1 : Int32) V).bind fun r3 =>
  some (r3)) else if v1 = 3 then ((f_X3_hangingThings V).bind fun r4 =>
  some (r4)) else if v1 = 4 then ((f_X7_get 1868 1 6 (0 : Int32) (2 : Int32) V).bind fun r5 =>
  some (r5)) else if v1 = 5 then ((f_X7_get 1868 1 6 (0 : Int32) (3 : Int32) V).bind fun r6 =>
  some (r6)) else if v1 = 6 then ((f_X4_keptActs V).bind fun r7 =>
  some (r7)) else if v1 = 7 then ((f_X8_size V).bind fun r8 =>
  some (r8)) else if v1 = 8 then ((f_X7_get 1868 1 6 (0 : Int32) (4 : Int32) V).bind fun r9 =>
  some (r9)) else if v1 = 9 then ((f_X3_time V).bind fun r10 =>
  some (r10)) else (some ((-1000000000 : Int32)))
def f_X11_status (v1 : Int32) (V : VT) : Option (Int32) :=
  if v1 = 0 then ((f_X9_finding V).bind fun r1 =>
  some (r1)) else if v1 = 1 then ((f_X9_subject V).bind fun r2 =>
  some (r2)) else if v1 = 2 then ((f_X9_refusals V).bind fun r3 =>
  some (r3)) else (some ((-1000000000 : Int32)))
def f_X12_begin_B12 (x : Int32 × VT) : Option ((Int32 × VT) ⊕ (VT)) :=
  if (1646 : Int32) ≤ x.1 then ((some (x.2)).bind fun y2 => some (.inr y2)) else ((ckA 1646 x.1).bind fun k3 =>
  (ckA 1646 x.1).bind fun k4 =>
  (some (x.1 + 1)).bind fun a5 =>
  some (.inl (a5, (u2 x.2 2 k4 (x.2 0 k3)))))
def f_X12_begin (V : VT) : Option (VT) :=
  (some (0 : Int32)).bind fun a1 =>
  lp (f_X12_begin_B12) fuel (a1, (u2 (u2 V 7 2 (0 : Int32)) 7 3 (0 : Int32)))
def f_X12_is_j16 (V : VT) : Option (Int32 × VT) :=
  if (V 7 2) = 0 then (some ((0 : Int32), V)) else (some ((1 : Int32), V))
def f_X12_is (v1 : Int32) (v2 : Int32) (V : VT) : Option (Int32 × VT) :=
  if v1 = 0 then (f_X12_is_j16 V) else (if (V 7 2) = 0 then (f_X12_is_j16 (u2 V 7 2 v2)) else (f_X12_is_j16 V))
def f_X12_refused (V : VT) : Option (Int32 × VT) :=
  some ((-1000000000 : Int32), (u2 V 7 4 ((V 7 4) + (1 : Int32))))
def f_X12_keep_B47 (v1 : Int32) (x : Int32 × VT) : Option ((Int32 × VT) ⊕ (Int32 × VT)) :=
  if (1646 : Int32) ≤ x.1 then ((some (v1, (u2 x.2 7 0 ((x.2 7 0) + (1 : Int32))))).bind fun y2 => some (.inr y2)) else ((ckA 1646 x.1).bind fun k3 =>
  (ckA 98760 (((1646 : Int32) * (x.2 7 0)) + x.1)).bind fun k4 =>
  (some (x.1 + 1)).bind fun a5 =>
  some (.inl (a5, (u2 x.2 1 k4 (x.2 2 k3)))))
def f_X12_keep_j45 (v1 : Int32) (V : VT) : Option (Int32 × VT) :=
  (some (0 : Int32)).bind fun a1 =>
  lp (f_X12_keep_B47 v1) fuel (a1, V)
def f_X12_keep_B11 (v1 : Int32) (x : Int32 × VT) : Option ((Int32 × VT) ⊕ (Int32 × VT)) :=
  if (97114 : Int32) ≤ x.1 then ((f_X12_keep_j45 v1 (u2 x.2 7 0 (59 : Int32))).bind fun y7 => some (.inr y7)) else ((ckA 98760 (x.1 + (1646 : Int32))).bind fun k8 =>
  (ckA 98760 x.1).bind fun k9 =>
  (some (x.1 + 1)).bind fun a10 =>
  some (.inl (a10, (u2 x.2 1 k9 (x.2 1 k8)))))
def f_X12_keep (v1 : Int32) (V : VT) : Option (Int32 × VT) :=
  if (V 7 0) = (60 : Int32) then ((some (0 : Int32)).bind fun a6 =>
  lp (f_X12_keep_B11 v1) fuel (a6, V)) else (f_X12_keep_j45 v1 V)
def f_X12_in_j14 (V : VT) : Option (Int32) :=
  some ((0 : Int32))
def f_X12_in (v0 : Int32) (v1 : Int32) (v2 : Int32) (V : VT) : Option (Int32) :=
  if v0 < v1 then (f_X12_in_j14 V) else (if v2 < v0 then (f_X12_in_j14 V) else (some ((1 : Int32))))
def f_X12_bar0 (v0 : Int32) (V : VT) : Option (Int32) :=
  some (((0 : Int32) + ((21 : Int32) * v0)))
def f_X12_isBar (v0 : Int32) (V : VT) : Option (Int32) :=
  (f_X12_in v0 (0 : Int32) (11 : Int32) V).bind fun r1 =>
  (ckZ r1).bind fun q2 =>
  some (q2)
def f_X12_isRigged (v1 : Int32) (V : VT) : Option (Int32) :=
  (f_X12_bar0 v1 V).bind fun r1 =>
  (ckA 1646 r1).bind fun k2 =>
  if (V 0 k2) = (1 : Int32) then (some ((1 : Int32))) else (some ((0 : Int32)))
def f_X12_places (v1 : Int32) (V : VT) : Option (Int32) :=
  (f_X12_bar0 v1 V).bind fun r1 =>
  (ckA 1646 (r1 + (1 : Int32))).bind fun k2 =>
  some ((V 0 k2))
def f_X12_gap (v1 : Int32) (V : VT) : Option (Int32) :=
  (f_X12_bar0 v1 V).bind fun r1 =>
  (ckA 1646 (r1 + (2 : Int32))).bind fun k2 =>
  some ((V 0 k2))
def f_X12_height (v1 : Int32) (V : VT) : Option (Int32) :=
  (f_X12_bar0 v1 V).bind fun r1 =>
  (ckA 1646 (r1 + (3 : Int32))).bind fun k2 =>
  some ((V 0 k2))
def f_X12_held (v1 : Int32) (v2 : Int32) (V : VT) : Option (Int32) :=
  (f_X12_bar0 v1 V).bind fun r1 =>
  (ckA 1646 ((r1 + (5 : Int32)) + v2)).bind fun k2 =>
  some ((V 0 k2))
def f_X12_put (v1 : Int32) (v2 : Int32) (v3 : Int32) (V : VT) : Option (VT) :=
  (f_X12_bar0 v1 V).bind fun r1 =>
  (ckA 1646 ((r1 + (5 : Int32)) + v2)).bind fun k2 =>
  some ((u2 V 0 k2 v3))
def f_X12_isPlace_j17 (V : VT) : Option (Int32) :=
  some ((0 : Int32))
def f_X12_isPlace (v1 : Int32) (v2 : Int32) (V : VT) : Option (Int32) :=
  if v2 < 0 then (f_X12_isPlace_j17 V) else ((f_X12_places v1 V).bind fun r1 =>
  if r1 ≤ v2 then (f_X12_isPlace_j17 V) else (some ((1 : Int32))))
def f_X12_isTold_j20 (V : VT) : Option (Int32) :=
  some ((0 : Int32))
def f_X12_isTold (v1 : Int32) (V : VT) : Option (Int32) :=
  if v1 < 0 then (f_X12_isTold_j20 V) else ((ckA 1646 (1641 : Int32)).bind fun k1 =>
  if (V 0 k1) ≤ v1 then (f_X12_isTold_j20 V) else (some ((1 : Int32))))
def f_X12_thingIs (v1 : Int32) (v2 : Int32) (V : VT) : Option (Int32) :=
  (ckA 1646 (((732 : Int32) + ((5 : Int32) * v1)) + v2)).bind fun k1 =>
  some ((V 0 k1))
def f_X12_isLineTold_j20 (V : VT) : Option (Int32) :=
  some ((0 : Int32))
def f_X12_isLineTold (v1 : Int32) (V : VT) : Option (Int32) :=
  if v1 < 0 then (f_X12_isLineTold_j20 V) else ((ckA 1646 (1640 : Int32)).bind fun k1 =>
  if (V 0 k1) ≤ v1 then (f_X12_isLineTold_j20 V) else (some ((1 : Int32))))
def f_X12_lineIs (v1 : Int32) (v2 : Int32) (V : VT) : Option (Int32) :=
  (ckA 1646 (((252 : Int32) + ((12 : Int32) * v1)) + v2)).bind fun k1 =>
  some ((V 0 k1))
def f_X12_isLineThere (v1 : Int32) (V : VT) : Option (Int32) :=
  (f_X12_lineIs v1 (3 : Int32) V).bind fun r1 =>
  if r1 = (1 : Int32) then (some ((1 : Int32))) else (some ((0 : Int32)))
def f_X12_holds_j22 (V : VT) : Option (Int32) :=
  some ((0 : Int32))
def f_X12_holds (v1 : Int32) (v2 : Int32) (V : VT) : Option (Int32) :=
  (f_X12_isLineThere v1 V).bind fun r1 =>
  if r1 = 0 then (f_X12_holds_j22 V) else ((f_X12_lineIs v1 (0 : Int32) V).bind fun r2 =>
  if r2 = v2 then (some ((1 : Int32))) else (f_X12_holds_j22 V))
def f_X12_weakest_j40 (v1 : Int32) (v2 : Int32) (v3 : Int32) (V : VT) : Option ((Int32 × Int32) ⊕ (Int32)) :=
  (some (v3 + 1)).bind fun a6 =>
  some (.inl (v2, a6))
def f_X12_weakest_B9 (v1 : Int32) (V : VT) (x : Int32 × Int32) : Option ((Int32 × Int32) ⊕ (Int32)) :=
  (f_X12_lineIs v1 (2 : Int32) V).bind fun r3 =>
  if r3 ≤ x.2 then ((some (x.1)).bind fun y4 => some (.inr y4)) else ((f_X12_lineIs v1 ((4 : Int32) + x.2) V).bind fun r5 =>
  if x.1 ≤ r5 then (f_X12_weakest_j40 v1 x.1 x.2 V) else ((f_X12_lineIs v1 ((4 : Int32) + x.2) V).bind fun r7 =>
  f_X12_weakest_j40 v1 r7 x.2 V))
def f_X12_weakest (v1 : Int32) (V : VT) : Option (Int32) :=
  (f_X12_lineIs v1 (4 : Int32) V).bind fun r1 =>
  (some (1 : Int32)).bind fun a2 =>
  lp (f_X12_weakest_B9 v1 V) fuel (r1, a2)
def f_X12_placeOn_B2 (v1 : Int32) (v2 : Int32) (V : VT) (x : Int32) : Option ((Int32) ⊕ (Int32)) :=
  (f_X12_places v1 V).bind fun r2 =>
  if r2 ≤ x then ((some ((-1 : Int32))).bind fun y3 => some (.inr y3)) else ((f_X12_held v1 x V).bind fun r4 =>
  if r4 = ((2 : Int32) + v2) then ((some (x)).bind fun y6 => some (.inr y6)) else ((some (x + 1)).bind fun a5 =>
  some (.inl (a5))))
def f_X12_placeOn (v1 : Int32) (v2 : Int32) (V : VT) : Option (Int32) :=
  (some (0 : Int32)).bind fun a1 =>
  lp (f_X12_placeOn_B2 v1 v2 V) fuel (a1)
def f_X12_barWith_j27 (v1 : Int32) (v2 : Int32) (V : VT) : Option ((Int32) ⊕ (Int32)) :=
  (some (v2 + 1)).bind fun a4 =>
  some (.inl (a4))
def f_X12_barWith_B2 (v1 : Int32) (V : VT) (x : Int32) : Option ((Int32) ⊕ (Int32)) :=
  if (12 : Int32) ≤ x then ((some ((-1000000000 : Int32))).bind fun y2 => some (.inr y2)) else ((f_X12_isRigged x V).bind fun r3 =>
  if r3 = 0 then (f_X12_barWith_j27 v1 x V) else ((f_X12_placeOn x v1 V).bind fun r5 =>
  if r5 < 0 then (f_X12_barWith_j27 v1 x V) else ((some (x)).bind fun y6 => some (.inr y6))))
def f_X12_barWith (v1 : Int32) (V : VT) : Option (Int32) :=
  (some (0 : Int32)).bind fun a1 =>
  lp (f_X12_barWith_B2 v1 V) fuel (a1)
def f_X12_burden (v1 : Int32) (V : VT) : Option (UInt32) :=
  (f_X12_thingIs v1 (3 : Int32) V).bind fun r1 =>
  (ckF (FP.fmul (FP.i2f r1) (1040187392 : UInt32))).bind fun w2 =>
  (f_X12_thingIs v1 (0 : Int32) V).bind fun r3 =>
  if r3 = (4 : Int32) then ((ckF (FP.fmul w2 (1056964608 : UInt32))).bind fun w4 =>
  some (w4)) else (some (w2))
def f_X12_grams (v1 : Int32) (V : VT) : Option (Int32) :=
  (f_X12_burden v1 V).bind fun r1 =>
  some ((FP.f2i r1))
def f_X12_loadOf_j38 (v1 : Int32) (v2 : UInt32) (v3 : Int32) (V : VT) : Option ((UInt32 × Int32) ⊕ (UInt32)) :=
  (some (v3 + 1)).bind fun a6 =>
  some (.inl (v2, a6))
def f_X12_loadOf_B4 (v1 : Int32) (V : VT) (x : UInt32 × Int32) : Option ((UInt32 × Int32) ⊕ (UInt32)) :=
  (f_X12_places v1 V).bind fun r3 =>
  if r3 ≤ x.2 then ((some (x.1)).bind fun y4 => some (.inr y4)) else ((f_X12_held v1 x.2 V).bind fun r5 =>
  if r5 < (2 : Int32) then (f_X12_loadOf_j38 v1 x.1 x.2 V) else ((f_X12_held v1 x.2 V).bind fun r7 =>
  (f_X12_burden (r7 - (2 : Int32)) V).bind fun r8 =>
  (ckF (FP.fadd x.1 r8)).bind fun w9 =>
  f_X12_loadOf_j38 v1 w9 x.2 V))
def f_X12_loadOf (v1 : Int32) (V : VT) : Option (UInt32) :=
  (some (FP.fconst0)).bind fun a1 =>
  (some (0 : Int32)).bind fun a2 =>
  lp (f_X12_loadOf_B4 v1 V) fuel (a1, a2)
def f_X12_isBalanced_j30 (V : VT) : Option (Int32) :=
  some ((0 : Int32))
def f_X12_isBalanced (v1 : Int32) (v2 : Int32) (V : VT) : Option (Int32) :=
  (f_X12_loadOf v1 V).bind fun r1 =>
  (ckF (FP.fmul (1148846080 : UInt32) (FP.i2f v2))).bind fun w2 =>
  (ckF (FP.fsub r1 w2)).bind fun w3 =>
  if (Op.cmpValue (FP.fcmp w3 (3296329728 : UInt32)) .l) ≤ 0 then (f_X12_isBalanced_j30 V) else (if 0 ≤ (Op.cmpValue (FP.fcmp w3 (1148846080 : UInt32)) .g) then (f_X12_isBalanced_j30 V) else (some ((1 : Int32))))
def f_X12_things_j29 (v1 : Int32) (v3 : Int32) (s0 : Int32) (s1 : Int32) (V : VT) : Option ((Int32 × Int32) ⊕ (Int32)) :=
  (some (s0 + s1)).bind fun a6 =>
  (some (v3 + 1)).bind fun a7 =>
  some (.inl (a6, a7))
def f_X12_things_B4 (v1 : Int32) (V : VT) (x : Int32 × Int32) : Option ((Int32 × Int32) ⊕ (Int32)) :=
  (f_X12_places v1 V).bind fun r3 =>
  if r3 ≤ x.2 then ((some (x.1)).bind fun y4 => some (.inr y4)) else ((f_X12_held v1 x.2 V).bind fun r5 =>
  if r5 < (2 : Int32) then (f_X12_things_j29 v1 x.2 x.1 (0 : Int32) V) else (f_X12_things_j29 v1 x.2 x.1 (1 : Int32) V))
def f_X12_things (v1 : Int32) (V : VT) : Option (Int32) :=
  (some (0 : Int32)).bind fun a1 =>
  (some (0 : Int32)).bind fun a2 =>
  lp (f_X12_things_B4 v1 V) fuel (a1, a2)
def f_X12_lines_j31 (v1 : Int32) (v3 : Int32) (s0 : Int32) (s1 : Int32) (V : VT) : Option ((Int32 × Int32) ⊕ (Int32)) :=
  (some (s0 + s1)).bind fun a6 =>
  (some (v3 + 1)).bind fun a7 =>
  some (.inl (a6, a7))
def f_X12_lines_B4 (v1 : Int32) (V : VT) (x : Int32 × Int32) : Option ((Int32 × Int32) ⊕ (Int32)) :=
  (ckA 1646 (1640 : Int32)).bind fun k3 =>
  if (V 0 k3) ≤ x.2 then ((some (x.1)).bind fun y4 => some (.inr y4)) else ((f_X12_holds x.2 v1 V).bind fun r5 =>
  if r5 = 0 then (f_X12_lines_j31 v1 x.2 x.1 (0 : Int32) V) else (f_X12_lines_j31 v1 x.2 x.1 (1 : Int32) V))
def f_X12_lines (v1 : Int32) (V : VT) : Option (Int32) :=
  (some (0 : Int32)).bind fun a1 =>
  (some (0 : Int32)).bind fun a2 =>
  lp (f_X12_lines_B4 v1 V) fuel (a1, a2)
def f_X12_nearest_j56 (v1 : Int32) (v3 : Int32) (v4 : Int32) (v5 : Int32) (V : VT) : Option ((Int32) ⊕ ((Int32) ⊕ (Int32))) :=
  (some (v5 + 1)).bind fun a8 =>
  some (.inl (a8))
def f_X12_nearest_B18 (v1 : Int32) (v3 : Int32) (v4 : Int32) (V : VT) (x : Int32) : Option ((Int32) ⊕ ((Int32) ⊕ (Int32))) :=
  (ckA 1646 (1640 : Int32)).bind fun k4 =>
  if (V 0 k4) ≤ x then (((some (v4 + v3)).bind fun a6 =>
  some (.inl (a6))).bind fun y5 => some (.inr y5)) else ((f_X12_holds x v1 V).bind fun r7 =>
  if r7 = 0 then (f_X12_nearest_j56 v1 v3 v4 x V) else ((f_X12_lineIs x (1 : Int32) V).bind fun r9 =>
  if r9 = v4 then ((some (v4)).bind fun y10 => some (.inr (.inr y10))) else (f_X12_nearest_j56 v1 v3 v4 x V)))
def f_X12_nearest_B3 (v1 : Int32) (v3 : Int32) (V : VT) (x : Int32) : Option ((Int32) ⊕ (Int32)) :=
  if x < 0 then ((some ((-1 : Int32))).bind fun y1 => some (.inr y1)) else (if (16 : Int32) ≤ x then ((some ((-1 : Int32))).bind fun y2 => some (.inr y2)) else ((some (0 : Int32)).bind fun a3 =>
  lp (f_X12_nearest_B18 v1 v3 x V) fuel (a3)))
def f_X12_nearest (v1 : Int32) (v2 : Int32) (v3 : Int32) (V : VT) : Option (Int32) :=
  lp (f_X12_nearest_B3 v1 v3 V) fuel (v2)
def f_X12_shareOf_j186 (v2 : Int32) (v3 : Int32) (v4 : Int64) (v6 : Int32) (V : VT) : Option ((Int64 × Int32) ⊕ (Int64)) :=
  (some (v6 + 1)).bind fun a13 =>
  some (.inl (v4, a13))
def f_X12_shareOf_j123 (v2 : Int32) (v3 : Int32) (v6 : Int32) (s0 : Int64) (s1 : Int64) (V : VT) : Option ((Int64 × Int32) ⊕ (Int64)) :=
  (some (s0 + s1)).bind fun a18 =>
  f_X12_shareOf_j186 v2 v3 a18 v6 V
def f_X12_shareOf_j102 (v2 : Int32) (v3 : Int32) (v4 : Int64) (v6 : Int32) (v7 : Int64) (v9 : Int32) (v10 : Int32) (V : VT) : Option ((Int64 × Int32) ⊕ (Int64)) :=
  if v9 = v10 then (if v3 = v9 then (f_X12_shareOf_j123 v2 v3 v6 v4 v7 V) else (f_X12_shareOf_j123 v2 v3 v6 v4 (0 : Int64) V)) else (if v3 = v9 then ((ckD (Int32.toInt64 (v10 - v9))).bind fun u16 =>
  (some (v4 + ((v7 / (Int32.toInt64 (v10 - v9))) * (Int32.toInt64 (v10 - v6))))).bind fun a17 =>
  f_X12_shareOf_j186 v2 v3 a17 v6 V) else (if v3 = v10 then ((ckD (Int32.toInt64 (v10 - v9))).bind fun u14 =>
  (some (v4 + ((v7 / (Int32.toInt64 (v10 - v9))) * (Int32.toInt64 (v6 - v9))))).bind fun a15 =>
  f_X12_shareOf_j186 v2 v3 a15 v6 V) else (f_X12_shareOf_j186 v2 v3 v4 v6 V)))
def f_X12_shareOf_j93 (v2 : Int32) (v3 : Int32) (v4 : Int64) (v6 : Int32) (v7 : Int64) (v9 : Int32) (v10 : Int32) (V : VT) : Option ((Int64 × Int32) ⊕ (Int64)) :=
  if 0 ≤ v10 then (f_X12_shareOf_j102 v2 v3 v4 v6 v7 v9 v10 V) else (f_X12_shareOf_j102 v2 v3 v4 v6 v7 v9 v9 V)
def f_X12_shareOf_B20 (v2 : Int32) (v3 : Int32) (V : VT) (x : Int64 × Int32) : Option ((Int64 × Int32) ⊕ (Int64)) :=
  (f_X12_places v2 V).bind fun r5 =>
  if r5 ≤ x.2 then ((some (x.1)).bind fun y6 => some (.inr y6)) else ((f_X12_held v2 x.2 V).bind fun r7 =>
  if (2 : Int32) ≤ r7 then ((f_X12_held v2 x.2 V).bind fun r8 =>
  (f_X12_grams (r8 - (2 : Int32)) V).bind fun r9 =>
  (some ((360360 : Int64) * (Int32.toInt64 r9))).bind fun a10 =>
  (f_X12_nearest v2 x.2 (-1 : Int32) V).bind fun r11 =>
  (f_X12_nearest v2 x.2 (1 : Int32) V).bind fun r12 =>
  if 0 ≤ r11 then (f_X12_shareOf_j93 v2 v3 x.1 x.2 a10 r11 r12 V) else (f_X12_shareOf_j93 v2 v3 x.1 x.2 a10 r12 r12 V)) else (f_X12_shareOf_j186 v2 v3 x.1 x.2 V))
def f_X12_shareOf (v1 : Int32) (V : VT) : Option (Int64) :=
  (f_X12_lineIs v1 (0 : Int32) V).bind fun r1 =>
  (f_X12_lineIs v1 (1 : Int32) V).bind fun r2 =>
  (some (0 : Int64)).bind fun a3 =>
  (some (0 : Int32)).bind fun a4 =>
  lp (f_X12_shareOf_B20 r1 r2 V) fuel (a3, a4)
def f_X12_isHeld_j207 (V : VT) : Option (Int32) :=
  some ((0 : Int32))
def f_X12_isHeld_j178 (v1 : Int32) (v3 : Int64) (v5 : Int64) (v7 : Int32) (v8 : Int32) (V : VT) : Option ((Int64 × Int64 × Int32) ⊕ (Int32)) :=
  (some (v8 + 1)).bind fun a20 =>
  some (.inl (v3, v5, a20))
def f_X12_isHeld_B106 (v1 : Int32) (v7 : Int32) (V : VT) (x : Int64 × Int64 × Int32) : Option ((Int64 × Int64 × Int32) ⊕ (Int32)) :=
  (f_X12_places v1 V).bind fun r9 =>
  if r9 ≤ x.2.2 then (((f_X12_weakest v7 V).bind fun r11 =>
  if 0 < (lg_cmp x.1 (Int32.toInt64 r11)) then (f_X12_isHeld_j207 V) else (if (lg_cmp x.2.1 (0 : Int64)) = 0 then (some ((1 : Int32))) else (f_X12_isHeld_j207 V))).bind fun y10 => some (.inr y10)) else ((f_X12_held v1 x.2.2 V).bind fun r12 =>
  if (2 : Int32) ≤ r12 then ((f_X12_held v1 x.2.2 V).bind fun r13 =>
  (f_X12_grams (r13 - (2 : Int32)) V).bind fun r14 =>
  (some (x.1 + (Int32.toInt64 r14))).bind fun a15 =>
  (f_X12_held v1 x.2.2 V).bind fun r16 =>
  (f_X12_grams (r16 - (2 : Int32)) V).bind fun r17 =>
  (f_X12_lineIs v7 (1 : Int32) V).bind fun r18 =>
  (some (x.2.1 + ((Int32.toInt64 r17) * (Int32.toInt64 (x.2.2 - r18))))).bind fun a19 =>
  f_X12_isHeld_j178 v1 a15 a19 v7 x.2.2 V) else (f_X12_isHeld_j178 v1 x.1 x.2.1 v7 x.2.2 V))
def f_X12_isHeld_B87 (v1 : Int32) (v3 : Int64) (v5 : Int64) (V : VT) (x : Int32) : Option ((Int32) ⊕ (Int32)) :=
  (f_X12_holds x v1 V).bind fun r6 =>
  if r6 = 0 then ((some (x + 1)).bind fun a21 =>
  some (.inl (a21))) else (((some (0 : Int32)).bind fun a8 =>
  lp (f_X12_isHeld_B106 v1 x V) fuel (v3, v5, a8)).bind fun y7 => some (.inr y7))
def f_X12_isHeld_j71 (v1 : Int32) (v3 : Int32) (V : VT) : Option ((Int32) ⊕ (Int32)) :=
  (some (v3 + 1)).bind fun a26 =>
  some (.inl (a26))
def f_X12_isHeld_B29 (v1 : Int32) (V : VT) (x : Int32) : Option ((Int32) ⊕ (Int32)) :=
  (ckA 1646 (1640 : Int32)).bind fun k23 =>
  if (V 0 k23) ≤ x then ((some ((1 : Int32))).bind fun y24 => some (.inr y24)) else ((f_X12_holds x v1 V).bind fun r25 =>
  if r25 = 0 then (f_X12_isHeld_j71 v1 x V) else ((f_X12_shareOf x V).bind fun r27 =>
  (f_X12_weakest x V).bind fun r28 =>
  if (lg_cmp r27 ((360360 : Int64) * (Int32.toInt64 r28))) ≤ 0 then (f_X12_isHeld_j71 v1 x V) else ((some ((0 : Int32))).bind fun y29 => some (.inr y29))))
def f_X12_isHeld (v1 : Int32) (V : VT) : Option (Int32) :=
  (f_X12_things v1 V).bind fun r1 =>
  if r1 = 0 then (some ((1 : Int32))) else ((f_X12_lines v1 V).bind fun r2 =>
  if r2 = 0 then (some ((0 : Int32))) else (if r2 ≤ (1 : Int32) then ((some (0 : Int64)).bind fun a3 =>
  (some (0 : Int64)).bind fun a4 =>
  (some (0 : Int32)).bind fun a5 =>
  lp (f_X12_isHeld_B87 v1 a3 a4 V) fuel (a5)) else ((some (0 : Int32)).bind fun a22 =>
  lp (f_X12_isHeld_B29 v1 V) fuel (a22))))
def f_X12_clash_j183 (V : VT) : Option (Int32) :=
  some ((0 : Int32))
def f_X12_clash_j151 (v2 : Int32) (v4 : Int32) (v6 : Int32) (v7 : Int32) (V : VT) : Option (Int32) :=
  (f_X12_thingIs v6 (2 : Int32) V).bind fun r13 =>
  if v4 ≤ (v2 - r13) then (f_X12_clash_j183 V) else ((f_X12_thingIs v7 (2 : Int32) V).bind fun r14 =>
  if v2 ≤ (v4 - r14) then (f_X12_clash_j183 V) else (some ((1 : Int32))))
def f_X12_clash_j128 (v2 : Int32) (v4 : Int32) (v6 : Int32) (v7 : Int32) (v8 : Int32) (v9 : Int32) (s0 : Int32) (V : VT) : Option (Int32) :=
  if v8 < v9 then (some ((0 : Int32))) else (if v8 = v9 then (if s0 = 0 then (some ((0 : Int32))) else (f_X12_clash_j151 v2 v4 v6 v7 V)) else (f_X12_clash_j151 v2 v4 v6 v7 V))
def f_X12_clash_j123 (v2 : Int32) (v4 : Int32) (v6 : Int32) (v7 : Int32) (v8 : Int32) (v9 : Int32) (V : VT) : Option (Int32) :=
  f_X12_clash_j128 v2 v4 v6 v7 v8 v9 (1 : Int32) V
def f_X12_clash_j96 (v2 : Int32) (v4 : Int32) (v6 : Int32) (v7 : Int32) (v8 : Int32) (s1 : Int32) (V : VT) : Option (Int32) :=
  (f_X12_gap s1 V).bind fun r11 =>
  (f_X12_thingIs v6 (0 : Int32) V).bind fun r12 =>
  if (3 : Int32) ≤ r12 then (f_X12_clash_j123 v2 v4 v6 v7 v8 r11 V) else ((f_X12_thingIs v7 (0 : Int32) V).bind fun r15 =>
  if r15 < (3 : Int32) then (f_X12_clash_j128 v2 v4 v6 v7 v8 r11 (0 : Int32) V) else (f_X12_clash_j123 v2 v4 v6 v7 v8 r11 V))
def f_X12_clash (v1 : Int32) (v2 : Int32) (v3 : Int32) (v4 : Int32) (v5 : Int32) (V : VT) : Option (Int32) :=
  (f_X12_isBar v3 V).bind fun r1 =>
  if r1 = 0 then (some ((0 : Int32))) else ((f_X12_isRigged v3 V).bind fun r2 =>
  if r2 = 0 then (some ((0 : Int32))) else ((f_X12_isPlace v3 v5 V).bind fun r3 =>
  if r3 = 0 then (some ((0 : Int32))) else ((f_X12_held v1 v5 V).bind fun r4 =>
  (some (r4 - (2 : Int32))).bind fun a5 =>
  (f_X12_held v3 v5 V).bind fun r6 =>
  (some (r6 - (2 : Int32))).bind fun a7 =>
  if a5 < 0 then (some ((0 : Int32))) else (if a7 < 0 then (some ((0 : Int32))) else (if a5 = a7 then (some ((0 : Int32))) else ((f_X12_thingIs a5 (1 : Int32) V).bind fun r8 =>
  (f_X12_thingIs a7 (1 : Int32) V).bind fun r9 =>
  (some (r8 + r9)).bind fun a10 =>
  if v3 ≤ v1 then (f_X12_clash_j96 v2 v4 a5 a7 a10 v3 V) else (f_X12_clash_j96 v2 v4 a5 a7 a10 v1 V)))))))
def f_X12_clashing_j76 (v1 : Int32) (v2 : Int32) (v3 : Int32) (v4 : Int32) (V : VT) : Option ((Int32 × Int32) ⊕ (Int32)) :=
  (some (v4 + 2)).bind fun a5 =>
  some (.inl (v3, a5))
def f_X12_clashing_j75 (v1 : Int32) (v2 : Int32) (v4 : Int32) (s0 : Int32) (V : VT) : Option ((Int32 × Int32) ⊕ (Int32)) :=
  f_X12_clashing_j76 v1 v2 s0 v4 V
def f_X12_clashing_j69 (v1 : Int32) (v2 : Int32) (v4 : Int32) (v5 : Int32) (V : VT) : Option ((Int32 × Int32) ⊕ (Int32)) :=
  f_X12_clashing_j75 v1 v2 v4 v5 V
def f_X12_clashing_B7 (v1 : Int32) (v2 : Int32) (V : VT) (x : Int32 × Int32) : Option ((Int32 × Int32) ⊕ (Int32)) :=
  if (v1 + (1 : Int32)) < x.2 then ((some (x.1)).bind fun y3 => some (.inr y3)) else ((f_X12_isBar x.2 V).bind fun r4 =>
  if r4 = 0 then (f_X12_clashing_j76 v1 v2 x.1 x.2 V) else ((f_X12_height v1 V).bind fun r6 =>
  (f_X12_height x.2 V).bind fun r7 =>
  (f_X12_clash v1 r6 x.2 r7 v2 V).bind fun r8 =>
  if r8 = 0 then (f_X12_clashing_j76 v1 v2 x.1 x.2 V) else ((f_X12_held x.2 v2 V).bind fun r9 =>
  (some (r9 - (2 : Int32))).bind fun a10 =>
  if x.1 < 0 then (f_X12_clashing_j69 v1 v2 x.2 a10 V) else (if x.1 ≤ a10 then (f_X12_clashing_j75 v1 v2 x.2 x.1 V) else (f_X12_clashing_j69 v1 v2 x.2 a10 V)))))
def f_X12_clashing (v1 : Int32) (v2 : Int32) (V : VT) : Option (Int32) :=
  (some (-1 : Int32)).bind fun a1 =>
  (some (v1 - (1 : Int32))).bind fun a2 =>
  lp (f_X12_clashing_B7 v1 v2 V) fuel (a1, a2)
def f_X12_lesser (v0 : Int32) (v1 : Int32) (V : VT) : Option (Int32) :=
  if 0 ≤ v0 then (if 0 ≤ v1 then (if v1 ≤ v0 then (some (v1)) else (some (v0))) else (some (v0))) else (some (v1))
def f_X12_isHot_j23 (V : VT) : Option (Int32) :=
  some ((0 : Int32))
def f_X12_isHot (v1 : Int32) (V : VT) : Option (Int32) :=
  (f_X12_thingIs v1 (0 : Int32) V).bind fun r1 =>
  if r1 = (2 : Int32) then ((f_X12_thingIs v1 (4 : Int32) V).bind fun r2 =>
  if r2 ≤ 0 then (f_X12_isHot_j23 V) else (some ((1 : Int32)))) else (f_X12_isHot_j23 V)
def f_X12_scorched_j147 (v1 : Int32) (v2 : Int32) (V : VT) : Option ((Int32 × Int32) ⊕ (Int32)) :=
  (some (v2 + 1)).bind fun a7 =>
  some (.inl (v1, a7))
def f_X12_scorched_j141 (v1 : Int32) (v2 : Int32) (v3 : Int32) (V : VT) : Option ((Int32 × Int32) ⊕ ((Int32 × Int32) ⊕ (Int32))) :=
  (some (v3 + 1)).bind fun a12 =>
  some (.inl (v1, a12))
def f_X12_scorched_j121 (v1 : Int32) (v2 : Int32) (v3 : Int32) (v4 : Int32) (v6 : Int32) (s0 : Int32) (V : VT) : Option ((Int32 × Int32) ⊕ ((Int32 × Int32) ⊕ ((Int32 × Int32) ⊕ (Int32)))) :=
  (some (v6 + 1)).bind fun a18 =>
  some (.inl (s0, a18))
def f_X12_scorched_j116 (v1 : Int32) (v2 : Int32) (v3 : Int32) (v4 : Int32) (v6 : Int32) (V : VT) : Option ((Int32 × Int32) ⊕ ((Int32 × Int32) ⊕ ((Int32 × Int32) ⊕ (Int32)))) :=
  f_X12_scorched_j121 v1 v2 v3 v4 v6 (1 : Int32) V
def f_X12_scorched_j120 (v1 : Int32) (v2 : Int32) (v3 : Int32) (v4 : Int32) (v6 : Int32) (V : VT) : Option ((Int32 × Int32) ⊕ ((Int32 × Int32) ⊕ ((Int32 × Int32) ⊕ (Int32)))) :=
  f_X12_scorched_j121 v1 v2 v3 v4 v6 (0 : Int32) V
def f_X12_scorched_B66 (v1 : Int32) (v2 : Int32) (v3 : Int32) (v4 : Int32) (V : VT) (x : Int32 × Int32) : Option ((Int32 × Int32) ⊕ ((Int32 × Int32) ⊕ ((Int32 × Int32) ⊕ (Int32)))) :=
  if (v3 + (2 : Int32)) < x.2 then ((if x.1 = 0 then (f_X12_scorched_j141 v1 v2 v3 V) else ((f_X12_lesser v1 v4 V).bind fun r17 =>
  f_X12_scorched_j141 r17 v2 v3 V)).bind fun y16 => some (.inr y16)) else (if x.1 = 0 then ((f_X12_isPlace v2 x.2 V).bind fun r19 =>
  if r19 = 0 then (f_X12_scorched_j120 v1 v2 v3 v4 x.2 V) else ((f_X12_held v2 x.2 V).bind fun r20 =>
  if r20 < (2 : Int32) then (f_X12_scorched_j120 v1 v2 v3 v4 x.2 V) else ((f_X12_held v2 x.2 V).bind fun r21 =>
  (f_X12_isHot (r21 - (2 : Int32)) V).bind fun r22 =>
  if r22 = 0 then (f_X12_scorched_j120 v1 v2 v3 v4 x.2 V) else (f_X12_scorched_j116 v1 v2 v3 v4 x.2 V)))) else (f_X12_scorched_j116 v1 v2 v3 v4 x.2 V))
def f_X12_scorched_B12 (v2 : Int32) (V : VT) (x : Int32 × Int32) : Option ((Int32 × Int32) ⊕ ((Int32 × Int32) ⊕ (Int32))) :=
  (f_X12_places v2 V).bind fun r5 =>
  if r5 ≤ x.2 then ((f_X12_scorched_j147 x.1 v2 V).bind fun y6 => some (.inr y6)) else ((f_X12_isRigged v2 V).bind fun r8 =>
  if r8 = 0 then ((f_X12_scorched_j147 x.1 v2 V).bind fun y9 => some (.inr y9)) else ((f_X12_held v2 x.2 V).bind fun r10 =>
  (some (r10 - (2 : Int32))).bind fun a11 =>
  if a11 < 0 then (f_X12_scorched_j141 x.1 v2 x.2 V) else ((f_X12_thingIs a11 (0 : Int32) V).bind fun r13 =>
  if r13 ≤ (1 : Int32) then ((some (0 : Int32)).bind fun a14 =>
  (some (x.2 - (2 : Int32))).bind fun a15 =>
  lp (f_X12_scorched_B66 x.1 v2 x.2 a11 V) fuel (a14, a15)) else (f_X12_scorched_j141 x.1 v2 x.2 V))))
def f_X12_scorched_B4 (V : VT) (x : Int32 × Int32) : Option ((Int32 × Int32) ⊕ (Int32)) :=
  if (12 : Int32) ≤ x.2 then ((some (x.1)).bind fun y3 => some (.inr y3)) else ((some (0 : Int32)).bind fun a4 =>
  lp (f_X12_scorched_B12 x.2 V) fuel (x.1, a4))
def f_X12_scorched (V : VT) : Option (Int32) :=
  (some (-1 : Int32)).bind fun a1 =>
  (some (0 : Int32)).bind fun a2 =>
  lp (f_X12_scorched_B4 V) fuel (a1, a2)
def f_X12_isJoined_j91 (v1 : Int32) (v2 : Int32) (V : VT) : Option ((Int32) ⊕ (Int32)) :=
  (some (v2 + 1)).bind fun a10 =>
  some (.inl (a10))
def f_X12_isJoined_B32 (v1 : Int32) (V : VT) (x : Int32) : Option ((Int32) ⊕ (Int32)) :=
  (f_X12_places v1 V).bind fun r4 =>
  if r4 ≤ x then ((some ((0 : Int32))).bind fun y5 => some (.inr y5)) else ((f_X12_places (v1 + (1 : Int32)) V).bind fun r6 =>
  if r6 ≤ x then ((some ((0 : Int32))).bind fun y7 => some (.inr y7)) else ((f_X12_held v1 x V).bind fun r8 =>
  (some (r8 - (2 : Int32))).bind fun a9 =>
  if a9 < 0 then (f_X12_isJoined_j91 v1 x V) else ((f_X12_thingIs a9 (0 : Int32) V).bind fun r11 =>
  if r11 = (4 : Int32) then ((f_X12_held (v1 + (1 : Int32)) x V).bind fun r12 =>
  if r12 = ((2 : Int32) + a9) then ((some ((1 : Int32))).bind fun y13 => some (.inr y13)) else (f_X12_isJoined_j91 v1 x V)) else (f_X12_isJoined_j91 v1 x V))))
def f_X12_isJoined (v1 : Int32) (V : VT) : Option (Int32) :=
  if v1 < 0 then (some ((0 : Int32))) else (if (10 : Int32) < v1 then (some ((0 : Int32))) else ((f_X12_isRigged v1 V).bind fun r1 =>
  if r1 = 0 then (some ((0 : Int32))) else ((f_X12_isRigged (v1 + (1 : Int32)) V).bind fun r2 =>
  if r2 = 0 then (some ((0 : Int32))) else ((some (0 : Int32)).bind fun a3 =>
  lp (f_X12_isJoined_B32 v1 V) fuel (a3)))))
def f_X12_firstOfGroup_B2 (V : VT) (x : Int32) : Option ((Int32) ⊕ (Int32)) :=
  (f_X12_isJoined (x - (1 : Int32)) V).bind fun r1 =>
  if r1 = 0 then ((some (x)).bind fun y2 => some (.inr y2)) else ((some (x + (-1))).bind fun a3 =>
  some (.inl (a3)))
def f_X12_firstOfGroup (v1 : Int32) (V : VT) : Option (Int32) :=
  lp (f_X12_firstOfGroup_B2 V) fuel (v1)
def f_X12_lastOfGroup_B2 (V : VT) (x : Int32) : Option ((Int32) ⊕ (Int32)) :=
  (f_X12_isJoined x V).bind fun r1 =>
  if r1 = 0 then ((some (x)).bind fun y2 => some (.inr y2)) else ((some (x + 1)).bind fun a3 =>
  some (.inl (a3)))
def f_X12_lastOfGroup (v1 : Int32) (V : VT) : Option (Int32) :=
  lp (f_X12_lastOfGroup_B2 V) fuel (v1)
def f_X12_cueIs (v1 : Int32) (v2 : Int32) (V : VT) : Option (Int32) :=
  (ckA 1646 (((1132 : Int32) + ((5 : Int32) * v1)) + v2)).bind fun k1 =>
  some ((V 0 k1))
def f_X12_runs_j54 (V : VT) : Option (Int32) :=
  some ((0 : Int32))
def f_X12_runs (v1 : Int32) (V : VT) : Option (Int32) :=
  (f_X12_cueIs v1 (4 : Int32) V).bind fun r1 =>
  if r1 = 0 then ((ckA 1646 (1645 : Int32)).bind fun k2 =>
  (f_X12_cueIs v1 (2 : Int32) V).bind fun r3 =>
  if (V 0 k2) < r3 then (f_X12_runs_j54 V) else ((ckA 1646 (1645 : Int32)).bind fun k4 =>
  (f_X12_cueIs v1 (2 : Int32) V).bind fun r5 =>
  (f_X12_cueIs v1 (3 : Int32) V).bind fun r6 =>
  if (r5 + r6) ≤ (V 0 k4) then (f_X12_runs_j54 V) else (some ((1 : Int32))))) else (f_X12_runs_j54 V)
def f_X12_isNotOver_j37 (V : VT) : Option (Int32) :=
  some ((0 : Int32))
def f_X12_isNotOver (v1 : Int32) (V : VT) : Option (Int32) :=
  (f_X12_cueIs v1 (4 : Int32) V).bind fun r1 =>
  if r1 = 0 then ((ckA 1646 (1645 : Int32)).bind fun k2 =>
  (f_X12_cueIs v1 (2 : Int32) V).bind fun r3 =>
  (f_X12_cueIs v1 (3 : Int32) V).bind fun r4 =>
  if (r3 + r4) ≤ (V 0 k2) then (f_X12_isNotOver_j37 V) else (some ((1 : Int32)))) else (f_X12_isNotOver_j37 V)
def f_X12_running_j34 (v1 : Int32) (v2 : Int32) (V : VT) : Option ((Int32) ⊕ (Int32)) :=
  (some (v2 + 1)).bind fun a5 =>
  some (.inl (a5))
def f_X12_running_B2 (v1 : Int32) (V : VT) (x : Int32) : Option ((Int32) ⊕ (Int32)) :=
  (ckA 1646 (1642 : Int32)).bind fun k2 =>
  if (V 0 k2) ≤ x then ((some ((-1 : Int32))).bind fun y3 => some (.inr y3)) else ((f_X12_cueIs x (0 : Int32) V).bind fun r4 =>
  if r4 = v1 then ((f_X12_runs x V).bind fun r6 =>
  if r6 = 0 then (f_X12_running_j34 v1 x V) else ((some (x)).bind fun y7 => some (.inr y7))) else (f_X12_running_j34 v1 x V))
def f_X12_running (v1 : Int32) (V : VT) : Option (Int32) :=
  (some (0 : Int32)).bind fun a1 =>
  lp (f_X12_running_B2 v1 V) fuel (a1)
def f_X12_note_j84 (v1 : Int32) (v2 : Int32) (v3 : Int32) (v4 : Int32) (s0 : Int32) (s1 : Int32) (s2 : Int32) (V : VT) : Option (VT) :=
  (some (s0 + (s1 * s2))).bind fun a3 =>
  (ckA 1646 (1645 : Int32)).bind fun k4 =>
  (ckA 1646 a3).bind fun k5 =>
  (ckA 1646 (a3 + (1 : Int32))).bind fun k6 =>
  (ckA 1646 (a3 + (2 : Int32))).bind fun k7 =>
  (ckA 1646 (a3 + (3 : Int32))).bind fun k8 =>
  (ckA 1646 (a3 + (4 : Int32))).bind fun k9 =>
  (ckA 1646 (1643 : Int32)).bind fun k10 =>
  (ckA 1646 (1643 : Int32)).bind fun k11 =>
  some ((u2 (u2 (u2 (u2 (u2 (u2 V 0 k5 (V 0 k4)) 0 k6 v1) 0 k7 v2) 0 k8 v3) 0 k9 v4) 0 k11 (((u2 (u2 (u2 (u2 (u2 V 0 k5 (V 0 k4)) 0 k6 v1) 0 k7 v2) 0 k8 v3) 0 k9 v4) 0 k10) + (1 : Int32))))
def f_X12_note_j54 (v1 : Int32) (v2 : Int32) (v3 : Int32) (v4 : Int32) (V : VT) : Option (VT) :=
  (ckA 1646 (1643 : Int32)).bind fun k2 =>
  if (40 : Int32) ≤ (V 0 k2) then (f_X12_note_j84 v1 v2 v3 v4 (1440 : Int32) (5 : Int32) (39 : Int32) V) else ((ckA 1646 (1643 : Int32)).bind fun k12 =>
  f_X12_note_j84 v1 v2 v3 v4 (1440 : Int32) (5 : Int32) (V 0 k12) V)
def f_X12_note_B16 (v1 : Int32) (v2 : Int32) (v3 : Int32) (v4 : Int32) (x : Int32 × VT) : Option ((Int32 × VT) ⊕ (VT)) :=
  if (195 : Int32) ≤ x.1 then ((f_X12_note_j54 v1 v2 v3 v4 x.2).bind fun y14 => some (.inr y14)) else ((ckA 1646 (((1440 : Int32) + x.1) + (5 : Int32))).bind fun k15 =>
  (ckA 1646 ((1440 : Int32) + x.1)).bind fun k16 =>
  (some (x.1 + 1)).bind fun a17 =>
  some (.inl (a17, (u2 x.2 0 k16 (x.2 0 k15)))))
def f_X12_note (v1 : Int32) (v2 : Int32) (v3 : Int32) (v4 : Int32) (V : VT) : Option (VT) :=
  (ckA 1646 (1643 : Int32)).bind fun k1 =>
  if (V 0 k1) < (40 : Int32) then (f_X12_note_j54 v1 v2 v3 v4 V) else ((some (0 : Int32)).bind fun a13 =>
  lp (f_X12_note_B16 v1 v2 v3 v4) fuel (a13, V))
def f_X12_stops_j230 (v1 : Int32) (v2 : Int32) (v3 : Int32) (v4 : Int32) (v5 : Int32) (v6 : Int32) (V : VT) : Option ((Int32) ⊕ ((Int32) ⊕ ((Int32) ⊕ (Int32 × VT)))) :=
  (some (v6 + 2)).bind fun a13 =>
  some (.inl (a13))
def f_X12_stops_B160 (v1 : Int32) (v2 : Int32) (v3 : Int32) (v4 : Int32) (v5 : Int32) (V : VT) (x : Int32) : Option ((Int32) ⊕ ((Int32) ⊕ ((Int32) ⊕ (Int32 × VT)))) :=
  if (v4 + (1 : Int32)) < x then (((some (v5 + 1)).bind fun a11 =>
  some (.inl (a11))).bind fun y10 => some (.inr y10)) else ((f_X12_in x v1 v2 V).bind fun r12 =>
  if r12 = 0 then ((f_X12_isBar x V).bind fun r14 =>
  if r14 = 0 then (f_X12_stops_j230 v1 v2 v3 v4 v5 x V) else ((f_X12_height v4 V).bind fun r15 =>
  (f_X12_height x V).bind fun r16 =>
  (f_X12_clash v4 (r15 + v3) x r16 v5 V).bind fun r17 =>
  if r17 = 0 then (f_X12_stops_j230 v1 v2 v3 v4 v5 x V) else (((f_X12_note (4 : Int32) v4 x v5 V).bind fun r19 =>
  some ((1 : Int32), r19)).bind fun y18 => some (.inr (.inr (.inr y18)))))) else (f_X12_stops_j230 v1 v2 v3 v4 v5 x V))
def f_X12_stops_B143 (v1 : Int32) (v2 : Int32) (v3 : Int32) (v4 : Int32) (V : VT) (x : Int32) : Option ((Int32) ⊕ ((Int32) ⊕ (Int32 × VT))) :=
  (f_X12_places v4 V).bind fun r6 =>
  if r6 ≤ x then (((some (v4 + 1)).bind fun a8 =>
  some (.inl (a8))).bind fun y7 => some (.inr y7)) else ((some (v4 - (1 : Int32))).bind fun a9 =>
  lp (f_X12_stops_B160 v1 v2 v3 v4 x V) fuel (a9))
def f_X12_stops_B134 (v1 : Int32) (v2 : Int32) (v3 : Int32) (V : VT) (x : Int32) : Option ((Int32) ⊕ (Int32 × VT)) :=
  if v2 < x then ((some ((0 : Int32), V)).bind fun y4 => some (.inr y4)) else ((some (0 : Int32)).bind fun a5 =>
  lp (f_X12_stops_B143 v1 v2 v3 x V) fuel (a5))
def f_X12_stops_B97 (v1 : Int32) (v2 : Int32) (v3 : Int32) (V : VT) (x : Int32) : Option ((Int32) ⊕ (Int32 × VT)) :=
  if v2 < x then ((lp (f_X12_stops_B134 v1 v2 v3 V) fuel (v1)).bind fun y3 => some (.inr y3)) else ((f_X12_isHeld x V).bind fun r20 =>
  if r20 = 0 then (((f_X12_note (3 : Int32) x (-1000000000 : Int32) (-1000000000 : Int32) V).bind fun r23 =>
  some ((1 : Int32), r23)).bind fun y22 => some (.inr y22)) else ((some (x + 1)).bind fun a21 =>
  some (.inl (a21))))
def f_X12_stops_B48 (v1 : Int32) (v2 : Int32) (v3 : Int32) (V : VT) (x : Int32) : Option ((Int32) ⊕ (Int32 × VT)) :=
  if v2 < x then ((lp (f_X12_stops_B97 v1 v2 v3 V) fuel (v1)).bind fun y2 => some (.inr y2)) else ((f_X12_bar0 x V).bind fun r24 =>
  (ckA 1646 (r24 + (4 : Int32))).bind fun k25 =>
  (f_X12_isBalanced x (V 0 k25) V).bind fun r26 =>
  if r26 = 0 then (((f_X12_note (2 : Int32) x (-1000000000 : Int32) (-1000000000 : Int32) V).bind fun r29 =>
  some ((1 : Int32), r29)).bind fun y28 => some (.inr y28)) else ((some (x + 1)).bind fun a27 =>
  some (.inl (a27))))
def f_X12_stops_B3 (v1 : Int32) (v2 : Int32) (v3 : Int32) (V : VT) (x : Int32) : Option ((Int32) ⊕ (Int32 × VT)) :=
  if v2 < x then ((lp (f_X12_stops_B48 v1 v2 v3 V) fuel (v1)).bind fun y1 => some (.inr y1)) else ((f_X12_height x V).bind fun r30 =>
  (f_X12_in (r30 + v3) (0 : Int32) (100 : Int32) V).bind fun r31 =>
  if r31 = 0 then (((f_X12_note (1 : Int32) x (-1000000000 : Int32) (-1000000000 : Int32) V).bind fun r34 =>
  some ((1 : Int32), r34)).bind fun y33 => some (.inr y33)) else ((some (x + 1)).bind fun a32 =>
  some (.inl (a32))))
def f_X12_stops (v1 : Int32) (v2 : Int32) (v3 : Int32) (V : VT) : Option (Int32 × VT) :=
  lp (f_X12_stops_B3 v1 v2 v3 V) fuel (v1)
def f_X12_tick_j248 (v1 : Int32) (v2 : Int32) (V : VT) : Option ((Int32 × Int32 × VT) ⊕ (Int32 × VT)) :=
  some (.inl (v1, v2, V))
def f_X12_tick_j242 (v1 : Int32) (v2 : Int32) (v3 : Int32) (v4 : Int32) (v8 : Int32) (v9 : Int32) (V : VT) : Option ((Int32 × VT) ⊕ ((Int32 × Int32 × VT) ⊕ (Int32 × VT))) :=
  (some (v9 + 1)).bind fun a20 =>
  some (.inl (a20, V))
def f_X12_tick_B183 (v1 : Int32) (v2 : Int32) (v3 : Int32) (v4 : Int32) (v8 : Int32) (x : Int32 × VT) : Option ((Int32 × VT) ⊕ ((Int32 × Int32 × VT) ⊕ (Int32 × VT))) :=
  (ckA 1646 (1642 : Int32)).bind fun k15 =>
  if (x.2 0 k15) ≤ x.1 then ((f_X12_tick_j248 v1 v2 x.2).bind fun y16 => some (.inr y16)) else (if v8 = 0 then ((f_X12_tick_j248 v1 v2 x.2).bind fun y17 => some (.inr y17)) else ((f_X12_cueIs x.1 (0 : Int32) x.2).bind fun r18 =>
  (f_X12_in r18 v3 v4 x.2).bind fun r19 =>
  if r19 = 0 then (f_X12_tick_j242 v1 v2 v3 v4 v8 x.1 x.2) else ((f_X12_runs x.1 x.2).bind fun r21 =>
  if r21 = 0 then (f_X12_tick_j242 v1 v2 v3 v4 v8 x.1 x.2) else ((ckA 1646 (((1132 : Int32) + ((5 : Int32) * x.1)) + (4 : Int32))).bind fun k22 =>
  f_X12_tick_j242 v1 v2 v3 v4 v8 x.1 (u2 x.2 0 k22 (1 : Int32))))))
def f_X12_tick_j180 (v1 : Int32) (v2 : Int32) (v3 : Int32) (v4 : Int32) (v8 : Int32) (V : VT) : Option ((Int32 × Int32 × VT) ⊕ (Int32 × VT)) :=
  (some (0 : Int32)).bind fun a14 =>
  lp (f_X12_tick_B183 v1 v2 v3 v4 v8) fuel (a14, V)
def f_X12_tick_j174 (v1 : Int32) (v2 : Int32) (v3 : Int32) (v4 : Int32) (v6 : Int32) (v7 : Int32) (v8 : Int32) (v9 : Int32) (V : VT) : Option ((Int32 × Int32 × Int32 × VT) ⊕ ((Int32 × Int32 × VT) ⊕ (Int32 × VT))) :=
  (some (v9 + 1)).bind fun a27 =>
  some (.inl (v1, v8, a27, V))
def f_X12_tick_B141 (v1 : Int32) (v2 : Int32) (v3 : Int32) (v4 : Int32) (v6 : Int32) (v7 : Int32) (v8 : Int32) (v9 : Int32) (x : Int32 × VT) : Option ((Int32 × VT) ⊕ ((Int32 × Int32 × Int32 × VT) ⊕ ((Int32 × Int32 × VT) ⊕ (Int32 × VT)))) :=
  if v4 < x.1 then (((some (v1 + 1)).bind fun a26 =>
  f_X12_tick_j174 a26 v2 v3 v4 v6 v7 v8 v9 x.2).bind fun y25 => some (.inr y25)) else ((f_X12_bar0 x.1 x.2).bind fun r28 =>
  (ckA 1646 (r28 + (3 : Int32))).bind fun k29 =>
  (ckA 1646 (r28 + (3 : Int32))).bind fun k30 =>
  (some (x.1 + 1)).bind fun a31 =>
  some (.inl (a31, (u2 x.2 0 k30 ((x.2 0 k29) + v7)))))
def f_X12_tick_B104 (v2 : Int32) (v3 : Int32) (v4 : Int32) (v6 : Int32) (v7 : Int32) (x : Int32 × Int32 × Int32 × VT) : Option ((Int32 × Int32 × Int32 × VT) ⊕ ((Int32 × Int32 × VT) ⊕ (Int32 × VT))) :=
  if (v6 * v7) ≤ x.2.2.1 then ((f_X12_tick_j180 x.1 v2 v3 v4 x.2.1 x.2.2.2).bind fun y13 => some (.inr y13)) else (if x.2.1 = 0 then ((f_X12_stops v3 v4 v7 x.2.2.2).bind fun r24 =>
  if r24.1 = 0 then (lp (f_X12_tick_B141 x.1 v2 v3 v4 v6 v7 r24.1 x.2.2.1) fuel (v3, r24.2)) else (f_X12_tick_j174 x.1 v2 v3 v4 v6 v7 r24.1 x.2.2.1 r24.2)) else ((f_X12_tick_j180 x.1 v2 v3 v4 x.2.1 x.2.2.2).bind fun y23 => some (.inr y23)))
def f_X12_tick_j96 (v1 : Int32) (v2 : Int32) (v3 : Int32) (v4 : Int32) (v6 : Int32) (s0 : Int32) (V : VT) : Option ((Int32 × Int32 × VT) ⊕ (Int32 × VT)) :=
  (some (0 : Int32)).bind fun a11 =>
  (some (0 : Int32)).bind fun a12 =>
  lp (f_X12_tick_B104 v2 v3 v4 v6 s0) fuel (v1, a11, a12, V)
def f_X12_tick_j69 (v1 : Int32) (v2 : Int32) (v3 : Int32) (v4 : Int32) (v5 : Int32) (V : VT) : Option ((Int32 × Int32 × VT) ⊕ (Int32 × VT)) :=
  if 0 ≤ v5 then ((f_X12_cueIs v5 (1 : Int32) V).bind fun r10 =>
  if 0 ≤ r10 then (f_X12_tick_j96 v1 v2 v3 v4 r10 (1 : Int32) V) else (f_X12_tick_j96 v1 v2 v3 v4 r10 (-1 : Int32) V)) else (some (.inl (v1, v2, V)))
def f_X12_tick_j61 (v1 : Int32) (v2 : Int32) (v3 : Int32) (v4 : Int32) (v6 : Int32) (s0 : Int32) (V : VT) : Option ((Int32 × Int32) ⊕ ((Int32 × Int32 × VT) ⊕ (Int32 × VT))) :=
  (some (v6 + 1)).bind fun a34 =>
  some (.inl (s0, a34))
def f_X12_tick_B30 (v1 : Int32) (v2 : Int32) (v3 : Int32) (v4 : Int32) (V : VT) (x : Int32 × Int32) : Option ((Int32 × Int32) ⊕ ((Int32 × Int32 × VT) ⊕ (Int32 × VT))) :=
  if v4 < x.2 then ((f_X12_tick_j69 v1 v2 v3 v4 x.1 V).bind fun y9 => some (.inr y9)) else (if 0 ≤ x.1 then ((f_X12_tick_j69 v1 v2 v3 v4 x.1 V).bind fun y32 => some (.inr y32)) else ((f_X12_isRigged x.2 V).bind fun r33 =>
  if r33 = 0 then (f_X12_tick_j61 v1 v2 v3 v4 x.2 (-1 : Int32) V) else ((f_X12_running x.2 V).bind fun r35 =>
  f_X12_tick_j61 v1 v2 v3 v4 x.2 r35 V)))
def f_X12_tick_B4 (x : Int32 × Int32 × VT) : Option ((Int32 × Int32 × VT) ⊕ (Int32 × VT)) :=
  if (12 : Int32) ≤ x.2.1 then (((ckA 1646 (1645 : Int32)).bind fun k4 =>
  (ckA 1646 (1645 : Int32)).bind fun k5 =>
  some (x.1, (u2 x.2.2 0 k5 ((x.2.2 0 k4) + (1 : Int32))))).bind fun y3 => some (.inr y3)) else ((f_X12_lastOfGroup x.2.1 x.2.2).bind fun r6 =>
  (some (r6 + (1 : Int32))).bind fun a7 =>
  (some (-1 : Int32)).bind fun a8 =>
  lp (f_X12_tick_B30 x.1 a7 x.2.1 r6 x.2.2) fuel (a8, x.2.1))
def f_X12_tick (V : VT) : Option (Int32 × VT) :=
  (some (0 : Int32)).bind fun a1 =>
  (some (0 : Int32)).bind fun a2 =>
  lp (f_X12_tick_B4) fuel (a1, a2, V)
def f_X12_bar_j89 (V : VT) : Option (Int32 × VT) :=
  (f_X12_refused V).bind fun r4 =>
  some (r4.1, r4.2)
def f_X12_bar_B103 (v2 : Int32) (v3 : Int32) (v4 : Int32) (x : Int32 × VT) : Option ((Int32 × VT) ⊕ (Int32 × VT)) :=
  if (21 : Int32) ≤ x.1 then (((ckA 1646 v4).bind fun k13 =>
  (ckA 1646 (v4 + (1 : Int32))).bind fun k14 =>
  (ckA 1646 (v4 + (2 : Int32))).bind fun k15 =>
  (f_X12_keep v2 (u2 (u2 (u2 x.2 0 k13 (1 : Int32)) 0 k14 v2) 0 k15 v3)).bind fun r16 =>
  some (r16.1, r16.2)).bind fun y12 => some (.inr y12)) else ((ckA 1646 (v4 + x.1)).bind fun k17 =>
  (some (x.1 + 1)).bind fun a18 =>
  some (.inl (a18, (u2 x.2 0 k17 (0 : Int32)))))
def f_X12_bar_j81 (v1 : Int32) (v2 : Int32) (v3 : Int32) (s1 : Int32) (V : VT) : Option (Int32 × VT) :=
  (f_X12_is s1 (7 : Int32) V).bind fun r9 =>
  if r9.1 = 0 then ((f_X12_bar0 v1 r9.2).bind fun r10 =>
  (some (0 : Int32)).bind fun a11 =>
  lp (f_X12_bar_B103 v2 v3 r10) fuel (a11, r9.2)) else (f_X12_bar_j89 r9.2)
def f_X12_bar_j76 (v1 : Int32) (v2 : Int32) (v3 : Int32) (V : VT) : Option (Int32 × VT) :=
  f_X12_bar_j81 v1 v2 v3 (1 : Int32) V
def f_X12_bar_j48 (v1 : Int32) (v2 : Int32) (v3 : Int32) (s1 : Int32) (V : VT) : Option (Int32 × VT) :=
  (f_X12_is s1 (3 : Int32) V).bind fun r7 =>
  if r7.1 = 0 then ((f_X12_in v2 (2 : Int32) (16 : Int32) r7.2).bind fun r8 =>
  if r8 = 0 then (f_X12_bar_j76 v1 v2 v3 r7.2) else ((f_X12_in v3 (1 : Int32) (30 : Int32) r7.2).bind fun r19 =>
  if r19 = 0 then (f_X12_bar_j76 v1 v2 v3 r7.2) else (f_X12_bar_j81 v1 v2 v3 (0 : Int32) r7.2))) else (f_X12_bar_j89 r7.2)
def f_X12_bar_j17 (v1 : Int32) (v2 : Int32) (v3 : Int32) (s1 : Int32) (V : VT) : Option (Int32 × VT) :=
  (f_X12_is s1 (2 : Int32) V).bind fun r3 =>
  if r3.1 = 0 then ((f_X12_isRigged v1 r3.2).bind fun r5 =>
  (f_X12_is r5 (8 : Int32) r3.2).bind fun r6 =>
  if r6.1 = 0 then (if 0 ≤ v2 then (f_X12_bar_j48 v1 v2 v3 (0 : Int32) r6.2) else (f_X12_bar_j48 v1 v2 v3 (1 : Int32) r6.2)) else (f_X12_bar_j89 r6.2)) else (f_X12_bar_j89 r3.2)
def f_X12_bar (v1 : Int32) (v2 : Int32) (v3 : Int32) (V : VT) : Option (Int32 × VT) :=
  (f_X12_begin V).bind fun r1 =>
  (f_X12_isBar v1 r1).bind fun r2 =>
  if r2 = 0 then (f_X12_bar_j17 v1 v2 v3 (1 : Int32) r1) else (f_X12_bar_j17 v1 v2 v3 (0 : Int32) r1)
def f_X12_strip_j67 (V : VT) : Option (Int32 × VT) :=
  (f_X12_refused V).bind fun r4 =>
  some (r4.1, r4.2)
def f_X12_strip_B259 (v1 : Int32) (v4 : Int32) (x : Int32 × VT) : Option ((Int32 × VT) ⊕ (Int32 × VT)) :=
  if (21 : Int32) ≤ x.1 then (((f_X12_keep v4 x.2).bind fun r25 =>
  some (r25.1, r25.2)).bind fun y24 => some (.inr y24)) else ((f_X12_bar0 v1 x.2).bind fun r26 =>
  (ckA 1646 (r26 + x.1)).bind fun k27 =>
  (some (x.1 + 1)).bind fun a28 =>
  some (.inl (a28, (u2 x.2 0 k27 (0 : Int32)))))
def f_X12_strip_j250 (v1 : Int32) (v4 : Int32) (v5 : Int32) (V : VT) : Option ((Int32 × VT) ⊕ (Int32 × VT)) :=
  (some (v5 + 1)).bind fun a30 =>
  some (.inl (a30, V))
def f_X12_strip_B210 (v1 : Int32) (v4 : Int32) (x : Int32 × VT) : Option ((Int32 × VT) ⊕ (Int32 × VT)) :=
  (ckA 1646 (1640 : Int32)).bind fun k21 =>
  if (x.2 0 k21) ≤ x.1 then (((some (0 : Int32)).bind fun a23 =>
  lp (f_X12_strip_B259 v1 v4) fuel (a23, x.2)).bind fun y22 => some (.inr y22)) else ((f_X12_holds x.1 v1 x.2).bind fun r29 =>
  if r29 = 0 then (f_X12_strip_j250 v1 v4 x.1 x.2) else ((ckA 1646 (((252 : Int32) + ((12 : Int32) * x.1)) + (3 : Int32))).bind fun k31 =>
  f_X12_strip_j250 v1 v4 x.1 (u2 x.2 0 k31 (0 : Int32))))
def f_X12_strip_j182 (v1 : Int32) (v3 : Int32) (s1 : Int32) (V : VT) : Option (Int32 × VT) :=
  (f_X12_is s1 (16 : Int32) V).bind fun r18 =>
  if r18.1 = 0 then ((f_X12_lines v1 r18.2).bind fun r19 =>
  (some (0 : Int32)).bind fun a20 =>
  lp (f_X12_strip_B210 v1 r19) fuel (a20, r18.2)) else ((f_X12_refused (u2 r18.2 7 3 v3)).bind fun r32 =>
  some (r32.1, r32.2))
def f_X12_strip_j166 (v1 : Int32) (v3 : Int32) (v4 : Int32) (V : VT) : Option ((Int32 × Int32) ⊕ (Int32 × VT)) :=
  (some (v4 + (-1))).bind fun a34 =>
  some (.inl (v3, a34))
def f_X12_strip_B148 (v1 : Int32) (V : VT) (x : Int32 × Int32) : Option ((Int32 × Int32) ⊕ (Int32 × VT)) :=
  if x.2 < 0 then ((if x.1 < 0 then (f_X12_strip_j182 v1 x.1 (0 : Int32) V) else (f_X12_strip_j182 v1 x.1 (1 : Int32) V)).bind fun y17 => some (.inr y17)) else ((f_X12_held v1 x.2 V).bind fun r33 =>
  if r33 = 0 then (f_X12_strip_j166 v1 x.1 x.2 V) else (f_X12_strip_j166 v1 x.2 x.2 V))
def f_X12_strip_j115 (v1 : Int32) (v3 : Int32) (s0 : Int32) (V : VT) : Option ((Int32 × Int32) ⊕ (Int32 × VT)) :=
  (some (v3 + 1)).bind fun a36 =>
  some (.inl (s0, a36))
def f_X12_strip_j110 (v1 : Int32) (v3 : Int32) (V : VT) : Option ((Int32 × Int32) ⊕ (Int32 × VT)) :=
  f_X12_strip_j115 v1 v3 (1 : Int32) V
def f_X12_strip_j114 (v1 : Int32) (v3 : Int32) (V : VT) : Option ((Int32 × Int32) ⊕ (Int32 × VT)) :=
  f_X12_strip_j115 v1 v3 (0 : Int32) V
def f_X12_strip_B76 (v1 : Int32) (V : VT) (x : Int32 × Int32) : Option ((Int32 × Int32) ⊕ (Int32 × VT)) :=
  (ckA 1646 (1642 : Int32)).bind fun k11 =>
  if (V 0 k11) ≤ x.2 then (((f_X12_is x.1 (18 : Int32) V).bind fun r13 =>
  if r13.1 = 0 then ((some (-1 : Int32)).bind fun a14 =>
  (f_X12_places v1 r13.2).bind fun r15 =>
  (some (r15 - (1 : Int32))).bind fun a16 =>
  lp (f_X12_strip_B148 v1 r13.2) fuel (a14, a16)) else ((f_X12_refused r13.2).bind fun r35 =>
  some (r35.1, r35.2))).bind fun y12 => some (.inr y12)) else (if x.1 = 0 then ((f_X12_cueIs x.2 (0 : Int32) V).bind fun r37 =>
  if r37 = v1 then ((f_X12_isNotOver x.2 V).bind fun r38 =>
  if r38 = 0 then (f_X12_strip_j114 v1 x.2 V) else (f_X12_strip_j110 v1 x.2 V)) else (f_X12_strip_j114 v1 x.2 V)) else (f_X12_strip_j110 v1 x.2 V))
def f_X12_strip_j59 (v1 : Int32) (s1 : Int32) (V : VT) : Option (Int32 × VT) :=
  (f_X12_is s1 (10 : Int32) V).bind fun r8 =>
  if r8.1 = 0 then ((some (0 : Int32)).bind fun a9 =>
  (some (0 : Int32)).bind fun a10 =>
  lp (f_X12_strip_B76 v1 r8.2) fuel (a9, a10)) else (f_X12_strip_j67 r8.2)
def f_X12_strip_j38 (v1 : Int32) (s1 : Int32) (V : VT) : Option (Int32 × VT) :=
  (f_X12_is s1 (1 : Int32) V).bind fun r6 =>
  if r6.1 = 0 then ((f_X12_height v1 r6.2).bind fun r7 =>
  if r7 = 0 then (f_X12_strip_j59 v1 (0 : Int32) r6.2) else (f_X12_strip_j59 v1 (1 : Int32) r6.2)) else (f_X12_strip_j67 r6.2)
def f_X12_strip_j17 (v1 : Int32) (s1 : Int32) (V : VT) : Option (Int32 × VT) :=
  (f_X12_is s1 (2 : Int32) V).bind fun r3 =>
  if r3.1 = 0 then ((f_X12_isRigged v1 r3.2).bind fun r5 =>
  if r5 = 0 then (f_X12_strip_j38 v1 (1 : Int32) r3.2) else (f_X12_strip_j38 v1 (0 : Int32) r3.2)) else (f_X12_strip_j67 r3.2)
def f_X12_strip (v1 : Int32) (V : VT) : Option (Int32 × VT) :=
  (f_X12_begin V).bind fun r1 =>
  (f_X12_isBar v1 r1).bind fun r2 =>
  if r2 = 0 then (f_X12_strip_j17 v1 (1 : Int32) r1) else (f_X12_strip_j17 v1 (0 : Int32) r1)
def f_X12_line_j67 (V : VT) : Option (Int32 × VT) :=
  (f_X12_refused V).bind fun r4 =>
  some (r4.1, r4.2)
def f_X12_line_j221 (V : VT) : Option (Int32 × VT) :=
  (f_X12_refused V).bind fun r14 =>
  some (r14.1, r14.2)
def f_X12_line_B284 (v3 : Int32) (v4 : Int32) (v6 : Int32) (x : Int32 × VT) : Option ((Int32 × VT) ⊕ (Int32 × VT)) :=
  if v3 ≤ x.1 then (((ckA 1646 (1640 : Int32)).bind fun k28 =>
  (ckA 1646 (1640 : Int32)).bind fun k29 =>
  (ckA 1646 (1640 : Int32)).bind fun k30 =>
  (f_X12_keep (((u2 x.2 0 k29 ((x.2 0 k28) + (1 : Int32))) 0 k30) - (1 : Int32)) (u2 x.2 0 k29 ((x.2 0 k28) + (1 : Int32)))).bind fun r31 =>
  some (r31.1, r31.2)).bind fun y27 => some (.inr y27)) else ((ckA 1646 ((v6 + (4 : Int32)) + x.1)).bind fun k32 =>
  (some (x.1 + 1)).bind fun a33 =>
  some (.inl (a33, (u2 x.2 0 k32 v4))))
def f_X12_line_j213 (v1 : Int32) (v2 : Int32) (v3 : Int32) (v4 : Int32) (s1 : Int32) (V : VT) : Option (Int32 × VT) :=
  (f_X12_is s1 (7 : Int32) V).bind fun r19 =>
  if r19.1 = 0 then ((ckA 1646 (1640 : Int32)).bind fun k20 =>
  (some ((252 : Int32) + ((12 : Int32) * (r19.2 0 k20)))).bind fun a21 =>
  (ckA 1646 a21).bind fun k22 =>
  (ckA 1646 (a21 + (1 : Int32))).bind fun k23 =>
  (ckA 1646 (a21 + (2 : Int32))).bind fun k24 =>
  (ckA 1646 (a21 + (3 : Int32))).bind fun k25 =>
  (some (0 : Int32)).bind fun a26 =>
  lp (f_X12_line_B284 v3 v4 a21) fuel (a26, (u2 (u2 (u2 (u2 r19.2 0 k22 v1) 0 k23 v2) 0 k24 v3) 0 k25 (1 : Int32)))) else (f_X12_line_j221 r19.2)
def f_X12_line_j208 (v1 : Int32) (v2 : Int32) (v3 : Int32) (v4 : Int32) (V : VT) : Option (Int32 × VT) :=
  f_X12_line_j213 v1 v2 v3 v4 (1 : Int32) V
def f_X12_line_j178 (v1 : Int32) (v2 : Int32) (v3 : Int32) (v4 : Int32) (s1 : Int32) (V : VT) : Option (Int32 × VT) :=
  (f_X12_is s1 (3 : Int32) V).bind fun r17 =>
  if r17.1 = 0 then ((f_X12_in v3 (1 : Int32) (8 : Int32) r17.2).bind fun r18 =>
  if r18 = 0 then (f_X12_line_j208 v1 v2 v3 v4 r17.2) else ((f_X12_in v4 (0 : Int32) (30000 : Int32) r17.2).bind fun r34 =>
  if r34 = 0 then (f_X12_line_j208 v1 v2 v3 v4 r17.2) else (f_X12_line_j213 v1 v2 v3 v4 (0 : Int32) r17.2))) else (f_X12_line_j221 r17.2)
def f_X12_line_j160 (v1 : Int32) (v2 : Int32) (v3 : Int32) (v4 : Int32) (s1 : Int32) (V : VT) : Option (Int32 × VT) :=
  (f_X12_is s1 (11 : Int32) V).bind fun r16 =>
  if r16.1 = 0 then (if 0 ≤ v3 then (f_X12_line_j178 v1 v2 v3 v4 (0 : Int32) r16.2) else (f_X12_line_j178 v1 v2 v3 v4 (1 : Int32) r16.2)) else (f_X12_line_j221 r16.2)
def f_X12_line_j122 (v1 : Int32) (v2 : Int32) (v3 : Int32) (v4 : Int32) (v6 : Int32) (s0 : Int32) (V : VT) : Option ((Int32 × Int32) ⊕ (Int32 × VT)) :=
  (some (v6 + 1)).bind fun a35 =>
  some (.inl (s0, a35))
def f_X12_line_j117 (v1 : Int32) (v2 : Int32) (v3 : Int32) (v4 : Int32) (v6 : Int32) (V : VT) : Option ((Int32 × Int32) ⊕ (Int32 × VT)) :=
  f_X12_line_j122 v1 v2 v3 v4 v6 (1 : Int32) V
def f_X12_line_j121 (v1 : Int32) (v2 : Int32) (v3 : Int32) (v4 : Int32) (v6 : Int32) (V : VT) : Option ((Int32 × Int32) ⊕ (Int32 × VT)) :=
  f_X12_line_j122 v1 v2 v3 v4 v6 (0 : Int32) V
def f_X12_line_B78 (v1 : Int32) (v2 : Int32) (v3 : Int32) (v4 : Int32) (V : VT) (x : Int32 × Int32) : Option ((Int32 × Int32) ⊕ (Int32 × VT)) :=
  (ckA 1646 (1640 : Int32)).bind fun k11 =>
  if (V 0 k11) ≤ x.2 then (((f_X12_is x.1 (8 : Int32) V).bind fun r13 =>
  if r13.1 = 0 then ((ckA 1646 (1640 : Int32)).bind fun k15 =>
  if (r13.2 0 k15) = (40 : Int32) then (f_X12_line_j160 v1 v2 v3 v4 (1 : Int32) r13.2) else (f_X12_line_j160 v1 v2 v3 v4 (0 : Int32) r13.2)) else (f_X12_line_j221 r13.2)).bind fun y12 => some (.inr y12)) else (if x.1 = 0 then ((f_X12_holds x.2 v1 V).bind fun r36 =>
  if r36 = 0 then (f_X12_line_j121 v1 v2 v3 v4 x.2 V) else ((f_X12_lineIs x.2 (1 : Int32) V).bind fun r37 =>
  if r37 = v2 then (f_X12_line_j117 v1 v2 v3 v4 x.2 V) else (f_X12_line_j121 v1 v2 v3 v4 x.2 V))) else (f_X12_line_j117 v1 v2 v3 v4 x.2 V))
def f_X12_line_j60 (v1 : Int32) (v2 : Int32) (v3 : Int32) (v4 : Int32) (s1 : Int32) (V : VT) : Option (Int32 × VT) :=
  (f_X12_is s1 (2 : Int32) V).bind fun r8 =>
  if r8.1 = 0 then ((some (0 : Int32)).bind fun a9 =>
  (some (0 : Int32)).bind fun a10 =>
  lp (f_X12_line_B78 v1 v2 v3 v4 r8.2) fuel (a9, a10)) else (f_X12_line_j67 r8.2)
def f_X12_line_j38 (v1 : Int32) (v2 : Int32) (v3 : Int32) (v4 : Int32) (s1 : Int32) (V : VT) : Option (Int32 × VT) :=
  (f_X12_is s1 (1 : Int32) V).bind fun r6 =>
  if r6.1 = 0 then ((f_X12_isPlace v1 v2 r6.2).bind fun r7 =>
  if r7 = 0 then (f_X12_line_j60 v1 v2 v3 v4 (1 : Int32) r6.2) else (f_X12_line_j60 v1 v2 v3 v4 (0 : Int32) r6.2)) else (f_X12_line_j67 r6.2)
def f_X12_line_j17 (v1 : Int32) (v2 : Int32) (v3 : Int32) (v4 : Int32) (s1 : Int32) (V : VT) : Option (Int32 × VT) :=
  (f_X12_is s1 (2 : Int32) V).bind fun r3 =>
  if r3.1 = 0 then ((f_X12_isRigged v1 r3.2).bind fun r5 =>
  if r5 = 0 then (f_X12_line_j38 v1 v2 v3 v4 (1 : Int32) r3.2) else (f_X12_line_j38 v1 v2 v3 v4 (0 : Int32) r3.2)) else (f_X12_line_j67 r3.2)
def f_X12_line (v1 : Int32) (v2 : Int32) (v3 : Int32) (v4 : Int32) (V : VT) : Option (Int32 × VT) :=
  (f_X12_begin V).bind fun r1 =>
  (f_X12_isBar v1 r1).bind fun r2 =>
  if r2 = 0 then (f_X12_line_j17 v1 v2 v3 v4 (1 : Int32) r1) else (f_X12_line_j17 v1 v2 v3 v4 (0 : Int32) r1)
def f_X12_wear_j98 (V : VT) : Option (Int32 × VT) :=
  (f_X12_refused V).bind fun r4 =>
  some (r4.1, r4.2)
def f_X12_wear_j147 (v4 : Int32) (s1 : Int32) (s2 : Int32) (V : VT) : Option (Int32 × VT) :=
  (ckA 1646 s1).bind fun k12 =>
  (ckA 1646 v4).bind fun k13 =>
  (f_X12_keep ((u2 V 0 k12 s2) 0 k13) (u2 V 0 k12 s2)).bind fun r14 =>
  some (r14.1, r14.2)
def f_X12_wear_j90 (v1 : Int32) (v2 : Int32) (v3 : Int32) (s1 : Int32) (V : VT) : Option (Int32 × VT) :=
  (f_X12_is s1 (7 : Int32) V).bind fun r9 =>
  if r9.1 = 0 then ((some ((((252 : Int32) + ((12 : Int32) * v1)) + (4 : Int32)) + v2)).bind fun a10 =>
  (ckA 1646 a10).bind fun k11 =>
  if (r9.2 0 k11) ≤ v3 then (f_X12_wear_j147 a10 a10 (0 : Int32) r9.2) else ((ckA 1646 a10).bind fun k15 =>
  f_X12_wear_j147 a10 a10 ((r9.2 0 k15) - v3) r9.2)) else (f_X12_wear_j98 r9.2)
def f_X12_wear_j66 (v1 : Int32) (v2 : Int32) (v3 : Int32) (s1 : Int32) (V : VT) : Option (Int32 × VT) :=
  (f_X12_is s1 (2 : Int32) V).bind fun r7 =>
  if r7.1 = 0 then ((f_X12_in v3 (0 : Int32) (30000 : Int32) r7.2).bind fun r8 =>
  if r8 = 0 then (f_X12_wear_j90 v1 v2 v3 (1 : Int32) r7.2) else (f_X12_wear_j90 v1 v2 v3 (0 : Int32) r7.2)) else (f_X12_wear_j98 r7.2)
def f_X12_wear_j61 (v1 : Int32) (v2 : Int32) (v3 : Int32) (V : VT) : Option (Int32 × VT) :=
  f_X12_wear_j66 v1 v2 v3 (1 : Int32) V
def f_X12_wear_j39 (v1 : Int32) (v2 : Int32) (v3 : Int32) (s1 : Int32) (V : VT) : Option (Int32 × VT) :=
  (f_X12_is s1 (1 : Int32) V).bind fun r6 =>
  if r6.1 = 0 then (if v2 < 0 then (f_X12_wear_j61 v1 v2 v3 r6.2) else ((f_X12_lineIs v1 (2 : Int32) r6.2).bind fun r16 =>
  if v2 < r16 then (f_X12_wear_j66 v1 v2 v3 (0 : Int32) r6.2) else (f_X12_wear_j61 v1 v2 v3 r6.2))) else (f_X12_wear_j98 r6.2)
def f_X12_wear_j18 (v1 : Int32) (v2 : Int32) (v3 : Int32) (s1 : Int32) (V : VT) : Option (Int32 × VT) :=
  (f_X12_is s1 (2 : Int32) V).bind fun r3 =>
  if r3.1 = 0 then ((f_X12_isLineThere v1 r3.2).bind fun r5 =>
  if r5 = 0 then (f_X12_wear_j39 v1 v2 v3 (1 : Int32) r3.2) else (f_X12_wear_j39 v1 v2 v3 (0 : Int32) r3.2)) else (f_X12_wear_j98 r3.2)
def f_X12_wear (v1 : Int32) (v2 : Int32) (v3 : Int32) (V : VT) : Option (Int32 × VT) :=
  (f_X12_begin V).bind fun r1 =>
  (f_X12_isLineTold v1 r1).bind fun r2 =>
  if r2 = 0 then (f_X12_wear_j18 v1 v2 v3 (1 : Int32) r1) else (f_X12_wear_j18 v1 v2 v3 (0 : Int32) r1)
def f_X12_cut_j46 (V : VT) : Option (Int32 × VT) :=
  (f_X12_refused V).bind fun r4 =>
  some (r4.1, r4.2)
def f_X12_cut_j39 (v1 : Int32) (s1 : Int32) (V : VT) : Option (Int32 × VT) :=
  (f_X12_is s1 (1 : Int32) V).bind fun r6 =>
  if r6.1 = 0 then ((f_X12_weakest v1 r6.2).bind fun r7 =>
  (ckA 1646 (((252 : Int32) + ((12 : Int32) * v1)) + (3 : Int32))).bind fun k8 =>
  (f_X12_keep r7 (u2 r6.2 0 k8 (0 : Int32))).bind fun r9 =>
  some (r9.1, r9.2)) else (f_X12_cut_j46 r6.2)
def f_X12_cut_j18 (v1 : Int32) (s1 : Int32) (V : VT) : Option (Int32 × VT) :=
  (f_X12_is s1 (2 : Int32) V).bind fun r3 =>
  if r3.1 = 0 then ((f_X12_isLineThere v1 r3.2).bind fun r5 =>
  if r5 = 0 then (f_X12_cut_j39 v1 (1 : Int32) r3.2) else (f_X12_cut_j39 v1 (0 : Int32) r3.2)) else (f_X12_cut_j46 r3.2)
def f_X12_cut (v1 : Int32) (V : VT) : Option (Int32 × VT) :=
  (f_X12_begin V).bind fun r1 =>
  (f_X12_isLineTold v1 r1).bind fun r2 =>
  if r2 = 0 then (f_X12_cut_j18 v1 (1 : Int32) r1) else (f_X12_cut_j18 v1 (0 : Int32) r1)
def f_X12_thing_j99 (V : VT) : Option (Int32 × VT) :=
  (f_X12_refused V).bind fun r4 =>
  some (r4.1, r4.2)
def f_X12_thing_j91 (v1 : Int32) (v2 : Int32) (v3 : Int32) (v4 : Int32) (s1 : Int32) (V : VT) : Option (Int32 × VT) :=
  (f_X12_is s1 (11 : Int32) V).bind fun r6 =>
  if r6.1 = 0 then ((ckA 1646 (1641 : Int32)).bind fun k7 =>
  (some ((732 : Int32) + ((5 : Int32) * (r6.2 0 k7)))).bind fun a8 =>
  (ckA 1646 a8).bind fun k9 =>
  (ckA 1646 (a8 + (1 : Int32))).bind fun k10 =>
  (ckA 1646 (a8 + (2 : Int32))).bind fun k11 =>
  (ckA 1646 (a8 + (3 : Int32))).bind fun k12 =>
  (ckA 1646 (a8 + (4 : Int32))).bind fun k13 =>
  (ckA 1646 (1641 : Int32)).bind fun k14 =>
  (ckA 1646 (1641 : Int32)).bind fun k15 =>
  (ckA 1646 (1641 : Int32)).bind fun k16 =>
  (f_X12_keep (((u2 (u2 (u2 (u2 (u2 (u2 r6.2 0 k9 v1) 0 k10 v2) 0 k11 v3) 0 k12 v4) 0 k13 (0 : Int32)) 0 k15 (((u2 (u2 (u2 (u2 (u2 r6.2 0 k9 v1) 0 k10 v2) 0 k11 v3) 0 k12 v4) 0 k13 (0 : Int32)) 0 k14) + (1 : Int32))) 0 k16) - (1 : Int32)) (u2 (u2 (u2 (u2 (u2 (u2 r6.2 0 k9 v1) 0 k10 v2) 0 k11 v3) 0 k12 v4) 0 k13 (0 : Int32)) 0 k15 (((u2 (u2 (u2 (u2 (u2 r6.2 0 k9 v1) 0 k10 v2) 0 k11 v3) 0 k12 v4) 0 k13 (0 : Int32)) 0 k14) + (1 : Int32)))).bind fun r17 =>
  some (r17.1, r17.2)) else (f_X12_thing_j99 r6.2)
def f_X12_thing_j59 (v1 : Int32) (v2 : Int32) (v3 : Int32) (v4 : Int32) (s0 : Int32) (V : VT) : Option (Int32 × VT) :=
  (f_X12_is s0 (7 : Int32) V).bind fun r3 =>
  if r3.1 = 0 then ((ckA 1646 (1641 : Int32)).bind fun k5 =>
  if (r3.2 0 k5) = (80 : Int32) then (f_X12_thing_j91 v1 v2 v3 v4 (1 : Int32) r3.2) else (f_X12_thing_j91 v1 v2 v3 v4 (0 : Int32) r3.2)) else (f_X12_thing_j99 r3.2)
def f_X12_thing_j54 (v1 : Int32) (v2 : Int32) (v3 : Int32) (v4 : Int32) (V : VT) : Option (Int32 × VT) :=
  f_X12_thing_j59 v1 v2 v3 v4 (1 : Int32) V
def f_X12_thing_j37 (v1 : Int32) (v2 : Int32) (v3 : Int32) (v4 : Int32) (s0 : Int32) (s1 : Int32) (s2 : Int32) (V : VT) : Option (Int32 × VT) :=
  (f_X12_in s0 s1 s2 V).bind fun r19 =>
  if r19 = 0 then (f_X12_thing_j54 v1 v2 v3 v4 V) else ((f_X12_in v4 (0 : Int32) (400000 : Int32) V).bind fun r20 =>
  if r20 = 0 then (f_X12_thing_j54 v1 v2 v3 v4 V) else (f_X12_thing_j59 v1 v2 v3 v4 (0 : Int32) V))
def f_X12_thing (v1 : Int32) (v2 : Int32) (v3 : Int32) (v4 : Int32) (V : VT) : Option (Int32 × VT) :=
  (f_X12_begin V).bind fun r1 =>
  (f_X12_in v1 (0 : Int32) (4 : Int32) r1).bind fun r2 =>
  if r2 = 0 then (f_X12_thing_j54 v1 v2 v3 v4 r1) else ((f_X12_in v2 (1 : Int32) (15 : Int32) r1).bind fun r18 =>
  if r18 = 0 then (f_X12_thing_j54 v1 v2 v3 v4 r1) else (if v1 = (1 : Int32) then (f_X12_thing_j37 v1 v2 v3 v4 v3 (1 : Int32) (6 : Int32) r1) else (f_X12_thing_j37 v1 v2 v3 v4 v3 (1 : Int32) (40 : Int32) r1)))
def f_X12_takenBack_B2 (x : Int32 × VT) : Option ((Int32 × VT) ⊕ (Int32 × VT)) :=
  if (1646 : Int32) ≤ x.1 then (((f_X12_refused x.2).bind fun r3 =>
  some (r3.1, r3.2)).bind fun y2 => some (.inr y2)) else ((ckA 1646 x.1).bind fun k4 =>
  (ckA 1646 x.1).bind fun k5 =>
  (some (x.1 + 1)).bind fun a6 =>
  some (.inl (a6, (u2 x.2 0 k5 (x.2 2 k4)))))
def f_X12_takenBack (V : VT) : Option (Int32 × VT) :=
  (some (0 : Int32)).bind fun a1 =>
  lp (f_X12_takenBack_B2) fuel (a1, V)
def f_X12_heat_j72 (V : VT) : Option (Int32 × VT) :=
  (f_X12_refused V).bind fun r4 =>
  some (r4.1, r4.2)
def f_X12_heat_j116 (v3 : Int32) (v4 : Int32) (s1 : Int32) (V : VT) : Option (Int32 × VT) :=
  (f_X12_is s1 (14 : Int32) V).bind fun r12 =>
  if r12.1 = 0 then ((f_X12_keep v3 r12.2).bind fun r13 =>
  some (r13.1, r13.2)) else ((f_X12_takenBack (u2 r12.2 7 3 v4)).bind fun r14 =>
  some (r14.1, r14.2))
def f_X12_heat_j64 (v1 : Int32) (v2 : Int32) (s1 : Int32) (V : VT) : Option (Int32 × VT) :=
  (f_X12_is s1 (7 : Int32) V).bind fun r8 =>
  if r8.1 = 0 then ((f_X12_thingIs v1 (4 : Int32) r8.2).bind fun r9 =>
  (ckA 1646 (((732 : Int32) + ((5 : Int32) * v1)) + (4 : Int32))).bind fun k10 =>
  (f_X12_scorched (u2 r8.2 0 k10 v2)).bind fun r11 =>
  if r11 < 0 then (f_X12_heat_j116 r9 r11 (0 : Int32) (u2 r8.2 0 k10 v2)) else (f_X12_heat_j116 r9 r11 (1 : Int32) (u2 r8.2 0 k10 v2))) else (f_X12_heat_j72 r8.2)
def f_X12_heat_j41 (v1 : Int32) (v2 : Int32) (s1 : Int32) (V : VT) : Option (Int32 × VT) :=
  (f_X12_is s1 (4 : Int32) V).bind fun r6 =>
  if r6.1 = 0 then ((f_X12_in v2 (0 : Int32) (80000 : Int32) r6.2).bind fun r7 =>
  if r7 = 0 then (f_X12_heat_j64 v1 v2 (1 : Int32) r6.2) else (f_X12_heat_j64 v1 v2 (0 : Int32) r6.2)) else (f_X12_heat_j72 r6.2)
def f_X12_heat_j18 (v1 : Int32) (v2 : Int32) (s1 : Int32) (V : VT) : Option (Int32 × VT) :=
  (f_X12_is s1 (2 : Int32) V).bind fun r3 =>
  if r3.1 = 0 then ((f_X12_thingIs v1 (0 : Int32) r3.2).bind fun r5 =>
  if r5 = (2 : Int32) then (f_X12_heat_j41 v1 v2 (0 : Int32) r3.2) else (f_X12_heat_j41 v1 v2 (1 : Int32) r3.2)) else (f_X12_heat_j72 r3.2)
def f_X12_heat (v1 : Int32) (v2 : Int32) (V : VT) : Option (Int32 × VT) :=
  (f_X12_begin V).bind fun r1 =>
  (f_X12_isTold v1 r1).bind fun r2 =>
  if r2 = 0 then (f_X12_heat_j18 v1 v2 (1 : Int32) r1) else (f_X12_heat_j18 v1 v2 (0 : Int32) r1)
def f_X12_hang_j49 (V : VT) : Option (Int32 × VT) :=
  (f_X12_refused V).bind fun r4 =>
  some (r4.1, r4.2)
def f_X12_hang_j181 (V : VT) : Option (Int32 × VT) :=
  (f_X12_refused V).bind fun r10 =>
  some (r10.1, r10.2)
def f_X12_hang_j250 (V : VT) : Option (Int32 × VT) :=
  (f_X12_refused V).bind fun r17 =>
  some (r17.1, r17.2)
def f_X12_hang_j398 (v2 : Int32) (v8 : Int32) (s1 : Int32) (V : VT) : Option (Int32 × VT) :=
  (f_X12_is s1 (15 : Int32) V).bind fun r29 =>
  if r29.1 = 0 then ((f_X12_things v2 r29.2).bind fun r30 =>
  (f_X12_keep r30 r29.2).bind fun r31 =>
  some (r31.1, r31.2)) else ((f_X12_takenBack (u2 r29.2 7 3 v8)).bind fun r32 =>
  some (r32.1, r32.2))
def f_X12_hang_j385 (v2 : Int32) (s0 : Int32) (V : VT) : Option (Int32 × VT) :=
  if s0 < 0 then (f_X12_hang_j398 v2 s0 (0 : Int32) V) else (f_X12_hang_j398 v2 s0 (1 : Int32) V)
def f_X12_hang_j339 (v2 : Int32) (v5 : Int32) (v7 : Int32) (s1 : Int32) (V : VT) : Option (Int32 × VT) :=
  (f_X12_is s1 (14 : Int32) V).bind fun r27 =>
  if r27.1 = 0 then ((f_X12_isHeld v2 r27.2).bind fun r28 =>
  if r28 = 0 then (f_X12_hang_j385 v2 v2 r27.2) else ((f_X12_isHeld v5 r27.2).bind fun r33 =>
  if r33 = 0 then (f_X12_hang_j385 v2 v5 r27.2) else (f_X12_hang_j385 v2 (-1 : Int32) r27.2))) else ((f_X12_takenBack (u2 r27.2 7 3 v7)).bind fun r34 =>
  some (r34.1, r34.2))
def f_X12_hang_j303 (v2 : Int32) (v5 : Int32) (v6 : Int32) (s1 : Int32) (V : VT) : Option (Int32 × VT) :=
  (f_X12_is s1 (13 : Int32) V).bind fun r25 =>
  if r25.1 = 0 then ((f_X12_scorched r25.2).bind fun r26 =>
  if r26 < 0 then (f_X12_hang_j339 v2 v5 r26 (0 : Int32) r25.2) else (f_X12_hang_j339 v2 v5 r26 (1 : Int32) r25.2)) else ((f_X12_takenBack (u2 r25.2 7 3 v6)).bind fun r35 =>
  some (r35.1, r35.2))
def f_X12_hang_j242 (v1 : Int32) (v2 : Int32) (v3 : Int32) (v5 : Int32) (s1 : Int32) (V : VT) : Option (Int32 × VT) :=
  (f_X12_is s1 (12 : Int32) V).bind fun r19 =>
  if r19.1 = 0 then ((f_X12_put v2 v3 ((2 : Int32) + v1) r19.2).bind fun r20 =>
  (f_X12_put v5 v3 ((2 : Int32) + v1) r20).bind fun r21 =>
  (f_X12_clashing v2 v3 r21).bind fun r22 =>
  (f_X12_clashing v5 v3 r21).bind fun r23 =>
  (f_X12_lesser r22 r23 r21).bind fun r24 =>
  if r24 < 0 then (f_X12_hang_j303 v2 v5 r24 (0 : Int32) r21) else (f_X12_hang_j303 v2 v5 r24 (1 : Int32) r21)) else (f_X12_hang_j250 r19.2)
def f_X12_hang_j237 (v1 : Int32) (v2 : Int32) (v3 : Int32) (v5 : Int32) (V : VT) : Option (Int32 × VT) :=
  f_X12_hang_j242 v1 v2 v3 v5 (1 : Int32) V
def f_X12_hang_j209 (v1 : Int32) (v2 : Int32) (v3 : Int32) (v5 : Int32) (s1 : Int32) (V : VT) : Option (Int32 × VT) :=
  (f_X12_is s1 (10 : Int32) V).bind fun r16 =>
  if r16.1 = 0 then ((f_X12_held v2 v3 r16.2).bind fun r18 =>
  if r18 = 0 then ((f_X12_held v5 v3 r16.2).bind fun r36 =>
  if r36 = 0 then (f_X12_hang_j242 v1 v2 v3 v5 (0 : Int32) r16.2) else (f_X12_hang_j237 v1 v2 v3 v5 r16.2)) else (f_X12_hang_j237 v1 v2 v3 v5 r16.2)) else (f_X12_hang_j250 r16.2)
def f_X12_hang_j204 (v1 : Int32) (v2 : Int32) (v3 : Int32) (v5 : Int32) (V : VT) : Option (Int32 × VT) :=
  f_X12_hang_j209 v1 v2 v3 v5 (1 : Int32) V
def f_X12_hang_j174 (v1 : Int32) (v2 : Int32) (v3 : Int32) (v5 : Int32) (s1 : Int32) (V : VT) : Option (Int32 × VT) :=
  (f_X12_is s1 (2 : Int32) V).bind fun r14 =>
  if r14.1 = 0 then ((f_X12_height v2 r14.2).bind fun r15 =>
  if r15 = 0 then ((f_X12_height v5 r14.2).bind fun r37 =>
  if r37 = 0 then (f_X12_hang_j209 v1 v2 v3 v5 (0 : Int32) r14.2) else (f_X12_hang_j204 v1 v2 v3 v5 r14.2)) else (f_X12_hang_j204 v1 v2 v3 v5 r14.2)) else (f_X12_hang_j181 r14.2)
def f_X12_hang_j169 (v1 : Int32) (v2 : Int32) (v3 : Int32) (v5 : Int32) (V : VT) : Option (Int32 × VT) :=
  f_X12_hang_j174 v1 v2 v3 v5 (1 : Int32) V
def f_X12_hang_j142 (v1 : Int32) (v2 : Int32) (v3 : Int32) (v5 : Int32) (s1 : Int32) (V : VT) : Option (Int32 × VT) :=
  (f_X12_is s1 (1 : Int32) V).bind fun r12 =>
  if r12.1 = 0 then ((f_X12_isPlace v2 v3 r12.2).bind fun r13 =>
  if r13 = 0 then (f_X12_hang_j169 v1 v2 v3 v5 r12.2) else ((f_X12_isPlace v5 v3 r12.2).bind fun r38 =>
  if r38 = 0 then (f_X12_hang_j169 v1 v2 v3 v5 r12.2) else (f_X12_hang_j174 v1 v2 v3 v5 (0 : Int32) r12.2))) else (f_X12_hang_j181 r12.2)
def f_X12_hang_j137 (v1 : Int32) (v2 : Int32) (v3 : Int32) (v5 : Int32) (V : VT) : Option (Int32 × VT) :=
  f_X12_hang_j142 v1 v2 v3 v5 (1 : Int32) V
def f_X12_hang_j112 (v1 : Int32) (v2 : Int32) (v3 : Int32) (v5 : Int32) (s1 : Int32) (V : VT) : Option (Int32 × VT) :=
  (f_X12_is s1 (2 : Int32) V).bind fun r9 =>
  if r9.1 = 0 then ((f_X12_isRigged v2 r9.2).bind fun r11 =>
  if r11 = 0 then (f_X12_hang_j137 v1 v2 v3 v5 r9.2) else ((f_X12_isRigged v5 r9.2).bind fun r39 =>
  if r39 = 0 then (f_X12_hang_j137 v1 v2 v3 v5 r9.2) else (f_X12_hang_j142 v1 v2 v3 v5 (0 : Int32) r9.2))) else (f_X12_hang_j181 r9.2)
def f_X12_hang_j107 (v1 : Int32) (v2 : Int32) (v3 : Int32) (v5 : Int32) (V : VT) : Option (Int32 × VT) :=
  f_X12_hang_j112 v1 v2 v3 v5 (1 : Int32) V
def f_X12_hang_j89 (v1 : Int32) (v2 : Int32) (v3 : Int32) (s0 : Int32) (V : VT) : Option (Int32 × VT) :=
  (f_X12_isBar v2 V).bind fun r8 =>
  if r8 = 0 then (f_X12_hang_j107 v1 v2 v3 s0 V) else ((f_X12_isBar s0 V).bind fun r40 =>
  if r40 = 0 then (f_X12_hang_j107 v1 v2 v3 s0 V) else (f_X12_hang_j112 v1 v2 v3 s0 (0 : Int32) V))
def f_X12_hang_j88 (v1 : Int32) (v2 : Int32) (v3 : Int32) (V : VT) : Option (Int32 × VT) :=
  f_X12_hang_j89 v1 v2 v3 v2 V
def f_X12_hang_j69 (v1 : Int32) (v2 : Int32) (v3 : Int32) (s0 : Int32) (V : VT) : Option (Int32 × VT) :=
  if s0 = 0 then (f_X12_hang_j88 v1 v2 v3 V) else (if (12 : Int32) ≤ v2 then (f_X12_hang_j88 v1 v2 v3 V) else (f_X12_hang_j89 v1 v2 v3 (v2 + (1 : Int32)) V))
def f_X12_hang_j41 (v1 : Int32) (v2 : Int32) (v3 : Int32) (s1 : Int32) (V : VT) : Option (Int32 × VT) :=
  (f_X12_is s1 (8 : Int32) V).bind fun r6 =>
  if r6.1 = 0 then ((f_X12_thingIs v1 (0 : Int32) r6.2).bind fun r7 =>
  if r7 = (4 : Int32) then (f_X12_hang_j69 v1 v2 v3 (1 : Int32) r6.2) else (f_X12_hang_j69 v1 v2 v3 (0 : Int32) r6.2)) else (f_X12_hang_j49 r6.2)
def f_X12_hang_j18 (v1 : Int32) (v2 : Int32) (v3 : Int32) (s1 : Int32) (V : VT) : Option (Int32 × VT) :=
  (f_X12_is s1 (2 : Int32) V).bind fun r3 =>
  if r3.1 = 0 then ((f_X12_barWith v1 r3.2).bind fun r5 =>
  if r5 = (-1000000000 : Int32) then (f_X12_hang_j41 v1 v2 v3 (0 : Int32) r3.2) else (f_X12_hang_j41 v1 v2 v3 (1 : Int32) r3.2)) else (f_X12_hang_j49 r3.2)
def f_X12_hang (v1 : Int32) (v2 : Int32) (v3 : Int32) (V : VT) : Option (Int32 × VT) :=
  (f_X12_begin V).bind fun r1 =>
  (f_X12_isTold v1 r1).bind fun r2 =>
  if r2 = 0 then (f_X12_hang_j18 v1 v2 v3 (1 : Int32) r1) else (f_X12_hang_j18 v1 v2 v3 (0 : Int32) r1)
def f_X12_strike_j49 (V : VT) : Option (Int32 × VT) :=
  (f_X12_refused V).bind fun r4 =>
  some (r4.1, r4.2)
def f_X12_strike_j147 (v3 : Int32) (V : VT) : Option (Int32 × VT) :=
  (f_X12_keep v3 V).bind fun r13 =>
  some (r13.1, r13.2)
def f_X12_strike_j113 (v2 : Int32) (v3 : Int32) (v4 : Int32) (s1 : Int32) (V : VT) : Option (Int32 × VT) :=
  (f_X12_is s1 (10 : Int32) V).bind fun r11 =>
  if r11.1 = 0 then ((f_X12_put v2 v3 (0 : Int32) r11.2).bind fun r12 =>
  if v4 = 0 then (f_X12_strike_j147 v3 r12) else ((f_X12_put (v2 + (1 : Int32)) v3 (0 : Int32) r12).bind fun r14 =>
  f_X12_strike_j147 v3 r14)) else ((f_X12_refused r11.2).bind fun r15 =>
  some (r15.1, r15.2))
def f_X12_strike_j108 (v2 : Int32) (v3 : Int32) (v4 : Int32) (V : VT) : Option (Int32 × VT) :=
  f_X12_strike_j113 v2 v3 v4 (1 : Int32) V
def f_X12_strike_j112 (v2 : Int32) (v3 : Int32) (v4 : Int32) (V : VT) : Option (Int32 × VT) :=
  f_X12_strike_j113 v2 v3 v4 (0 : Int32) V
def f_X12_strike_j82 (v2 : Int32) (v3 : Int32) (s0 : Int32) (V : VT) : Option (Int32 × VT) :=
  (f_X12_height v2 V).bind fun r10 =>
  if r10 = 0 then (if s0 = 0 then (f_X12_strike_j112 v2 v3 s0 V) else ((f_X12_height (v2 + (1 : Int32)) V).bind fun r16 =>
  if r16 = 0 then (f_X12_strike_j112 v2 v3 s0 V) else (f_X12_strike_j108 v2 v3 s0 V))) else (f_X12_strike_j108 v2 v3 s0 V)
def f_X12_strike_j41 (v1 : Int32) (s1 : Int32) (V : VT) : Option (Int32 × VT) :=
  (f_X12_is s1 (9 : Int32) V).bind fun r6 =>
  if r6.1 = 0 then ((f_X12_barWith v1 r6.2).bind fun r7 =>
  (f_X12_placeOn r7 v1 r6.2).bind fun r8 =>
  (f_X12_thingIs v1 (0 : Int32) r6.2).bind fun r9 =>
  if r9 = (4 : Int32) then (f_X12_strike_j82 r7 r8 (1 : Int32) r6.2) else (f_X12_strike_j82 r7 r8 (0 : Int32) r6.2)) else (f_X12_strike_j49 r6.2)
def f_X12_strike_j18 (v1 : Int32) (s1 : Int32) (V : VT) : Option (Int32 × VT) :=
  (f_X12_is s1 (2 : Int32) V).bind fun r3 =>
  if r3.1 = 0 then ((f_X12_barWith v1 r3.2).bind fun r5 =>
  if r5 = (-1000000000 : Int32) then (f_X12_strike_j41 v1 (1 : Int32) r3.2) else (f_X12_strike_j41 v1 (0 : Int32) r3.2)) else (f_X12_strike_j49 r3.2)
def f_X12_strike (v1 : Int32) (V : VT) : Option (Int32 × VT) :=
  (f_X12_begin V).bind fun r1 =>
  (f_X12_isTold v1 r1).bind fun r2 =>
  if r2 = 0 then (f_X12_strike_j18 v1 (1 : Int32) r1) else (f_X12_strike_j18 v1 (0 : Int32) r1)
def f_X12_hook_j91 (V : VT) : Option (Int32 × VT) :=
  (f_X12_refused V).bind fun r4 =>
  some (r4.1, r4.2)
def f_X12_hook_j116 (v4 : Int32) (s1 : Int32) (s2 : Int32) (s3 : Int32) (V : VT) : Option (Int32 × VT) :=
  (f_X12_put s1 s2 s3 V).bind fun r12 =>
  (f_X12_keep v4 r12).bind fun r13 =>
  some (r13.1, r13.2)
def f_X12_hook_j83 (v1 : Int32) (v2 : Int32) (v3 : Int32) (s1 : Int32) (V : VT) : Option (Int32 × VT) :=
  (f_X12_is s1 (12 : Int32) V).bind fun r10 =>
  if r10.1 = 0 then ((f_X12_held v1 v2 r10.2).bind fun r11 =>
  if v3 = 0 then (f_X12_hook_j116 r11 v1 v2 (0 : Int32) r10.2) else (f_X12_hook_j116 r11 v1 v2 (1 : Int32) r10.2)) else (f_X12_hook_j91 r10.2)
def f_X12_hook_j60 (v1 : Int32) (v2 : Int32) (v3 : Int32) (s1 : Int32) (V : VT) : Option (Int32 × VT) :=
  (f_X12_is s1 (2 : Int32) V).bind fun r8 =>
  if r8.1 = 0 then ((f_X12_held v1 v2 r8.2).bind fun r9 =>
  if r9 < (2 : Int32) then (f_X12_hook_j83 v1 v2 v3 (0 : Int32) r8.2) else (f_X12_hook_j83 v1 v2 v3 (1 : Int32) r8.2)) else (f_X12_hook_j91 r8.2)
def f_X12_hook_j38 (v1 : Int32) (v2 : Int32) (v3 : Int32) (s1 : Int32) (V : VT) : Option (Int32 × VT) :=
  (f_X12_is s1 (1 : Int32) V).bind fun r6 =>
  if r6.1 = 0 then ((f_X12_isPlace v1 v2 r6.2).bind fun r7 =>
  if r7 = 0 then (f_X12_hook_j60 v1 v2 v3 (1 : Int32) r6.2) else (f_X12_hook_j60 v1 v2 v3 (0 : Int32) r6.2)) else (f_X12_hook_j91 r6.2)
def f_X12_hook_j17 (v1 : Int32) (v2 : Int32) (v3 : Int32) (s1 : Int32) (V : VT) : Option (Int32 × VT) :=
  (f_X12_is s1 (2 : Int32) V).bind fun r3 =>
  if r3.1 = 0 then ((f_X12_isRigged v1 r3.2).bind fun r5 =>
  if r5 = 0 then (f_X12_hook_j38 v1 v2 v3 (1 : Int32) r3.2) else (f_X12_hook_j38 v1 v2 v3 (0 : Int32) r3.2)) else (f_X12_hook_j91 r3.2)
def f_X12_hook (v1 : Int32) (v2 : Int32) (v3 : Int32) (V : VT) : Option (Int32 × VT) :=
  (f_X12_begin V).bind fun r1 =>
  (f_X12_isBar v1 r1).bind fun r2 =>
  if r2 = 0 then (f_X12_hook_j17 v1 v2 v3 (1 : Int32) r1) else (f_X12_hook_j17 v1 v2 v3 (0 : Int32) r1)
def f_X12_brick_j45 (V : VT) : Option (Int32 × VT) :=
  (f_X12_refused V).bind fun r4 =>
  some (r4.1, r4.2)
def f_X12_brick_j86 (v1 : Int32) (v3 : Int64) (s1 : Int32) (V : VT) : Option (Int32 × VT) :=
  (f_X12_is s1 (7 : Int32) V).bind fun r10 =>
  if r10.1 = 0 then ((f_X12_bar0 v1 r10.2).bind fun r11 =>
  (ckA 1646 (r11 + (4 : Int32))).bind fun k12 =>
  (f_X12_keep (Int64.toInt32 v3) (u2 r10.2 0 k12 (Int64.toInt32 v3))).bind fun r13 =>
  some (r13.1, r13.2)) else ((f_X12_refused r10.2).bind fun r14 =>
  some (r14.1, r14.2))
def f_X12_brick_j81 (v1 : Int32) (v3 : Int64) (V : VT) : Option (Int32 × VT) :=
  f_X12_brick_j86 v1 v3 (1 : Int32) V
def f_X12_brick_j38 (v1 : Int32) (v2 : Int32) (s1 : Int32) (V : VT) : Option (Int32 × VT) :=
  (f_X12_is s1 (1 : Int32) V).bind fun r6 =>
  if r6.1 = 0 then ((f_X12_bar0 v1 r6.2).bind fun r7 =>
  (ckA 1646 (r7 + (4 : Int32))).bind fun k8 =>
  (some ((Int32.toInt64 (r6.2 0 k8)) + (Int32.toInt64 v2))).bind fun a9 =>
  if (lg_cmp a9 (0 : Int64)) < 0 then (f_X12_brick_j81 v1 a9 r6.2) else (if (lg_cmp a9 (2000 : Int64)) ≤ 0 then (f_X12_brick_j86 v1 a9 (0 : Int32) r6.2) else (f_X12_brick_j81 v1 a9 r6.2))) else (f_X12_brick_j45 r6.2)
def f_X12_brick_j17 (v1 : Int32) (v2 : Int32) (s1 : Int32) (V : VT) : Option (Int32 × VT) :=
  (f_X12_is s1 (2 : Int32) V).bind fun r3 =>
  if r3.1 = 0 then ((f_X12_isRigged v1 r3.2).bind fun r5 =>
  if r5 = 0 then (f_X12_brick_j38 v1 v2 (1 : Int32) r3.2) else (f_X12_brick_j38 v1 v2 (0 : Int32) r3.2)) else (f_X12_brick_j45 r3.2)
def f_X12_brick (v1 : Int32) (v2 : Int32) (V : VT) : Option (Int32 × VT) :=
  (f_X12_begin V).bind fun r1 =>
  (f_X12_isBar v1 r1).bind fun r2 =>
  if r2 = 0 then (f_X12_brick_j17 v1 v2 (1 : Int32) r1) else (f_X12_brick_j17 v1 v2 (0 : Int32) r1)
def f_X12_shift_j67 (V : VT) : Option (Int32 × VT) :=
  (f_X12_refused V).bind fun r4 =>
  some (r4.1, r4.2)
def f_X12_shift_j478 (v1 : Int32) (v7 : Int32) (s1 : Int32) (V : VT) : Option (Int32 × VT) :=
  (f_X12_is s1 (15 : Int32) V).bind fun r26 =>
  if r26.1 = 0 then ((f_X12_keep v7 r26.2).bind fun r27 =>
  some (r27.1, r27.2)) else ((f_X12_takenBack (u2 r26.2 7 3 v1)).bind fun r28 =>
  some (r28.1, r28.2))
def f_X12_shift_j445 (v1 : Int32) (v7 : Int32) (v9 : Int32) (s1 : Int32) (V : VT) : Option (Int32 × VT) :=
  (f_X12_is s1 (14 : Int32) V).bind fun r24 =>
  if r24.1 = 0 then ((f_X12_isHeld v1 r24.2).bind fun r25 =>
  if r25 = 0 then (f_X12_shift_j478 v1 v7 (1 : Int32) r24.2) else (f_X12_shift_j478 v1 v7 (0 : Int32) r24.2)) else ((f_X12_takenBack (u2 r24.2 7 3 v9)).bind fun r29 =>
  some (r29.1, r29.2))
def f_X12_shift_j409 (v1 : Int32) (v7 : Int32) (v8 : Int32) (s1 : Int32) (V : VT) : Option (Int32 × VT) :=
  (f_X12_is s1 (13 : Int32) V).bind fun r22 =>
  if r22.1 = 0 then ((f_X12_scorched r22.2).bind fun r23 =>
  if r23 < 0 then (f_X12_shift_j445 v1 v7 r23 (0 : Int32) r22.2) else (f_X12_shift_j445 v1 v7 r23 (1 : Int32) r22.2)) else ((f_X12_takenBack (u2 r22.2 7 3 v8)).bind fun r30 =>
  some (r30.1, r30.2))
def f_X12_shift_B369 (v1 : Int32) (v3 : Int32) (v4 : Int32) (v7 : Int32) (V : VT) (x : Int32 × Int32) : Option ((Int32 × Int32) ⊕ (Int32 × VT)) :=
  if v4 ≤ x.2 then ((if x.1 < 0 then (f_X12_shift_j409 v1 v7 x.1 (0 : Int32) V) else (f_X12_shift_j409 v1 v7 x.1 (1 : Int32) V)).bind fun y21 => some (.inr y21)) else ((f_X12_clashing v1 (v3 + x.2) V).bind fun r31 =>
  (f_X12_lesser x.1 r31 V).bind fun r32 =>
  (some (x.2 + 1)).bind fun a33 =>
  some (.inl (r32, a33)))
def f_X12_shift_B334 (v1 : Int32) (v3 : Int32) (v4 : Int32) (v7 : Int32) (x : Int32 × VT) : Option ((Int32 × VT) ⊕ (Int32 × VT)) :=
  if v4 ≤ x.1 then (((some (-1 : Int32)).bind fun a19 =>
  (some (0 : Int32)).bind fun a20 =>
  lp (f_X12_shift_B369 v1 v3 v4 v7 x.2) fuel (a19, a20)).bind fun y18 => some (.inr y18)) else ((ckA 16 x.1).bind fun k34 =>
  (f_X12_put v1 (v3 + x.1) (x.2 5 k34) x.2).bind fun r35 =>
  (some (x.1 + 1)).bind fun a36 =>
  some (.inl (a36, r35)))
def f_X12_shift_B308 (v1 : Int32) (v2 : Int32) (v3 : Int32) (v4 : Int32) (v7 : Int32) (x : Int32 × VT) : Option ((Int32 × VT) ⊕ (Int32 × VT)) :=
  if v4 ≤ x.1 then (((some (0 : Int32)).bind fun a17 =>
  lp (f_X12_shift_B334 v1 v3 v4 v7) fuel (a17, x.2)).bind fun y16 => some (.inr y16)) else ((f_X12_put v1 (v2 + x.1) (0 : Int32) x.2).bind fun r37 =>
  (some (x.1 + 1)).bind fun a38 =>
  some (.inl (a38, r37)))
def f_X12_shift_j281 (v1 : Int32) (v2 : Int32) (v3 : Int32) (v4 : Int32) (v7 : Int32) (v8 : Int32) (s0 : Int32) (V : VT) : Option ((Int32 × Int32 × Int32 × VT) ⊕ (Int32 × VT)) :=
  (some (v8 + 1)).bind fun a43 =>
  some (.inl (s0, v7, a43, V))
def f_X12_shift_j276 (v1 : Int32) (v2 : Int32) (v3 : Int32) (v4 : Int32) (v7 : Int32) (v8 : Int32) (V : VT) : Option ((Int32 × Int32 × Int32 × VT) ⊕ (Int32 × VT)) :=
  f_X12_shift_j281 v1 v2 v3 v4 v7 v8 (1 : Int32) V
def f_X12_shift_j280 (v1 : Int32) (v2 : Int32) (v3 : Int32) (v4 : Int32) (v7 : Int32) (v8 : Int32) (V : VT) : Option ((Int32 × Int32 × Int32 × VT) ⊕ (Int32 × VT)) :=
  f_X12_shift_j281 v1 v2 v3 v4 v7 v8 (0 : Int32) V
def f_X12_shift_j252 (v1 : Int32) (v2 : Int32) (v3 : Int32) (v4 : Int32) (v6 : Int32) (v7 : Int32) (v8 : Int32) (s0 : Int32) (V : VT) : Option ((Int32 × Int32 × Int32 × VT) ⊕ (Int32 × VT)) :=
  if v6 = 0 then (if s0 = 0 then ((f_X12_held v1 (v3 + v8) V).bind fun r44 =>
  if r44 = 0 then (f_X12_shift_j280 v1 v2 v3 v4 v7 v8 V) else (f_X12_shift_j276 v1 v2 v3 v4 v7 v8 V)) else (f_X12_shift_j280 v1 v2 v3 v4 v7 v8 V)) else (f_X12_shift_j276 v1 v2 v3 v4 v7 v8 V)
def f_X12_shift_j251 (v1 : Int32) (v2 : Int32) (v3 : Int32) (v4 : Int32) (v6 : Int32) (v7 : Int32) (v8 : Int32) (V : VT) : Option ((Int32 × Int32 × Int32 × VT) ⊕ (Int32 × VT)) :=
  f_X12_shift_j252 v1 v2 v3 v4 v6 v7 v8 (0 : Int32) V
def f_X12_shift_j226 (v1 : Int32) (v2 : Int32) (v3 : Int32) (v4 : Int32) (v7 : Int32) (v8 : Int32) (s0 : Int32) (V : VT) : Option ((Int32 × Int32 × Int32 × VT) ⊕ (Int32 × VT)) :=
  if (v3 + v8) < v2 then (f_X12_shift_j251 v1 v2 v3 v4 s0 v7 v8 V) else (if (v2 + v4) ≤ (v3 + v8) then (f_X12_shift_j251 v1 v2 v3 v4 s0 v7 v8 V) else (f_X12_shift_j252 v1 v2 v3 v4 s0 v7 v8 (1 : Int32) V))
def f_X12_shift_j221 (v1 : Int32) (v2 : Int32) (v3 : Int32) (v4 : Int32) (v7 : Int32) (v8 : Int32) (V : VT) : Option ((Int32 × Int32 × Int32 × VT) ⊕ (Int32 × VT)) :=
  f_X12_shift_j226 v1 v2 v3 v4 v7 v8 (1 : Int32) V
def f_X12_shift_j225 (v1 : Int32) (v2 : Int32) (v3 : Int32) (v4 : Int32) (v7 : Int32) (v8 : Int32) (V : VT) : Option ((Int32 × Int32 × Int32 × VT) ⊕ (Int32 × VT)) :=
  f_X12_shift_j226 v1 v2 v3 v4 v7 v8 (0 : Int32) V
def f_X12_shift_j188 (v1 : Int32) (v2 : Int32) (v3 : Int32) (v4 : Int32) (v6 : Int32) (v8 : Int32) (v9 : Int32) (s0 : Int32) (s1 : Int32) (V : VT) : Option ((Int32 × Int32 × Int32 × VT) ⊕ (Int32 × VT)) :=
  (some (s0 + s1)).bind fun a42 =>
  if v6 = 0 then (if v9 = (1 : Int32) then (f_X12_shift_j221 v1 v2 v3 v4 a42 v8 V) else (if v9 < (2 : Int32) then (f_X12_shift_j225 v1 v2 v3 v4 a42 v8 V) else ((f_X12_thingIs (v9 - (2 : Int32)) (0 : Int32) V).bind fun r45 =>
  if r45 = (4 : Int32) then (f_X12_shift_j221 v1 v2 v3 v4 a42 v8 V) else (f_X12_shift_j225 v1 v2 v3 v4 a42 v8 V)))) else (f_X12_shift_j221 v1 v2 v3 v4 a42 v8 V)
def f_X12_shift_B148 (v1 : Int32) (v2 : Int32) (v3 : Int32) (v4 : Int32) (x : Int32 × Int32 × Int32 × VT) : Option ((Int32 × Int32 × Int32 × VT) ⊕ (Int32 × VT)) :=
  if v4 ≤ x.2.2.1 then (((f_X12_is x.1 (12 : Int32) x.2.2.2).bind fun r14 =>
  if r14.1 = 0 then ((some (0 : Int32)).bind fun a15 =>
  lp (f_X12_shift_B308 v1 v2 v3 v4 x.2.1) fuel (a15, r14.2)) else ((f_X12_refused r14.2).bind fun r39 =>
  some (r39.1, r39.2))).bind fun y13 => some (.inr y13)) else ((f_X12_held v1 (v2 + x.2.2.1) x.2.2.2).bind fun r40 =>
  (ckA 16 x.2.2.1).bind fun k41 =>
  if r40 < (2 : Int32) then (f_X12_shift_j188 v1 v2 v3 v4 x.1 x.2.2.1 r40 x.2.1 (0 : Int32) (u2 x.2.2.2 5 k41 r40)) else (f_X12_shift_j188 v1 v2 v3 v4 x.1 x.2.2.1 r40 x.2.1 (1 : Int32) (u2 x.2.2.2 5 k41 r40)))
def f_X12_shift_j122 (v1 : Int32) (v2 : Int32) (v3 : Int32) (v4 : Int32) (s0 : Int32) (V : VT) : Option (Int32 × VT) :=
  (f_X12_is s0 (5 : Int32) V).bind fun r9 =>
  if r9.1 = 0 then ((some (0 : Int32)).bind fun a10 =>
  (some (0 : Int32)).bind fun a11 =>
  (some (0 : Int32)).bind fun a12 =>
  lp (f_X12_shift_B148 v1 v2 v3 v4) fuel (a10, a11, a12, r9.2)) else ((f_X12_refused r9.2).bind fun r46 =>
  some (r46.1, r46.2))
def f_X12_shift_j117 (v1 : Int32) (v2 : Int32) (v3 : Int32) (v4 : Int32) (V : VT) : Option (Int32 × VT) :=
  f_X12_shift_j122 v1 v2 v3 v4 (1 : Int32) V
def f_X12_shift_j59 (v1 : Int32) (v2 : Int32) (v3 : Int32) (v4 : Int32) (s1 : Int32) (V : VT) : Option (Int32 × VT) :=
  (f_X12_is s1 (10 : Int32) V).bind fun r8 =>
  if r8.1 = 0 then (if v4 < 0 then (f_X12_shift_j117 v1 v2 v3 v4 r8.2) else (if v2 < 0 then (f_X12_shift_j117 v1 v2 v3 v4 r8.2) else (if v3 < 0 then (f_X12_shift_j117 v1 v2 v3 v4 r8.2) else ((f_X12_places v1 r8.2).bind fun r47 =>
  if 0 < (lg_cmp ((Int32.toInt64 v2) + (Int32.toInt64 v4)) (Int32.toInt64 r47)) then (f_X12_shift_j117 v1 v2 v3 v4 r8.2) else ((f_X12_places v1 r8.2).bind fun r48 =>
  if (lg_cmp ((Int32.toInt64 v3) + (Int32.toInt64 v4)) (Int32.toInt64 r48)) ≤ 0 then (f_X12_shift_j122 v1 v2 v3 v4 (0 : Int32) r8.2) else (f_X12_shift_j117 v1 v2 v3 v4 r8.2)))))) else (f_X12_shift_j67 r8.2)
def f_X12_shift_j38 (v1 : Int32) (v2 : Int32) (v3 : Int32) (v4 : Int32) (s1 : Int32) (V : VT) : Option (Int32 × VT) :=
  (f_X12_is s1 (1 : Int32) V).bind fun r6 =>
  if r6.1 = 0 then ((f_X12_height v1 r6.2).bind fun r7 =>
  if r7 = 0 then (f_X12_shift_j59 v1 v2 v3 v4 (0 : Int32) r6.2) else (f_X12_shift_j59 v1 v2 v3 v4 (1 : Int32) r6.2)) else (f_X12_shift_j67 r6.2)
def f_X12_shift_j17 (v1 : Int32) (v2 : Int32) (v3 : Int32) (v4 : Int32) (s1 : Int32) (V : VT) : Option (Int32 × VT) :=
  (f_X12_is s1 (2 : Int32) V).bind fun r3 =>
  if r3.1 = 0 then ((f_X12_isRigged v1 r3.2).bind fun r5 =>
  if r5 = 0 then (f_X12_shift_j38 v1 v2 v3 v4 (1 : Int32) r3.2) else (f_X12_shift_j38 v1 v2 v3 v4 (0 : Int32) r3.2)) else (f_X12_shift_j67 r3.2)
def f_X12_shift (v1 : Int32) (v2 : Int32) (v3 : Int32) (v4 : Int32) (V : VT) : Option (Int32 × VT) :=
  (f_X12_begin V).bind fun r1 =>
  (f_X12_isBar v1 r1).bind fun r2 =>
  if r2 = 0 then (f_X12_shift_j17 v1 v2 v3 v4 (1 : Int32) r1) else (f_X12_shift_j17 v1 v2 v3 v4 (0 : Int32) r1)
def f_X12_flag_j51 (V : VT) : Option (Int32 × VT) :=
  (f_X12_refused V).bind fun r4 =>
  some (r4.1, r4.2)
def f_X12_flag_j43 (v1 : Int32) (v2 : Int32) (s1 : Int32) (V : VT) : Option (Int32 × VT) :=
  (f_X12_is s1 (7 : Int32) V).bind fun r6 =>
  if r6.1 = 0 then ((ckA 1646 ((1432 : Int32) + v1)).bind fun k7 =>
  (some (r6.2 0 k7)).bind fun a8 =>
  (ckA 1646 ((1432 : Int32) + v1)).bind fun k9 =>
  (f_X12_keep a8 (u2 r6.2 0 k9 v2)).bind fun r10 =>
  some (r10.1, r10.2)) else (f_X12_flag_j51 r6.2)
def f_X12_flag_j20 (v1 : Int32) (v2 : Int32) (s1 : Int32) (V : VT) : Option (Int32 × VT) :=
  (f_X12_is s1 (2 : Int32) V).bind fun r3 =>
  if r3.1 = 0 then ((f_X12_in v2 (0 : Int32) (99 : Int32) r3.2).bind fun r5 =>
  if r5 = 0 then (f_X12_flag_j43 v1 v2 (1 : Int32) r3.2) else (f_X12_flag_j43 v1 v2 (0 : Int32) r3.2)) else (f_X12_flag_j51 r3.2)
def f_X12_flag (v1 : Int32) (v2 : Int32) (V : VT) : Option (Int32 × VT) :=
  (f_X12_begin V).bind fun r1 =>
  (f_X12_in v1 (0 : Int32) (7 : Int32) r1).bind fun r2 =>
  if r2 = 0 then (f_X12_flag_j20 v1 v2 (1 : Int32) r1) else (f_X12_flag_j20 v1 v2 (0 : Int32) r1)
def f_X12_wave_j54 (V : VT) : Option (Int32 × VT) :=
  (f_X12_refused V).bind fun r4 =>
  some (r4.1, r4.2)
def f_X12_wave_j46 (v1 : Int32) (s1 : Int32) (V : VT) : Option (Int32 × VT) :=
  (f_X12_is s1 (6 : Int32) V).bind fun r6 =>
  if r6.1 = 0 then ((ckA 1646 ((1432 : Int32) + v1)).bind fun k7 =>
  some ((r6.2 0 k7), r6.2)) else (f_X12_wave_j54 r6.2)
def f_X12_wave_j20 (v1 : Int32) (s1 : Int32) (V : VT) : Option (Int32 × VT) :=
  (f_X12_is s1 (2 : Int32) V).bind fun r3 =>
  if r3.1 = 0 then ((ckA 1646 ((1432 : Int32) + v1)).bind fun k5 =>
  if (r3.2 0 k5) = 0 then (f_X12_wave_j46 v1 (1 : Int32) r3.2) else (f_X12_wave_j46 v1 (0 : Int32) r3.2)) else (f_X12_wave_j54 r3.2)
def f_X12_wave (v1 : Int32) (V : VT) : Option (Int32 × VT) :=
  (f_X12_begin V).bind fun r1 =>
  (f_X12_in v1 (0 : Int32) (7 : Int32) r1).bind fun r2 =>
  if r2 = 0 then (f_X12_wave_j20 v1 (1 : Int32) r1) else (f_X12_wave_j20 v1 (0 : Int32) r1)
def f_X12_cue_j45 (V : VT) : Option (Int32 × VT) :=
  (f_X12_refused V).bind fun r4 =>
  some (r4.1, r4.2)
def f_X12_cue_j131 (V : VT) : Option (Int32 × VT) :=
  (f_X12_refused V).bind fun r8 =>
  some (r8.1, r8.2)
def f_X12_cue_j123 (v1 : Int32) (v2 : Int32) (v3 : Int32) (v4 : Int32) (s1 : Int32) (V : VT) : Option (Int32 × VT) :=
  (f_X12_is s1 (11 : Int32) V).bind fun r10 =>
  if r10.1 = 0 then ((ckA 1646 (1642 : Int32)).bind fun k11 =>
  (some ((1132 : Int32) + ((5 : Int32) * (r10.2 0 k11)))).bind fun a12 =>
  (ckA 1646 a12).bind fun k13 =>
  (ckA 1646 (a12 + (1 : Int32))).bind fun k14 =>
  (ckA 1646 (a12 + (2 : Int32))).bind fun k15 =>
  (ckA 1646 (a12 + (3 : Int32))).bind fun k16 =>
  (ckA 1646 (a12 + (4 : Int32))).bind fun k17 =>
  (ckA 1646 (1642 : Int32)).bind fun k18 =>
  (ckA 1646 (1642 : Int32)).bind fun k19 =>
  (ckA 1646 (1642 : Int32)).bind fun k20 =>
  (f_X12_keep (((u2 (u2 (u2 (u2 (u2 (u2 r10.2 0 k13 v1) 0 k14 v2) 0 k15 v3) 0 k16 v4) 0 k17 (0 : Int32)) 0 k19 (((u2 (u2 (u2 (u2 (u2 r10.2 0 k13 v1) 0 k14 v2) 0 k15 v3) 0 k16 v4) 0 k17 (0 : Int32)) 0 k18) + (1 : Int32))) 0 k20) - (1 : Int32)) (u2 (u2 (u2 (u2 (u2 (u2 r10.2 0 k13 v1) 0 k14 v2) 0 k15 v3) 0 k16 v4) 0 k17 (0 : Int32)) 0 k19 (((u2 (u2 (u2 (u2 (u2 r10.2 0 k13 v1) 0 k14 v2) 0 k15 v3) 0 k16 v4) 0 k17 (0 : Int32)) 0 k18) + (1 : Int32)))).bind fun r21 =>
  some (r21.1, r21.2)) else (f_X12_cue_j131 r10.2)
def f_X12_cue_j91 (v1 : Int32) (v2 : Int32) (v3 : Int32) (v4 : Int32) (s0 : Int32) (V : VT) : Option (Int32 × VT) :=
  (f_X12_is s0 (7 : Int32) V).bind fun r7 =>
  if r7.1 = 0 then ((ckA 1646 (1642 : Int32)).bind fun k9 =>
  if (r7.2 0 k9) = (60 : Int32) then (f_X12_cue_j123 v1 v2 v3 v4 (1 : Int32) r7.2) else (f_X12_cue_j123 v1 v2 v3 v4 (0 : Int32) r7.2)) else (f_X12_cue_j131 r7.2)
def f_X12_cue_j86 (v1 : Int32) (v2 : Int32) (v3 : Int32) (v4 : Int32) (V : VT) : Option (Int32 × VT) :=
  f_X12_cue_j91 v1 v2 v3 v4 (1 : Int32) V
def f_X12_cue_j38 (v1 : Int32) (v2 : Int32) (v3 : Int32) (v4 : Int32) (s1 : Int32) (V : VT) : Option (Int32 × VT) :=
  (f_X12_is s1 (1 : Int32) V).bind fun r6 =>
  if r6.1 = 0 then (if v2 = 0 then (f_X12_cue_j86 v1 v2 v3 v4 r6.2) else ((f_X12_in v2 (-5 : Int32) (5 : Int32) r6.2).bind fun r22 =>
  if r22 = 0 then (f_X12_cue_j86 v1 v2 v3 v4 r6.2) else ((f_X12_in v3 (0 : Int32) (1000000 : Int32) r6.2).bind fun r23 =>
  if r23 = 0 then (f_X12_cue_j86 v1 v2 v3 v4 r6.2) else ((f_X12_in v4 (1 : Int32) (200 : Int32) r6.2).bind fun r24 =>
  if r24 = 0 then (f_X12_cue_j86 v1 v2 v3 v4 r6.2) else (f_X12_cue_j91 v1 v2 v3 v4 (0 : Int32) r6.2))))) else (f_X12_cue_j45 r6.2)
def f_X12_cue_j17 (v1 : Int32) (v2 : Int32) (v3 : Int32) (v4 : Int32) (s1 : Int32) (V : VT) : Option (Int32 × VT) :=
  (f_X12_is s1 (2 : Int32) V).bind fun r3 =>
  if r3.1 = 0 then ((f_X12_isRigged v1 r3.2).bind fun r5 =>
  if r5 = 0 then (f_X12_cue_j38 v1 v2 v3 v4 (1 : Int32) r3.2) else (f_X12_cue_j38 v1 v2 v3 v4 (0 : Int32) r3.2)) else (f_X12_cue_j45 r3.2)
def f_X12_cue (v1 : Int32) (v2 : Int32) (v3 : Int32) (v4 : Int32) (V : VT) : Option (Int32 × VT) :=
  (f_X12_begin V).bind fun r1 =>
  (f_X12_isBar v1 r1).bind fun r2 =>
  if r2 = 0 then (f_X12_cue_j17 v1 v2 v3 v4 (1 : Int32) r1) else (f_X12_cue_j17 v1 v2 v3 v4 (0 : Int32) r1)
def f_X12_hush_j45 (V : VT) : Option (Int32 × VT) :=
  (f_X12_refused V).bind fun r4 =>
  some (r4.1, r4.2)
def f_X12_hush_j105 (v1 : Int32) (v2 : Int32) (v3 : Int32) (V : VT) : Option ((Int32 × Int32 × VT) ⊕ (Int32 × VT)) :=
  (some (v3 + 1)).bind fun a13 =>
  some (.inl (v2, a13, V))
def f_X12_hush_B54 (v1 : Int32) (x : Int32 × Int32 × VT) : Option ((Int32 × Int32 × VT) ⊕ (Int32 × VT)) :=
  (ckA 1646 (1642 : Int32)).bind fun k9 =>
  if (x.2.2 0 k9) ≤ x.2.1 then (((f_X12_keep x.1 x.2.2).bind fun r11 =>
  some (r11.1, r11.2)).bind fun y10 => some (.inr y10)) else ((f_X12_cueIs x.2.1 (0 : Int32) x.2.2).bind fun r12 =>
  if r12 = v1 then ((f_X12_isNotOver x.2.1 x.2.2).bind fun r14 =>
  if r14 = 0 then (f_X12_hush_j105 v1 x.1 x.2.1 x.2.2) else ((ckA 1646 (((1132 : Int32) + ((5 : Int32) * x.2.1)) + (4 : Int32))).bind fun k15 =>
  (some (x.1 + 1)).bind fun a16 =>
  f_X12_hush_j105 v1 a16 x.2.1 (u2 x.2.2 0 k15 (1 : Int32)))) else (f_X12_hush_j105 v1 x.1 x.2.1 x.2.2))
def f_X12_hush_j38 (v1 : Int32) (s1 : Int32) (V : VT) : Option (Int32 × VT) :=
  (f_X12_is s1 (1 : Int32) V).bind fun r6 =>
  if r6.1 = 0 then ((some (0 : Int32)).bind fun a7 =>
  (some (0 : Int32)).bind fun a8 =>
  lp (f_X12_hush_B54 v1) fuel (a7, a8, r6.2)) else (f_X12_hush_j45 r6.2)
def f_X12_hush_j17 (v1 : Int32) (s1 : Int32) (V : VT) : Option (Int32 × VT) :=
  (f_X12_is s1 (2 : Int32) V).bind fun r3 =>
  if r3.1 = 0 then ((f_X12_isRigged v1 r3.2).bind fun r5 =>
  if r5 = 0 then (f_X12_hush_j38 v1 (1 : Int32) r3.2) else (f_X12_hush_j38 v1 (0 : Int32) r3.2)) else (f_X12_hush_j45 r3.2)
def f_X12_hush (v1 : Int32) (V : VT) : Option (Int32 × VT) :=
  (f_X12_begin V).bind fun r1 =>
  (f_X12_isBar v1 r1).bind fun r2 =>
  if r2 = 0 then (f_X12_hush_j17 v1 (1 : Int32) r1) else (f_X12_hush_j17 v1 (0 : Int32) r1)
def f_X12_go_B37 (v1 : Int32) (x : Int32 × Int32 × VT) : Option ((Int32 × Int32 × VT) ⊕ (Int32 × VT)) :=
  if v1 ≤ x.2.1 then (((ckA 1646 (1644 : Int32)).bind fun k7 =>
  (ckA 1646 (1644 : Int32)).bind fun k8 =>
  (f_X12_keep x.1 (u2 x.2.2 0 k8 ((x.2.2 0 k7) + x.1))).bind fun r9 =>
  some (r9.1, r9.2)).bind fun y6 => some (.inr y6)) else ((f_X12_tick x.2.2).bind fun r10 =>
  (some (x.1 + r10.1)).bind fun a11 =>
  (some (x.2.1 + 1)).bind fun a12 =>
  some (.inl (a11, a12, r10.2)))
def f_X12_go_j20 (v1 : Int32) (s1 : Int32) (V : VT) : Option (Int32 × VT) :=
  (f_X12_is s1 (7 : Int32) V).bind fun r3 =>
  if r3.1 = 0 then ((some (0 : Int32)).bind fun a4 =>
  (some (0 : Int32)).bind fun a5 =>
  lp (f_X12_go_B37 v1) fuel (a4, a5, r3.2)) else ((f_X12_refused r3.2).bind fun r13 =>
  some (r13.1, r13.2))
def f_X12_go (v1 : Int32) (V : VT) : Option (Int32 × VT) :=
  (f_X12_begin V).bind fun r1 =>
  (f_X12_in v1 (1 : Int32) (100 : Int32) r1).bind fun r2 =>
  if r2 = 0 then (f_X12_go_j20 v1 (1 : Int32) r1) else (f_X12_go_j20 v1 (0 : Int32) r1)
def f_X12_undo_B48 (x : Int32 × VT) : Option ((Int32 × VT) ⊕ (Int32 × VT)) :=
  if (1646 : Int32) ≤ x.1 then ((some ((x.2 7 0), x.2)).bind fun y3 => some (.inr y3)) else ((ckA 98760 (((1646 : Int32) * (x.2 7 0)) + x.1)).bind fun k4 =>
  (ckA 1646 x.1).bind fun k5 =>
  (some (x.1 + 1)).bind fun a6 =>
  some (.inl (a6, (u2 x.2 0 k5 (x.2 1 k4)))))
def f_X12_undo_j23 (s1 : Int32) (V : VT) : Option (Int32 × VT) :=
  (f_X12_is s1 (17 : Int32) V).bind fun r1 =>
  if r1.1 = 0 then ((some (0 : Int32)).bind fun a2 =>
  lp (f_X12_undo_B48) fuel (a2, (u2 r1.2 7 0 ((r1.2 7 0) - (1 : Int32))))) else ((f_X12_refused r1.2).bind fun r7 =>
  some (r7.1, r7.2))
def f_X12_undo (V : VT) : Option (Int32 × VT) :=
  if ((u2 (u2 V 7 2 (0 : Int32)) 7 3 (0 : Int32)) 7 0) = 0 then (f_X12_undo_j23 (1 : Int32) (u2 (u2 V 7 2 (0 : Int32)) 7 3 (0 : Int32))) else (f_X12_undo_j23 (0 : Int32) (u2 (u2 V 7 2 (0 : Int32)) 7 3 (0 : Int32)))
def f_X12_tell_j50 (V : VT) : Option (Int32 × VT) :=
  (f_X12_refused V).bind fun r4 =>
  some (r4.1, r4.2)
def f_X12_tell_j42 (v1 : Int32) (v2 : Int32) (v3 : Int32) (v4 : Int32) (v5 : Int32) (s1 : Int32) (V : VT) : Option (Int32 × VT) :=
  (f_X12_is s1 (11 : Int32) V).bind fun r5 =>
  if r5.1 = 0 then ((ckA 200 ((5 : Int32) * (r5.2 7 1))).bind fun k6 =>
  (ckA 200 (((5 : Int32) * ((u2 r5.2 4 k6 v1) 7 1)) + (1 : Int32))).bind fun k7 =>
  (ckA 200 (((5 : Int32) * ((u2 (u2 r5.2 4 k6 v1) 4 k7 v2) 7 1)) + (2 : Int32))).bind fun k8 =>
  (ckA 200 (((5 : Int32) * ((u2 (u2 (u2 r5.2 4 k6 v1) 4 k7 v2) 4 k8 v3) 7 1)) + (3 : Int32))).bind fun k9 =>
  (ckA 200 (((5 : Int32) * ((u2 (u2 (u2 (u2 r5.2 4 k6 v1) 4 k7 v2) 4 k8 v3) 4 k9 v4) 7 1)) + (4 : Int32))).bind fun k10 =>
  some (((u2 (u2 (u2 (u2 (u2 (u2 r5.2 4 k6 v1) 4 k7 v2) 4 k8 v3) 4 k9 v4) 4 k10 v5) 7 1 (((u2 (u2 (u2 (u2 (u2 r5.2 4 k6 v1) 4 k7 v2) 4 k8 v3) 4 k9 v4) 4 k10 v5) 7 1) + (1 : Int32))) 7 1), (u2 (u2 (u2 (u2 (u2 (u2 r5.2 4 k6 v1) 4 k7 v2) 4 k8 v3) 4 k9 v4) 4 k10 v5) 7 1 (((u2 (u2 (u2 (u2 (u2 r5.2 4 k6 v1) 4 k7 v2) 4 k8 v3) 4 k9 v4) 4 k10 v5) 7 1) + (1 : Int32))))) else (f_X12_tell_j50 r5.2)
def f_X12_tell_j19 (v1 : Int32) (v2 : Int32) (v3 : Int32) (v4 : Int32) (v5 : Int32) (s1 : Int32) (V : VT) : Option (Int32 × VT) :=
  (f_X12_is s1 (7 : Int32) V).bind fun r3 =>
  if r3.1 = 0 then (if (r3.2 7 1) = (40 : Int32) then (f_X12_tell_j42 v1 v2 v3 v4 v5 (1 : Int32) r3.2) else (f_X12_tell_j42 v1 v2 v3 v4 v5 (0 : Int32) r3.2)) else (f_X12_tell_j50 r3.2)
def f_X12_tell (v1 : Int32) (v2 : Int32) (v3 : Int32) (v4 : Int32) (v5 : Int32) (V : VT) : Option (Int32 × VT) :=
  (f_X12_begin V).bind fun r1 =>
  (f_X12_in v1 (1 : Int32) (5 : Int32) r1).bind fun r2 =>
  if r2 = 0 then (f_X12_tell_j19 v1 v2 v3 v4 v5 (1 : Int32) r1) else (f_X12_tell_j19 v1 v2 v3 v4 v5 (0 : Int32) r1)
def f_X12_forge_j65 (V : VT) : Option (Int32 × VT) :=
  (f_X12_refused V).bind fun r3 =>
  some (r3.1, r3.2)
def f_X12_forge_j57 (v1 : Int32) (v2 : Int32) (v3 : Int32) (s1 : Int32) (V : VT) : Option (Int32 × VT) :=
  (f_X12_is s1 (7 : Int32) V).bind fun r4 =>
  if r4.1 = 0 then ((ckA 200 (((5 : Int32) * v1) + v2)).bind fun k5 =>
  (some (r4.2 4 k5)).bind fun a6 =>
  (ckA 200 (((5 : Int32) * v1) + v2)).bind fun k7 =>
  some (a6, (u2 r4.2 4 k7 v3))) else (f_X12_forge_j65 r4.2)
def f_X12_forge_j56 (v1 : Int32) (v2 : Int32) (v3 : Int32) (V : VT) : Option (Int32 × VT) :=
  f_X12_forge_j57 v1 v2 v3 (0 : Int32) V
def f_X12_forge_j31 (v1 : Int32) (v2 : Int32) (v3 : Int32) (s1 : Int32) (V : VT) : Option (Int32 × VT) :=
  (f_X12_is s1 (2 : Int32) V).bind fun r2 =>
  if r2.1 = 0 then (if v2 = 0 then ((f_X12_in v3 (1 : Int32) (5 : Int32) r2.2).bind fun r8 =>
  if r8 = 0 then (f_X12_forge_j57 v1 v2 v3 (1 : Int32) r2.2) else (f_X12_forge_j56 v1 v2 v3 r2.2)) else (f_X12_forge_j56 v1 v2 v3 r2.2)) else (f_X12_forge_j65 r2.2)
def f_X12_forge_j26 (v1 : Int32) (v2 : Int32) (v3 : Int32) (V : VT) : Option (Int32 × VT) :=
  f_X12_forge_j31 v1 v2 v3 (1 : Int32) V
def f_X12_forge (v1 : Int32) (v2 : Int32) (v3 : Int32) (V : VT) : Option (Int32 × VT) :=
  (f_X12_begin V).bind fun r1 =>
  if v1 < 0 then (f_X12_forge_j26 v1 v2 v3 r1) else (if (r1 7 1) ≤ v1 then (f_X12_forge_j26 v1 v2 v3 r1) else ((f_X12_in v2 (0 : Int32) (4 : Int32) r1).bind fun r9 =>
  if r9 = 0 then (f_X12_forge_j26 v1 v2 v3 r1) else (f_X12_forge_j31 v1 v2 v3 (0 : Int32) r1)))
def f_X12_clear (V : VT) : Option (Int32 × VT) :=
  (f_X12_begin V).bind fun r1 =>
  (some (r1 7 1)).bind fun a2 =>
  some (a2, (u2 r1 7 1 (0 : Int32)))
def f_X12_done (v1 : Int32) (V : VT) : Option (Int32 × VT) :=
  (ckA 200 (((5 : Int32) * v1) + (1 : Int32))).bind fun k1 =>
  (some (V 4 k1)).bind fun a2 =>
  (ckA 200 (((5 : Int32) * v1) + (2 : Int32))).bind fun k3 =>
  (some (V 4 k3)).bind fun a4 =>
  (ckA 200 (((5 : Int32) * v1) + (3 : Int32))).bind fun k5 =>
  (some (V 4 k5)).bind fun a6 =>
  (ckA 200 ((5 : Int32) * v1)).bind fun k7 =>
  if (V 4 k7) = 1 then ((f_X12_hang a2 a4 a6 V).bind fun r8 =>
  some (r8.1, r8.2)) else if (V 4 k7) = 2 then ((f_X12_strike a2 V).bind fun r9 =>
  some (r9.1, r9.2)) else if (V 4 k7) = 3 then ((f_X12_brick a2 a4 V).bind fun r10 =>
  some (r10.1, r10.2)) else if (V 4 k7) = 4 then ((ckA 1646 (1645 : Int32)).bind fun k11 =>
  (f_X12_cue a2 a4 (V 0 k11) (4 : Int32) V).bind fun r12 =>
  some (r12.1, r12.2)) else ((f_X12_go a2 V).bind fun r13 =>
  some (r13.1, r13.2))
def f_X12_check_B168 (v1 : Int32) (v2 : Int32) (v3 : Int32) (x : Int32 × VT) : Option ((Int32 × VT) ⊕ (Int32 × VT)) :=
  if (98760 : Int32) ≤ x.1 then ((some (v3, (u2 (u2 x.2 7 0 v1) 7 4 v2))).bind fun y13 => some (.inr y13)) else ((ckA 98760 x.1).bind fun k14 =>
  (ckA 98760 x.1).bind fun k15 =>
  (some (x.1 + 1)).bind fun a16 =>
  some (.inl (a16, (u2 x.2 1 k15 (x.2 6 k14)))))
def f_X12_check_B137 (v1 : Int32) (v2 : Int32) (v3 : Int32) (x : Int32 × VT) : Option ((Int32 × VT) ⊕ (Int32 × VT)) :=
  if (1646 : Int32) ≤ x.1 then (((some (0 : Int32)).bind fun a12 =>
  lp (f_X12_check_B168 v1 v2 v3) fuel (a12, x.2)).bind fun y11 => some (.inr y11)) else ((ckA 1646 x.1).bind fun k17 =>
  (ckA 1646 x.1).bind fun k18 =>
  (some (x.1 + 1)).bind fun a19 =>
  some (.inl (a19, (u2 x.2 0 k18 (x.2 3 k17)))))
def f_X12_check_j134 (v1 : Int32) (v2 : Int32) (v3 : Int32) (V : VT) : Option (Int32 × VT) :=
  (some (0 : Int32)).bind fun a10 =>
  lp (f_X12_check_B137 v1 v2 v3) fuel (a10, V)
def f_X12_check_j118 (v1 : Int32) (v2 : Int32) (v3 : Int32) (V : VT) : Option ((Int32 × VT) ⊕ (Int32 × VT)) :=
  if (V 7 2) = 0 then ((some (v3 + 1)).bind fun a21 =>
  some (.inl (a21, V))) else ((f_X12_check_j134 v1 v2 v3 V).bind fun y22 => some (.inr y22))
def f_X12_check_B69 (v1 : Int32) (v2 : Int32) (x : Int32 × VT) : Option ((Int32 × VT) ⊕ (Int32 × VT)) :=
  if (x.2 7 1) ≤ x.1 then ((f_X12_check_j134 v1 v2 x.1 x.2).bind fun y9 => some (.inr y9)) else ((f_X12_done x.1 x.2).bind fun r20 =>
  if (r20.2 7 2) = 0 then ((ckA 200 (((5 : Int32) * x.1) + (4 : Int32))).bind fun k23 =>
  if r20.1 = (r20.2 4 k23) then (f_X12_check_j118 v1 v2 x.1 r20.2) else (f_X12_check_j118 v1 v2 x.1 (u2 (u2 r20.2 7 2 (19 : Int32)) 7 3 r20.1))) else (f_X12_check_j118 v1 v2 x.1 r20.2))
def f_X12_check_B33 (x : Int32 × VT) : Option ((Int32 × VT) ⊕ (Int32 × VT)) :=
  if (98760 : Int32) ≤ x.1 then (((some (x.2 7 0)).bind fun a6 =>
  (some (x.2 7 4)).bind fun a7 =>
  (some (0 : Int32)).bind fun a8 =>
  lp (f_X12_check_B69 a6 a7) fuel (a8, x.2)).bind fun y5 => some (.inr y5)) else ((ckA 98760 x.1).bind fun k24 =>
  (ckA 98760 x.1).bind fun k25 =>
  (some (x.1 + 1)).bind fun a26 =>
  some (.inl (a26, (u2 x.2 6 k25 (x.2 1 k24)))))
def f_X12_check_B6 (x : Int32 × VT) : Option ((Int32 × VT) ⊕ (Int32 × VT)) :=
  if (1646 : Int32) ≤ x.1 then (((some (0 : Int32)).bind fun a4 =>
  lp (f_X12_check_B33) fuel (a4, x.2)).bind fun y3 => some (.inr y3)) else ((ckA 1646 x.1).bind fun k27 =>
  (ckA 1646 x.1).bind fun k28 =>
  (some (x.1 + 1)).bind fun a29 =>
  some (.inl (a29, (u2 x.2 3 k28 (x.2 0 k27)))))
def f_X12_check (V : VT) : Option (Int32 × VT) :=
  (f_X12_begin V).bind fun r1 =>
  (some (0 : Int32)).bind fun a2 =>
  lp (f_X12_check_B6) fuel (a2, r1)
def f_X12_at_j33 (V : VT) : Option (Int32) :=
  some ((-1000000000 : Int32))
def f_X12_at (v1 : Int32) (v2 : Int32) (V : VT) : Option (Int32) :=
  (f_X12_isBar v1 V).bind fun r1 =>
  if r1 = 0 then (f_X12_at_j33 V) else ((f_X12_isRigged v1 V).bind fun r2 =>
  if r2 = 0 then (f_X12_at_j33 V) else ((f_X12_isPlace v1 v2 V).bind fun r3 =>
  if r3 = 0 then (f_X12_at_j33 V) else ((f_X12_held v1 v2 V).bind fun r4 =>
  some (r4))))
def f_X12_of (v1 : Int32) (v2 : Int32) (V : VT) : Option (Int32) :=
  (f_X12_isTold v1 V).bind fun r1 =>
  if r1 = 0 then (some ((-1000000000 : Int32))) else ((f_X12_barWith v1 V).bind fun r2 =>
  if v2 = 0 then ((f_X12_thingIs v1 (0 : Int32) V).bind fun r3 =>
  some (r3)) else if v2 = 1 then ((f_X12_thingIs v1 (1 : Int32) V).bind fun r4 =>
  some (r4)) else if v2 = 2 then ((f_X12_thingIs v1 (2 : Int32) V).bind fun r5 =>
  some (r5)) else if v2 = 3 then (some (r2)) else if v2 = 4 then (if r2 = (-1000000000 : Int32) then (some ((-1000000000 : Int32))) else ((f_X12_placeOn r2 v1 V).bind fun r6 =>
  some (r6))) else if v2 = 5 then ((f_X12_grams v1 V).bind fun r7 =>
  some (r7)) else if v2 = 6 then ((f_X12_isHot v1 V).bind fun r8 =>
  if r8 = 0 then (some ((0 : Int32))) else (some ((1 : Int32)))) else (some ((-1000000000 : Int32))))
def f_X12_barOf (v1 : Int32) (v2 : Int32) (V : VT) : Option (Int32) :=
  (f_X12_isBar v1 V).bind fun r1 =>
  if r1 = 0 then (some ((-1000000000 : Int32))) else ((f_X12_isRigged v1 V).bind fun r2 =>
  if r2 = 0 then (some ((-1000000000 : Int32))) else (if v2 = 0 then ((f_X12_places v1 V).bind fun r3 =>
  some (r3)) else if v2 = 1 then ((f_X12_gap v1 V).bind fun r4 =>
  some (r4)) else if v2 = 2 then ((f_X12_height v1 V).bind fun r5 =>
  some (r5)) else if v2 = 3 then ((f_X12_bar0 v1 V).bind fun r6 =>
  (ckA 1646 (r6 + (4 : Int32))).bind fun k7 =>
  some ((V 0 k7))) else if v2 = 4 then ((f_X12_things v1 V).bind fun r8 =>
  some (r8)) else if v2 = 5 then ((f_X12_lines v1 V).bind fun r9 =>
  some (r9)) else if v2 = 6 then ((f_X12_firstOfGroup v1 V).bind fun r10 =>
  some (r10)) else if v2 = 7 then ((f_X12_isHeld v1 V).bind fun r11 =>
  if r11 = 0 then (some ((0 : Int32))) else (some ((1 : Int32)))) else if v2 = 8 then ((f_X12_bar0 v1 V).bind fun r12 =>
  (ckA 1646 (r12 + (4 : Int32))).bind fun k13 =>
  (f_X12_isBalanced v1 (V 0 k13) V).bind fun r14 =>
  if r14 = 0 then (some ((0 : Int32))) else (some ((1 : Int32)))) else (some ((-1000000000 : Int32)))))
def f_X12_load_j24 (V : VT) : Option (UInt64) :=
  some (FP.dconst0)
def f_X12_load (v1 : Int32) (V : VT) : Option (UInt64) :=
  (f_X12_isBar v1 V).bind fun r1 =>
  if r1 = 0 then (f_X12_load_j24 V) else ((f_X12_isRigged v1 V).bind fun r2 =>
  if r2 = 0 then (f_X12_load_j24 V) else ((f_X12_loadOf v1 V).bind fun r3 =>
  (ckG (FP.f2d r3)).bind fun w4 =>
  some (w4)))
def f_X12_share_j24 (V : VT) : Option (Int64) :=
  some ((-1000000000 : Int64))
def f_X12_share (v1 : Int32) (V : VT) : Option (Int64) :=
  (f_X12_isLineTold v1 V).bind fun r1 =>
  if r1 = 0 then (f_X12_share_j24 V) else ((f_X12_isLineThere v1 V).bind fun r2 =>
  if r2 = 0 then (f_X12_share_j24 V) else ((f_X12_shareOf v1 V).bind fun r3 =>
  some (r3)))
def f_X12_strength_j24 (V : VT) : Option (Int32) :=
  some ((-1000000000 : Int32))
def f_X12_strength (v1 : Int32) (V : VT) : Option (Int32) :=
  (f_X12_isLineTold v1 V).bind fun r1 =>
  if r1 = 0 then (f_X12_strength_j24 V) else ((f_X12_isLineThere v1 V).bind fun r2 =>
  if r2 = 0 then (f_X12_strength_j24 V) else ((f_X12_weakest v1 V).bind fun r3 =>
  some (r3)))
def f_X12_evenOf_B14 (v1 : Int32) (v2 : Int32) (V : VT) (x : Int32) : Option ((Int32) ⊕ (Int32)) :=
  if (2000 : Int32) < x then ((some ((-1000000000 : Int32))).bind fun y5 => some (.inr y5)) else ((f_X12_isBalanced v1 (v2 + x) V).bind fun r6 =>
  if r6 = 0 then ((f_X12_isBalanced v1 (v2 - x) V).bind fun r7 =>
  if r7 = 0 then ((some (x + 1)).bind fun a8 =>
  some (.inl (a8))) else ((some ((-x))).bind fun y9 => some (.inr y9))) else ((some (x)).bind fun y10 => some (.inr y10)))
def f_X12_evenOf (v1 : Int32) (V : VT) : Option (Int32) :=
  (f_X12_bar0 v1 V).bind fun r1 =>
  (ckA 1646 (r1 + (4 : Int32))).bind fun k2 =>
  (some (V 0 k2)).bind fun a3 =>
  (some (0 : Int32)).bind fun a4 =>
  lp (f_X12_evenOf_B14 v1 a3 V) fuel (a4)
def f_X12_even_j23 (V : VT) : Option (Int32) :=
  some ((-1000000000 : Int32))
def f_X12_even (v1 : Int32) (V : VT) : Option (Int32) :=
  (f_X12_isBar v1 V).bind fun r1 =>
  if r1 = 0 then (f_X12_even_j23 V) else ((f_X12_isRigged v1 V).bind fun r2 =>
  if r2 = 0 then (f_X12_even_j23 V) else ((f_X12_evenOf v1 V).bind fun r3 =>
  some (r3)))
def f_X12_least_j118 (v1 : Int32) (v2 : Int32) (V : VT) : Option ((Int32 × Int32) ⊕ (Int32)) :=
  (some (v2 + 1)).bind fun a10 =>
  some (.inl (v1, a10))
def f_X12_least_j116 (v2 : Int32) (s0 : Int32) (s1 : Int32) (V : VT) : Option ((Int32 × Int32) ⊕ (Int32)) :=
  (some (s0 + s1)).bind fun a9 =>
  f_X12_least_j118 a9 v2 V
def f_X12_least_j100 (v1 : Int32) (v2 : Int32) (s0 : Int32) (V : VT) : Option ((Int32 × Int32) ⊕ (Int32)) :=
  if 0 ≤ s0 then (f_X12_least_j116 v2 v1 s0 V) else (f_X12_least_j116 v2 v1 (-s0) V)
def f_X12_least_j80 (v1 : Int32) (v2 : Int32) (v4 : Int32) (s0 : Int32) (V : VT) : Option ((Int32 × Int32) ⊕ ((Int32 × Int32) ⊕ (Int32))) :=
  (some (v4 + 1)).bind fun a12 =>
  some (.inl (s0, a12))
def f_X12_least_j75 (v1 : Int32) (v2 : Int32) (v4 : Int32) (V : VT) : Option ((Int32 × Int32) ⊕ ((Int32 × Int32) ⊕ (Int32))) :=
  f_X12_least_j80 v1 v2 v4 (1 : Int32) V
def f_X12_least_j79 (v1 : Int32) (v2 : Int32) (v4 : Int32) (V : VT) : Option ((Int32 × Int32) ⊕ ((Int32 × Int32) ⊕ (Int32))) :=
  f_X12_least_j80 v1 v2 v4 (0 : Int32) V
def f_X12_least_B26 (v1 : Int32) (v2 : Int32) (V : VT) (x : Int32 × Int32) : Option ((Int32 × Int32) ⊕ ((Int32 × Int32) ⊕ (Int32))) :=
  (ckA 1646 (1642 : Int32)).bind fun k7 =>
  if (V 0 k7) ≤ x.2 then ((if x.1 = 0 then (f_X12_least_j100 v1 v2 (0 : Int32) V) else ((f_X12_evenOf v2 V).bind fun r11 =>
  f_X12_least_j100 v1 v2 r11 V)).bind fun y8 => some (.inr y8)) else (if x.1 = 0 then ((f_X12_isNotOver x.2 V).bind fun r13 =>
  if r13 = 0 then (f_X12_least_j79 v1 v2 x.2 V) else ((f_X12_cueIs x.2 (0 : Int32) V).bind fun r14 =>
  (f_X12_firstOfGroup v2 V).bind fun r15 =>
  (f_X12_lastOfGroup v2 V).bind fun r16 =>
  (f_X12_in r14 r15 r16 V).bind fun r17 =>
  if r17 = 0 then (f_X12_least_j79 v1 v2 x.2 V) else (f_X12_least_j75 v1 v2 x.2 V))) else (f_X12_least_j75 v1 v2 x.2 V))
def f_X12_least_B4 (V : VT) (x : Int32 × Int32) : Option ((Int32 × Int32) ⊕ (Int32)) :=
  if (12 : Int32) ≤ x.2 then ((some (x.1)).bind fun y3 => some (.inr y3)) else ((f_X12_isRigged x.2 V).bind fun r4 =>
  if r4 = 0 then (f_X12_least_j118 x.1 x.2 V) else ((some (0 : Int32)).bind fun a5 =>
  (some (0 : Int32)).bind fun a6 =>
  lp (f_X12_least_B26 x.1 x.2 V) fuel (a5, a6)))
def f_X12_least (V : VT) : Option (Int32) :=
  (some (0 : Int32)).bind fun a1 =>
  (some (0 : Int32)).bind fun a2 =>
  lp (f_X12_least_B4 V) fuel (a1, a2)
def f_X12_stop_j45 (V : VT) : Option (Int32) :=
  some ((-1000000000 : Int32))
def f_X12_stop_j26 (v1 : Int32) (v2 : Int32) (s0 : Int32) (V : VT) : Option (Int32) :=
  if v1 < 0 then (f_X12_stop_j45 V) else (if s0 ≤ v1 then (f_X12_stop_j45 V) else ((f_X12_in v2 (0 : Int32) (4 : Int32) V).bind fun r2 =>
  if r2 = 0 then (f_X12_stop_j45 V) else ((ckA 1646 (((1440 : Int32) + ((5 : Int32) * ((s0 - (1 : Int32)) - v1))) + v2)).bind fun k3 =>
  some ((V 0 k3)))))
def f_X12_stop (v1 : Int32) (v2 : Int32) (V : VT) : Option (Int32) :=
  (ckA 1646 (1643 : Int32)).bind fun k1 =>
  if (40 : Int32) ≤ (V 0 k1) then (f_X12_stop_j26 v1 v2 (40 : Int32) V) else ((ckA 1646 (1643 : Int32)).bind fun k4 =>
  f_X12_stop_j26 v1 v2 (V 0 k4) V)
def f_X12_cueOf (v1 : Int32) (v2 : Int32) (V : VT) : Option (Int32) :=
  if v1 < 0 then (some ((-1000000000 : Int32))) else ((ckA 1646 (1642 : Int32)).bind fun k1 =>
  if (V 0 k1) ≤ v1 then (some ((-1000000000 : Int32))) else ((f_X12_in v2 (0 : Int32) (4 : Int32) V).bind fun r2 =>
  if r2 = 0 then (some ((-1000000000 : Int32))) else (if (4 : Int32) ≤ v2 then ((f_X12_cueIs v1 (4 : Int32) V).bind fun r3 =>
  if r3 = (1 : Int32) then (some ((3 : Int32))) else ((ckA 1646 (1645 : Int32)).bind fun k4 =>
  (f_X12_cueIs v1 (2 : Int32) V).bind fun r5 =>
  if r5 ≤ (V 0 k4) then ((f_X12_runs v1 V).bind fun r6 =>
  if r6 = 0 then (some ((2 : Int32))) else (some ((1 : Int32)))) else (some ((0 : Int32))))) else ((f_X12_cueIs v1 v2 V).bind fun r7 =>
  some (r7)))))
def f_X12_told_j78 (v3 : Int32) (s0 : Int32) (s1 : Int32) (V : VT) : Option ((Int32 × Int32) ⊕ (Int32)) :=
  (some (s0 + s1)).bind fun a5 =>
  (some (v3 + 1)).bind fun a6 =>
  some (.inl (a5, a6))
def f_X12_told_B58 (V : VT) (x : Int32 × Int32) : Option ((Int32 × Int32) ⊕ (Int32)) :=
  if (12 : Int32) ≤ x.2 then ((some (x.1)).bind fun y3 => some (.inr y3)) else ((f_X12_isRigged x.2 V).bind fun r4 =>
  if r4 = 0 then (f_X12_told_j78 x.2 x.1 (0 : Int32) V) else (f_X12_told_j78 x.2 x.1 (1 : Int32) V))
def f_X12_told_j116 (v3 : Int32) (s0 : Int32) (s1 : Int32) (V : VT) : Option ((Int32 × Int32) ⊕ (Int32)) :=
  (some (s0 + s1)).bind fun a11 =>
  (some (v3 + 1)).bind fun a12 =>
  some (.inl (a11, a12))
def f_X12_told_B90 (V : VT) (x : Int32 × Int32) : Option ((Int32 × Int32) ⊕ (Int32)) :=
  (ckA 1646 (1640 : Int32)).bind fun k8 =>
  if (V 0 k8) ≤ x.2 then ((some (x.1)).bind fun y9 => some (.inr y9)) else ((f_X12_isLineThere x.2 V).bind fun r10 =>
  if r10 = 0 then (f_X12_told_j116 x.2 x.1 (0 : Int32) V) else (f_X12_told_j116 x.2 x.1 (1 : Int32) V))
def f_X12_told_j165 (v3 : Int32) (s0 : Int32) (s1 : Int32) (V : VT) : Option ((Int32 × Int32) ⊕ (Int32)) :=
  (some (s0 + s1)).bind fun a18 =>
  (some (v3 + 1)).bind fun a19 =>
  some (.inl (a18, a19))
def f_X12_told_B137 (V : VT) (x : Int32 × Int32) : Option ((Int32 × Int32) ⊕ (Int32)) :=
  (ckA 1646 (1641 : Int32)).bind fun k15 =>
  if (V 0 k15) ≤ x.2 then ((some (x.1)).bind fun y16 => some (.inr y16)) else ((f_X12_barWith x.2 V).bind fun r17 =>
  if r17 = (-1000000000 : Int32) then (f_X12_told_j165 x.2 x.1 (0 : Int32) V) else (f_X12_told_j165 x.2 x.1 (1 : Int32) V))
def f_X12_told (v1 : Int32) (V : VT) : Option (Int32) :=
  (some (0 : Int32)).bind fun a1 =>
  if v1 = 0 then ((some (0 : Int32)).bind fun a2 =>
  lp (f_X12_told_B58 V) fuel (a1, a2)) else if v1 = 1 then ((some (0 : Int32)).bind fun a7 =>
  lp (f_X12_told_B90 V) fuel (a1, a7)) else if v1 = 2 then ((ckA 1646 (1641 : Int32)).bind fun k13 =>
  some ((V 0 k13))) else if v1 = 3 then ((some (0 : Int32)).bind fun a14 =>
  lp (f_X12_told_B137 V) fuel (a1, a14)) else if v1 = 4 then ((ckA 1646 (1642 : Int32)).bind fun k20 =>
  some ((V 0 k20))) else if v1 = 5 then ((ckA 1646 (1643 : Int32)).bind fun k21 =>
  some ((V 0 k21))) else if v1 = 6 then (some ((V 7 0))) else if v1 = 7 then (some ((V 7 1))) else if v1 = 8 then ((ckA 1646 (1644 : Int32)).bind fun k22 =>
  some ((V 0 k22))) else if v1 = 9 then ((ckA 1646 (1645 : Int32)).bind fun k23 =>
  some ((V 0 k23))) else (some ((-1000000000 : Int32)))
def f_X12_status (v1 : Int32) (V : VT) : Option (Int32) :=
  if v1 = 0 then (some ((V 7 2))) else (if v1 = (1 : Int32) then (some ((V 7 3))) else (if v1 = (2 : Int32) then (some ((V 7 4))) else (some ((-1000000000 : Int32)))))
