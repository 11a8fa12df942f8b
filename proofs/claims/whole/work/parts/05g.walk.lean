abbrev QX2_isOver (below : List Frame) (D : va_G) (cy : Nat → ClassId) (ad : Nat → Nat) (args : Array Value) (s : State) (z : Int32 × Mem) : State → Prop := MQ below (va_Qi (fun r u => r = z.1 ∧ u = z.2) (BB D cy ad iX) (AA ad iX)) args s 0 0 (AA ad iX)
section
variable {p : Program} {l : Launch} {e : Env} {s : State} {m : MethodId} {args : Array Value} {below : List Frame} {meth : Method} {c : Code} {D : va_G} {cy : Nat → ClassId} {ad : Nat → Nat} {z : Int32 × Mem}
set_option maxHeartbeats 4000000 in
set_option maxRecDepth 100000 in
theorem wX2_isOver_E (X : CX p s m args meth c D cy ad iX cX2_isOver 1 (wsG yX2_isOver cX2_isOver 1 (some .boolean)) RX2) (hr : meth.sig.returnType = (some .boolean)) (M : Mem) (h : fX2_isOver M = some z) : SW p l e rm_X2_isOver s m args below meth c 0 0 (QX2_isOver below D cy ad args s z) 1 (PH D cy ad iX s M) 0 [(0, .ref (ad 5))] [] := by
  have hx := X.1
  have hb := X.2.1
  unfold fX2_isOver at h
  refine sw_aload_n hx hb dX2_isOver_0 0 rfl rfl ?_
  refine sw_get X inG2 mi_5 (ce_2 (rfl : kd 5 = 2)) rfl 4 (by decide) (goodW wd22) rfl dX2_isOver_1 ?_
  exact sw_Zret X hr dX2_isOver_4 h

end
theorem okX2_isOver (l : Launch) {D : va_G} {cy : Nat → ClassId} {ad : Nat → Nat} (hD : ∀ M : Mem, va_D (AA ad iX) (wl cy ad iX M)) (M : Mem) (z : Int32 × Mem) (h : fX2_isOver M = some z) : CTI l yX2_isOver (wsG yX2_isOver cX2_isOver 1 (some .boolean)) rm_X2_isOver D cy ad iX [.ref (ad 5)] M z :=
  met_of (cc := cX2_isOver) (maxL := 1) (ret := (some .boolean)) (own := RX2) (by decide) rfl rfl hD ndX (Nat.le_of_ble_eq_true rfl) (fun p e s m below meth c X hr => wX2_isOver_E X hr M h)
abbrev QX6_isLetter (below : List Frame) (D : va_G) (cy : Nat → ClassId) (ad : Nat → Nat) (args : Array Value) (s : State) (z : Int32 × Mem) : State → Prop := MQ below (va_Qi (fun r u => r = z.1 ∧ u = z.2) (BB D cy ad iX) (AA ad iX)) args s 0 0 (AA ad iX)
section
variable {p : Program} {l : Launch} {e : Env} {s : State} {m : MethodId} {args : Array Value} {below : List Frame} {meth : Method} {c : Code} {D : va_G} {cy : Nat → ClassId} {ad : Nat → Nat} {z : Int32 × Mem}
set_option maxHeartbeats 4000000 in
set_option maxRecDepth 100000 in
theorem wX6_isLetter_L24 (X : CX p s m args meth c D cy ad iX cX6_isLetter 1 (wsG yX6_isLetter cX6_isLetter 1 (some .boolean)) RX6) (hr : meth.sig.returnType = (some .boolean)) (M : Mem) (h : fX6_isLetter_L24 M = some z) : SW p l e rm_X6_isLetter s m args below meth c 0 0 (QX6_isLetter below D cy ad args s z) 1 (PH D cy ad iX s M) 24 [] [] := by
  have hx := X.1
  have hb := X.2.1
  unfold fX6_isLetter_L24 at h
  refine sw_iconst hx hb 1 dX6_isLetter_24 (by decide) ?_
  refine sw_goto hx hb 29 dX6_isLetter_25 (by decide) ?_
  exact sw_Zret X hr dX6_isLetter_29 h

set_option maxHeartbeats 4000000 in
set_option maxRecDepth 100000 in
theorem wX6_isLetter_L12 (X : CX p s m args meth c D cy ad iX cX6_isLetter 1 (wsG yX6_isLetter cX6_isLetter 1 (some .boolean)) RX6) (hr : meth.sig.returnType = (some .boolean)) (x0 : Int32) (M : Mem) (h : fX6_isLetter_L12 x0 M = some z) : SW p l e rm_X6_isLetter s m args below meth c 0 0 (QX6_isLetter below D cy ad args s z) 1 (PH D cy ad iX s M) 12 [(0, .int x0)] [] := by
  have hx := X.1
  have hb := X.2.1
  unfold fX6_isLetter_L12 at h
  refine sw_iload_n hx hb dX6_isLetter_12 0 rfl rfl ?_
  refine sw_bipush hx hb 65 dX6_isLetter_13 (by decide) ?_
  refine sw_icmp_lt hx hb 28 dX6_isLetter_15 (by decide) h (fun h => ?_) (fun h => ?_)
  · refine sw_iconst hx hb 0 dX6_isLetter_28 (by decide) ?_
    exact sw_Zret X hr dX6_isLetter_29 h
  · refine sw_iload_n hx hb dX6_isLetter_18 0 rfl rfl ?_
    refine sw_bipush hx hb 90 dX6_isLetter_19 (by decide) ?_
    refine sw_icmp_gt hx hb 28 dX6_isLetter_21 (by decide) h (fun h => ?_) (fun h => ?_)
    · refine sw_iconst hx hb 0 dX6_isLetter_28 (by decide) ?_
      exact sw_Zret X hr dX6_isLetter_29 h
    · refine sw_sub (lv1 := []) [] rfl ?_
      exact wX6_isLetter_L24 X hr M h

set_option maxHeartbeats 4000000 in
set_option maxRecDepth 100000 in
theorem wX6_isLetter_E (X : CX p s m args meth c D cy ad iX cX6_isLetter 1 (wsG yX6_isLetter cX6_isLetter 1 (some .boolean)) RX6) (hr : meth.sig.returnType = (some .boolean)) (x0 : Int32) (M : Mem) (h : fX6_isLetter x0 M = some z) : SW p l e rm_X6_isLetter s m args below meth c 0 0 (QX6_isLetter below D cy ad args s z) 1 (PH D cy ad iX s M) 0 [(0, .int x0)] [] := by
  have hx := X.1
  have hb := X.2.1
  unfold fX6_isLetter at h
  refine sw_iload_n hx hb dX6_isLetter_0 0 rfl rfl ?_
  refine sw_bipush hx hb 97 dX6_isLetter_1 (by decide) ?_
  refine sw_icmp_lt hx hb 12 dX6_isLetter_3 (by decide) h (fun h => ?_) (fun h => ?_)
  · refine sw_sub (lv1 := [(0, .int x0)]) [0] rfl ?_
    exact wX6_isLetter_L12 X hr x0 M h
  · refine sw_iload_n hx hb dX6_isLetter_6 0 rfl rfl ?_
    refine sw_bipush hx hb 122 dX6_isLetter_7 (by decide) ?_
    refine sw_icmp_le hx hb 24 dX6_isLetter_9 (by decide) h (fun h => ?_) (fun h => ?_)
    · refine sw_sub (lv1 := []) [] rfl ?_
      exact wX6_isLetter_L24 X hr M h
    · refine sw_sub (lv1 := [(0, .int x0)]) [0] rfl ?_
      exact wX6_isLetter_L12 X hr x0 M h

end
theorem okX6_isLetter (l : Launch) {D : va_G} {cy : Nat → ClassId} {ad : Nat → Nat} (hD : ∀ M : Mem, va_D (AA ad iX) (wl cy ad iX M)) (x0 : Int32) (M : Mem) (z : Int32 × Mem) (h : fX6_isLetter x0 M = some z) : CTI l yX6_isLetter (wsG yX6_isLetter cX6_isLetter 1 (some .boolean)) rm_X6_isLetter D cy ad iX [.int x0] M z :=
  met_of (cc := cX6_isLetter) (maxL := 1) (ret := (some .boolean)) (own := RX6) (by decide) rfl rfl hD ndX (Nat.le_of_ble_eq_true rfl) (fun p e s m below meth c X hr => wX6_isLetter_E X hr x0 M h)
abbrev QX6_isFigure (below : List Frame) (D : va_G) (cy : Nat → ClassId) (ad : Nat → Nat) (args : Array Value) (s : State) (z : Int32 × Mem) : State → Prop := MQ below (va_Qi (fun r u => r = z.1 ∧ u = z.2) (BB D cy ad iX) (AA ad iX)) args s 0 0 (AA ad iX)
section
variable {p : Program} {l : Launch} {e : Env} {s : State} {m : MethodId} {args : Array Value} {below : List Frame} {meth : Method} {c : Code} {D : va_G} {cy : Nat → ClassId} {ad : Nat → Nat} {z : Int32 × Mem}
set_option maxHeartbeats 4000000 in
set_option maxRecDepth 100000 in
theorem wX6_isFigure_E (X : CX p s m args meth c D cy ad iX cX6_isFigure 1 (wsG yX6_isFigure cX6_isFigure 1 (some .boolean)) RX6) (hr : meth.sig.returnType = (some .boolean)) (x0 : Int32) (M : Mem) (h : fX6_isFigure x0 M = some z) : SW p l e rm_X6_isFigure s m args below meth c 0 0 (QX6_isFigure below D cy ad args s z) 1 (PH D cy ad iX s M) 0 [(0, .int x0)] [] := by
  have hx := X.1
  have hb := X.2.1
  unfold fX6_isFigure at h
  refine sw_iload_n hx hb dX6_isFigure_0 0 rfl rfl ?_
  refine sw_bipush hx hb 48 dX6_isFigure_1 (by decide) ?_
  refine sw_icmp_lt hx hb 16 dX6_isFigure_3 (by decide) h (fun h => ?_) (fun h => ?_)
  · refine sw_iconst hx hb 0 dX6_isFigure_16 (by decide) ?_
    exact sw_Zret X hr dX6_isFigure_17 h
  · refine sw_iload_n hx hb dX6_isFigure_6 0 rfl rfl ?_
    refine sw_bipush hx hb 57 dX6_isFigure_7 (by decide) ?_
    refine sw_icmp_gt hx hb 16 dX6_isFigure_9 (by decide) h (fun h => ?_) (fun h => ?_)
    · refine sw_iconst hx hb 0 dX6_isFigure_16 (by decide) ?_
      exact sw_Zret X hr dX6_isFigure_17 h
    · refine sw_iconst hx hb 1 dX6_isFigure_12 (by decide) ?_
      refine sw_goto hx hb 17 dX6_isFigure_13 (by decide) ?_
      exact sw_Zret X hr dX6_isFigure_17 h

end
theorem okX6_isFigure (l : Launch) {D : va_G} {cy : Nat → ClassId} {ad : Nat → Nat} (hD : ∀ M : Mem, va_D (AA ad iX) (wl cy ad iX M)) (x0 : Int32) (M : Mem) (z : Int32 × Mem) (h : fX6_isFigure x0 M = some z) : CTI l yX6_isFigure (wsG yX6_isFigure cX6_isFigure 1 (some .boolean)) rm_X6_isFigure D cy ad iX [.int x0] M z :=
  met_of (cc := cX6_isFigure) (maxL := 1) (ret := (some .boolean)) (own := RX6) (by decide) rfl rfl hD ndX (Nat.le_of_ble_eq_true rfl) (fun p e s m below meth c X hr => wX6_isFigure_E X hr x0 M h)
abbrev QX6_isOfWord (below : List Frame) (D : va_G) (cy : Nat → ClassId) (ad : Nat → Nat) (args : Array Value) (s : State) (z : Int32 × Mem) : State → Prop := MQ below (va_Qi (fun r u => r = z.1 ∧ u = z.2) (BB D cy ad iX) (AA ad iX)) args s 0 0 (AA ad iX)
section
variable {p : Program} {l : Launch} {e : Env} {s : State} {m : MethodId} {args : Array Value} {below : List Frame} {meth : Method} {c : Code} {D : va_G} {cy : Nat → ClassId} {ad : Nat → Nat} {z : Int32 × Mem}
set_option maxHeartbeats 4000000 in
set_option maxRecDepth 100000 in
theorem wX6_isOfWord_L114 (X : CX p s m args meth c D cy ad iX cX6_isOfWord 5 (wsG yX6_isOfWord cX6_isOfWord 5 (some .boolean)) RX6) (hr : meth.sig.returnType = (some .boolean)) (M : Mem) (h : fX6_isOfWord_L114 M = some z) : SW p l e rm_X6_isOfWord s m args below meth c 0 0 (QX6_isOfWord below D cy ad args s z) 5 (PH D cy ad iX s M) 114 [] [] := by
  have hx := X.1
  have hb := X.2.1
  unfold fX6_isOfWord_L114 at h
  refine sw_iconst hx hb 1 dX6_isOfWord_114 (by decide) ?_
  refine sw_goto hx hb 119 dX6_isOfWord_115 (by decide) ?_
  exact sw_Zret X hr dX6_isOfWord_119 h

set_option maxHeartbeats 4000000 in
set_option maxRecDepth 100000 in
theorem wX6_isOfWord_L87 (X : CX p s m args meth c D cy ad iX cX6_isOfWord 5 (wsG yX6_isOfWord cX6_isOfWord 5 (some .boolean)) RX6) (hr : meth.sig.returnType = (some .boolean)) (x2 : Int32) (x3 : Int32) (x4 : Int32) (M : Mem) (h : fX6_isOfWord_L87 x2 x3 x4 M = some z) : SW p l e rm_X6_isOfWord s m args below meth c 0 0 (QX6_isOfWord below D cy ad args s z) 5 (PH D cy ad iX s M) 87 [(2, .int x2), (3, .int x3), (4, .int x4)] [] := by
  have hx := X.1
  have hb := X.2.1
  unfold fX6_isOfWord_L87 at h
  refine sw_iload_n hx hb dX6_isOfWord_87 1 rfl rfl ?_
  refine sw_callSI (As := [.int x3]) (rest := []) X (fun _ hz => okX6_isFigure l X.2.2.2.2.2.2.1 x3 M _ hz) (cwX6_148 X.2.2.2.2.1 ⟨Nat.le_of_ble_eq_true rfl, Nat.le_of_ble_eq_true rfl⟩)  rfl rfl (Nat.le_of_ble_eq_true rfl) dX6_isOfWord_88 ⟨Nat.le_of_ble_eq_true rfl, Nat.le_of_ble_eq_true rfl⟩ h (fun v_14 M_13 _ h => ?_)
  refine sw_if_eq hx hb 120 dX6_isOfWord_91 (by decide) h (fun h => ?_) (fun h => ?_)
  · refine sw_iconst hx hb 0 dX6_isOfWord_120 (by decide) ?_
    exact sw_Zret X hr dX6_isOfWord_121 h
  · refine sw_iload hx hb dX6_isOfWord_94 2 rfl ?_
    refine sw_callSI (As := [.int x4]) (rest := []) X (fun _ hz => okX6_isFigure l X.2.2.2.2.2.2.1 x4 M_13 _ hz) (cwX6_148 X.2.2.2.2.1 ⟨Nat.le_of_ble_eq_true rfl, Nat.le_of_ble_eq_true rfl⟩)  rfl rfl (Nat.le_of_ble_eq_true rfl) dX6_isOfWord_96 ⟨Nat.le_of_ble_eq_true rfl, Nat.le_of_ble_eq_true rfl⟩ h (fun v_16 M_15 _ h => ?_)
    refine sw_if_eq hx hb 120 dX6_isOfWord_99 (by decide) h (fun h => ?_) (fun h => ?_)
    · refine sw_iconst hx hb 0 dX6_isOfWord_120 (by decide) ?_
      exact sw_Zret X hr dX6_isOfWord_121 h
    · refine sw_iload_n hx hb dX6_isOfWord_102 0 rfl rfl ?_
      refine sw_bipush hx hb 44 dX6_isOfWord_103 (by decide) ?_
      refine sw_icmp_eq hx hb 114 dX6_isOfWord_105 (by decide) h (fun h => ?_) (fun h => ?_)
      · refine sw_sub (lv1 := []) [] rfl ?_
        exact wX6_isOfWord_L114 X hr M_15 h
      · refine sw_iload_n hx hb dX6_isOfWord_108 0 rfl rfl ?_
        refine sw_bipush hx hb 46 dX6_isOfWord_109 (by decide) ?_
        refine sw_icmp_ne hx hb 118 dX6_isOfWord_111 (by decide) h (fun h => ?_) (fun h => ?_)
        · refine sw_iconst hx hb 0 dX6_isOfWord_118 (by decide) ?_
          exact sw_Zret X hr dX6_isOfWord_119 h
        · refine sw_sub (lv1 := []) [] rfl ?_
          exact wX6_isOfWord_L114 X hr M_15 h

set_option maxHeartbeats 4000000 in
set_option maxRecDepth 100000 in
theorem wX6_isOfWord_L81 (X : CX p s m args meth c D cy ad iX cX6_isOfWord 5 (wsG yX6_isOfWord cX6_isOfWord 5 (some .boolean)) RX6) (hr : meth.sig.returnType = (some .boolean)) (M : Mem) (h : fX6_isOfWord_L81 M = some z) : SW p l e rm_X6_isOfWord s m args below meth c 0 0 (QX6_isOfWord below D cy ad args s z) 5 (PH D cy ad iX s M) 81 [] [] := by
  have hx := X.1
  have hb := X.2.1
  unfold fX6_isOfWord_L81 at h
  refine sw_iconst hx hb 1 dX6_isOfWord_81 (by decide) ?_
  refine sw_goto hx hb 86 dX6_isOfWord_82 (by decide) ?_
  exact sw_Zret X hr dX6_isOfWord_86 h

set_option maxHeartbeats 4000000 in
set_option maxRecDepth 100000 in
theorem wX6_isOfWord_E (X : CX p s m args meth c D cy ad iX cX6_isOfWord 5 (wsG yX6_isOfWord cX6_isOfWord 5 (some .boolean)) RX6) (hr : meth.sig.returnType = (some .boolean)) (x1 : Int32) (M : Mem) (h : fX6_isOfWord x1 M = some z) : SW p l e rm_X6_isOfWord s m args below meth c 0 0 (QX6_isOfWord below D cy ad args s z) 5 (PH D cy ad iX s M) 0 [(0, .ref (ad 0)), (1, .int x1)] [] := by
  have hx := X.1
  have hb := X.2.1
  unfold fX6_isOfWord at h
  refine sw_aload_n hx hb dX6_isOfWord_0 0 rfl rfl ?_
  refine sw_get X inG6 mi_0 (ce_6 (rfl : kd 0 = 6)) rfl 1 (by decide) (goodW wd23) rfl dX6_isOfWord_1 ?_
  refine sw_iload_n hx hb dX6_isOfWord_4 1 rfl rfl ?_
  refine sw_callVI (C := RX5) (As := [.int x1]) (rest := []) X mi_3 (ce_5 (rfl : kd 3 = 5)) rfl rfl (fun _ hz => okX5_at l X.2.2.2.2.2.2.1 3 x1 (rfl : kd 3 = 5) M _ hz) (cwX6_125 X.2.2.2.2.1 ⟨Nat.le_of_ble_eq_true rfl, Nat.le_of_ble_eq_true rfl⟩)  rfl rfl (Nat.le_of_ble_eq_true rfl) dX6_isOfWord_5 ⟨Nat.le_of_ble_eq_true rfl, Nat.le_of_ble_eq_true rfl⟩ h (fun v_2 M_1 _ h => ?_)
  refine sw_istore_n hx hb [(2, .int v_2), (0, .ref (ad 0)), (1, .int x1)] dX6_isOfWord_8 rfl (by decide) rfl ?_
  refine sw_iload_n hx hb dX6_isOfWord_9 0 rfl rfl ?_
  refine sw_callSI (As := [.int v_2]) (rest := []) X (fun _ hz => okX6_isLetter l X.2.2.2.2.2.2.1 v_2 M_1 _ hz) (cwX6_145 X.2.2.2.2.1 ⟨Nat.le_of_ble_eq_true rfl, Nat.le_of_ble_eq_true rfl⟩)  rfl rfl (Nat.le_of_ble_eq_true rfl) dX6_isOfWord_10 ⟨Nat.le_of_ble_eq_true rfl, Nat.le_of_ble_eq_true rfl⟩ h (fun v_4 M_3 _ h => ?_)
  refine sw_if_ne hx hb 29 dX6_isOfWord_13 (by decide) h (fun h => ?_) (fun h => ?_)
  · refine sw_iconst hx hb 1 dX6_isOfWord_29 (by decide) ?_
    exact sw_Zret X hr dX6_isOfWord_30 h
  · refine sw_iload_n hx hb dX6_isOfWord_16 0 rfl rfl ?_
    refine sw_callSI (As := [.int v_2]) (rest := []) X (fun _ hz => okX6_isFigure l X.2.2.2.2.2.2.1 v_2 M_3 _ hz) (cwX6_148 X.2.2.2.2.1 ⟨Nat.le_of_ble_eq_true rfl, Nat.le_of_ble_eq_true rfl⟩)  rfl rfl (Nat.le_of_ble_eq_true rfl) dX6_isOfWord_17 ⟨Nat.le_of_ble_eq_true rfl, Nat.le_of_ble_eq_true rfl⟩ h (fun v_6 M_5 _ h => ?_)
    refine sw_if_ne hx hb 29 dX6_isOfWord_20 (by decide) h (fun h => ?_) (fun h => ?_)
    · refine sw_iconst hx hb 1 dX6_isOfWord_29 (by decide) ?_
      exact sw_Zret X hr dX6_isOfWord_30 h
    · refine sw_iload_n hx hb dX6_isOfWord_23 0 rfl rfl ?_
      refine sw_bipush hx hb 95 dX6_isOfWord_24 (by decide) ?_
      refine sw_icmp_ne hx hb 31 dX6_isOfWord_26 (by decide) h (fun h => ?_) (fun h => ?_)
      · refine sw_aload_n hx hb dX6_isOfWord_31 1 rfl rfl ?_
        refine sw_get X inG6 mi_0 (ce_6 (rfl : kd 0 = 6)) rfl 1 (by decide) (goodW wd23) rfl dX6_isOfWord_32 ?_
        refine sw_iload_n hx hb dX6_isOfWord_35 2 rfl rfl ?_
        refine sw_iconst hx hb 1 dX6_isOfWord_36 (by decide) ?_
        refine sw_isub hx hb dX6_isOfWord_37 ?_
        refine sw_callVI (C := RX5) (As := [.int (x1 - 1)]) (rest := []) X mi_3 (ce_5 (rfl : kd 3 = 5)) rfl rfl (fun _ hz => okX5_at l X.2.2.2.2.2.2.1 3 (x1 - 1) (rfl : kd 3 = 5) M_5 _ hz) (cwX6_125 X.2.2.2.2.1 ⟨Nat.le_of_ble_eq_true rfl, Nat.le_of_ble_eq_true rfl⟩)  rfl rfl (Nat.le_of_ble_eq_true rfl) dX6_isOfWord_38 ⟨Nat.le_of_ble_eq_true rfl, Nat.le_of_ble_eq_true rfl⟩ h (fun v_8 M_7 _ h => ?_)
        refine sw_istore_n hx hb [(3, .int v_8), (2, .int v_2), (0, .ref (ad 0)), (1, .int x1)] dX6_isOfWord_41 rfl (by decide) rfl ?_
        refine sw_aload_n hx hb dX6_isOfWord_42 2 rfl rfl ?_
        refine sw_get X inG6 mi_0 (ce_6 (rfl : kd 0 = 6)) rfl 1 (by decide) (goodW wd23) rfl dX6_isOfWord_43 ?_
        refine sw_iload_n hx hb dX6_isOfWord_46 3 rfl rfl ?_
        refine sw_iconst hx hb 1 dX6_isOfWord_47 (by decide) ?_
        refine sw_iadd hx hb dX6_isOfWord_48 ?_
        refine sw_callVI (C := RX5) (As := [.int (x1 + 1)]) (rest := []) X mi_3 (ce_5 (rfl : kd 3 = 5)) rfl rfl (fun _ hz => okX5_at l X.2.2.2.2.2.2.1 3 (x1 + 1) (rfl : kd 3 = 5) M_7 _ hz) (cwX6_125 X.2.2.2.2.1 ⟨Nat.le_of_ble_eq_true rfl, Nat.le_of_ble_eq_true rfl⟩)  rfl rfl (Nat.le_of_ble_eq_true rfl) dX6_isOfWord_49 ⟨Nat.le_of_ble_eq_true rfl, Nat.le_of_ble_eq_true rfl⟩ h (fun v_10 M_9 _ h => ?_)
        refine sw_istore hx hb [(4, .int v_10), (3, .int v_8), (2, .int v_2), (0, .ref (ad 0)), (1, .int x1)] dX6_isOfWord_52 (by decide) rfl ?_
        refine sw_iload_n hx hb dX6_isOfWord_54 1 rfl rfl ?_
        refine sw_callSI (As := [.int v_8]) (rest := []) X (fun _ hz => okX6_isLetter l X.2.2.2.2.2.2.1 v_8 M_9 _ hz) (cwX6_145 X.2.2.2.2.1 ⟨Nat.le_of_ble_eq_true rfl, Nat.le_of_ble_eq_true rfl⟩)  rfl rfl (Nat.le_of_ble_eq_true rfl) dX6_isOfWord_55 ⟨Nat.le_of_ble_eq_true rfl, Nat.le_of_ble_eq_true rfl⟩ h (fun v_12 M_11 _ h => ?_)
        refine sw_if_eq hx hb 87 dX6_isOfWord_58 (by decide) h (fun h => ?_) (fun h => ?_)
        · refine sw_sub (lv1 := [(2, .int v_2), (3, .int v_8), (4, .int v_10)]) [2, 1, 0] rfl ?_
          exact wX6_isOfWord_L87 X hr v_2 v_8 v_10 M_11 h
        · refine sw_iload hx hb dX6_isOfWord_61 0 rfl ?_
          refine sw_callSI (As := [.int v_10]) (rest := []) X (fun _ hz => okX6_isLetter l X.2.2.2.2.2.2.1 v_10 M_11 _ hz) (cwX6_145 X.2.2.2.2.1 ⟨Nat.le_of_ble_eq_true rfl, Nat.le_of_ble_eq_true rfl⟩)  rfl rfl (Nat.le_of_ble_eq_true rfl) dX6_isOfWord_63 ⟨Nat.le_of_ble_eq_true rfl, Nat.le_of_ble_eq_true rfl⟩ h (fun v_18 M_17 _ h => ?_)
          refine sw_if_eq hx hb 87 dX6_isOfWord_66 (by decide) h (fun h => ?_) (fun h => ?_)
          · refine sw_sub (lv1 := [(2, .int v_2), (3, .int v_8), (4, .int v_10)]) [2, 1, 0] rfl ?_
            exact wX6_isOfWord_L87 X hr v_2 v_8 v_10 M_17 h
          · refine sw_iload_n hx hb dX6_isOfWord_69 2 rfl rfl ?_
            refine sw_bipush hx hb 39 dX6_isOfWord_70 (by decide) ?_
            refine sw_icmp_eq hx hb 81 dX6_isOfWord_72 (by decide) h (fun h => ?_) (fun h => ?_)
            · refine sw_sub (lv1 := []) [] rfl ?_
              exact wX6_isOfWord_L81 X hr M_17 h
            · refine sw_iload_n hx hb dX6_isOfWord_75 2 rfl rfl ?_
              refine sw_bipush hx hb 46 dX6_isOfWord_76 (by decide) ?_
              refine sw_icmp_ne hx hb 85 dX6_isOfWord_78 (by decide) h (fun h => ?_) (fun h => ?_)
              · refine sw_iconst hx hb 0 dX6_isOfWord_85 (by decide) ?_
                exact sw_Zret X hr dX6_isOfWord_86 h
              · refine sw_sub (lv1 := []) [] rfl ?_
                exact wX6_isOfWord_L81 X hr M_17 h
      · refine sw_iconst hx hb 1 dX6_isOfWord_29 (by decide) ?_
        exact sw_Zret X hr dX6_isOfWord_30 h

end
theorem okX6_isOfWord (l : Launch) {D : va_G} {cy : Nat → ClassId} {ad : Nat → Nat} (hD : ∀ M : Mem, va_D (AA ad iX) (wl cy ad iX M)) (x1 : Int32) (M : Mem) (z : Int32 × Mem) (h : fX6_isOfWord x1 M = some z) : CTI l yX6_isOfWord (wsG yX6_isOfWord cX6_isOfWord 5 (some .boolean)) rm_X6_isOfWord D cy ad iX [.ref (ad 0), .int x1] M z :=
  met_of (cc := cX6_isOfWord) (maxL := 5) (ret := (some .boolean)) (own := RX6) (by decide) rfl rfl hD ndX (Nat.le_of_ble_eq_true rfl) (fun p e s m below meth c X hr => wX6_isOfWord_E X hr x1 M h)
abbrev QX6_isSolid (below : List Frame) (D : va_G) (cy : Nat → ClassId) (ad : Nat → Nat) (args : Array Value) (s : State) (z : Int32 × Mem) : State → Prop := MQ below (va_Qi (fun r u => r = z.1 ∧ u = z.2) (BB D cy ad iX) (AA ad iX)) args s 0 0 (AA ad iX)
section
variable {p : Program} {l : Launch} {e : Env} {s : State} {m : MethodId} {args : Array Value} {below : List Frame} {meth : Method} {c : Code} {D : va_G} {cy : Nat → ClassId} {ad : Nat → Nat} {z : Int32 × Mem}
set_option maxHeartbeats 4000000 in
set_option maxRecDepth 100000 in
theorem wX6_isSolid_E (X : CX p s m args meth c D cy ad iX cX6_isSolid 1 (wsG yX6_isSolid cX6_isSolid 1 (some .boolean)) RX6) (hr : meth.sig.returnType = (some .boolean)) (x0 : Int32) (M : Mem) (h : fX6_isSolid x0 M = some z) : SW p l e rm_X6_isSolid s m args below meth c 0 0 (QX6_isSolid below D cy ad args s z) 1 (PH D cy ad iX s M) 0 [(0, .int x0)] [] := by
  have hx := X.1
  have hb := X.2.1
  unfold fX6_isSolid at h
  refine sw_iload_n hx hb dX6_isSolid_0 0 rfl rfl ?_
  refine sw_iconst hx hb (-1) dX6_isSolid_1 (by decide) ?_
  refine sw_icmp_eq hx hb 16 dX6_isSolid_2 (by decide) h (fun h => ?_) (fun h => ?_)
  · refine sw_iconst hx hb 0 dX6_isSolid_16 (by decide) ?_
    exact sw_Zret X hr dX6_isSolid_17 h
  · refine sw_iload_n hx hb dX6_isSolid_5 0 rfl rfl ?_
    refine sw_callSI (As := [.int x0]) (rest := []) X (fun _ hz => okX6_isBlank l X.2.2.2.2.2.2.1 x0 M _ hz) (cwX6_128 X.2.2.2.2.1 ⟨Nat.le_of_ble_eq_true rfl, Nat.le_of_ble_eq_true rfl⟩)  rfl rfl (Nat.le_of_ble_eq_true rfl) dX6_isSolid_6 ⟨Nat.le_of_ble_eq_true rfl, Nat.le_of_ble_eq_true rfl⟩ h (fun v_2 M_1 _ h => ?_)
    refine sw_if_ne hx hb 16 dX6_isSolid_9 (by decide) h (fun h => ?_) (fun h => ?_)
    · refine sw_iconst hx hb 0 dX6_isSolid_16 (by decide) ?_
      exact sw_Zret X hr dX6_isSolid_17 h
    · refine sw_iconst hx hb 1 dX6_isSolid_12 (by decide) ?_
      refine sw_goto hx hb 17 dX6_isSolid_13 (by decide) ?_
      exact sw_Zret X hr dX6_isSolid_17 h

end
theorem okX6_isSolid (l : Launch) {D : va_G} {cy : Nat → ClassId} {ad : Nat → Nat} (hD : ∀ M : Mem, va_D (AA ad iX) (wl cy ad iX M)) (x0 : Int32) (M : Mem) (z : Int32 × Mem) (h : fX6_isSolid x0 M = some z) : CTI l yX6_isSolid (wsG yX6_isSolid cX6_isSolid 1 (some .boolean)) rm_X6_isSolid D cy ad iX [.int x0] M z :=
  met_of (cc := cX6_isSolid) (maxL := 1) (ret := (some .boolean)) (own := RX6) (by decide) rfl rfl hD ndX (Nat.le_of_ble_eq_true rfl) (fun p e s m below meth c X hr => wX6_isSolid_E X hr x0 M h)
abbrev QX6_isOther (below : List Frame) (D : va_G) (cy : Nat → ClassId) (ad : Nat → Nat) (args : Array Value) (s : State) (z : Int32 × Mem) : State → Prop := MQ below (va_Qi (fun r u => r = z.1 ∧ u = z.2) (BB D cy ad iX) (AA ad iX)) args s 0 0 (AA ad iX)
section
variable {p : Program} {l : Launch} {e : Env} {s : State} {m : MethodId} {args : Array Value} {below : List Frame} {meth : Method} {c : Code} {D : va_G} {cy : Nat → ClassId} {ad : Nat → Nat} {z : Int32 × Mem}
set_option maxHeartbeats 4000000 in
set_option maxRecDepth 100000 in
theorem wX6_isOther_E (X : CX p s m args meth c D cy ad iX cX6_isOther 1 (wsG yX6_isOther cX6_isOther 1 (some .boolean)) RX6) (hr : meth.sig.returnType = (some .boolean)) (x0 : Int32) (M : Mem) (h : fX6_isOther x0 M = some z) : SW p l e rm_X6_isOther s m args below meth c 0 0 (QX6_isOther below D cy ad args s z) 1 (PH D cy ad iX s M) 0 [(0, .int x0)] [] := by
  have hx := X.1
  have hb := X.2.1
  unfold fX6_isOther at h
  refine sw_iload_n hx hb dX6_isOther_0 0 rfl rfl ?_
  refine sw_callSI (As := [.int x0]) (rest := []) X (fun _ hz => okX6_isSolid l X.2.2.2.2.2.2.1 x0 M _ hz) (cwX6_131 X.2.2.2.2.1 ⟨Nat.le_of_ble_eq_true rfl, Nat.le_of_ble_eq_true rfl⟩)  rfl rfl (Nat.le_of_ble_eq_true rfl) dX6_isOther_1 ⟨Nat.le_of_ble_eq_true rfl, Nat.le_of_ble_eq_true rfl⟩ h (fun v_2 M_1 _ h => ?_)
  refine sw_if_eq hx hb 25 dX6_isOther_4 (by decide) h (fun h => ?_) (fun h => ?_)
  · refine sw_iconst hx hb 0 dX6_isOther_25 (by decide) ?_
    exact sw_Zret X hr dX6_isOther_26 h
  · refine sw_iload_n hx hb dX6_isOther_7 0 rfl rfl ?_
    refine sw_callSI (As := [.int x0]) (rest := []) X (fun _ hz => okX6_isLetter l X.2.2.2.2.2.2.1 x0 M_1 _ hz) (cwX6_145 X.2.2.2.2.1 ⟨Nat.le_of_ble_eq_true rfl, Nat.le_of_ble_eq_true rfl⟩)  rfl rfl (Nat.le_of_ble_eq_true rfl) dX6_isOther_8 ⟨Nat.le_of_ble_eq_true rfl, Nat.le_of_ble_eq_true rfl⟩ h (fun v_4 M_3 _ h => ?_)
    refine sw_if_ne hx hb 25 dX6_isOther_11 (by decide) h (fun h => ?_) (fun h => ?_)
    · refine sw_iconst hx hb 0 dX6_isOther_25 (by decide) ?_
      exact sw_Zret X hr dX6_isOther_26 h
    · refine sw_iload_n hx hb dX6_isOther_14 0 rfl rfl ?_
      refine sw_callSI (As := [.int x0]) (rest := []) X (fun _ hz => okX6_isFigure l X.2.2.2.2.2.2.1 x0 M_3 _ hz) (cwX6_148 X.2.2.2.2.1 ⟨Nat.le_of_ble_eq_true rfl, Nat.le_of_ble_eq_true rfl⟩)  rfl rfl (Nat.le_of_ble_eq_true rfl) dX6_isOther_15 ⟨Nat.le_of_ble_eq_true rfl, Nat.le_of_ble_eq_true rfl⟩ h (fun v_6 M_5 _ h => ?_)
      refine sw_if_ne hx hb 25 dX6_isOther_18 (by decide) h (fun h => ?_) (fun h => ?_)
      · refine sw_iconst hx hb 0 dX6_isOther_25 (by decide) ?_
        exact sw_Zret X hr dX6_isOther_26 h
      · refine sw_iconst hx hb 1 dX6_isOther_21 (by decide) ?_
        refine sw_goto hx hb 26 dX6_isOther_22 (by decide) ?_
        exact sw_Zret X hr dX6_isOther_26 h

end
theorem okX6_isOther (l : Launch) {D : va_G} {cy : Nat → ClassId} {ad : Nat → Nat} (hD : ∀ M : Mem, va_D (AA ad iX) (wl cy ad iX M)) (x0 : Int32) (M : Mem) (z : Int32 × Mem) (h : fX6_isOther x0 M = some z) : CTI l yX6_isOther (wsG yX6_isOther cX6_isOther 1 (some .boolean)) rm_X6_isOther D cy ad iX [.int x0] M z :=
  met_of (cc := cX6_isOther) (maxL := 1) (ret := (some .boolean)) (own := RX6) (by decide) rfl rfl hD ndX (Nat.le_of_ble_eq_true rfl) (fun p e s m below meth c X hr => wX6_isOther_E X hr x0 M h)
abbrev QX6_isOfKind (below : List Frame) (D : va_G) (cy : Nat → ClassId) (ad : Nat → Nat) (args : Array Value) (s : State) (z : Int32 × Mem) : State → Prop := MQ below (va_Qi (fun r u => r = z.1 ∧ u = z.2) (BB D cy ad iX) (AA ad iX)) args s 0 0 (AA ad iX)
section
variable {p : Program} {l : Launch} {e : Env} {s : State} {m : MethodId} {args : Array Value} {below : List Frame} {meth : Method} {c : Code} {D : va_G} {cy : Nat → ClassId} {ad : Nat → Nat} {z : Int32 × Mem}
set_option maxHeartbeats 4000000 in
set_option maxRecDepth 100000 in
theorem wX6_isOfKind_L52 (X : CX p s m args meth c D cy ad iX cX6_isOfKind 3 (wsG yX6_isOfKind cX6_isOfKind 3 (some .boolean)) RX6) (hr : meth.sig.returnType = (some .boolean)) (x2 : Int32) (M : Mem) (h : fX6_isOfKind_L52 x2 M = some z) : SW p l e rm_X6_isOfKind s m args below meth c 0 0 (QX6_isOfKind below D cy ad args s z) 3 (PH D cy ad iX s M) 52 [(0, .ref (ad 0)), (2, .int x2)] [] := by
  have hx := X.1
  have hb := X.2.1
  unfold fX6_isOfKind_L52 at h
  refine sw_aload_n hx hb dX6_isOfKind_52 0 rfl rfl ?_
  refine sw_get X inG6 mi_0 (ce_6 (rfl : kd 0 = 6)) rfl 1 (by decide) (goodW wd23) rfl dX6_isOfKind_53 ?_
  refine sw_iload_n hx hb dX6_isOfKind_56 1 rfl rfl ?_
  refine sw_callVI (C := RX5) (As := [.int x2]) (rest := []) X mi_3 (ce_5 (rfl : kd 3 = 5)) rfl rfl (fun _ hz => okX5_at l X.2.2.2.2.2.2.1 3 x2 (rfl : kd 3 = 5) M _ hz) (cwX6_125 X.2.2.2.2.1 ⟨Nat.le_of_ble_eq_true rfl, Nat.le_of_ble_eq_true rfl⟩)  rfl rfl (Nat.le_of_ble_eq_true rfl) dX6_isOfKind_57 ⟨Nat.le_of_ble_eq_true rfl, Nat.le_of_ble_eq_true rfl⟩ h (fun v_2 M_1 _ h => ?_)
  refine sw_callSI (As := [.int v_2]) (rest := []) X (fun _ hz => okX6_isLetter l X.2.2.2.2.2.2.1 v_2 M_1 _ hz) (cwX6_145 X.2.2.2.2.1 ⟨Nat.le_of_ble_eq_true rfl, Nat.le_of_ble_eq_true rfl⟩)  rfl rfl (Nat.le_of_ble_eq_true rfl) dX6_isOfKind_60 ⟨Nat.le_of_ble_eq_true rfl, Nat.le_of_ble_eq_true rfl⟩ h (fun v_4 M_3 _ h => ?_)
  exact sw_Zret X hr dX6_isOfKind_63 h

set_option maxHeartbeats 4000000 in
set_option maxRecDepth 100000 in
theorem wX6_isOfKind_L82 (X : CX p s m args meth c D cy ad iX cX6_isOfKind 3 (wsG yX6_isOfKind cX6_isOfKind 3 (some .boolean)) RX6) (hr : meth.sig.returnType = (some .boolean)) (x2 : Int32) (M : Mem) (h : fX6_isOfKind_L82 x2 M = some z) : SW p l e rm_X6_isOfKind s m args below meth c 0 0 (QX6_isOfKind below D cy ad args s z) 3 (PH D cy ad iX s M) 82 [(0, .ref (ad 0)), (2, .int x2)] [] := by
  have hx := X.1
  have hb := X.2.1
  unfold fX6_isOfKind_L82 at h
  refine sw_aload_n hx hb dX6_isOfKind_82 0 rfl rfl ?_
  refine sw_get X inG6 mi_0 (ce_6 (rfl : kd 0 = 6)) rfl 1 (by decide) (goodW wd23) rfl dX6_isOfKind_83 ?_
  refine sw_iload_n hx hb dX6_isOfKind_86 1 rfl rfl ?_
  refine sw_callVI (C := RX5) (As := [.int x2]) (rest := []) X mi_3 (ce_5 (rfl : kd 3 = 5)) rfl rfl (fun _ hz => okX5_at l X.2.2.2.2.2.2.1 3 x2 (rfl : kd 3 = 5) M _ hz) (cwX6_125 X.2.2.2.2.1 ⟨Nat.le_of_ble_eq_true rfl, Nat.le_of_ble_eq_true rfl⟩)  rfl rfl (Nat.le_of_ble_eq_true rfl) dX6_isOfKind_87 ⟨Nat.le_of_ble_eq_true rfl, Nat.le_of_ble_eq_true rfl⟩ h (fun v_6 M_5 _ h => ?_)
  refine sw_callSI (As := [.int v_6]) (rest := []) X (fun _ hz => okX6_isSolid l X.2.2.2.2.2.2.1 v_6 M_5 _ hz) (cwX6_131 X.2.2.2.2.1 ⟨Nat.le_of_ble_eq_true rfl, Nat.le_of_ble_eq_true rfl⟩)  rfl rfl (Nat.le_of_ble_eq_true rfl) dX6_isOfKind_90 ⟨Nat.le_of_ble_eq_true rfl, Nat.le_of_ble_eq_true rfl⟩ h (fun v_8 M_7 _ h => ?_)
  exact sw_Zret X hr dX6_isOfKind_93 h

set_option maxHeartbeats 4000000 in
set_option maxRecDepth 100000 in
theorem wX6_isOfKind_E (X : CX p s m args meth c D cy ad iX cX6_isOfKind 3 (wsG yX6_isOfKind cX6_isOfKind 3 (some .boolean)) RX6) (hr : meth.sig.returnType = (some .boolean)) (x1 : Int32) (x2 : Int32) (M : Mem) (h : fX6_isOfKind x1 x2 M = some z) : SW p l e rm_X6_isOfKind s m args below meth c 0 0 (QX6_isOfKind below D cy ad args s z) 3 (PH D cy ad iX s M) 0 [(0, .ref (ad 0)), (1, .int x1), (2, .int x2)] [] := by
  have hx := X.1
  have hb := X.2.1
  unfold fX6_isOfKind at h
  refine sw_iload_n hx hb dX6_isOfKind_0 1 rfl rfl ?_
  refine ifc h (fun hc1_0 h => ?_) (fun hc1_0 h => ?_)
  · refine sw_tableIn hx hb (off := 51) 52 dX6_isOfKind_1 (by rw [hc1_0]; decide) (by rw [hc1_0]; decide) (by rw [hc1_0]; decide +kernel) (by decide) ?_
    refine sw_sub (lv1 := [(0, .ref (ad 0)), (2, .int x2)]) [0, 2] rfl ?_
    exact wX6_isOfKind_L52 X hr x2 M h
  · skip
    refine ifc h (fun hc1_1 h => ?_) (fun hc1_1 h => ?_)
    · refine sw_tableIn hx hb (off := 81) 82 dX6_isOfKind_1 (by rw [hc1_1]; decide) (by rw [hc1_1]; decide) (by rw [hc1_1]; decide +kernel) (by decide) ?_
      refine sw_sub (lv1 := [(0, .ref (ad 0)), (2, .int x2)]) [0, 2] rfl ?_
      exact wX6_isOfKind_L82 X hr x2 M h
    · skip
      refine ifc h (fun hc1_2 h => ?_) (fun hc1_2 h => ?_)
      · refine sw_tableIn hx hb (off := 63) 64 dX6_isOfKind_1 (by rw [hc1_2]; decide) (by rw [hc1_2]; decide) (by rw [hc1_2]; decide +kernel) (by decide) ?_
        refine sw_aload_n hx hb dX6_isOfKind_64 0 rfl rfl ?_
        refine sw_iload_n hx hb dX6_isOfKind_65 2 rfl rfl ?_
        refine sw_callVI (C := RX6) (As := [.int x2]) (rest := []) X mi_0 (ce_6 (rfl : kd 0 = 6)) rfl rfl (fun _ hz => okX6_isOfWord l X.2.2.2.2.2.2.1 x2 M _ hz) (cwX6_193 X.2.2.2.2.1 ⟨Nat.le_of_ble_eq_true rfl, Nat.le_of_ble_eq_true rfl⟩)  rfl rfl (Nat.le_of_ble_eq_true rfl) dX6_isOfKind_66 ⟨Nat.le_of_ble_eq_true rfl, Nat.le_of_ble_eq_true rfl⟩ h (fun v_10 M_9 _ h => ?_)
        exact sw_Zret X hr dX6_isOfKind_69 h
      · skip
        refine ifc h (fun hc1_3 h => ?_) (fun hc1_3 h => ?_)
        · refine sw_tableIn hx hb (off := 81) 82 dX6_isOfKind_1 (by rw [hc1_3]; decide) (by rw [hc1_3]; decide) (by rw [hc1_3]; decide +kernel) (by decide) ?_
          refine sw_sub (lv1 := [(0, .ref (ad 0)), (2, .int x2)]) [0, 2] rfl ?_
          exact wX6_isOfKind_L82 X hr x2 M h
        · skip
          refine ifc h (fun hc1_4 h => ?_) (fun hc1_4 h => ?_)
          · refine sw_tableIn hx hb (off := 81) 82 dX6_isOfKind_1 (by rw [hc1_4]; decide) (by rw [hc1_4]; decide) (by rw [hc1_4]; decide +kernel) (by decide) ?_
            refine sw_sub (lv1 := [(0, .ref (ad 0)), (2, .int x2)]) [0, 2] rfl ?_
            exact wX6_isOfKind_L82 X hr x2 M h
          · skip
            refine ifc h (fun hc1_5 h => ?_) (fun hc1_5 h => ?_)
            · refine sw_tableIn hx hb (off := 51) 52 dX6_isOfKind_1 (by rw [hc1_5]; decide) (by rw [hc1_5]; decide) (by rw [hc1_5]; decide +kernel) (by decide) ?_
              refine sw_sub (lv1 := [(0, .ref (ad 0)), (2, .int x2)]) [0, 2] rfl ?_
              exact wX6_isOfKind_L52 X hr x2 M h
            · skip
              refine ifc h (fun hc1_6 h => ?_) (fun hc1_6 h => ?_)
              · refine sw_tableIn hx hb (off := 51) 52 dX6_isOfKind_1 (by rw [hc1_6]; decide) (by rw [hc1_6]; decide) (by rw [hc1_6]; decide +kernel) (by decide) ?_
                refine sw_sub (lv1 := [(0, .ref (ad 0)), (2, .int x2)]) [0, 2] rfl ?_
                exact wX6_isOfKind_L52 X hr x2 M h
              · skip
                refine ifc h (fun hc1_7 h => ?_) (fun hc1_7 h => ?_)
                · refine sw_tableIn hx hb (off := 81) 82 dX6_isOfKind_1 (by rw [hc1_7]; decide) (by rw [hc1_7]; decide) (by rw [hc1_7]; decide +kernel) (by decide) ?_
                  refine sw_sub (lv1 := [(0, .ref (ad 0)), (2, .int x2)]) [0, 2] rfl ?_
                  exact wX6_isOfKind_L82 X hr x2 M h
                · skip
                  refine ifc h (fun hc1_8 h => ?_) (fun hc1_8 h => ?_)
                  · refine sw_tableIn hx hb (off := 69) 70 dX6_isOfKind_1 (by rw [hc1_8]; decide) (by rw [hc1_8]; decide) (by rw [hc1_8]; decide +kernel) (by decide) ?_
                    refine sw_aload_n hx hb dX6_isOfKind_70 0 rfl rfl ?_
                    refine sw_get X inG6 mi_0 (ce_6 (rfl : kd 0 = 6)) rfl 1 (by decide) (goodW wd23) rfl dX6_isOfKind_71 ?_
                    refine sw_iload_n hx hb dX6_isOfKind_74 2 rfl rfl ?_
                    refine sw_callVI (C := RX5) (As := [.int x2]) (rest := []) X mi_3 (ce_5 (rfl : kd 3 = 5)) rfl rfl (fun _ hz => okX5_at l X.2.2.2.2.2.2.1 3 x2 (rfl : kd 3 = 5) M _ hz) (cwX6_125 X.2.2.2.2.1 ⟨Nat.le_of_ble_eq_true rfl, Nat.le_of_ble_eq_true rfl⟩)  rfl rfl (Nat.le_of_ble_eq_true rfl) dX6_isOfKind_75 ⟨Nat.le_of_ble_eq_true rfl, Nat.le_of_ble_eq_true rfl⟩ h (fun v_12 M_11 _ h => ?_)
                    refine sw_callSI (As := [.int v_12]) (rest := []) X (fun _ hz => okX6_isOther l X.2.2.2.2.2.2.1 v_12 M_11 _ hz) (cwX6_196 X.2.2.2.2.1 ⟨Nat.le_of_ble_eq_true rfl, Nat.le_of_ble_eq_true rfl⟩)  rfl rfl (Nat.le_of_ble_eq_true rfl) dX6_isOfKind_78 ⟨Nat.le_of_ble_eq_true rfl, Nat.le_of_ble_eq_true rfl⟩ h (fun v_14 M_13 _ h => ?_)
                    exact sw_Zret X hr dX6_isOfKind_81 h
                  · skip
                    refine sw_tableOut hx hb 82 dX6_isOfKind_1 (by have q0 := lv_neT hc1_0 (show (0 : Int32).toInt = 0 from rfl); have q1 := lv_neT hc1_1 (show (1 : Int32).toInt = 1 from rfl); have q2 := lv_neT hc1_2 (show (2 : Int32).toInt = 2 from rfl); have q3 := lv_neT hc1_3 (show (3 : Int32).toInt = 3 from rfl); have q4 := lv_neT hc1_4 (show (4 : Int32).toInt = 4 from rfl); have q5 := lv_neT hc1_5 (show (5 : Int32).toInt = 5 from rfl); have q6 := lv_neT hc1_6 (show (6 : Int32).toInt = 6 from rfl); have q7 := lv_neT hc1_7 (show (7 : Int32).toInt = 7 from rfl); have q8 := lv_neT hc1_8 (show (8 : Int32).toInt = 8 from rfl); omega) (by decide) ?_
                    refine sw_sub (lv1 := [(0, .ref (ad 0)), (2, .int x2)]) [0, 2] rfl ?_
                    exact wX6_isOfKind_L82 X hr x2 M h

end
theorem okX6_isOfKind (l : Launch) {D : va_G} {cy : Nat → ClassId} {ad : Nat → Nat} (hD : ∀ M : Mem, va_D (AA ad iX) (wl cy ad iX M)) (x1 : Int32) (x2 : Int32) (M : Mem) (z : Int32 × Mem) (h : fX6_isOfKind x1 x2 M = some z) : CTI l yX6_isOfKind (wsG yX6_isOfKind cX6_isOfKind 3 (some .boolean)) rm_X6_isOfKind D cy ad iX [.ref (ad 0), .int x1, .int x2] M z :=
  met_of (cc := cX6_isOfKind) (maxL := 3) (ret := (some .boolean)) (own := RX6) (by decide) rfl rfl hD ndX (Nat.le_of_ble_eq_true rfl) (fun p e s m below meth c X hr => wX6_isOfKind_E X hr x1 x2 M h)
abbrev QX6_endOfKind (below : List Frame) (D : va_G) (cy : Nat → ClassId) (ad : Nat → Nat) (args : Array Value) (s : State) (z : Int32 × Mem) : State → Prop := MQ below (va_Qi (fun r u => r = z.1 ∧ u = z.2) (BB D cy ad iX) (AA ad iX)) args s 0 0 (AA ad iX)
section
variable {p : Program} {l : Launch} {e : Env} {s : State} {m : MethodId} {args : Array Value} {below : List Frame} {meth : Method} {c : Code} {D : va_G} {cy : Nat → ClassId} {ad : Nat → Nat} {z : Int32 × Mem}
set_option maxHeartbeats 4000000 in
set_option maxRecDepth 100000 in
theorem wX6_endOfKind_H2 (X : CX p s m args meth c D cy ad iX cX6_endOfKind 4 (wsG yX6_endOfKind cX6_endOfKind 4 (some .int)) RX6) (hr : meth.sig.returnType = (some .int)) : ∀ (n : Nat) (x1 : Int32) (x3 : Int32) (M : Mem), fX6_endOfKind_H2 n x1 x3 M = some z → SW p l e rm_X6_endOfKind s m args below meth c 0 0 (QX6_endOfKind below D cy ad args s z) 4 (PH D cy ad iX s M) 2 [(0, .ref (ad 0)), (1, .int x1), (3, .int x3)] [] := by
  have hx := X.1
  have hb := X.2.1
  intro n
  induction n with
  | zero =>
    intro x1 x3 M h
    have h : (none : Option (Int32 × Mem)) = some z := h
    cases h
  | succ n ih =>
    intro x1 x3 M h
    rw [fX6_endOfKind_H2] at h
    refine sw_iload_n hx hb dX6_endOfKind_2 2 rfl rfl ?_
    refine sw_aload_n hx hb dX6_endOfKind_3 0 rfl rfl ?_
    refine sw_get X inG6 mi_0 (ce_6 (rfl : kd 0 = 6)) rfl 1 (by decide) (goodW wd23) rfl dX6_endOfKind_4 ?_
    refine sw_callVI (C := RX5) (As := []) (rest := [.int x3]) X mi_3 (ce_5 (rfl : kd 3 = 5)) rfl rfl (fun _ hz => okX5_size l X.2.2.2.2.2.2.1 3 (rfl : kd 3 = 5) M _ hz) (cwX6_51 X.2.2.2.2.1 ⟨Nat.le_of_ble_eq_true rfl, Nat.le_of_ble_eq_true rfl⟩)  rfl rfl (Nat.le_of_ble_eq_true rfl) dX6_endOfKind_7 ⟨Nat.le_of_ble_eq_true rfl, Nat.le_of_ble_eq_true rfl⟩ h (fun v_2 M_1 _ h => ?_)
    refine sw_icmp_ge hx hb 28 dX6_endOfKind_10 (by decide) h (fun h => ?_) (fun h => ?_)
    · refine sw_iload_n hx hb dX6_endOfKind_28 2 rfl rfl ?_
      exact sw_Iret X hr dX6_endOfKind_29 h
    · refine sw_aload_n hx hb dX6_endOfKind_13 0 rfl rfl ?_
      refine sw_iload_n hx hb dX6_endOfKind_14 1 rfl rfl ?_
      refine sw_iload_n hx hb dX6_endOfKind_15 2 rfl rfl ?_
      refine sw_callVI (C := RX6) (As := [.int x1, .int x3]) (rest := []) X mi_0 (ce_6 (rfl : kd 0 = 6)) rfl rfl (fun _ hz => okX6_isOfKind l X.2.2.2.2.2.2.1 x1 x3 M_1 _ hz) (cwX6_189 X.2.2.2.2.1 ⟨Nat.le_of_ble_eq_true rfl, Nat.le_of_ble_eq_true rfl⟩)  rfl rfl (Nat.le_of_ble_eq_true rfl) dX6_endOfKind_16 ⟨Nat.le_of_ble_eq_true rfl, Nat.le_of_ble_eq_true rfl⟩ h (fun v_4 M_3 _ h => ?_)
      refine sw_if_eq hx hb 28 dX6_endOfKind_19 (by decide) h (fun h => ?_) (fun h => ?_)
      · refine sw_iload_n hx hb dX6_endOfKind_28 2 rfl rfl ?_
        exact sw_Iret X hr dX6_endOfKind_29 h
      · refine sw_iincN hx hb (k := 2) (x3 + 1) (fun x3_5 => [(3, .int x3_5), (0, .ref (ad 0)), (1, .int x1)]) dX6_endOfKind_22 rfl (by rfl) (by decide) (fun _ => rfl) h (fun x3_5 h => ?_)
        refine sw_goto hx hb 2 dX6_endOfKind_25 (by decide) ?_
        refine sw_sub (lv1 := [(0, .ref (ad 0)), (1, .int x1), (3, .int x3_5)]) [1, 2, 0] rfl ?_
        exact ih x1 x3_5 M_3 h

set_option maxHeartbeats 4000000 in
set_option maxRecDepth 100000 in
theorem wX6_endOfKind_E (X : CX p s m args meth c D cy ad iX cX6_endOfKind 4 (wsG yX6_endOfKind cX6_endOfKind 4 (some .int)) RX6) (hr : meth.sig.returnType = (some .int)) (x1 : Int32) (x2 : Int32) (M : Mem) (h : fX6_endOfKind x1 x2 M = some z) : SW p l e rm_X6_endOfKind s m args below meth c 0 0 (QX6_endOfKind below D cy ad args s z) 4 (PH D cy ad iX s M) 0 [(0, .ref (ad 0)), (1, .int x1), (2, .int x2)] [] := by
  have hx := X.1
  have hb := X.2.1
  unfold fX6_endOfKind at h
  refine sw_iload_n hx hb dX6_endOfKind_0 2 rfl rfl ?_
  refine sw_istore_n hx hb [(3, .int x2), (0, .ref (ad 0)), (1, .int x1), (2, .int x2)] dX6_endOfKind_1 rfl (by decide) rfl ?_
  refine sw_sub (lv1 := [(0, .ref (ad 0)), (1, .int x1), (3, .int x2)]) [1, 2, 0] rfl ?_
  exact wX6_endOfKind_H2 X hr FU x1 x2 M h

end
theorem okX6_endOfKind (l : Launch) {D : va_G} {cy : Nat → ClassId} {ad : Nat → Nat} (hD : ∀ M : Mem, va_D (AA ad iX) (wl cy ad iX M)) (x1 : Int32) (x2 : Int32) (M : Mem) (z : Int32 × Mem) (h : fX6_endOfKind x1 x2 M = some z) : CTI l yX6_endOfKind (wsG yX6_endOfKind cX6_endOfKind 4 (some .int)) rm_X6_endOfKind D cy ad iX [.ref (ad 0), .int x1, .int x2] M z :=
  met_of (cc := cX6_endOfKind) (maxL := 4) (ret := (some .int)) (own := RX6) (by decide) rfl rfl hD ndX (Nat.le_of_ble_eq_true rfl) (fun p e s m below meth c X hr => wX6_endOfKind_E X hr x1 x2 M h)
abbrev QX6_isWebAt (below : List Frame) (D : va_G) (cy : Nat → ClassId) (ad : Nat → Nat) (args : Array Value) (s : State) (z : Int32 × Mem) : State → Prop := MQ below (va_Qi (fun r u => r = z.1 ∧ u = z.2) (BB D cy ad iX) (AA ad iX)) args s 0 0 (AA ad iX)
section
variable {p : Program} {l : Launch} {e : Env} {s : State} {m : MethodId} {args : Array Value} {below : List Frame} {meth : Method} {c : Code} {D : va_G} {cy : Nat → ClassId} {ad : Nat → Nat} {z : Int32 × Mem}
set_option maxHeartbeats 4000000 in
set_option maxRecDepth 100000 in
theorem wX6_isWebAt_E (X : CX p s m args meth c D cy ad iX cX6_isWebAt 2 (wsG yX6_isWebAt cX6_isWebAt 2 (some .boolean)) RX6) (hr : meth.sig.returnType = (some .boolean)) (x1 : Int32) (M : Mem) (h : fX6_isWebAt x1 M = some z) : SW p l e rm_X6_isWebAt s m args below meth c 0 0 (QX6_isWebAt below D cy ad args s z) 2 (PH D cy ad iX s M) 0 [(0, .ref (ad 0)), (1, .int x1)] [] := by
  have hx := X.1
  have hb := X.2.1
  unfold fX6_isWebAt at h
  refine sw_aload_n hx hb dX6_isWebAt_0 0 rfl rfl ?_
  refine sw_get X inG6 mi_0 (ce_6 (rfl : kd 0 = 6)) rfl 1 (by decide) (goodW wd23) rfl dX6_isWebAt_1 ?_
  refine sw_iload_n hx hb dX6_isWebAt_4 1 rfl rfl ?_
  refine sw_callVI (C := RX5) (As := [.int x1]) (rest := []) X mi_3 (ce_5 (rfl : kd 3 = 5)) rfl rfl (fun _ hz => okX5_at l X.2.2.2.2.2.2.1 3 x1 (rfl : kd 3 = 5) M _ hz) (cwX6_125 X.2.2.2.2.1 ⟨Nat.le_of_ble_eq_true rfl, Nat.le_of_ble_eq_true rfl⟩)  rfl rfl (Nat.le_of_ble_eq_true rfl) dX6_isWebAt_5 ⟨Nat.le_of_ble_eq_true rfl, Nat.le_of_ble_eq_true rfl⟩ h (fun v_2 M_1 _ h => ?_)
  refine sw_bipush hx hb 119 dX6_isWebAt_8 (by decide) ?_
  refine sw_icmp_ne hx hb 62 dX6_isWebAt_10 (by decide) h (fun h => ?_) (fun h => ?_)
  · refine sw_iconst hx hb 0 dX6_isWebAt_62 (by decide) ?_
    exact sw_Zret X hr dX6_isWebAt_63 h
  · refine sw_aload_n hx hb dX6_isWebAt_13 0 rfl rfl ?_
    refine sw_get X inG6 mi_0 (ce_6 (rfl : kd 0 = 6)) rfl 1 (by decide) (goodW wd23) rfl dX6_isWebAt_14 ?_
    refine sw_iload_n hx hb dX6_isWebAt_17 1 rfl rfl ?_
    refine sw_iconst hx hb 1 dX6_isWebAt_18 (by decide) ?_
    refine sw_iadd hx hb dX6_isWebAt_19 ?_
    refine sw_callVI (C := RX5) (As := [.int (x1 + 1)]) (rest := []) X mi_3 (ce_5 (rfl : kd 3 = 5)) rfl rfl (fun _ hz => okX5_at l X.2.2.2.2.2.2.1 3 (x1 + 1) (rfl : kd 3 = 5) M_1 _ hz) (cwX6_125 X.2.2.2.2.1 ⟨Nat.le_of_ble_eq_true rfl, Nat.le_of_ble_eq_true rfl⟩)  rfl rfl (Nat.le_of_ble_eq_true rfl) dX6_isWebAt_20 ⟨Nat.le_of_ble_eq_true rfl, Nat.le_of_ble_eq_true rfl⟩ h (fun v_4 M_3 _ h => ?_)
    refine sw_bipush hx hb 119 dX6_isWebAt_23 (by decide) ?_
    refine sw_icmp_ne hx hb 62 dX6_isWebAt_25 (by decide) h (fun h => ?_) (fun h => ?_)
    · refine sw_iconst hx hb 0 dX6_isWebAt_62 (by decide) ?_
      exact sw_Zret X hr dX6_isWebAt_63 h
    · refine sw_aload_n hx hb dX6_isWebAt_28 0 rfl rfl ?_
      refine sw_get X inG6 mi_0 (ce_6 (rfl : kd 0 = 6)) rfl 1 (by decide) (goodW wd23) rfl dX6_isWebAt_29 ?_
      refine sw_iload_n hx hb dX6_isWebAt_32 1 rfl rfl ?_
      refine sw_iconst hx hb 2 dX6_isWebAt_33 (by decide) ?_
      refine sw_iadd hx hb dX6_isWebAt_34 ?_
      refine sw_callVI (C := RX5) (As := [.int (x1 + 2)]) (rest := []) X mi_3 (ce_5 (rfl : kd 3 = 5)) rfl rfl (fun _ hz => okX5_at l X.2.2.2.2.2.2.1 3 (x1 + 2) (rfl : kd 3 = 5) M_3 _ hz) (cwX6_125 X.2.2.2.2.1 ⟨Nat.le_of_ble_eq_true rfl, Nat.le_of_ble_eq_true rfl⟩)  rfl rfl (Nat.le_of_ble_eq_true rfl) dX6_isWebAt_35 ⟨Nat.le_of_ble_eq_true rfl, Nat.le_of_ble_eq_true rfl⟩ h (fun v_6 M_5 _ h => ?_)
      refine sw_bipush hx hb 119 dX6_isWebAt_38 (by decide) ?_
      refine sw_icmp_ne hx hb 62 dX6_isWebAt_40 (by decide) h (fun h => ?_) (fun h => ?_)
      · refine sw_iconst hx hb 0 dX6_isWebAt_62 (by decide) ?_
        exact sw_Zret X hr dX6_isWebAt_63 h
      · refine sw_aload_n hx hb dX6_isWebAt_43 0 rfl rfl ?_
        refine sw_get X inG6 mi_0 (ce_6 (rfl : kd 0 = 6)) rfl 1 (by decide) (goodW wd23) rfl dX6_isWebAt_44 ?_
        refine sw_iload_n hx hb dX6_isWebAt_47 1 rfl rfl ?_
        refine sw_iconst hx hb 3 dX6_isWebAt_48 (by decide) ?_
        refine sw_iadd hx hb dX6_isWebAt_49 ?_
        refine sw_callVI (C := RX5) (As := [.int (x1 + 3)]) (rest := []) X mi_3 (ce_5 (rfl : kd 3 = 5)) rfl rfl (fun _ hz => okX5_at l X.2.2.2.2.2.2.1 3 (x1 + 3) (rfl : kd 3 = 5) M_5 _ hz) (cwX6_125 X.2.2.2.2.1 ⟨Nat.le_of_ble_eq_true rfl, Nat.le_of_ble_eq_true rfl⟩)  rfl rfl (Nat.le_of_ble_eq_true rfl) dX6_isWebAt_50 ⟨Nat.le_of_ble_eq_true rfl, Nat.le_of_ble_eq_true rfl⟩ h (fun v_8 M_7 _ h => ?_)
        refine sw_bipush hx hb 46 dX6_isWebAt_53 (by decide) ?_
        refine sw_icmp_ne hx hb 62 dX6_isWebAt_55 (by decide) h (fun h => ?_) (fun h => ?_)
        · refine sw_iconst hx hb 0 dX6_isWebAt_62 (by decide) ?_
          exact sw_Zret X hr dX6_isWebAt_63 h
        · refine sw_iconst hx hb 1 dX6_isWebAt_58 (by decide) ?_
          refine sw_goto hx hb 63 dX6_isWebAt_59 (by decide) ?_
          exact sw_Zret X hr dX6_isWebAt_63 h

end
theorem okX6_isWebAt (l : Launch) {D : va_G} {cy : Nat → ClassId} {ad : Nat → Nat} (hD : ∀ M : Mem, va_D (AA ad iX) (wl cy ad iX M)) (x1 : Int32) (M : Mem) (z : Int32 × Mem) (h : fX6_isWebAt x1 M = some z) : CTI l yX6_isWebAt (wsG yX6_isWebAt cX6_isWebAt 2 (some .boolean)) rm_X6_isWebAt D cy ad iX [.ref (ad 0), .int x1] M z :=
  met_of (cc := cX6_isWebAt) (maxL := 2) (ret := (some .boolean)) (own := RX6) (by decide) rfl rfl hD ndX (Nat.le_of_ble_eq_true rfl) (fun p e s m below meth c X hr => wX6_isWebAt_E X hr x1 M h)
abbrev QX6_isLinkAt (below : List Frame) (D : va_G) (cy : Nat → ClassId) (ad : Nat → Nat) (args : Array Value) (s : State) (z : Int32 × Mem) : State → Prop := MQ below (va_Qi (fun r u => r = z.1 ∧ u = z.2) (BB D cy ad iX) (AA ad iX)) args s 0 0 (AA ad iX)
section
variable {p : Program} {l : Launch} {e : Env} {s : State} {m : MethodId} {args : Array Value} {below : List Frame} {meth : Method} {c : Code} {D : va_G} {cy : Nat → ClassId} {ad : Nat → Nat} {z : Int32 × Mem}
set_option maxHeartbeats 4000000 in
set_option maxRecDepth 100000 in
theorem wX6_isLinkAt_H50 (X : CX p s m args meth c D cy ad iX cX6_isLinkAt 4 (wsG yX6_isLinkAt cX6_isLinkAt 4 (some .boolean)) RX6) (hr : meth.sig.returnType = (some .boolean)) : ∀ (n : Nat) (x2 : Int32) (x3 : Int32) (M : Mem), fX6_isLinkAt_H50 n x2 x3 M = some z → SW p l e rm_X6_isLinkAt s m args below meth c 0 0 (QX6_isLinkAt below D cy ad args s z) 4 (PH D cy ad iX s M) 50 [(0, .ref (ad 0)), (2, .int x2), (3, .int x3)] [] := by
  have hx := X.1
  have hb := X.2.1
  intro n
  induction n with
  | zero =>
    intro x2 x3 M h
    have h : (none : Option (Int32 × Mem)) = some z := h
    cases h
  | succ n ih =>
    intro x2 x3 M h
    rw [fX6_isLinkAt_H50] at h
    refine sw_iload_n hx hb dX6_isLinkAt_50 2 rfl rfl ?_
    refine sw_iload_n hx hb dX6_isLinkAt_51 1 rfl rfl ?_
    refine sw_iconst hx hb 1 dX6_isLinkAt_52 (by decide) ?_
    refine sw_isub hx hb dX6_isLinkAt_53 ?_
    refine sw_icmp_ge hx hb 78 dX6_isLinkAt_54 (by decide) h (fun h => ?_) (fun h => ?_)
    · refine sw_iconst hx hb 0 dX6_isLinkAt_78 (by decide) ?_
      exact sw_Zret X hr dX6_isLinkAt_79 h
    · refine sw_aload_n hx hb dX6_isLinkAt_57 0 rfl rfl ?_
      refine sw_get X inG6 mi_0 (ce_6 (rfl : kd 0 = 6)) rfl 1 (by decide) (goodW wd23) rfl dX6_isLinkAt_58 ?_
      refine sw_iload_n hx hb dX6_isLinkAt_61 2 rfl rfl ?_
      refine sw_callVI (C := RX5) (As := [.int x3]) (rest := []) X mi_3 (ce_5 (rfl : kd 3 = 5)) rfl rfl (fun _ hz => okX5_at l X.2.2.2.2.2.2.1 3 x3 (rfl : kd 3 = 5) M _ hz) (cwX6_125 X.2.2.2.2.1 ⟨Nat.le_of_ble_eq_true rfl, Nat.le_of_ble_eq_true rfl⟩)  rfl rfl (Nat.le_of_ble_eq_true rfl) dX6_isLinkAt_62 ⟨Nat.le_of_ble_eq_true rfl, Nat.le_of_ble_eq_true rfl⟩ h (fun v_5 M_4 _ h => ?_)
      refine sw_bipush hx hb 64 dX6_isLinkAt_65 (by decide) ?_
      refine sw_icmp_ne hx hb 72 dX6_isLinkAt_67 (by decide) h (fun h => ?_) (fun h => ?_)
      · refine sw_iincN hx hb (k := 2) (x3 + 1) (fun x3_6 => [(3, .int x3_6), (0, .ref (ad 0)), (2, .int x2)]) dX6_isLinkAt_72 rfl (by rfl) (by decide) (fun _ => rfl) h (fun x3_6 h => ?_)
        refine sw_goto hx hb 50 dX6_isLinkAt_75 (by decide) ?_
        refine sw_sub (lv1 := [(0, .ref (ad 0)), (2, .int x2), (3, .int x3_6)]) [1, 2, 0] rfl ?_
        exact ih x2 x3_6 M_4 h
      · refine sw_iconst hx hb 1 dX6_isLinkAt_70 (by decide) ?_
        exact sw_Zret X hr dX6_isLinkAt_71 h

set_option maxHeartbeats 4000000 in
set_option maxRecDepth 100000 in
theorem wX6_isLinkAt_L46 (X : CX p s m args meth c D cy ad iX cX6_isLinkAt 4 (wsG yX6_isLinkAt cX6_isLinkAt 4 (some .boolean)) RX6) (hr : meth.sig.returnType = (some .boolean)) (x1 : Int32) (x2 : Int32) (M : Mem) (h : fX6_isLinkAt_L46 x1 x2 M = some z) : SW p l e rm_X6_isLinkAt s m args below meth c 0 0 (QX6_isLinkAt below D cy ad args s z) 4 (PH D cy ad iX s M) 46 [(0, .ref (ad 0)), (1, .int x1), (2, .int x2)] [] := by
  have hx := X.1
  have hb := X.2.1
  unfold fX6_isLinkAt_L46 at h
  refine sw_iload_n hx hb dX6_isLinkAt_46 1 rfl rfl ?_
  refine sw_iconst hx hb 1 dX6_isLinkAt_47 (by decide) ?_
  refine sw_iadd hx hb dX6_isLinkAt_48 ?_
  refine sw_istore_nN hx hb (fun x3_3 => [(3, .int x3_3), (0, .ref (ad 0)), (1, .int x1), (2, .int x2)]) dX6_isLinkAt_49 rfl (by decide) (fun _ => rfl) h (fun x3_3 h => ?_)
  refine sw_sub (lv1 := [(0, .ref (ad 0)), (2, .int x2), (3, .int x3_3)]) [1, 3, 0] rfl ?_
  exact wX6_isLinkAt_H50 X hr FU x2 x3_3 M h

set_option maxHeartbeats 4000000 in
set_option maxRecDepth 100000 in
theorem wX6_isLinkAt_L22 (X : CX p s m args meth c D cy ad iX cX6_isLinkAt 4 (wsG yX6_isLinkAt cX6_isLinkAt 4 (some .boolean)) RX6) (hr : meth.sig.returnType = (some .boolean)) (x1 : Int32) (M : Mem) (h : fX6_isLinkAt_L22 x1 M = some z) : SW p l e rm_X6_isLinkAt s m args below meth c 0 0 (QX6_isLinkAt below D cy ad args s z) 4 (PH D cy ad iX s M) 22 [(0, .ref (ad 0)), (1, .int x1)] [] := by
  have hx := X.1
  have hb := X.2.1
  unfold fX6_isLinkAt_L22 at h
  refine sw_aload_n hx hb dX6_isLinkAt_22 0 rfl rfl ?_
  refine sw_iconst hx hb 1 dX6_isLinkAt_23 (by decide) ?_
  refine sw_iload_n hx hb dX6_isLinkAt_24 1 rfl rfl ?_
  refine sw_callVI (C := RX6) (As := [.int 1, .int x1]) (rest := []) X mi_0 (ce_6 (rfl : kd 0 = 6)) rfl rfl (fun _ hz => okX6_endOfKind l X.2.2.2.2.2.2.1 1 x1 M _ hz) (cwX6_134 X.2.2.2.2.1 ⟨Nat.le_of_ble_eq_true rfl, Nat.le_of_ble_eq_true rfl⟩)  rfl rfl (Nat.le_of_ble_eq_true rfl) dX6_isLinkAt_25 ⟨Nat.le_of_ble_eq_true rfl, Nat.le_of_ble_eq_true rfl⟩ h (fun v_2 M_1 _ h => ?_)
  refine sw_istore_n hx hb [(2, .int v_2), (0, .ref (ad 0)), (1, .int x1)] dX6_isLinkAt_28 rfl (by decide) rfl ?_
  refine sw_iload_n hx hb dX6_isLinkAt_29 0 rfl rfl ?_
  refine sw_iload_n hx hb dX6_isLinkAt_30 2 rfl rfl ?_
  refine sw_isub hx hb dX6_isLinkAt_31 ?_
  refine sw_iconst hx hb 4 dX6_isLinkAt_32 (by decide) ?_
  refine sw_icmp_le hx hb 46 dX6_isLinkAt_33 (by decide) h (fun h => ?_) (fun h => ?_)
  · refine sw_sub (lv1 := [(0, .ref (ad 0)), (1, .int x1), (2, .int v_2)]) [1, 2, 0] rfl ?_
    exact wX6_isLinkAt_L46 X hr x1 v_2 M_1 h
  · refine sw_aload_n hx hb dX6_isLinkAt_36 1 rfl rfl ?_
    refine sw_iload_n hx hb dX6_isLinkAt_37 2 rfl rfl ?_
    refine sw_callVI (C := RX6) (As := [.int x1]) (rest := []) X mi_0 (ce_6 (rfl : kd 0 = 6)) rfl rfl (fun _ hz => okX6_isWebAt l X.2.2.2.2.2.2.1 x1 M_1 _ hz) (cwX6_199 X.2.2.2.2.1 ⟨Nat.le_of_ble_eq_true rfl, Nat.le_of_ble_eq_true rfl⟩)  rfl rfl (Nat.le_of_ble_eq_true rfl) dX6_isLinkAt_38 ⟨Nat.le_of_ble_eq_true rfl, Nat.le_of_ble_eq_true rfl⟩ h (fun v_8 M_7 _ h => ?_)
    refine sw_if_eq hx hb 46 dX6_isLinkAt_41 (by decide) h (fun h => ?_) (fun h => ?_)
    · refine sw_sub (lv1 := [(0, .ref (ad 0)), (1, .int x1), (2, .int v_2)]) [1, 2, 0] rfl ?_
      exact wX6_isLinkAt_L46 X hr x1 v_2 M_7 h
    · refine sw_iconst hx hb 1 dX6_isLinkAt_44 (by decide) ?_
      exact sw_Zret X hr dX6_isLinkAt_45 h

set_option maxHeartbeats 4000000 in
set_option maxRecDepth 100000 in
theorem wX6_isLinkAt_E (X : CX p s m args meth c D cy ad iX cX6_isLinkAt 4 (wsG yX6_isLinkAt cX6_isLinkAt 4 (some .boolean)) RX6) (hr : meth.sig.returnType = (some .boolean)) (x1 : Int32) (M : Mem) (h : fX6_isLinkAt x1 M = some z) : SW p l e rm_X6_isLinkAt s m args below meth c 0 0 (QX6_isLinkAt below D cy ad args s z) 4 (PH D cy ad iX s M) 0 [(0, .ref (ad 0)), (1, .int x1)] [] := by
  have hx := X.1
  have hb := X.2.1
  unfold fX6_isLinkAt at h
  refine sw_iload_n hx hb dX6_isLinkAt_0 1 rfl rfl ?_
  refine sw_if_le hx hb 22 dX6_isLinkAt_1 (by decide) h (fun h => ?_) (fun h => ?_)
  · refine sw_sub (lv1 := [(0, .ref (ad 0)), (1, .int x1)]) [0, 1] rfl ?_
    exact wX6_isLinkAt_L22 X hr x1 M h
  · refine sw_aload_n hx hb dX6_isLinkAt_4 0 rfl rfl ?_
    refine sw_get X inG6 mi_0 (ce_6 (rfl : kd 0 = 6)) rfl 1 (by decide) (goodW wd23) rfl dX6_isLinkAt_5 ?_
    refine sw_iload_n hx hb dX6_isLinkAt_8 1 rfl rfl ?_
    refine sw_iconst hx hb 1 dX6_isLinkAt_9 (by decide) ?_
    refine sw_isub hx hb dX6_isLinkAt_10 ?_
    refine sw_callVI (C := RX5) (As := [.int (x1 - 1)]) (rest := []) X mi_3 (ce_5 (rfl : kd 3 = 5)) rfl rfl (fun _ hz => okX5_at l X.2.2.2.2.2.2.1 3 (x1 - 1) (rfl : kd 3 = 5) M _ hz) (cwX6_125 X.2.2.2.2.1 ⟨Nat.le_of_ble_eq_true rfl, Nat.le_of_ble_eq_true rfl⟩)  rfl rfl (Nat.le_of_ble_eq_true rfl) dX6_isLinkAt_11 ⟨Nat.le_of_ble_eq_true rfl, Nat.le_of_ble_eq_true rfl⟩ h (fun v_10 M_9 _ h => ?_)
    refine sw_callSI (As := [.int v_10]) (rest := []) X (fun _ hz => okX6_isBlank l X.2.2.2.2.2.2.1 v_10 M_9 _ hz) (cwX6_128 X.2.2.2.2.1 ⟨Nat.le_of_ble_eq_true rfl, Nat.le_of_ble_eq_true rfl⟩)  rfl rfl (Nat.le_of_ble_eq_true rfl) dX6_isLinkAt_14 ⟨Nat.le_of_ble_eq_true rfl, Nat.le_of_ble_eq_true rfl⟩ h (fun v_12 M_11 _ h => ?_)
    refine sw_if_ne hx hb 22 dX6_isLinkAt_17 (by decide) h (fun h => ?_) (fun h => ?_)
    · refine sw_sub (lv1 := [(0, .ref (ad 0)), (1, .int x1)]) [0, 1] rfl ?_
      exact wX6_isLinkAt_L22 X hr x1 M_11 h
    · refine sw_iconst hx hb 0 dX6_isLinkAt_20 (by decide) ?_
      exact sw_Zret X hr dX6_isLinkAt_21 h

end
theorem okX6_isLinkAt (l : Launch) {D : va_G} {cy : Nat → ClassId} {ad : Nat → Nat} (hD : ∀ M : Mem, va_D (AA ad iX) (wl cy ad iX M)) (x1 : Int32) (M : Mem) (z : Int32 × Mem) (h : fX6_isLinkAt x1 M = some z) : CTI l yX6_isLinkAt (wsG yX6_isLinkAt cX6_isLinkAt 4 (some .boolean)) rm_X6_isLinkAt D cy ad iX [.ref (ad 0), .int x1] M z :=
  met_of (cc := cX6_isLinkAt) (maxL := 4) (ret := (some .boolean)) (own := RX6) (by decide) rfl rfl hD ndX (Nat.le_of_ble_eq_true rfl) (fun p e s m below meth c X hr => wX6_isLinkAt_E X hr x1 M h)
