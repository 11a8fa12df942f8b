abbrev QX6_cutPaths (below : List Frame) (D : va_G) (cy : Nat → ClassId) (ad : Nat → Nat) (args : Array Value) (s : State) (z : Mem) : State → Prop := MQ below (va_Qv (fun u => u = z) (BB D cy ad iX) (AA ad iX)) args s 0 0 (AA ad iX)
section
variable {p : Program} {l : Launch} {e : Env} {s : State} {m : MethodId} {args : Array Value} {below : List Frame} {meth : Method} {c : Code} {D : va_G} {cy : Nat → ClassId} {ad : Nat → Nat} {z : Mem}
set_option maxHeartbeats 4000000 in
set_option maxRecDepth 100000 in
theorem wX6_cutPaths_L31 (X : CX p s m args meth c D cy ad iX cX6_cutPaths 4 (wsG yX6_cutPaths cX6_cutPaths 4 none) RX6) (hr : meth.sig.returnType = none) (k4 : Int32 → Int32 → Int32 → Mem → Option (Mem)) (hk4 : ∀ (x1 : Int32) (x2 : Int32) (x3 : Int32) (M : Mem), k4 x1 x2 x3 M = some z → SW p l e rm_X6_cutPaths s m args below meth c 0 0 (QX6_cutPaths below D cy ad args s z) 4 (PH D cy ad iX s M) 4 [(0, .ref (ad 0)), (1, .int x1), (2, .int x2), (3, .int x3)] []) (x1 : Int32) (x2 : Int32) (x3 : Int32) (M : Mem) (h : fX6_cutPaths_L31 k4 x1 x2 x3 M = some z) : SW p l e rm_X6_cutPaths s m args below meth c 0 0 (QX6_cutPaths below D cy ad args s z) 4 (PH D cy ad iX s M) 31 [(0, .ref (ad 0)), (1, .int x1), (2, .int x2), (3, .int x3)] [] := by
  have hx := X.1
  have hb := X.2.1
  unfold fX6_cutPaths_L31 at h
  refine sw_iincN hx hb (k := 3) (x3 + 1) (fun x3_6 => [(3, .int x3_6), (0, .ref (ad 0)), (1, .int x1), (2, .int x2)]) dX6_cutPaths_31 rfl (by rfl) (by decide) (fun _ => rfl) h (fun x3_6 h => ?_)
  refine sw_goto hx hb 4 dX6_cutPaths_34 (by decide) ?_
  refine sw_sub (lv1 := [(0, .ref (ad 0)), (1, .int x1), (2, .int x2), (3, .int x3_6)]) [1, 2, 3, 0] rfl ?_
  exact hk4 x1 x2 x3_6 M h

set_option maxHeartbeats 4000000 in
set_option maxRecDepth 100000 in
theorem wX6_cutPaths_H4 (X : CX p s m args meth c D cy ad iX cX6_cutPaths 4 (wsG yX6_cutPaths cX6_cutPaths 4 none) RX6) (hr : meth.sig.returnType = none) : ∀ (n : Nat) (x1 : Int32) (x2 : Int32) (x3 : Int32) (M : Mem), fX6_cutPaths_H4 n x1 x2 x3 M = some z → SW p l e rm_X6_cutPaths s m args below meth c 0 0 (QX6_cutPaths below D cy ad args s z) 4 (PH D cy ad iX s M) 4 [(0, .ref (ad 0)), (1, .int x1), (2, .int x2), (3, .int x3)] [] := by
  have hx := X.1
  have hb := X.2.1
  intro n
  induction n with
  | zero =>
    intro x1 x2 x3 M h
    have h : (none : Option (Mem)) = some z := h
    cases h
  | succ n ih =>
    intro x1 x2 x3 M h
    rw [fX6_cutPaths_H4] at h
    refine sw_iload_n hx hb dX6_cutPaths_4 3 rfl rfl ?_
    refine sw_iload_n hx hb dX6_cutPaths_5 2 rfl rfl ?_
    refine sw_icmp_ge hx hb 37 dX6_cutPaths_6 (by decide) h (fun h => ?_) (fun h => ?_)
    · refine sw_aload_n hx hb dX6_cutPaths_37 0 rfl rfl ?_
      refine sw_get X inG6 mi_0 (ce_6 (rfl : kd 0 = 6)) rfl 2 (by decide) (goodW wd28) rfl dX6_cutPaths_38 ?_
      refine sw_iload_n hx hb dX6_cutPaths_41 1 rfl rfl ?_
      refine sw_iload_n hx hb dX6_cutPaths_42 2 rfl rfl ?_
      refine sw_callVV (C := RX2) (As := [.int x1, .int x2]) (rest := []) X mi_5 (ce_2 (rfl : kd 5 = 2)) rfl rfl (fun _ hz => okX2_add l X.2.2.2.2.2.2.1 x1 x2 M _ hz) (cwX6_151 X.2.2.2.2.1 ⟨Nat.le_of_ble_eq_true rfl, Nat.le_of_ble_eq_true rfl⟩)  rfl rfl (Nat.le_of_ble_eq_true rfl) dX6_cutPaths_43 ⟨Nat.le_of_ble_eq_true rfl, Nat.le_of_ble_eq_true rfl⟩ h (fun M_2 _ h => ?_)
      exact sw_Vret X hr dX6_cutPaths_46 h
    · refine sw_aload_n hx hb dX6_cutPaths_9 0 rfl rfl ?_
      refine sw_get X inG6 mi_0 (ce_6 (rfl : kd 0 = 6)) rfl 1 (by decide) (goodW wd23) rfl dX6_cutPaths_10 ?_
      refine sw_iload_n hx hb dX6_cutPaths_13 3 rfl rfl ?_
      refine sw_callVI (C := RX5) (As := [.int x3]) (rest := []) X mi_3 (ce_5 (rfl : kd 3 = 5)) rfl rfl (fun _ hz => okX5_at l X.2.2.2.2.2.2.1 3 x3 (rfl : kd 3 = 5) M _ hz) (cwX6_125 X.2.2.2.2.1 ⟨Nat.le_of_ble_eq_true rfl, Nat.le_of_ble_eq_true rfl⟩)  rfl rfl (Nat.le_of_ble_eq_true rfl) dX6_cutPaths_14 ⟨Nat.le_of_ble_eq_true rfl, Nat.le_of_ble_eq_true rfl⟩ h (fun v_5 M_4 _ h => ?_)
      refine sw_bipush hx hb 47 dX6_cutPaths_17 (by decide) ?_
      refine sw_icmp_ne hx hb 31 dX6_cutPaths_19 (by decide) h (fun h => ?_) (fun h => ?_)
      · refine sw_sub (lv1 := [(0, .ref (ad 0)), (1, .int x1), (2, .int x2), (3, .int x3)]) [0, 1, 2, 3] rfl ?_
        exact wX6_cutPaths_L31 X hr (fX6_cutPaths_H4 n) ih x1 x2 x3 M_4 h
      · refine sw_aload_n hx hb dX6_cutPaths_22 0 rfl rfl ?_
        refine sw_get X inG6 mi_0 (ce_6 (rfl : kd 0 = 6)) rfl 2 (by decide) (goodW wd28) rfl dX6_cutPaths_23 ?_
        refine sw_iload_n hx hb dX6_cutPaths_26 1 rfl rfl ?_
        refine sw_iload_n hx hb dX6_cutPaths_27 3 rfl rfl ?_
        refine sw_callVV (C := RX2) (As := [.int x1, .int x3]) (rest := []) X mi_5 (ce_2 (rfl : kd 5 = 2)) rfl rfl (fun _ hz => okX2_add l X.2.2.2.2.2.2.1 x1 x3 M_4 _ hz) (cwX6_151 X.2.2.2.2.1 ⟨Nat.le_of_ble_eq_true rfl, Nat.le_of_ble_eq_true rfl⟩)  rfl rfl (Nat.le_of_ble_eq_true rfl) dX6_cutPaths_28 ⟨Nat.le_of_ble_eq_true rfl, Nat.le_of_ble_eq_true rfl⟩ h (fun M_7 _ h => ?_)
        refine sw_sub (lv1 := [(0, .ref (ad 0)), (1, .int x1), (2, .int x2), (3, .int x3)]) [0, 1, 2, 3] rfl ?_
        exact wX6_cutPaths_L31 X hr (fX6_cutPaths_H4 n) ih x1 x2 x3 M_7 h

set_option maxHeartbeats 4000000 in
set_option maxRecDepth 100000 in
theorem wX6_cutPaths_E (X : CX p s m args meth c D cy ad iX cX6_cutPaths 4 (wsG yX6_cutPaths cX6_cutPaths 4 none) RX6) (hr : meth.sig.returnType = none) (x1 : Int32) (x2 : Int32) (M : Mem) (h : fX6_cutPaths x1 x2 M = some z) : SW p l e rm_X6_cutPaths s m args below meth c 0 0 (QX6_cutPaths below D cy ad args s z) 4 (PH D cy ad iX s M) 0 [(0, .ref (ad 0)), (1, .int x1), (2, .int x2)] [] := by
  have hx := X.1
  have hb := X.2.1
  unfold fX6_cutPaths at h
  refine sw_iload_n hx hb dX6_cutPaths_0 1 rfl rfl ?_
  refine sw_iconst hx hb 1 dX6_cutPaths_1 (by decide) ?_
  refine sw_iadd hx hb dX6_cutPaths_2 ?_
  refine sw_istore_nN hx hb (fun x3_1 => [(3, .int x3_1), (0, .ref (ad 0)), (1, .int x1), (2, .int x2)]) dX6_cutPaths_3 rfl (by decide) (fun _ => rfl) h (fun x3_1 h => ?_)
  refine sw_sub (lv1 := [(0, .ref (ad 0)), (1, .int x1), (2, .int x2), (3, .int x3_1)]) [1, 2, 3, 0] rfl ?_
  exact wX6_cutPaths_H4 X hr FU x1 x2 x3_1 M h

end
theorem okX6_cutPaths (l : Launch) {D : va_G} {cy : Nat → ClassId} {ad : Nat → Nat} (hD : ∀ M : Mem, va_D (AA ad iX) (wl cy ad iX M)) (x1 : Int32) (x2 : Int32) (M : Mem) (z : Mem) (h : fX6_cutPaths x1 x2 M = some z) : CTV l yX6_cutPaths (wsG yX6_cutPaths cX6_cutPaths 4 none) rm_X6_cutPaths D cy ad iX [.ref (ad 0), .int x1, .int x2] M z :=
  met_of (cc := cX6_cutPaths) (maxL := 4) (ret := none) (own := RX6) (by decide) rfl rfl hD ndX (Nat.le_of_ble_eq_true rfl) (fun p e s m below meth c X hr => wX6_cutPaths_E X hr x1 x2 M h)
abbrev QX6_cutSizes (below : List Frame) (D : va_G) (cy : Nat → ClassId) (ad : Nat → Nat) (args : Array Value) (s : State) (z : Mem) : State → Prop := MQ below (va_Qv (fun u => u = z) (BB D cy ad iX) (AA ad iX)) args s 0 0 (AA ad iX)
section
variable {p : Program} {l : Launch} {e : Env} {s : State} {m : MethodId} {args : Array Value} {below : List Frame} {meth : Method} {c : Code} {D : va_G} {cy : Nat → ClassId} {ad : Nat → Nat} {z : Mem}
set_option maxHeartbeats 4000000 in
set_option maxRecDepth 100000 in
theorem wX6_cutSizes_H15 (X : CX p s m args meth c D cy ad iX cX6_cutSizes 7 (wsG yX6_cutSizes cX6_cutSizes 7 none) RX6) (hr : meth.sig.returnType = none) : ∀ (n : Nat) (x1 : Int32) (x5 : Int32) (x6 : Int32) (M : Mem), fX6_cutSizes_H15 n x1 x5 x6 M = some z → SW p l e rm_X6_cutSizes s m args below meth c 0 0 (QX6_cutSizes below D cy ad args s z) 7 (PH D cy ad iX s M) 15 [(0, .ref (ad 0)), (1, .int x1), (5, .int x5), (6, .int x6)] [] := by
  have hx := X.1
  have hb := X.2.1
  intro n
  induction n with
  | zero =>
    intro x1 x5 x6 M h
    have h : (none : Option (Mem)) = some z := h
    cases h
  | succ n ih =>
    intro x1 x5 x6 M h
    rw [fX6_cutSizes_H15] at h
    refine sw_iload hx hb dX6_cutSizes_15 3 rfl ?_
    refine sw_iload hx hb dX6_cutSizes_17 2 rfl ?_
    refine sw_icmp_gt hx hb 38 dX6_cutSizes_19 (by decide) h (fun h => ?_) (fun h => ?_)
    · exact sw_Vret X hr dX6_cutSizes_38 h
    · refine sw_aload_n hx hb dX6_cutSizes_22 0 rfl rfl ?_
      refine sw_get X inG6 mi_0 (ce_6 (rfl : kd 0 = 6)) rfl 2 (by decide) (goodW wd28) rfl dX6_cutSizes_23 ?_
      refine sw_iload_n hx hb dX6_cutSizes_26 1 rfl rfl ?_
      refine sw_iload hx hb dX6_cutSizes_27 3 rfl ?_
      refine sw_callVV (C := RX2) (As := [.int x1, .int x6]) (rest := []) X mi_5 (ce_2 (rfl : kd 5 = 2)) rfl rfl (fun _ hz => okX2_add l X.2.2.2.2.2.2.1 x1 x6 M _ hz) (cwX6_151 X.2.2.2.2.1 ⟨Nat.le_of_ble_eq_true rfl, Nat.le_of_ble_eq_true rfl⟩)  rfl rfl (Nat.le_of_ble_eq_true rfl) dX6_cutSizes_29 ⟨Nat.le_of_ble_eq_true rfl, Nat.le_of_ble_eq_true rfl⟩ h (fun M_3 _ h => ?_)
      refine sw_iincN hx hb (k := 3) (x6 + 1) (fun x6_5 => [(6, .int x6_5), (0, .ref (ad 0)), (1, .int x1), (5, .int x5)]) dX6_cutSizes_32 rfl (by rfl) (by decide) (fun _ => rfl) h (fun x6_5 h => ?_)
      refine sw_goto hx hb 15 dX6_cutSizes_35 (by decide) ?_
      refine sw_sub (lv1 := [(0, .ref (ad 0)), (1, .int x1), (5, .int x5), (6, .int x6_5)]) [1, 2, 3, 0] rfl ?_
      exact ih x1 x5 x6_5 M_3 h

set_option maxHeartbeats 4000000 in
set_option maxRecDepth 100000 in
theorem wX6_cutSizes_E (X : CX p s m args meth c D cy ad iX cX6_cutSizes 7 (wsG yX6_cutSizes cX6_cutSizes 7 none) RX6) (hr : meth.sig.returnType = none) (x1 : Int32) (x2 : Int32) (x3 : Int32) (x4 : Int32) (M : Mem) (h : fX6_cutSizes x1 x2 x3 x4 M = some z) : SW p l e rm_X6_cutSizes s m args below meth c 0 0 (QX6_cutSizes below D cy ad args s z) 7 (PH D cy ad iX s M) 0 [(0, .ref (ad 0)), (1, .int x1), (2, .int x2), (3, .int x3), (4, .int x4)] [] := by
  have hx := X.1
  have hb := X.2.1
  unfold fX6_cutSizes at h
  refine sw_iload_n hx hb dX6_cutSizes_0 2 rfl rfl ?_
  refine sw_iload_n hx hb dX6_cutSizes_1 1 rfl rfl ?_
  refine sw_iload hx hb dX6_cutSizes_2 4 rfl ?_
  refine sw_iadd hx hb dX6_cutSizes_4 ?_
  refine sw_mmin X (goodW wd296) (goodW wd105) (goodW wd106) (goodW wd107) (Nat.le_of_ble_eq_true rfl) (Nat.le_of_ble_eq_true rfl) (Nat.le_of_ble_eq_true rfl) (Nat.le_of_ble_eq_true rfl) dX6_cutSizes_5 ?_
  refine sw_istoreN hx hb (fun x5_1 => [(5, .int x5_1), (0, .ref (ad 0)), (1, .int x1), (2, .int x2), (3, .int x3), (4, .int x4)]) dX6_cutSizes_8 (by decide) (fun _ => rfl) h (fun x5_1 h => ?_)
  refine sw_iload_n hx hb dX6_cutSizes_10 2 rfl rfl ?_
  refine sw_iload_n hx hb dX6_cutSizes_11 4 rfl rfl ?_
  refine sw_iadd hx hb dX6_cutSizes_12 ?_
  refine sw_istoreN hx hb (fun x6_2 => [(6, .int x6_2), (5, .int x5_1), (0, .ref (ad 0)), (1, .int x1), (2, .int x2), (3, .int x3), (4, .int x4)]) dX6_cutSizes_13 (by decide) (fun _ => rfl) h (fun x6_2 h => ?_)
  refine sw_sub (lv1 := [(0, .ref (ad 0)), (1, .int x1), (5, .int x5_1), (6, .int x6_2)]) [2, 3, 1, 0] rfl ?_
  exact wX6_cutSizes_H15 X hr FU x1 x5_1 x6_2 M h

end
theorem okX6_cutSizes (l : Launch) {D : va_G} {cy : Nat → ClassId} {ad : Nat → Nat} (hD : ∀ M : Mem, va_D (AA ad iX) (wl cy ad iX M)) (x1 : Int32) (x2 : Int32) (x3 : Int32) (x4 : Int32) (M : Mem) (z : Mem) (h : fX6_cutSizes x1 x2 x3 x4 M = some z) : CTV l yX6_cutSizes (wsG yX6_cutSizes cX6_cutSizes 7 none) rm_X6_cutSizes D cy ad iX [.ref (ad 0), .int x1, .int x2, .int x3, .int x4] M z :=
  met_of (cc := cX6_cutSizes) (maxL := 7) (ret := none) (own := RX6) (by decide) rfl rfl hD ndX (Nat.le_of_ble_eq_true rfl) (fun p e s m below meth c X hr => wX6_cutSizes_E X hr x1 x2 x3 x4 M h)
abbrev QX1_tryPiece (below : List Frame) (D : va_G) (cy : Nat → ClassId) (ad : Nat → Nat) (args : Array Value) (s : State) (z : Mem) : State → Prop := MQ below (va_Qv (fun u => u = z) (BB D cy ad iX) (AA ad iX)) args s 0 0 (AA ad iX)
section
variable {p : Program} {l : Launch} {e : Env} {s : State} {m : MethodId} {args : Array Value} {below : List Frame} {meth : Method} {c : Code} {D : va_G} {cy : Nat → ClassId} {ad : Nat → Nat} {z : Mem}
set_option maxHeartbeats 4000000 in
set_option maxRecDepth 100000 in
theorem wX1_tryPiece_L92 (X : CX p s m args meth c D cy ad iX cX1_tryPiece 7 (wsG yX1_tryPiece cX1_tryPiece 7 none) RX1) (hr : meth.sig.returnType = none) (x1 : Int32) (x2 : Int32) (x4 : Int32) (x5 : Int32) (x6 : Int32) (M : Mem) (h : fX1_tryPiece_L92 x1 x2 x4 x5 x6 M = some z) : SW p l e rm_X1_tryPiece s m args below meth c 0 0 (QX1_tryPiece below D cy ad args s z) 7 (PH D cy ad iX s M) 92 [(0, .ref (ad 9)), (1, .int x1), (2, .int x2), (4, .int x4), (5, .int x5), (6, .int x6)] [] := by
  have hx := X.1
  have hb := X.2.1
  unfold fX1_tryPiece_L92 at h
  refine sw_iload hx hb dX1_tryPiece_92 5 rfl ?_
  refine sw_if_eq hx hb 120 dX1_tryPiece_94 (by decide) h (fun h => ?_) (fun h => ?_)
  · exact sw_Vret X hr dX1_tryPiece_120 h
  · refine sw_aload_n hx hb dX1_tryPiece_97 0 rfl rfl ?_
    refine sw_get X inG1 mi_9 (ce_1 (rfl : kd 9 = 1)) rfl 5 (by decide) (goodW wd297) rfl dX1_tryPiece_98 ?_
    refine sw_iload_n hx hb dX1_tryPiece_101 1 rfl rfl ?_
    refine sw_iload hx hb dX1_tryPiece_102 3 rfl ?_
    refine sw_iast X mi_13 (rfl : kd 13 = 9) dX1_tryPiece_104 h (fun M_7 h => ?_)
    refine sw_aload_n hx hb dX1_tryPiece_105 0 rfl rfl ?_
    refine sw_get X inG1 mi_9 (ce_1 (rfl : kd 9 = 1)) rfl 6 (by decide) (goodW wd298) rfl dX1_tryPiece_106 ?_
    refine sw_iload_n hx hb dX1_tryPiece_109 1 rfl rfl ?_
    refine sw_iload hx hb dX1_tryPiece_110 4 rfl ?_
    refine sw_iast X mi_14 (rfl : kd 14 = 9) dX1_tryPiece_112 h (fun M_8 h => ?_)
    refine sw_aload_n hx hb dX1_tryPiece_113 0 rfl rfl ?_
    refine sw_get X inG1 mi_9 (ce_1 (rfl : kd 9 = 1)) rfl 7 (by decide) (goodW wd299) rfl dX1_tryPiece_114 ?_
    refine sw_iload_n hx hb dX1_tryPiece_117 1 rfl rfl ?_
    refine sw_iload_n hx hb dX1_tryPiece_118 2 rfl rfl ?_
    refine sw_iast X mi_15 (rfl : kd 15 = 9) dX1_tryPiece_119 h (fun M_9 h => ?_)
    exact sw_Vret X hr dX1_tryPiece_120 h

set_option maxHeartbeats 4000000 in
set_option maxRecDepth 100000 in
theorem wX1_tryPiece_L90 (X : CX p s m args meth c D cy ad iX cX1_tryPiece 7 (wsG yX1_tryPiece cX1_tryPiece 7 none) RX1) (hr : meth.sig.returnType = none) (x1 : Int32) (x2 : Int32) (x4 : Int32) (x5 : Int32) (y0 : Int32) (M : Mem) (h : fX1_tryPiece_L90 x1 x2 x4 x5 y0 M = some z) : SW p l e rm_X1_tryPiece s m args below meth c 0 0 (QX1_tryPiece below D cy ad args s z) 7 (PH D cy ad iX s M) 90 [(0, .ref (ad 9)), (1, .int x1), (2, .int x2), (4, .int x4), (5, .int x5)] [.int y0] := by
  have hx := X.1
  have hb := X.2.1
  unfold fX1_tryPiece_L90 at h
  refine sw_istore hx hb [(6, .int y0), (0, .ref (ad 9)), (1, .int x1), (2, .int x2), (4, .int x4), (5, .int x5)] dX1_tryPiece_90 (by decide) rfl ?_
  refine sw_sub (lv1 := [(0, .ref (ad 9)), (1, .int x1), (2, .int x2), (4, .int x4), (5, .int x5), (6, .int y0)]) [1, 2, 3, 4, 5, 0] rfl ?_
  exact wX1_tryPiece_L92 X hr x1 x2 x4 x5 y0 M h

set_option maxHeartbeats 4000000 in
set_option maxRecDepth 100000 in
theorem wX1_tryPiece_L85 (X : CX p s m args meth c D cy ad iX cX1_tryPiece 7 (wsG yX1_tryPiece cX1_tryPiece 7 none) RX1) (hr : meth.sig.returnType = none) (x1 : Int32) (x2 : Int32) (x4 : Int32) (x5 : Int32) (M : Mem) (h : fX1_tryPiece_L85 x1 x2 x4 x5 M = some z) : SW p l e rm_X1_tryPiece s m args below meth c 0 0 (QX1_tryPiece below D cy ad args s z) 7 (PH D cy ad iX s M) 85 [(0, .ref (ad 9)), (1, .int x1), (2, .int x2), (4, .int x4), (5, .int x5)] [] := by
  have hx := X.1
  have hb := X.2.1
  unfold fX1_tryPiece_L85 at h
  refine sw_iconst hx hb 1 dX1_tryPiece_85 (by decide) ?_
  refine sw_goto hx hb 90 dX1_tryPiece_86 (by decide) ?_
  refine sw_sub (lv1 := [(0, .ref (ad 9)), (1, .int x1), (2, .int x2), (4, .int x4), (5, .int x5)]) [0, 1, 2, 3, 4] rfl ?_
  exact wX1_tryPiece_L90 X hr x1 x2 x4 x5 1 M h

set_option maxHeartbeats 4000000 in
set_option maxRecDepth 100000 in
theorem wX1_tryPiece_L89 (X : CX p s m args meth c D cy ad iX cX1_tryPiece 7 (wsG yX1_tryPiece cX1_tryPiece 7 none) RX1) (hr : meth.sig.returnType = none) (x1 : Int32) (x2 : Int32) (x4 : Int32) (x5 : Int32) (M : Mem) (h : fX1_tryPiece_L89 x1 x2 x4 x5 M = some z) : SW p l e rm_X1_tryPiece s m args below meth c 0 0 (QX1_tryPiece below D cy ad args s z) 7 (PH D cy ad iX s M) 89 [(0, .ref (ad 9)), (1, .int x1), (2, .int x2), (4, .int x4), (5, .int x5)] [] := by
  have hx := X.1
  have hb := X.2.1
  unfold fX1_tryPiece_L89 at h
  refine sw_iconst hx hb 0 dX1_tryPiece_89 (by decide) ?_
  refine sw_sub (lv1 := [(0, .ref (ad 9)), (1, .int x1), (2, .int x2), (4, .int x4), (5, .int x5)]) [0, 1, 2, 3, 4] rfl ?_
  exact wX1_tryPiece_L90 X hr x1 x2 x4 x5 0 M h

set_option maxHeartbeats 4000000 in
set_option maxRecDepth 100000 in
theorem wX1_tryPiece_L40 (X : CX p s m args meth c D cy ad iX cX1_tryPiece 7 (wsG yX1_tryPiece cX1_tryPiece 7 none) RX1) (hr : meth.sig.returnType = none) (x1 : Int32) (x2 : Int32) (x4 : Int32) (x5 : Int32) (y0 : Int32) (M : Mem) (h : fX1_tryPiece_L40 x1 x2 x4 x5 y0 M = some z) : SW p l e rm_X1_tryPiece s m args below meth c 0 0 (QX1_tryPiece below D cy ad args s z) 7 (PH D cy ad iX s M) 40 [(0, .ref (ad 9)), (1, .int x1), (2, .int x2), (4, .int x4), (5, .int x5)] [.int y0] := by
  have hx := X.1
  have hb := X.2.1
  unfold fX1_tryPiece_L40 at h
  refine sw_istore hx hb [(6, .int y0), (0, .ref (ad 9)), (1, .int x1), (2, .int x2), (4, .int x4), (5, .int x5)] dX1_tryPiece_40 (by decide) rfl ?_
  refine sw_iload hx hb dX1_tryPiece_42 4 rfl ?_
  refine sw_aload_n hx hb dX1_tryPiece_44 1 rfl rfl ?_
  refine sw_get X inG1 mi_9 (ce_1 (rfl : kd 9 = 1)) rfl 5 (by decide) (goodW wd297) rfl dX1_tryPiece_45 ?_
  refine sw_iload_n hx hb dX1_tryPiece_48 2 rfl rfl ?_
  refine sw_iald X mi_13 (rfl : kd 13 = 9) dX1_tryPiece_49 h (fun v_6 h => ?_)
  refine sw_icmp_ne hx hb 92 dX1_tryPiece_50 (by decide) h (fun h => ?_) (fun h => ?_)
  · refine sw_sub (lv1 := [(0, .ref (ad 9)), (1, .int x1), (2, .int x2), (4, .int x4), (5, .int x5), (6, .int y0)]) [1, 2, 3, 4, 5, 0] rfl ?_
    exact wX1_tryPiece_L92 X hr x1 x2 x4 x5 y0 M h
  · refine sw_iload hx hb dX1_tryPiece_53 5 rfl ?_
    refine sw_aload_n hx hb dX1_tryPiece_55 1 rfl rfl ?_
    refine sw_get X inG1 mi_9 (ce_1 (rfl : kd 9 = 1)) rfl 6 (by decide) (goodW wd298) rfl dX1_tryPiece_56 ?_
    refine sw_iload_n hx hb dX1_tryPiece_59 2 rfl rfl ?_
    refine sw_iald X mi_14 (rfl : kd 14 = 9) dX1_tryPiece_60 h (fun v_10 h => ?_)
    refine sw_icmp_lt hx hb 85 dX1_tryPiece_61 (by decide) h (fun h => ?_) (fun h => ?_)
    · refine sw_sub (lv1 := [(0, .ref (ad 9)), (1, .int x1), (2, .int x2), (4, .int x4), (5, .int x5)]) [1, 2, 3, 4, 5] rfl ?_
      exact wX1_tryPiece_L85 X hr x1 x2 x4 x5 M h
    · refine sw_iload hx hb dX1_tryPiece_64 5 rfl ?_
      refine sw_aload_n hx hb dX1_tryPiece_66 1 rfl rfl ?_
      refine sw_get X inG1 mi_9 (ce_1 (rfl : kd 9 = 1)) rfl 6 (by decide) (goodW wd298) rfl dX1_tryPiece_67 ?_
      refine sw_iload_n hx hb dX1_tryPiece_70 2 rfl rfl ?_
      refine sw_iald X mi_14 (rfl : kd 14 = 9) dX1_tryPiece_71 h (fun v_11 h => ?_)
      refine sw_icmp_ne hx hb 89 dX1_tryPiece_72 (by decide) h (fun h => ?_) (fun h => ?_)
      · refine sw_sub (lv1 := [(0, .ref (ad 9)), (1, .int x1), (2, .int x2), (4, .int x4), (5, .int x5)]) [1, 2, 3, 4, 5] rfl ?_
        exact wX1_tryPiece_L89 X hr x1 x2 x4 x5 M h
      · refine sw_iload_n hx hb dX1_tryPiece_75 3 rfl rfl ?_
        refine sw_aload_n hx hb dX1_tryPiece_76 1 rfl rfl ?_
        refine sw_get X inG1 mi_9 (ce_1 (rfl : kd 9 = 1)) rfl 7 (by decide) (goodW wd299) rfl dX1_tryPiece_77 ?_
        refine sw_iload_n hx hb dX1_tryPiece_80 2 rfl rfl ?_
        refine sw_iald X mi_15 (rfl : kd 15 = 9) dX1_tryPiece_81 h (fun v_12 h => ?_)
        refine sw_icmp_le hx hb 89 dX1_tryPiece_82 (by decide) h (fun h => ?_) (fun h => ?_)
        · refine sw_sub (lv1 := [(0, .ref (ad 9)), (1, .int x1), (2, .int x2), (4, .int x4), (5, .int x5)]) [1, 2, 3, 4, 5] rfl ?_
          exact wX1_tryPiece_L89 X hr x1 x2 x4 x5 M h
        · refine sw_sub (lv1 := [(0, .ref (ad 9)), (1, .int x1), (2, .int x2), (4, .int x4), (5, .int x5)]) [1, 2, 3, 4, 5] rfl ?_
          exact wX1_tryPiece_L85 X hr x1 x2 x4 x5 M h

set_option maxHeartbeats 4000000 in
set_option maxRecDepth 100000 in
theorem wX1_tryPiece_E (X : CX p s m args meth c D cy ad iX cX1_tryPiece 7 (wsG yX1_tryPiece cX1_tryPiece 7 none) RX1) (hr : meth.sig.returnType = none) (x1 : Int32) (x2 : Int32) (x3 : Int32) (M : Mem) (h : fX1_tryPiece x1 x2 x3 M = some z) : SW p l e rm_X1_tryPiece s m args below meth c 0 0 (QX1_tryPiece below D cy ad args s z) 7 (PH D cy ad iX s M) 0 [(0, .ref (ad 9)), (1, .int x1), (2, .int x2), (3, .int x3)] [] := by
  have hx := X.1
  have hb := X.2.1
  unfold fX1_tryPiece at h
  refine sw_iload_n hx hb dX1_tryPiece_0 3 rfl rfl ?_
  refine sw_aload_n hx hb dX1_tryPiece_1 0 rfl rfl ?_
  refine sw_get X inG1 mi_9 (ce_1 (rfl : kd 9 = 1)) rfl 5 (by decide) (goodW wd297) rfl dX1_tryPiece_2 ?_
  refine sw_iload_n hx hb dX1_tryPiece_5 1 rfl rfl ?_
  refine sw_iload_n hx hb dX1_tryPiece_6 2 rfl rfl ?_
  refine sw_iadd hx hb dX1_tryPiece_7 ?_
  refine sw_iald X mi_13 (rfl : kd 13 = 9) dX1_tryPiece_8 h (fun v_1 h => ?_)
  refine sw_iadd hx hb dX1_tryPiece_9 ?_
  refine sw_istoreN hx hb (fun x4_2 => [(4, .int x4_2), (0, .ref (ad 9)), (1, .int x1), (2, .int x2), (3, .int x3)]) dX1_tryPiece_10 (by decide) (fun _ => rfl) h (fun x4_2 h => ?_)
  refine sw_iconst hx hb 1 dX1_tryPiece_12 (by decide) ?_
  refine sw_aload_n hx hb dX1_tryPiece_13 1 rfl rfl ?_
  refine sw_get X inG1 mi_9 (ce_1 (rfl : kd 9 = 1)) rfl 6 (by decide) (goodW wd298) rfl dX1_tryPiece_14 ?_
  refine sw_iload_n hx hb dX1_tryPiece_17 2 rfl rfl ?_
  refine sw_iload_n hx hb dX1_tryPiece_18 3 rfl rfl ?_
  refine sw_iadd hx hb dX1_tryPiece_19 ?_
  refine sw_iald X mi_14 (rfl : kd 14 = 9) dX1_tryPiece_20 h (fun v_3 h => ?_)
  refine sw_iadd hx hb dX1_tryPiece_21 ?_
  refine sw_istoreN hx hb (fun x5_4 => [(5, .int x5_4), (4, .int x4_2), (0, .ref (ad 9)), (1, .int x1), (2, .int x2), (3, .int x3)]) dX1_tryPiece_22 (by decide) (fun _ => rfl) h (fun x5_4 h => ?_)
  refine sw_iload hx hb dX1_tryPiece_24 1 rfl ?_
  refine sw_aload_n hx hb dX1_tryPiece_26 2 rfl rfl ?_
  refine sw_get X inG1 mi_9 (ce_1 (rfl : kd 9 = 1)) rfl 5 (by decide) (goodW wd297) rfl dX1_tryPiece_27 ?_
  refine sw_iload_n hx hb dX1_tryPiece_30 3 rfl rfl ?_
  refine sw_iald X mi_13 (rfl : kd 13 = 9) dX1_tryPiece_31 h (fun v_5 h => ?_)
  refine sw_icmp_ge hx hb 39 dX1_tryPiece_32 (by decide) h (fun h => ?_) (fun h => ?_)
  · refine sw_iconst hx hb 0 dX1_tryPiece_39 (by decide) ?_
    refine sw_sub (lv1 := [(0, .ref (ad 9)), (1, .int x1), (2, .int x2), (4, .int x4_2), (5, .int x5_4)]) [2, 3, 4, 1, 0] rfl ?_
    exact wX1_tryPiece_L40 X hr x1 x2 x4_2 x5_4 0 M h
  · refine sw_iconst hx hb 1 dX1_tryPiece_35 (by decide) ?_
    refine sw_goto hx hb 40 dX1_tryPiece_36 (by decide) ?_
    refine sw_sub (lv1 := [(0, .ref (ad 9)), (1, .int x1), (2, .int x2), (4, .int x4_2), (5, .int x5_4)]) [2, 3, 4, 1, 0] rfl ?_
    exact wX1_tryPiece_L40 X hr x1 x2 x4_2 x5_4 1 M h

end
theorem okX1_tryPiece (l : Launch) {D : va_G} {cy : Nat → ClassId} {ad : Nat → Nat} (hD : ∀ M : Mem, va_D (AA ad iX) (wl cy ad iX M)) (x1 : Int32) (x2 : Int32) (x3 : Int32) (M : Mem) (z : Mem) (h : fX1_tryPiece x1 x2 x3 M = some z) : CTV l yX1_tryPiece (wsG yX1_tryPiece cX1_tryPiece 7 none) rm_X1_tryPiece D cy ad iX [.ref (ad 9), .int x1, .int x2, .int x3] M z :=
  met_of (cc := cX1_tryPiece) (maxL := 7) (ret := none) (own := RX1) (by decide) rfl rfl hD ndX (Nat.le_of_ble_eq_true rfl) (fun p e s m below meth c X hr => wX1_tryPiece_E X hr x1 x2 x3 M h)
abbrev QX1_choose (below : List Frame) (D : va_G) (cy : Nat → ClassId) (ad : Nat → Nat) (args : Array Value) (s : State) (z : Mem) : State → Prop := MQ below (va_Qv (fun u => u = z) (BB D cy ad iX) (AA ad iX)) args s 0 0 (AA ad iX)
section
variable {p : Program} {l : Launch} {e : Env} {s : State} {m : MethodId} {args : Array Value} {below : List Frame} {meth : Method} {c : Code} {D : va_G} {cy : Nat → ClassId} {ad : Nat → Nat} {z : Mem}
set_option maxHeartbeats 4000000 in
set_option maxRecDepth 100000 in
theorem wX1_choose_L154 (X : CX p s m args meth c D cy ad iX cX1_choose 6 (wsG yX1_choose cX1_choose 6 none) RX1) (hr : meth.sig.returnType = none) (a1 : Nat) (h_a1 : kd a1 = 5) (y0 : Int32) (y1 : Int32) (M : Mem) (h : fX1_choose_L154 a1 y0 y1 M = some z) : SW p l e rm_X1_choose s m args below meth c 0 0 (QX1_choose below D cy ad args s z) 6 (PH D cy ad iX s M) 154 [] [.int y0, .int y1, .ref (ad 16)] := by
  have hx := X.1
  have hb := X.2.1
  unfold fX1_choose_L154 at h
  refine sw_zast X mi_16 (rfl : kd 16 = 11) dX1_choose_154 h (fun M_7 h => ?_)
  exact sw_Vret X hr dX1_choose_155 h

set_option maxHeartbeats 4000000 in
set_option maxRecDepth 100000 in
theorem wX1_choose_L153 (X : CX p s m args meth c D cy ad iX cX1_choose 6 (wsG yX1_choose cX1_choose 6 none) RX1) (hr : meth.sig.returnType = none) (a1 : Nat) (h_a1 : kd a1 = 5) (y0 : Int32) (M : Mem) (h : fX1_choose_L153 a1 y0 M = some z) : SW p l e rm_X1_choose s m args below meth c 0 0 (QX1_choose below D cy ad args s z) 6 (PH D cy ad iX s M) 153 [] [.int y0, .ref (ad 16)] := by
  have hx := X.1
  have hb := X.2.1
  unfold fX1_choose_L153 at h
  refine sw_iconst hx hb 0 dX1_choose_153 (by decide) ?_
  refine sw_sub (lv1 := []) [] rfl ?_
  exact wX1_choose_L154 X hr a1 h_a1 0 y0 M h

set_option maxHeartbeats 4000000 in
set_option maxRecDepth 100000 in
theorem wX1_choose_L123 (X : CX p s m args meth c D cy ad iX cX1_choose 6 (wsG yX1_choose cX1_choose 6 none) RX1) (hr : meth.sig.returnType = none) (a1 : Nat) (h_a1 : kd a1 = 5) (k48 : Int32 → Int32 → Int32 → Int32 → Mem → Option (Mem)) (hk48 : ∀ (x2 : Int32) (x3 : Int32) (x4 : Int32) (x5 : Int32) (M : Mem), k48 x2 x3 x4 x5 M = some z → SW p l e rm_X1_choose s m args below meth c 0 0 (QX1_choose below D cy ad args s z) 6 (PH D cy ad iX s M) 48 [(0, .ref (ad 9)), (1, .ref (ad a1)), (2, .int x2), (3, .int x3), (4, .int x4), (5, .int x5)] []) (x2 : Int32) (x3 : Int32) (x4 : Int32) (x5 : Int32) (M : Mem) (h : fX1_choose_L123 k48 a1 x2 x3 x4 x5 M = some z) : SW p l e rm_X1_choose s m args below meth c 0 0 (QX1_choose below D cy ad args s z) 6 (PH D cy ad iX s M) 123 [(0, .ref (ad 9)), (1, .ref (ad a1)), (2, .int x2), (3, .int x3), (4, .int x4), (5, .int x5)] [] := by
  have hx := X.1
  have hb := X.2.1
  unfold fX1_choose_L123 at h
  refine sw_iincN hx hb (k := 5) (x5 + 1) (fun x5_9 => [(5, .int x5_9), (0, .ref (ad 9)), (1, .ref (ad a1)), (2, .int x2), (3, .int x3), (4, .int x4)]) dX1_choose_123 rfl (by rfl) (by decide) (fun _ => rfl) h (fun x5_9 h => ?_)
  refine sw_goto hx hb 48 dX1_choose_126 (by decide) ?_
  refine sw_sub (lv1 := [(0, .ref (ad 9)), (1, .ref (ad a1)), (2, .int x2), (3, .int x3), (4, .int x4), (5, .int x5_9)]) [1, 2, 3, 4, 5, 0] rfl ?_
  exact hk48 x2 x3 x4 x5_9 M h

set_option maxHeartbeats 4000000 in
set_option maxRecDepth 100000 in
theorem wX1_choose_L102 (X : CX p s m args meth c D cy ad iX cX1_choose 6 (wsG yX1_choose cX1_choose 6 none) RX1) (hr : meth.sig.returnType = none) (a1 : Nat) (h_a1 : kd a1 = 5) (k48 : Int32 → Int32 → Int32 → Int32 → Mem → Option (Mem)) (hk48 : ∀ (x2 : Int32) (x3 : Int32) (x4 : Int32) (x5 : Int32) (M : Mem), k48 x2 x3 x4 x5 M = some z → SW p l e rm_X1_choose s m args below meth c 0 0 (QX1_choose below D cy ad args s z) 6 (PH D cy ad iX s M) 48 [(0, .ref (ad 9)), (1, .ref (ad a1)), (2, .int x2), (3, .int x3), (4, .int x4), (5, .int x5)] []) (x2 : Int32) (x3 : Int32) (x5 : Int32) (y0 : Int32) (M : Mem) (h : fX1_choose_L102 k48 a1 x2 x3 x5 y0 M = some z) : SW p l e rm_X1_choose s m args below meth c 0 0 (QX1_choose below D cy ad args s z) 6 (PH D cy ad iX s M) 102 [(0, .ref (ad 9)), (1, .ref (ad a1)), (2, .int x2), (3, .int x3), (5, .int x5)] [.int y0] := by
  have hx := X.1
  have hb := X.2.1
  unfold fX1_choose_L102 at h
  refine sw_istore hx hb [(4, .int y0), (0, .ref (ad 9)), (1, .ref (ad a1)), (2, .int x2), (3, .int x3), (5, .int x5)] dX1_choose_102 (by decide) rfl ?_
  refine sw_aload_n hx hb dX1_choose_104 1 rfl rfl ?_
  refine sw_iload_n hx hb dX1_choose_105 3 rfl rfl ?_
  refine sw_aload_n hx hb dX1_choose_106 1 rfl rfl ?_
  refine sw_get X inG1 mi_9 (ce_1 (rfl : kd 9 = 1)) rfl 1 (by decide) (goodW wd190) rfl dX1_choose_107 ?_
  refine sw_iload hx hb dX1_choose_110 5 rfl ?_
  refine sw_iald X mi_11 (rfl : kd 11 = 9) dX1_choose_112 h (fun v_12 h => ?_)
  refine sw_aload_n hx hb dX1_choose_113 1 rfl rfl ?_
  refine sw_get X inG1 mi_9 (ce_1 (rfl : kd 9 = 1)) rfl 2 (by decide) (goodW wd210) rfl dX1_choose_114 ?_
  refine sw_iload hx hb dX1_choose_117 5 rfl ?_
  refine sw_iald X mi_12 (rfl : kd 12 = 9) dX1_choose_119 h (fun v_13 h => ?_)
  refine sw_callVV (C := RX1) (As := [.int x2, .int v_12, .int v_13]) (rest := []) X mi_9 (ce_1 (rfl : kd 9 = 1)) rfl rfl (fun _ hz => okX1_tryPiece l X.2.2.2.2.2.2.1 x2 v_12 v_13 M _ hz) (cwX1_71 X.2.2.2.2.1 ⟨Nat.le_of_ble_eq_true rfl, Nat.le_of_ble_eq_true rfl⟩)  rfl rfl (Nat.le_of_ble_eq_true rfl) dX1_choose_120 ⟨Nat.le_of_ble_eq_true rfl, Nat.le_of_ble_eq_true rfl⟩ h (fun M_14 _ h => ?_)
  refine sw_sub (lv1 := [(0, .ref (ad 9)), (1, .ref (ad a1)), (2, .int x2), (3, .int x3), (4, .int y0), (5, .int x5)]) [1, 2, 3, 4, 0, 5] rfl ?_
  exact wX1_choose_L123 X hr a1 h_a1 k48 hk48 x2 x3 y0 x5 M_14 h

set_option maxHeartbeats 4000000 in
set_option maxRecDepth 100000 in
theorem wX1_choose_L97 (X : CX p s m args meth c D cy ad iX cX1_choose 6 (wsG yX1_choose cX1_choose 6 none) RX1) (hr : meth.sig.returnType = none) (a1 : Nat) (h_a1 : kd a1 = 5) (k48 : Int32 → Int32 → Int32 → Int32 → Mem → Option (Mem)) (hk48 : ∀ (x2 : Int32) (x3 : Int32) (x4 : Int32) (x5 : Int32) (M : Mem), k48 x2 x3 x4 x5 M = some z → SW p l e rm_X1_choose s m args below meth c 0 0 (QX1_choose below D cy ad args s z) 6 (PH D cy ad iX s M) 48 [(0, .ref (ad 9)), (1, .ref (ad a1)), (2, .int x2), (3, .int x3), (4, .int x4), (5, .int x5)] []) (x2 : Int32) (x3 : Int32) (x5 : Int32) (M : Mem) (h : fX1_choose_L97 k48 a1 x2 x3 x5 M = some z) : SW p l e rm_X1_choose s m args below meth c 0 0 (QX1_choose below D cy ad args s z) 6 (PH D cy ad iX s M) 97 [(0, .ref (ad 9)), (1, .ref (ad a1)), (2, .int x2), (3, .int x3), (5, .int x5)] [] := by
  have hx := X.1
  have hb := X.2.1
  unfold fX1_choose_L97 at h
  refine sw_iconst hx hb 1 dX1_choose_97 (by decide) ?_
  refine sw_goto hx hb 102 dX1_choose_98 (by decide) ?_
  refine sw_sub (lv1 := [(0, .ref (ad 9)), (1, .ref (ad a1)), (2, .int x2), (3, .int x3), (5, .int x5)]) [0, 1, 2, 3, 4] rfl ?_
  exact wX1_choose_L102 X hr a1 h_a1 k48 hk48 x2 x3 x5 1 M h

set_option maxHeartbeats 4000000 in
set_option maxRecDepth 100000 in
theorem wX1_choose_H48 (X : CX p s m args meth c D cy ad iX cX1_choose 6 (wsG yX1_choose cX1_choose 6 none) RX1) (hr : meth.sig.returnType = none) (a1 : Nat) (h_a1 : kd a1 = 5) : ∀ (n : Nat) (x2 : Int32) (x3 : Int32) (x4 : Int32) (x5 : Int32) (M : Mem), fX1_choose_H48 a1 n x2 x3 x4 x5 M = some z → SW p l e rm_X1_choose s m args below meth c 0 0 (QX1_choose below D cy ad args s z) 6 (PH D cy ad iX s M) 48 [(0, .ref (ad 9)), (1, .ref (ad a1)), (2, .int x2), (3, .int x3), (4, .int x4), (5, .int x5)] [] := by
  have hx := X.1
  have hb := X.2.1
  intro n
  induction n with
  | zero =>
    intro x2 x3 x4 x5 M h
    have h : (none : Option (Mem)) = some z := h
    cases h
  | succ n ih =>
    intro x2 x3 x4 x5 M h
    rw [fX1_choose_H48] at h
    refine sw_iload hx hb dX1_choose_48 5 rfl ?_
    refine sw_aload_n hx hb dX1_choose_50 0 rfl rfl ?_
    refine sw_get X inG1 mi_9 (ce_1 (rfl : kd 9 = 1)) rfl 3 (by decide) (goodW wd193) rfl dX1_choose_51 ?_
    refine sw_icmp_ge hx hb 129 dX1_choose_54 (by decide) h (fun h => ?_) (fun h => ?_)
    · refine sw_aload_n hx hb dX1_choose_129 0 rfl rfl ?_
      refine sw_get X inG1 mi_9 (ce_1 (rfl : kd 9 = 1)) rfl 8 (by decide) (goodW wd300) rfl dX1_choose_130 ?_
      refine sw_iload_n hx hb dX1_choose_133 2 rfl rfl ?_
      refine sw_aload_n hx hb dX1_choose_134 0 rfl rfl ?_
      refine sw_get X inG1 mi_9 (ce_1 (rfl : kd 9 = 1)) rfl 7 (by decide) (goodW wd299) rfl dX1_choose_135 ?_
      refine sw_iload_n hx hb dX1_choose_138 2 rfl rfl ?_
      refine sw_iald X mi_15 (rfl : kd 15 = 9) dX1_choose_139 h (fun v_6 h => ?_)
      refine sw_iconst hx hb 1 dX1_choose_140 (by decide) ?_
      refine sw_icmp_ne hx hb 153 dX1_choose_141 (by decide) h (fun h => ?_) (fun h => ?_)
      · refine sw_sub (lv1 := []) [] rfl ?_
        exact wX1_choose_L153 X hr a1 h_a1 x2 M h
      · refine sw_iload hx hb dX1_choose_144 4 rfl ?_
        refine sw_if_ne hx hb 153 dX1_choose_146 (by decide) h (fun h => ?_) (fun h => ?_)
        · refine sw_sub (lv1 := []) [] rfl ?_
          exact wX1_choose_L153 X hr a1 h_a1 x2 M h
        · refine sw_iconst hx hb 1 dX1_choose_149 (by decide) ?_
          refine sw_goto hx hb 154 dX1_choose_150 (by decide) ?_
          refine sw_sub (lv1 := []) [] rfl ?_
          exact wX1_choose_L154 X hr a1 h_a1 1 x2 M h
    · refine sw_aload_n hx hb dX1_choose_57 0 rfl rfl ?_
      refine sw_get X inG1 mi_9 (ce_1 (rfl : kd 9 = 1)) rfl 1 (by decide) (goodW wd190) rfl dX1_choose_58 ?_
      refine sw_iload hx hb dX1_choose_61 5 rfl ?_
      refine sw_iald X mi_11 (rfl : kd 11 = 9) dX1_choose_63 h (fun v_8 h => ?_)
      refine sw_iload_n hx hb dX1_choose_64 3 rfl rfl ?_
      refine sw_iload_n hx hb dX1_choose_65 2 rfl rfl ?_
      refine sw_isub hx hb dX1_choose_66 ?_
      refine sw_icmp_gt hx hb 123 dX1_choose_67 (by decide) h (fun h => ?_) (fun h => ?_)
      · refine sw_sub (lv1 := [(0, .ref (ad 9)), (1, .ref (ad a1)), (2, .int x2), (3, .int x3), (4, .int x4), (5, .int x5)]) [0, 1, 2, 3, 4, 5] rfl ?_
        exact wX1_choose_L123 X hr a1 h_a1 (fX1_choose_H48 a1 n) ih x2 x3 x4 x5 M h
      · refine sw_aload_n hx hb dX1_choose_70 0 rfl rfl ?_
        refine sw_iload hx hb dX1_choose_71 5 rfl ?_
        refine sw_aload_n hx hb dX1_choose_73 1 rfl rfl ?_
        refine sw_iload_n hx hb dX1_choose_74 2 rfl rfl ?_
        refine sw_callVI (C := RX1) (As := [.int x5, .ref (ad a1), .int x2]) (rest := []) X mi_9 (ce_1 (rfl : kd 9 = 1)) rfl rfl (fun _ hz => okX1_standsAt l X.2.2.2.2.2.2.1 a1 x5 x2 h_a1 M _ hz) (cwX1_63 X.2.2.2.2.1 ⟨Nat.le_of_ble_eq_true rfl, Nat.le_of_ble_eq_true rfl⟩)  rfl rfl (Nat.le_of_ble_eq_true rfl) dX1_choose_75 ⟨Nat.le_of_ble_eq_true rfl, Nat.le_of_ble_eq_true rfl⟩ h (fun v_11 M_10 _ h => ?_)
        refine sw_if_eq hx hb 123 dX1_choose_78 (by decide) h (fun h => ?_) (fun h => ?_)
        · refine sw_sub (lv1 := [(0, .ref (ad 9)), (1, .ref (ad a1)), (2, .int x2), (3, .int x3), (4, .int x4), (5, .int x5)]) [0, 1, 2, 3, 4, 5] rfl ?_
          exact wX1_choose_L123 X hr a1 h_a1 (fX1_choose_H48 a1 n) ih x2 x3 x4 x5 M_10 h
        · refine sw_iload hx hb dX1_choose_81 4 rfl ?_
          refine sw_if_ne hx hb 97 dX1_choose_83 (by decide) h (fun h => ?_) (fun h => ?_)
          · refine sw_sub (lv1 := [(0, .ref (ad 9)), (1, .ref (ad a1)), (2, .int x2), (3, .int x3), (5, .int x5)]) [0, 1, 2, 3, 5] rfl ?_
            exact wX1_choose_L97 X hr a1 h_a1 (fX1_choose_H48 a1 n) ih x2 x3 x5 M_10 h
          · refine sw_aload_n hx hb dX1_choose_86 0 rfl rfl ?_
            refine sw_get X inG1 mi_9 (ce_1 (rfl : kd 9 = 1)) rfl 1 (by decide) (goodW wd190) rfl dX1_choose_87 ?_
            refine sw_iload hx hb dX1_choose_90 5 rfl ?_
            refine sw_iald X mi_11 (rfl : kd 11 = 9) dX1_choose_92 h (fun v_16 h => ?_)
            refine sw_iconst hx hb 1 dX1_choose_93 (by decide) ?_
            refine sw_icmp_ne hx hb 101 dX1_choose_94 (by decide) h (fun h => ?_) (fun h => ?_)
            · refine sw_iconst hx hb 0 dX1_choose_101 (by decide) ?_
              refine sw_sub (lv1 := [(0, .ref (ad 9)), (1, .ref (ad a1)), (2, .int x2), (3, .int x3), (5, .int x5)]) [0, 1, 2, 3, 5] rfl ?_
              exact wX1_choose_L102 X hr a1 h_a1 (fX1_choose_H48 a1 n) ih x2 x3 x5 0 M_10 h
            · refine sw_sub (lv1 := [(0, .ref (ad 9)), (1, .ref (ad a1)), (2, .int x2), (3, .int x3), (5, .int x5)]) [0, 1, 2, 3, 5] rfl ?_
              exact wX1_choose_L97 X hr a1 h_a1 (fX1_choose_H48 a1 n) ih x2 x3 x5 M_10 h

set_option maxHeartbeats 4000000 in
set_option maxRecDepth 100000 in
theorem wX1_choose_E (X : CX p s m args meth c D cy ad iX cX1_choose 6 (wsG yX1_choose cX1_choose 6 none) RX1) (hr : meth.sig.returnType = none) (a1 : Nat) (h_a1 : kd a1 = 5) (x2 : Int32) (x3 : Int32) (M : Mem) (h : fX1_choose a1 x2 x3 M = some z) : SW p l e rm_X1_choose s m args below meth c 0 0 (QX1_choose below D cy ad args s z) 6 (PH D cy ad iX s M) 0 [(0, .ref (ad 9)), (1, .ref (ad a1)), (2, .int x2), (3, .int x3)] [] := by
  have hx := X.1
  have hb := X.2.1
  unfold fX1_choose at h
  refine sw_aload_n hx hb dX1_choose_0 0 rfl rfl ?_
  refine sw_get X inG1 mi_9 (ce_1 (rfl : kd 9 = 1)) rfl 5 (by decide) (goodW wd297) rfl dX1_choose_1 ?_
  refine sw_iload_n hx hb dX1_choose_4 2 rfl rfl ?_
  refine sw_aload_n hx hb dX1_choose_5 0 rfl rfl ?_
  refine sw_get X inG1 mi_9 (ce_1 (rfl : kd 9 = 1)) rfl 4 (by decide) (goodW wd217) rfl dX1_choose_6 ?_
  refine sw_aload_n hx hb dX1_choose_9 0 rfl rfl ?_
  refine sw_get X inG1 mi_9 (ce_1 (rfl : kd 9 = 1)) rfl 5 (by decide) (goodW wd297) rfl dX1_choose_10 ?_
  refine sw_iload_n hx hb dX1_choose_13 2 rfl rfl ?_
  refine sw_iconst hx hb 1 dX1_choose_14 (by decide) ?_
  refine sw_iadd hx hb dX1_choose_15 ?_
  refine sw_iald X mi_13 (rfl : kd 13 = 9) dX1_choose_16 h (fun v_1 h => ?_)
  refine sw_iadd hx hb dX1_choose_17 ?_
  refine sw_iast X mi_13 (rfl : kd 13 = 9) dX1_choose_18 h (fun M_2 h => ?_)
  refine sw_aload_n hx hb dX1_choose_19 0 rfl rfl ?_
  refine sw_get X inG1 mi_9 (ce_1 (rfl : kd 9 = 1)) rfl 6 (by decide) (goodW wd298) rfl dX1_choose_20 ?_
  refine sw_iload_n hx hb dX1_choose_23 2 rfl rfl ?_
  refine sw_iconst hx hb 1 dX1_choose_24 (by decide) ?_
  refine sw_aload_n hx hb dX1_choose_25 0 rfl rfl ?_
  refine sw_get X inG1 mi_9 (ce_1 (rfl : kd 9 = 1)) rfl 6 (by decide) (goodW wd298) rfl dX1_choose_26 ?_
  refine sw_iload_n hx hb dX1_choose_29 2 rfl rfl ?_
  refine sw_iconst hx hb 1 dX1_choose_30 (by decide) ?_
  refine sw_iadd hx hb dX1_choose_31 ?_
  refine sw_iald X mi_14 (rfl : kd 14 = 9) dX1_choose_32 h (fun v_3 h => ?_)
  refine sw_iadd hx hb dX1_choose_33 ?_
  refine sw_iast X mi_14 (rfl : kd 14 = 9) dX1_choose_34 h (fun M_4 h => ?_)
  refine sw_aload_n hx hb dX1_choose_35 0 rfl rfl ?_
  refine sw_get X inG1 mi_9 (ce_1 (rfl : kd 9 = 1)) rfl 7 (by decide) (goodW wd299) rfl dX1_choose_36 ?_
  refine sw_iload_n hx hb dX1_choose_39 2 rfl rfl ?_
  refine sw_iconst hx hb 1 dX1_choose_40 (by decide) ?_
  refine sw_iast X mi_15 (rfl : kd 15 = 9) dX1_choose_41 h (fun M_5 h => ?_)
  refine sw_iconst hx hb 0 dX1_choose_42 (by decide) ?_
  refine sw_istore hx hb [(4, .int 0), (0, .ref (ad 9)), (1, .ref (ad a1)), (2, .int x2), (3, .int x3)] dX1_choose_43 (by decide) rfl ?_
  refine sw_iconst hx hb 0 dX1_choose_45 (by decide) ?_
  refine sw_istore hx hb [(5, .int 0), (4, .int 0), (0, .ref (ad 9)), (1, .ref (ad a1)), (2, .int x2), (3, .int x3)] dX1_choose_46 (by decide) rfl ?_
  refine sw_sub (lv1 := [(0, .ref (ad 9)), (1, .ref (ad a1)), (2, .int x2), (3, .int x3), (4, .int 0), (5, .int 0)]) [2, 3, 4, 5, 1, 0] rfl ?_
  exact wX1_choose_H48 X hr a1 h_a1 FU x2 x3 0 0 M_5 h

end
theorem okX1_choose (l : Launch) {D : va_G} {cy : Nat → ClassId} {ad : Nat → Nat} (hD : ∀ M : Mem, va_D (AA ad iX) (wl cy ad iX M)) (a1 : Nat) (x2 : Int32) (x3 : Int32) (h_a1 : kd a1 = 5) (M : Mem) (z : Mem) (h : fX1_choose a1 x2 x3 M = some z) : CTV l yX1_choose (wsG yX1_choose cX1_choose 6 none) rm_X1_choose D cy ad iX [.ref (ad 9), .ref (ad a1), .int x2, .int x3] M z :=
  met_of (cc := cX1_choose) (maxL := 6) (ret := none) (own := RX1) (by decide) rfl rfl hD ndX (Nat.le_of_ble_eq_true rfl) (fun p e s m below meth c X hr => wX1_choose_E X hr a1 h_a1 x2 x3 M h)
abbrev QX1_solve (below : List Frame) (D : va_G) (cy : Nat → ClassId) (ad : Nat → Nat) (args : Array Value) (s : State) (z : Int32 × Mem) : State → Prop := MQ below (va_Qi (fun r u => r = z.1 ∧ u = z.2) (BB D cy ad iX) (AA ad iX)) args s 0 0 (AA ad iX)
section
variable {p : Program} {l : Launch} {e : Env} {s : State} {m : MethodId} {args : Array Value} {below : List Frame} {meth : Method} {c : Code} {D : va_G} {cy : Nat → ClassId} {ad : Nat → Nat} {z : Int32 × Mem}
set_option maxHeartbeats 4000000 in
set_option maxRecDepth 100000 in
theorem wX1_solve_H37 (X : CX p s m args meth c D cy ad iX cX1_solve 5 (wsG yX1_solve cX1_solve 5 (some .int)) RX1) (hr : meth.sig.returnType = (some .int)) (a1 : Nat) (h_a1 : kd a1 = 5) : ∀ (n : Nat) (x2 : Int32) (x3 : Int32) (x4 : Int32) (M : Mem), fX1_solve_H37 a1 n x2 x3 x4 M = some z → SW p l e rm_X1_solve s m args below meth c 0 0 (QX1_solve below D cy ad args s z) 5 (PH D cy ad iX s M) 37 [(0, .ref (ad 9)), (1, .ref (ad a1)), (2, .int x2), (3, .int x3), (4, .int x4)] [] := by
  have hx := X.1
  have hb := X.2.1
  intro n
  induction n with
  | zero =>
    intro x2 x3 x4 M h
    have h : (none : Option (Int32 × Mem)) = some z := h
    cases h
  | succ n ih =>
    intro x2 x3 x4 M h
    rw [fX1_solve_H37] at h
    refine sw_iload hx hb dX1_solve_37 4 rfl ?_
    refine sw_iload_n hx hb dX1_solve_39 2 rfl rfl ?_
    refine sw_icmp_lt hx hb 57 dX1_solve_40 (by decide) h (fun h => ?_) (fun h => ?_)
    · refine sw_aload_n hx hb dX1_solve_57 0 rfl rfl ?_
      refine sw_get X inG1 mi_9 (ce_1 (rfl : kd 9 = 1)) rfl 5 (by decide) (goodW wd297) rfl dX1_solve_58 ?_
      refine sw_iload_n hx hb dX1_solve_61 2 rfl rfl ?_
      refine sw_iald X mi_13 (rfl : kd 13 = 9) dX1_solve_62 h (fun v_4 h => ?_)
      exact sw_Iret X hr dX1_solve_63 h
    · refine sw_aload_n hx hb dX1_solve_43 0 rfl rfl ?_
      refine sw_aload_n hx hb dX1_solve_44 1 rfl rfl ?_
      refine sw_iload hx hb dX1_solve_45 4 rfl ?_
      refine sw_iload_n hx hb dX1_solve_47 3 rfl rfl ?_
      refine sw_callVV (C := RX1) (As := [.ref (ad a1), .int x4, .int x3]) (rest := []) X mi_9 (ce_1 (rfl : kd 9 = 1)) rfl rfl (fun _ hz => okX1_choose l X.2.2.2.2.2.2.1 a1 x4 x3 h_a1 M _ hz) (cwX1_67 X.2.2.2.2.1 ⟨Nat.le_of_ble_eq_true rfl, Nat.le_of_ble_eq_true rfl⟩)  rfl rfl (Nat.le_of_ble_eq_true rfl) dX1_solve_48 ⟨Nat.le_of_ble_eq_true rfl, Nat.le_of_ble_eq_true rfl⟩ h (fun M_5 _ h => ?_)
      refine sw_iincN hx hb (k := 4) (x4 + (-1)) (fun x4_7 => [(4, .int x4_7), (0, .ref (ad 9)), (1, .ref (ad a1)), (2, .int x2), (3, .int x3)]) dX1_solve_51 rfl (by rfl) (by decide) (fun _ => rfl) h (fun x4_7 h => ?_)
      refine sw_goto hx hb 37 dX1_solve_54 (by decide) ?_
      refine sw_sub (lv1 := [(0, .ref (ad 9)), (1, .ref (ad a1)), (2, .int x2), (3, .int x3), (4, .int x4_7)]) [1, 2, 3, 4, 0] rfl ?_
      exact ih x2 x3 x4_7 M_5 h

set_option maxHeartbeats 4000000 in
set_option maxRecDepth 100000 in
theorem wX1_solve_E (X : CX p s m args meth c D cy ad iX cX1_solve 5 (wsG yX1_solve cX1_solve 5 (some .int)) RX1) (hr : meth.sig.returnType = (some .int)) (a1 : Nat) (h_a1 : kd a1 = 5) (x2 : Int32) (x3 : Int32) (M : Mem) (h : fX1_solve a1 x2 x3 M = some z) : SW p l e rm_X1_solve s m args below meth c 0 0 (QX1_solve below D cy ad args s z) 5 (PH D cy ad iX s M) 0 [(0, .ref (ad 9)), (1, .ref (ad a1)), (2, .int x2), (3, .int x3)] [] := by
  have hx := X.1
  have hb := X.2.1
  unfold fX1_solve at h
  refine sw_iload_n hx hb dX1_solve_0 2 rfl rfl ?_
  refine sw_if_lt hx hb 16 dX1_solve_1 (by decide) h (fun h => ?_) (fun h => ?_)
  · refine sw_iconst hx hb (-1) dX1_solve_16 (by decide) ?_
    exact sw_Iret X hr dX1_solve_17 h
  · refine sw_iload_n hx hb dX1_solve_4 3 rfl rfl ?_
    refine sw_iload_n hx hb dX1_solve_5 2 rfl rfl ?_
    refine sw_icmp_lt hx hb 16 dX1_solve_6 (by decide) h (fun h => ?_) (fun h => ?_)
    · refine sw_iconst hx hb (-1) dX1_solve_16 (by decide) ?_
      exact sw_Iret X hr dX1_solve_17 h
    · refine sw_iload_n hx hb dX1_solve_9 3 rfl rfl ?_
      refine sw_sipush hx hb 300 dX1_solve_10 (by decide) ?_
      refine sw_icmp_le hx hb 18 dX1_solve_13 (by decide) h (fun h => ?_) (fun h => ?_)
      · refine sw_aload_n hx hb dX1_solve_18 0 rfl rfl ?_
        refine sw_get X inG1 mi_9 (ce_1 (rfl : kd 9 = 1)) rfl 5 (by decide) (goodW wd297) rfl dX1_solve_19 ?_
        refine sw_iload_n hx hb dX1_solve_22 3 rfl rfl ?_
        refine sw_iconst hx hb 0 dX1_solve_23 (by decide) ?_
        refine sw_iast X mi_13 (rfl : kd 13 = 9) dX1_solve_24 h (fun M_1 h => ?_)
        refine sw_aload_n hx hb dX1_solve_25 0 rfl rfl ?_
        refine sw_get X inG1 mi_9 (ce_1 (rfl : kd 9 = 1)) rfl 6 (by decide) (goodW wd298) rfl dX1_solve_26 ?_
        refine sw_iload_n hx hb dX1_solve_29 3 rfl rfl ?_
        refine sw_iconst hx hb 0 dX1_solve_30 (by decide) ?_
        refine sw_iast X mi_14 (rfl : kd 14 = 9) dX1_solve_31 h (fun M_2 h => ?_)
        refine sw_iload_n hx hb dX1_solve_32 3 rfl rfl ?_
        refine sw_iconst hx hb 1 dX1_solve_33 (by decide) ?_
        refine sw_isub hx hb dX1_solve_34 ?_
        refine sw_istoreN hx hb (fun x4_3 => [(4, .int x4_3), (0, .ref (ad 9)), (1, .ref (ad a1)), (2, .int x2), (3, .int x3)]) dX1_solve_35 (by decide) (fun _ => rfl) h (fun x4_3 h => ?_)
        refine sw_sub (lv1 := [(0, .ref (ad 9)), (1, .ref (ad a1)), (2, .int x2), (3, .int x3), (4, .int x4_3)]) [1, 2, 3, 4, 0] rfl ?_
        exact wX1_solve_H37 X hr a1 h_a1 FU x2 x3 x4_3 M_2 h
      · refine sw_iconst hx hb (-1) dX1_solve_16 (by decide) ?_
        exact sw_Iret X hr dX1_solve_17 h

end
theorem okX1_solve (l : Launch) {D : va_G} {cy : Nat → ClassId} {ad : Nat → Nat} (hD : ∀ M : Mem, va_D (AA ad iX) (wl cy ad iX M)) (a1 : Nat) (x2 : Int32) (x3 : Int32) (h_a1 : kd a1 = 5) (M : Mem) (z : Int32 × Mem) (h : fX1_solve a1 x2 x3 M = some z) : CTI l yX1_solve (wsG yX1_solve cX1_solve 5 (some .int)) rm_X1_solve D cy ad iX [.ref (ad 9), .ref (ad a1), .int x2, .int x3] M z :=
  met_of (cc := cX1_solve) (maxL := 5) (ret := (some .int)) (own := RX1) (by decide) rfl rfl hD ndX (Nat.le_of_ble_eq_true rfl) (fun p e s m below meth c X hr => wX1_solve_E X hr a1 h_a1 x2 x3 M h)
abbrev QX1_isStrangeAt (below : List Frame) (D : va_G) (cy : Nat → ClassId) (ad : Nat → Nat) (args : Array Value) (s : State) (z : Int32 × Mem) : State → Prop := MQ below (va_Qi (fun r u => r = z.1 ∧ u = z.2) (BB D cy ad iX) (AA ad iX)) args s 0 0 (AA ad iX)
section
variable {p : Program} {l : Launch} {e : Env} {s : State} {m : MethodId} {args : Array Value} {below : List Frame} {meth : Method} {c : Code} {D : va_G} {cy : Nat → ClassId} {ad : Nat → Nat} {z : Int32 × Mem}
set_option maxHeartbeats 4000000 in
set_option maxRecDepth 100000 in
theorem wX1_isStrangeAt_E (X : CX p s m args meth c D cy ad iX cX1_isStrangeAt 2 (wsG yX1_isStrangeAt cX1_isStrangeAt 2 (some .boolean)) RX1) (hr : meth.sig.returnType = (some .boolean)) (x1 : Int32) (M : Mem) (h : fX1_isStrangeAt x1 M = some z) : SW p l e rm_X1_isStrangeAt s m args below meth c 0 0 (QX1_isStrangeAt below D cy ad args s z) 2 (PH D cy ad iX s M) 0 [(0, .ref (ad 9)), (1, .int x1)] [] := by
  have hx := X.1
  have hb := X.2.1
  unfold fX1_isStrangeAt at h
  refine sw_iload_n hx hb dX1_isStrangeAt_0 1 rfl rfl ?_
  refine sw_if_lt hx hb 24 dX1_isStrangeAt_1 (by decide) h (fun h => ?_) (fun h => ?_)
  · refine sw_iconst hx hb 0 dX1_isStrangeAt_24 (by decide) ?_
    exact sw_Zret X hr dX1_isStrangeAt_25 h
  · refine sw_iload_n hx hb dX1_isStrangeAt_4 1 rfl rfl ?_
    refine sw_sipush hx hb 300 dX1_isStrangeAt_5 (by decide) ?_
    refine sw_icmp_gt hx hb 24 dX1_isStrangeAt_8 (by decide) h (fun h => ?_) (fun h => ?_)
    · refine sw_iconst hx hb 0 dX1_isStrangeAt_24 (by decide) ?_
      exact sw_Zret X hr dX1_isStrangeAt_25 h
    · refine sw_aload_n hx hb dX1_isStrangeAt_11 0 rfl rfl ?_
      refine sw_get X inG1 mi_9 (ce_1 (rfl : kd 9 = 1)) rfl 8 (by decide) (goodW wd300) rfl dX1_isStrangeAt_12 ?_
      refine sw_iload_n hx hb dX1_isStrangeAt_15 1 rfl rfl ?_
      refine sw_zald X mi_16 (rfl : kd 16 = 11) dX1_isStrangeAt_16 h (fun v_1 h => ?_)
      refine sw_if_eq hx hb 24 dX1_isStrangeAt_17 (by decide) h (fun h => ?_) (fun h => ?_)
      · refine sw_iconst hx hb 0 dX1_isStrangeAt_24 (by decide) ?_
        exact sw_Zret X hr dX1_isStrangeAt_25 h
      · refine sw_iconst hx hb 1 dX1_isStrangeAt_20 (by decide) ?_
        refine sw_goto hx hb 25 dX1_isStrangeAt_21 (by decide) ?_
        exact sw_Zret X hr dX1_isStrangeAt_25 h

end
theorem okX1_isStrangeAt (l : Launch) {D : va_G} {cy : Nat → ClassId} {ad : Nat → Nat} (hD : ∀ M : Mem, va_D (AA ad iX) (wl cy ad iX M)) (x1 : Int32) (M : Mem) (z : Int32 × Mem) (h : fX1_isStrangeAt x1 M = some z) : CTI l yX1_isStrangeAt (wsG yX1_isStrangeAt cX1_isStrangeAt 2 (some .boolean)) rm_X1_isStrangeAt D cy ad iX [.ref (ad 9), .int x1] M z :=
  met_of (cc := cX1_isStrangeAt) (maxL := 2) (ret := (some .boolean)) (own := RX1) (by decide) rfl rfl hD ndX (Nat.le_of_ble_eq_true rfl) (fun p e s m below meth c X hr => wX1_isStrangeAt_E X hr x1 M h)
abbrev QX1_pieceAt (below : List Frame) (D : va_G) (cy : Nat → ClassId) (ad : Nat → Nat) (args : Array Value) (s : State) (z : Int32 × Mem) : State → Prop := MQ below (va_Qi (fun r u => r = z.1 ∧ u = z.2) (BB D cy ad iX) (AA ad iX)) args s 0 0 (AA ad iX)
section
variable {p : Program} {l : Launch} {e : Env} {s : State} {m : MethodId} {args : Array Value} {below : List Frame} {meth : Method} {c : Code} {D : va_G} {cy : Nat → ClassId} {ad : Nat → Nat} {z : Int32 × Mem}
set_option maxHeartbeats 4000000 in
set_option maxRecDepth 100000 in
theorem wX1_pieceAt_E (X : CX p s m args meth c D cy ad iX cX1_pieceAt 2 (wsG yX1_pieceAt cX1_pieceAt 2 (some .int)) RX1) (hr : meth.sig.returnType = (some .int)) (x1 : Int32) (M : Mem) (h : fX1_pieceAt x1 M = some z) : SW p l e rm_X1_pieceAt s m args below meth c 0 0 (QX1_pieceAt below D cy ad args s z) 2 (PH D cy ad iX s M) 0 [(0, .ref (ad 9)), (1, .int x1)] [] := by
  have hx := X.1
  have hb := X.2.1
  unfold fX1_pieceAt at h
  refine sw_iload_n hx hb dX1_pieceAt_0 1 rfl rfl ?_
  refine sw_if_lt hx hb 20 dX1_pieceAt_1 (by decide) h (fun h => ?_) (fun h => ?_)
  · refine sw_iconst hx hb 0 dX1_pieceAt_20 (by decide) ?_
    exact sw_Iret X hr dX1_pieceAt_21 h
  · refine sw_iload_n hx hb dX1_pieceAt_4 1 rfl rfl ?_
    refine sw_sipush hx hb 300 dX1_pieceAt_5 (by decide) ?_
    refine sw_icmp_gt hx hb 20 dX1_pieceAt_8 (by decide) h (fun h => ?_) (fun h => ?_)
    · refine sw_iconst hx hb 0 dX1_pieceAt_20 (by decide) ?_
      exact sw_Iret X hr dX1_pieceAt_21 h
    · refine sw_aload_n hx hb dX1_pieceAt_11 0 rfl rfl ?_
      refine sw_get X inG1 mi_9 (ce_1 (rfl : kd 9 = 1)) rfl 7 (by decide) (goodW wd299) rfl dX1_pieceAt_12 ?_
      refine sw_iload_n hx hb dX1_pieceAt_15 1 rfl rfl ?_
      refine sw_iald X mi_15 (rfl : kd 15 = 9) dX1_pieceAt_16 h (fun v_1 h => ?_)
      refine sw_goto hx hb 21 dX1_pieceAt_17 (by decide) ?_
      exact sw_Iret X hr dX1_pieceAt_21 h

end
theorem okX1_pieceAt (l : Launch) {D : va_G} {cy : Nat → ClassId} {ad : Nat → Nat} (hD : ∀ M : Mem, va_D (AA ad iX) (wl cy ad iX M)) (x1 : Int32) (M : Mem) (z : Int32 × Mem) (h : fX1_pieceAt x1 M = some z) : CTI l yX1_pieceAt (wsG yX1_pieceAt cX1_pieceAt 2 (some .int)) rm_X1_pieceAt D cy ad iX [.ref (ad 9), .int x1] M z :=
  met_of (cc := cX1_pieceAt) (maxL := 2) (ret := (some .int)) (own := RX1) (by decide) rfl rfl hD ndX (Nat.le_of_ble_eq_true rfl) (fun p e s m below meth c X hr => wX1_pieceAt_E X hr x1 M h)
