abbrev QX6_cutPieces (below : List Frame) (D : va_G) (cy : Nat → ClassId) (ad : Nat → Nat) (args : Array Value) (s : State) (z : Mem) : State → Prop := MQ below (va_Qv (fun u => u = z) (BB D cy ad iX) (AA ad iX)) args s 0 0 (AA ad iX)
section
variable {p : Program} {l : Launch} {e : Env} {s : State} {m : MethodId} {args : Array Value} {below : List Frame} {meth : Method} {c : Code} {D : va_G} {cy : Nat → ClassId} {ad : Nat → Nat} {z : Mem}
set_option maxHeartbeats 4000000 in
set_option maxRecDepth 100000 in
theorem wX6_cutPieces_L64 (X : CX p s m args meth c D cy ad iX cX6_cutPieces 5 (wsG yX6_cutPieces cX6_cutPieces 5 none) RX6) (hr : meth.sig.returnType = none) (k2 : Int32 → Int32 → Mem → Option (Mem)) (hk2 : ∀ (x2 : Int32) (x3 : Int32) (M : Mem), k2 x2 x3 M = some z → SW p l e rm_X6_cutPieces s m args below meth c 0 0 (QX6_cutPieces below D cy ad args s z) 5 (PH D cy ad iX s M) 2 [(0, .ref (ad 0)), (2, .int x2), (3, .int x3)] []) (x2 : Int32) (x3 : Int32) (x4 : Int32) (M : Mem) (h : fX6_cutPieces_L64 k2 x2 x3 x4 M = some z) : SW p l e rm_X6_cutPieces s m args below meth c 0 0 (QX6_cutPieces below D cy ad args s z) 5 (PH D cy ad iX s M) 64 [(0, .ref (ad 0)), (2, .int x2), (3, .int x3), (4, .int x4)] [] := by
  have hx := X.1
  have hb := X.2.1
  unfold fX6_cutPieces_L64 at h
  refine sw_aload_n hx hb dX6_cutPieces_64 0 rfl rfl ?_
  refine sw_get X inG6 mi_0 (ce_6 (rfl : kd 0 = 6)) rfl 2 (by decide) (goodW wd28) rfl dX6_cutPieces_65 ?_
  refine sw_iload_n hx hb dX6_cutPieces_68 2 rfl rfl ?_
  refine sw_iload hx hb dX6_cutPieces_69 3 rfl ?_
  refine sw_callVV (C := RX2) (As := [.int x3, .int x4]) (rest := []) X mi_5 (ce_2 (rfl : kd 5 = 2)) rfl rfl (fun _ hz => okX2_add l X.2.2.2.2.2.2.1 x3 x4 M _ hz) (cwX6_151 X.2.2.2.2.1 ⟨Nat.le_of_ble_eq_true rfl, Nat.le_of_ble_eq_true rfl⟩)  rfl rfl (Nat.le_of_ble_eq_true rfl) dX6_cutPieces_71 ⟨Nat.le_of_ble_eq_true rfl, Nat.le_of_ble_eq_true rfl⟩ h (fun M_7 _ h => ?_)
  refine sw_iload hx hb dX6_cutPieces_74 3 rfl ?_
  refine sw_istore_n hx hb [(3, .int x4), (0, .ref (ad 0)), (2, .int x2), (4, .int x4)] dX6_cutPieces_76 rfl (by decide) rfl ?_
  refine sw_goto hx hb 2 dX6_cutPieces_77 (by decide) ?_
  refine sw_sub (lv1 := [(0, .ref (ad 0)), (2, .int x2), (3, .int x4)]) [1, 2, 0] rfl ?_
  exact hk2 x2 x4 M_7 h

set_option maxHeartbeats 4000000 in
set_option maxRecDepth 100000 in
theorem wX6_cutPieces_H23 (X : CX p s m args meth c D cy ad iX cX6_cutPieces 5 (wsG yX6_cutPieces cX6_cutPieces 5 none) RX6) (hr : meth.sig.returnType = none) (k2 : Int32 → Int32 → Mem → Option (Mem)) (hk2 : ∀ (x2 : Int32) (x3 : Int32) (M : Mem), k2 x2 x3 M = some z → SW p l e rm_X6_cutPieces s m args below meth c 0 0 (QX6_cutPieces below D cy ad args s z) 5 (PH D cy ad iX s M) 2 [(0, .ref (ad 0)), (2, .int x2), (3, .int x3)] []) : ∀ (n : Nat) (x2 : Int32) (x3 : Int32) (x4 : Int32) (M : Mem), fX6_cutPieces_H23 k2 n x2 x3 x4 M = some z → SW p l e rm_X6_cutPieces s m args below meth c 0 0 (QX6_cutPieces below D cy ad args s z) 5 (PH D cy ad iX s M) 23 [(0, .ref (ad 0)), (2, .int x2), (3, .int x3), (4, .int x4)] [] := by
  have hx := X.1
  have hb := X.2.1
  intro n
  induction n with
  | zero =>
    intro x2 x3 x4 M h
    have h : (none : Option (Mem)) = some z := h
    cases h
  | succ n ih =>
    intro x2 x3 x4 M h
    rw [fX6_cutPieces_H23] at h
    refine sw_iload hx hb dX6_cutPieces_23 3 rfl ?_
    refine sw_iload_n hx hb dX6_cutPieces_25 1 rfl rfl ?_
    refine sw_icmp_ge hx hb 64 dX6_cutPieces_26 (by decide) h (fun h => ?_) (fun h => ?_)
    · refine sw_sub (lv1 := [(0, .ref (ad 0)), (2, .int x2), (3, .int x3), (4, .int x4)]) [0, 1, 2, 3] rfl ?_
      exact wX6_cutPieces_L64 X hr k2 hk2 x2 x3 x4 M h
    · refine sw_aload_n hx hb dX6_cutPieces_29 0 rfl rfl ?_
      refine sw_get X inG6 mi_0 (ce_6 (rfl : kd 0 = 6)) rfl 3 (by decide) (goodW wd211) rfl dX6_cutPieces_30 ?_
      refine sw_iload hx hb dX6_cutPieces_33 3 rfl ?_
      refine sw_callVI (C := RX1) (As := [.int x4]) (rest := []) X mi_9 (ce_1 (rfl : kd 9 = 1)) rfl rfl (fun _ hz => okX1_isStrangeAt l X.2.2.2.2.2.2.1 x4 M _ hz) (cwX6_183 X.2.2.2.2.1 ⟨Nat.le_of_ble_eq_true rfl, Nat.le_of_ble_eq_true rfl⟩)  rfl rfl (Nat.le_of_ble_eq_true rfl) dX6_cutPieces_35 ⟨Nat.le_of_ble_eq_true rfl, Nat.le_of_ble_eq_true rfl⟩ h (fun v_10 M_9 _ h => ?_)
      refine sw_if_eq hx hb 64 dX6_cutPieces_38 (by decide) h (fun h => ?_) (fun h => ?_)
      · refine sw_sub (lv1 := [(0, .ref (ad 0)), (2, .int x2), (3, .int x3), (4, .int x4)]) [0, 1, 2, 3] rfl ?_
        exact wX6_cutPieces_L64 X hr k2 hk2 x2 x3 x4 M_9 h
      · refine sw_iincN hx hb (k := 3) (x4 + 1) (fun x4_11 => [(4, .int x4_11), (0, .ref (ad 0)), (2, .int x2), (3, .int x3)]) dX6_cutPieces_41 rfl (by rfl) (by decide) (fun _ => rfl) h (fun x4_11 h => ?_)
        refine sw_goto hx hb 23 dX6_cutPieces_44 (by decide) ?_
        refine sw_sub (lv1 := [(0, .ref (ad 0)), (2, .int x2), (3, .int x3), (4, .int x4_11)]) [1, 2, 3, 0] rfl ?_
        exact ih x2 x3 x4_11 M_9 h

set_option maxHeartbeats 4000000 in
set_option maxRecDepth 100000 in
theorem wX6_cutPieces_H2 (X : CX p s m args meth c D cy ad iX cX6_cutPieces 5 (wsG yX6_cutPieces cX6_cutPieces 5 none) RX6) (hr : meth.sig.returnType = none) : ∀ (n : Nat) (x2 : Int32) (x3 : Int32) (M : Mem), fX6_cutPieces_H2 n x2 x3 M = some z → SW p l e rm_X6_cutPieces s m args below meth c 0 0 (QX6_cutPieces below D cy ad args s z) 5 (PH D cy ad iX s M) 2 [(0, .ref (ad 0)), (2, .int x2), (3, .int x3)] [] := by
  have hx := X.1
  have hb := X.2.1
  intro n
  induction n with
  | zero =>
    intro x2 x3 M h
    have h : (none : Option (Mem)) = some z := h
    cases h
  | succ n ih =>
    intro x2 x3 M h
    rw [fX6_cutPieces_H2] at h
    refine sw_iload_n hx hb dX6_cutPieces_2 2 rfl rfl ?_
    refine sw_iload_n hx hb dX6_cutPieces_3 1 rfl rfl ?_
    refine sw_icmp_ge hx hb 80 dX6_cutPieces_4 (by decide) h (fun h => ?_) (fun h => ?_)
    · exact sw_Vret X hr dX6_cutPieces_80 h
    · refine sw_iload_n hx hb dX6_cutPieces_7 2 rfl rfl ?_
      refine sw_iconst hx hb 1 dX6_cutPieces_8 (by decide) ?_
      refine sw_iadd hx hb dX6_cutPieces_9 ?_
      refine sw_istoreN hx hb (fun x4_1 => [(4, .int x4_1), (0, .ref (ad 0)), (2, .int x2), (3, .int x3)]) dX6_cutPieces_10 (by decide) (fun _ => rfl) h (fun x4_1 h => ?_)
      refine sw_aload_n hx hb dX6_cutPieces_12 1 rfl rfl ?_
      refine sw_get X inG6 mi_0 (ce_6 (rfl : kd 0 = 6)) rfl 3 (by decide) (goodW wd211) rfl dX6_cutPieces_13 ?_
      refine sw_iload_n hx hb dX6_cutPieces_16 3 rfl rfl ?_
      refine sw_callVI (C := RX1) (As := [.int x3]) (rest := []) X mi_9 (ce_1 (rfl : kd 9 = 1)) rfl rfl (fun _ hz => okX1_isStrangeAt l X.2.2.2.2.2.2.1 x3 M _ hz) (cwX6_183 X.2.2.2.2.1 ⟨Nat.le_of_ble_eq_true rfl, Nat.le_of_ble_eq_true rfl⟩)  rfl rfl (Nat.le_of_ble_eq_true rfl) dX6_cutPieces_17 ⟨Nat.le_of_ble_eq_true rfl, Nat.le_of_ble_eq_true rfl⟩ h (fun v_3 M_2 _ h => ?_)
      refine sw_if_eq hx hb 47 dX6_cutPieces_20 (by decide) h (fun h => ?_) (fun h => ?_)
      · refine sw_iload hx hb dX6_cutPieces_47 0 rfl ?_
        refine sw_iload_n hx hb dX6_cutPieces_49 3 rfl rfl ?_
        refine sw_aload_n hx hb dX6_cutPieces_50 1 rfl rfl ?_
        refine sw_get X inG6 mi_0 (ce_6 (rfl : kd 0 = 6)) rfl 3 (by decide) (goodW wd211) rfl dX6_cutPieces_51 ?_
        refine sw_iload_n hx hb dX6_cutPieces_54 3 rfl rfl ?_
        refine sw_callVI (C := RX1) (As := [.int x3]) (rest := [.int x3, .int x4_1]) X mi_9 (ce_1 (rfl : kd 9 = 1)) rfl rfl (fun _ hz => okX1_pieceAt l X.2.2.2.2.2.2.1 x3 M_2 _ hz) (cwX6_186 X.2.2.2.2.1 ⟨Nat.le_of_ble_eq_true rfl, Nat.le_of_ble_eq_true rfl⟩)  rfl rfl (Nat.le_of_ble_eq_true rfl) dX6_cutPieces_55 ⟨Nat.le_of_ble_eq_true rfl, Nat.le_of_ble_eq_true rfl⟩ h (fun v_5 M_4 _ h => ?_)
        refine sw_iadd hx hb dX6_cutPieces_58 ?_
        refine sw_mmax X (goodW wd261) (goodW wd109) (goodW wd106) (goodW wd110) (Nat.le_of_ble_eq_true rfl) (Nat.le_of_ble_eq_true rfl) (Nat.le_of_ble_eq_true rfl) (Nat.le_of_ble_eq_true rfl) dX6_cutPieces_59 ?_
        refine sw_istoreN hx hb (fun x4_6 => [(4, .int x4_6), (0, .ref (ad 0)), (2, .int x2), (3, .int x3)]) dX6_cutPieces_62 (by decide) (fun _ => rfl) h (fun x4_6 h => ?_)
        refine sw_sub (lv1 := [(0, .ref (ad 0)), (2, .int x2), (3, .int x3), (4, .int x4_6)]) [1, 2, 3, 0] rfl ?_
        exact wX6_cutPieces_L64 X hr (fX6_cutPieces_H2 n) ih x2 x3 x4_6 M_4 h
      · refine sw_sub (lv1 := [(0, .ref (ad 0)), (2, .int x2), (3, .int x3), (4, .int x4_1)]) [1, 2, 3, 0] rfl ?_
        exact wX6_cutPieces_H23 X hr (fX6_cutPieces_H2 n) ih FU x2 x3 x4_1 M_2 h

set_option maxHeartbeats 4000000 in
set_option maxRecDepth 100000 in
theorem wX6_cutPieces_E (X : CX p s m args meth c D cy ad iX cX6_cutPieces 5 (wsG yX6_cutPieces cX6_cutPieces 5 none) RX6) (hr : meth.sig.returnType = none) (x1 : Int32) (x2 : Int32) (M : Mem) (h : fX6_cutPieces x1 x2 M = some z) : SW p l e rm_X6_cutPieces s m args below meth c 0 0 (QX6_cutPieces below D cy ad args s z) 5 (PH D cy ad iX s M) 0 [(0, .ref (ad 0)), (1, .int x1), (2, .int x2)] [] := by
  have hx := X.1
  have hb := X.2.1
  unfold fX6_cutPieces at h
  refine sw_iload_n hx hb dX6_cutPieces_0 1 rfl rfl ?_
  refine sw_istore_n hx hb [(3, .int x1), (0, .ref (ad 0)), (1, .int x1), (2, .int x2)] dX6_cutPieces_1 rfl (by decide) rfl ?_
  refine sw_sub (lv1 := [(0, .ref (ad 0)), (2, .int x2), (3, .int x1)]) [1, 3, 0] rfl ?_
  exact wX6_cutPieces_H2 X hr FU x2 x1 M h

end
theorem okX6_cutPieces (l : Launch) {D : va_G} {cy : Nat → ClassId} {ad : Nat → Nat} (hD : ∀ M : Mem, va_D (AA ad iX) (wl cy ad iX M)) (x1 : Int32) (x2 : Int32) (M : Mem) (z : Mem) (h : fX6_cutPieces x1 x2 M = some z) : CTV l yX6_cutPieces (wsG yX6_cutPieces cX6_cutPieces 5 none) rm_X6_cutPieces D cy ad iX [.ref (ad 0), .int x1, .int x2] M z :=
  met_of (cc := cX6_cutPieces) (maxL := 5) (ret := none) (own := RX6) (by decide) rfl rfl hD ndX (Nat.le_of_ble_eq_true rfl) (fun p e s m below meth c X hr => wX6_cutPieces_E X hr x1 x2 M h)
abbrev QX6_cutPairs (below : List Frame) (D : va_G) (cy : Nat → ClassId) (ad : Nat → Nat) (args : Array Value) (s : State) (z : Mem) : State → Prop := MQ below (va_Qv (fun u => u = z) (BB D cy ad iX) (AA ad iX)) args s 0 0 (AA ad iX)
section
variable {p : Program} {l : Launch} {e : Env} {s : State} {m : MethodId} {args : Array Value} {below : List Frame} {meth : Method} {c : Code} {D : va_G} {cy : Nat → ClassId} {ad : Nat → Nat} {z : Mem}
set_option maxHeartbeats 4000000 in
set_option maxRecDepth 100000 in
theorem wX6_cutPairs_H18 (X : CX p s m args meth c D cy ad iX cX6_cutPairs 4 (wsG yX6_cutPairs cX6_cutPairs 4 none) RX6) (hr : meth.sig.returnType = none) : ∀ (n : Nat) (x2 : Int32) (x3 : Int32) (M : Mem), fX6_cutPairs_H18 n x2 x3 M = some z → SW p l e rm_X6_cutPairs s m args below meth c 0 0 (QX6_cutPairs below D cy ad args s z) 4 (PH D cy ad iX s M) 18 [(0, .ref (ad 0)), (2, .int x2), (3, .int x3)] [] := by
  have hx := X.1
  have hb := X.2.1
  intro n
  induction n with
  | zero =>
    intro x2 x3 M h
    have h : (none : Option (Mem)) = some z := h
    cases h
  | succ n ih =>
    intro x2 x3 M h
    rw [fX6_cutPairs_H18] at h
    refine sw_iload_n hx hb dX6_cutPairs_18 2 rfl rfl ?_
    refine sw_iconst hx hb 1 dX6_cutPairs_19 (by decide) ?_
    refine sw_iadd hx hb dX6_cutPairs_20 ?_
    refine sw_iload_n hx hb dX6_cutPairs_21 1 rfl rfl ?_
    refine sw_icmp_ge hx hb 42 dX6_cutPairs_22 (by decide) h (fun h => ?_) (fun h => ?_)
    · exact sw_Vret X hr dX6_cutPairs_42 h
    · refine sw_aload_n hx hb dX6_cutPairs_25 0 rfl rfl ?_
      refine sw_get X inG6 mi_0 (ce_6 (rfl : kd 0 = 6)) rfl 2 (by decide) (goodW wd28) rfl dX6_cutPairs_26 ?_
      refine sw_iload_n hx hb dX6_cutPairs_29 2 rfl rfl ?_
      refine sw_iload_n hx hb dX6_cutPairs_30 2 rfl rfl ?_
      refine sw_iconst hx hb 2 dX6_cutPairs_31 (by decide) ?_
      refine sw_iadd hx hb dX6_cutPairs_32 ?_
      refine sw_callVV (C := RX2) (As := [.int x3, .int (x3 + 2)]) (rest := []) X mi_5 (ce_2 (rfl : kd 5 = 2)) rfl rfl (fun _ hz => okX2_add l X.2.2.2.2.2.2.1 x3 (x3 + 2) M _ hz) (cwX6_151 X.2.2.2.2.1 ⟨Nat.le_of_ble_eq_true rfl, Nat.le_of_ble_eq_true rfl⟩)  rfl rfl (Nat.le_of_ble_eq_true rfl) dX6_cutPairs_33 ⟨Nat.le_of_ble_eq_true rfl, Nat.le_of_ble_eq_true rfl⟩ h (fun M_1 _ h => ?_)
      refine sw_iincN hx hb (k := 2) (x3 + 1) (fun x3_3 => [(3, .int x3_3), (0, .ref (ad 0)), (2, .int x2)]) dX6_cutPairs_36 rfl (by rfl) (by decide) (fun _ => rfl) h (fun x3_3 h => ?_)
      refine sw_goto hx hb 18 dX6_cutPairs_39 (by decide) ?_
      refine sw_sub (lv1 := [(0, .ref (ad 0)), (2, .int x2), (3, .int x3_3)]) [1, 2, 0] rfl ?_
      exact ih x2 x3_3 M_1 h

set_option maxHeartbeats 4000000 in
set_option maxRecDepth 100000 in
theorem wX6_cutPairs_L16 (X : CX p s m args meth c D cy ad iX cX6_cutPairs 4 (wsG yX6_cutPairs cX6_cutPairs 4 none) RX6) (hr : meth.sig.returnType = none) (x1 : Int32) (x2 : Int32) (M : Mem) (h : fX6_cutPairs_L16 x1 x2 M = some z) : SW p l e rm_X6_cutPairs s m args below meth c 0 0 (QX6_cutPairs below D cy ad args s z) 4 (PH D cy ad iX s M) 16 [(0, .ref (ad 0)), (1, .int x1), (2, .int x2)] [] := by
  have hx := X.1
  have hb := X.2.1
  unfold fX6_cutPairs_L16 at h
  refine sw_iload_n hx hb dX6_cutPairs_16 1 rfl rfl ?_
  refine sw_istore_n hx hb [(3, .int x1), (0, .ref (ad 0)), (1, .int x1), (2, .int x2)] dX6_cutPairs_17 rfl (by decide) rfl ?_
  refine sw_sub (lv1 := [(0, .ref (ad 0)), (2, .int x2), (3, .int x1)]) [1, 3, 0] rfl ?_
  exact wX6_cutPairs_H18 X hr FU x2 x1 M h

set_option maxHeartbeats 4000000 in
set_option maxRecDepth 100000 in
theorem wX6_cutPairs_E (X : CX p s m args meth c D cy ad iX cX6_cutPairs 4 (wsG yX6_cutPairs cX6_cutPairs 4 none) RX6) (hr : meth.sig.returnType = none) (x1 : Int32) (x2 : Int32) (M : Mem) (h : fX6_cutPairs x1 x2 M = some z) : SW p l e rm_X6_cutPairs s m args below meth c 0 0 (QX6_cutPairs below D cy ad args s z) 4 (PH D cy ad iX s M) 0 [(0, .ref (ad 0)), (1, .int x1), (2, .int x2)] [] := by
  have hx := X.1
  have hb := X.2.1
  unfold fX6_cutPairs at h
  refine sw_iload_n hx hb dX6_cutPairs_0 2 rfl rfl ?_
  refine sw_iload_n hx hb dX6_cutPairs_1 1 rfl rfl ?_
  refine sw_isub hx hb dX6_cutPairs_2 ?_
  refine sw_iconst hx hb 1 dX6_cutPairs_3 (by decide) ?_
  refine sw_icmp_ne hx hb 16 dX6_cutPairs_4 (by decide) h (fun h => ?_) (fun h => ?_)
  · refine sw_sub (lv1 := [(0, .ref (ad 0)), (1, .int x1), (2, .int x2)]) [0, 1, 2] rfl ?_
    exact wX6_cutPairs_L16 X hr x1 x2 M h
  · refine sw_aload_n hx hb dX6_cutPairs_7 0 rfl rfl ?_
    refine sw_get X inG6 mi_0 (ce_6 (rfl : kd 0 = 6)) rfl 2 (by decide) (goodW wd28) rfl dX6_cutPairs_8 ?_
    refine sw_iload_n hx hb dX6_cutPairs_11 1 rfl rfl ?_
    refine sw_iload_n hx hb dX6_cutPairs_12 2 rfl rfl ?_
    refine sw_callVV (C := RX2) (As := [.int x1, .int x2]) (rest := []) X mi_5 (ce_2 (rfl : kd 5 = 2)) rfl rfl (fun _ hz => okX2_add l X.2.2.2.2.2.2.1 x1 x2 M _ hz) (cwX6_151 X.2.2.2.2.1 ⟨Nat.le_of_ble_eq_true rfl, Nat.le_of_ble_eq_true rfl⟩)  rfl rfl (Nat.le_of_ble_eq_true rfl) dX6_cutPairs_13 ⟨Nat.le_of_ble_eq_true rfl, Nat.le_of_ble_eq_true rfl⟩ h (fun M_4 _ h => ?_)
    refine sw_sub (lv1 := [(0, .ref (ad 0)), (1, .int x1), (2, .int x2)]) [0, 1, 2] rfl ?_
    exact wX6_cutPairs_L16 X hr x1 x2 M_4 h

end
theorem okX6_cutPairs (l : Launch) {D : va_G} {cy : Nat → ClassId} {ad : Nat → Nat} (hD : ∀ M : Mem, va_D (AA ad iX) (wl cy ad iX M)) (x1 : Int32) (x2 : Int32) (M : Mem) (z : Mem) (h : fX6_cutPairs x1 x2 M = some z) : CTV l yX6_cutPairs (wsG yX6_cutPairs cX6_cutPairs 4 none) rm_X6_cutPairs D cy ad iX [.ref (ad 0), .int x1, .int x2] M z :=
  met_of (cc := cX6_cutPairs) (maxL := 4) (ret := none) (own := RX6) (by decide) rfl rfl hD ndX (Nat.le_of_ble_eq_true rfl) (fun p e s m below meth c X hr => wX6_cutPairs_E X hr x1 x2 M h)
abbrev QX6_cutRow (below : List Frame) (D : va_G) (cy : Nat → ClassId) (ad : Nat → Nat) (args : Array Value) (s : State) (z : Mem) : State → Prop := MQ below (va_Qv (fun u => u = z) (BB D cy ad iX) (AA ad iX)) args s 0 0 (AA ad iX)
section
variable {p : Program} {l : Launch} {e : Env} {s : State} {m : MethodId} {args : Array Value} {below : List Frame} {meth : Method} {c : Code} {D : va_G} {cy : Nat → ClassId} {ad : Nat → Nat} {z : Mem}
set_option maxHeartbeats 4000000 in
set_option maxRecDepth 100000 in
theorem wX6_cutRow_L81 (X : CX p s m args meth c D cy ad iX cX6_cutRow 7 (wsG yX6_cutRow cX6_cutRow 7 none) RX6) (hr : meth.sig.returnType = none) (M : Mem) (h : fX6_cutRow_L81 M = some z) : SW p l e rm_X6_cutRow s m args below meth c 0 0 (QX6_cutRow below D cy ad args s z) 7 (PH D cy ad iX s M) 81 [] [] := by
  have hx := X.1
  have hb := X.2.1
  unfold fX6_cutRow_L81 at h
  refine sw_goto hx hb 138 dX6_cutRow_81 (by decide) ?_
  exact sw_Vret X hr dX6_cutRow_138 h

set_option maxHeartbeats 4000000 in
set_option maxRecDepth 100000 in
theorem wX6_cutRow_H48 (X : CX p s m args meth c D cy ad iX cX6_cutRow 7 (wsG yX6_cutRow cX6_cutRow 7 none) RX6) (hr : meth.sig.returnType = none) : ∀ (n : Nat) (x3 : Int32) (x4 : Int32) (x5 : Int32) (x6 : Int32) (M : Mem), fX6_cutRow_H48 n x3 x4 x5 x6 M = some z → SW p l e rm_X6_cutRow s m args below meth c 0 0 (QX6_cutRow below D cy ad args s z) 7 (PH D cy ad iX s M) 48 [(0, .ref (ad 0)), (3, .int x3), (4, .int x4), (5, .int x5), (6, .int x6)] [] := by
  have hx := X.1
  have hb := X.2.1
  intro n
  induction n with
  | zero =>
    intro x3 x4 x5 x6 M h
    have h : (none : Option (Mem)) = some z := h
    cases h
  | succ n ih =>
    intro x3 x4 x5 x6 M h
    rw [fX6_cutRow_H48] at h
    refine sw_iload hx hb dX6_cutRow_48 4 rfl ?_
    refine sw_iload_n hx hb dX6_cutRow_50 1 rfl rfl ?_
    refine sw_icmp_ge hx hb 81 dX6_cutRow_51 (by decide) h (fun h => ?_) (fun h => ?_)
    · refine sw_sub (lv1 := []) [] rfl ?_
      exact wX6_cutRow_L81 X hr M h
    · refine sw_aload_n hx hb dX6_cutRow_54 0 rfl rfl ?_
      refine sw_get X inG6 mi_0 (ce_6 (rfl : kd 0 = 6)) rfl 2 (by decide) (goodW wd28) rfl dX6_cutRow_55 ?_
      refine sw_callVI (C := RX2) (As := []) (rest := []) X mi_5 (ce_2 (rfl : kd 5 = 2)) rfl rfl (fun _ hz => okX2_isOver l X.2.2.2.2.2.2.1 M _ hz) (cwX6_105 X.2.2.2.2.1 ⟨Nat.le_of_ble_eq_true rfl, Nat.le_of_ble_eq_true rfl⟩)  rfl rfl (Nat.le_of_ble_eq_true rfl) dX6_cutRow_58 ⟨Nat.le_of_ble_eq_true rfl, Nat.le_of_ble_eq_true rfl⟩ h (fun v_4 M_3 _ h => ?_)
      refine sw_if_ne hx hb 81 dX6_cutRow_61 (by decide) h (fun h => ?_) (fun h => ?_)
      · refine sw_sub (lv1 := []) [] rfl ?_
        exact wX6_cutRow_L81 X hr M_3 h
      · refine sw_aload_n hx hb dX6_cutRow_64 0 rfl rfl ?_
        refine sw_iload hx hb dX6_cutRow_65 4 rfl ?_
        refine sw_iload_n hx hb dX6_cutRow_67 1 rfl rfl ?_
        refine sw_iload hx hb dX6_cutRow_68 2 rfl ?_
        refine sw_iload hx hb dX6_cutRow_70 3 rfl ?_
        refine sw_callVV (C := RX6) (As := [.int x6, .int x3, .int x4, .int x5]) (rest := []) X mi_0 (ce_6 (rfl : kd 0 = 6)) rfl rfl (fun _ hz => okX6_cutSizes l X.2.2.2.2.2.2.1 x6 x3 x4 x5 M_3 _ hz) (cwX6_170 X.2.2.2.2.1 ⟨Nat.le_of_ble_eq_true rfl, Nat.le_of_ble_eq_true rfl⟩)  rfl rfl (Nat.le_of_ble_eq_true rfl) dX6_cutRow_72 ⟨Nat.le_of_ble_eq_true rfl, Nat.le_of_ble_eq_true rfl⟩ h (fun M_5 _ h => ?_)
        refine sw_iincN hx hb (k := 4) (x6 + 1) (fun x6_7 => [(6, .int x6_7), (0, .ref (ad 0)), (3, .int x3), (4, .int x4), (5, .int x5)]) dX6_cutRow_75 rfl (by rfl) (by decide) (fun _ => rfl) h (fun x6_7 h => ?_)
        refine sw_goto hx hb 48 dX6_cutRow_78 (by decide) ?_
        refine sw_sub (lv1 := [(0, .ref (ad 0)), (3, .int x3), (4, .int x4), (5, .int x5), (6, .int x6_7)]) [1, 2, 3, 4, 0] rfl ?_
        exact ih x3 x4 x5 x6_7 M_5 h

set_option maxHeartbeats 4000000 in
set_option maxRecDepth 100000 in
theorem wX6_cutRow_E (X : CX p s m args meth c D cy ad iX cX6_cutRow 7 (wsG yX6_cutRow cX6_cutRow 7 none) RX6) (hr : meth.sig.returnType = none) (x1 : Int32) (x2 : Int32) (x3 : Int32) (x4 : Int32) (x5 : Int32) (M : Mem) (h : fX6_cutRow x1 x2 x3 x4 x5 M = some z) : SW p l e rm_X6_cutRow s m args below meth c 0 0 (QX6_cutRow below D cy ad args s z) 7 (PH D cy ad iX s M) 0 [(0, .ref (ad 0)), (1, .int x1), (2, .int x2), (3, .int x3), (4, .int x4), (5, .int x5)] [] := by
  have hx := X.1
  have hb := X.2.1
  unfold fX6_cutRow at h
  refine sw_iload_n hx hb dX6_cutRow_0 1 rfl rfl ?_
  refine ifc h (fun hc1_0 h => ?_) (fun hc1_0 h => ?_)
  · refine sw_tableIn hx hb (off := 35) 36 dX6_cutRow_1 (by rw [hc1_0]; decide) (by rw [hc1_0]; decide) (by rw [hc1_0]; decide +kernel) (by decide) ?_
    refine sw_aload_n hx hb dX6_cutRow_36 0 rfl rfl ?_
    refine sw_iload_n hx hb dX6_cutRow_37 2 rfl rfl ?_
    refine sw_iload_n hx hb dX6_cutRow_38 3 rfl rfl ?_
    refine sw_callVV (C := RX6) (As := [.int x2, .int x3]) (rest := []) X mi_0 (ce_6 (rfl : kd 0 = 6)) rfl rfl (fun _ hz => okX6_cutPaths l X.2.2.2.2.2.2.1 x2 x3 M _ hz) (cwX6_167 X.2.2.2.2.1 ⟨Nat.le_of_ble_eq_true rfl, Nat.le_of_ble_eq_true rfl⟩)  rfl rfl (Nat.le_of_ble_eq_true rfl) dX6_cutRow_39 ⟨Nat.le_of_ble_eq_true rfl, Nat.le_of_ble_eq_true rfl⟩ h (fun M_1 _ h => ?_)
    refine sw_goto hx hb 138 dX6_cutRow_42 (by decide) ?_
    exact sw_Vret X hr dX6_cutRow_138 h
  · skip
    refine ifc h (fun hc1_1 h => ?_) (fun hc1_1 h => ?_)
    · refine sw_tableIn hx hb (off := 44) 45 dX6_cutRow_1 (by rw [hc1_1]; decide) (by rw [hc1_1]; decide) (by rw [hc1_1]; decide +kernel) (by decide) ?_
      refine sw_iload_n hx hb dX6_cutRow_45 2 rfl rfl ?_
      refine sw_istore hx hb [(6, .int x2), (0, .ref (ad 0)), (1, .int x1), (2, .int x2), (3, .int x3), (4, .int x4), (5, .int x5)] dX6_cutRow_46 (by decide) rfl ?_
      refine sw_sub (lv1 := [(0, .ref (ad 0)), (3, .int x3), (4, .int x4), (5, .int x5), (6, .int x2)]) [1, 4, 5, 6, 0] rfl ?_
      exact wX6_cutRow_H48 X hr FU x3 x4 x5 x2 M h
    · skip
      refine ifc h (fun hc1_2 h => ?_) (fun hc1_2 h => ?_)
      · refine sw_tableIn hx hb (off := 83) 84 dX6_cutRow_1 (by rw [hc1_2]; decide) (by rw [hc1_2]; decide) (by rw [hc1_2]; decide +kernel) (by decide) ?_
        refine sw_aload_n hx hb dX6_cutRow_84 0 rfl rfl ?_
        refine sw_iload_n hx hb dX6_cutRow_85 2 rfl rfl ?_
        refine sw_iload_n hx hb dX6_cutRow_86 3 rfl rfl ?_
        refine sw_iload hx hb dX6_cutRow_87 4 rfl ?_
        refine sw_iload hx hb dX6_cutRow_89 5 rfl ?_
        refine sw_callVV (C := RX6) (As := [.int x2, .int x3, .int x4, .int x5]) (rest := []) X mi_0 (ce_6 (rfl : kd 0 = 6)) rfl rfl (fun _ hz => okX6_cutSizes l X.2.2.2.2.2.2.1 x2 x3 x4 x5 M _ hz) (cwX6_170 X.2.2.2.2.1 ⟨Nat.le_of_ble_eq_true rfl, Nat.le_of_ble_eq_true rfl⟩)  rfl rfl (Nat.le_of_ble_eq_true rfl) dX6_cutRow_91 ⟨Nat.le_of_ble_eq_true rfl, Nat.le_of_ble_eq_true rfl⟩ h (fun M_8 _ h => ?_)
        refine sw_goto hx hb 138 dX6_cutRow_94 (by decide) ?_
        exact sw_Vret X hr dX6_cutRow_138 h
      · skip
        refine ifc h (fun hc1_3 h => ?_) (fun hc1_3 h => ?_)
        · refine sw_tableIn hx hb (off := 96) 97 dX6_cutRow_1 (by rw [hc1_3]; decide) (by rw [hc1_3]; decide) (by rw [hc1_3]; decide +kernel) (by decide) ?_
          refine sw_aload_n hx hb dX6_cutRow_97 0 rfl rfl ?_
          refine sw_get X inG6 mi_0 (ce_6 (rfl : kd 0 = 6)) rfl 3 (by decide) (goodW wd211) rfl dX6_cutRow_98 ?_
          refine sw_aload_n hx hb dX6_cutRow_101 0 rfl rfl ?_
          refine sw_get X inG6 mi_0 (ce_6 (rfl : kd 0 = 6)) rfl 1 (by decide) (goodW wd23) rfl dX6_cutRow_102 ?_
          refine sw_iload_n hx hb dX6_cutRow_105 2 rfl rfl ?_
          refine sw_iload_n hx hb dX6_cutRow_106 3 rfl rfl ?_
          refine sw_callVI (C := RX1) (As := [.ref (ad 3), .int x2, .int x3]) (rest := []) X mi_9 (ce_1 (rfl : kd 9 = 1)) rfl rfl (fun _ hz => okX1_solve l X.2.2.2.2.2.2.1 3 x2 x3 (rfl : kd 3 = 5) M _ hz) (cwX6_137 X.2.2.2.2.1 ⟨Nat.le_of_ble_eq_true rfl, Nat.le_of_ble_eq_true rfl⟩)  rfl rfl (Nat.le_of_ble_eq_true rfl) dX6_cutRow_107 ⟨Nat.le_of_ble_eq_true rfl, Nat.le_of_ble_eq_true rfl⟩ h (fun v_11 M_10 _ h => ?_)
          refine sw_pop hx hb dX6_cutRow_110 rfl ?_
          refine sw_aload_n hx hb dX6_cutRow_111 0 rfl rfl ?_
          refine sw_iload_n hx hb dX6_cutRow_112 2 rfl rfl ?_
          refine sw_iload_n hx hb dX6_cutRow_113 3 rfl rfl ?_
          refine sw_callVV (C := RX6) (As := [.int x2, .int x3]) (rest := []) X mi_0 (ce_6 (rfl : kd 0 = 6)) rfl rfl (fun _ hz => okX6_cutPieces l X.2.2.2.2.2.2.1 x2 x3 M_10 _ hz) (cwX6_174 X.2.2.2.2.1 ⟨Nat.le_of_ble_eq_true rfl, Nat.le_of_ble_eq_true rfl⟩)  rfl rfl (Nat.le_of_ble_eq_true rfl) dX6_cutRow_114 ⟨Nat.le_of_ble_eq_true rfl, Nat.le_of_ble_eq_true rfl⟩ h (fun M_12 _ h => ?_)
          refine sw_goto hx hb 138 dX6_cutRow_117 (by decide) ?_
          exact sw_Vret X hr dX6_cutRow_138 h
        · skip
          refine ifc h (fun hc1_4 h => ?_) (fun hc1_4 h => ?_)
          · refine sw_tableIn hx hb (off := 119) 120 dX6_cutRow_1 (by rw [hc1_4]; decide) (by rw [hc1_4]; decide) (by rw [hc1_4]; decide +kernel) (by decide) ?_
            refine sw_aload_n hx hb dX6_cutRow_120 0 rfl rfl ?_
            refine sw_iload_n hx hb dX6_cutRow_121 2 rfl rfl ?_
            refine sw_iload_n hx hb dX6_cutRow_122 3 rfl rfl ?_
            refine sw_callVV (C := RX6) (As := [.int x2, .int x3]) (rest := []) X mi_0 (ce_6 (rfl : kd 0 = 6)) rfl rfl (fun _ hz => okX6_cutPairs l X.2.2.2.2.2.2.1 x2 x3 M _ hz) (cwX6_177 X.2.2.2.2.1 ⟨Nat.le_of_ble_eq_true rfl, Nat.le_of_ble_eq_true rfl⟩)  rfl rfl (Nat.le_of_ble_eq_true rfl) dX6_cutRow_123 ⟨Nat.le_of_ble_eq_true rfl, Nat.le_of_ble_eq_true rfl⟩ h (fun M_14 _ h => ?_)
            refine sw_goto hx hb 138 dX6_cutRow_126 (by decide) ?_
            exact sw_Vret X hr dX6_cutRow_138 h
          · skip
            refine sw_tableOut hx hb 129 dX6_cutRow_1 (by have q0 := lv_neT hc1_0 (show (4 : Int32).toInt = 4 from rfl); have q1 := lv_neT hc1_1 (show (5 : Int32).toInt = 5 from rfl); have q2 := lv_neT hc1_2 (show (6 : Int32).toInt = 6 from rfl); have q3 := lv_neT hc1_3 (show (7 : Int32).toInt = 7 from rfl); have q4 := lv_neT hc1_4 (show (8 : Int32).toInt = 8 from rfl); omega) (by decide) ?_
            refine sw_aload_n hx hb dX6_cutRow_129 0 rfl rfl ?_
            refine sw_get X inG6 mi_0 (ce_6 (rfl : kd 0 = 6)) rfl 2 (by decide) (goodW wd28) rfl dX6_cutRow_130 ?_
            refine sw_iload_n hx hb dX6_cutRow_133 2 rfl rfl ?_
            refine sw_iload_n hx hb dX6_cutRow_134 3 rfl rfl ?_
            refine sw_callVV (C := RX2) (As := [.int x2, .int x3]) (rest := []) X mi_5 (ce_2 (rfl : kd 5 = 2)) rfl rfl (fun _ hz => okX2_add l X.2.2.2.2.2.2.1 x2 x3 M _ hz) (cwX6_151 X.2.2.2.2.1 ⟨Nat.le_of_ble_eq_true rfl, Nat.le_of_ble_eq_true rfl⟩)  rfl rfl (Nat.le_of_ble_eq_true rfl) dX6_cutRow_135 ⟨Nat.le_of_ble_eq_true rfl, Nat.le_of_ble_eq_true rfl⟩ h (fun M_16 _ h => ?_)
            exact sw_Vret X hr dX6_cutRow_138 h

end
theorem okX6_cutRow (l : Launch) {D : va_G} {cy : Nat → ClassId} {ad : Nat → Nat} (hD : ∀ M : Mem, va_D (AA ad iX) (wl cy ad iX M)) (x1 : Int32) (x2 : Int32) (x3 : Int32) (x4 : Int32) (x5 : Int32) (M : Mem) (z : Mem) (h : fX6_cutRow x1 x2 x3 x4 x5 M = some z) : CTV l yX6_cutRow (wsG yX6_cutRow cX6_cutRow 7 none) rm_X6_cutRow D cy ad iX [.ref (ad 0), .int x1, .int x2, .int x3, .int x4, .int x5] M z :=
  met_of (cc := cX6_cutRow) (maxL := 7) (ret := none) (own := RX6) (by decide) rfl rfl hD ndX (Nat.le_of_ble_eq_true rfl) (fun p e s m below meth c X hr => wX6_cutRow_E X hr x1 x2 x3 x4 x5 M h)
abbrev QX6_cutRows (below : List Frame) (D : va_G) (cy : Nat → ClassId) (ad : Nat → Nat) (args : Array Value) (s : State) (z : Mem) : State → Prop := MQ below (va_Qv (fun u => u = z) (BB D cy ad iX) (AA ad iX)) args s 0 0 (AA ad iX)
section
variable {p : Program} {l : Launch} {e : Env} {s : State} {m : MethodId} {args : Array Value} {below : List Frame} {meth : Method} {c : Code} {D : va_G} {cy : Nat → ClassId} {ad : Nat → Nat} {z : Mem}
set_option maxHeartbeats 4000000 in
set_option maxRecDepth 100000 in
theorem wX6_cutRows_L89 (X : CX p s m args meth c D cy ad iX cX6_cutRows 7 (wsG yX6_cutRows cX6_cutRows 7 none) RX6) (hr : meth.sig.returnType = none) (k3 : Int32 → Int32 → Int32 → Int32 → Mem → Option (Mem)) (hk3 : ∀ (x1 : Int32) (x2 : Int32) (x3 : Int32) (x4 : Int32) (M : Mem), k3 x1 x2 x3 x4 M = some z → SW p l e rm_X6_cutRows s m args below meth c 0 0 (QX6_cutRows below D cy ad args s z) 7 (PH D cy ad iX s M) 3 [(0, .ref (ad 0)), (1, .int x1), (2, .int x2), (3, .int x3), (4, .int x4)] []) (x1 : Int32) (x2 : Int32) (x3 : Int32) (x4 : Int32) (x6 : Int32) (M : Mem) (h : fX6_cutRows_L89 k3 x1 x2 x3 x4 x6 M = some z) : SW p l e rm_X6_cutRows s m args below meth c 0 0 (QX6_cutRows below D cy ad args s z) 7 (PH D cy ad iX s M) 89 [(0, .ref (ad 0)), (1, .int x1), (2, .int x2), (3, .int x3), (4, .int x4), (6, .int x6)] [] := by
  have hx := X.1
  have hb := X.2.1
  unfold fX6_cutRows_L89 at h
  refine sw_iload hx hb dX6_cutRows_89 4 rfl ?_
  refine sw_iload hx hb dX6_cutRows_91 5 rfl ?_
  refine sw_mmax X (goodW wd261) (goodW wd109) (goodW wd106) (goodW wd110) (Nat.le_of_ble_eq_true rfl) (Nat.le_of_ble_eq_true rfl) (Nat.le_of_ble_eq_true rfl) (Nat.le_of_ble_eq_true rfl) dX6_cutRows_93 ?_
  refine sw_iconst hx hb 1 dX6_cutRows_96 (by decide) ?_
  refine sw_iadd hx hb dX6_cutRows_97 ?_
  refine sw_istoreN hx hb (fun x4_7 => [(4, .int x4_7), (0, .ref (ad 0)), (1, .int x1), (2, .int x2), (3, .int x3), (6, .int x6)]) dX6_cutRows_98 (by decide) (fun _ => rfl) h (fun x4_7 h => ?_)
  refine sw_goto hx hb 3 dX6_cutRows_100 (by decide) ?_
  refine sw_sub (lv1 := [(0, .ref (ad 0)), (1, .int x1), (2, .int x2), (3, .int x3), (4, .int x4_7)]) [1, 2, 3, 4, 0] rfl ?_
  exact hk3 x1 x2 x3 x4_7 M h

set_option maxHeartbeats 4000000 in
set_option maxRecDepth 100000 in
theorem wX6_cutRows_L64 (X : CX p s m args meth c D cy ad iX cX6_cutRows 7 (wsG yX6_cutRows cX6_cutRows 7 none) RX6) (hr : meth.sig.returnType = none) (k3 : Int32 → Int32 → Int32 → Int32 → Mem → Option (Mem)) (hk3 : ∀ (x1 : Int32) (x2 : Int32) (x3 : Int32) (x4 : Int32) (M : Mem), k3 x1 x2 x3 x4 M = some z → SW p l e rm_X6_cutRows s m args below meth c 0 0 (QX6_cutRows below D cy ad args s z) 7 (PH D cy ad iX s M) 3 [(0, .ref (ad 0)), (1, .int x1), (2, .int x2), (3, .int x3), (4, .int x4)] []) (x1 : Int32) (x2 : Int32) (x3 : Int32) (x4 : Int32) (y0 : Int32) (M : Mem) (h : fX6_cutRows_L64 k3 x1 x2 x3 x4 y0 M = some z) : SW p l e rm_X6_cutRows s m args below meth c 0 0 (QX6_cutRows below D cy ad args s z) 7 (PH D cy ad iX s M) 64 [(0, .ref (ad 0)), (1, .int x1), (2, .int x2), (3, .int x3), (4, .int x4)] [.int y0, .ref (ad 0)] := by
  have hx := X.1
  have hb := X.2.1
  unfold fX6_cutRows_L64 at h
  refine sw_iload hx hb dX6_cutRows_64 4 rfl ?_
  refine sw_callVI (C := RX6) (As := [.int y0, .int x4]) (rest := []) X mi_0 (ce_6 (rfl : kd 0 = 6)) rfl rfl (fun _ hz => okX6_endOfKind l X.2.2.2.2.2.2.1 y0 x4 M _ hz) (cwX6_134 X.2.2.2.2.1 ⟨Nat.le_of_ble_eq_true rfl, Nat.le_of_ble_eq_true rfl⟩)  rfl rfl (Nat.le_of_ble_eq_true rfl) dX6_cutRows_66 ⟨Nat.le_of_ble_eq_true rfl, Nat.le_of_ble_eq_true rfl⟩ h (fun v_6 M_5 _ h => ?_)
  refine sw_istore hx hb [(6, .int v_6), (0, .ref (ad 0)), (1, .int x1), (2, .int x2), (3, .int x3), (4, .int x4)] dX6_cutRows_69 (by decide) rfl ?_
  refine sw_iload hx hb dX6_cutRows_71 0 rfl ?_
  refine sw_iload hx hb dX6_cutRows_73 5 rfl ?_
  refine sw_icmp_le hx hb 89 dX6_cutRows_75 (by decide) h (fun h => ?_) (fun h => ?_)
  · refine sw_sub (lv1 := [(0, .ref (ad 0)), (1, .int x1), (2, .int x2), (3, .int x3), (4, .int x4), (6, .int v_6)]) [1, 2, 3, 4, 5, 0] rfl ?_
    exact wX6_cutRows_L89 X hr k3 hk3 x1 x2 x3 x4 v_6 M_5 h
  · refine sw_aload_n hx hb dX6_cutRows_78 1 rfl rfl ?_
    refine sw_iload_n hx hb dX6_cutRows_79 2 rfl rfl ?_
    refine sw_iload hx hb dX6_cutRows_80 5 rfl ?_
    refine sw_iload hx hb dX6_cutRows_82 0 rfl ?_
    refine sw_iload_n hx hb dX6_cutRows_84 3 rfl rfl ?_
    refine sw_iload_n hx hb dX6_cutRows_85 4 rfl rfl ?_
    refine sw_callVV (C := RX6) (As := [.int x1, .int x4, .int v_6, .int x2, .int x3]) (rest := []) X mi_0 (ce_6 (rfl : kd 0 = 6)) rfl rfl (fun _ hz => okX6_cutRow l X.2.2.2.2.2.2.1 x1 x4 v_6 x2 x3 M_5 _ hz) (cwX6_163 X.2.2.2.2.1 ⟨Nat.le_of_ble_eq_true rfl, Nat.le_of_ble_eq_true rfl⟩)  rfl rfl (Nat.le_of_ble_eq_true rfl) dX6_cutRows_86 ⟨Nat.le_of_ble_eq_true rfl, Nat.le_of_ble_eq_true rfl⟩ h (fun M_8 _ h => ?_)
    refine sw_sub (lv1 := [(0, .ref (ad 0)), (1, .int x1), (2, .int x2), (3, .int x3), (4, .int x4), (6, .int v_6)]) [1, 2, 3, 4, 5, 0] rfl ?_
    exact wX6_cutRows_L89 X hr k3 hk3 x1 x2 x3 x4 v_6 M_8 h

set_option maxHeartbeats 4000000 in
set_option maxRecDepth 100000 in
theorem wX6_cutRows_L51 (X : CX p s m args meth c D cy ad iX cX6_cutRows 7 (wsG yX6_cutRows cX6_cutRows 7 none) RX6) (hr : meth.sig.returnType = none) (k3 : Int32 → Int32 → Int32 → Int32 → Mem → Option (Mem)) (hk3 : ∀ (x1 : Int32) (x2 : Int32) (x3 : Int32) (x4 : Int32) (M : Mem), k3 x1 x2 x3 x4 M = some z → SW p l e rm_X6_cutRows s m args below meth c 0 0 (QX6_cutRows below D cy ad args s z) 7 (PH D cy ad iX s M) 3 [(0, .ref (ad 0)), (1, .int x1), (2, .int x2), (3, .int x3), (4, .int x4)] []) (x1 : Int32) (x2 : Int32) (x3 : Int32) (x4 : Int32) (y0 : Int32) (M : Mem) (h : fX6_cutRows_L51 k3 x1 x2 x3 x4 y0 M = some z) : SW p l e rm_X6_cutRows s m args below meth c 0 0 (QX6_cutRows below D cy ad args s z) 7 (PH D cy ad iX s M) 51 [(0, .ref (ad 0)), (1, .int x1), (2, .int x2), (3, .int x3), (4, .int x4)] [.int y0] := by
  have hx := X.1
  have hb := X.2.1
  unfold fX6_cutRows_L51 at h
  refine sw_istore hx hb [(5, .int y0), (0, .ref (ad 0)), (1, .int x1), (2, .int x2), (3, .int x3), (4, .int x4)] dX6_cutRows_51 (by decide) rfl ?_
  refine sw_aload_n hx hb dX6_cutRows_53 1 rfl rfl ?_
  refine sw_iload hx hb dX6_cutRows_54 0 rfl ?_
  refine sw_if_eq hx hb 63 dX6_cutRows_56 (by decide) h (fun h => ?_) (fun h => ?_)
  · refine sw_iload_n hx hb dX6_cutRows_63 2 rfl rfl ?_
    refine sw_sub (lv1 := [(0, .ref (ad 0)), (1, .int x1), (2, .int x2), (3, .int x3), (4, .int x4)]) [1, 2, 3, 4, 5] rfl ?_
    exact wX6_cutRows_L64 X hr k3 hk3 x1 x2 x3 x4 x1 M h
  · refine sw_iconst hx hb 1 dX6_cutRows_59 (by decide) ?_
    refine sw_goto hx hb 64 dX6_cutRows_60 (by decide) ?_
    refine sw_sub (lv1 := [(0, .ref (ad 0)), (1, .int x1), (2, .int x2), (3, .int x3), (4, .int x4)]) [1, 2, 3, 4, 5] rfl ?_
    exact wX6_cutRows_L64 X hr k3 hk3 x1 x2 x3 x4 1 M h

set_option maxHeartbeats 4000000 in
set_option maxRecDepth 100000 in
theorem wX6_cutRows_L50 (X : CX p s m args meth c D cy ad iX cX6_cutRows 7 (wsG yX6_cutRows cX6_cutRows 7 none) RX6) (hr : meth.sig.returnType = none) (k3 : Int32 → Int32 → Int32 → Int32 → Mem → Option (Mem)) (hk3 : ∀ (x1 : Int32) (x2 : Int32) (x3 : Int32) (x4 : Int32) (M : Mem), k3 x1 x2 x3 x4 M = some z → SW p l e rm_X6_cutRows s m args below meth c 0 0 (QX6_cutRows below D cy ad args s z) 7 (PH D cy ad iX s M) 3 [(0, .ref (ad 0)), (1, .int x1), (2, .int x2), (3, .int x3), (4, .int x4)] []) (x1 : Int32) (x2 : Int32) (x3 : Int32) (x4 : Int32) (M : Mem) (h : fX6_cutRows_L50 k3 x1 x2 x3 x4 M = some z) : SW p l e rm_X6_cutRows s m args below meth c 0 0 (QX6_cutRows below D cy ad args s z) 7 (PH D cy ad iX s M) 50 [(0, .ref (ad 0)), (1, .int x1), (2, .int x2), (3, .int x3), (4, .int x4)] [] := by
  have hx := X.1
  have hb := X.2.1
  unfold fX6_cutRows_L50 at h
  refine sw_iconst hx hb 0 dX6_cutRows_50 (by decide) ?_
  refine sw_sub (lv1 := [(0, .ref (ad 0)), (1, .int x1), (2, .int x2), (3, .int x3), (4, .int x4)]) [0, 1, 2, 3, 4] rfl ?_
  exact wX6_cutRows_L51 X hr k3 hk3 x1 x2 x3 x4 0 M h

set_option maxHeartbeats 4000000 in
set_option maxRecDepth 100000 in
theorem wX6_cutRows_H3 (X : CX p s m args meth c D cy ad iX cX6_cutRows 7 (wsG yX6_cutRows cX6_cutRows 7 none) RX6) (hr : meth.sig.returnType = none) : ∀ (n : Nat) (x1 : Int32) (x2 : Int32) (x3 : Int32) (x4 : Int32) (M : Mem), fX6_cutRows_H3 n x1 x2 x3 x4 M = some z → SW p l e rm_X6_cutRows s m args below meth c 0 0 (QX6_cutRows below D cy ad args s z) 7 (PH D cy ad iX s M) 3 [(0, .ref (ad 0)), (1, .int x1), (2, .int x2), (3, .int x3), (4, .int x4)] [] := by
  have hx := X.1
  have hb := X.2.1
  intro n
  induction n with
  | zero =>
    intro x1 x2 x3 x4 M h
    have h : (none : Option (Mem)) = some z := h
    cases h
  | succ n ih =>
    intro x1 x2 x3 x4 M h
    rw [fX6_cutRows_H3] at h
    refine sw_iload hx hb dX6_cutRows_3 4 rfl ?_
    refine sw_aload_n hx hb dX6_cutRows_5 0 rfl rfl ?_
    refine sw_get X inG6 mi_0 (ce_6 (rfl : kd 0 = 6)) rfl 1 (by decide) (goodW wd23) rfl dX6_cutRows_6 ?_
    refine sw_callVI (C := RX5) (As := []) (rest := [.int x4]) X mi_3 (ce_5 (rfl : kd 3 = 5)) rfl rfl (fun _ hz => okX5_size l X.2.2.2.2.2.2.1 3 (rfl : kd 3 = 5) M _ hz) (cwX6_51 X.2.2.2.2.1 ⟨Nat.le_of_ble_eq_true rfl, Nat.le_of_ble_eq_true rfl⟩)  rfl rfl (Nat.le_of_ble_eq_true rfl) dX6_cutRows_9 ⟨Nat.le_of_ble_eq_true rfl, Nat.le_of_ble_eq_true rfl⟩ h (fun v_2 M_1 _ h => ?_)
    refine sw_icmp_ge hx hb 103 dX6_cutRows_12 (by decide) h (fun h => ?_) (fun h => ?_)
    · exact sw_Vret X hr dX6_cutRows_103 h
    · refine sw_aload_n hx hb dX6_cutRows_15 0 rfl rfl ?_
      refine sw_get X inG6 mi_0 (ce_6 (rfl : kd 0 = 6)) rfl 2 (by decide) (goodW wd28) rfl dX6_cutRows_16 ?_
      refine sw_callVI (C := RX2) (As := []) (rest := []) X mi_5 (ce_2 (rfl : kd 5 = 2)) rfl rfl (fun _ hz => okX2_isOver l X.2.2.2.2.2.2.1 M_1 _ hz) (cwX6_105 X.2.2.2.2.1 ⟨Nat.le_of_ble_eq_true rfl, Nat.le_of_ble_eq_true rfl⟩)  rfl rfl (Nat.le_of_ble_eq_true rfl) dX6_cutRows_19 ⟨Nat.le_of_ble_eq_true rfl, Nat.le_of_ble_eq_true rfl⟩ h (fun v_4 M_3 _ h => ?_)
      refine sw_if_ne hx hb 103 dX6_cutRows_22 (by decide) h (fun h => ?_) (fun h => ?_)
      · exact sw_Vret X hr dX6_cutRows_103 h
      · refine sw_iload_n hx hb dX6_cutRows_25 1 rfl rfl ?_
        refine sw_iconst hx hb 2 dX6_cutRows_26 (by decide) ?_
        refine sw_icmp_ne hx hb 50 dX6_cutRows_27 (by decide) h (fun h => ?_) (fun h => ?_)
        · refine sw_sub (lv1 := [(0, .ref (ad 0)), (1, .int x1), (2, .int x2), (3, .int x3), (4, .int x4)]) [0, 1, 2, 3, 4] rfl ?_
          exact wX6_cutRows_L50 X hr (fX6_cutRows_H3 n) ih x1 x2 x3 x4 M_3 h
        · refine sw_aload_n hx hb dX6_cutRows_30 0 rfl rfl ?_
          refine sw_get X inG6 mi_0 (ce_6 (rfl : kd 0 = 6)) rfl 6 (by decide) (goodW wd223) rfl dX6_cutRows_31 ?_
          refine sw_if_eq hx hb 50 dX6_cutRows_34 (by decide) h (fun h => ?_) (fun h => ?_)
          · refine sw_sub (lv1 := [(0, .ref (ad 0)), (1, .int x1), (2, .int x2), (3, .int x3), (4, .int x4)]) [0, 1, 2, 3, 4] rfl ?_
            exact wX6_cutRows_L50 X hr (fX6_cutRows_H3 n) ih x1 x2 x3 x4 M_3 h
          · refine sw_aload_n hx hb dX6_cutRows_37 0 rfl rfl ?_
            refine sw_iload hx hb dX6_cutRows_38 4 rfl ?_
            refine sw_callVI (C := RX6) (As := [.int x4]) (rest := []) X mi_0 (ce_6 (rfl : kd 0 = 6)) rfl rfl (fun _ hz => okX6_isLinkAt l X.2.2.2.2.2.2.1 x4 M_3 _ hz) (cwX6_160 X.2.2.2.2.1 ⟨Nat.le_of_ble_eq_true rfl, Nat.le_of_ble_eq_true rfl⟩)  rfl rfl (Nat.le_of_ble_eq_true rfl) dX6_cutRows_40 ⟨Nat.le_of_ble_eq_true rfl, Nat.le_of_ble_eq_true rfl⟩ h (fun v_11 M_10 _ h => ?_)
            refine sw_if_eq hx hb 50 dX6_cutRows_43 (by decide) h (fun h => ?_) (fun h => ?_)
            · refine sw_sub (lv1 := [(0, .ref (ad 0)), (1, .int x1), (2, .int x2), (3, .int x3), (4, .int x4)]) [0, 1, 2, 3, 4] rfl ?_
              exact wX6_cutRows_L50 X hr (fX6_cutRows_H3 n) ih x1 x2 x3 x4 M_10 h
            · refine sw_iconst hx hb 1 dX6_cutRows_46 (by decide) ?_
              refine sw_goto hx hb 51 dX6_cutRows_47 (by decide) ?_
              refine sw_sub (lv1 := [(0, .ref (ad 0)), (1, .int x1), (2, .int x2), (3, .int x3), (4, .int x4)]) [0, 1, 2, 3, 4] rfl ?_
              exact wX6_cutRows_L51 X hr (fX6_cutRows_H3 n) ih x1 x2 x3 x4 1 M_10 h

set_option maxHeartbeats 4000000 in
set_option maxRecDepth 100000 in
theorem wX6_cutRows_E (X : CX p s m args meth c D cy ad iX cX6_cutRows 7 (wsG yX6_cutRows cX6_cutRows 7 none) RX6) (hr : meth.sig.returnType = none) (x1 : Int32) (x2 : Int32) (x3 : Int32) (M : Mem) (h : fX6_cutRows x1 x2 x3 M = some z) : SW p l e rm_X6_cutRows s m args below meth c 0 0 (QX6_cutRows below D cy ad args s z) 7 (PH D cy ad iX s M) 0 [(0, .ref (ad 0)), (1, .int x1), (2, .int x2), (3, .int x3)] [] := by
  have hx := X.1
  have hb := X.2.1
  unfold fX6_cutRows at h
  refine sw_iconst hx hb 0 dX6_cutRows_0 (by decide) ?_
  refine sw_istore hx hb [(4, .int 0), (0, .ref (ad 0)), (1, .int x1), (2, .int x2), (3, .int x3)] dX6_cutRows_1 (by decide) rfl ?_
  refine sw_sub (lv1 := [(0, .ref (ad 0)), (1, .int x1), (2, .int x2), (3, .int x3), (4, .int 0)]) [1, 2, 3, 4, 0] rfl ?_
  exact wX6_cutRows_H3 X hr FU x1 x2 x3 0 M h

end
theorem okX6_cutRows (l : Launch) {D : va_G} {cy : Nat → ClassId} {ad : Nat → Nat} (hD : ∀ M : Mem, va_D (AA ad iX) (wl cy ad iX M)) (x1 : Int32) (x2 : Int32) (x3 : Int32) (M : Mem) (z : Mem) (h : fX6_cutRows x1 x2 x3 M = some z) : CTV l yX6_cutRows (wsG yX6_cutRows cX6_cutRows 7 none) rm_X6_cutRows D cy ad iX [.ref (ad 0), .int x1, .int x2, .int x3] M z :=
  met_of (cc := cX6_cutRows) (maxL := 7) (ret := none) (own := RX6) (by decide) rfl rfl hD ndX (Nat.le_of_ble_eq_true rfl) (fun p e s m below meth c X hr => wX6_cutRows_E X hr x1 x2 x3 M h)
abbrev QX2_size (below : List Frame) (D : va_G) (cy : Nat → ClassId) (ad : Nat → Nat) (args : Array Value) (s : State) (z : Int32 × Mem) : State → Prop := MQ below (va_Qi (fun r u => r = z.1 ∧ u = z.2) (BB D cy ad iX) (AA ad iX)) args s 0 0 (AA ad iX)
section
variable {p : Program} {l : Launch} {e : Env} {s : State} {m : MethodId} {args : Array Value} {below : List Frame} {meth : Method} {c : Code} {D : va_G} {cy : Nat → ClassId} {ad : Nat → Nat} {z : Int32 × Mem}
set_option maxHeartbeats 4000000 in
set_option maxRecDepth 100000 in
theorem wX2_size_E (X : CX p s m args meth c D cy ad iX cX2_size 1 (wsG yX2_size cX2_size 1 (some .int)) RX2) (hr : meth.sig.returnType = (some .int)) (M : Mem) (h : fX2_size M = some z) : SW p l e rm_X2_size s m args below meth c 0 0 (QX2_size below D cy ad args s z) 1 (PH D cy ad iX s M) 0 [(0, .ref (ad 5))] [] := by
  have hx := X.1
  have hb := X.2.1
  unfold fX2_size at h
  refine sw_aload_n hx hb dX2_size_0 0 rfl rfl ?_
  refine sw_get X inG2 mi_5 (ce_2 (rfl : kd 5 = 2)) rfl 3 (by decide) (goodW wd21) rfl dX2_size_1 ?_
  exact sw_Iret X hr dX2_size_4 h

end
theorem okX2_size (l : Launch) {D : va_G} {cy : Nat → ClassId} {ad : Nat → Nat} (hD : ∀ M : Mem, va_D (AA ad iX) (wl cy ad iX M)) (M : Mem) (z : Int32 × Mem) (h : fX2_size M = some z) : CTI l yX2_size (wsG yX2_size cX2_size 1 (some .int)) rm_X2_size D cy ad iX [.ref (ad 5)] M z :=
  met_of (cc := cX2_size) (maxL := 1) (ret := (some .int)) (own := RX2) (by decide) rfl rfl hD ndX (Nat.le_of_ble_eq_true rfl) (fun p e s m below meth c X hr => wX2_size_E X hr M h)
abbrev QX6_tokens (below : List Frame) (D : va_G) (cy : Nat → ClassId) (ad : Nat → Nat) (args : Array Value) (s : State) (z : Int32 × Mem) : State → Prop := MQ below (va_Qi (fun r u => r = z.1 ∧ u = z.2) (BB D cy ad iX) (AA ad iX)) args s 0 0 (AA ad iX)
section
variable {p : Program} {l : Launch} {e : Env} {s : State} {m : MethodId} {args : Array Value} {below : List Frame} {meth : Method} {c : Code} {D : va_G} {cy : Nat → ClassId} {ad : Nat → Nat} {z : Int32 × Mem}
set_option maxHeartbeats 4000000 in
set_option maxRecDepth 100000 in
theorem wX6_tokens_L102 (X : CX p s m args meth c D cy ad iX cX6_tokens 5 (wsG yX6_tokens cX6_tokens 5 (some .int)) RX6) (hr : meth.sig.returnType = (some .int)) (M : Mem) (h : fX6_tokens_L102 M = some z) : SW p l e rm_X6_tokens s m args below meth c 0 0 (QX6_tokens below D cy ad args s z) 5 (PH D cy ad iX s M) 102 [(0, .ref (ad 0))] [] := by
  have hx := X.1
  have hb := X.2.1
  unfold fX6_tokens_L102 at h
  refine sw_aload_n hx hb dX6_tokens_102 0 rfl rfl ?_
  refine sw_get X inG6 mi_0 (ce_6 (rfl : kd 0 = 6)) rfl 2 (by decide) (goodW wd28) rfl dX6_tokens_103 ?_
  refine sw_callVI (C := RX2) (As := []) (rest := []) X mi_5 (ce_2 (rfl : kd 5 = 2)) rfl rfl (fun _ hz => okX2_isOver l X.2.2.2.2.2.2.1 M _ hz) (cwX6_105 X.2.2.2.2.1 ⟨Nat.le_of_ble_eq_true rfl, Nat.le_of_ble_eq_true rfl⟩)  rfl rfl (Nat.le_of_ble_eq_true rfl) dX6_tokens_106 ⟨Nat.le_of_ble_eq_true rfl, Nat.le_of_ble_eq_true rfl⟩ h (fun v_6 M_5 _ h => ?_)
  refine sw_if_eq hx hb 122 dX6_tokens_109 (by decide) h (fun h => ?_) (fun h => ?_)
  · refine sw_aload_n hx hb dX6_tokens_122 0 rfl rfl ?_
    refine sw_get X inG6 mi_0 (ce_6 (rfl : kd 0 = 6)) rfl 2 (by decide) (goodW wd28) rfl dX6_tokens_123 ?_
    refine sw_callVI (C := RX2) (As := []) (rest := []) X mi_5 (ce_2 (rfl : kd 5 = 2)) rfl rfl (fun _ hz => okX2_size l X.2.2.2.2.2.2.1 M_5 _ hz) (cwX6_109 X.2.2.2.2.1 ⟨Nat.le_of_ble_eq_true rfl, Nat.le_of_ble_eq_true rfl⟩)  rfl rfl (Nat.le_of_ble_eq_true rfl) dX6_tokens_126 ⟨Nat.le_of_ble_eq_true rfl, Nat.le_of_ble_eq_true rfl⟩ h (fun v_8 M_7 _ h => ?_)
    exact sw_Iret X hr dX6_tokens_129 h
  · refine sw_aload_n hx hb dX6_tokens_112 0 rfl rfl ?_
    refine sw_get X inG6 mi_0 (ce_6 (rfl : kd 0 = 6)) rfl 2 (by decide) (goodW wd28) rfl dX6_tokens_113 ?_
    refine sw_callVV (C := RX2) (As := []) (rest := []) X mi_5 (ce_2 (rfl : kd 5 = 2)) rfl rfl (fun _ hz => okX2_clear l X.2.2.2.2.2.2.1 M_5 _ hz) (cwX6_63 X.2.2.2.2.1 ⟨Nat.le_of_ble_eq_true rfl, Nat.le_of_ble_eq_true rfl⟩)  rfl rfl (Nat.le_of_ble_eq_true rfl) dX6_tokens_116 ⟨Nat.le_of_ble_eq_true rfl, Nat.le_of_ble_eq_true rfl⟩ h (fun M_9 _ h => ?_)
    refine sw_bipush hx hb (-3) dX6_tokens_119 (by decide) ?_
    exact sw_Iret X hr dX6_tokens_121 h

set_option maxHeartbeats 4000000 in
set_option maxRecDepth 100000 in
theorem wX6_tokens_L80 (X : CX p s m args meth c D cy ad iX cX6_tokens 5 (wsG yX6_tokens cX6_tokens 5 (some .int)) RX6) (hr : meth.sig.returnType = (some .int)) (x1 : Int32) (x2 : Int32) (x3 : Int32) (y0 : Int32) (M : Mem) (h : fX6_tokens_L80 x1 x2 x3 y0 M = some z) : SW p l e rm_X6_tokens s m args below meth c 0 0 (QX6_tokens below D cy ad args s z) 5 (PH D cy ad iX s M) 80 [(0, .ref (ad 0)), (1, .int x1), (2, .int x2), (3, .int x3)] [.int y0, .ref (ad 5)] := by
  have hx := X.1
  have hb := X.2.1
  unfold fX6_tokens_L80 at h
  refine sw_callVV (C := RX2) (As := [.int y0]) (rest := []) X mi_5 (ce_2 (rfl : kd 5 = 2)) rfl rfl (fun _ hz => okX2_begin l X.2.2.2.2.2.2.1 y0 M _ hz) (cwX6_94 X.2.2.2.2.1 ⟨Nat.le_of_ble_eq_true rfl, Nat.le_of_ble_eq_true rfl⟩)  rfl rfl (Nat.le_of_ble_eq_true rfl) dX6_tokens_80 ⟨Nat.le_of_ble_eq_true rfl, Nat.le_of_ble_eq_true rfl⟩ h (fun M_1 _ h => ?_)
  refine sw_iload_n hx hb dX6_tokens_83 1 rfl rfl ?_
  refine sw_iconst hx hb 3 dX6_tokens_84 (by decide) ?_
  refine sw_icmp_ne hx hb 95 dX6_tokens_85 (by decide) h (fun h => ?_) (fun h => ?_)
  · refine sw_aload_n hx hb dX6_tokens_95 0 rfl rfl ?_
    refine sw_iload_n hx hb dX6_tokens_96 1 rfl rfl ?_
    refine sw_iload_n hx hb dX6_tokens_97 2 rfl rfl ?_
    refine sw_iload_n hx hb dX6_tokens_98 3 rfl rfl ?_
    refine sw_callVV (C := RX6) (As := [.int x1, .int x2, .int x3]) (rest := []) X mi_0 (ce_6 (rfl : kd 0 = 6)) rfl rfl (fun _ hz => okX6_cutRows l X.2.2.2.2.2.2.1 x1 x2 x3 M_1 _ hz) (cwX6_101 X.2.2.2.2.1 ⟨Nat.le_of_ble_eq_true rfl, Nat.le_of_ble_eq_true rfl⟩)  rfl rfl (Nat.le_of_ble_eq_true rfl) dX6_tokens_99 ⟨Nat.le_of_ble_eq_true rfl, Nat.le_of_ble_eq_true rfl⟩ h (fun M_3 _ h => ?_)
    refine sw_sub (lv1 := [(0, .ref (ad 0))]) [0] rfl ?_
    exact wX6_tokens_L102 X hr M_3 h
  · refine sw_aload_n hx hb dX6_tokens_88 0 rfl rfl ?_
    refine sw_callVV (C := RX6) (As := []) (rest := []) X mi_0 (ce_6 (rfl : kd 0 = 6)) rfl rfl (fun _ hz => okX6_cutMatches l X.2.2.2.2.2.2.1 M_1 _ hz) (cwX6_98 X.2.2.2.2.1 ⟨Nat.le_of_ble_eq_true rfl, Nat.le_of_ble_eq_true rfl⟩)  rfl rfl (Nat.le_of_ble_eq_true rfl) dX6_tokens_89 ⟨Nat.le_of_ble_eq_true rfl, Nat.le_of_ble_eq_true rfl⟩ h (fun M_11 _ h => ?_)
    refine sw_goto hx hb 102 dX6_tokens_92 (by decide) ?_
    refine sw_sub (lv1 := [(0, .ref (ad 0))]) [0] rfl ?_
    exact wX6_tokens_L102 X hr M_11 h

set_option maxHeartbeats 4000000 in
set_option maxRecDepth 100000 in
theorem wX6_tokens_L75 (X : CX p s m args meth c D cy ad iX cX6_tokens 5 (wsG yX6_tokens cX6_tokens 5 (some .int)) RX6) (hr : meth.sig.returnType = (some .int)) (x1 : Int32) (x2 : Int32) (x3 : Int32) (M : Mem) (h : fX6_tokens_L75 x1 x2 x3 M = some z) : SW p l e rm_X6_tokens s m args below meth c 0 0 (QX6_tokens below D cy ad args s z) 5 (PH D cy ad iX s M) 75 [(0, .ref (ad 0)), (1, .int x1), (2, .int x2), (3, .int x3)] [.ref (ad 5)] := by
  have hx := X.1
  have hb := X.2.1
  unfold fX6_tokens_L75 at h
  refine sw_iconst hx hb 1 dX6_tokens_75 (by decide) ?_
  refine sw_goto hx hb 80 dX6_tokens_76 (by decide) ?_
  refine sw_sub (lv1 := [(0, .ref (ad 0)), (1, .int x1), (2, .int x2), (3, .int x3)]) [0, 1, 2, 3] rfl ?_
  exact wX6_tokens_L80 X hr x1 x2 x3 1 M h

set_option maxHeartbeats 4000000 in
set_option maxRecDepth 100000 in
theorem wX6_tokens_L61 (X : CX p s m args meth c D cy ad iX cX6_tokens 5 (wsG yX6_tokens cX6_tokens 5 (some .int)) RX6) (hr : meth.sig.returnType = (some .int)) (x1 : Int32) (x2 : Int32) (x3 : Int32) (x4 : Int32) (M : Mem) (h : fX6_tokens_L61 x1 x2 x3 x4 M = some z) : SW p l e rm_X6_tokens s m args below meth c 0 0 (QX6_tokens below D cy ad args s z) 5 (PH D cy ad iX s M) 61 [(0, .ref (ad 0)), (1, .int x1), (2, .int x2), (3, .int x3), (4, .int x4)] [] := by
  have hx := X.1
  have hb := X.2.1
  unfold fX6_tokens_L61 at h
  refine sw_aload_n hx hb dX6_tokens_61 0 rfl rfl ?_
  refine sw_get X inG6 mi_0 (ce_6 (rfl : kd 0 = 6)) rfl 2 (by decide) (goodW wd28) rfl dX6_tokens_62 ?_
  refine sw_iload hx hb dX6_tokens_65 4 rfl ?_
  refine sw_if_ne hx hb 75 dX6_tokens_67 (by decide) h (fun h => ?_) (fun h => ?_)
  · refine sw_sub (lv1 := [(0, .ref (ad 0)), (1, .int x1), (2, .int x2), (3, .int x3)]) [0, 1, 2, 3] rfl ?_
    exact wX6_tokens_L75 X hr x1 x2 x3 M h
  · refine sw_iload_n hx hb dX6_tokens_70 1 rfl rfl ?_
    refine sw_iconst hx hb 4 dX6_tokens_71 (by decide) ?_
    refine sw_icmp_ne hx hb 79 dX6_tokens_72 (by decide) h (fun h => ?_) (fun h => ?_)
    · refine sw_iconst hx hb 0 dX6_tokens_79 (by decide) ?_
      refine sw_sub (lv1 := [(0, .ref (ad 0)), (1, .int x1), (2, .int x2), (3, .int x3)]) [0, 1, 2, 3] rfl ?_
      exact wX6_tokens_L80 X hr x1 x2 x3 0 M h
    · refine sw_sub (lv1 := [(0, .ref (ad 0)), (1, .int x1), (2, .int x2), (3, .int x3)]) [0, 1, 2, 3] rfl ?_
      exact wX6_tokens_L75 X hr x1 x2 x3 M h

set_option maxHeartbeats 4000000 in
set_option maxRecDepth 100000 in
theorem wX6_tokens_L28 (X : CX p s m args meth c D cy ad iX cX6_tokens 5 (wsG yX6_tokens cX6_tokens 5 (some .int)) RX6) (hr : meth.sig.returnType = (some .int)) (x1 : Int32) (x2 : Int32) (x3 : Int32) (y0 : Int32) (M : Mem) (h : fX6_tokens_L28 x1 x2 x3 y0 M = some z) : SW p l e rm_X6_tokens s m args below meth c 0 0 (QX6_tokens below D cy ad args s z) 5 (PH D cy ad iX s M) 28 [(0, .ref (ad 0)), (1, .int x1), (2, .int x2), (3, .int x3)] [.int y0] := by
  have hx := X.1
  have hb := X.2.1
  unfold fX6_tokens_L28 at h
  refine sw_istore hx hb [(4, .int y0), (0, .ref (ad 0)), (1, .int x1), (2, .int x2), (3, .int x3)] dX6_tokens_28 (by decide) rfl ?_
  refine sw_iload hx hb dX6_tokens_30 0 rfl ?_
  refine sw_if_eq hx hb 61 dX6_tokens_32 (by decide) h (fun h => ?_) (fun h => ?_)
  · refine sw_sub (lv1 := [(0, .ref (ad 0)), (1, .int x1), (2, .int x2), (3, .int x3), (4, .int y0)]) [1, 2, 3, 4, 0] rfl ?_
    exact wX6_tokens_L61 X hr x1 x2 x3 y0 M h
  · refine sw_iload_n hx hb dX6_tokens_35 3 rfl rfl ?_
    refine sw_iconst hx hb 1 dX6_tokens_36 (by decide) ?_
    refine sw_icmp_lt hx hb 59 dX6_tokens_37 (by decide) h (fun h => ?_) (fun h => ?_)
    · refine sw_iconst hx hb (-1) dX6_tokens_59 (by decide) ?_
      exact sw_Iret X hr dX6_tokens_60 h
    · refine sw_iload_n hx hb dX6_tokens_40 3 rfl rfl ?_
      refine sw_sipush hx hb 300 dX6_tokens_41 (by decide) ?_
      refine sw_icmp_gt hx hb 59 dX6_tokens_44 (by decide) h (fun h => ?_) (fun h => ?_)
      · refine sw_iconst hx hb (-1) dX6_tokens_59 (by decide) ?_
        exact sw_Iret X hr dX6_tokens_60 h
      · refine sw_iload_n hx hb dX6_tokens_47 4 rfl rfl ?_
        refine sw_iload_n hx hb dX6_tokens_48 3 rfl rfl ?_
        refine sw_icmp_lt hx hb 59 dX6_tokens_49 (by decide) h (fun h => ?_) (fun h => ?_)
        · refine sw_iconst hx hb (-1) dX6_tokens_59 (by decide) ?_
          exact sw_Iret X hr dX6_tokens_60 h
        · refine sw_iload_n hx hb dX6_tokens_52 4 rfl rfl ?_
          refine sw_sipush hx hb 300 dX6_tokens_53 (by decide) ?_
          refine sw_icmp_le hx hb 61 dX6_tokens_56 (by decide) h (fun h => ?_) (fun h => ?_)
          · refine sw_sub (lv1 := [(0, .ref (ad 0)), (1, .int x1), (2, .int x2), (3, .int x3), (4, .int y0)]) [1, 2, 3, 4, 0] rfl ?_
            exact wX6_tokens_L61 X hr x1 x2 x3 y0 M h
          · refine sw_iconst hx hb (-1) dX6_tokens_59 (by decide) ?_
            exact sw_Iret X hr dX6_tokens_60 h

set_option maxHeartbeats 4000000 in
set_option maxRecDepth 100000 in
theorem wX6_tokens_L23 (X : CX p s m args meth c D cy ad iX cX6_tokens 5 (wsG yX6_tokens cX6_tokens 5 (some .int)) RX6) (hr : meth.sig.returnType = (some .int)) (x1 : Int32) (x2 : Int32) (x3 : Int32) (M : Mem) (h : fX6_tokens_L23 x1 x2 x3 M = some z) : SW p l e rm_X6_tokens s m args below meth c 0 0 (QX6_tokens below D cy ad args s z) 5 (PH D cy ad iX s M) 23 [(0, .ref (ad 0)), (1, .int x1), (2, .int x2), (3, .int x3)] [] := by
  have hx := X.1
  have hb := X.2.1
  unfold fX6_tokens_L23 at h
  refine sw_iconst hx hb 1 dX6_tokens_23 (by decide) ?_
  refine sw_goto hx hb 28 dX6_tokens_24 (by decide) ?_
  refine sw_sub (lv1 := [(0, .ref (ad 0)), (1, .int x1), (2, .int x2), (3, .int x3)]) [0, 1, 2, 3] rfl ?_
  exact wX6_tokens_L28 X hr x1 x2 x3 1 M h

set_option maxHeartbeats 4000000 in
set_option maxRecDepth 100000 in
theorem wX6_tokens_E (X : CX p s m args meth c D cy ad iX cX6_tokens 5 (wsG yX6_tokens cX6_tokens 5 (some .int)) RX6) (hr : meth.sig.returnType = (some .int)) (x1 : Int32) (x2 : Int32) (x3 : Int32) (M : Mem) (h : fX6_tokens x1 x2 x3 M = some z) : SW p l e rm_X6_tokens s m args below meth c 0 0 (QX6_tokens below D cy ad args s z) 5 (PH D cy ad iX s M) 0 [(0, .ref (ad 0)), (1, .int x1), (2, .int x2), (3, .int x3)] [] := by
  have hx := X.1
  have hb := X.2.1
  unfold fX6_tokens at h
  refine sw_iload_n hx hb dX6_tokens_0 1 rfl rfl ?_
  refine sw_if_lt hx hb 10 dX6_tokens_1 (by decide) h (fun h => ?_) (fun h => ?_)
  · refine sw_iconst hx hb (-1) dX6_tokens_10 (by decide) ?_
    exact sw_Iret X hr dX6_tokens_11 h
  · refine sw_iload_n hx hb dX6_tokens_4 1 rfl rfl ?_
    refine sw_bipush hx hb 8 dX6_tokens_5 (by decide) ?_
    refine sw_icmp_le hx hb 12 dX6_tokens_7 (by decide) h (fun h => ?_) (fun h => ?_)
    · refine sw_iload_n hx hb dX6_tokens_12 1 rfl rfl ?_
      refine sw_iconst hx hb 5 dX6_tokens_13 (by decide) ?_
      refine sw_icmp_eq hx hb 23 dX6_tokens_14 (by decide) h (fun h => ?_) (fun h => ?_)
      · refine sw_sub (lv1 := [(0, .ref (ad 0)), (1, .int x1), (2, .int x2), (3, .int x3)]) [0, 1, 2, 3] rfl ?_
        exact wX6_tokens_L23 X hr x1 x2 x3 M h
      · refine sw_iload_n hx hb dX6_tokens_17 1 rfl rfl ?_
        refine sw_bipush hx hb 6 dX6_tokens_18 (by decide) ?_
        refine sw_icmp_ne hx hb 27 dX6_tokens_20 (by decide) h (fun h => ?_) (fun h => ?_)
        · refine sw_iconst hx hb 0 dX6_tokens_27 (by decide) ?_
          refine sw_sub (lv1 := [(0, .ref (ad 0)), (1, .int x1), (2, .int x2), (3, .int x3)]) [0, 1, 2, 3] rfl ?_
          exact wX6_tokens_L28 X hr x1 x2 x3 0 M h
        · refine sw_sub (lv1 := [(0, .ref (ad 0)), (1, .int x1), (2, .int x2), (3, .int x3)]) [0, 1, 2, 3] rfl ?_
          exact wX6_tokens_L23 X hr x1 x2 x3 M h
    · refine sw_iconst hx hb (-1) dX6_tokens_10 (by decide) ?_
      exact sw_Iret X hr dX6_tokens_11 h

end
theorem okX6_tokens (l : Launch) {D : va_G} {cy : Nat → ClassId} {ad : Nat → Nat} (hD : ∀ M : Mem, va_D (AA ad iX) (wl cy ad iX M)) (x1 : Int32) (x2 : Int32) (x3 : Int32) (M : Mem) (z : Int32 × Mem) (h : fX6_tokens x1 x2 x3 M = some z) : CTI l yX6_tokens (wsG yX6_tokens cX6_tokens 5 (some .int)) rm_X6_tokens D cy ad iX [.ref (ad 0), .int x1, .int x2, .int x3] M z :=
  met_of (cc := cX6_tokens) (maxL := 5) (ret := (some .int)) (own := RX6) (by decide) rfl rfl hD ndX (Nat.le_of_ble_eq_true rfl) (fun p e s m below meth c X hr => wX6_tokens_E X hr x1 x2 x3 M h)
abbrev QX2_has (below : List Frame) (D : va_G) (cy : Nat → ClassId) (ad : Nat → Nat) (args : Array Value) (s : State) (z : Int32 × Mem) : State → Prop := MQ below (va_Qi (fun r u => r = z.1 ∧ u = z.2) (BB D cy ad iX) (AA ad iX)) args s 0 0 (AA ad iX)
section
variable {p : Program} {l : Launch} {e : Env} {s : State} {m : MethodId} {args : Array Value} {below : List Frame} {meth : Method} {c : Code} {D : va_G} {cy : Nat → ClassId} {ad : Nat → Nat} {z : Int32 × Mem}
set_option maxHeartbeats 4000000 in
set_option maxRecDepth 100000 in
theorem wX2_has_E (X : CX p s m args meth c D cy ad iX cX2_has 2 (wsG yX2_has cX2_has 2 (some .boolean)) RX2) (hr : meth.sig.returnType = (some .boolean)) (x1 : Int32) (M : Mem) (h : fX2_has x1 M = some z) : SW p l e rm_X2_has s m args below meth c 0 0 (QX2_has below D cy ad args s z) 2 (PH D cy ad iX s M) 0 [(0, .ref (ad 5)), (1, .int x1)] [] := by
  have hx := X.1
  have hb := X.2.1
  unfold fX2_has at h
  refine sw_iload_n hx hb dX2_has_0 1 rfl rfl ?_
  refine sw_if_lt hx hb 16 dX2_has_1 (by decide) h (fun h => ?_) (fun h => ?_)
  · refine sw_iconst hx hb 0 dX2_has_16 (by decide) ?_
    exact sw_Zret X hr dX2_has_17 h
  · refine sw_iload_n hx hb dX2_has_4 1 rfl rfl ?_
    refine sw_aload_n hx hb dX2_has_5 0 rfl rfl ?_
    refine sw_get X inG2 mi_5 (ce_2 (rfl : kd 5 = 2)) rfl 3 (by decide) (goodW wd21) rfl dX2_has_6 ?_
    refine sw_icmp_ge hx hb 16 dX2_has_9 (by decide) h (fun h => ?_) (fun h => ?_)
    · refine sw_iconst hx hb 0 dX2_has_16 (by decide) ?_
      exact sw_Zret X hr dX2_has_17 h
    · refine sw_iconst hx hb 1 dX2_has_12 (by decide) ?_
      refine sw_goto hx hb 17 dX2_has_13 (by decide) ?_
      exact sw_Zret X hr dX2_has_17 h

end
theorem okX2_has (l : Launch) {D : va_G} {cy : Nat → ClassId} {ad : Nat → Nat} (hD : ∀ M : Mem, va_D (AA ad iX) (wl cy ad iX M)) (x1 : Int32) (M : Mem) (z : Int32 × Mem) (h : fX2_has x1 M = some z) : CTI l yX2_has (wsG yX2_has cX2_has 2 (some .boolean)) rm_X2_has D cy ad iX [.ref (ad 5), .int x1] M z :=
  met_of (cc := cX2_has) (maxL := 2) (ret := (some .boolean)) (own := RX2) (by decide) rfl rfl hD ndX (Nat.le_of_ble_eq_true rfl) (fun p e s m below meth c X hr => wX2_has_E X hr x1 M h)
