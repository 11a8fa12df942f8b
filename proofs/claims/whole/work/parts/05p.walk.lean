abbrev QX7_tokenOf (below : List Frame) (D : va_G) (cy : Nat → ClassId) (ad : Nat → Nat) (args : Array Value) (s : State) (z : Mem) : State → Prop := MQ below (va_Qv (fun u => u = z) (BB D cy ad iY) (AA ad iY)) args s 0 0 (AA ad iY)
section
variable {p : Program} {l : Launch} {e : Env} {s : State} {m : MethodId} {args : Array Value} {below : List Frame} {meth : Method} {c : Code} {D : va_G} {cy : Nat → ClassId} {ad : Nat → Nat} {z : Mem}
set_option maxHeartbeats 4000000 in
set_option maxRecDepth 100000 in
theorem wX7_tokenOf_L130 (X : CX p s m args meth c D cy ad iY cX7_tokenOf 5 (wsG yX7_tokenOf cX7_tokenOf 5 none) RX7) (hr : meth.sig.returnType = none) (k75 : Int32 → Int32 → Int32 → Int32 → Mem → Option (Mem)) (hk75 : ∀ (x1 : Int32) (x2 : Int32) (x3 : Int32) (x4 : Int32) (M : Mem), k75 x1 x2 x3 x4 M = some z → SW p l e rm_X7_tokenOf s m args below meth c 0 0 (QX7_tokenOf below D cy ad args s z) 5 (PH D cy ad iY s M) 75 [(0, .ref (ad 50)), (1, .int x1), (2, .int x2), (3, .int x3), (4, .int x4)] []) (x1 : Int32) (x2 : Int32) (x3 : Int32) (x4 : Int32) (y0 : Int32) (y1 : Int32) (M : Mem) (h : fX7_tokenOf_L130 k75 x1 x2 x3 x4 y0 y1 M = some z) : SW p l e rm_X7_tokenOf s m args below meth c 0 0 (QX7_tokenOf below D cy ad args s z) 5 (PH D cy ad iY s M) 130 [(0, .ref (ad 50)), (1, .int x1), (2, .int x2), (3, .int x3), (4, .int x4)] [.int y0, .int y1, .ref (ad 50)] := by
  have hx := X.1
  have hb := X.2.1
  unfold fX7_tokenOf_L130 at h
  refine sw_aload_n hx hb dX7_tokenOf_130 0 rfl rfl ?_
  refine sw_get X inG7 mi_50 (ce_7 (rfl : kd 50 = 7)) rfl 43 (by decide) (goodW wd513) rfl dX7_tokenOf_131 ?_
  refine sw_callVV (C := RX7) (As := [.int y1, .int y0, .int (gI M 50 43)]) (rest := []) X mi_50 (ce_7 (rfl : kd 50 = 7)) rfl rfl (fun _ hz => okX7_lays l X.2.2.2.2.2.2.1 y1 y0 (gI M 50 43) M _ hz) (cwX7_220 X.2.2.2.2.1 ⟨Nat.le_of_ble_eq_true rfl, Nat.le_of_ble_eq_true rfl⟩)  rfl rfl (Nat.le_of_ble_eq_true rfl) dX7_tokenOf_134 ⟨Nat.le_of_ble_eq_true rfl, Nat.le_of_ble_eq_true rfl⟩ h (fun M_6 _ h => ?_)
  refine sw_iload hx hb dX7_tokenOf_137 4 rfl ?_
  refine sw_aload_n hx hb dX7_tokenOf_139 0 rfl rfl ?_
  refine sw_get X inG7 mi_50 (ce_7 (rfl : kd 50 = 7)) rfl 10 (by decide) (goodW wd506) rfl dX7_tokenOf_140 ?_
  refine sw_iadd hx hb dX7_tokenOf_143 ?_
  refine sw_istoreN hx hb (fun x4_8 => [(4, .int x4_8), (0, .ref (ad 50)), (1, .int x1), (2, .int x2), (3, .int x3)]) dX7_tokenOf_144 (by decide) (fun _ => rfl) h (fun x4_8 h => ?_)
  refine sw_goto hx hb 75 dX7_tokenOf_146 (by decide) ?_
  refine sw_sub (lv1 := [(0, .ref (ad 50)), (1, .int x1), (2, .int x2), (3, .int x3), (4, .int x4_8)]) [1, 2, 3, 4, 0] rfl ?_
  exact hk75 x1 x2 x3 x4_8 M_6 h

set_option maxHeartbeats 4000000 in
set_option maxRecDepth 100000 in
theorem wX7_tokenOf_L101 (X : CX p s m args meth c D cy ad iY cX7_tokenOf 5 (wsG yX7_tokenOf cX7_tokenOf 5 none) RX7) (hr : meth.sig.returnType = none) (k75 : Int32 → Int32 → Int32 → Int32 → Mem → Option (Mem)) (hk75 : ∀ (x1 : Int32) (x2 : Int32) (x3 : Int32) (x4 : Int32) (M : Mem), k75 x1 x2 x3 x4 M = some z → SW p l e rm_X7_tokenOf s m args below meth c 0 0 (QX7_tokenOf below D cy ad args s z) 5 (PH D cy ad iY s M) 75 [(0, .ref (ad 50)), (1, .int x1), (2, .int x2), (3, .int x3), (4, .int x4)] []) (x1 : Int32) (x2 : Int32) (x3 : Int32) (x4 : Int32) (y0 : Int32) (y1 : Int32) (M : Mem) (h : fX7_tokenOf_L101 k75 x1 x2 x3 x4 y0 y1 M = some z) : SW p l e rm_X7_tokenOf s m args below meth c 0 0 (QX7_tokenOf below D cy ad args s z) 5 (PH D cy ad iY s M) 101 [(0, .ref (ad 50)), (1, .int x1), (2, .int x2), (3, .int x3), (4, .int x4)] [.int y0, .int y1, .ref (ad 50)] := by
  have hx := X.1
  have hb := X.2.1
  unfold fX7_tokenOf_L101 at h
  refine sw_iadd hx hb dX7_tokenOf_101 ?_
  refine sw_putI X tyX7 tyX7_ok nmX7 inG7 mi_50 (ce_7 (rfl : kd 50 = 7)) rfl 43 (by decide) (goodW wd513) rfl (by decide +kernel : parseFieldDescriptor _ = some .int) rfl rfl (Nat.le_of_ble_eq_true rfl) (pu_7_43 (rfl : kd 50 = 7) _) dX7_tokenOf_102 h (fun M_5 h => ?_)
  refine sw_aload_n hx hb dX7_tokenOf_105 0 rfl rfl ?_
  refine sw_iload hx hb dX7_tokenOf_106 4 rfl ?_
  refine sw_iload hx hb dX7_tokenOf_108 4 rfl ?_
  refine sw_aload_n hx hb dX7_tokenOf_110 0 rfl rfl ?_
  refine sw_get X inG7 mi_50 (ce_7 (rfl : kd 50 = 7)) rfl 10 (by decide) (goodW wd506) rfl dX7_tokenOf_111 ?_
  refine sw_iadd hx hb dX7_tokenOf_114 ?_
  refine sw_iload_n hx hb dX7_tokenOf_115 2 rfl rfl ?_
  refine sw_icmp_ge hx hb 129 dX7_tokenOf_116 (by decide) h (fun h => ?_) (fun h => ?_)
  · refine sw_iload_n hx hb dX7_tokenOf_129 2 rfl rfl ?_
    refine sw_sub (lv1 := [(0, .ref (ad 50)), (1, .int x1), (2, .int x2), (3, .int x3), (4, .int x4)]) [0, 1, 2, 3, 4] rfl ?_
    exact wX7_tokenOf_L130 X hr k75 hk75 x1 x2 x3 x4 x2 x4 M_5 h
  · refine sw_iload hx hb dX7_tokenOf_119 4 rfl ?_
    refine sw_aload_n hx hb dX7_tokenOf_121 0 rfl rfl ?_
    refine sw_get X inG7 mi_50 (ce_7 (rfl : kd 50 = 7)) rfl 10 (by decide) (goodW wd506) rfl dX7_tokenOf_122 ?_
    refine sw_iadd hx hb dX7_tokenOf_125 ?_
    refine sw_goto hx hb 130 dX7_tokenOf_126 (by decide) ?_
    refine sw_sub (lv1 := [(0, .ref (ad 50)), (1, .int x1), (2, .int x2), (3, .int x3), (4, .int x4)]) [0, 1, 2, 3, 4] rfl ?_
    exact wX7_tokenOf_L130 X hr k75 hk75 x1 x2 x3 x4 (x4 + (gI M_5 50 10)) x4 M_5 h

set_option maxHeartbeats 4000000 in
set_option maxRecDepth 100000 in
theorem wX7_tokenOf_L100 (X : CX p s m args meth c D cy ad iY cX7_tokenOf 5 (wsG yX7_tokenOf cX7_tokenOf 5 none) RX7) (hr : meth.sig.returnType = none) (k75 : Int32 → Int32 → Int32 → Int32 → Mem → Option (Mem)) (hk75 : ∀ (x1 : Int32) (x2 : Int32) (x3 : Int32) (x4 : Int32) (M : Mem), k75 x1 x2 x3 x4 M = some z → SW p l e rm_X7_tokenOf s m args below meth c 0 0 (QX7_tokenOf below D cy ad args s z) 5 (PH D cy ad iY s M) 75 [(0, .ref (ad 50)), (1, .int x1), (2, .int x2), (3, .int x3), (4, .int x4)] []) (x1 : Int32) (x2 : Int32) (x3 : Int32) (x4 : Int32) (y0 : Int32) (M : Mem) (h : fX7_tokenOf_L100 k75 x1 x2 x3 x4 y0 M = some z) : SW p l e rm_X7_tokenOf s m args below meth c 0 0 (QX7_tokenOf below D cy ad args s z) 5 (PH D cy ad iY s M) 100 [(0, .ref (ad 50)), (1, .int x1), (2, .int x2), (3, .int x3), (4, .int x4)] [.int y0, .ref (ad 50)] := by
  have hx := X.1
  have hb := X.2.1
  unfold fX7_tokenOf_L100 at h
  refine sw_iconst hx hb 0 dX7_tokenOf_100 (by decide) ?_
  refine sw_sub (lv1 := [(0, .ref (ad 50)), (1, .int x1), (2, .int x2), (3, .int x3), (4, .int x4)]) [0, 1, 2, 3, 4] rfl ?_
  exact wX7_tokenOf_L101 X hr k75 hk75 x1 x2 x3 x4 0 y0 M h

set_option maxHeartbeats 4000000 in
set_option maxRecDepth 100000 in
theorem wX7_tokenOf_H75 (X : CX p s m args meth c D cy ad iY cX7_tokenOf 5 (wsG yX7_tokenOf cX7_tokenOf 5 none) RX7) (hr : meth.sig.returnType = none) : ∀ (n : Nat) (x1 : Int32) (x2 : Int32) (x3 : Int32) (x4 : Int32) (M : Mem), fX7_tokenOf_H75 n x1 x2 x3 x4 M = some z → SW p l e rm_X7_tokenOf s m args below meth c 0 0 (QX7_tokenOf below D cy ad args s z) 5 (PH D cy ad iY s M) 75 [(0, .ref (ad 50)), (1, .int x1), (2, .int x2), (3, .int x3), (4, .int x4)] [] := by
  have hx := X.1
  have hb := X.2.1
  intro n
  induction n with
  | zero =>
    intro x1 x2 x3 x4 M h
    have h : (none : Option (Mem)) = some z := h
    cases h
  | succ n ih =>
    intro x1 x2 x3 x4 M h
    rw [fX7_tokenOf_H75] at h
    refine sw_iload hx hb dX7_tokenOf_75 4 rfl ?_
    refine sw_iload_n hx hb dX7_tokenOf_77 2 rfl rfl ?_
    refine sw_icmp_ge hx hb 149 dX7_tokenOf_78 (by decide) h (fun h => ?_) (fun h => ?_)
    · exact sw_Vret X hr dX7_tokenOf_149 h
    · refine sw_aload_n hx hb dX7_tokenOf_81 0 rfl rfl ?_
      refine sw_dup hx hb dX7_tokenOf_82 rfl ?_
      refine sw_get X inG7 mi_50 (ce_7 (rfl : kd 50 = 7)) rfl 43 (by decide) (goodW wd513) rfl dX7_tokenOf_83 ?_
      refine sw_iload hx hb dX7_tokenOf_86 4 rfl ?_
      refine sw_iload_n hx hb dX7_tokenOf_88 1 rfl rfl ?_
      refine sw_icmp_le hx hb 100 dX7_tokenOf_89 (by decide) h (fun h => ?_) (fun h => ?_)
      · refine sw_sub (lv1 := [(0, .ref (ad 50)), (1, .int x1), (2, .int x2), (3, .int x3), (4, .int x4)]) [0, 1, 2, 3, 4] rfl ?_
        exact wX7_tokenOf_L100 X hr (fX7_tokenOf_H75 n) ih x1 x2 x3 x4 (gI M 50 43) M h
      · refine sw_iload_n hx hb dX7_tokenOf_92 3 rfl rfl ?_
        refine sw_if_ne hx hb 100 dX7_tokenOf_93 (by decide) h (fun h => ?_) (fun h => ?_)
        · refine sw_sub (lv1 := [(0, .ref (ad 50)), (1, .int x1), (2, .int x2), (3, .int x3), (4, .int x4)]) [0, 1, 2, 3, 4] rfl ?_
          exact wX7_tokenOf_L100 X hr (fX7_tokenOf_H75 n) ih x1 x2 x3 x4 (gI M 50 43) M h
        · refine sw_iconst hx hb 1 dX7_tokenOf_96 (by decide) ?_
          refine sw_goto hx hb 101 dX7_tokenOf_97 (by decide) ?_
          refine sw_sub (lv1 := [(0, .ref (ad 50)), (1, .int x1), (2, .int x2), (3, .int x3), (4, .int x4)]) [0, 1, 2, 3, 4] rfl ?_
          exact wX7_tokenOf_L101 X hr (fX7_tokenOf_H75 n) ih x1 x2 x3 x4 1 (gI M 50 43) M h

set_option maxHeartbeats 4000000 in
set_option maxRecDepth 100000 in
theorem wX7_tokenOf_L33 (X : CX p s m args meth c D cy ad iY cX7_tokenOf 5 (wsG yX7_tokenOf cX7_tokenOf 5 none) RX7) (hr : meth.sig.returnType = none) (x1 : Int32) (x2 : Int32) (x3 : Int32) (y0 : Int32) (y1 : Int32) (M : Mem) (h : fX7_tokenOf_L33 x1 x2 x3 y0 y1 M = some z) : SW p l e rm_X7_tokenOf s m args below meth c 0 0 (QX7_tokenOf below D cy ad args s z) 5 (PH D cy ad iY s M) 33 [(0, .ref (ad 50)), (1, .int x1), (2, .int x2), (3, .int x3)] [.int y0, .int y1, .ref (ad 50)] := by
  have hx := X.1
  have hb := X.2.1
  unfold fX7_tokenOf_L33 at h
  refine sw_iadd hx hb dX7_tokenOf_33 ?_
  refine sw_putI X tyX7 tyX7_ok nmX7 inG7 mi_50 (ce_7 (rfl : kd 50 = 7)) rfl 43 (by decide) (goodW wd513) rfl (by decide +kernel : parseFieldDescriptor _ = some .int) rfl rfl (Nat.le_of_ble_eq_true rfl) (pu_7_43 (rfl : kd 50 = 7) _) dX7_tokenOf_34 h (fun M_3 h => ?_)
  refine sw_aload_n hx hb dX7_tokenOf_37 0 rfl rfl ?_
  refine sw_iload_n hx hb dX7_tokenOf_38 1 rfl rfl ?_
  refine sw_putI X tyX7 tyX7_ok nmX7 inG7 mi_50 (ce_7 (rfl : kd 50 = 7)) rfl 44 (by decide) (goodW wd514) rfl (by decide +kernel : parseFieldDescriptor _ = some .int) rfl rfl (Nat.le_of_ble_eq_true rfl) (pu_7_44 (rfl : kd 50 = 7) _) dX7_tokenOf_39 h (fun M_4 h => ?_)
  refine sw_iload_n hx hb dX7_tokenOf_42 2 rfl rfl ?_
  refine sw_iload_n hx hb dX7_tokenOf_43 1 rfl rfl ?_
  refine sw_isub hx hb dX7_tokenOf_44 ?_
  refine sw_aload_n hx hb dX7_tokenOf_45 0 rfl rfl ?_
  refine sw_get X inG7 mi_50 (ce_7 (rfl : kd 50 = 7)) rfl 10 (by decide) (goodW wd506) rfl dX7_tokenOf_46 ?_
  refine sw_icmp_gt hx hb 65 dX7_tokenOf_49 (by decide) h (fun h => ?_) (fun h => ?_)
  · refine sw_aload_n hx hb dX7_tokenOf_65 0 rfl rfl ?_
    refine sw_get X inG7 mi_50 (ce_7 (rfl : kd 50 = 7)) rfl 11 (by decide) (goodW wd507) rfl dX7_tokenOf_66 ?_
    refine sw_if_ne hx hb 149 dX7_tokenOf_69 (by decide) h (fun h => ?_) (fun h => ?_)
    · exact sw_Vret X hr dX7_tokenOf_149 h
    · refine sw_iload_n hx hb dX7_tokenOf_72 1 rfl rfl ?_
      refine sw_istore hx hb [(4, .int x1), (0, .ref (ad 50)), (1, .int x1), (2, .int x2), (3, .int x3)] dX7_tokenOf_73 (by decide) rfl ?_
      refine sw_sub (lv1 := [(0, .ref (ad 50)), (1, .int x1), (2, .int x2), (3, .int x3), (4, .int x1)]) [1, 2, 3, 4, 0] rfl ?_
      exact wX7_tokenOf_H75 X hr FU x1 x2 x3 x1 M_4 h
  · refine sw_aload_n hx hb dX7_tokenOf_52 0 rfl rfl ?_
    refine sw_iload_n hx hb dX7_tokenOf_53 1 rfl rfl ?_
    refine sw_iload_n hx hb dX7_tokenOf_54 2 rfl rfl ?_
    refine sw_aload_n hx hb dX7_tokenOf_55 0 rfl rfl ?_
    refine sw_get X inG7 mi_50 (ce_7 (rfl : kd 50 = 7)) rfl 43 (by decide) (goodW wd513) rfl dX7_tokenOf_56 ?_
    refine sw_callVV (C := RX7) (As := [.int x1, .int x2, .int (gI M_4 50 43)]) (rest := []) X mi_50 (ce_7 (rfl : kd 50 = 7)) rfl rfl (fun _ hz => okX7_lays l X.2.2.2.2.2.2.1 x1 x2 (gI M_4 50 43) M_4 _ hz) (cwX7_220 X.2.2.2.2.1 ⟨Nat.le_of_ble_eq_true rfl, Nat.le_of_ble_eq_true rfl⟩)  rfl rfl (Nat.le_of_ble_eq_true rfl) dX7_tokenOf_59 ⟨Nat.le_of_ble_eq_true rfl, Nat.le_of_ble_eq_true rfl⟩ h (fun M_9 _ h => ?_)
    refine sw_goto hx hb 149 dX7_tokenOf_62 (by decide) ?_
    exact sw_Vret X hr dX7_tokenOf_149 h

set_option maxHeartbeats 4000000 in
set_option maxRecDepth 100000 in
theorem wX7_tokenOf_L32 (X : CX p s m args meth c D cy ad iY cX7_tokenOf 5 (wsG yX7_tokenOf cX7_tokenOf 5 none) RX7) (hr : meth.sig.returnType = none) (x1 : Int32) (x2 : Int32) (x3 : Int32) (y0 : Int32) (M : Mem) (h : fX7_tokenOf_L32 x1 x2 x3 y0 M = some z) : SW p l e rm_X7_tokenOf s m args below meth c 0 0 (QX7_tokenOf below D cy ad args s z) 5 (PH D cy ad iY s M) 32 [(0, .ref (ad 50)), (1, .int x1), (2, .int x2), (3, .int x3)] [.int y0, .ref (ad 50)] := by
  have hx := X.1
  have hb := X.2.1
  unfold fX7_tokenOf_L32 at h
  refine sw_iconst hx hb 1 dX7_tokenOf_32 (by decide) ?_
  refine sw_sub (lv1 := [(0, .ref (ad 50)), (1, .int x1), (2, .int x2), (3, .int x3)]) [0, 1, 2, 3] rfl ?_
  exact wX7_tokenOf_L33 X hr x1 x2 x3 1 y0 M h

set_option maxHeartbeats 4000000 in
set_option maxRecDepth 100000 in
theorem wX7_tokenOf_E (X : CX p s m args meth c D cy ad iY cX7_tokenOf 5 (wsG yX7_tokenOf cX7_tokenOf 5 none) RX7) (hr : meth.sig.returnType = none) (x1 : Int32) (x2 : Int32) (M : Mem) (h : fX7_tokenOf x1 x2 M = some z) : SW p l e rm_X7_tokenOf s m args below meth c 0 0 (QX7_tokenOf below D cy ad args s z) 5 (PH D cy ad iY s M) 0 [(0, .ref (ad 50)), (1, .int x1), (2, .int x2)] [] := by
  have hx := X.1
  have hb := X.2.1
  unfold fX7_tokenOf at h
  refine sw_aload_n hx hb dX7_tokenOf_0 0 rfl rfl ?_
  refine sw_get X inG7 mi_50 (ce_7 (rfl : kd 50 = 7)) rfl 42 (by decide) (goodW wd512) rfl dX7_tokenOf_1 ?_
  refine sw_iconst hx hb 4 dX7_tokenOf_4 (by decide) ?_
  refine sw_bipush hx hb 6 dX7_tokenOf_5 (by decide) ?_
  refine sw_callSI (As := [.int (gI M 50 42), .int 4, .int 6]) (rest := []) X (fun _ hz => okX7_isIn l X.2.2.2.2.2.2.1 (gI M 50 42) 4 6 M _ hz) (cwX7_85 X.2.2.2.2.1 ⟨Nat.le_of_ble_eq_true rfl, Nat.le_of_ble_eq_true rfl⟩)  rfl rfl (Nat.le_of_ble_eq_true rfl) dX7_tokenOf_7 ⟨Nat.le_of_ble_eq_true rfl, Nat.le_of_ble_eq_true rfl⟩ h (fun v_2 M_1 _ h => ?_)
  refine sw_istore_n hx hb [(3, .int v_2), (0, .ref (ad 50)), (1, .int x1), (2, .int x2)] dX7_tokenOf_10 rfl (by decide) rfl ?_
  refine sw_aload_n hx hb dX7_tokenOf_11 1 rfl rfl ?_
  refine sw_dup hx hb dX7_tokenOf_12 rfl ?_
  refine sw_get X inG7 mi_50 (ce_7 (rfl : kd 50 = 7)) rfl 43 (by decide) (goodW wd513) rfl dX7_tokenOf_13 ?_
  refine sw_iload_n hx hb dX7_tokenOf_16 0 rfl rfl ?_
  refine sw_if_eq hx hb 32 dX7_tokenOf_17 (by decide) h (fun h => ?_) (fun h => ?_)
  · refine sw_sub (lv1 := [(0, .ref (ad 50)), (1, .int x1), (2, .int x2), (3, .int v_2)]) [1, 2, 3, 0] rfl ?_
    exact wX7_tokenOf_L32 X hr x1 x2 v_2 (gI M_1 50 43) M_1 h
  · refine sw_iload_n hx hb dX7_tokenOf_20 2 rfl rfl ?_
    refine sw_aload_n hx hb dX7_tokenOf_21 1 rfl rfl ?_
    refine sw_get X inG7 mi_50 (ce_7 (rfl : kd 50 = 7)) rfl 44 (by decide) (goodW wd514) rfl dX7_tokenOf_22 ?_
    refine sw_icmp_ne hx hb 32 dX7_tokenOf_25 (by decide) h (fun h => ?_) (fun h => ?_)
    · refine sw_sub (lv1 := [(0, .ref (ad 50)), (1, .int x1), (2, .int x2), (3, .int v_2)]) [1, 2, 3, 0] rfl ?_
      exact wX7_tokenOf_L32 X hr x1 x2 v_2 (gI M_1 50 43) M_1 h
    · refine sw_iconst hx hb 0 dX7_tokenOf_28 (by decide) ?_
      refine sw_goto hx hb 33 dX7_tokenOf_29 (by decide) ?_
      refine sw_sub (lv1 := [(0, .ref (ad 50)), (1, .int x1), (2, .int x2), (3, .int v_2)]) [1, 2, 3, 0] rfl ?_
      exact wX7_tokenOf_L33 X hr x1 x2 v_2 0 (gI M_1 50 43) M_1 h

end
theorem okX7_tokenOf (l : Launch) {D : va_G} {cy : Nat → ClassId} {ad : Nat → Nat} (hD : ∀ M : Mem, va_D (AA ad iY) (wl cy ad iY M)) (x1 : Int32) (x2 : Int32) (M : Mem) (z : Mem) (h : fX7_tokenOf x1 x2 M = some z) : CTV l yX7_tokenOf (wsG yX7_tokenOf cX7_tokenOf 5 none) rm_X7_tokenOf D cy ad iY [.ref (ad 50), .int x1, .int x2] M z :=
  met_of (cc := cX7_tokenOf) (maxL := 5) (ret := none) (own := RX7) (by decide) rfl rfl hD ndY (Nat.le_of_ble_eq_true rfl) (fun p e s m below meth c X hr => wX7_tokenOf_E X hr x1 x2 M h)
abbrev QX7_isOfWord (below : List Frame) (D : va_G) (cy : Nat → ClassId) (ad : Nat → Nat) (args : Array Value) (s : State) (z : Int32 × Mem) : State → Prop := MQ below (va_Qi (fun r u => r = z.1 ∧ u = z.2) (BB D cy ad iY) (AA ad iY)) args s 0 0 (AA ad iY)
section
variable {p : Program} {l : Launch} {e : Env} {s : State} {m : MethodId} {args : Array Value} {below : List Frame} {meth : Method} {c : Code} {D : va_G} {cy : Nat → ClassId} {ad : Nat → Nat} {z : Int32 × Mem}
set_option maxHeartbeats 4000000 in
set_option maxRecDepth 100000 in
theorem wX7_isOfWord_L148 (X : CX p s m args meth c D cy ad iY cX7_isOfWord 7 (wsG yX7_isOfWord cX7_isOfWord 7 (some .boolean)) RX7) (hr : meth.sig.returnType = (some .boolean)) (M : Mem) (h : fX7_isOfWord_L148 M = some z) : SW p l e rm_X7_isOfWord s m args below meth c 0 0 (QX7_isOfWord below D cy ad args s z) 7 (PH D cy ad iY s M) 148 [] [] := by
  have hx := X.1
  have hb := X.2.1
  unfold fX7_isOfWord_L148 at h
  refine sw_iconst hx hb 1 dX7_isOfWord_148 (by decide) ?_
  refine sw_goto hx hb 153 dX7_isOfWord_149 (by decide) ?_
  exact sw_Zret X hr dX7_isOfWord_153 h

set_option maxHeartbeats 4000000 in
set_option maxRecDepth 100000 in
theorem wX7_isOfWord_L116 (X : CX p s m args meth c D cy ad iY cX7_isOfWord 7 (wsG yX7_isOfWord cX7_isOfWord 7 (some .boolean)) RX7) (hr : meth.sig.returnType = (some .boolean)) (x2 : Int32) (x5 : Int32) (y0 : Int32) (M : Mem) (h : fX7_isOfWord_L116 x2 x5 y0 M = some z) : SW p l e rm_X7_isOfWord s m args below meth c 0 0 (QX7_isOfWord below D cy ad args s z) 7 (PH D cy ad iY s M) 116 [(2, .int x2), (5, .int x5)] [.int y0] := by
  have hx := X.1
  have hb := X.2.1
  unfold fX7_isOfWord_L116 at h
  refine sw_istore hx hb [(6, .int y0), (2, .int x2), (5, .int x5)] dX7_isOfWord_116 (by decide) rfl ?_
  refine sw_iload_n hx hb dX7_isOfWord_118 1 rfl rfl ?_
  refine sw_callSI (As := [.int x2]) (rest := []) X (fun _ hz => okX7_isLetter l X.2.2.2.2.2.2.1 x2 M _ hz) (cwX7_89 X.2.2.2.2.1 ⟨Nat.le_of_ble_eq_true rfl, Nat.le_of_ble_eq_true rfl⟩)  rfl rfl (Nat.le_of_ble_eq_true rfl) dX7_isOfWord_119 ⟨Nat.le_of_ble_eq_true rfl, Nat.le_of_ble_eq_true rfl⟩ h (fun v_7 M_6 _ h => ?_)
  refine sw_if_ne hx hb 148 dX7_isOfWord_122 (by decide) h (fun h => ?_) (fun h => ?_)
  · refine sw_sub (lv1 := []) [] rfl ?_
    exact wX7_isOfWord_L148 X hr M_6 h
  · refine sw_iload_n hx hb dX7_isOfWord_125 1 rfl rfl ?_
    refine sw_callSI (As := [.int x2]) (rest := []) X (fun _ hz => okX7_isFigure l X.2.2.2.2.2.2.1 x2 M_6 _ hz) (cwX7_93 X.2.2.2.2.1 ⟨Nat.le_of_ble_eq_true rfl, Nat.le_of_ble_eq_true rfl⟩)  rfl rfl (Nat.le_of_ble_eq_true rfl) dX7_isOfWord_126 ⟨Nat.le_of_ble_eq_true rfl, Nat.le_of_ble_eq_true rfl⟩ h (fun v_9 M_8 _ h => ?_)
    refine sw_if_ne hx hb 148 dX7_isOfWord_129 (by decide) h (fun h => ?_) (fun h => ?_)
    · refine sw_sub (lv1 := []) [] rfl ?_
      exact wX7_isOfWord_L148 X hr M_8 h
    · refine sw_iload_n hx hb dX7_isOfWord_132 1 rfl rfl ?_
      refine sw_bipush hx hb 95 dX7_isOfWord_133 (by decide) ?_
      refine sw_icmp_eq hx hb 148 dX7_isOfWord_135 (by decide) h (fun h => ?_) (fun h => ?_)
      · refine sw_sub (lv1 := []) [] rfl ?_
        exact wX7_isOfWord_L148 X hr M_8 h
      · refine sw_iload hx hb dX7_isOfWord_138 2 rfl ?_
        refine sw_if_ne hx hb 148 dX7_isOfWord_140 (by decide) h (fun h => ?_) (fun h => ?_)
        · refine sw_sub (lv1 := []) [] rfl ?_
          exact wX7_isOfWord_L148 X hr M_8 h
        · refine sw_iload hx hb dX7_isOfWord_143 0 rfl ?_
          refine sw_if_eq hx hb 152 dX7_isOfWord_145 (by decide) h (fun h => ?_) (fun h => ?_)
          · refine sw_iconst hx hb 0 dX7_isOfWord_152 (by decide) ?_
            exact sw_Zret X hr dX7_isOfWord_153 h
          · refine sw_sub (lv1 := []) [] rfl ?_
            exact wX7_isOfWord_L148 X hr M_8 h

set_option maxHeartbeats 4000000 in
set_option maxRecDepth 100000 in
theorem wX7_isOfWord_L115 (X : CX p s m args meth c D cy ad iY cX7_isOfWord 7 (wsG yX7_isOfWord cX7_isOfWord 7 (some .boolean)) RX7) (hr : meth.sig.returnType = (some .boolean)) (x2 : Int32) (x5 : Int32) (M : Mem) (h : fX7_isOfWord_L115 x2 x5 M = some z) : SW p l e rm_X7_isOfWord s m args below meth c 0 0 (QX7_isOfWord below D cy ad args s z) 7 (PH D cy ad iY s M) 115 [(2, .int x2), (5, .int x5)] [] := by
  have hx := X.1
  have hb := X.2.1
  unfold fX7_isOfWord_L115 at h
  refine sw_iconst hx hb 0 dX7_isOfWord_115 (by decide) ?_
  refine sw_sub (lv1 := [(2, .int x2), (5, .int x5)]) [0, 1] rfl ?_
  exact wX7_isOfWord_L116 X hr x2 x5 0 M h

set_option maxHeartbeats 4000000 in
set_option maxRecDepth 100000 in
theorem wX7_isOfWord_L96 (X : CX p s m args meth c D cy ad iY cX7_isOfWord 7 (wsG yX7_isOfWord cX7_isOfWord 7 (some .boolean)) RX7) (hr : meth.sig.returnType = (some .boolean)) (x2 : Int32) (x3 : Int32) (x4 : Int32) (x5 : Int32) (M : Mem) (h : fX7_isOfWord_L96 x2 x3 x4 x5 M = some z) : SW p l e rm_X7_isOfWord s m args below meth c 0 0 (QX7_isOfWord below D cy ad args s z) 7 (PH D cy ad iY s M) 96 [(2, .int x2), (3, .int x3), (4, .int x4), (5, .int x5)] [] := by
  have hx := X.1
  have hb := X.2.1
  unfold fX7_isOfWord_L96 at h
  refine sw_iload_n hx hb dX7_isOfWord_96 1 rfl rfl ?_
  refine sw_callSI (As := [.int x3]) (rest := []) X (fun _ hz => okX7_isFigure l X.2.2.2.2.2.2.1 x3 M _ hz) (cwX7_93 X.2.2.2.2.1 ⟨Nat.le_of_ble_eq_true rfl, Nat.le_of_ble_eq_true rfl⟩)  rfl rfl (Nat.le_of_ble_eq_true rfl) dX7_isOfWord_97 ⟨Nat.le_of_ble_eq_true rfl, Nat.le_of_ble_eq_true rfl⟩ h (fun v_5 M_4 _ h => ?_)
  refine sw_if_eq hx hb 115 dX7_isOfWord_100 (by decide) h (fun h => ?_) (fun h => ?_)
  · refine sw_sub (lv1 := [(2, .int x2), (5, .int x5)]) [0, 3] rfl ?_
    exact wX7_isOfWord_L115 X hr x2 x5 M_4 h
  · refine sw_iload hx hb dX7_isOfWord_103 2 rfl ?_
    refine sw_callSI (As := [.int x4]) (rest := []) X (fun _ hz => okX7_isFigure l X.2.2.2.2.2.2.1 x4 M_4 _ hz) (cwX7_93 X.2.2.2.2.1 ⟨Nat.le_of_ble_eq_true rfl, Nat.le_of_ble_eq_true rfl⟩)  rfl rfl (Nat.le_of_ble_eq_true rfl) dX7_isOfWord_105 ⟨Nat.le_of_ble_eq_true rfl, Nat.le_of_ble_eq_true rfl⟩ h (fun v_11 M_10 _ h => ?_)
    refine sw_if_eq hx hb 115 dX7_isOfWord_108 (by decide) h (fun h => ?_) (fun h => ?_)
    · refine sw_sub (lv1 := [(2, .int x2), (5, .int x5)]) [0, 3] rfl ?_
      exact wX7_isOfWord_L115 X hr x2 x5 M_10 h
    · refine sw_iconst hx hb 1 dX7_isOfWord_111 (by decide) ?_
      refine sw_goto hx hb 116 dX7_isOfWord_112 (by decide) ?_
      refine sw_sub (lv1 := [(2, .int x2), (5, .int x5)]) [0, 3] rfl ?_
      exact wX7_isOfWord_L116 X hr x2 x5 1 M_10 h

set_option maxHeartbeats 4000000 in
set_option maxRecDepth 100000 in
theorem wX7_isOfWord_L82 (X : CX p s m args meth c D cy ad iY cX7_isOfWord 7 (wsG yX7_isOfWord cX7_isOfWord 7 (some .boolean)) RX7) (hr : meth.sig.returnType = (some .boolean)) (x2 : Int32) (x3 : Int32) (x4 : Int32) (y0 : Int32) (M : Mem) (h : fX7_isOfWord_L82 x2 x3 x4 y0 M = some z) : SW p l e rm_X7_isOfWord s m args below meth c 0 0 (QX7_isOfWord below D cy ad args s z) 7 (PH D cy ad iY s M) 82 [(2, .int x2), (3, .int x3), (4, .int x4)] [.int y0] := by
  have hx := X.1
  have hb := X.2.1
  unfold fX7_isOfWord_L82 at h
  refine sw_istore hx hb [(5, .int y0), (2, .int x2), (3, .int x3), (4, .int x4)] dX7_isOfWord_82 (by decide) rfl ?_
  refine sw_iload_n hx hb dX7_isOfWord_84 1 rfl rfl ?_
  refine sw_bipush hx hb 44 dX7_isOfWord_85 (by decide) ?_
  refine sw_icmp_eq hx hb 96 dX7_isOfWord_87 (by decide) h (fun h => ?_) (fun h => ?_)
  · refine sw_sub (lv1 := [(2, .int x2), (3, .int x3), (4, .int x4), (5, .int y0)]) [1, 2, 3, 0] rfl ?_
    exact wX7_isOfWord_L96 X hr x2 x3 x4 y0 M h
  · refine sw_iload_n hx hb dX7_isOfWord_90 1 rfl rfl ?_
    refine sw_bipush hx hb 46 dX7_isOfWord_91 (by decide) ?_
    refine sw_icmp_ne hx hb 115 dX7_isOfWord_93 (by decide) h (fun h => ?_) (fun h => ?_)
    · refine sw_sub (lv1 := [(2, .int x2), (5, .int y0)]) [1, 0] rfl ?_
      exact wX7_isOfWord_L115 X hr x2 y0 M h
    · refine sw_sub (lv1 := [(2, .int x2), (3, .int x3), (4, .int x4), (5, .int y0)]) [1, 2, 3, 0] rfl ?_
      exact wX7_isOfWord_L96 X hr x2 x3 x4 y0 M h

set_option maxHeartbeats 4000000 in
set_option maxRecDepth 100000 in
theorem wX7_isOfWord_L81 (X : CX p s m args meth c D cy ad iY cX7_isOfWord 7 (wsG yX7_isOfWord cX7_isOfWord 7 (some .boolean)) RX7) (hr : meth.sig.returnType = (some .boolean)) (x2 : Int32) (x3 : Int32) (x4 : Int32) (M : Mem) (h : fX7_isOfWord_L81 x2 x3 x4 M = some z) : SW p l e rm_X7_isOfWord s m args below meth c 0 0 (QX7_isOfWord below D cy ad args s z) 7 (PH D cy ad iY s M) 81 [(2, .int x2), (3, .int x3), (4, .int x4)] [] := by
  have hx := X.1
  have hb := X.2.1
  unfold fX7_isOfWord_L81 at h
  refine sw_iconst hx hb 0 dX7_isOfWord_81 (by decide) ?_
  refine sw_sub (lv1 := [(2, .int x2), (3, .int x3), (4, .int x4)]) [0, 1, 2] rfl ?_
  exact wX7_isOfWord_L82 X hr x2 x3 x4 0 M h

set_option maxHeartbeats 4000000 in
set_option maxRecDepth 100000 in
theorem wX7_isOfWord_L62 (X : CX p s m args meth c D cy ad iY cX7_isOfWord 7 (wsG yX7_isOfWord cX7_isOfWord 7 (some .boolean)) RX7) (hr : meth.sig.returnType = (some .boolean)) (x2 : Int32) (x3 : Int32) (x4 : Int32) (M : Mem) (h : fX7_isOfWord_L62 x2 x3 x4 M = some z) : SW p l e rm_X7_isOfWord s m args below meth c 0 0 (QX7_isOfWord below D cy ad args s z) 7 (PH D cy ad iY s M) 62 [(2, .int x2), (3, .int x3), (4, .int x4)] [] := by
  have hx := X.1
  have hb := X.2.1
  unfold fX7_isOfWord_L62 at h
  refine sw_iload_n hx hb dX7_isOfWord_62 1 rfl rfl ?_
  refine sw_callSI (As := [.int x3]) (rest := []) X (fun _ hz => okX7_isLetter l X.2.2.2.2.2.2.1 x3 M _ hz) (cwX7_89 X.2.2.2.2.1 ⟨Nat.le_of_ble_eq_true rfl, Nat.le_of_ble_eq_true rfl⟩)  rfl rfl (Nat.le_of_ble_eq_true rfl) dX7_isOfWord_63 ⟨Nat.le_of_ble_eq_true rfl, Nat.le_of_ble_eq_true rfl⟩ h (fun v_3 M_2 _ h => ?_)
  refine sw_if_eq hx hb 81 dX7_isOfWord_66 (by decide) h (fun h => ?_) (fun h => ?_)
  · refine sw_sub (lv1 := [(2, .int x2), (3, .int x3), (4, .int x4)]) [0, 1, 2] rfl ?_
    exact wX7_isOfWord_L81 X hr x2 x3 x4 M_2 h
  · refine sw_iload hx hb dX7_isOfWord_69 2 rfl ?_
    refine sw_callSI (As := [.int x4]) (rest := []) X (fun _ hz => okX7_isLetter l X.2.2.2.2.2.2.1 x4 M_2 _ hz) (cwX7_89 X.2.2.2.2.1 ⟨Nat.le_of_ble_eq_true rfl, Nat.le_of_ble_eq_true rfl⟩)  rfl rfl (Nat.le_of_ble_eq_true rfl) dX7_isOfWord_71 ⟨Nat.le_of_ble_eq_true rfl, Nat.le_of_ble_eq_true rfl⟩ h (fun v_13 M_12 _ h => ?_)
    refine sw_if_eq hx hb 81 dX7_isOfWord_74 (by decide) h (fun h => ?_) (fun h => ?_)
    · refine sw_sub (lv1 := [(2, .int x2), (3, .int x3), (4, .int x4)]) [0, 1, 2] rfl ?_
      exact wX7_isOfWord_L81 X hr x2 x3 x4 M_12 h
    · refine sw_iconst hx hb 1 dX7_isOfWord_77 (by decide) ?_
      refine sw_goto hx hb 82 dX7_isOfWord_78 (by decide) ?_
      refine sw_sub (lv1 := [(2, .int x2), (3, .int x3), (4, .int x4)]) [0, 1, 2] rfl ?_
      exact wX7_isOfWord_L82 X hr x2 x3 x4 1 M_12 h

set_option maxHeartbeats 4000000 in
set_option maxRecDepth 100000 in
theorem wX7_isOfWord_L48 (X : CX p s m args meth c D cy ad iY cX7_isOfWord 7 (wsG yX7_isOfWord cX7_isOfWord 7 (some .boolean)) RX7) (hr : meth.sig.returnType = (some .boolean)) (x2 : Int32) (x3 : Int32) (y0 : Int32) (M : Mem) (h : fX7_isOfWord_L48 x2 x3 y0 M = some z) : SW p l e rm_X7_isOfWord s m args below meth c 0 0 (QX7_isOfWord below D cy ad args s z) 7 (PH D cy ad iY s M) 48 [(2, .int x2), (3, .int x3)] [.int y0] := by
  have hx := X.1
  have hb := X.2.1
  unfold fX7_isOfWord_L48 at h
  refine sw_istore hx hb [(4, .int y0), (2, .int x2), (3, .int x3)] dX7_isOfWord_48 (by decide) rfl ?_
  refine sw_iload_n hx hb dX7_isOfWord_50 1 rfl rfl ?_
  refine sw_bipush hx hb 39 dX7_isOfWord_51 (by decide) ?_
  refine sw_icmp_eq hx hb 62 dX7_isOfWord_53 (by decide) h (fun h => ?_) (fun h => ?_)
  · refine sw_sub (lv1 := [(2, .int x2), (3, .int x3), (4, .int y0)]) [1, 2, 0] rfl ?_
    exact wX7_isOfWord_L62 X hr x2 x3 y0 M h
  · refine sw_iload_n hx hb dX7_isOfWord_56 1 rfl rfl ?_
    refine sw_bipush hx hb 46 dX7_isOfWord_57 (by decide) ?_
    refine sw_icmp_ne hx hb 81 dX7_isOfWord_59 (by decide) h (fun h => ?_) (fun h => ?_)
    · refine sw_sub (lv1 := [(2, .int x2), (3, .int x3), (4, .int y0)]) [1, 2, 0] rfl ?_
      exact wX7_isOfWord_L81 X hr x2 x3 y0 M h
    · refine sw_sub (lv1 := [(2, .int x2), (3, .int x3), (4, .int y0)]) [1, 2, 0] rfl ?_
      exact wX7_isOfWord_L62 X hr x2 x3 y0 M h

set_option maxHeartbeats 4000000 in
set_option maxRecDepth 100000 in
theorem wX7_isOfWord_L24 (X : CX p s m args meth c D cy ad iY cX7_isOfWord 7 (wsG yX7_isOfWord cX7_isOfWord 7 (some .boolean)) RX7) (hr : meth.sig.returnType = (some .boolean)) (x1 : Int32) (x2 : Int32) (y0 : Int32) (M : Mem) (h : fX7_isOfWord_L24 x1 x2 y0 M = some z) : SW p l e rm_X7_isOfWord s m args below meth c 0 0 (QX7_isOfWord below D cy ad args s z) 7 (PH D cy ad iY s M) 24 [(0, .ref (ad 50)), (1, .int x1), (2, .int x2)] [.int y0] := by
  have hx := X.1
  have hb := X.2.1
  unfold fX7_isOfWord_L24 at h
  refine sw_istore_n hx hb [(3, .int y0), (0, .ref (ad 50)), (1, .int x1), (2, .int x2)] dX7_isOfWord_24 rfl (by decide) rfl ?_
  refine sw_iload_n hx hb dX7_isOfWord_25 2 rfl rfl ?_
  refine sw_iconst hx hb 1 dX7_isOfWord_26 (by decide) ?_
  refine sw_iadd hx hb dX7_isOfWord_27 ?_
  refine sw_aload_n hx hb dX7_isOfWord_28 1 rfl rfl ?_
  refine sw_get X inG7 mi_50 (ce_7 (rfl : kd 50 = 7)) rfl 3 (by decide) (goodW wd407) rfl dX7_isOfWord_29 ?_
  refine sw_icmp_ge hx hb 46 dX7_isOfWord_32 (by decide) h (fun h => ?_) (fun h => ?_)
  · refine sw_bipush hx hb 32 dX7_isOfWord_46 (by decide) ?_
    refine sw_sub (lv1 := [(2, .int x2), (3, .int y0)]) [3, 0] rfl ?_
    exact wX7_isOfWord_L48 X hr x2 y0 32 M h
  · refine sw_aload_n hx hb dX7_isOfWord_35 1 rfl rfl ?_
    refine sw_get X inG7 mi_50 (ce_7 (rfl : kd 50 = 7)) rfl 2 (by decide) (goodW wd409) rfl dX7_isOfWord_36 ?_
    refine sw_iload_n hx hb dX7_isOfWord_39 2 rfl rfl ?_
    refine sw_iconst hx hb 1 dX7_isOfWord_40 (by decide) ?_
    refine sw_iadd hx hb dX7_isOfWord_41 ?_
    refine sw_iald X mi_53 (rfl : kd 53 = 9) dX7_isOfWord_42 h (fun v_14 h => ?_)
    refine sw_goto hx hb 48 dX7_isOfWord_43 (by decide) ?_
    refine sw_sub (lv1 := [(2, .int x2), (3, .int y0)]) [3, 0] rfl ?_
    exact wX7_isOfWord_L48 X hr x2 y0 v_14 M h

set_option maxHeartbeats 4000000 in
set_option maxRecDepth 100000 in
theorem wX7_isOfWord_E (X : CX p s m args meth c D cy ad iY cX7_isOfWord 7 (wsG yX7_isOfWord cX7_isOfWord 7 (some .boolean)) RX7) (hr : meth.sig.returnType = (some .boolean)) (x1 : Int32) (M : Mem) (h : fX7_isOfWord x1 M = some z) : SW p l e rm_X7_isOfWord s m args below meth c 0 0 (QX7_isOfWord below D cy ad args s z) 7 (PH D cy ad iY s M) 0 [(0, .ref (ad 50)), (1, .int x1)] [] := by
  have hx := X.1
  have hb := X.2.1
  unfold fX7_isOfWord at h
  refine sw_aload_n hx hb dX7_isOfWord_0 0 rfl rfl ?_
  refine sw_get X inG7 mi_50 (ce_7 (rfl : kd 50 = 7)) rfl 2 (by decide) (goodW wd409) rfl dX7_isOfWord_1 ?_
  refine sw_iload_n hx hb dX7_isOfWord_4 1 rfl rfl ?_
  refine sw_iald X mi_53 (rfl : kd 53 = 9) dX7_isOfWord_5 h (fun v_1 h => ?_)
  refine sw_istore_n hx hb [(2, .int v_1), (0, .ref (ad 50)), (1, .int x1)] dX7_isOfWord_6 rfl (by decide) rfl ?_
  refine sw_iload_n hx hb dX7_isOfWord_7 2 rfl rfl ?_
  refine sw_if_le hx hb 22 dX7_isOfWord_8 (by decide) h (fun h => ?_) (fun h => ?_)
  · refine sw_bipush hx hb 32 dX7_isOfWord_22 (by decide) ?_
    refine sw_sub (lv1 := [(0, .ref (ad 50)), (1, .int x1), (2, .int v_1)]) [1, 2, 0] rfl ?_
    exact wX7_isOfWord_L24 X hr x1 v_1 32 M h
  · refine sw_aload_n hx hb dX7_isOfWord_11 1 rfl rfl ?_
    refine sw_get X inG7 mi_50 (ce_7 (rfl : kd 50 = 7)) rfl 2 (by decide) (goodW wd409) rfl dX7_isOfWord_12 ?_
    refine sw_iload_n hx hb dX7_isOfWord_15 2 rfl rfl ?_
    refine sw_iconst hx hb 1 dX7_isOfWord_16 (by decide) ?_
    refine sw_isub hx hb dX7_isOfWord_17 ?_
    refine sw_iald X mi_53 (rfl : kd 53 = 9) dX7_isOfWord_18 h (fun v_15 h => ?_)
    refine sw_goto hx hb 24 dX7_isOfWord_19 (by decide) ?_
    refine sw_sub (lv1 := [(0, .ref (ad 50)), (1, .int x1), (2, .int v_1)]) [1, 2, 0] rfl ?_
    exact wX7_isOfWord_L24 X hr x1 v_1 v_15 M h

end
theorem okX7_isOfWord (l : Launch) {D : va_G} {cy : Nat → ClassId} {ad : Nat → Nat} (hD : ∀ M : Mem, va_D (AA ad iY) (wl cy ad iY M)) (x1 : Int32) (M : Mem) (z : Int32 × Mem) (h : fX7_isOfWord x1 M = some z) : CTI l yX7_isOfWord (wsG yX7_isOfWord cX7_isOfWord 7 (some .boolean)) rm_X7_isOfWord D cy ad iY [.ref (ad 50), .int x1] M z :=
  met_of (cc := cX7_isOfWord) (maxL := 7) (ret := (some .boolean)) (own := RX7) (by decide) rfl rfl hD ndY (Nat.le_of_ble_eq_true rfl) (fun p e s m below meth c X hr => wX7_isOfWord_E X hr x1 M h)
abbrev QX7_isOfRow (below : List Frame) (D : va_G) (cy : Nat → ClassId) (ad : Nat → Nat) (args : Array Value) (s : State) (z : Int32 × Mem) : State → Prop := MQ below (va_Qi (fun r u => r = z.1 ∧ u = z.2) (BB D cy ad iY) (AA ad iY)) args s 0 0 (AA ad iY)
section
variable {p : Program} {l : Launch} {e : Env} {s : State} {m : MethodId} {args : Array Value} {below : List Frame} {meth : Method} {c : Code} {D : va_G} {cy : Nat → ClassId} {ad : Nat → Nat} {z : Int32 × Mem}
set_option maxHeartbeats 4000000 in
set_option maxRecDepth 100000 in
theorem wX7_isOfRow_L31 (X : CX p s m args meth c D cy ad iY cX7_isOfRow 3 (wsG yX7_isOfRow cX7_isOfRow 3 (some .boolean)) RX7) (hr : meth.sig.returnType = (some .boolean)) (x2 : Int32) (M : Mem) (h : fX7_isOfRow_L31 x2 M = some z) : SW p l e rm_X7_isOfRow s m args below meth c 0 0 (QX7_isOfRow below D cy ad args s z) 3 (PH D cy ad iY s M) 31 [(2, .int x2)] [] := by
  have hx := X.1
  have hb := X.2.1
  unfold fX7_isOfRow_L31 at h
  refine sw_iload_n hx hb dX7_isOfRow_31 0 rfl rfl ?_
  refine sw_callSI (As := [.int x2]) (rest := []) X (fun _ hz => okX7_isLetter l X.2.2.2.2.2.2.1 x2 M _ hz) (cwX7_89 X.2.2.2.2.1 ⟨Nat.le_of_ble_eq_true rfl, Nat.le_of_ble_eq_true rfl⟩)  rfl rfl (Nat.le_of_ble_eq_true rfl) dX7_isOfRow_32 ⟨Nat.le_of_ble_eq_true rfl, Nat.le_of_ble_eq_true rfl⟩ h (fun v_3 M_2 _ h => ?_)
  refine sw_goto hx hb 89 dX7_isOfRow_35 (by decide) ?_
  exact sw_Zret X hr dX7_isOfRow_89 h

set_option maxHeartbeats 4000000 in
set_option maxRecDepth 100000 in
theorem wX7_isOfRow_L77 (X : CX p s m args meth c D cy ad iY cX7_isOfRow 3 (wsG yX7_isOfRow cX7_isOfRow 3 (some .boolean)) RX7) (hr : meth.sig.returnType = (some .boolean)) (x2 : Int32) (M : Mem) (h : fX7_isOfRow_L77 x2 M = some z) : SW p l e rm_X7_isOfRow s m args below meth c 0 0 (QX7_isOfRow below D cy ad args s z) 3 (PH D cy ad iY s M) 77 [(2, .int x2)] [] := by
  have hx := X.1
  have hb := X.2.1
  unfold fX7_isOfRow_L77 at h
  refine sw_iload_n hx hb dX7_isOfRow_77 0 rfl rfl ?_
  refine sw_callSI (As := [.int x2]) (rest := []) X (fun _ hz => okX7_isBlank l X.2.2.2.2.2.2.1 x2 M _ hz) (cwX7_96 X.2.2.2.2.1 ⟨Nat.le_of_ble_eq_true rfl, Nat.le_of_ble_eq_true rfl⟩)  rfl rfl (Nat.le_of_ble_eq_true rfl) dX7_isOfRow_78 ⟨Nat.le_of_ble_eq_true rfl, Nat.le_of_ble_eq_true rfl⟩ h (fun v_5 M_4 _ h => ?_)
  refine sw_if_ne hx hb 88 dX7_isOfRow_81 (by decide) h (fun h => ?_) (fun h => ?_)
  · refine sw_iconst hx hb 0 dX7_isOfRow_88 (by decide) ?_
    exact sw_Zret X hr dX7_isOfRow_89 h
  · refine sw_iconst hx hb 1 dX7_isOfRow_84 (by decide) ?_
    refine sw_goto hx hb 89 dX7_isOfRow_85 (by decide) ?_
    exact sw_Zret X hr dX7_isOfRow_89 h

set_option maxHeartbeats 4000000 in
set_option maxRecDepth 100000 in
theorem wX7_isOfRow_E (X : CX p s m args meth c D cy ad iY cX7_isOfRow 3 (wsG yX7_isOfRow cX7_isOfRow 3 (some .boolean)) RX7) (hr : meth.sig.returnType = (some .boolean)) (x1 : Int32) (M : Mem) (h : fX7_isOfRow x1 M = some z) : SW p l e rm_X7_isOfRow s m args below meth c 0 0 (QX7_isOfRow below D cy ad args s z) 3 (PH D cy ad iY s M) 0 [(0, .ref (ad 50)), (1, .int x1)] [] := by
  have hx := X.1
  have hb := X.2.1
  unfold fX7_isOfRow at h
  refine sw_aload_n hx hb dX7_isOfRow_0 0 rfl rfl ?_
  refine sw_get X inG7 mi_50 (ce_7 (rfl : kd 50 = 7)) rfl 2 (by decide) (goodW wd409) rfl dX7_isOfRow_1 ?_
  refine sw_iload_n hx hb dX7_isOfRow_4 1 rfl rfl ?_
  refine sw_iald X mi_53 (rfl : kd 53 = 9) dX7_isOfRow_5 h (fun v_1 h => ?_)
  refine sw_istore_n hx hb [(2, .int v_1), (0, .ref (ad 50)), (1, .int x1)] dX7_isOfRow_6 rfl (by decide) rfl ?_
  refine sw_aload_n hx hb dX7_isOfRow_7 1 rfl rfl ?_
  refine sw_get X inG7 mi_50 (ce_7 (rfl : kd 50 = 7)) rfl 42 (by decide) (goodW wd512) rfl dX7_isOfRow_8 ?_
  refine sw_if_eq hx hb 31 dX7_isOfRow_11 (by decide) h (fun h => ?_) (fun h => ?_)
  · refine sw_sub (lv1 := [(2, .int v_1)]) [0] rfl ?_
    exact wX7_isOfRow_L31 X hr v_1 M h
  · refine sw_aload_n hx hb dX7_isOfRow_14 1 rfl rfl ?_
    refine sw_get X inG7 mi_50 (ce_7 (rfl : kd 50 = 7)) rfl 42 (by decide) (goodW wd512) rfl dX7_isOfRow_15 ?_
    refine sw_iconst hx hb 5 dX7_isOfRow_18 (by decide) ?_
    refine sw_icmp_eq hx hb 31 dX7_isOfRow_19 (by decide) h (fun h => ?_) (fun h => ?_)
    · refine sw_sub (lv1 := [(2, .int v_1)]) [0] rfl ?_
      exact wX7_isOfRow_L31 X hr v_1 M h
    · refine sw_aload_n hx hb dX7_isOfRow_22 1 rfl rfl ?_
      refine sw_get X inG7 mi_50 (ce_7 (rfl : kd 50 = 7)) rfl 42 (by decide) (goodW wd512) rfl dX7_isOfRow_23 ?_
      refine sw_bipush hx hb 6 dX7_isOfRow_26 (by decide) ?_
      refine sw_icmp_ne hx hb 38 dX7_isOfRow_28 (by decide) h (fun h => ?_) (fun h => ?_)
      · refine sw_aload_n hx hb dX7_isOfRow_38 1 rfl rfl ?_
        refine sw_get X inG7 mi_50 (ce_7 (rfl : kd 50 = 7)) rfl 42 (by decide) (goodW wd512) rfl dX7_isOfRow_39 ?_
        refine sw_bipush hx hb 8 dX7_isOfRow_42 (by decide) ?_
        refine sw_icmp_ne hx hb 54 dX7_isOfRow_44 (by decide) h (fun h => ?_) (fun h => ?_)
        · refine sw_aload_n hx hb dX7_isOfRow_54 1 rfl rfl ?_
          refine sw_get X inG7 mi_50 (ce_7 (rfl : kd 50 = 7)) rfl 42 (by decide) (goodW wd512) rfl dX7_isOfRow_55 ?_
          refine sw_iconst hx hb 2 dX7_isOfRow_58 (by decide) ?_
          refine sw_icmp_ne hx hb 77 dX7_isOfRow_59 (by decide) h (fun h => ?_) (fun h => ?_)
          · refine sw_sub (lv1 := [(2, .int v_1)]) [0] rfl ?_
            exact wX7_isOfRow_L77 X hr v_1 M h
          · refine sw_aload_n hx hb dX7_isOfRow_62 1 rfl rfl ?_
            refine sw_get X inG7 mi_50 (ce_7 (rfl : kd 50 = 7)) rfl 9 (by decide) (goodW wd505) rfl dX7_isOfRow_63 ?_
            refine sw_if_ne hx hb 77 dX7_isOfRow_66 (by decide) h (fun h => ?_) (fun h => ?_)
            · refine sw_sub (lv1 := [(2, .int v_1)]) [0] rfl ?_
              exact wX7_isOfRow_L77 X hr v_1 M h
            · refine sw_aload_n hx hb dX7_isOfRow_69 1 rfl rfl ?_
              refine sw_iload_n hx hb dX7_isOfRow_70 2 rfl rfl ?_
              refine sw_callVI (C := RX7) (As := [.int x1]) (rest := []) X mi_50 (ce_7 (rfl : kd 50 = 7)) rfl rfl (fun _ hz => okX7_isOfWord l X.2.2.2.2.2.2.1 x1 M _ hz) (cwX7_227 X.2.2.2.2.1 ⟨Nat.le_of_ble_eq_true rfl, Nat.le_of_ble_eq_true rfl⟩)  rfl rfl (Nat.le_of_ble_eq_true rfl) dX7_isOfRow_71 ⟨Nat.le_of_ble_eq_true rfl, Nat.le_of_ble_eq_true rfl⟩ h (fun v_7 M_6 _ h => ?_)
              refine sw_goto hx hb 89 dX7_isOfRow_74 (by decide) ?_
              exact sw_Zret X hr dX7_isOfRow_89 h
        · refine sw_iload_n hx hb dX7_isOfRow_47 0 rfl rfl ?_
          refine sw_callSI (As := [.int v_1]) (rest := []) X (fun _ hz => okX7_isOther l X.2.2.2.2.2.2.1 v_1 M _ hz) (cwX7_224 X.2.2.2.2.1 ⟨Nat.le_of_ble_eq_true rfl, Nat.le_of_ble_eq_true rfl⟩)  rfl rfl (Nat.le_of_ble_eq_true rfl) dX7_isOfRow_48 ⟨Nat.le_of_ble_eq_true rfl, Nat.le_of_ble_eq_true rfl⟩ h (fun v_9 M_8 _ h => ?_)
          refine sw_goto hx hb 89 dX7_isOfRow_51 (by decide) ?_
          exact sw_Zret X hr dX7_isOfRow_89 h
      · refine sw_sub (lv1 := [(2, .int v_1)]) [0] rfl ?_
        exact wX7_isOfRow_L31 X hr v_1 M h

end
theorem okX7_isOfRow (l : Launch) {D : va_G} {cy : Nat → ClassId} {ad : Nat → Nat} (hD : ∀ M : Mem, va_D (AA ad iY) (wl cy ad iY M)) (x1 : Int32) (M : Mem) (z : Int32 × Mem) (h : fX7_isOfRow x1 M = some z) : CTI l yX7_isOfRow (wsG yX7_isOfRow cX7_isOfRow 3 (some .boolean)) rm_X7_isOfRow D cy ad iY [.ref (ad 50), .int x1] M z :=
  met_of (cc := cX7_isOfRow) (maxL := 3) (ret := (some .boolean)) (own := RX7) (by decide) rfl rfl hD ndY (Nat.le_of_ble_eq_true rfl) (fun p e s m below meth c X hr => wX7_isOfRow_E X hr x1 M h)
abbrev QX7_isLink (below : List Frame) (D : va_G) (cy : Nat → ClassId) (ad : Nat → Nat) (args : Array Value) (s : State) (z : Int32 × Mem) : State → Prop := MQ below (va_Qi (fun r u => r = z.1 ∧ u = z.2) (BB D cy ad iY) (AA ad iY)) args s 0 0 (AA ad iY)
section
variable {p : Program} {l : Launch} {e : Env} {s : State} {m : MethodId} {args : Array Value} {below : List Frame} {meth : Method} {c : Code} {D : va_G} {cy : Nat → ClassId} {ad : Nat → Nat} {z : Int32 × Mem}
set_option maxHeartbeats 4000000 in
set_option maxRecDepth 100000 in
theorem wX7_isLink_L102 (X : CX p s m args meth c D cy ad iY cX7_isLink 5 (wsG yX7_isLink cX7_isLink 5 (some .boolean)) RX7) (hr : meth.sig.returnType = (some .boolean)) (M : Mem) (h : fX7_isLink_L102 M = some z) : SW p l e rm_X7_isLink s m args below meth c 0 0 (QX7_isLink below D cy ad args s z) 5 (PH D cy ad iY s M) 102 [] [] := by
  have hx := X.1
  have hb := X.2.1
  unfold fX7_isLink_L102 at h
  refine sw_iconst hx hb 1 dX7_isLink_102 (by decide) ?_
  refine sw_goto hx hb 107 dX7_isLink_103 (by decide) ?_
  exact sw_Zret X hr dX7_isLink_107 h

set_option maxHeartbeats 4000000 in
set_option maxRecDepth 100000 in
theorem wX7_isLink_L33 (X : CX p s m args meth c D cy ad iY cX7_isLink 5 (wsG yX7_isLink cX7_isLink 5 (some .boolean)) RX7) (hr : meth.sig.returnType = (some .boolean)) (k7 : Int32 → Int32 → Int32 → Int32 → Mem → Option (Int32 × Mem)) (hk7 : ∀ (x1 : Int32) (x2 : Int32) (x3 : Int32) (x4 : Int32) (M : Mem), k7 x1 x2 x3 x4 M = some z → SW p l e rm_X7_isLink s m args below meth c 0 0 (QX7_isLink below D cy ad args s z) 5 (PH D cy ad iY s M) 7 [(0, .ref (ad 50)), (1, .int x1), (2, .int x2), (3, .int x3), (4, .int x4)] []) (x1 : Int32) (x2 : Int32) (x4 : Int32) (y0 : Int32) (y1 : Int32) (M : Mem) (h : fX7_isLink_L33 k7 x1 x2 x4 y0 y1 M = some z) : SW p l e rm_X7_isLink s m args below meth c 0 0 (QX7_isLink below D cy ad args s z) 5 (PH D cy ad iY s M) 33 [(0, .ref (ad 50)), (1, .int x1), (2, .int x2), (4, .int x4)] [.int y0, .int y1] := by
  have hx := X.1
  have hb := X.2.1
  unfold fX7_isLink_L33 at h
  refine sw_ior hx hb dX7_isLink_33 ?_
  refine sw_istore_nN hx hb (fun x3_7 => [(3, .int x3_7), (0, .ref (ad 50)), (1, .int x1), (2, .int x2), (4, .int x4)]) dX7_isLink_34 rfl (by decide) (fun _ => rfl) h (fun x3_7 h => ?_)
  refine sw_iincN hx hb (k := 4) (x4 + 1) (fun x4_8 => [(4, .int x4_8), (3, .int x3_7), (0, .ref (ad 50)), (1, .int x1), (2, .int x2)]) dX7_isLink_35 rfl (by rfl) (by decide) (fun _ => rfl) h (fun x4_8 h => ?_)
  refine sw_goto hx hb 7 dX7_isLink_38 (by decide) ?_
  refine sw_sub (lv1 := [(0, .ref (ad 50)), (1, .int x1), (2, .int x2), (3, .int x3_7), (4, .int x4_8)]) [2, 3, 4, 1, 0] rfl ?_
  exact hk7 x1 x2 x3_7 x4_8 M h

set_option maxHeartbeats 4000000 in
set_option maxRecDepth 100000 in
theorem wX7_isLink_H7 (X : CX p s m args meth c D cy ad iY cX7_isLink 5 (wsG yX7_isLink cX7_isLink 5 (some .boolean)) RX7) (hr : meth.sig.returnType = (some .boolean)) : ∀ (n : Nat) (x1 : Int32) (x2 : Int32) (x3 : Int32) (x4 : Int32) (M : Mem), fX7_isLink_H7 n x1 x2 x3 x4 M = some z → SW p l e rm_X7_isLink s m args below meth c 0 0 (QX7_isLink below D cy ad args s z) 5 (PH D cy ad iY s M) 7 [(0, .ref (ad 50)), (1, .int x1), (2, .int x2), (3, .int x3), (4, .int x4)] [] := by
  have hx := X.1
  have hb := X.2.1
  intro n
  induction n with
  | zero =>
    intro x1 x2 x3 x4 M h
    have h : (none : Option (Int32 × Mem)) = some z := h
    cases h
  | succ n ih =>
    intro x1 x2 x3 x4 M h
    rw [fX7_isLink_H7] at h
    refine sw_iload hx hb dX7_isLink_7 4 rfl ?_
    refine sw_iload_n hx hb dX7_isLink_9 2 rfl rfl ?_
    refine sw_iconst hx hb 1 dX7_isLink_10 (by decide) ?_
    refine sw_isub hx hb dX7_isLink_11 ?_
    refine sw_icmp_ge hx hb 41 dX7_isLink_12 (by decide) h (fun h => ?_) (fun h => ?_)
    · refine sw_iload_n hx hb dX7_isLink_41 3 rfl rfl ?_
      refine sw_if_ne hx hb 102 dX7_isLink_42 (by decide) h (fun h => ?_) (fun h => ?_)
      · refine sw_sub (lv1 := []) [] rfl ?_
        exact wX7_isLink_L102 X hr M h
      · refine sw_iload_n hx hb dX7_isLink_45 2 rfl rfl ?_
        refine sw_iload_n hx hb dX7_isLink_46 1 rfl rfl ?_
        refine sw_isub hx hb dX7_isLink_47 ?_
        refine sw_iconst hx hb 4 dX7_isLink_48 (by decide) ?_
        refine sw_icmp_le hx hb 106 dX7_isLink_49 (by decide) h (fun h => ?_) (fun h => ?_)
        · refine sw_iconst hx hb 0 dX7_isLink_106 (by decide) ?_
          exact sw_Zret X hr dX7_isLink_107 h
        · refine sw_aload_n hx hb dX7_isLink_52 0 rfl rfl ?_
          refine sw_get X inG7 mi_50 (ce_7 (rfl : kd 50 = 7)) rfl 2 (by decide) (goodW wd409) rfl dX7_isLink_53 ?_
          refine sw_iload_n hx hb dX7_isLink_56 1 rfl rfl ?_
          refine sw_iald X mi_53 (rfl : kd 53 = 9) dX7_isLink_57 h (fun v_2 h => ?_)
          refine sw_bipush hx hb 119 dX7_isLink_58 (by decide) ?_
          refine sw_icmp_ne hx hb 106 dX7_isLink_60 (by decide) h (fun h => ?_) (fun h => ?_)
          · refine sw_iconst hx hb 0 dX7_isLink_106 (by decide) ?_
            exact sw_Zret X hr dX7_isLink_107 h
          · refine sw_aload_n hx hb dX7_isLink_63 0 rfl rfl ?_
            refine sw_get X inG7 mi_50 (ce_7 (rfl : kd 50 = 7)) rfl 2 (by decide) (goodW wd409) rfl dX7_isLink_64 ?_
            refine sw_iload_n hx hb dX7_isLink_67 1 rfl rfl ?_
            refine sw_iconst hx hb 1 dX7_isLink_68 (by decide) ?_
            refine sw_iadd hx hb dX7_isLink_69 ?_
            refine sw_iald X mi_53 (rfl : kd 53 = 9) dX7_isLink_70 h (fun v_3 h => ?_)
            refine sw_bipush hx hb 119 dX7_isLink_71 (by decide) ?_
            refine sw_icmp_ne hx hb 106 dX7_isLink_73 (by decide) h (fun h => ?_) (fun h => ?_)
            · refine sw_iconst hx hb 0 dX7_isLink_106 (by decide) ?_
              exact sw_Zret X hr dX7_isLink_107 h
            · refine sw_aload_n hx hb dX7_isLink_76 0 rfl rfl ?_
              refine sw_get X inG7 mi_50 (ce_7 (rfl : kd 50 = 7)) rfl 2 (by decide) (goodW wd409) rfl dX7_isLink_77 ?_
              refine sw_iload_n hx hb dX7_isLink_80 1 rfl rfl ?_
              refine sw_iconst hx hb 2 dX7_isLink_81 (by decide) ?_
              refine sw_iadd hx hb dX7_isLink_82 ?_
              refine sw_iald X mi_53 (rfl : kd 53 = 9) dX7_isLink_83 h (fun v_4 h => ?_)
              refine sw_bipush hx hb 119 dX7_isLink_84 (by decide) ?_
              refine sw_icmp_ne hx hb 106 dX7_isLink_86 (by decide) h (fun h => ?_) (fun h => ?_)
              · refine sw_iconst hx hb 0 dX7_isLink_106 (by decide) ?_
                exact sw_Zret X hr dX7_isLink_107 h
              · refine sw_aload_n hx hb dX7_isLink_89 0 rfl rfl ?_
                refine sw_get X inG7 mi_50 (ce_7 (rfl : kd 50 = 7)) rfl 2 (by decide) (goodW wd409) rfl dX7_isLink_90 ?_
                refine sw_iload_n hx hb dX7_isLink_93 1 rfl rfl ?_
                refine sw_iconst hx hb 3 dX7_isLink_94 (by decide) ?_
                refine sw_iadd hx hb dX7_isLink_95 ?_
                refine sw_iald X mi_53 (rfl : kd 53 = 9) dX7_isLink_96 h (fun v_5 h => ?_)
                refine sw_bipush hx hb 46 dX7_isLink_97 (by decide) ?_
                refine sw_icmp_ne hx hb 106 dX7_isLink_99 (by decide) h (fun h => ?_) (fun h => ?_)
                · refine sw_iconst hx hb 0 dX7_isLink_106 (by decide) ?_
                  exact sw_Zret X hr dX7_isLink_107 h
                · refine sw_sub (lv1 := []) [] rfl ?_
                  exact wX7_isLink_L102 X hr M h
    · refine sw_iload_n hx hb dX7_isLink_15 3 rfl rfl ?_
      refine sw_aload_n hx hb dX7_isLink_16 0 rfl rfl ?_
      refine sw_get X inG7 mi_50 (ce_7 (rfl : kd 50 = 7)) rfl 2 (by decide) (goodW wd409) rfl dX7_isLink_17 ?_
      refine sw_iload hx hb dX7_isLink_20 4 rfl ?_
      refine sw_iald X mi_53 (rfl : kd 53 = 9) dX7_isLink_22 h (fun v_6 h => ?_)
      refine sw_bipush hx hb 64 dX7_isLink_23 (by decide) ?_
      refine sw_icmp_ne hx hb 32 dX7_isLink_25 (by decide) h (fun h => ?_) (fun h => ?_)
      · refine sw_iconst hx hb 0 dX7_isLink_32 (by decide) ?_
        refine sw_sub (lv1 := [(0, .ref (ad 50)), (1, .int x1), (2, .int x2), (4, .int x4)]) [0, 1, 2, 4] rfl ?_
        exact wX7_isLink_L33 X hr (fX7_isLink_H7 n) ih x1 x2 x4 0 x3 M h
      · refine sw_iconst hx hb 1 dX7_isLink_28 (by decide) ?_
        refine sw_goto hx hb 33 dX7_isLink_29 (by decide) ?_
        refine sw_sub (lv1 := [(0, .ref (ad 50)), (1, .int x1), (2, .int x2), (4, .int x4)]) [0, 1, 2, 4] rfl ?_
        exact wX7_isLink_L33 X hr (fX7_isLink_H7 n) ih x1 x2 x4 1 x3 M h

set_option maxHeartbeats 4000000 in
set_option maxRecDepth 100000 in
theorem wX7_isLink_E (X : CX p s m args meth c D cy ad iY cX7_isLink 5 (wsG yX7_isLink cX7_isLink 5 (some .boolean)) RX7) (hr : meth.sig.returnType = (some .boolean)) (x1 : Int32) (x2 : Int32) (M : Mem) (h : fX7_isLink x1 x2 M = some z) : SW p l e rm_X7_isLink s m args below meth c 0 0 (QX7_isLink below D cy ad args s z) 5 (PH D cy ad iY s M) 0 [(0, .ref (ad 50)), (1, .int x1), (2, .int x2)] [] := by
  have hx := X.1
  have hb := X.2.1
  unfold fX7_isLink at h
  refine sw_iconst hx hb 0 dX7_isLink_0 (by decide) ?_
  refine sw_istore_n hx hb [(3, .int 0), (0, .ref (ad 50)), (1, .int x1), (2, .int x2)] dX7_isLink_1 rfl (by decide) rfl ?_
  refine sw_iload_n hx hb dX7_isLink_2 2 rfl rfl ?_
  refine sw_iconst hx hb 1 dX7_isLink_3 (by decide) ?_
  refine sw_iadd hx hb dX7_isLink_4 ?_
  refine sw_istoreN hx hb (fun x4_1 => [(4, .int x4_1), (3, .int 0), (0, .ref (ad 50)), (1, .int x1), (2, .int x2)]) dX7_isLink_5 (by decide) (fun _ => rfl) h (fun x4_1 h => ?_)
  refine sw_sub (lv1 := [(0, .ref (ad 50)), (1, .int x1), (2, .int x2), (3, .int 0), (4, .int x4_1)]) [2, 3, 4, 1, 0] rfl ?_
  exact wX7_isLink_H7 X hr FU x1 x2 0 x4_1 M h

end
theorem okX7_isLink (l : Launch) {D : va_G} {cy : Nat → ClassId} {ad : Nat → Nat} (hD : ∀ M : Mem, va_D (AA ad iY) (wl cy ad iY M)) (x1 : Int32) (x2 : Int32) (M : Mem) (z : Int32 × Mem) (h : fX7_isLink x1 x2 M = some z) : CTI l yX7_isLink (wsG yX7_isLink cX7_isLink 5 (some .boolean)) rm_X7_isLink D cy ad iY [.ref (ad 50), .int x1, .int x2] M z :=
  met_of (cc := cX7_isLink) (maxL := 5) (ret := (some .boolean)) (own := RX7) (by decide) rfl rfl hD ndY (Nat.le_of_ble_eq_true rfl) (fun p e s m below meth c X hr => wX7_isLink_E X hr x1 x2 M h)
