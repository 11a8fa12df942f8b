abbrev QX2_placeOf (below : List Frame) (D : va_G) (cy : Nat → ClassId) (ad : Nat → Nat) (args : Array Value) (s : State) (z : Int32 × Mem) : State → Prop := MQ below (va_Qi (fun r u => r = z.1 ∧ u = z.2) (BB D cy ad iX) (AA ad iX)) args s 0 0 (AA ad iX)
section
variable {p : Program} {l : Launch} {e : Env} {s : State} {m : MethodId} {args : Array Value} {below : List Frame} {meth : Method} {c : Code} {D : va_G} {cy : Nat → ClassId} {ad : Nat → Nat} {z : Int32 × Mem}
set_option maxHeartbeats 4000000 in
set_option maxRecDepth 100000 in
theorem wX2_placeOf_E (X : CX p s m args meth c D cy ad iX cX2_placeOf 2 (wsG yX2_placeOf cX2_placeOf 2 (some .int)) RX2) (hr : meth.sig.returnType = (some .int)) (x1 : Int32) (M : Mem) (h : fX2_placeOf x1 M = some z) : SW p l e rm_X2_placeOf s m args below meth c 0 0 (QX2_placeOf below D cy ad args s z) 2 (PH D cy ad iX s M) 0 [(0, .ref (ad 5)), (1, .int x1)] [] := by
  have hx := X.1
  have hb := X.2.1
  unfold fX2_placeOf at h
  refine sw_aload_n hx hb dX2_placeOf_0 0 rfl rfl ?_
  refine sw_iload_n hx hb dX2_placeOf_1 1 rfl rfl ?_
  refine sw_callVI (C := RX2) (As := [.int x1]) (rest := []) X mi_5 (ce_2 (rfl : kd 5 = 2)) rfl rfl (fun _ hz => okX2_has l X.2.2.2.2.2.2.1 x1 M _ hz) (cwX2_44 X.2.2.2.2.1 ⟨Nat.le_of_ble_eq_true rfl, Nat.le_of_ble_eq_true rfl⟩)  rfl rfl (Nat.le_of_ble_eq_true rfl) dX2_placeOf_2 ⟨Nat.le_of_ble_eq_true rfl, Nat.le_of_ble_eq_true rfl⟩ h (fun v_2 M_1 _ h => ?_)
  refine sw_if_eq hx hb 17 dX2_placeOf_5 (by decide) h (fun h => ?_) (fun h => ?_)
  · refine sw_iconst hx hb (-1) dX2_placeOf_17 (by decide) ?_
    exact sw_Iret X hr dX2_placeOf_18 h
  · refine sw_aload_n hx hb dX2_placeOf_8 0 rfl rfl ?_
    refine sw_get X inG2 mi_5 (ce_2 (rfl : kd 5 = 2)) rfl 0 (by decide) (goodW wd244) rfl dX2_placeOf_9 ?_
    refine sw_iload_n hx hb dX2_placeOf_12 1 rfl rfl ?_
    refine sw_iald X mi_6 (rfl : kd 6 = 9) dX2_placeOf_13 h (fun v_3 h => ?_)
    refine sw_goto hx hb 18 dX2_placeOf_14 (by decide) ?_
    exact sw_Iret X hr dX2_placeOf_18 h

end
theorem okX2_placeOf (l : Launch) {D : va_G} {cy : Nat → ClassId} {ad : Nat → Nat} (hD : ∀ M : Mem, va_D (AA ad iX) (wl cy ad iX M)) (x1 : Int32) (M : Mem) (z : Int32 × Mem) (h : fX2_placeOf x1 M = some z) : CTI l yX2_placeOf (wsG yX2_placeOf cX2_placeOf 2 (some .int)) rm_X2_placeOf D cy ad iX [.ref (ad 5), .int x1] M z :=
  met_of (cc := cX2_placeOf) (maxL := 2) (ret := (some .int)) (own := RX2) (by decide) rfl rfl hD ndX (Nat.le_of_ble_eq_true rfl) (fun p e s m below meth c X hr => wX2_placeOf_E X hr x1 M h)
abbrev QX2_endOf (below : List Frame) (D : va_G) (cy : Nat → ClassId) (ad : Nat → Nat) (args : Array Value) (s : State) (z : Int32 × Mem) : State → Prop := MQ below (va_Qi (fun r u => r = z.1 ∧ u = z.2) (BB D cy ad iX) (AA ad iX)) args s 0 0 (AA ad iX)
section
variable {p : Program} {l : Launch} {e : Env} {s : State} {m : MethodId} {args : Array Value} {below : List Frame} {meth : Method} {c : Code} {D : va_G} {cy : Nat → ClassId} {ad : Nat → Nat} {z : Int32 × Mem}
set_option maxHeartbeats 4000000 in
set_option maxRecDepth 100000 in
theorem wX2_endOf_E (X : CX p s m args meth c D cy ad iX cX2_endOf 2 (wsG yX2_endOf cX2_endOf 2 (some .int)) RX2) (hr : meth.sig.returnType = (some .int)) (x1 : Int32) (M : Mem) (h : fX2_endOf x1 M = some z) : SW p l e rm_X2_endOf s m args below meth c 0 0 (QX2_endOf below D cy ad args s z) 2 (PH D cy ad iX s M) 0 [(0, .ref (ad 5)), (1, .int x1)] [] := by
  have hx := X.1
  have hb := X.2.1
  unfold fX2_endOf at h
  refine sw_aload_n hx hb dX2_endOf_0 0 rfl rfl ?_
  refine sw_iload_n hx hb dX2_endOf_1 1 rfl rfl ?_
  refine sw_callVI (C := RX2) (As := [.int x1]) (rest := []) X mi_5 (ce_2 (rfl : kd 5 = 2)) rfl rfl (fun _ hz => okX2_has l X.2.2.2.2.2.2.1 x1 M _ hz) (cwX2_44 X.2.2.2.2.1 ⟨Nat.le_of_ble_eq_true rfl, Nat.le_of_ble_eq_true rfl⟩)  rfl rfl (Nat.le_of_ble_eq_true rfl) dX2_endOf_2 ⟨Nat.le_of_ble_eq_true rfl, Nat.le_of_ble_eq_true rfl⟩ h (fun v_2 M_1 _ h => ?_)
  refine sw_if_eq hx hb 17 dX2_endOf_5 (by decide) h (fun h => ?_) (fun h => ?_)
  · refine sw_iconst hx hb (-1) dX2_endOf_17 (by decide) ?_
    exact sw_Iret X hr dX2_endOf_18 h
  · refine sw_aload_n hx hb dX2_endOf_8 0 rfl rfl ?_
    refine sw_get X inG2 mi_5 (ce_2 (rfl : kd 5 = 2)) rfl 1 (by decide) (goodW wd245) rfl dX2_endOf_9 ?_
    refine sw_iload_n hx hb dX2_endOf_12 1 rfl rfl ?_
    refine sw_iald X mi_7 (rfl : kd 7 = 9) dX2_endOf_13 h (fun v_3 h => ?_)
    refine sw_goto hx hb 18 dX2_endOf_14 (by decide) ?_
    exact sw_Iret X hr dX2_endOf_18 h

end
theorem okX2_endOf (l : Launch) {D : va_G} {cy : Nat → ClassId} {ad : Nat → Nat} (hD : ∀ M : Mem, va_D (AA ad iX) (wl cy ad iX M)) (x1 : Int32) (M : Mem) (z : Int32 × Mem) (h : fX2_endOf x1 M = some z) : CTI l yX2_endOf (wsG yX2_endOf cX2_endOf 2 (some .int)) rm_X2_endOf D cy ad iX [.ref (ad 5), .int x1] M z :=
  met_of (cc := cX2_endOf) (maxL := 2) (ret := (some .int)) (own := RX2) (by decide) rfl rfl hD ndX (Nat.le_of_ble_eq_true rfl) (fun p e s m below meth c X hr => wX2_endOf_E X hr x1 M h)
abbrev QX2_positionOf (below : List Frame) (D : va_G) (cy : Nat → ClassId) (ad : Nat → Nat) (args : Array Value) (s : State) (z : Int32 × Mem) : State → Prop := MQ below (va_Qi (fun r u => r = z.1 ∧ u = z.2) (BB D cy ad iX) (AA ad iX)) args s 0 0 (AA ad iX)
section
variable {p : Program} {l : Launch} {e : Env} {s : State} {m : MethodId} {args : Array Value} {below : List Frame} {meth : Method} {c : Code} {D : va_G} {cy : Nat → ClassId} {ad : Nat → Nat} {z : Int32 × Mem}
set_option maxHeartbeats 4000000 in
set_option maxRecDepth 100000 in
theorem wX2_positionOf_E (X : CX p s m args meth c D cy ad iX cX2_positionOf 2 (wsG yX2_positionOf cX2_positionOf 2 (some .int)) RX2) (hr : meth.sig.returnType = (some .int)) (x1 : Int32) (M : Mem) (h : fX2_positionOf x1 M = some z) : SW p l e rm_X2_positionOf s m args below meth c 0 0 (QX2_positionOf below D cy ad args s z) 2 (PH D cy ad iX s M) 0 [(0, .ref (ad 5)), (1, .int x1)] [] := by
  have hx := X.1
  have hb := X.2.1
  unfold fX2_positionOf at h
  refine sw_aload_n hx hb dX2_positionOf_0 0 rfl rfl ?_
  refine sw_iload_n hx hb dX2_positionOf_1 1 rfl rfl ?_
  refine sw_callVI (C := RX2) (As := [.int x1]) (rest := []) X mi_5 (ce_2 (rfl : kd 5 = 2)) rfl rfl (fun _ hz => okX2_has l X.2.2.2.2.2.2.1 x1 M _ hz) (cwX2_44 X.2.2.2.2.1 ⟨Nat.le_of_ble_eq_true rfl, Nat.le_of_ble_eq_true rfl⟩)  rfl rfl (Nat.le_of_ble_eq_true rfl) dX2_positionOf_2 ⟨Nat.le_of_ble_eq_true rfl, Nat.le_of_ble_eq_true rfl⟩ h (fun v_2 M_1 _ h => ?_)
  refine sw_if_eq hx hb 17 dX2_positionOf_5 (by decide) h (fun h => ?_) (fun h => ?_)
  · refine sw_iconst hx hb (-1) dX2_positionOf_17 (by decide) ?_
    exact sw_Iret X hr dX2_positionOf_18 h
  · refine sw_aload_n hx hb dX2_positionOf_8 0 rfl rfl ?_
    refine sw_get X inG2 mi_5 (ce_2 (rfl : kd 5 = 2)) rfl 2 (by decide) (goodW wd246) rfl dX2_positionOf_9 ?_
    refine sw_iload_n hx hb dX2_positionOf_12 1 rfl rfl ?_
    refine sw_iald X mi_8 (rfl : kd 8 = 9) dX2_positionOf_13 h (fun v_3 h => ?_)
    refine sw_goto hx hb 18 dX2_positionOf_14 (by decide) ?_
    exact sw_Iret X hr dX2_positionOf_18 h

end
theorem okX2_positionOf (l : Launch) {D : va_G} {cy : Nat → ClassId} {ad : Nat → Nat} (hD : ∀ M : Mem, va_D (AA ad iX) (wl cy ad iX M)) (x1 : Int32) (M : Mem) (z : Int32 × Mem) (h : fX2_positionOf x1 M = some z) : CTI l yX2_positionOf (wsG yX2_positionOf cX2_positionOf 2 (some .int)) rm_X2_positionOf D cy ad iX [.ref (ad 5), .int x1] M z :=
  met_of (cc := cX2_positionOf) (maxL := 2) (ret := (some .int)) (own := RX2) (by decide) rfl rfl hD ndX (Nat.le_of_ble_eq_true rfl) (fun p e s m below meth c X hr => wX2_positionOf_E X hr x1 M h)
abbrev QX6_token (below : List Frame) (D : va_G) (cy : Nat → ClassId) (ad : Nat → Nat) (args : Array Value) (s : State) (z : Int32 × Mem) : State → Prop := MQ below (va_Qi (fun r u => r = z.1 ∧ u = z.2) (BB D cy ad iX) (AA ad iX)) args s 0 0 (AA ad iX)
section
variable {p : Program} {l : Launch} {e : Env} {s : State} {m : MethodId} {args : Array Value} {below : List Frame} {meth : Method} {c : Code} {D : va_G} {cy : Nat → ClassId} {ad : Nat → Nat} {z : Int32 × Mem}
set_option maxHeartbeats 4000000 in
set_option maxRecDepth 100000 in
theorem wX6_token_E (X : CX p s m args meth c D cy ad iX cX6_token 3 (wsG yX6_token cX6_token 3 (some .int)) RX6) (hr : meth.sig.returnType = (some .int)) (x1 : Int32) (x2 : Int32) (M : Mem) (h : fX6_token x1 x2 M = some z) : SW p l e rm_X6_token s m args below meth c 0 0 (QX6_token below D cy ad args s z) 3 (PH D cy ad iX s M) 0 [(0, .ref (ad 0)), (1, .int x1), (2, .int x2)] [] := by
  have hx := X.1
  have hb := X.2.1
  unfold fX6_token at h
  refine sw_aload_n hx hb dX6_token_0 0 rfl rfl ?_
  refine sw_get X inG6 mi_0 (ce_6 (rfl : kd 0 = 6)) rfl 2 (by decide) (goodW wd28) rfl dX6_token_1 ?_
  refine sw_iload_n hx hb dX6_token_4 1 rfl rfl ?_
  refine sw_callVI (C := RX2) (As := [.int x1]) (rest := []) X mi_5 (ce_2 (rfl : kd 5 = 2)) rfl rfl (fun _ hz => okX2_has l X.2.2.2.2.2.2.1 x1 M _ hz) (cwX6_110 X.2.2.2.2.1 ⟨Nat.le_of_ble_eq_true rfl, Nat.le_of_ble_eq_true rfl⟩)  rfl rfl (Nat.le_of_ble_eq_true rfl) dX6_token_5 ⟨Nat.le_of_ble_eq_true rfl, Nat.le_of_ble_eq_true rfl⟩ h (fun v_2 M_1 _ h => ?_)
  refine sw_if_ne hx hb 13 dX6_token_8 (by decide) h (fun h => ?_) (fun h => ?_)
  · refine sw_iload_n hx hb dX6_token_13 2 rfl rfl ?_
    refine ifc h (fun hc14_0 h => ?_) (fun hc14_0 h => ?_)
    · refine sw_tableIn hx hb (off := 26) 40 dX6_token_14 (by rw [hc14_0]; decide) (by rw [hc14_0]; decide) (by rw [hc14_0]; decide +kernel) (by decide) ?_
      refine sw_aload_n hx hb dX6_token_40 0 rfl rfl ?_
      refine sw_get X inG6 mi_0 (ce_6 (rfl : kd 0 = 6)) rfl 2 (by decide) (goodW wd28) rfl dX6_token_41 ?_
      refine sw_iload_n hx hb dX6_token_44 1 rfl rfl ?_
      refine sw_callVI (C := RX2) (As := [.int x1]) (rest := []) X mi_5 (ce_2 (rfl : kd 5 = 2)) rfl rfl (fun _ hz => okX2_placeOf l X.2.2.2.2.2.2.1 x1 M_1 _ hz) (cwX6_113 X.2.2.2.2.1 ⟨Nat.le_of_ble_eq_true rfl, Nat.le_of_ble_eq_true rfl⟩)  rfl rfl (Nat.le_of_ble_eq_true rfl) dX6_token_45 ⟨Nat.le_of_ble_eq_true rfl, Nat.le_of_ble_eq_true rfl⟩ h (fun v_4 M_3 _ h => ?_)
      exact sw_Iret X hr dX6_token_48 h
    · skip
      refine ifc h (fun hc14_1 h => ?_) (fun hc14_1 h => ?_)
      · refine sw_tableIn hx hb (off := 35) 49 dX6_token_14 (by rw [hc14_1]; decide) (by rw [hc14_1]; decide) (by rw [hc14_1]; decide +kernel) (by decide) ?_
        refine sw_aload_n hx hb dX6_token_49 0 rfl rfl ?_
        refine sw_get X inG6 mi_0 (ce_6 (rfl : kd 0 = 6)) rfl 2 (by decide) (goodW wd28) rfl dX6_token_50 ?_
        refine sw_iload_n hx hb dX6_token_53 1 rfl rfl ?_
        refine sw_callVI (C := RX2) (As := [.int x1]) (rest := []) X mi_5 (ce_2 (rfl : kd 5 = 2)) rfl rfl (fun _ hz => okX2_endOf l X.2.2.2.2.2.2.1 x1 M_1 _ hz) (cwX6_116 X.2.2.2.2.1 ⟨Nat.le_of_ble_eq_true rfl, Nat.le_of_ble_eq_true rfl⟩)  rfl rfl (Nat.le_of_ble_eq_true rfl) dX6_token_54 ⟨Nat.le_of_ble_eq_true rfl, Nat.le_of_ble_eq_true rfl⟩ h (fun v_6 M_5 _ h => ?_)
        exact sw_Iret X hr dX6_token_57 h
      · skip
        refine ifc h (fun hc14_2 h => ?_) (fun hc14_2 h => ?_)
        · refine sw_tableIn hx hb (off := 44) 58 dX6_token_14 (by rw [hc14_2]; decide) (by rw [hc14_2]; decide) (by rw [hc14_2]; decide +kernel) (by decide) ?_
          refine sw_aload_n hx hb dX6_token_58 0 rfl rfl ?_
          refine sw_get X inG6 mi_0 (ce_6 (rfl : kd 0 = 6)) rfl 2 (by decide) (goodW wd28) rfl dX6_token_59 ?_
          refine sw_iload_n hx hb dX6_token_62 1 rfl rfl ?_
          refine sw_callVI (C := RX2) (As := [.int x1]) (rest := []) X mi_5 (ce_2 (rfl : kd 5 = 2)) rfl rfl (fun _ hz => okX2_positionOf l X.2.2.2.2.2.2.1 x1 M_1 _ hz) (cwX6_119 X.2.2.2.2.1 ⟨Nat.le_of_ble_eq_true rfl, Nat.le_of_ble_eq_true rfl⟩)  rfl rfl (Nat.le_of_ble_eq_true rfl) dX6_token_63 ⟨Nat.le_of_ble_eq_true rfl, Nat.le_of_ble_eq_true rfl⟩ h (fun v_8 M_7 _ h => ?_)
          exact sw_Iret X hr dX6_token_66 h
        · skip
          refine sw_tableOut hx hb 67 dX6_token_14 (by have q0 := lv_neT hc14_0 (show (0 : Int32).toInt = 0 from rfl); have q1 := lv_neT hc14_1 (show (1 : Int32).toInt = 1 from rfl); have q2 := lv_neT hc14_2 (show (2 : Int32).toInt = 2 from rfl); omega) (by decide) ?_
          refine sw_iconst hx hb (-1) dX6_token_67 (by decide) ?_
          exact sw_Iret X hr dX6_token_68 h
  · refine sw_iconst hx hb (-1) dX6_token_11 (by decide) ?_
    exact sw_Iret X hr dX6_token_12 h

end
theorem okX6_token (l : Launch) {D : va_G} {cy : Nat → ClassId} {ad : Nat → Nat} (hD : ∀ M : Mem, va_D (AA ad iX) (wl cy ad iX M)) (x1 : Int32) (x2 : Int32) (M : Mem) (z : Int32 × Mem) (h : fX6_token x1 x2 M = some z) : CTI l yX6_token (wsG yX6_token cX6_token 3 (some .int)) rm_X6_token D cy ad iX [.ref (ad 0), .int x1, .int x2] M z :=
  met_of (cc := cX6_token) (maxL := 3) (ret := (some .int)) (own := RX6) (by decide) rfl rfl hD ndX (Nat.le_of_ble_eq_true rfl) (fun p e s m below meth c X hr => wX6_token_E X hr x1 x2 M h)
abbrev QX2_lengthOf (below : List Frame) (D : va_G) (cy : Nat → ClassId) (ad : Nat → Nat) (args : Array Value) (s : State) (z : Int32 × Mem) : State → Prop := MQ below (va_Qi (fun r u => r = z.1 ∧ u = z.2) (BB D cy ad iX) (AA ad iX)) args s 0 0 (AA ad iX)
section
variable {p : Program} {l : Launch} {e : Env} {s : State} {m : MethodId} {args : Array Value} {below : List Frame} {meth : Method} {c : Code} {D : va_G} {cy : Nat → ClassId} {ad : Nat → Nat} {z : Int32 × Mem}
set_option maxHeartbeats 4000000 in
set_option maxRecDepth 100000 in
theorem wX2_lengthOf_E (X : CX p s m args meth c D cy ad iX cX2_lengthOf 2 (wsG yX2_lengthOf cX2_lengthOf 2 (some .int)) RX2) (hr : meth.sig.returnType = (some .int)) (x1 : Int32) (M : Mem) (h : fX2_lengthOf x1 M = some z) : SW p l e rm_X2_lengthOf s m args below meth c 0 0 (QX2_lengthOf below D cy ad args s z) 2 (PH D cy ad iX s M) 0 [(0, .ref (ad 5)), (1, .int x1)] [] := by
  have hx := X.1
  have hb := X.2.1
  unfold fX2_lengthOf at h
  refine sw_aload_n hx hb dX2_lengthOf_0 0 rfl rfl ?_
  refine sw_iload_n hx hb dX2_lengthOf_1 1 rfl rfl ?_
  refine sw_callVI (C := RX2) (As := [.int x1]) (rest := []) X mi_5 (ce_2 (rfl : kd 5 = 2)) rfl rfl (fun _ hz => okX2_endOf l X.2.2.2.2.2.2.1 x1 M _ hz) (cwX2_48 X.2.2.2.2.1 ⟨Nat.le_of_ble_eq_true rfl, Nat.le_of_ble_eq_true rfl⟩)  rfl rfl (Nat.le_of_ble_eq_true rfl) dX2_lengthOf_2 ⟨Nat.le_of_ble_eq_true rfl, Nat.le_of_ble_eq_true rfl⟩ h (fun v_2 M_1 _ h => ?_)
  refine sw_aload_n hx hb dX2_lengthOf_5 0 rfl rfl ?_
  refine sw_iload_n hx hb dX2_lengthOf_6 1 rfl rfl ?_
  refine sw_callVI (C := RX2) (As := [.int x1]) (rest := [.int v_2]) X mi_5 (ce_2 (rfl : kd 5 = 2)) rfl rfl (fun _ hz => okX2_placeOf l X.2.2.2.2.2.2.1 x1 M_1 _ hz) (cwX2_52 X.2.2.2.2.1 ⟨Nat.le_of_ble_eq_true rfl, Nat.le_of_ble_eq_true rfl⟩)  rfl rfl (Nat.le_of_ble_eq_true rfl) dX2_lengthOf_7 ⟨Nat.le_of_ble_eq_true rfl, Nat.le_of_ble_eq_true rfl⟩ h (fun v_4 M_3 _ h => ?_)
  refine sw_isub hx hb dX2_lengthOf_10 ?_
  exact sw_Iret X hr dX2_lengthOf_11 h

end
theorem okX2_lengthOf (l : Launch) {D : va_G} {cy : Nat → ClassId} {ad : Nat → Nat} (hD : ∀ M : Mem, va_D (AA ad iX) (wl cy ad iX M)) (x1 : Int32) (M : Mem) (z : Int32 × Mem) (h : fX2_lengthOf x1 M = some z) : CTI l yX2_lengthOf (wsG yX2_lengthOf cX2_lengthOf 2 (some .int)) rm_X2_lengthOf D cy ad iX [.ref (ad 5), .int x1] M z :=
  met_of (cc := cX2_lengthOf) (maxL := 2) (ret := (some .int)) (own := RX2) (by decide) rfl rfl hD ndX (Nat.le_of_ble_eq_true rfl) (fun p e s m below meth c X hr => wX2_lengthOf_E X hr x1 M h)
abbrev QX6_sign (below : List Frame) (D : va_G) (cy : Nat → ClassId) (ad : Nat → Nat) (args : Array Value) (s : State) (z : Int32 × Mem) : State → Prop := MQ below (va_Qi (fun r u => r = z.1 ∧ u = z.2) (BB D cy ad iX) (AA ad iX)) args s 0 0 (AA ad iX)
section
variable {p : Program} {l : Launch} {e : Env} {s : State} {m : MethodId} {args : Array Value} {below : List Frame} {meth : Method} {c : Code} {D : va_G} {cy : Nat → ClassId} {ad : Nat → Nat} {z : Int32 × Mem}
set_option maxHeartbeats 4000000 in
set_option maxRecDepth 100000 in
theorem wX6_sign_E (X : CX p s m args meth c D cy ad iX cX6_sign 3 (wsG yX6_sign cX6_sign 3 (some .int)) RX6) (hr : meth.sig.returnType = (some .int)) (x1 : Int32) (x2 : Int32) (M : Mem) (h : fX6_sign x1 x2 M = some z) : SW p l e rm_X6_sign s m args below meth c 0 0 (QX6_sign below D cy ad args s z) 3 (PH D cy ad iX s M) 0 [(0, .ref (ad 0)), (1, .int x1), (2, .int x2)] [] := by
  have hx := X.1
  have hb := X.2.1
  unfold fX6_sign at h
  refine sw_aload_n hx hb dX6_sign_0 0 rfl rfl ?_
  refine sw_get X inG6 mi_0 (ce_6 (rfl : kd 0 = 6)) rfl 2 (by decide) (goodW wd28) rfl dX6_sign_1 ?_
  refine sw_iload_n hx hb dX6_sign_4 1 rfl rfl ?_
  refine sw_callVI (C := RX2) (As := [.int x1]) (rest := []) X mi_5 (ce_2 (rfl : kd 5 = 2)) rfl rfl (fun _ hz => okX2_has l X.2.2.2.2.2.2.1 x1 M _ hz) (cwX6_110 X.2.2.2.2.1 ⟨Nat.le_of_ble_eq_true rfl, Nat.le_of_ble_eq_true rfl⟩)  rfl rfl (Nat.le_of_ble_eq_true rfl) dX6_sign_5 ⟨Nat.le_of_ble_eq_true rfl, Nat.le_of_ble_eq_true rfl⟩ h (fun v_2 M_1 _ h => ?_)
  refine sw_if_eq hx hb 27 dX6_sign_8 (by decide) h (fun h => ?_) (fun h => ?_)
  · refine sw_iconst hx hb (-1) dX6_sign_27 (by decide) ?_
    exact sw_Iret X hr dX6_sign_28 h
  · refine sw_iload_n hx hb dX6_sign_11 2 rfl rfl ?_
    refine sw_if_lt hx hb 27 dX6_sign_12 (by decide) h (fun h => ?_) (fun h => ?_)
    · refine sw_iconst hx hb (-1) dX6_sign_27 (by decide) ?_
      exact sw_Iret X hr dX6_sign_28 h
    · refine sw_iload_n hx hb dX6_sign_15 2 rfl rfl ?_
      refine sw_aload_n hx hb dX6_sign_16 0 rfl rfl ?_
      refine sw_get X inG6 mi_0 (ce_6 (rfl : kd 0 = 6)) rfl 2 (by decide) (goodW wd28) rfl dX6_sign_17 ?_
      refine sw_iload_n hx hb dX6_sign_20 1 rfl rfl ?_
      refine sw_callVI (C := RX2) (As := [.int x1]) (rest := [.int x2]) X mi_5 (ce_2 (rfl : kd 5 = 2)) rfl rfl (fun _ hz => okX2_lengthOf l X.2.2.2.2.2.2.1 x1 M_1 _ hz) (cwX6_122 X.2.2.2.2.1 ⟨Nat.le_of_ble_eq_true rfl, Nat.le_of_ble_eq_true rfl⟩)  rfl rfl (Nat.le_of_ble_eq_true rfl) dX6_sign_21 ⟨Nat.le_of_ble_eq_true rfl, Nat.le_of_ble_eq_true rfl⟩ h (fun v_4 M_3 _ h => ?_)
      refine sw_icmp_lt hx hb 29 dX6_sign_24 (by decide) h (fun h => ?_) (fun h => ?_)
      · refine sw_aload_n hx hb dX6_sign_29 0 rfl rfl ?_
        refine sw_get X inG6 mi_0 (ce_6 (rfl : kd 0 = 6)) rfl 1 (by decide) (goodW wd23) rfl dX6_sign_30 ?_
        refine sw_aload_n hx hb dX6_sign_33 0 rfl rfl ?_
        refine sw_get X inG6 mi_0 (ce_6 (rfl : kd 0 = 6)) rfl 2 (by decide) (goodW wd28) rfl dX6_sign_34 ?_
        refine sw_iload_n hx hb dX6_sign_37 1 rfl rfl ?_
        refine sw_callVI (C := RX2) (As := [.int x1]) (rest := [.ref (ad 3)]) X mi_5 (ce_2 (rfl : kd 5 = 2)) rfl rfl (fun _ hz => okX2_placeOf l X.2.2.2.2.2.2.1 x1 M_3 _ hz) (cwX6_113 X.2.2.2.2.1 ⟨Nat.le_of_ble_eq_true rfl, Nat.le_of_ble_eq_true rfl⟩)  rfl rfl (Nat.le_of_ble_eq_true rfl) dX6_sign_38 ⟨Nat.le_of_ble_eq_true rfl, Nat.le_of_ble_eq_true rfl⟩ h (fun v_6 M_5 _ h => ?_)
        refine sw_iload_n hx hb dX6_sign_41 2 rfl rfl ?_
        refine sw_iadd hx hb dX6_sign_42 ?_
        refine sw_callVI (C := RX5) (As := [.int (v_6 + x2)]) (rest := []) X mi_3 (ce_5 (rfl : kd 3 = 5)) rfl rfl (fun _ hz => okX5_at l X.2.2.2.2.2.2.1 3 (v_6 + x2) (rfl : kd 3 = 5) M_5 _ hz) (cwX6_125 X.2.2.2.2.1 ⟨Nat.le_of_ble_eq_true rfl, Nat.le_of_ble_eq_true rfl⟩)  rfl rfl (Nat.le_of_ble_eq_true rfl) dX6_sign_43 ⟨Nat.le_of_ble_eq_true rfl, Nat.le_of_ble_eq_true rfl⟩ h (fun v_8 M_7 _ h => ?_)
        exact sw_Iret X hr dX6_sign_46 h
      · refine sw_iconst hx hb (-1) dX6_sign_27 (by decide) ?_
        exact sw_Iret X hr dX6_sign_28 h

end
theorem okX6_sign (l : Launch) {D : va_G} {cy : Nat → ClassId} {ad : Nat → Nat} (hD : ∀ M : Mem, va_D (AA ad iX) (wl cy ad iX M)) (x1 : Int32) (x2 : Int32) (M : Mem) (z : Int32 × Mem) (h : fX6_sign x1 x2 M = some z) : CTI l yX6_sign (wsG yX6_sign cX6_sign 3 (some .int)) rm_X6_sign D cy ad iX [.ref (ad 0), .int x1, .int x2] M z :=
  met_of (cc := cX6_sign) (maxL := 3) (ret := (some .int)) (own := RX6) (by decide) rfl rfl hD ndX (Nat.le_of_ble_eq_true rfl) (fun p e s m below meth c X hr => wX6_sign_E X hr x1 x2 M h)
abbrev QX6_same (below : List Frame) (D : va_G) (cy : Nat → ClassId) (ad : Nat → Nat) (args : Array Value) (s : State) (z : Int32 × Mem) : State → Prop := MQ below (va_Qi (fun r u => r = z.1 ∧ u = z.2) (BB D cy ad iX) (AA ad iX)) args s 0 0 (AA ad iX)
section
variable {p : Program} {l : Launch} {e : Env} {s : State} {m : MethodId} {args : Array Value} {below : List Frame} {meth : Method} {c : Code} {D : va_G} {cy : Nat → ClassId} {ad : Nat → Nat} {z : Int32 × Mem}
set_option maxHeartbeats 4000000 in
set_option maxRecDepth 100000 in
theorem wX6_same_H50 (X : CX p s m args meth c D cy ad iX cX6_same 5 (wsG yX6_same cX6_same 5 (some .int)) RX6) (hr : meth.sig.returnType = (some .int)) : ∀ (n : Nat) (x1 : Int32) (x2 : Int32) (x3 : Int32) (x4 : Int32) (M : Mem), fX6_same_H50 n x1 x2 x3 x4 M = some z → SW p l e rm_X6_same s m args below meth c 0 0 (QX6_same below D cy ad args s z) 5 (PH D cy ad iX s M) 50 [(0, .ref (ad 0)), (1, .int x1), (2, .int x2), (3, .int x3), (4, .int x4)] [] := by
  have hx := X.1
  have hb := X.2.1
  intro n
  induction n with
  | zero =>
    intro x1 x2 x3 x4 M h
    have h : (none : Option (Int32 × Mem)) = some z := h
    cases h
  | succ n ih =>
    intro x1 x2 x3 x4 M h
    rw [fX6_same_H50] at h
    refine sw_iload hx hb dX6_same_50 4 rfl ?_
    refine sw_iload_n hx hb dX6_same_52 3 rfl rfl ?_
    refine sw_icmp_ge hx hb 103 dX6_same_53 (by decide) h (fun h => ?_) (fun h => ?_)
    · refine sw_iconst hx hb 1 dX6_same_103 (by decide) ?_
      exact sw_Iret X hr dX6_same_104 h
    · refine sw_aload_n hx hb dX6_same_56 0 rfl rfl ?_
      refine sw_get X inG6 mi_0 (ce_6 (rfl : kd 0 = 6)) rfl 1 (by decide) (goodW wd23) rfl dX6_same_57 ?_
      refine sw_aload_n hx hb dX6_same_60 0 rfl rfl ?_
      refine sw_get X inG6 mi_0 (ce_6 (rfl : kd 0 = 6)) rfl 2 (by decide) (goodW wd28) rfl dX6_same_61 ?_
      refine sw_iload_n hx hb dX6_same_64 1 rfl rfl ?_
      refine sw_callVI (C := RX2) (As := [.int x1]) (rest := [.ref (ad 3)]) X mi_5 (ce_2 (rfl : kd 5 = 2)) rfl rfl (fun _ hz => okX2_placeOf l X.2.2.2.2.2.2.1 x1 M _ hz) (cwX6_113 X.2.2.2.2.1 ⟨Nat.le_of_ble_eq_true rfl, Nat.le_of_ble_eq_true rfl⟩)  rfl rfl (Nat.le_of_ble_eq_true rfl) dX6_same_65 ⟨Nat.le_of_ble_eq_true rfl, Nat.le_of_ble_eq_true rfl⟩ h (fun v_10 M_9 _ h => ?_)
      refine sw_iload hx hb dX6_same_68 4 rfl ?_
      refine sw_iadd hx hb dX6_same_70 ?_
      refine sw_callVI (C := RX5) (As := [.int (v_10 + x4)]) (rest := []) X mi_3 (ce_5 (rfl : kd 3 = 5)) rfl rfl (fun _ hz => okX5_at l X.2.2.2.2.2.2.1 3 (v_10 + x4) (rfl : kd 3 = 5) M_9 _ hz) (cwX6_125 X.2.2.2.2.1 ⟨Nat.le_of_ble_eq_true rfl, Nat.le_of_ble_eq_true rfl⟩)  rfl rfl (Nat.le_of_ble_eq_true rfl) dX6_same_71 ⟨Nat.le_of_ble_eq_true rfl, Nat.le_of_ble_eq_true rfl⟩ h (fun v_12 M_11 _ h => ?_)
      refine sw_aload_n hx hb dX6_same_74 0 rfl rfl ?_
      refine sw_get X inG6 mi_0 (ce_6 (rfl : kd 0 = 6)) rfl 1 (by decide) (goodW wd23) rfl dX6_same_75 ?_
      refine sw_aload_n hx hb dX6_same_78 0 rfl rfl ?_
      refine sw_get X inG6 mi_0 (ce_6 (rfl : kd 0 = 6)) rfl 2 (by decide) (goodW wd28) rfl dX6_same_79 ?_
      refine sw_iload_n hx hb dX6_same_82 2 rfl rfl ?_
      refine sw_callVI (C := RX2) (As := [.int x2]) (rest := [.ref (ad 3), .int v_12]) X mi_5 (ce_2 (rfl : kd 5 = 2)) rfl rfl (fun _ hz => okX2_placeOf l X.2.2.2.2.2.2.1 x2 M_11 _ hz) (cwX6_113 X.2.2.2.2.1 ⟨Nat.le_of_ble_eq_true rfl, Nat.le_of_ble_eq_true rfl⟩)  rfl rfl (Nat.le_of_ble_eq_true rfl) dX6_same_83 ⟨Nat.le_of_ble_eq_true rfl, Nat.le_of_ble_eq_true rfl⟩ h (fun v_14 M_13 _ h => ?_)
      refine sw_iload hx hb dX6_same_86 4 rfl ?_
      refine sw_iadd hx hb dX6_same_88 ?_
      refine sw_callVI (C := RX5) (As := [.int (v_14 + x4)]) (rest := [.int v_12]) X mi_3 (ce_5 (rfl : kd 3 = 5)) rfl rfl (fun _ hz => okX5_at l X.2.2.2.2.2.2.1 3 (v_14 + x4) (rfl : kd 3 = 5) M_13 _ hz) (cwX6_125 X.2.2.2.2.1 ⟨Nat.le_of_ble_eq_true rfl, Nat.le_of_ble_eq_true rfl⟩)  rfl rfl (Nat.le_of_ble_eq_true rfl) dX6_same_89 ⟨Nat.le_of_ble_eq_true rfl, Nat.le_of_ble_eq_true rfl⟩ h (fun v_16 M_15 _ h => ?_)
      refine sw_icmp_eq hx hb 97 dX6_same_92 (by decide) h (fun h => ?_) (fun h => ?_)
      · refine sw_iincN hx hb (k := 4) (x4 + 1) (fun x4_17 => [(4, .int x4_17), (0, .ref (ad 0)), (1, .int x1), (2, .int x2), (3, .int x3)]) dX6_same_97 rfl (by rfl) (by decide) (fun _ => rfl) h (fun x4_17 h => ?_)
        refine sw_goto hx hb 50 dX6_same_100 (by decide) ?_
        refine sw_sub (lv1 := [(0, .ref (ad 0)), (1, .int x1), (2, .int x2), (3, .int x3), (4, .int x4_17)]) [1, 2, 3, 4, 0] rfl ?_
        exact ih x1 x2 x3 x4_17 M_15 h
      · refine sw_iconst hx hb 0 dX6_same_95 (by decide) ?_
        exact sw_Iret X hr dX6_same_96 h

set_option maxHeartbeats 4000000 in
set_option maxRecDepth 100000 in
theorem wX6_same_E (X : CX p s m args meth c D cy ad iX cX6_same 5 (wsG yX6_same cX6_same 5 (some .int)) RX6) (hr : meth.sig.returnType = (some .int)) (x1 : Int32) (x2 : Int32) (M : Mem) (h : fX6_same x1 x2 M = some z) : SW p l e rm_X6_same s m args below meth c 0 0 (QX6_same below D cy ad args s z) 5 (PH D cy ad iX s M) 0 [(0, .ref (ad 0)), (1, .int x1), (2, .int x2)] [] := by
  have hx := X.1
  have hb := X.2.1
  unfold fX6_same at h
  refine sw_aload_n hx hb dX6_same_0 0 rfl rfl ?_
  refine sw_get X inG6 mi_0 (ce_6 (rfl : kd 0 = 6)) rfl 2 (by decide) (goodW wd28) rfl dX6_same_1 ?_
  refine sw_iload_n hx hb dX6_same_4 1 rfl rfl ?_
  refine sw_callVI (C := RX2) (As := [.int x1]) (rest := []) X mi_5 (ce_2 (rfl : kd 5 = 2)) rfl rfl (fun _ hz => okX2_has l X.2.2.2.2.2.2.1 x1 M _ hz) (cwX6_110 X.2.2.2.2.1 ⟨Nat.le_of_ble_eq_true rfl, Nat.le_of_ble_eq_true rfl⟩)  rfl rfl (Nat.le_of_ble_eq_true rfl) dX6_same_5 ⟨Nat.le_of_ble_eq_true rfl, Nat.le_of_ble_eq_true rfl⟩ h (fun v_2 M_1 _ h => ?_)
  refine sw_if_eq hx hb 22 dX6_same_8 (by decide) h (fun h => ?_) (fun h => ?_)
  · refine sw_iconst hx hb (-1) dX6_same_22 (by decide) ?_
    exact sw_Iret X hr dX6_same_23 h
  · refine sw_aload_n hx hb dX6_same_11 0 rfl rfl ?_
    refine sw_get X inG6 mi_0 (ce_6 (rfl : kd 0 = 6)) rfl 2 (by decide) (goodW wd28) rfl dX6_same_12 ?_
    refine sw_iload_n hx hb dX6_same_15 2 rfl rfl ?_
    refine sw_callVI (C := RX2) (As := [.int x2]) (rest := []) X mi_5 (ce_2 (rfl : kd 5 = 2)) rfl rfl (fun _ hz => okX2_has l X.2.2.2.2.2.2.1 x2 M_1 _ hz) (cwX6_110 X.2.2.2.2.1 ⟨Nat.le_of_ble_eq_true rfl, Nat.le_of_ble_eq_true rfl⟩)  rfl rfl (Nat.le_of_ble_eq_true rfl) dX6_same_16 ⟨Nat.le_of_ble_eq_true rfl, Nat.le_of_ble_eq_true rfl⟩ h (fun v_4 M_3 _ h => ?_)
    refine sw_if_ne hx hb 24 dX6_same_19 (by decide) h (fun h => ?_) (fun h => ?_)
    · refine sw_aload_n hx hb dX6_same_24 0 rfl rfl ?_
      refine sw_get X inG6 mi_0 (ce_6 (rfl : kd 0 = 6)) rfl 2 (by decide) (goodW wd28) rfl dX6_same_25 ?_
      refine sw_iload_n hx hb dX6_same_28 1 rfl rfl ?_
      refine sw_callVI (C := RX2) (As := [.int x1]) (rest := []) X mi_5 (ce_2 (rfl : kd 5 = 2)) rfl rfl (fun _ hz => okX2_lengthOf l X.2.2.2.2.2.2.1 x1 M_3 _ hz) (cwX6_122 X.2.2.2.2.1 ⟨Nat.le_of_ble_eq_true rfl, Nat.le_of_ble_eq_true rfl⟩)  rfl rfl (Nat.le_of_ble_eq_true rfl) dX6_same_29 ⟨Nat.le_of_ble_eq_true rfl, Nat.le_of_ble_eq_true rfl⟩ h (fun v_6 M_5 _ h => ?_)
      refine sw_istore_n hx hb [(3, .int v_6), (0, .ref (ad 0)), (1, .int x1), (2, .int x2)] dX6_same_32 rfl (by decide) rfl ?_
      refine sw_iload_n hx hb dX6_same_33 0 rfl rfl ?_
      refine sw_aload_n hx hb dX6_same_34 1 rfl rfl ?_
      refine sw_get X inG6 mi_0 (ce_6 (rfl : kd 0 = 6)) rfl 2 (by decide) (goodW wd28) rfl dX6_same_35 ?_
      refine sw_iload_n hx hb dX6_same_38 3 rfl rfl ?_
      refine sw_callVI (C := RX2) (As := [.int x2]) (rest := [.int v_6]) X mi_5 (ce_2 (rfl : kd 5 = 2)) rfl rfl (fun _ hz => okX2_lengthOf l X.2.2.2.2.2.2.1 x2 M_5 _ hz) (cwX6_122 X.2.2.2.2.1 ⟨Nat.le_of_ble_eq_true rfl, Nat.le_of_ble_eq_true rfl⟩)  rfl rfl (Nat.le_of_ble_eq_true rfl) dX6_same_39 ⟨Nat.le_of_ble_eq_true rfl, Nat.le_of_ble_eq_true rfl⟩ h (fun v_8 M_7 _ h => ?_)
      refine sw_icmp_eq hx hb 47 dX6_same_42 (by decide) h (fun h => ?_) (fun h => ?_)
      · refine sw_iconst hx hb 0 dX6_same_47 (by decide) ?_
        refine sw_istore hx hb [(4, .int 0), (3, .int v_6), (0, .ref (ad 0)), (1, .int x1), (2, .int x2)] dX6_same_48 (by decide) rfl ?_
        refine sw_sub (lv1 := [(0, .ref (ad 0)), (1, .int x1), (2, .int x2), (3, .int v_6), (4, .int 0)]) [2, 3, 4, 1, 0] rfl ?_
        exact wX6_same_H50 X hr FU x1 x2 v_6 0 M_7 h
      · refine sw_iconst hx hb 0 dX6_same_45 (by decide) ?_
        exact sw_Iret X hr dX6_same_46 h
    · refine sw_iconst hx hb (-1) dX6_same_22 (by decide) ?_
      exact sw_Iret X hr dX6_same_23 h

end
theorem okX6_same (l : Launch) {D : va_G} {cy : Nat → ClassId} {ad : Nat → Nat} (hD : ∀ M : Mem, va_D (AA ad iX) (wl cy ad iX M)) (x1 : Int32) (x2 : Int32) (M : Mem) (z : Int32 × Mem) (h : fX6_same x1 x2 M = some z) : CTI l yX6_same (wsG yX6_same cX6_same 5 (some .int)) rm_X6_same D cy ad iX [.ref (ad 0), .int x1, .int x2] M z :=
  met_of (cc := cX6_same) (maxL := 5) (ret := (some .int)) (own := RX6) (by decide) rfl rfl hD ndX (Nat.le_of_ble_eq_true rfl) (fun p e s m below meth c X hr => wX6_same_E X hr x1 x2 M h)
abbrev QX6_cost (below : List Frame) (D : va_G) (cy : Nat → ClassId) (ad : Nat → Nat) (args : Array Value) (s : State) (z : Int32 × Mem) : State → Prop := MQ below (va_Qi (fun r u => r = z.1 ∧ u = z.2) (BB D cy ad iX) (AA ad iX)) args s 0 0 (AA ad iX)
section
variable {p : Program} {l : Launch} {e : Env} {s : State} {m : MethodId} {args : Array Value} {below : List Frame} {meth : Method} {c : Code} {D : va_G} {cy : Nat → ClassId} {ad : Nat → Nat} {z : Int32 × Mem}
set_option maxHeartbeats 4000000 in
set_option maxRecDepth 100000 in
theorem wX6_cost_L54 (X : CX p s m args meth c D cy ad iX cX6_cost 4 (wsG yX6_cost cX6_cost 4 (some .int)) RX6) (hr : meth.sig.returnType = (some .int)) (x1 : Int32) (x3 : Int32) (M : Mem) (h : fX6_cost_L54 x1 x3 M = some z) : SW p l e rm_X6_cost s m args below meth c 0 0 (QX6_cost below D cy ad args s z) 4 (PH D cy ad iX s M) 54 [(0, .ref (ad 0)), (1, .int x1), (3, .int x3)] [] := by
  have hx := X.1
  have hb := X.2.1
  unfold fX6_cost_L54 at h
  refine sw_aload_n hx hb dX6_cost_54 0 rfl rfl ?_
  refine sw_get X inG6 mi_0 (ce_6 (rfl : kd 0 = 6)) rfl 3 (by decide) (goodW wd211) rfl dX6_cost_55 ?_
  refine sw_aload_n hx hb dX6_cost_58 0 rfl rfl ?_
  refine sw_get X inG6 mi_0 (ce_6 (rfl : kd 0 = 6)) rfl 1 (by decide) (goodW wd23) rfl dX6_cost_59 ?_
  refine sw_iload_n hx hb dX6_cost_62 2 rfl rfl ?_
  refine sw_aload_n hx hb dX6_cost_63 0 rfl rfl ?_
  refine sw_iconst hx hb 1 dX6_cost_64 (by decide) ?_
  refine sw_iload_n hx hb dX6_cost_65 1 rfl rfl ?_
  refine sw_callVI (C := RX6) (As := [.int 1, .int x1]) (rest := [.int x3, .ref (ad 3), .ref (ad 9)]) X mi_0 (ce_6 (rfl : kd 0 = 6)) rfl rfl (fun _ hz => okX6_endOfKind l X.2.2.2.2.2.2.1 1 x1 M _ hz) (cwX6_134 X.2.2.2.2.1 ⟨Nat.le_of_ble_eq_true rfl, Nat.le_of_ble_eq_true rfl⟩)  rfl rfl (Nat.le_of_ble_eq_true rfl) dX6_cost_66 ⟨Nat.le_of_ble_eq_true rfl, Nat.le_of_ble_eq_true rfl⟩ h (fun v_6 M_5 _ h => ?_)
  refine sw_callVI (C := RX1) (As := [.ref (ad 3), .int x3, .int v_6]) (rest := []) X mi_9 (ce_1 (rfl : kd 9 = 1)) rfl rfl (fun _ hz => okX1_solve l X.2.2.2.2.2.2.1 3 x3 v_6 (rfl : kd 3 = 5) M_5 _ hz) (cwX6_137 X.2.2.2.2.1 ⟨Nat.le_of_ble_eq_true rfl, Nat.le_of_ble_eq_true rfl⟩)  rfl rfl (Nat.le_of_ble_eq_true rfl) dX6_cost_69 ⟨Nat.le_of_ble_eq_true rfl, Nat.le_of_ble_eq_true rfl⟩ h (fun v_8 M_7 _ h => ?_)
  exact sw_Iret X hr dX6_cost_72 h

set_option maxHeartbeats 4000000 in
set_option maxRecDepth 100000 in
theorem wX6_cost_H28 (X : CX p s m args meth c D cy ad iX cX6_cost 4 (wsG yX6_cost cX6_cost 4 (some .int)) RX6) (hr : meth.sig.returnType = (some .int)) : ∀ (n : Nat) (x1 : Int32) (x3 : Int32) (M : Mem), fX6_cost_H28 n x1 x3 M = some z → SW p l e rm_X6_cost s m args below meth c 0 0 (QX6_cost below D cy ad args s z) 4 (PH D cy ad iX s M) 28 [(0, .ref (ad 0)), (1, .int x1), (3, .int x3)] [] := by
  have hx := X.1
  have hb := X.2.1
  intro n
  induction n with
  | zero =>
    intro x1 x3 M h
    have h : (none : Option (Int32 × Mem)) = some z := h
    cases h
  | succ n ih =>
    intro x1 x3 M h
    rw [fX6_cost_H28] at h
    refine sw_iload_n hx hb dX6_cost_28 2 rfl rfl ?_
    refine sw_if_le hx hb 54 dX6_cost_29 (by decide) h (fun h => ?_) (fun h => ?_)
    · refine sw_sub (lv1 := [(0, .ref (ad 0)), (1, .int x1), (3, .int x3)]) [0, 1, 2] rfl ?_
      exact wX6_cost_L54 X hr x1 x3 M h
    · refine sw_aload_n hx hb dX6_cost_32 0 rfl rfl ?_
      refine sw_get X inG6 mi_0 (ce_6 (rfl : kd 0 = 6)) rfl 1 (by decide) (goodW wd23) rfl dX6_cost_33 ?_
      refine sw_iload_n hx hb dX6_cost_36 2 rfl rfl ?_
      refine sw_iconst hx hb 1 dX6_cost_37 (by decide) ?_
      refine sw_isub hx hb dX6_cost_38 ?_
      refine sw_callVI (C := RX5) (As := [.int (x3 - 1)]) (rest := []) X mi_3 (ce_5 (rfl : kd 3 = 5)) rfl rfl (fun _ hz => okX5_at l X.2.2.2.2.2.2.1 3 (x3 - 1) (rfl : kd 3 = 5) M _ hz) (cwX6_125 X.2.2.2.2.1 ⟨Nat.le_of_ble_eq_true rfl, Nat.le_of_ble_eq_true rfl⟩)  rfl rfl (Nat.le_of_ble_eq_true rfl) dX6_cost_39 ⟨Nat.le_of_ble_eq_true rfl, Nat.le_of_ble_eq_true rfl⟩ h (fun v_10 M_9 _ h => ?_)
      refine sw_callSI (As := [.int v_10]) (rest := []) X (fun _ hz => okX6_isSolid l X.2.2.2.2.2.2.1 v_10 M_9 _ hz) (cwX6_131 X.2.2.2.2.1 ⟨Nat.le_of_ble_eq_true rfl, Nat.le_of_ble_eq_true rfl⟩)  rfl rfl (Nat.le_of_ble_eq_true rfl) dX6_cost_42 ⟨Nat.le_of_ble_eq_true rfl, Nat.le_of_ble_eq_true rfl⟩ h (fun v_12 M_11 _ h => ?_)
      refine sw_if_eq hx hb 54 dX6_cost_45 (by decide) h (fun h => ?_) (fun h => ?_)
      · refine sw_sub (lv1 := [(0, .ref (ad 0)), (1, .int x1), (3, .int x3)]) [0, 1, 2] rfl ?_
        exact wX6_cost_L54 X hr x1 x3 M_11 h
      · refine sw_iincN hx hb (k := 2) (x3 + (-1)) (fun x3_13 => [(3, .int x3_13), (0, .ref (ad 0)), (1, .int x1)]) dX6_cost_48 rfl (by rfl) (by decide) (fun _ => rfl) h (fun x3_13 h => ?_)
        refine sw_goto hx hb 28 dX6_cost_51 (by decide) ?_
        refine sw_sub (lv1 := [(0, .ref (ad 0)), (1, .int x1), (3, .int x3_13)]) [1, 2, 0] rfl ?_
        exact ih x1 x3_13 M_11 h

set_option maxHeartbeats 4000000 in
set_option maxRecDepth 100000 in
theorem wX6_cost_E (X : CX p s m args meth c D cy ad iX cX6_cost 4 (wsG yX6_cost cX6_cost 4 (some .int)) RX6) (hr : meth.sig.returnType = (some .int)) (x1 : Int32) (M : Mem) (h : fX6_cost x1 M = some z) : SW p l e rm_X6_cost s m args below meth c 0 0 (QX6_cost below D cy ad args s z) 4 (PH D cy ad iX s M) 0 [(0, .ref (ad 0)), (1, .int x1)] [] := by
  have hx := X.1
  have hb := X.2.1
  unfold fX6_cost at h
  refine sw_aload_n hx hb dX6_cost_0 0 rfl rfl ?_
  refine sw_get X inG6 mi_0 (ce_6 (rfl : kd 0 = 6)) rfl 1 (by decide) (goodW wd23) rfl dX6_cost_1 ?_
  refine sw_iload_n hx hb dX6_cost_4 1 rfl rfl ?_
  refine sw_callVI (C := RX5) (As := [.int x1]) (rest := []) X mi_3 (ce_5 (rfl : kd 3 = 5)) rfl rfl (fun _ hz => okX5_at l X.2.2.2.2.2.2.1 3 x1 (rfl : kd 3 = 5) M _ hz) (cwX6_125 X.2.2.2.2.1 ⟨Nat.le_of_ble_eq_true rfl, Nat.le_of_ble_eq_true rfl⟩)  rfl rfl (Nat.le_of_ble_eq_true rfl) dX6_cost_5 ⟨Nat.le_of_ble_eq_true rfl, Nat.le_of_ble_eq_true rfl⟩ h (fun v_2 M_1 _ h => ?_)
  refine sw_istore_n hx hb [(2, .int v_2), (0, .ref (ad 0)), (1, .int x1)] dX6_cost_8 rfl (by decide) rfl ?_
  refine sw_iload_n hx hb dX6_cost_9 0 rfl rfl ?_
  refine sw_iconst hx hb (-1) dX6_cost_10 (by decide) ?_
  refine sw_icmp_ne hx hb 16 dX6_cost_11 (by decide) h (fun h => ?_) (fun h => ?_)
  · refine sw_iload_n hx hb dX6_cost_16 0 rfl rfl ?_
    refine sw_callSI (As := [.int v_2]) (rest := []) X (fun _ hz => okX6_isBlank l X.2.2.2.2.2.2.1 v_2 M_1 _ hz) (cwX6_128 X.2.2.2.2.1 ⟨Nat.le_of_ble_eq_true rfl, Nat.le_of_ble_eq_true rfl⟩)  rfl rfl (Nat.le_of_ble_eq_true rfl) dX6_cost_17 ⟨Nat.le_of_ble_eq_true rfl, Nat.le_of_ble_eq_true rfl⟩ h (fun v_4 M_3 _ h => ?_)
    refine sw_if_eq hx hb 26 dX6_cost_20 (by decide) h (fun h => ?_) (fun h => ?_)
    · refine sw_iload_n hx hb dX6_cost_26 2 rfl rfl ?_
      refine sw_istore_n hx hb [(3, .int x1), (2, .int v_2), (0, .ref (ad 0)), (1, .int x1)] dX6_cost_27 rfl (by decide) rfl ?_
      refine sw_sub (lv1 := [(0, .ref (ad 0)), (1, .int x1), (3, .int x1)]) [2, 3, 0] rfl ?_
      exact wX6_cost_H28 X hr FU x1 x1 M_3 h
    · refine sw_bipush hx hb (-2) dX6_cost_23 (by decide) ?_
      exact sw_Iret X hr dX6_cost_25 h
  · refine sw_iconst hx hb (-1) dX6_cost_14 (by decide) ?_
    exact sw_Iret X hr dX6_cost_15 h

end
theorem okX6_cost (l : Launch) {D : va_G} {cy : Nat → ClassId} {ad : Nat → Nat} (hD : ∀ M : Mem, va_D (AA ad iX) (wl cy ad iX M)) (x1 : Int32) (M : Mem) (z : Int32 × Mem) (h : fX6_cost x1 M = some z) : CTI l yX6_cost (wsG yX6_cost cX6_cost 4 (some .int)) rm_X6_cost D cy ad iX [.ref (ad 0), .int x1] M z :=
  met_of (cc := cX6_cost) (maxL := 4) (ret := (some .int)) (own := RX6) (by decide) rfl rfl hD ndX (Nat.le_of_ble_eq_true rfl) (fun p e s m below meth c X hr => wX6_cost_E X hr x1 M h)
abbrev QX6_match (below : List Frame) (D : va_G) (cy : Nat → ClassId) (ad : Nat → Nat) (args : Array Value) (s : State) (z : Int32 × Mem) : State → Prop := MQ below (va_Qi (fun r u => r = z.1 ∧ u = z.2) (BB D cy ad iX) (AA ad iX)) args s 0 0 (AA ad iX)
section
variable {p : Program} {l : Launch} {e : Env} {s : State} {m : MethodId} {args : Array Value} {below : List Frame} {meth : Method} {c : Code} {D : va_G} {cy : Nat → ClassId} {ad : Nat → Nat} {z : Int32 × Mem}
set_option maxHeartbeats 4000000 in
set_option maxRecDepth 100000 in
theorem wX6_match_E (X : CX p s m args meth c D cy ad iX cX6_match 2 (wsG yX6_match cX6_match 2 (some .int)) RX6) (hr : meth.sig.returnType = (some .int)) (x1 : Int32) (M : Mem) (h : fX6_match x1 M = some z) : SW p l e rm_X6_match s m args below meth c 0 0 (QX6_match below D cy ad args s z) 2 (PH D cy ad iX s M) 0 [(0, .ref (ad 0)), (1, .int x1)] [] := by
  have hx := X.1
  have hb := X.2.1
  unfold fX6_match at h
  refine sw_aload_n hx hb dX6_match_0 0 rfl rfl ?_
  refine sw_get X inG6 mi_0 (ce_6 (rfl : kd 0 = 6)) rfl 1 (by decide) (goodW wd23) rfl dX6_match_1 ?_
  refine sw_iload_n hx hb dX6_match_4 1 rfl rfl ?_
  refine sw_callVI (C := RX5) (As := [.int x1]) (rest := []) X mi_3 (ce_5 (rfl : kd 3 = 5)) rfl rfl (fun _ hz => okX5_at l X.2.2.2.2.2.2.1 3 x1 (rfl : kd 3 = 5) M _ hz) (cwX6_125 X.2.2.2.2.1 ⟨Nat.le_of_ble_eq_true rfl, Nat.le_of_ble_eq_true rfl⟩)  rfl rfl (Nat.le_of_ble_eq_true rfl) dX6_match_5 ⟨Nat.le_of_ble_eq_true rfl, Nat.le_of_ble_eq_true rfl⟩ h (fun v_2 M_1 _ h => ?_)
  refine sw_iconst hx hb (-1) dX6_match_8 (by decide) ?_
  refine sw_icmp_ne hx hb 14 dX6_match_9 (by decide) h (fun h => ?_) (fun h => ?_)
  · refine sw_aload_n hx hb dX6_match_14 0 rfl rfl ?_
    refine sw_get X inG6 mi_0 (ce_6 (rfl : kd 0 = 6)) rfl 5 (by decide) (goodW wd181) rfl dX6_match_15 ?_
    obtain ⟨h_ra_3, h⟩ := ga_ok h
    generalize gR M_1 0 5 = ra_3 at h h_ra_3 ⊢
    refine sw_aload_n hx hb dX6_match_18 0 rfl rfl ?_
    refine sw_get X inG6 mi_0 (ce_6 (rfl : kd 0 = 6)) rfl 1 (by decide) (goodW wd23) rfl dX6_match_19 ?_
    refine sw_iload_n hx hb dX6_match_22 1 rfl rfl ?_
    refine sw_callVI (C := RX0) (As := [.ref (ad 3), .int x1]) (rest := []) X (mm0 h_ra_3) (ce_0 h_ra_3) rfl rfl (fun _ hz => okX0_longestFrom l X.2.2.2.2.2.2.1 ra_3 3 x1 h_ra_3 (rfl : kd 3 = 5) M_1 _ hz) (cwX6_141 X.2.2.2.2.1 ⟨Nat.le_of_ble_eq_true rfl, Nat.le_of_ble_eq_true rfl⟩)  rfl rfl (Nat.le_of_ble_eq_true rfl) dX6_match_23 ⟨Nat.le_of_ble_eq_true rfl, Nat.le_of_ble_eq_true rfl⟩ h (fun v_5 M_4 _ h => ?_)
    exact sw_Iret X hr dX6_match_26 h
  · refine sw_iconst hx hb (-1) dX6_match_12 (by decide) ?_
    exact sw_Iret X hr dX6_match_13 h

end
theorem okX6_match (l : Launch) {D : va_G} {cy : Nat → ClassId} {ad : Nat → Nat} (hD : ∀ M : Mem, va_D (AA ad iX) (wl cy ad iX M)) (x1 : Int32) (M : Mem) (z : Int32 × Mem) (h : fX6_match x1 M = some z) : CTI l yX6_match (wsG yX6_match cX6_match 2 (some .int)) rm_X6_match D cy ad iX [.ref (ad 0), .int x1] M z :=
  met_of (cc := cX6_match) (maxL := 2) (ret := (some .int)) (own := RX6) (by decide) rfl rfl hD ndX (Nat.le_of_ble_eq_true rfl) (fun p e s m below meth c X hr => wX6_match_E X hr x1 M h)
abbrev QX1_size (below : List Frame) (D : va_G) (cy : Nat → ClassId) (ad : Nat → Nat) (args : Array Value) (s : State) (z : Int32 × Mem) : State → Prop := MQ below (va_Qi (fun r u => r = z.1 ∧ u = z.2) (BB D cy ad iX) (AA ad iX)) args s 0 0 (AA ad iX)
section
variable {p : Program} {l : Launch} {e : Env} {s : State} {m : MethodId} {args : Array Value} {below : List Frame} {meth : Method} {c : Code} {D : va_G} {cy : Nat → ClassId} {ad : Nat → Nat} {z : Int32 × Mem}
set_option maxHeartbeats 4000000 in
set_option maxRecDepth 100000 in
theorem wX1_size_E (X : CX p s m args meth c D cy ad iX cX1_size 1 (wsG yX1_size cX1_size 1 (some .int)) RX1) (hr : meth.sig.returnType = (some .int)) (M : Mem) (h : fX1_size M = some z) : SW p l e rm_X1_size s m args below meth c 0 0 (QX1_size below D cy ad args s z) 1 (PH D cy ad iX s M) 0 [(0, .ref (ad 9))] [] := by
  have hx := X.1
  have hb := X.2.1
  unfold fX1_size at h
  refine sw_aload_n hx hb dX1_size_0 0 rfl rfl ?_
  refine sw_get X inG1 mi_9 (ce_1 (rfl : kd 9 = 1)) rfl 3 (by decide) (goodW wd193) rfl dX1_size_1 ?_
  exact sw_Iret X hr dX1_size_4 h

end
theorem okX1_size (l : Launch) {D : va_G} {cy : Nat → ClassId} {ad : Nat → Nat} (hD : ∀ M : Mem, va_D (AA ad iX) (wl cy ad iX M)) (M : Mem) (z : Int32 × Mem) (h : fX1_size M = some z) : CTI l yX1_size (wsG yX1_size cX1_size 1 (some .int)) rm_X1_size D cy ad iX [.ref (ad 9)] M z :=
  met_of (cc := cX1_size) (maxL := 1) (ret := (some .int)) (own := RX1) (by decide) rfl rfl hD ndX (Nat.le_of_ble_eq_true rfl) (fun p e s m below meth c X hr => wX1_size_E X hr M h)
abbrev QX6_count (below : List Frame) (D : va_G) (cy : Nat → ClassId) (ad : Nat → Nat) (args : Array Value) (s : State) (z : Int32 × Mem) : State → Prop := MQ below (va_Qi (fun r u => r = z.1 ∧ u = z.2) (BB D cy ad iX) (AA ad iX)) args s 0 0 (AA ad iX)
section
variable {p : Program} {l : Launch} {e : Env} {s : State} {m : MethodId} {args : Array Value} {below : List Frame} {meth : Method} {c : Code} {D : va_G} {cy : Nat → ClassId} {ad : Nat → Nat} {z : Int32 × Mem}
set_option maxHeartbeats 4000000 in
set_option maxRecDepth 100000 in
theorem wX6_count_E (X : CX p s m args meth c D cy ad iX cX6_count 2 (wsG yX6_count cX6_count 2 (some .int)) RX6) (hr : meth.sig.returnType = (some .int)) (x1 : Int32) (M : Mem) (h : fX6_count x1 M = some z) : SW p l e rm_X6_count s m args below meth c 0 0 (QX6_count below D cy ad args s z) 2 (PH D cy ad iX s M) 0 [(0, .ref (ad 0)), (1, .int x1)] [] := by
  have hx := X.1
  have hb := X.2.1
  unfold fX6_count at h
  refine sw_iload_n hx hb dX6_count_0 1 rfl rfl ?_
  refine ifc h (fun hc1_0 h => ?_) (fun hc1_0 h => ?_)
  · refine sw_tableIn hx hb (off := 35) 36 dX6_count_1 (by rw [hc1_0]; decide) (by rw [hc1_0]; decide) (by rw [hc1_0]; decide +kernel) (by decide) ?_
    refine sw_aload_n hx hb dX6_count_36 0 rfl rfl ?_
    refine sw_get X inG6 mi_0 (ce_6 (rfl : kd 0 = 6)) rfl 1 (by decide) (goodW wd23) rfl dX6_count_37 ?_
    refine sw_callVI (C := RX5) (As := []) (rest := []) X mi_3 (ce_5 (rfl : kd 3 = 5)) rfl rfl (fun _ hz => okX5_size l X.2.2.2.2.2.2.1 3 (rfl : kd 3 = 5) M _ hz) (cwX6_51 X.2.2.2.2.1 ⟨Nat.le_of_ble_eq_true rfl, Nat.le_of_ble_eq_true rfl⟩)  rfl rfl (Nat.le_of_ble_eq_true rfl) dX6_count_40 ⟨Nat.le_of_ble_eq_true rfl, Nat.le_of_ble_eq_true rfl⟩ h (fun v_2 M_1 _ h => ?_)
    exact sw_Iret X hr dX6_count_43 h
  · skip
    refine ifc h (fun hc1_1 h => ?_) (fun hc1_1 h => ?_)
    · refine sw_tableIn hx hb (off := 43) 44 dX6_count_1 (by rw [hc1_1]; decide) (by rw [hc1_1]; decide) (by rw [hc1_1]; decide +kernel) (by decide) ?_
      refine sw_aload_n hx hb dX6_count_44 0 rfl rfl ?_
      refine sw_get X inG6 mi_0 (ce_6 (rfl : kd 0 = 6)) rfl 2 (by decide) (goodW wd28) rfl dX6_count_45 ?_
      refine sw_callVI (C := RX2) (As := []) (rest := []) X mi_5 (ce_2 (rfl : kd 5 = 2)) rfl rfl (fun _ hz => okX2_size l X.2.2.2.2.2.2.1 M _ hz) (cwX6_109 X.2.2.2.2.1 ⟨Nat.le_of_ble_eq_true rfl, Nat.le_of_ble_eq_true rfl⟩)  rfl rfl (Nat.le_of_ble_eq_true rfl) dX6_count_48 ⟨Nat.le_of_ble_eq_true rfl, Nat.le_of_ble_eq_true rfl⟩ h (fun v_4 M_3 _ h => ?_)
      exact sw_Iret X hr dX6_count_51 h
    · skip
      refine ifc h (fun hc1_2 h => ?_) (fun hc1_2 h => ?_)
      · refine sw_tableIn hx hb (off := 51) 52 dX6_count_1 (by rw [hc1_2]; decide) (by rw [hc1_2]; decide) (by rw [hc1_2]; decide +kernel) (by decide) ?_
        refine sw_aload_n hx hb dX6_count_52 0 rfl rfl ?_
        refine sw_get X inG6 mi_0 (ce_6 (rfl : kd 0 = 6)) rfl 0 (by decide) (goodW wd2) rfl dX6_count_53 ?_
        refine sw_callVI (C := RX5) (As := []) (rest := []) X mi_1 (ce_5 (rfl : kd 1 = 5)) rfl rfl (fun _ hz => okX5_size l X.2.2.2.2.2.2.1 1 (rfl : kd 1 = 5) M _ hz) (cwX6_51 X.2.2.2.2.1 ⟨Nat.le_of_ble_eq_true rfl, Nat.le_of_ble_eq_true rfl⟩)  rfl rfl (Nat.le_of_ble_eq_true rfl) dX6_count_56 ⟨Nat.le_of_ble_eq_true rfl, Nat.le_of_ble_eq_true rfl⟩ h (fun v_6 M_5 _ h => ?_)
        exact sw_Iret X hr dX6_count_59 h
      · skip
        refine ifc h (fun hc1_3 h => ?_) (fun hc1_3 h => ?_)
        · refine sw_tableIn hx hb (off := 59) 60 dX6_count_1 (by rw [hc1_3]; decide) (by rw [hc1_3]; decide) (by rw [hc1_3]; decide +kernel) (by decide) ?_
          refine sw_aload_n hx hb dX6_count_60 0 rfl rfl ?_
          refine sw_get X inG6 mi_0 (ce_6 (rfl : kd 0 = 6)) rfl 5 (by decide) (goodW wd181) rfl dX6_count_61 ?_
          obtain ⟨h_ra_7, h⟩ := ga_ok h
          generalize gR M 0 5 = ra_7 at h h_ra_7 ⊢
          refine sw_callVI (C := RX0) (As := []) (rest := []) X (mm0 h_ra_7) (ce_0 h_ra_7) rfl rfl (fun _ hz => okX0_atoms l X.2.2.2.2.2.2.1 ra_7 h_ra_7 M _ hz) (cwX6_74 X.2.2.2.2.1 ⟨Nat.le_of_ble_eq_true rfl, Nat.le_of_ble_eq_true rfl⟩)  rfl rfl (Nat.le_of_ble_eq_true rfl) dX6_count_64 ⟨Nat.le_of_ble_eq_true rfl, Nat.le_of_ble_eq_true rfl⟩ h (fun v_9 M_8 _ h => ?_)
          exact sw_Iret X hr dX6_count_67 h
        · skip
          refine ifc h (fun hc1_4 h => ?_) (fun hc1_4 h => ?_)
          · refine sw_tableIn hx hb (off := 67) 68 dX6_count_1 (by rw [hc1_4]; decide) (by rw [hc1_4]; decide) (by rw [hc1_4]; decide +kernel) (by decide) ?_
            refine sw_aload_n hx hb dX6_count_68 0 rfl rfl ?_
            refine sw_get X inG6 mi_0 (ce_6 (rfl : kd 0 = 6)) rfl 3 (by decide) (goodW wd211) rfl dX6_count_69 ?_
            refine sw_callVI (C := RX1) (As := []) (rest := []) X mi_9 (ce_1 (rfl : kd 9 = 1)) rfl rfl (fun _ hz => okX1_size l X.2.2.2.2.2.2.1 M _ hz) (cwX6_144 X.2.2.2.2.1 ⟨Nat.le_of_ble_eq_true rfl, Nat.le_of_ble_eq_true rfl⟩)  rfl rfl (Nat.le_of_ble_eq_true rfl) dX6_count_72 ⟨Nat.le_of_ble_eq_true rfl, Nat.le_of_ble_eq_true rfl⟩ h (fun v_11 M_10 _ h => ?_)
            exact sw_Iret X hr dX6_count_75 h
          · skip
            refine sw_tableOut hx hb 76 dX6_count_1 (by have q0 := lv_neT hc1_0 (show (0 : Int32).toInt = 0 from rfl); have q1 := lv_neT hc1_1 (show (1 : Int32).toInt = 1 from rfl); have q2 := lv_neT hc1_2 (show (2 : Int32).toInt = 2 from rfl); have q3 := lv_neT hc1_3 (show (3 : Int32).toInt = 3 from rfl); have q4 := lv_neT hc1_4 (show (4 : Int32).toInt = 4 from rfl); omega) (by decide) ?_
            refine sw_iconst hx hb (-1) dX6_count_76 (by decide) ?_
            exact sw_Iret X hr dX6_count_77 h

end
theorem okX6_count (l : Launch) {D : va_G} {cy : Nat → ClassId} {ad : Nat → Nat} (hD : ∀ M : Mem, va_D (AA ad iX) (wl cy ad iX M)) (x1 : Int32) (M : Mem) (z : Int32 × Mem) (h : fX6_count x1 M = some z) : CTI l yX6_count (wsG yX6_count cX6_count 2 (some .int)) rm_X6_count D cy ad iX [.ref (ad 0), .int x1] M z :=
  met_of (cc := cX6_count) (maxL := 2) (ret := (some .int)) (own := RX6) (by decide) rfl rfl hD ndX (Nat.le_of_ble_eq_true rfl) (fun p e s m below meth c X hr => wX6_count_E X hr x1 M h)
abbrev QX7_isIn (below : List Frame) (D : va_G) (cy : Nat → ClassId) (ad : Nat → Nat) (args : Array Value) (s : State) (z : Int32 × Mem) : State → Prop := MQ below (va_Qi (fun r u => r = z.1 ∧ u = z.2) (BB D cy ad iY) (AA ad iY)) args s 0 0 (AA ad iY)
section
variable {p : Program} {l : Launch} {e : Env} {s : State} {m : MethodId} {args : Array Value} {below : List Frame} {meth : Method} {c : Code} {D : va_G} {cy : Nat → ClassId} {ad : Nat → Nat} {z : Int32 × Mem}
set_option maxHeartbeats 4000000 in
set_option maxRecDepth 100000 in
theorem wX7_isIn_E (X : CX p s m args meth c D cy ad iY cX7_isIn 3 (wsG yX7_isIn cX7_isIn 3 (some .boolean)) RX7) (hr : meth.sig.returnType = (some .boolean)) (x0 : Int32) (x1 : Int32) (x2 : Int32) (M : Mem) (h : fX7_isIn x0 x1 x2 M = some z) : SW p l e rm_X7_isIn s m args below meth c 0 0 (QX7_isIn below D cy ad args s z) 3 (PH D cy ad iY s M) 0 [(0, .int x0), (1, .int x1), (2, .int x2)] [] := by
  have hx := X.1
  have hb := X.2.1
  unfold fX7_isIn at h
  refine sw_iload_n hx hb dX7_isIn_0 0 rfl rfl ?_
  refine sw_iload_n hx hb dX7_isIn_1 1 rfl rfl ?_
  refine sw_icmp_lt hx hb 14 dX7_isIn_2 (by decide) h (fun h => ?_) (fun h => ?_)
  · refine sw_iconst hx hb 0 dX7_isIn_14 (by decide) ?_
    exact sw_Zret X hr dX7_isIn_15 h
  · refine sw_iload_n hx hb dX7_isIn_5 0 rfl rfl ?_
    refine sw_iload_n hx hb dX7_isIn_6 2 rfl rfl ?_
    refine sw_icmp_gt hx hb 14 dX7_isIn_7 (by decide) h (fun h => ?_) (fun h => ?_)
    · refine sw_iconst hx hb 0 dX7_isIn_14 (by decide) ?_
      exact sw_Zret X hr dX7_isIn_15 h
    · refine sw_iconst hx hb 1 dX7_isIn_10 (by decide) ?_
      refine sw_goto hx hb 15 dX7_isIn_11 (by decide) ?_
      exact sw_Zret X hr dX7_isIn_15 h

end
theorem okX7_isIn (l : Launch) {D : va_G} {cy : Nat → ClassId} {ad : Nat → Nat} (hD : ∀ M : Mem, va_D (AA ad iY) (wl cy ad iY M)) (x0 : Int32) (x1 : Int32) (x2 : Int32) (M : Mem) (z : Int32 × Mem) (h : fX7_isIn x0 x1 x2 M = some z) : CTI l yX7_isIn (wsG yX7_isIn cX7_isIn 3 (some .boolean)) rm_X7_isIn D cy ad iY [.int x0, .int x1, .int x2] M z :=
  met_of (cc := cX7_isIn) (maxL := 3) (ret := (some .boolean)) (own := RX7) (by decide) rfl rfl hD ndY (Nat.le_of_ble_eq_true rfl) (fun p e s m below meth c X hr => wX7_isIn_E X hr x0 x1 x2 M h)
abbrev QX7_isLetter (below : List Frame) (D : va_G) (cy : Nat → ClassId) (ad : Nat → Nat) (args : Array Value) (s : State) (z : Int32 × Mem) : State → Prop := MQ below (va_Qi (fun r u => r = z.1 ∧ u = z.2) (BB D cy ad iY) (AA ad iY)) args s 0 0 (AA ad iY)
section
variable {p : Program} {l : Launch} {e : Env} {s : State} {m : MethodId} {args : Array Value} {below : List Frame} {meth : Method} {c : Code} {D : va_G} {cy : Nat → ClassId} {ad : Nat → Nat} {z : Int32 × Mem}
set_option maxHeartbeats 4000000 in
set_option maxRecDepth 100000 in
theorem wX7_isLetter_L22 (X : CX p s m args meth c D cy ad iY cX7_isLetter 1 (wsG yX7_isLetter cX7_isLetter 1 (some .boolean)) RX7) (hr : meth.sig.returnType = (some .boolean)) (M : Mem) (h : fX7_isLetter_L22 M = some z) : SW p l e rm_X7_isLetter s m args below meth c 0 0 (QX7_isLetter below D cy ad args s z) 1 (PH D cy ad iY s M) 22 [] [] := by
  have hx := X.1
  have hb := X.2.1
  unfold fX7_isLetter_L22 at h
  refine sw_iconst hx hb 1 dX7_isLetter_22 (by decide) ?_
  refine sw_goto hx hb 27 dX7_isLetter_23 (by decide) ?_
  exact sw_Zret X hr dX7_isLetter_27 h

set_option maxHeartbeats 4000000 in
set_option maxRecDepth 100000 in
theorem wX7_isLetter_E (X : CX p s m args meth c D cy ad iY cX7_isLetter 1 (wsG yX7_isLetter cX7_isLetter 1 (some .boolean)) RX7) (hr : meth.sig.returnType = (some .boolean)) (x0 : Int32) (M : Mem) (h : fX7_isLetter x0 M = some z) : SW p l e rm_X7_isLetter s m args below meth c 0 0 (QX7_isLetter below D cy ad args s z) 1 (PH D cy ad iY s M) 0 [(0, .int x0)] [] := by
  have hx := X.1
  have hb := X.2.1
  unfold fX7_isLetter at h
  refine sw_iload_n hx hb dX7_isLetter_0 0 rfl rfl ?_
  refine sw_bipush hx hb 97 dX7_isLetter_1 (by decide) ?_
  refine sw_bipush hx hb 122 dX7_isLetter_3 (by decide) ?_
  refine sw_callSI (As := [.int x0, .int 97, .int 122]) (rest := []) X (fun _ hz => okX7_isIn l X.2.2.2.2.2.2.1 x0 97 122 M _ hz) (cwX7_85 X.2.2.2.2.1 ⟨Nat.le_of_ble_eq_true rfl, Nat.le_of_ble_eq_true rfl⟩)  rfl rfl (Nat.le_of_ble_eq_true rfl) dX7_isLetter_5 ⟨Nat.le_of_ble_eq_true rfl, Nat.le_of_ble_eq_true rfl⟩ h (fun v_2 M_1 _ h => ?_)
  refine sw_if_ne hx hb 22 dX7_isLetter_8 (by decide) h (fun h => ?_) (fun h => ?_)
  · refine sw_sub (lv1 := []) [] rfl ?_
    exact wX7_isLetter_L22 X hr M_1 h
  · refine sw_iload_n hx hb dX7_isLetter_11 0 rfl rfl ?_
    refine sw_bipush hx hb 65 dX7_isLetter_12 (by decide) ?_
    refine sw_bipush hx hb 90 dX7_isLetter_14 (by decide) ?_
    refine sw_callSI (As := [.int x0, .int 65, .int 90]) (rest := []) X (fun _ hz => okX7_isIn l X.2.2.2.2.2.2.1 x0 65 90 M_1 _ hz) (cwX7_85 X.2.2.2.2.1 ⟨Nat.le_of_ble_eq_true rfl, Nat.le_of_ble_eq_true rfl⟩)  rfl rfl (Nat.le_of_ble_eq_true rfl) dX7_isLetter_16 ⟨Nat.le_of_ble_eq_true rfl, Nat.le_of_ble_eq_true rfl⟩ h (fun v_4 M_3 _ h => ?_)
    refine sw_if_eq hx hb 26 dX7_isLetter_19 (by decide) h (fun h => ?_) (fun h => ?_)
    · refine sw_iconst hx hb 0 dX7_isLetter_26 (by decide) ?_
      exact sw_Zret X hr dX7_isLetter_27 h
    · refine sw_sub (lv1 := []) [] rfl ?_
      exact wX7_isLetter_L22 X hr M_3 h

end
theorem okX7_isLetter (l : Launch) {D : va_G} {cy : Nat → ClassId} {ad : Nat → Nat} (hD : ∀ M : Mem, va_D (AA ad iY) (wl cy ad iY M)) (x0 : Int32) (M : Mem) (z : Int32 × Mem) (h : fX7_isLetter x0 M = some z) : CTI l yX7_isLetter (wsG yX7_isLetter cX7_isLetter 1 (some .boolean)) rm_X7_isLetter D cy ad iY [.int x0] M z :=
  met_of (cc := cX7_isLetter) (maxL := 1) (ret := (some .boolean)) (own := RX7) (by decide) rfl rfl hD ndY (Nat.le_of_ble_eq_true rfl) (fun p e s m below meth c X hr => wX7_isLetter_E X hr x0 M h)
abbrev QX7_isFigure (below : List Frame) (D : va_G) (cy : Nat → ClassId) (ad : Nat → Nat) (args : Array Value) (s : State) (z : Int32 × Mem) : State → Prop := MQ below (va_Qi (fun r u => r = z.1 ∧ u = z.2) (BB D cy ad iY) (AA ad iY)) args s 0 0 (AA ad iY)
section
variable {p : Program} {l : Launch} {e : Env} {s : State} {m : MethodId} {args : Array Value} {below : List Frame} {meth : Method} {c : Code} {D : va_G} {cy : Nat → ClassId} {ad : Nat → Nat} {z : Int32 × Mem}
set_option maxHeartbeats 4000000 in
set_option maxRecDepth 100000 in
theorem wX7_isFigure_E (X : CX p s m args meth c D cy ad iY cX7_isFigure 1 (wsG yX7_isFigure cX7_isFigure 1 (some .boolean)) RX7) (hr : meth.sig.returnType = (some .boolean)) (x0 : Int32) (M : Mem) (h : fX7_isFigure x0 M = some z) : SW p l e rm_X7_isFigure s m args below meth c 0 0 (QX7_isFigure below D cy ad args s z) 1 (PH D cy ad iY s M) 0 [(0, .int x0)] [] := by
  have hx := X.1
  have hb := X.2.1
  unfold fX7_isFigure at h
  refine sw_iload_n hx hb dX7_isFigure_0 0 rfl rfl ?_
  refine sw_bipush hx hb 48 dX7_isFigure_1 (by decide) ?_
  refine sw_bipush hx hb 57 dX7_isFigure_3 (by decide) ?_
  refine sw_callSI (As := [.int x0, .int 48, .int 57]) (rest := []) X (fun _ hz => okX7_isIn l X.2.2.2.2.2.2.1 x0 48 57 M _ hz) (cwX7_85 X.2.2.2.2.1 ⟨Nat.le_of_ble_eq_true rfl, Nat.le_of_ble_eq_true rfl⟩)  rfl rfl (Nat.le_of_ble_eq_true rfl) dX7_isFigure_5 ⟨Nat.le_of_ble_eq_true rfl, Nat.le_of_ble_eq_true rfl⟩ h (fun v_2 M_1 _ h => ?_)
  exact sw_Zret X hr dX7_isFigure_8 h

end
theorem okX7_isFigure (l : Launch) {D : va_G} {cy : Nat → ClassId} {ad : Nat → Nat} (hD : ∀ M : Mem, va_D (AA ad iY) (wl cy ad iY M)) (x0 : Int32) (M : Mem) (z : Int32 × Mem) (h : fX7_isFigure x0 M = some z) : CTI l yX7_isFigure (wsG yX7_isFigure cX7_isFigure 1 (some .boolean)) rm_X7_isFigure D cy ad iY [.int x0] M z :=
  met_of (cc := cX7_isFigure) (maxL := 1) (ret := (some .boolean)) (own := RX7) (by decide) rfl rfl hD ndY (Nat.le_of_ble_eq_true rfl) (fun p e s m below meth c X hr => wX7_isFigure_E X hr x0 M h)
abbrev QX7_isBlank (below : List Frame) (D : va_G) (cy : Nat → ClassId) (ad : Nat → Nat) (args : Array Value) (s : State) (z : Int32 × Mem) : State → Prop := MQ below (va_Qi (fun r u => r = z.1 ∧ u = z.2) (BB D cy ad iY) (AA ad iY)) args s 0 0 (AA ad iY)
section
variable {p : Program} {l : Launch} {e : Env} {s : State} {m : MethodId} {args : Array Value} {below : List Frame} {meth : Method} {c : Code} {D : va_G} {cy : Nat → ClassId} {ad : Nat → Nat} {z : Int32 × Mem}
set_option maxHeartbeats 4000000 in
set_option maxRecDepth 100000 in
theorem wX7_isBlank_L18 (X : CX p s m args meth c D cy ad iY cX7_isBlank 1 (wsG yX7_isBlank cX7_isBlank 1 (some .boolean)) RX7) (hr : meth.sig.returnType = (some .boolean)) (M : Mem) (h : fX7_isBlank_L18 M = some z) : SW p l e rm_X7_isBlank s m args below meth c 0 0 (QX7_isBlank below D cy ad args s z) 1 (PH D cy ad iY s M) 18 [] [] := by
  have hx := X.1
  have hb := X.2.1
  unfold fX7_isBlank_L18 at h
  refine sw_iconst hx hb 1 dX7_isBlank_18 (by decide) ?_
  refine sw_goto hx hb 23 dX7_isBlank_19 (by decide) ?_
  exact sw_Zret X hr dX7_isBlank_23 h

set_option maxHeartbeats 4000000 in
set_option maxRecDepth 100000 in
theorem wX7_isBlank_E (X : CX p s m args meth c D cy ad iY cX7_isBlank 1 (wsG yX7_isBlank cX7_isBlank 1 (some .boolean)) RX7) (hr : meth.sig.returnType = (some .boolean)) (x0 : Int32) (M : Mem) (h : fX7_isBlank x0 M = some z) : SW p l e rm_X7_isBlank s m args below meth c 0 0 (QX7_isBlank below D cy ad args s z) 1 (PH D cy ad iY s M) 0 [(0, .int x0)] [] := by
  have hx := X.1
  have hb := X.2.1
  unfold fX7_isBlank at h
  refine sw_iload_n hx hb dX7_isBlank_0 0 rfl rfl ?_
  refine sw_bipush hx hb 32 dX7_isBlank_1 (by decide) ?_
  refine sw_icmp_eq hx hb 18 dX7_isBlank_3 (by decide) h (fun h => ?_) (fun h => ?_)
  · refine sw_sub (lv1 := []) [] rfl ?_
    exact wX7_isBlank_L18 X hr M h
  · refine sw_iload_n hx hb dX7_isBlank_6 0 rfl rfl ?_
    refine sw_bipush hx hb 9 dX7_isBlank_7 (by decide) ?_
    refine sw_icmp_eq hx hb 18 dX7_isBlank_9 (by decide) h (fun h => ?_) (fun h => ?_)
    · refine sw_sub (lv1 := []) [] rfl ?_
      exact wX7_isBlank_L18 X hr M h
    · refine sw_iload_n hx hb dX7_isBlank_12 0 rfl rfl ?_
      refine sw_bipush hx hb 10 dX7_isBlank_13 (by decide) ?_
      refine sw_icmp_ne hx hb 22 dX7_isBlank_15 (by decide) h (fun h => ?_) (fun h => ?_)
      · refine sw_iconst hx hb 0 dX7_isBlank_22 (by decide) ?_
        exact sw_Zret X hr dX7_isBlank_23 h
      · refine sw_sub (lv1 := []) [] rfl ?_
        exact wX7_isBlank_L18 X hr M h

end
theorem okX7_isBlank (l : Launch) {D : va_G} {cy : Nat → ClassId} {ad : Nat → Nat} (hD : ∀ M : Mem, va_D (AA ad iY) (wl cy ad iY M)) (x0 : Int32) (M : Mem) (z : Int32 × Mem) (h : fX7_isBlank x0 M = some z) : CTI l yX7_isBlank (wsG yX7_isBlank cX7_isBlank 1 (some .boolean)) rm_X7_isBlank D cy ad iY [.int x0] M z :=
  met_of (cc := cX7_isBlank) (maxL := 1) (ret := (some .boolean)) (own := RX7) (by decide) rfl rfl hD ndY (Nat.le_of_ble_eq_true rfl) (fun p e s m below meth c X hr => wX7_isBlank_E X hr x0 M h)
