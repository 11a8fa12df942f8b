abbrev QX3_becomeCopyOf (below : List Frame) (D : va_G) (cy : Nat → ClassId) (ad : Nat → Nat) (args : Array Value) (s : State) (z : Mem) : State → Prop := MQ below (va_Qv (fun u => u = z) (BB D cy ad iX) (AA ad iX)) args s 0 0 (AA ad iX)
section
variable {p : Program} {l : Launch} {e : Env} {s : State} {m : MethodId} {args : Array Value} {below : List Frame} {meth : Method} {c : Code} {D : va_G} {cy : Nat → ClassId} {ad : Nat → Nat} {z : Mem}
set_option maxHeartbeats 4000000 in
set_option maxRecDepth 100000 in
theorem wX3_becomeCopyOf_E (X : CX p s m args meth c D cy ad iX cX3_becomeCopyOf 2 (wsG yX3_becomeCopyOf cX3_becomeCopyOf 2 none) RX3) (hr : meth.sig.returnType = none) (o : Nat) (a1 : Nat) (h_o : kd o = 3) (h_a1 : kd a1 = 3) (M : Mem) (h : fX3_becomeCopyOf o a1 M = some z) : SW p l e rm_X3_becomeCopyOf s m args below meth c 0 0 (QX3_becomeCopyOf below D cy ad args s z) 2 (PH D cy ad iX s M) 0 [(0, .ref (ad o)), (1, .ref (ad a1))] [] := by
  have hx := X.1
  have hb := X.2.1
  unfold fX3_becomeCopyOf at h
  refine sw_aload_n hx hb dX3_becomeCopyOf_0 0 rfl rfl ?_
  refine sw_aload_n hx hb dX3_becomeCopyOf_1 1 rfl rfl ?_
  refine sw_get X inG3 (mm3 h_a1) (ce_3 h_a1) rfl 0 (by decide) (goodW wd43) rfl dX3_becomeCopyOf_2 ?_
  refine sw_putJ X tyX3 tyX3_ok nmX3 inG3 (mm3 h_o) (ce_3 h_o) rfl 0 (by decide) (goodW wd43) rfl (by decide +kernel : parseFieldDescriptor _ = some .long) rfl rfl (Nat.le_of_ble_eq_true rfl) (pu_3_0 h_o _) dX3_becomeCopyOf_5 h (fun M_1 h => ?_)
  refine sw_aload_n hx hb dX3_becomeCopyOf_8 0 rfl rfl ?_
  refine sw_aload_n hx hb dX3_becomeCopyOf_9 1 rfl rfl ?_
  refine sw_get X inG3 (mm3 h_a1) (ce_3 h_a1) rfl 1 (by decide) (goodW wd44) rfl dX3_becomeCopyOf_10 ?_
  refine sw_putJ X tyX3 tyX3_ok nmX3 inG3 (mm3 h_o) (ce_3 h_o) rfl 1 (by decide) (goodW wd44) rfl (by decide +kernel : parseFieldDescriptor _ = some .long) rfl rfl (Nat.le_of_ble_eq_true rfl) (pu_3_1 h_o _) dX3_becomeCopyOf_13 h (fun M_2 h => ?_)
  refine sw_aload_n hx hb dX3_becomeCopyOf_16 0 rfl rfl ?_
  refine sw_aload_n hx hb dX3_becomeCopyOf_17 1 rfl rfl ?_
  refine sw_get X inG3 (mm3 h_a1) (ce_3 h_a1) rfl 2 (by decide) (goodW wd45) rfl dX3_becomeCopyOf_18 ?_
  obtain ⟨hz, h⟩ := sz_ok h
  refine sw_putI X tyX3 tyX3_ok nmX3 inG3 (mm3 h_o) (ce_3 h_o) rfl 2 (by decide) (goodW wd45) rfl (by decide +kernel : parseFieldDescriptor _ = some .boolean) (nar_z hz).1 (nar_z hz).2 (Nat.le_of_ble_eq_true rfl) (pu_3_2 h_o _) dX3_becomeCopyOf_21 h (fun M_3 h => ?_)
  exact sw_Vret X hr dX3_becomeCopyOf_24 h

end
theorem okX3_becomeCopyOf (l : Launch) {D : va_G} {cy : Nat → ClassId} {ad : Nat → Nat} (hD : ∀ M : Mem, va_D (AA ad iX) (wl cy ad iX M)) (o : Nat) (a1 : Nat) (h_o : kd o = 3) (h_a1 : kd a1 = 3) (M : Mem) (z : Mem) (h : fX3_becomeCopyOf o a1 M = some z) : CTV l yX3_becomeCopyOf (wsG yX3_becomeCopyOf cX3_becomeCopyOf 2 none) rm_X3_becomeCopyOf D cy ad iX [.ref (ad o), .ref (ad a1)] M z :=
  met_of (cc := cX3_becomeCopyOf) (maxL := 2) (ret := none) (own := RX3) (by decide) rfl rfl hD ndX (Nat.le_of_ble_eq_true rfl) (fun p e s m below meth c X hr => wX3_becomeCopyOf_E X hr o a1 h_o h_a1 M h)
abbrev QX0_connect (below : List Frame) (D : va_G) (cy : Nat → ClassId) (ad : Nat → Nat) (args : Array Value) (s : State) (z : Mem) : State → Prop := MQ below (va_Qv (fun u => u = z) (BB D cy ad iX) (AA ad iX)) args s 0 0 (AA ad iX)
section
variable {p : Program} {l : Launch} {e : Env} {s : State} {m : MethodId} {args : Array Value} {below : List Frame} {meth : Method} {c : Code} {D : va_G} {cy : Nat → ClassId} {ad : Nat → Nat} {z : Mem}
set_option maxHeartbeats 4000000 in
set_option maxRecDepth 100000 in
theorem wX0_connect_L34 (X : CX p s m args meth c D cy ad iX cX0_connect 6 (wsG yX0_connect cX0_connect 6 none) RX0) (hr : meth.sig.returnType = none) (o : Nat) (h_o : kd o = 0) (k3 : Int64 → Int64 → Int32 → Mem → Option (Mem)) (hk3 : ∀ (x1 : Int64) (x3 : Int64) (x5 : Int32) (M : Mem), k3 x1 x3 x5 M = some z → SW p l e rm_X0_connect s m args below meth c 0 0 (QX0_connect below D cy ad args s z) 6 (PH D cy ad iX s M) 3 [(0, .ref (ad o)), (1, .long x1), (3, .long x3), (5, .int x5)] []) (x1 : Int64) (x3 : Int64) (x5 : Int32) (M : Mem) (h : fX0_connect_L34 k3 o x1 x3 x5 M = some z) : SW p l e rm_X0_connect s m args below meth c 0 0 (QX0_connect below D cy ad args s z) 6 (PH D cy ad iX s M) 34 [(0, .ref (ad o)), (1, .long x1), (3, .long x3), (5, .int x5)] [] := by
  have hx := X.1
  have hb := X.2.1
  unfold fX0_connect_L34 at h
  refine sw_iincN hx hb (k := 3) (x5 + 1) (fun x5_1 => [(5, .int x5_1), (0, .ref (ad o)), (1, .long x1), (3, .long x3)]) dX0_connect_34 rfl (by rfl) (by decide) (fun _ => rfl) h (fun x5_1 h => ?_)
  refine sw_goto hx hb 3 dX0_connect_37 (by decide) ?_
  refine sw_sub (lv1 := [(0, .ref (ad o)), (1, .long x1), (3, .long x3), (5, .int x5_1)]) [1, 2, 3, 0] rfl ?_
  exact hk3 x1 x3 x5_1 M h

set_option maxHeartbeats 4000000 in
set_option maxRecDepth 100000 in
theorem wX0_connect_H3 (X : CX p s m args meth c D cy ad iX cX0_connect 6 (wsG yX0_connect cX0_connect 6 none) RX0) (hr : meth.sig.returnType = none) (o : Nat) (h_o : kd o = 0) : ∀ (n : Nat) (x1 : Int64) (x3 : Int64) (x5 : Int32) (M : Mem), fX0_connect_H3 o n x1 x3 x5 M = some z → SW p l e rm_X0_connect s m args below meth c 0 0 (QX0_connect below D cy ad args s z) 6 (PH D cy ad iX s M) 3 [(0, .ref (ad o)), (1, .long x1), (3, .long x3), (5, .int x5)] [] := by
  have hx := X.1
  have hb := X.2.1
  intro n
  induction n with
  | zero =>
    intro x1 x3 x5 M h
    have h : (none : Option (Mem)) = some z := h
    cases h
  | succ n ih =>
    intro x1 x3 x5 M h
    rw [fX0_connect_H3] at h
    refine sw_iload hx hb dX0_connect_3 3 rfl ?_
    refine sw_aload_n hx hb dX0_connect_5 0 rfl rfl ?_
    refine sw_get X inG0 (mm0 h_o) (ce_0 h_o) rfl 2 (by decide) (goodW wd40) rfl dX0_connect_6 ?_
    refine sw_icmp_ge hx hb 40 dX0_connect_9 (by decide) h (fun h => ?_) (fun h => ?_)
    · exact sw_Vret X hr dX0_connect_40 h
    · refine sw_lload_n hx hb dX0_connect_12 1 rfl rfl ?_
      refine sw_iload hx hb dX0_connect_13 3 rfl ?_
      refine sw_lushr hx hb dX0_connect_15 ?_
      refine sw_lconst hx hb 1 dX0_connect_16 (by decide) ?_
      refine sw_land hx hb dX0_connect_17 ?_
      refine sw_lconst hx hb 0 dX0_connect_18 (by decide) ?_
      refine sw_lcmp hx hb dX0_connect_19 ?_
      refine sw_if_eq hx hb 34 dX0_connect_20 (by decide) h (fun h => ?_) (fun h => ?_)
      · refine sw_sub (lv1 := [(0, .ref (ad o)), (1, .long x1), (3, .long x3), (5, .int x5)]) [0, 1, 2, 3] rfl ?_
        exact wX0_connect_L34 X hr o h_o (fX0_connect_H3 o n) ih x1 x3 x5 M h
      · refine sw_aload_n hx hb dX0_connect_23 0 rfl rfl ?_
        refine sw_get X inG0 (mm0 h_o) (ce_0 h_o) rfl 1 (by decide) (goodW wd39) rfl dX0_connect_24 ?_
        refine sw_iload hx hb dX0_connect_27 3 rfl ?_
        refine sw_dup2 hx hb dX0_connect_29 rfl rfl ?_
        refine sw_lald X (mb0 h_o) (kb0 h_o) dX0_connect_30 h (fun v_2 h => ?_)
        refine sw_lload_n hx hb dX0_connect_31 2 rfl rfl ?_
        refine sw_lor hx hb dX0_connect_32 ?_
        refine sw_last X (mb0 h_o) (kb0 h_o) dX0_connect_33 h (fun M_3 h => ?_)
        refine sw_sub (lv1 := [(0, .ref (ad o)), (1, .long x1), (3, .long x3), (5, .int x5)]) [0, 1, 2, 3] rfl ?_
        exact wX0_connect_L34 X hr o h_o (fX0_connect_H3 o n) ih x1 x3 x5 M_3 h

set_option maxHeartbeats 4000000 in
set_option maxRecDepth 100000 in
theorem wX0_connect_E (X : CX p s m args meth c D cy ad iX cX0_connect 6 (wsG yX0_connect cX0_connect 6 none) RX0) (hr : meth.sig.returnType = none) (o : Nat) (h_o : kd o = 0) (x1 : Int64) (x3 : Int64) (M : Mem) (h : fX0_connect o x1 x3 M = some z) : SW p l e rm_X0_connect s m args below meth c 0 0 (QX0_connect below D cy ad args s z) 6 (PH D cy ad iX s M) 0 [(0, .ref (ad o)), (1, .long x1), (3, .long x3)] [] := by
  have hx := X.1
  have hb := X.2.1
  unfold fX0_connect at h
  refine sw_iconst hx hb 0 dX0_connect_0 (by decide) ?_
  refine sw_istore hx hb [(5, .int 0), (0, .ref (ad o)), (1, .long x1), (3, .long x3)] dX0_connect_1 (by decide) rfl ?_
  refine sw_sub (lv1 := [(0, .ref (ad o)), (1, .long x1), (3, .long x3), (5, .int 0)]) [1, 2, 3, 0] rfl ?_
  exact wX0_connect_H3 X hr o h_o FU x1 x3 0 M h

end
theorem okX0_connect (l : Launch) {D : va_G} {cy : Nat → ClassId} {ad : Nat → Nat} (hD : ∀ M : Mem, va_D (AA ad iX) (wl cy ad iX M)) (o : Nat) (x1 : Int64) (x3 : Int64) (h_o : kd o = 0) (M : Mem) (z : Mem) (h : fX0_connect o x1 x3 M = some z) : CTV l yX0_connect (wsG yX0_connect cX0_connect 6 none) rm_X0_connect D cy ad iX [.ref (ad o), .long x1, .long x3] M z :=
  met_of (cc := cX0_connect) (maxL := 6) (ret := none) (own := RX0) (by decide) rfl rfl hD ndX (Nat.le_of_ble_eq_true rfl) (fun p e s m below meth c X hr => wX0_connect_E X hr o h_o x1 x3 M h)
abbrev QX3_addBehind (below : List Frame) (D : va_G) (cy : Nat → ClassId) (ad : Nat → Nat) (args : Array Value) (s : State) (z : Mem) : State → Prop := MQ below (va_Qv (fun u => u = z) (BB D cy ad iX) (AA ad iX)) args s 0 0 (AA ad iX)
section
variable {p : Program} {l : Launch} {e : Env} {s : State} {m : MethodId} {args : Array Value} {below : List Frame} {meth : Method} {c : Code} {D : va_G} {cy : Nat → ClassId} {ad : Nat → Nat} {z : Mem}
set_option maxHeartbeats 4000000 in
set_option maxRecDepth 100000 in
theorem wX3_addBehind_L67 (X : CX p s m args meth c D cy ad iX cX3_addBehind 2 (wsG yX3_addBehind cX3_addBehind 2 none) RX3) (hr : meth.sig.returnType = none) (o : Nat) (a1 : Nat) (h_o : kd o = 3) (h_a1 : kd a1 = 3) (y0 : Int32) (M : Mem) (h : fX3_addBehind_L67 o a1 y0 M = some z) : SW p l e rm_X3_addBehind s m args below meth c 0 0 (QX3_addBehind below D cy ad args s z) 2 (PH D cy ad iX s M) 67 [] [.int y0, .ref (ad o)] := by
  have hx := X.1
  have hb := X.2.1
  unfold fX3_addBehind_L67 at h
  obtain ⟨hz, h⟩ := sz_ok h
  refine sw_putI X tyX3 tyX3_ok nmX3 inG3 (mm3 h_o) (ce_3 h_o) rfl 2 (by decide) (goodW wd45) rfl (by decide +kernel : parseFieldDescriptor _ = some .boolean) (nar_z hz).1 (nar_z hz).2 (Nat.le_of_ble_eq_true rfl) (pu_3_2 h_o _) dX3_addBehind_67 h (fun M_2 h => ?_)
  exact sw_Vret X hr dX3_addBehind_70 h

set_option maxHeartbeats 4000000 in
set_option maxRecDepth 100000 in
theorem wX3_addBehind_L66 (X : CX p s m args meth c D cy ad iX cX3_addBehind 2 (wsG yX3_addBehind cX3_addBehind 2 none) RX3) (hr : meth.sig.returnType = none) (o : Nat) (a1 : Nat) (h_o : kd o = 3) (h_a1 : kd a1 = 3) (M : Mem) (h : fX3_addBehind_L66 o a1 M = some z) : SW p l e rm_X3_addBehind s m args below meth c 0 0 (QX3_addBehind below D cy ad args s z) 2 (PH D cy ad iX s M) 66 [] [.ref (ad o)] := by
  have hx := X.1
  have hb := X.2.1
  unfold fX3_addBehind_L66 at h
  refine sw_iconst hx hb 0 dX3_addBehind_66 (by decide) ?_
  refine sw_sub (lv1 := []) [] rfl ?_
  exact wX3_addBehind_L67 X hr o a1 h_o h_a1 0 M h

set_option maxHeartbeats 4000000 in
set_option maxRecDepth 100000 in
theorem wX3_addBehind_L44 (X : CX p s m args meth c D cy ad iX cX3_addBehind 2 (wsG yX3_addBehind cX3_addBehind 2 none) RX3) (hr : meth.sig.returnType = none) (o : Nat) (a1 : Nat) (h_o : kd o = 3) (h_a1 : kd a1 = 3) (y0 : Int64) (M : Mem) (h : fX3_addBehind_L44 o a1 y0 M = some z) : SW p l e rm_X3_addBehind s m args below meth c 0 0 (QX3_addBehind below D cy ad args s z) 2 (PH D cy ad iX s M) 44 [(0, .ref (ad o)), (1, .ref (ad a1))] [.long y0, .ref (ad o)] := by
  have hx := X.1
  have hb := X.2.1
  unfold fX3_addBehind_L44 at h
  refine sw_putJ X tyX3 tyX3_ok nmX3 inG3 (mm3 h_o) (ce_3 h_o) rfl 1 (by decide) (goodW wd44) rfl (by decide +kernel : parseFieldDescriptor _ = some .long) rfl rfl (Nat.le_of_ble_eq_true rfl) (pu_3_1 h_o _) dX3_addBehind_44 h (fun M_1 h => ?_)
  refine sw_aload_n hx hb dX3_addBehind_47 0 rfl rfl ?_
  refine sw_aload_n hx hb dX3_addBehind_48 0 rfl rfl ?_
  refine sw_get X inG3 (mm3 h_o) (ce_3 h_o) rfl 2 (by decide) (goodW wd45) rfl dX3_addBehind_49 ?_
  refine sw_if_eq hx hb 66 dX3_addBehind_52 (by decide) h (fun h => ?_) (fun h => ?_)
  · refine sw_sub (lv1 := []) [] rfl ?_
    exact wX3_addBehind_L66 X hr o a1 h_o h_a1 M_1 h
  · refine sw_aload_n hx hb dX3_addBehind_55 1 rfl rfl ?_
    refine sw_get X inG3 (mm3 h_a1) (ce_3 h_a1) rfl 2 (by decide) (goodW wd45) rfl dX3_addBehind_56 ?_
    refine sw_if_eq hx hb 66 dX3_addBehind_59 (by decide) h (fun h => ?_) (fun h => ?_)
    · refine sw_sub (lv1 := []) [] rfl ?_
      exact wX3_addBehind_L66 X hr o a1 h_o h_a1 M_1 h
    · refine sw_iconst hx hb 1 dX3_addBehind_62 (by decide) ?_
      refine sw_goto hx hb 67 dX3_addBehind_63 (by decide) ?_
      refine sw_sub (lv1 := []) [] rfl ?_
      exact wX3_addBehind_L67 X hr o a1 h_o h_a1 1 M_1 h

set_option maxHeartbeats 4000000 in
set_option maxRecDepth 100000 in
theorem wX3_addBehind_L20 (X : CX p s m args meth c D cy ad iX cX3_addBehind 2 (wsG yX3_addBehind cX3_addBehind 2 none) RX3) (hr : meth.sig.returnType = none) (o : Nat) (a1 : Nat) (h_o : kd o = 3) (h_a1 : kd a1 = 3) (M : Mem) (h : fX3_addBehind_L20 o a1 M = some z) : SW p l e rm_X3_addBehind s m args below meth c 0 0 (QX3_addBehind below D cy ad args s z) 2 (PH D cy ad iX s M) 20 [(0, .ref (ad o)), (1, .ref (ad a1))] [] := by
  have hx := X.1
  have hb := X.2.1
  unfold fX3_addBehind_L20 at h
  refine sw_aload_n hx hb dX3_addBehind_20 0 rfl rfl ?_
  refine sw_aload_n hx hb dX3_addBehind_21 1 rfl rfl ?_
  refine sw_get X inG3 (mm3 h_a1) (ce_3 h_a1) rfl 2 (by decide) (goodW wd45) rfl dX3_addBehind_22 ?_
  refine sw_if_eq hx hb 40 dX3_addBehind_25 (by decide) h (fun h => ?_) (fun h => ?_)
  · refine sw_aload_n hx hb dX3_addBehind_40 1 rfl rfl ?_
    refine sw_get X inG3 (mm3 h_a1) (ce_3 h_a1) rfl 1 (by decide) (goodW wd44) rfl dX3_addBehind_41 ?_
    refine sw_sub (lv1 := [(0, .ref (ad o)), (1, .ref (ad a1))]) [0, 1] rfl ?_
    exact wX3_addBehind_L44 X hr o a1 h_o h_a1 (gJ M a1 1) M h
  · refine sw_aload_n hx hb dX3_addBehind_28 0 rfl rfl ?_
    refine sw_get X inG3 (mm3 h_o) (ce_3 h_o) rfl 1 (by decide) (goodW wd44) rfl dX3_addBehind_29 ?_
    refine sw_aload_n hx hb dX3_addBehind_32 1 rfl rfl ?_
    refine sw_get X inG3 (mm3 h_a1) (ce_3 h_a1) rfl 1 (by decide) (goodW wd44) rfl dX3_addBehind_33 ?_
    refine sw_lor hx hb dX3_addBehind_36 ?_
    refine sw_goto hx hb 44 dX3_addBehind_37 (by decide) ?_
    refine sw_sub (lv1 := [(0, .ref (ad o)), (1, .ref (ad a1))]) [0, 1] rfl ?_
    exact wX3_addBehind_L44 X hr o a1 h_o h_a1 ((gJ M o 1) ||| (gJ M a1 1)) M h

set_option maxHeartbeats 4000000 in
set_option maxRecDepth 100000 in
theorem wX3_addBehind_E (X : CX p s m args meth c D cy ad iX cX3_addBehind 2 (wsG yX3_addBehind cX3_addBehind 2 none) RX3) (hr : meth.sig.returnType = none) (o : Nat) (a1 : Nat) (h_o : kd o = 3) (h_a1 : kd a1 = 3) (M : Mem) (h : fX3_addBehind o a1 M = some z) : SW p l e rm_X3_addBehind s m args below meth c 0 0 (QX3_addBehind below D cy ad args s z) 2 (PH D cy ad iX s M) 0 [(0, .ref (ad o)), (1, .ref (ad a1))] [] := by
  have hx := X.1
  have hb := X.2.1
  unfold fX3_addBehind at h
  refine sw_aload_n hx hb dX3_addBehind_0 0 rfl rfl ?_
  refine sw_get X inG3 (mm3 h_o) (ce_3 h_o) rfl 2 (by decide) (goodW wd45) rfl dX3_addBehind_1 ?_
  refine sw_if_eq hx hb 20 dX3_addBehind_4 (by decide) h (fun h => ?_) (fun h => ?_)
  · refine sw_sub (lv1 := [(0, .ref (ad o)), (1, .ref (ad a1))]) [0, 1] rfl ?_
    exact wX3_addBehind_L20 X hr o a1 h_o h_a1 M h
  · refine sw_aload_n hx hb dX3_addBehind_7 0 rfl rfl ?_
    refine sw_dup hx hb dX3_addBehind_8 rfl ?_
    refine sw_get X inG3 (mm3 h_o) (ce_3 h_o) rfl 0 (by decide) (goodW wd43) rfl dX3_addBehind_9 ?_
    refine sw_aload_n hx hb dX3_addBehind_12 1 rfl rfl ?_
    refine sw_get X inG3 (mm3 h_a1) (ce_3 h_a1) rfl 0 (by decide) (goodW wd43) rfl dX3_addBehind_13 ?_
    refine sw_lor hx hb dX3_addBehind_16 ?_
    refine sw_putJ X tyX3 tyX3_ok nmX3 inG3 (mm3 h_o) (ce_3 h_o) rfl 0 (by decide) (goodW wd43) rfl (by decide +kernel : parseFieldDescriptor _ = some .long) rfl rfl (Nat.le_of_ble_eq_true rfl) (pu_3_0 h_o _) dX3_addBehind_17 h (fun M_3 h => ?_)
    refine sw_sub (lv1 := [(0, .ref (ad o)), (1, .ref (ad a1))]) [0, 1] rfl ?_
    exact wX3_addBehind_L20 X hr o a1 h_o h_a1 M_3 h

end
theorem okX3_addBehind (l : Launch) {D : va_G} {cy : Nat → ClassId} {ad : Nat → Nat} (hD : ∀ M : Mem, va_D (AA ad iX) (wl cy ad iX M)) (o : Nat) (a1 : Nat) (h_o : kd o = 3) (h_a1 : kd a1 = 3) (M : Mem) (z : Mem) (h : fX3_addBehind o a1 M = some z) : CTV l yX3_addBehind (wsG yX3_addBehind cX3_addBehind 2 none) rm_X3_addBehind D cy ad iX [.ref (ad o), .ref (ad a1)] M z :=
  met_of (cc := cX3_addBehind) (maxL := 2) (ret := none) (own := RX3) (by decide) rfl rfl hD ndX (Nat.le_of_ble_eq_true rfl) (fun p e s m below meth c X hr => wX3_addBehind_E X hr o a1 h_o h_a1 M h)
abbrev QX4_endPiece (below : List Frame) (D : va_G) (cy : Nat → ClassId) (ad : Nat → Nat) (args : Array Value) (s : State) (z : Mem) : State → Prop := MQ below (va_Qv (fun u => u = z) (BB D cy ad iX) (AA ad iX)) args s 0 0 (AA ad iX)
section
variable {p : Program} {l : Launch} {e : Env} {s : State} {m : MethodId} {args : Array Value} {below : List Frame} {meth : Method} {c : Code} {D : va_G} {cy : Nat → ClassId} {ad : Nat → Nat} {z : Mem}
set_option maxHeartbeats 4000000 in
set_option maxRecDepth 100000 in
theorem wX4_endPiece_L103 (X : CX p s m args meth c D cy ad iX cX4_endPiece 4 (wsG yX4_endPiece cX4_endPiece 4 none) RX4) (hr : meth.sig.returnType = none) (M : Mem) (h : fX4_endPiece_L103 M = some z) : SW p l e rm_X4_endPiece s m args below meth c 0 0 (QX4_endPiece below D cy ad args s z) 4 (PH D cy ad iX s M) 103 [(0, .ref (ad 17))] [] := by
  have hx := X.1
  have hb := X.2.1
  unfold fX4_endPiece_L103 at h
  refine sw_aload_n hx hb dX4_endPiece_103 0 rfl rfl ?_
  refine sw_get X inG4 mi_17 (ce_4 (rfl : kd 17 = 4)) rfl 4 (by decide) (goodW wd64) rfl dX4_endPiece_104 ?_
  obtain ⟨h_ra_4, h⟩ := ga_ok h
  generalize gR M 17 4 = ra_4 at h h_ra_4 ⊢
  refine sw_aload_n hx hb dX4_endPiece_107 0 rfl rfl ?_
  refine sw_get X inG4 mi_17 (ce_4 (rfl : kd 17 = 4)) rfl 2 (by decide) (goodW wd57) rfl dX4_endPiece_108 ?_
  refine sw_aload_n hx hb dX4_endPiece_111 0 rfl rfl ?_
  refine sw_get X inG4 mi_17 (ce_4 (rfl : kd 17 = 4)) rfl 5 (by decide) (goodW wd52) rfl dX4_endPiece_112 ?_
  refine sw_aald X mi_30 (rfl : kd 30 = 12) dX4_endPiece_115 h (fun pa_5 ha hb2 h => ?_)
  have h_pa_5 := kv30 ha hb2
  refine sw_getN (host := "TokenMachines") X inG3 (mm3 h_pa_5) (ce_3 h_pa_5) rfl 1 (by decide) (by decide +kernel) rfl dX4_endPiece_116 ?_
  refine sw_aload_n hx hb dX4_endPiece_119 0 rfl rfl ?_
  refine sw_get X inG4 mi_17 (ce_4 (rfl : kd 17 = 4)) rfl 3 (by decide) (goodW wd82) rfl dX4_endPiece_120 ?_
  refine sw_getN (host := "TokenMachines") X inG3 mi_40 (ce_3 (rfl : kd 40 = 3)) rfl 0 (by decide) (by decide +kernel) rfl dX4_endPiece_123 ?_
  refine sw_callVV (C := RX0) (As := [.long (gJ M pa_5 1), .long (gJ M 40 0)]) (rest := []) X (mm0 h_ra_4) (ce_0 h_ra_4) rfl rfl (fun _ hz => okX0_connect l X.2.2.2.2.2.2.1 ra_4 (gJ M pa_5 1) (gJ M 40 0) h_ra_4 M _ hz) (cwX4_111 X.2.2.2.2.1 ⟨Nat.le_of_ble_eq_true rfl, Nat.le_of_ble_eq_true rfl⟩)  rfl rfl (Nat.le_of_ble_eq_true rfl) dX4_endPiece_126 ⟨Nat.le_of_ble_eq_true rfl, Nat.le_of_ble_eq_true rfl⟩ h (fun M_6 _ h => ?_)
  refine sw_aload_n hx hb dX4_endPiece_129 0 rfl rfl ?_
  refine sw_get X inG4 mi_17 (ce_4 (rfl : kd 17 = 4)) rfl 2 (by decide) (goodW wd57) rfl dX4_endPiece_130 ?_
  refine sw_aload_n hx hb dX4_endPiece_133 0 rfl rfl ?_
  refine sw_get X inG4 mi_17 (ce_4 (rfl : kd 17 = 4)) rfl 5 (by decide) (goodW wd52) rfl dX4_endPiece_134 ?_
  refine sw_aald X mi_30 (rfl : kd 30 = 12) dX4_endPiece_137 h (fun pa_8 ha hb2 h => ?_)
  have h_pa_8 := kv30 ha hb2
  refine sw_aload_n hx hb dX4_endPiece_138 0 rfl rfl ?_
  refine sw_get X inG4 mi_17 (ce_4 (rfl : kd 17 = 4)) rfl 3 (by decide) (goodW wd82) rfl dX4_endPiece_139 ?_
  refine sw_callVV (C := RX3) (As := [.ref (ad 40)]) (rest := []) X (mm3 h_pa_8) (ce_3 h_pa_8) rfl rfl (fun _ hz => okX3_addBehind l X.2.2.2.2.2.2.1 pa_8 40 h_pa_8 (rfl : kd 40 = 3) M_6 _ hz) (cwX4_118 X.2.2.2.2.1 ⟨Nat.le_of_ble_eq_true rfl, Nat.le_of_ble_eq_true rfl⟩)  rfl rfl (Nat.le_of_ble_eq_true rfl) dX4_endPiece_142 ⟨Nat.le_of_ble_eq_true rfl, Nat.le_of_ble_eq_true rfl⟩ h (fun M_9 _ h => ?_)
  exact sw_Vret X hr dX4_endPiece_145 h

set_option maxHeartbeats 4000000 in
set_option maxRecDepth 100000 in
theorem wX4_endPiece_L93 (X : CX p s m args meth c D cy ad iX cX4_endPiece 4 (wsG yX4_endPiece cX4_endPiece 4 none) RX4) (hr : meth.sig.returnType = none) (M : Mem) (h : fX4_endPiece_L93 M = some z) : SW p l e rm_X4_endPiece s m args below meth c 0 0 (QX4_endPiece below D cy ad args s z) 4 (PH D cy ad iX s M) 93 [(0, .ref (ad 17))] [] := by
  have hx := X.1
  have hb := X.2.1
  unfold fX4_endPiece_L93 at h
  refine sw_aload_n hx hb dX4_endPiece_93 0 rfl rfl ?_
  refine sw_dup hx hb dX4_endPiece_94 rfl ?_
  refine sw_get X inG4 mi_17 (ce_4 (rfl : kd 17 = 4)) rfl 6 (by decide) (goodW wd70) rfl dX4_endPiece_95 ?_
  refine sw_iconst hx hb 1 dX4_endPiece_98 (by decide) ?_
  refine sw_iadd hx hb dX4_endPiece_99 ?_
  refine sw_putI X tyX4 tyX4_ok nmX4 inG4 mi_17 (ce_4 (rfl : kd 17 = 4)) rfl 6 (by decide) (goodW wd70) rfl (by decide +kernel : parseFieldDescriptor _ = some .int) rfl rfl (Nat.le_of_ble_eq_true rfl) (pu_4_6 (rfl : kd 17 = 4) _) dX4_endPiece_100 h (fun M_3 h => ?_)
  refine sw_sub (lv1 := [(0, .ref (ad 17))]) [0] rfl ?_
  exact wX4_endPiece_L103 X hr M_3 h

set_option maxHeartbeats 4000000 in
set_option maxRecDepth 100000 in
theorem wX4_endPiece_L85 (X : CX p s m args meth c D cy ad iX cX4_endPiece 4 (wsG yX4_endPiece cX4_endPiece 4 none) RX4) (hr : meth.sig.returnType = none) (x2 : Int32) (x3 : Int32) (M : Mem) (h : fX4_endPiece_L85 x2 x3 M = some z) : SW p l e rm_X4_endPiece s m args below meth c 0 0 (QX4_endPiece below D cy ad args s z) 4 (PH D cy ad iX s M) 85 [(0, .ref (ad 17)), (2, .int x2), (3, .int x3)] [] := by
  have hx := X.1
  have hb := X.2.1
  unfold fX4_endPiece_L85 at h
  refine sw_iload_n hx hb dX4_endPiece_85 1 rfl rfl ?_
  refine sw_if_ne hx hb 93 dX4_endPiece_86 (by decide) h (fun h => ?_) (fun h => ?_)
  · refine sw_sub (lv1 := [(0, .ref (ad 17))]) [0] rfl ?_
    exact wX4_endPiece_L93 X hr M h
  · refine sw_iload_n hx hb dX4_endPiece_89 2 rfl rfl ?_
    refine sw_if_eq hx hb 103 dX4_endPiece_90 (by decide) h (fun h => ?_) (fun h => ?_)
    · refine sw_sub (lv1 := [(0, .ref (ad 17))]) [0] rfl ?_
      exact wX4_endPiece_L103 X hr M h
    · refine sw_sub (lv1 := [(0, .ref (ad 17))]) [0] rfl ?_
      exact wX4_endPiece_L93 X hr M h

set_option maxHeartbeats 4000000 in
set_option maxRecDepth 100000 in
theorem wX4_endPiece_L73 (X : CX p s m args meth c D cy ad iX cX4_endPiece 4 (wsG yX4_endPiece cX4_endPiece 4 none) RX4) (hr : meth.sig.returnType = none) (x2 : Int32) (x3 : Int32) (M : Mem) (h : fX4_endPiece_L73 x2 x3 M = some z) : SW p l e rm_X4_endPiece s m args below meth c 0 0 (QX4_endPiece below D cy ad args s z) 4 (PH D cy ad iX s M) 73 [(0, .ref (ad 17)), (2, .int x2), (3, .int x3)] [] := by
  have hx := X.1
  have hb := X.2.1
  unfold fX4_endPiece_L73 at h
  refine sw_iload_n hx hb dX4_endPiece_73 2 rfl rfl ?_
  refine sw_if_eq hx hb 85 dX4_endPiece_74 (by decide) h (fun h => ?_) (fun h => ?_)
  · refine sw_sub (lv1 := [(0, .ref (ad 17)), (2, .int x2), (3, .int x3)]) [0, 1, 2] rfl ?_
    exact wX4_endPiece_L85 X hr x2 x3 M h
  · refine sw_aload_n hx hb dX4_endPiece_77 0 rfl rfl ?_
    refine sw_get X inG4 mi_17 (ce_4 (rfl : kd 17 = 4)) rfl 3 (by decide) (goodW wd82) rfl dX4_endPiece_78 ?_
    refine sw_iconst hx hb 1 dX4_endPiece_81 (by decide) ?_
    obtain ⟨hz, h⟩ := sz_ok h
    refine sw_putIN (host := "TokenMachines") X tyX3 tyX3_ok nmX3 inG3 mi_40 (ce_3 (rfl : kd 40 = 3)) rfl 2 (by decide) (by decide +kernel) rfl (by decide +kernel : parseFieldDescriptor _ = some .boolean) (nar_z hz).1 (nar_z hz).2 (Nat.le_of_ble_eq_true rfl) (pu_3_2 (rfl : kd 40 = 3) _) dX4_endPiece_82 h (fun M_11 h => ?_)
    refine sw_sub (lv1 := [(0, .ref (ad 17)), (2, .int x2), (3, .int x3)]) [0, 1, 2] rfl ?_
    exact wX4_endPiece_L85 X hr x2 x3 M_11 h

set_option maxHeartbeats 4000000 in
set_option maxRecDepth 100000 in
theorem wX4_endPiece_L47 (X : CX p s m args meth c D cy ad iX cX4_endPiece 4 (wsG yX4_endPiece cX4_endPiece 4 none) RX4) (hr : meth.sig.returnType = none) (x2 : Int32) (y0 : Int32) (M : Mem) (h : fX4_endPiece_L47 x2 y0 M = some z) : SW p l e rm_X4_endPiece s m args below meth c 0 0 (QX4_endPiece below D cy ad args s z) 4 (PH D cy ad iX s M) 47 [(0, .ref (ad 17)), (2, .int x2)] [.int y0] := by
  have hx := X.1
  have hb := X.2.1
  unfold fX4_endPiece_L47 at h
  refine sw_istore_n hx hb [(3, .int y0), (0, .ref (ad 17)), (2, .int x2)] dX4_endPiece_47 rfl (by decide) rfl ?_
  refine sw_iload_n hx hb dX4_endPiece_48 2 rfl rfl ?_
  refine sw_if_eq hx hb 73 dX4_endPiece_49 (by decide) h (fun h => ?_) (fun h => ?_)
  · refine sw_sub (lv1 := [(0, .ref (ad 17)), (2, .int x2), (3, .int y0)]) [1, 2, 0] rfl ?_
    exact wX4_endPiece_L73 X hr x2 y0 M h
  · refine sw_aload_n hx hb dX4_endPiece_52 1 rfl rfl ?_
    refine sw_get X inG4 mi_17 (ce_4 (rfl : kd 17 = 4)) rfl 4 (by decide) (goodW wd64) rfl dX4_endPiece_53 ?_
    obtain ⟨h_ra_12, h⟩ := ga_ok h
    generalize gR M 17 4 = ra_12 at h h_ra_12 ⊢
    refine sw_aload_n hx hb dX4_endPiece_56 1 rfl rfl ?_
    refine sw_get X inG4 mi_17 (ce_4 (rfl : kd 17 = 4)) rfl 3 (by decide) (goodW wd82) rfl dX4_endPiece_57 ?_
    refine sw_getN (host := "TokenMachines") X inG3 mi_40 (ce_3 (rfl : kd 40 = 3)) rfl 1 (by decide) (by decide +kernel) rfl dX4_endPiece_60 ?_
    refine sw_aload_n hx hb dX4_endPiece_63 1 rfl rfl ?_
    refine sw_get X inG4 mi_17 (ce_4 (rfl : kd 17 = 4)) rfl 3 (by decide) (goodW wd82) rfl dX4_endPiece_64 ?_
    refine sw_getN (host := "TokenMachines") X inG3 mi_40 (ce_3 (rfl : kd 40 = 3)) rfl 0 (by decide) (by decide +kernel) rfl dX4_endPiece_67 ?_
    refine sw_callVV (C := RX0) (As := [.long (gJ M 40 1), .long (gJ M 40 0)]) (rest := []) X (mm0 h_ra_12) (ce_0 h_ra_12) rfl rfl (fun _ hz => okX0_connect l X.2.2.2.2.2.2.1 ra_12 (gJ M 40 1) (gJ M 40 0) h_ra_12 M _ hz) (cwX4_111 X.2.2.2.2.1 ⟨Nat.le_of_ble_eq_true rfl, Nat.le_of_ble_eq_true rfl⟩)  rfl rfl (Nat.le_of_ble_eq_true rfl) dX4_endPiece_70 ⟨Nat.le_of_ble_eq_true rfl, Nat.le_of_ble_eq_true rfl⟩ h (fun M_13 _ h => ?_)
    refine sw_sub (lv1 := [(0, .ref (ad 17)), (2, .int x2), (3, .int y0)]) [1, 2, 0] rfl ?_
    exact wX4_endPiece_L73 X hr x2 y0 M_13 h

set_option maxHeartbeats 4000000 in
set_option maxRecDepth 100000 in
theorem wX4_endPiece_L42 (X : CX p s m args meth c D cy ad iX cX4_endPiece 4 (wsG yX4_endPiece cX4_endPiece 4 none) RX4) (hr : meth.sig.returnType = none) (x2 : Int32) (M : Mem) (h : fX4_endPiece_L42 x2 M = some z) : SW p l e rm_X4_endPiece s m args below meth c 0 0 (QX4_endPiece below D cy ad args s z) 4 (PH D cy ad iX s M) 42 [(0, .ref (ad 17)), (2, .int x2)] [] := by
  have hx := X.1
  have hb := X.2.1
  unfold fX4_endPiece_L42 at h
  refine sw_iconst hx hb 1 dX4_endPiece_42 (by decide) ?_
  refine sw_goto hx hb 47 dX4_endPiece_43 (by decide) ?_
  refine sw_sub (lv1 := [(0, .ref (ad 17)), (2, .int x2)]) [0, 1] rfl ?_
  exact wX4_endPiece_L47 X hr x2 1 M h

set_option maxHeartbeats 4000000 in
set_option maxRecDepth 100000 in
theorem wX4_endPiece_L29 (X : CX p s m args meth c D cy ad iX cX4_endPiece 4 (wsG yX4_endPiece cX4_endPiece 4 none) RX4) (hr : meth.sig.returnType = none) (x1 : Int32) (y0 : Int32) (M : Mem) (h : fX4_endPiece_L29 x1 y0 M = some z) : SW p l e rm_X4_endPiece s m args below meth c 0 0 (QX4_endPiece below D cy ad args s z) 4 (PH D cy ad iX s M) 29 [(0, .ref (ad 17)), (1, .int x1)] [.int y0] := by
  have hx := X.1
  have hb := X.2.1
  unfold fX4_endPiece_L29 at h
  refine sw_istore_n hx hb [(2, .int y0), (0, .ref (ad 17)), (1, .int x1)] dX4_endPiece_29 rfl (by decide) rfl ?_
  refine sw_iload_n hx hb dX4_endPiece_30 2 rfl rfl ?_
  refine sw_bipush hx hb 42 dX4_endPiece_31 (by decide) ?_
  refine sw_icmp_eq hx hb 42 dX4_endPiece_33 (by decide) h (fun h => ?_) (fun h => ?_)
  · refine sw_sub (lv1 := [(0, .ref (ad 17)), (2, .int y0)]) [1, 0] rfl ?_
    exact wX4_endPiece_L42 X hr y0 M h
  · refine sw_iload_n hx hb dX4_endPiece_36 2 rfl rfl ?_
    refine sw_bipush hx hb 63 dX4_endPiece_37 (by decide) ?_
    refine sw_icmp_ne hx hb 46 dX4_endPiece_39 (by decide) h (fun h => ?_) (fun h => ?_)
    · refine sw_iconst hx hb 0 dX4_endPiece_46 (by decide) ?_
      refine sw_sub (lv1 := [(0, .ref (ad 17)), (2, .int y0)]) [1, 0] rfl ?_
      exact wX4_endPiece_L47 X hr y0 0 M h
    · refine sw_sub (lv1 := [(0, .ref (ad 17)), (2, .int y0)]) [1, 0] rfl ?_
      exact wX4_endPiece_L42 X hr y0 M h

set_option maxHeartbeats 4000000 in
set_option maxRecDepth 100000 in
theorem wX4_endPiece_L24 (X : CX p s m args meth c D cy ad iX cX4_endPiece 4 (wsG yX4_endPiece cX4_endPiece 4 none) RX4) (hr : meth.sig.returnType = none) (x1 : Int32) (M : Mem) (h : fX4_endPiece_L24 x1 M = some z) : SW p l e rm_X4_endPiece s m args below meth c 0 0 (QX4_endPiece below D cy ad args s z) 4 (PH D cy ad iX s M) 24 [(0, .ref (ad 17)), (1, .int x1)] [] := by
  have hx := X.1
  have hb := X.2.1
  unfold fX4_endPiece_L24 at h
  refine sw_iconst hx hb 1 dX4_endPiece_24 (by decide) ?_
  refine sw_goto hx hb 29 dX4_endPiece_25 (by decide) ?_
  refine sw_sub (lv1 := [(0, .ref (ad 17)), (1, .int x1)]) [0, 1] rfl ?_
  exact wX4_endPiece_L29 X hr x1 1 M h

set_option maxHeartbeats 4000000 in
set_option maxRecDepth 100000 in
theorem wX4_endPiece_E (X : CX p s m args meth c D cy ad iX cX4_endPiece 4 (wsG yX4_endPiece cX4_endPiece 4 none) RX4) (hr : meth.sig.returnType = none) (M : Mem) (h : fX4_endPiece M = some z) : SW p l e rm_X4_endPiece s m args below meth c 0 0 (QX4_endPiece below D cy ad args s z) 4 (PH D cy ad iX s M) 0 [(0, .ref (ad 17))] [] := by
  have hx := X.1
  have hb := X.2.1
  unfold fX4_endPiece at h
  refine sw_aload_n hx hb dX4_endPiece_0 0 rfl rfl ?_
  refine sw_get X inG4 mi_17 (ce_4 (rfl : kd 17 = 4)) rfl 0 (by decide) (goodW wd62) rfl dX4_endPiece_1 ?_
  refine sw_aload_n hx hb dX4_endPiece_4 0 rfl rfl ?_
  refine sw_get X inG4 mi_17 (ce_4 (rfl : kd 17 = 4)) rfl 6 (by decide) (goodW wd70) rfl dX4_endPiece_5 ?_
  refine sw_callVI (C := RX5) (As := [.int (gI M 17 6)]) (rest := []) X mi_18 (ce_5 (rfl : kd 18 = 5)) rfl rfl (fun _ hz => okX5_at l X.2.2.2.2.2.2.1 18 (gI M 17 6) (rfl : kd 18 = 5) M _ hz) (cwX4_57 X.2.2.2.2.1 ⟨Nat.le_of_ble_eq_true rfl, Nat.le_of_ble_eq_true rfl⟩)  rfl rfl (Nat.le_of_ble_eq_true rfl) dX4_endPiece_8 ⟨Nat.le_of_ble_eq_true rfl, Nat.le_of_ble_eq_true rfl⟩ h (fun v_2 M_1 _ h => ?_)
  refine sw_istore_n hx hb [(1, .int v_2), (0, .ref (ad 17))] dX4_endPiece_11 rfl (by decide) rfl ?_
  refine sw_iload_n hx hb dX4_endPiece_12 0 rfl rfl ?_
  refine sw_bipush hx hb 42 dX4_endPiece_13 (by decide) ?_
  refine sw_icmp_eq hx hb 24 dX4_endPiece_15 (by decide) h (fun h => ?_) (fun h => ?_)
  · refine sw_sub (lv1 := [(0, .ref (ad 17)), (1, .int v_2)]) [1, 0] rfl ?_
    exact wX4_endPiece_L24 X hr v_2 M_1 h
  · refine sw_iload_n hx hb dX4_endPiece_18 0 rfl rfl ?_
    refine sw_bipush hx hb 43 dX4_endPiece_19 (by decide) ?_
    refine sw_icmp_ne hx hb 28 dX4_endPiece_21 (by decide) h (fun h => ?_) (fun h => ?_)
    · refine sw_iconst hx hb 0 dX4_endPiece_28 (by decide) ?_
      refine sw_sub (lv1 := [(0, .ref (ad 17)), (1, .int v_2)]) [1, 0] rfl ?_
      exact wX4_endPiece_L29 X hr v_2 0 M_1 h
    · refine sw_sub (lv1 := [(0, .ref (ad 17)), (1, .int v_2)]) [1, 0] rfl ?_
      exact wX4_endPiece_L24 X hr v_2 M_1 h

end
theorem okX4_endPiece (l : Launch) {D : va_G} {cy : Nat → ClassId} {ad : Nat → Nat} (hD : ∀ M : Mem, va_D (AA ad iX) (wl cy ad iX M)) (M : Mem) (z : Mem) (h : fX4_endPiece M = some z) : CTV l yX4_endPiece (wsG yX4_endPiece cX4_endPiece 4 none) rm_X4_endPiece D cy ad iX [.ref (ad 17)] M z :=
  met_of (cc := cX4_endPiece) (maxL := 4) (ret := none) (own := RX4) (by decide) rfl rfl hD ndX (Nat.le_of_ble_eq_true rfl) (fun p e s m below meth c X hr => wX4_endPiece_E X hr M h)
abbrev QX4_close (below : List Frame) (D : va_G) (cy : Nat → ClassId) (ad : Nat → Nat) (args : Array Value) (s : State) (z : Mem) : State → Prop := MQ below (va_Qv (fun u => u = z) (BB D cy ad iX) (AA ad iX)) args s 0 0 (AA ad iX)
section
variable {p : Program} {l : Launch} {e : Env} {s : State} {m : MethodId} {args : Array Value} {below : List Frame} {meth : Method} {c : Code} {D : va_G} {cy : Nat → ClassId} {ad : Nat → Nat} {z : Mem}
set_option maxHeartbeats 4000000 in
set_option maxRecDepth 100000 in
theorem wX4_close_E (X : CX p s m args meth c D cy ad iX cX4_close 1 (wsG yX4_close cX4_close 1 none) RX4) (hr : meth.sig.returnType = none) (M : Mem) (h : fX4_close M = some z) : SW p l e rm_X4_close s m args below meth c 0 0 (QX4_close below D cy ad args s z) 1 (PH D cy ad iX s M) 0 [(0, .ref (ad 17))] [] := by
  have hx := X.1
  have hb := X.2.1
  unfold fX4_close at h
  refine sw_aload_n hx hb dX4_close_0 0 rfl rfl ?_
  refine sw_get X inG4 mi_17 (ce_4 (rfl : kd 17 = 4)) rfl 5 (by decide) (goodW wd52) rfl dX4_close_1 ?_
  refine sw_if_gt hx hb 16 dX4_close_4 (by decide) h (fun h => ?_) (fun h => ?_)
  · refine sw_aload_n hx hb dX4_close_16 0 rfl rfl ?_
    refine sw_callVV (C := RX4) (As := []) (rest := []) X mi_17 (ce_4 (rfl : kd 17 = 4)) rfl rfl (fun _ hz => okX4_endRow l X.2.2.2.2.2.2.1 M _ hz) (cwX4_66 X.2.2.2.2.1 ⟨Nat.le_of_ble_eq_true rfl, Nat.le_of_ble_eq_true rfl⟩)  rfl rfl (Nat.le_of_ble_eq_true rfl) dX4_close_17 ⟨Nat.le_of_ble_eq_true rfl, Nat.le_of_ble_eq_true rfl⟩ h (fun M_1 _ h => ?_)
    refine sw_aload_n hx hb dX4_close_20 0 rfl rfl ?_
    refine sw_get X inG4 mi_17 (ce_4 (rfl : kd 17 = 4)) rfl 3 (by decide) (goodW wd82) rfl dX4_close_21 ?_
    refine sw_aload_n hx hb dX4_close_24 0 rfl rfl ?_
    refine sw_get X inG4 mi_17 (ce_4 (rfl : kd 17 = 4)) rfl 1 (by decide) (goodW wd51) rfl dX4_close_25 ?_
    refine sw_aload_n hx hb dX4_close_28 0 rfl rfl ?_
    refine sw_get X inG4 mi_17 (ce_4 (rfl : kd 17 = 4)) rfl 5 (by decide) (goodW wd52) rfl dX4_close_29 ?_
    refine sw_aald X mi_20 (rfl : kd 20 = 12) dX4_close_32 h (fun pa_3 ha hb2 h => ?_)
    have h_pa_3 := kv20 ha hb2
    refine sw_callVV (C := RX3) (As := [.ref (ad pa_3)]) (rest := []) X mi_40 (ce_3 (rfl : kd 40 = 3)) rfl rfl (fun _ hz => okX3_becomeCopyOf l X.2.2.2.2.2.2.1 40 pa_3 (rfl : kd 40 = 3) h_pa_3 M_1 _ hz) (cwX4_105 X.2.2.2.2.1 ⟨Nat.le_of_ble_eq_true rfl, Nat.le_of_ble_eq_true rfl⟩)  rfl rfl (Nat.le_of_ble_eq_true rfl) dX4_close_33 ⟨Nat.le_of_ble_eq_true rfl, Nat.le_of_ble_eq_true rfl⟩ h (fun M_4 _ h => ?_)
    refine sw_aload_n hx hb dX4_close_36 0 rfl rfl ?_
    refine sw_dup hx hb dX4_close_37 rfl ?_
    refine sw_get X inG4 mi_17 (ce_4 (rfl : kd 17 = 4)) rfl 5 (by decide) (goodW wd52) rfl dX4_close_38 ?_
    refine sw_iconst hx hb 1 dX4_close_41 (by decide) ?_
    refine sw_isub hx hb dX4_close_42 ?_
    refine sw_putI X tyX4 tyX4_ok nmX4 inG4 mi_17 (ce_4 (rfl : kd 17 = 4)) rfl 5 (by decide) (goodW wd52) rfl (by decide +kernel : parseFieldDescriptor _ = some .int) rfl rfl (Nat.le_of_ble_eq_true rfl) (pu_4_5 (rfl : kd 17 = 4) _) dX4_close_43 h (fun M_6 h => ?_)
    refine sw_aload_n hx hb dX4_close_46 0 rfl rfl ?_
    refine sw_dup hx hb dX4_close_47 rfl ?_
    refine sw_get X inG4 mi_17 (ce_4 (rfl : kd 17 = 4)) rfl 6 (by decide) (goodW wd70) rfl dX4_close_48 ?_
    refine sw_iconst hx hb 1 dX4_close_51 (by decide) ?_
    refine sw_iadd hx hb dX4_close_52 ?_
    refine sw_putI X tyX4 tyX4_ok nmX4 inG4 mi_17 (ce_4 (rfl : kd 17 = 4)) rfl 6 (by decide) (goodW wd70) rfl (by decide +kernel : parseFieldDescriptor _ = some .int) rfl rfl (Nat.le_of_ble_eq_true rfl) (pu_4_6 (rfl : kd 17 = 4) _) dX4_close_53 h (fun M_7 h => ?_)
    refine sw_aload_n hx hb dX4_close_56 0 rfl rfl ?_
    refine sw_callVV (C := RX4) (As := []) (rest := []) X mi_17 (ce_4 (rfl : kd 17 = 4)) rfl rfl (fun _ hz => okX4_endPiece l X.2.2.2.2.2.2.1 M_7 _ hz) (cwX4_108 X.2.2.2.2.1 ⟨Nat.le_of_ble_eq_true rfl, Nat.le_of_ble_eq_true rfl⟩)  rfl rfl (Nat.le_of_ble_eq_true rfl) dX4_close_57 ⟨Nat.le_of_ble_eq_true rfl, Nat.le_of_ble_eq_true rfl⟩ h (fun M_8 _ h => ?_)
    exact sw_Vret X hr dX4_close_60 h
  · refine sw_aload_n hx hb dX4_close_7 0 rfl rfl ?_
    refine sw_aload_n hx hb dX4_close_8 0 rfl rfl ?_
    refine sw_get X inG4 mi_17 (ce_4 (rfl : kd 17 = 4)) rfl 6 (by decide) (goodW wd70) rfl dX4_close_9 ?_
    refine sw_putI X tyX4 tyX4_ok nmX4 inG4 mi_17 (ce_4 (rfl : kd 17 = 4)) rfl 7 (by decide) (goodW wd71) rfl (by decide +kernel : parseFieldDescriptor _ = some .int) rfl rfl (Nat.le_of_ble_eq_true rfl) (pu_4_7 (rfl : kd 17 = 4) _) dX4_close_12 h (fun M_10 h => ?_)
    exact sw_Vret X hr dX4_close_15 h

end
theorem okX4_close (l : Launch) {D : va_G} {cy : Nat → ClassId} {ad : Nat → Nat} (hD : ∀ M : Mem, va_D (AA ad iX) (wl cy ad iX M)) (M : Mem) (z : Mem) (h : fX4_close M = some z) : CTV l yX4_close (wsG yX4_close cX4_close 1 none) rm_X4_close D cy ad iX [.ref (ad 17)] M z :=
  met_of (cc := cX4_close) (maxL := 1) (ret := none) (own := RX4) (by decide) rfl rfl hD ndX (Nat.le_of_ble_eq_true rfl) (fun p e s m below meth c X hr => wX4_close_E X hr M h)
abbrev QX0_atoms (below : List Frame) (D : va_G) (cy : Nat → ClassId) (ad : Nat → Nat) (args : Array Value) (s : State) (z : Int32 × Mem) : State → Prop := MQ below (va_Qi (fun r u => r = z.1 ∧ u = z.2) (BB D cy ad iX) (AA ad iX)) args s 0 0 (AA ad iX)
section
variable {p : Program} {l : Launch} {e : Env} {s : State} {m : MethodId} {args : Array Value} {below : List Frame} {meth : Method} {c : Code} {D : va_G} {cy : Nat → ClassId} {ad : Nat → Nat} {z : Int32 × Mem}
set_option maxHeartbeats 4000000 in
set_option maxRecDepth 100000 in
theorem wX0_atoms_E (X : CX p s m args meth c D cy ad iX cX0_atoms 1 (wsG yX0_atoms cX0_atoms 1 (some .int)) RX0) (hr : meth.sig.returnType = (some .int)) (o : Nat) (h_o : kd o = 0) (M : Mem) (h : fX0_atoms o M = some z) : SW p l e rm_X0_atoms s m args below meth c 0 0 (QX0_atoms below D cy ad args s z) 1 (PH D cy ad iX s M) 0 [(0, .ref (ad o))] [] := by
  have hx := X.1
  have hb := X.2.1
  unfold fX0_atoms at h
  refine sw_aload_n hx hb dX0_atoms_0 0 rfl rfl ?_
  refine sw_get X inG0 (mm0 h_o) (ce_0 h_o) rfl 2 (by decide) (goodW wd40) rfl dX0_atoms_1 ?_
  exact sw_Iret X hr dX0_atoms_4 h

end
theorem okX0_atoms (l : Launch) {D : va_G} {cy : Nat → ClassId} {ad : Nat → Nat} (hD : ∀ M : Mem, va_D (AA ad iX) (wl cy ad iX M)) (o : Nat) (h_o : kd o = 0) (M : Mem) (z : Int32 × Mem) (h : fX0_atoms o M = some z) : CTI l yX0_atoms (wsG yX0_atoms cX0_atoms 1 (some .int)) rm_X0_atoms D cy ad iX [.ref (ad o)] M z :=
  met_of (cc := cX0_atoms) (maxL := 1) (ret := (some .int)) (own := RX0) (by decide) rfl rfl hD ndX (Nat.le_of_ble_eq_true rfl) (fun p e s m below meth c X hr => wX0_atoms_E X hr o h_o M h)
abbrev QX0_addAtom (below : List Frame) (D : va_G) (cy : Nat → ClassId) (ad : Nat → Nat) (args : Array Value) (s : State) (z : Mem) : State → Prop := MQ below (va_Qv (fun u => u = z) (BB D cy ad iX) (AA ad iX)) args s 0 0 (AA ad iX)
section
variable {p : Program} {l : Launch} {e : Env} {s : State} {m : MethodId} {args : Array Value} {below : List Frame} {meth : Method} {c : Code} {D : va_G} {cy : Nat → ClassId} {ad : Nat → Nat} {z : Mem}
set_option maxHeartbeats 4000000 in
set_option maxRecDepth 100000 in
theorem wX0_addAtom_E (X : CX p s m args meth c D cy ad iX cX0_addAtom 1 (wsG yX0_addAtom cX0_addAtom 1 none) RX0) (hr : meth.sig.returnType = none) (o : Nat) (h_o : kd o = 0) (M : Mem) (h : fX0_addAtom o M = some z) : SW p l e rm_X0_addAtom s m args below meth c 0 0 (QX0_addAtom below D cy ad args s z) 1 (PH D cy ad iX s M) 0 [(0, .ref (ad o))] [] := by
  have hx := X.1
  have hb := X.2.1
  unfold fX0_addAtom at h
  refine sw_aload_n hx hb dX0_addAtom_0 0 rfl rfl ?_
  refine sw_get X inG0 (mm0 h_o) (ce_0 h_o) rfl 2 (by decide) (goodW wd40) rfl dX0_addAtom_1 ?_
  refine sw_bipush hx hb 60 dX0_addAtom_4 (by decide) ?_
  refine sw_icmp_ge hx hb 19 dX0_addAtom_6 (by decide) h (fun h => ?_) (fun h => ?_)
  · exact sw_Vret X hr dX0_addAtom_19 h
  · refine sw_aload_n hx hb dX0_addAtom_9 0 rfl rfl ?_
    refine sw_dup hx hb dX0_addAtom_10 rfl ?_
    refine sw_get X inG0 (mm0 h_o) (ce_0 h_o) rfl 2 (by decide) (goodW wd40) rfl dX0_addAtom_11 ?_
    refine sw_iconst hx hb 1 dX0_addAtom_14 (by decide) ?_
    refine sw_iadd hx hb dX0_addAtom_15 ?_
    refine sw_putI X tyX0 tyX0_ok nmX0 inG0 (mm0 h_o) (ce_0 h_o) rfl 2 (by decide) (goodW wd40) rfl (by decide +kernel : parseFieldDescriptor _ = some .int) rfl rfl (Nat.le_of_ble_eq_true rfl) (pu_0_2 h_o _) dX0_addAtom_16 h (fun M_1 h => ?_)
    exact sw_Vret X hr dX0_addAtom_19 h

end
theorem okX0_addAtom (l : Launch) {D : va_G} {cy : Nat → ClassId} {ad : Nat → Nat} (hD : ∀ M : Mem, va_D (AA ad iX) (wl cy ad iX M)) (o : Nat) (h_o : kd o = 0) (M : Mem) (z : Mem) (h : fX0_addAtom o M = some z) : CTV l yX0_addAtom (wsG yX0_addAtom cX0_addAtom 1 none) rm_X0_addAtom D cy ad iX [.ref (ad o)] M z :=
  met_of (cc := cX0_addAtom) (maxL := 1) (ret := none) (own := RX0) (by decide) rfl rfl hD ndX (Nat.le_of_ble_eq_true rfl) (fun p e s m below meth c X hr => wX0_addAtom_E X hr o h_o M h)
abbrev QX4_readSign (below : List Frame) (D : va_G) (cy : Nat → ClassId) (ad : Nat → Nat) (args : Array Value) (s : State) (z : Int32 × Mem) : State → Prop := MQ below (va_Qi (fun r u => r = z.1 ∧ u = z.2) (BB D cy ad iX) (AA ad iX)) args s 0 0 (AA ad iX)
section
variable {p : Program} {l : Launch} {e : Env} {s : State} {m : MethodId} {args : Array Value} {below : List Frame} {meth : Method} {c : Code} {D : va_G} {cy : Nat → ClassId} {ad : Nat → Nat} {z : Int32 × Mem}
set_option maxHeartbeats 4000000 in
set_option maxRecDepth 100000 in
theorem wX4_readSign_L88 (X : CX p s m args meth c D cy ad iX cX4_readSign 3 (wsG yX4_readSign cX4_readSign 3 (some .int)) RX4) (hr : meth.sig.returnType = (some .int)) (x2 : Int32) (M : Mem) (h : fX4_readSign_L88 x2 M = some z) : SW p l e rm_X4_readSign s m args below meth c 0 0 (QX4_readSign below D cy ad args s z) 3 (PH D cy ad iX s M) 88 [(0, .ref (ad 17)), (2, .int x2)] [] := by
  have hx := X.1
  have hb := X.2.1
  unfold fX4_readSign_L88 at h
  refine sw_aload_n hx hb dX4_readSign_88 0 rfl rfl ?_
  refine sw_dup hx hb dX4_readSign_89 rfl ?_
  refine sw_get X inG4 mi_17 (ce_4 (rfl : kd 17 = 4)) rfl 6 (by decide) (goodW wd70) rfl dX4_readSign_90 ?_
  refine sw_iconst hx hb 1 dX4_readSign_93 (by decide) ?_
  refine sw_iadd hx hb dX4_readSign_94 ?_
  refine sw_putI X tyX4 tyX4_ok nmX4 inG4 mi_17 (ce_4 (rfl : kd 17 = 4)) rfl 6 (by decide) (goodW wd70) rfl (by decide +kernel : parseFieldDescriptor _ = some .int) rfl rfl (Nat.le_of_ble_eq_true rfl) (pu_4_6 (rfl : kd 17 = 4) _) dX4_readSign_95 h (fun M_3 h => ?_)
  refine sw_iload_n hx hb dX4_readSign_98 1 rfl rfl ?_
  exact sw_Iret X hr dX4_readSign_99 h

set_option maxHeartbeats 4000000 in
set_option maxRecDepth 100000 in
theorem wX4_readSign_L72 (X : CX p s m args meth c D cy ad iX cX4_readSign 3 (wsG yX4_readSign cX4_readSign 3 (some .int)) RX4) (hr : meth.sig.returnType = (some .int)) (x2 : Int32) (M : Mem) (h : fX4_readSign_L72 x2 M = some z) : SW p l e rm_X4_readSign s m args below meth c 0 0 (QX4_readSign below D cy ad args s z) 3 (PH D cy ad iX s M) 72 [(0, .ref (ad 17)), (2, .int x2)] [] := by
  have hx := X.1
  have hb := X.2.1
  unfold fX4_readSign_L72 at h
  refine sw_iload_n hx hb dX4_readSign_72 1 rfl rfl ?_
  refine sw_iconst hx hb (-1) dX4_readSign_73 (by decide) ?_
  refine sw_icmp_ne hx hb 88 dX4_readSign_74 (by decide) h (fun h => ?_) (fun h => ?_)
  · refine sw_sub (lv1 := [(0, .ref (ad 17)), (2, .int x2)]) [0, 1] rfl ?_
    exact wX4_readSign_L88 X hr x2 M h
  · refine sw_aload_n hx hb dX4_readSign_77 0 rfl rfl ?_
    refine sw_aload_n hx hb dX4_readSign_78 0 rfl rfl ?_
    refine sw_get X inG4 mi_17 (ce_4 (rfl : kd 17 = 4)) rfl 0 (by decide) (goodW wd62) rfl dX4_readSign_79 ?_
    refine sw_callVI (C := RX5) (As := []) (rest := [.ref (ad 17)]) X mi_18 (ce_5 (rfl : kd 18 = 5)) rfl rfl (fun _ hz => okX5_size l X.2.2.2.2.2.2.1 18 (rfl : kd 18 = 5) M _ hz) (cwX4_53 X.2.2.2.2.1 ⟨Nat.le_of_ble_eq_true rfl, Nat.le_of_ble_eq_true rfl⟩)  rfl rfl (Nat.le_of_ble_eq_true rfl) dX4_readSign_82 ⟨Nat.le_of_ble_eq_true rfl, Nat.le_of_ble_eq_true rfl⟩ h (fun v_5 M_4 _ h => ?_)
    refine sw_putI X tyX4 tyX4_ok nmX4 inG4 mi_17 (ce_4 (rfl : kd 17 = 4)) rfl 7 (by decide) (goodW wd71) rfl (by decide +kernel : parseFieldDescriptor _ = some .int) rfl rfl (Nat.le_of_ble_eq_true rfl) (pu_4_7 (rfl : kd 17 = 4) _) dX4_readSign_85 h (fun M_6 h => ?_)
    refine sw_sub (lv1 := [(0, .ref (ad 17)), (2, .int x2)]) [0, 1] rfl ?_
    exact wX4_readSign_L88 X hr x2 M_6 h

set_option maxHeartbeats 4000000 in
set_option maxRecDepth 100000 in
theorem wX4_readSign_L44 (X : CX p s m args meth c D cy ad iX cX4_readSign 3 (wsG yX4_readSign cX4_readSign 3 (some .int)) RX4) (hr : meth.sig.returnType = (some .int)) (x2 : Int32) (M : Mem) (h : fX4_readSign_L44 x2 M = some z) : SW p l e rm_X4_readSign s m args below meth c 0 0 (QX4_readSign below D cy ad args s z) 3 (PH D cy ad iX s M) 44 [(0, .ref (ad 17)), (2, .int x2)] [] := by
  have hx := X.1
  have hb := X.2.1
  unfold fX4_readSign_L44 at h
  refine sw_iload_n hx hb dX4_readSign_44 1 rfl rfl ?_
  refine sw_bipush hx hb 92 dX4_readSign_45 (by decide) ?_
  refine sw_icmp_ne hx hb 72 dX4_readSign_47 (by decide) h (fun h => ?_) (fun h => ?_)
  · refine sw_sub (lv1 := [(0, .ref (ad 17)), (2, .int x2)]) [0, 1] rfl ?_
    exact wX4_readSign_L72 X hr x2 M h
  · refine sw_aload_n hx hb dX4_readSign_50 0 rfl rfl ?_
    refine sw_dup hx hb dX4_readSign_51 rfl ?_
    refine sw_get X inG4 mi_17 (ce_4 (rfl : kd 17 = 4)) rfl 6 (by decide) (goodW wd70) rfl dX4_readSign_52 ?_
    refine sw_iconst hx hb 1 dX4_readSign_55 (by decide) ?_
    refine sw_iadd hx hb dX4_readSign_56 ?_
    refine sw_putI X tyX4 tyX4_ok nmX4 inG4 mi_17 (ce_4 (rfl : kd 17 = 4)) rfl 6 (by decide) (goodW wd70) rfl (by decide +kernel : parseFieldDescriptor _ = some .int) rfl rfl (Nat.le_of_ble_eq_true rfl) (pu_4_6 (rfl : kd 17 = 4) _) dX4_readSign_57 h (fun M_7 h => ?_)
    refine sw_aload_n hx hb dX4_readSign_60 0 rfl rfl ?_
    refine sw_get X inG4 mi_17 (ce_4 (rfl : kd 17 = 4)) rfl 0 (by decide) (goodW wd62) rfl dX4_readSign_61 ?_
    refine sw_aload_n hx hb dX4_readSign_64 0 rfl rfl ?_
    refine sw_get X inG4 mi_17 (ce_4 (rfl : kd 17 = 4)) rfl 6 (by decide) (goodW wd70) rfl dX4_readSign_65 ?_
    refine sw_callVI (C := RX5) (As := [.int (gI M_7 17 6)]) (rest := []) X mi_18 (ce_5 (rfl : kd 18 = 5)) rfl rfl (fun _ hz => okX5_at l X.2.2.2.2.2.2.1 18 (gI M_7 17 6) (rfl : kd 18 = 5) M_7 _ hz) (cwX4_57 X.2.2.2.2.1 ⟨Nat.le_of_ble_eq_true rfl, Nat.le_of_ble_eq_true rfl⟩)  rfl rfl (Nat.le_of_ble_eq_true rfl) dX4_readSign_68 ⟨Nat.le_of_ble_eq_true rfl, Nat.le_of_ble_eq_true rfl⟩ h (fun v_9 M_8 _ h => ?_)
    refine sw_istore_n hx hb [(2, .int v_9), (0, .ref (ad 17))] dX4_readSign_71 rfl (by decide) rfl ?_
    refine sw_sub (lv1 := [(0, .ref (ad 17)), (2, .int v_9)]) [1, 0] rfl ?_
    exact wX4_readSign_L72 X hr v_9 M_8 h

set_option maxHeartbeats 4000000 in
set_option maxRecDepth 100000 in
theorem wX4_readSign_L34 (X : CX p s m args meth c D cy ad iX cX4_readSign 3 (wsG yX4_readSign cX4_readSign 3 (some .int)) RX4) (hr : meth.sig.returnType = (some .int)) (M : Mem) (h : fX4_readSign_L34 M = some z) : SW p l e rm_X4_readSign s m args below meth c 0 0 (QX4_readSign below D cy ad args s z) 3 (PH D cy ad iX s M) 34 [(0, .ref (ad 17))] [] := by
  have hx := X.1
  have hb := X.2.1
  unfold fX4_readSign_L34 at h
  refine sw_aload_n hx hb dX4_readSign_34 0 rfl rfl ?_
  refine sw_aload_n hx hb dX4_readSign_35 0 rfl rfl ?_
  refine sw_get X inG4 mi_17 (ce_4 (rfl : kd 17 = 4)) rfl 6 (by decide) (goodW wd70) rfl dX4_readSign_36 ?_
  refine sw_putI X tyX4 tyX4_ok nmX4 inG4 mi_17 (ce_4 (rfl : kd 17 = 4)) rfl 7 (by decide) (goodW wd71) rfl (by decide +kernel : parseFieldDescriptor _ = some .int) rfl rfl (Nat.le_of_ble_eq_true rfl) (pu_4_7 (rfl : kd 17 = 4) _) dX4_readSign_39 h (fun M_10 h => ?_)
  refine sw_iconst hx hb (-1) dX4_readSign_42 (by decide) ?_
  exact sw_Iret X hr dX4_readSign_43 h

set_option maxHeartbeats 4000000 in
set_option maxRecDepth 100000 in
theorem wX4_readSign_E (X : CX p s m args meth c D cy ad iX cX4_readSign 3 (wsG yX4_readSign cX4_readSign 3 (some .int)) RX4) (hr : meth.sig.returnType = (some .int)) (x1 : Int32) (M : Mem) (h : fX4_readSign x1 M = some z) : SW p l e rm_X4_readSign s m args below meth c 0 0 (QX4_readSign below D cy ad args s z) 3 (PH D cy ad iX s M) 0 [(0, .ref (ad 17)), (1, .int x1)] [] := by
  have hx := X.1
  have hb := X.2.1
  unfold fX4_readSign at h
  refine sw_aload_n hx hb dX4_readSign_0 0 rfl rfl ?_
  refine sw_get X inG4 mi_17 (ce_4 (rfl : kd 17 = 4)) rfl 0 (by decide) (goodW wd62) rfl dX4_readSign_1 ?_
  refine sw_aload_n hx hb dX4_readSign_4 0 rfl rfl ?_
  refine sw_get X inG4 mi_17 (ce_4 (rfl : kd 17 = 4)) rfl 6 (by decide) (goodW wd70) rfl dX4_readSign_5 ?_
  refine sw_callVI (C := RX5) (As := [.int (gI M 17 6)]) (rest := []) X mi_18 (ce_5 (rfl : kd 18 = 5)) rfl rfl (fun _ hz => okX5_at l X.2.2.2.2.2.2.1 18 (gI M 17 6) (rfl : kd 18 = 5) M _ hz) (cwX4_57 X.2.2.2.2.1 ⟨Nat.le_of_ble_eq_true rfl, Nat.le_of_ble_eq_true rfl⟩)  rfl rfl (Nat.le_of_ble_eq_true rfl) dX4_readSign_8 ⟨Nat.le_of_ble_eq_true rfl, Nat.le_of_ble_eq_true rfl⟩ h (fun v_2 M_1 _ h => ?_)
  refine sw_istore_n hx hb [(2, .int v_2), (0, .ref (ad 17)), (1, .int x1)] dX4_readSign_11 rfl (by decide) rfl ?_
  refine sw_iload_n hx hb dX4_readSign_12 2 rfl rfl ?_
  refine sw_if_eq hx hb 44 dX4_readSign_13 (by decide) h (fun h => ?_) (fun h => ?_)
  · refine sw_sub (lv1 := [(0, .ref (ad 17)), (2, .int v_2)]) [1, 0] rfl ?_
    exact wX4_readSign_L44 X hr v_2 M_1 h
  · refine sw_iload_n hx hb dX4_readSign_16 0 rfl rfl ?_
    refine sw_bipush hx hb 93 dX4_readSign_17 (by decide) ?_
    refine sw_icmp_eq hx hb 34 dX4_readSign_19 (by decide) h (fun h => ?_) (fun h => ?_)
    · refine sw_sub (lv1 := [(0, .ref (ad 17))]) [1] rfl ?_
      exact wX4_readSign_L34 X hr M_1 h
    · refine sw_iload_n hx hb dX4_readSign_22 0 rfl rfl ?_
      refine sw_bipush hx hb 94 dX4_readSign_23 (by decide) ?_
      refine sw_icmp_eq hx hb 34 dX4_readSign_25 (by decide) h (fun h => ?_) (fun h => ?_)
      · refine sw_sub (lv1 := [(0, .ref (ad 17))]) [1] rfl ?_
        exact wX4_readSign_L34 X hr M_1 h
      · refine sw_iload_n hx hb dX4_readSign_28 0 rfl rfl ?_
        refine sw_bipush hx hb 45 dX4_readSign_29 (by decide) ?_
        refine sw_icmp_ne hx hb 44 dX4_readSign_31 (by decide) h (fun h => ?_) (fun h => ?_)
        · refine sw_sub (lv1 := [(0, .ref (ad 17)), (2, .int v_2)]) [1, 0] rfl ?_
          exact wX4_readSign_L44 X hr v_2 M_1 h
        · refine sw_sub (lv1 := [(0, .ref (ad 17))]) [1] rfl ?_
          exact wX4_readSign_L34 X hr M_1 h

end
theorem okX4_readSign (l : Launch) {D : va_G} {cy : Nat → ClassId} {ad : Nat → Nat} (hD : ∀ M : Mem, va_D (AA ad iX) (wl cy ad iX M)) (x1 : Int32) (M : Mem) (z : Int32 × Mem) (h : fX4_readSign x1 M = some z) : CTI l yX4_readSign (wsG yX4_readSign cX4_readSign 3 (some .int)) rm_X4_readSign D cy ad iX [.ref (ad 17), .int x1] M z :=
  met_of (cc := cX4_readSign) (maxL := 3) (ret := (some .int)) (own := RX4) (by decide) rfl rfl hD ndX (Nat.le_of_ble_eq_true rfl) (fun p e s m below meth c X hr => wX4_readSign_E X hr x1 M h)
abbrev QX0_newest (below : List Frame) (D : va_G) (cy : Nat → ClassId) (ad : Nat → Nat) (args : Array Value) (s : State) (z : Int64 × Mem) : State → Prop := MQ below (va_Ql (fun r u => r = z.1 ∧ u = z.2) (BB D cy ad iX) (AA ad iX)) args s 0 0 (AA ad iX)
section
variable {p : Program} {l : Launch} {e : Env} {s : State} {m : MethodId} {args : Array Value} {below : List Frame} {meth : Method} {c : Code} {D : va_G} {cy : Nat → ClassId} {ad : Nat → Nat} {z : Int64 × Mem}
set_option maxHeartbeats 4000000 in
set_option maxRecDepth 100000 in
theorem wX0_newest_E (X : CX p s m args meth c D cy ad iX cX0_newest 1 (wsG yX0_newest cX0_newest 1 (some .long)) RX0) (hr : meth.sig.returnType = (some .long)) (o : Nat) (h_o : kd o = 0) (M : Mem) (h : fX0_newest o M = some z) : SW p l e rm_X0_newest s m args below meth c 0 0 (QX0_newest below D cy ad args s z) 1 (PH D cy ad iX s M) 0 [(0, .ref (ad o))] [] := by
  have hx := X.1
  have hb := X.2.1
  unfold fX0_newest at h
  refine sw_aload_n hx hb dX0_newest_0 0 rfl rfl ?_
  refine sw_get X inG0 (mm0 h_o) (ce_0 h_o) rfl 2 (by decide) (goodW wd40) rfl dX0_newest_1 ?_
  refine sw_if_le hx hb 18 dX0_newest_4 (by decide) h (fun h => ?_) (fun h => ?_)
  · refine sw_lconst hx hb 0 dX0_newest_18 (by decide) ?_
    exact sw_Jret X hr dX0_newest_19 h
  · refine sw_lconst hx hb 1 dX0_newest_7 (by decide) ?_
    refine sw_aload_n hx hb dX0_newest_8 0 rfl rfl ?_
    refine sw_get X inG0 (mm0 h_o) (ce_0 h_o) rfl 2 (by decide) (goodW wd40) rfl dX0_newest_9 ?_
    refine sw_iconst hx hb 1 dX0_newest_12 (by decide) ?_
    refine sw_isub hx hb dX0_newest_13 ?_
    refine sw_lshl hx hb dX0_newest_14 ?_
    refine sw_goto hx hb 19 dX0_newest_15 (by decide) ?_
    exact sw_Jret X hr dX0_newest_19 h

end
theorem okX0_newest (l : Launch) {D : va_G} {cy : Nat → ClassId} {ad : Nat → Nat} (hD : ∀ M : Mem, va_D (AA ad iX) (wl cy ad iX M)) (o : Nat) (h_o : kd o = 0) (M : Mem) (z : Int64 × Mem) (h : fX0_newest o M = some z) : CTJ l yX0_newest (wsG yX0_newest cX0_newest 1 (some .long)) rm_X0_newest D cy ad iX [.ref (ad o)] M z :=
  met_of (cc := cX0_newest) (maxL := 1) (ret := (some .long)) (own := RX0) (by decide) rfl rfl hD ndX (Nat.le_of_ble_eq_true rfl) (fun p e s m below meth c X hr => wX0_newest_E X hr o h_o M h)
abbrev QX0_allow (below : List Frame) (D : va_G) (cy : Nat → ClassId) (ad : Nat → Nat) (args : Array Value) (s : State) (z : Mem) : State → Prop := MQ below (va_Qv (fun u => u = z) (BB D cy ad iX) (AA ad iX)) args s 0 0 (AA ad iX)
section
variable {p : Program} {l : Launch} {e : Env} {s : State} {m : MethodId} {args : Array Value} {below : List Frame} {meth : Method} {c : Code} {D : va_G} {cy : Nat → ClassId} {ad : Nat → Nat} {z : Mem}
set_option maxHeartbeats 4000000 in
set_option maxRecDepth 100000 in
theorem wX0_allow_H15 (X : CX p s m args meth c D cy ad iX cX0_allow 5 (wsG yX0_allow cX0_allow 5 none) RX0) (hr : meth.sig.returnType = none) (o : Nat) (h_o : kd o = 0) : ∀ (n : Nat) (x3 : Int32) (x4 : Int32) (M : Mem), fX0_allow_H15 o n x3 x4 M = some z → SW p l e rm_X0_allow s m args below meth c 0 0 (QX0_allow below D cy ad args s z) 5 (PH D cy ad iX s M) 15 [(0, .ref (ad o)), (3, .int x3), (4, .int x4)] [] := by
  have hx := X.1
  have hb := X.2.1
  intro n
  induction n with
  | zero =>
    intro x3 x4 M h
    have h : (none : Option (Mem)) = some z := h
    cases h
  | succ n ih =>
    intro x3 x4 M h
    rw [fX0_allow_H15] at h
    refine sw_iload hx hb dX0_allow_15 2 rfl ?_
    refine sw_iload_n hx hb dX0_allow_17 1 rfl rfl ?_
    refine sw_icmp_gt hx hb 41 dX0_allow_18 (by decide) h (fun h => ?_) (fun h => ?_)
    · exact sw_Vret X hr dX0_allow_41 h
    · refine sw_aload_n hx hb dX0_allow_21 0 rfl rfl ?_
      refine sw_get X inG0 (mm0 h_o) (ce_0 h_o) rfl 0 (by decide) (goodW wd34) rfl dX0_allow_22 ?_
      refine sw_iload hx hb dX0_allow_25 2 rfl ?_
      refine sw_dup2 hx hb dX0_allow_27 rfl rfl ?_
      refine sw_lald X (ma0 h_o) (ka0 h_o) dX0_allow_28 h (fun v_3 h => ?_)
      refine sw_aload_n hx hb dX0_allow_29 0 rfl rfl ?_
      refine sw_callVJ (C := RX0) (As := []) (rest := [.long v_3, .int x4, .ref (ad (o + 1))]) X (mm0 h_o) (ce_0 h_o) rfl rfl (fun _ hz => okX0_newest l X.2.2.2.2.2.2.1 o h_o M _ hz) (cwX0_44 X.2.2.2.2.1 ⟨Nat.le_of_ble_eq_true rfl, Nat.le_of_ble_eq_true rfl⟩)  rfl rfl (Nat.le_of_ble_eq_true rfl) dX0_allow_30 ⟨Nat.le_of_ble_eq_true rfl, Nat.le_of_ble_eq_true rfl⟩ h (fun v_5 M_4 _ h => ?_)
      refine sw_lor hx hb dX0_allow_33 ?_
      refine sw_last X (ma0 h_o) (ka0 h_o) dX0_allow_34 h (fun M_6 h => ?_)
      refine sw_iincN hx hb (k := 2) (x4 + 1) (fun x4_7 => [(4, .int x4_7), (0, .ref (ad o)), (3, .int x3)]) dX0_allow_35 rfl (by rfl) (by decide) (fun _ => rfl) h (fun x4_7 h => ?_)
      refine sw_goto hx hb 15 dX0_allow_38 (by decide) ?_
      refine sw_sub (lv1 := [(0, .ref (ad o)), (3, .int x3), (4, .int x4_7)]) [1, 2, 0] rfl ?_
      exact ih x3 x4_7 M_6 h

set_option maxHeartbeats 4000000 in
set_option maxRecDepth 100000 in
theorem wX0_allow_E (X : CX p s m args meth c D cy ad iX cX0_allow 5 (wsG yX0_allow cX0_allow 5 none) RX0) (hr : meth.sig.returnType = none) (o : Nat) (h_o : kd o = 0) (x1 : Int32) (x2 : Int32) (M : Mem) (h : fX0_allow o x1 x2 M = some z) : SW p l e rm_X0_allow s m args below meth c 0 0 (QX0_allow below D cy ad args s z) 5 (PH D cy ad iX s M) 0 [(0, .ref (ad o)), (1, .int x1), (2, .int x2)] [] := by
  have hx := X.1
  have hb := X.2.1
  unfold fX0_allow at h
  refine sw_iload_n hx hb dX0_allow_0 2 rfl rfl ?_
  refine sw_sipush hx hb 255 dX0_allow_1 (by decide) ?_
  refine sw_mmin X (goodW wd104) (goodW wd105) (goodW wd106) (goodW wd107) (Nat.le_of_ble_eq_true rfl) (Nat.le_of_ble_eq_true rfl) (Nat.le_of_ble_eq_true rfl) (Nat.le_of_ble_eq_true rfl) dX0_allow_4 ?_
  refine sw_istore_nN hx hb (fun x3_1 => [(3, .int x3_1), (0, .ref (ad o)), (1, .int x1), (2, .int x2)]) dX0_allow_7 rfl (by decide) (fun _ => rfl) h (fun x3_1 h => ?_)
  refine sw_iload_n hx hb dX0_allow_8 2 rfl rfl ?_
  refine sw_iconst hx hb 0 dX0_allow_9 (by decide) ?_
  refine sw_mmax X (goodW wd108) (goodW wd109) (goodW wd106) (goodW wd110) (Nat.le_of_ble_eq_true rfl) (Nat.le_of_ble_eq_true rfl) (Nat.le_of_ble_eq_true rfl) (Nat.le_of_ble_eq_true rfl) dX0_allow_10 ?_
  refine sw_istoreN hx hb (fun x4_2 => [(4, .int x4_2), (3, .int x3_1), (0, .ref (ad o)), (1, .int x1), (2, .int x2)]) dX0_allow_13 (by decide) (fun _ => rfl) h (fun x4_2 h => ?_)
  refine sw_sub (lv1 := [(0, .ref (ad o)), (3, .int x3_1), (4, .int x4_2)]) [2, 1, 0] rfl ?_
  exact wX0_allow_H15 X hr o h_o FU x3_1 x4_2 M h

end
theorem okX0_allow (l : Launch) {D : va_G} {cy : Nat → ClassId} {ad : Nat → Nat} (hD : ∀ M : Mem, va_D (AA ad iX) (wl cy ad iX M)) (o : Nat) (x1 : Int32) (x2 : Int32) (h_o : kd o = 0) (M : Mem) (z : Mem) (h : fX0_allow o x1 x2 M = some z) : CTV l yX0_allow (wsG yX0_allow cX0_allow 5 none) rm_X0_allow D cy ad iX [.ref (ad o), .int x1, .int x2] M z :=
  met_of (cc := cX0_allow) (maxL := 5) (ret := none) (own := RX0) (by decide) rfl rfl hD ndX (Nat.le_of_ble_eq_true rfl) (fun p e s m below meth c X hr => wX0_allow_E X hr o h_o x1 x2 M h)
