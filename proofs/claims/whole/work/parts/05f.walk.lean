abbrev QX6_strange (below : List Frame) (D : va_G) (cy : Nat → ClassId) (ad : Nat → Nat) (args : Array Value) (s : State) (z : Int32 × Mem) : State → Prop := MQ below (va_Qi (fun r u => r = z.1 ∧ u = z.2) (BB D cy ad iX) (AA ad iX)) args s 0 0 (AA ad iX)
section
variable {p : Program} {l : Launch} {e : Env} {s : State} {m : MethodId} {args : Array Value} {below : List Frame} {meth : Method} {c : Code} {D : va_G} {cy : Nat → ClassId} {ad : Nat → Nat} {z : Int32 × Mem}
set_option maxHeartbeats 4000000 in
set_option maxRecDepth 100000 in
theorem wX6_strange_E (X : CX p s m args meth c D cy ad iX cX6_strange 2 (wsG yX6_strange cX6_strange 2 (some .int)) RX6) (hr : meth.sig.returnType = (some .int)) (x1 : Int32) (M : Mem) (h : fX6_strange x1 M = some z) : SW p l e rm_X6_strange s m args below meth c 0 0 (QX6_strange below D cy ad args s z) 2 (PH D cy ad iX s M) 0 [(0, .ref (ad 0)), (1, .int x1)] [] := by
  have hx := X.1
  have hb := X.2.1
  unfold fX6_strange at h
  refine sw_iload_n hx hb dX6_strange_0 1 rfl rfl ?_
  refine sw_callSI (As := [.int x1]) (rest := []) X (fun _ hz => okX6_isCost l X.2.2.2.2.2.2.1 x1 M _ hz) (cwX6_82 X.2.2.2.2.1 ⟨Nat.le_of_ble_eq_true rfl, Nat.le_of_ble_eq_true rfl⟩)  rfl rfl (Nat.le_of_ble_eq_true rfl) dX6_strange_1 ⟨Nat.le_of_ble_eq_true rfl, Nat.le_of_ble_eq_true rfl⟩ h (fun v_2 M_1 _ h => ?_)
  refine sw_if_ne hx hb 9 dX6_strange_4 (by decide) h (fun h => ?_) (fun h => ?_)
  · refine sw_aload_n hx hb dX6_strange_9 0 rfl rfl ?_
    refine sw_get X inG6 mi_0 (ce_6 (rfl : kd 0 = 6)) rfl 3 (by decide) (goodW wd211) rfl dX6_strange_10 ?_
    refine sw_iload_n hx hb dX6_strange_13 1 rfl rfl ?_
    refine sw_callVI (C := RX1) (As := [.int x1]) (rest := []) X mi_9 (ce_1 (rfl : kd 9 = 1)) rfl rfl (fun _ hz => okX1_exchangeStrangeCost l X.2.2.2.2.2.2.1 x1 M_1 _ hz) (cwX6_86 X.2.2.2.2.1 ⟨Nat.le_of_ble_eq_true rfl, Nat.le_of_ble_eq_true rfl⟩)  rfl rfl (Nat.le_of_ble_eq_true rfl) dX6_strange_14 ⟨Nat.le_of_ble_eq_true rfl, Nat.le_of_ble_eq_true rfl⟩ h (fun v_4 M_3 _ h => ?_)
    exact sw_Iret X hr dX6_strange_17 h
  · refine sw_iconst hx hb (-1) dX6_strange_7 (by decide) ?_
    exact sw_Iret X hr dX6_strange_8 h

end
theorem okX6_strange (l : Launch) {D : va_G} {cy : Nat → ClassId} {ad : Nat → Nat} (hD : ∀ M : Mem, va_D (AA ad iX) (wl cy ad iX M)) (x1 : Int32) (M : Mem) (z : Int32 × Mem) (h : fX6_strange x1 M = some z) : CTI l yX6_strange (wsG yX6_strange cX6_strange 2 (some .int)) rm_X6_strange D cy ad iX [.ref (ad 0), .int x1] M z :=
  met_of (cc := cX6_strange) (maxL := 2) (ret := (some .int)) (own := RX6) (by decide) rfl rfl hD ndX (Nat.le_of_ble_eq_true rfl) (fun p e s m below meth c X hr => wX6_strange_E X hr x1 M h)
abbrev QX6_links (below : List Frame) (D : va_G) (cy : Nat → ClassId) (ad : Nat → Nat) (args : Array Value) (s : State) (z : Int32 × Mem) : State → Prop := MQ below (va_Qi (fun r u => r = z.1 ∧ u = z.2) (BB D cy ad iX) (AA ad iX)) args s 0 0 (AA ad iX)
section
variable {p : Program} {l : Launch} {e : Env} {s : State} {m : MethodId} {args : Array Value} {below : List Frame} {meth : Method} {c : Code} {D : va_G} {cy : Nat → ClassId} {ad : Nat → Nat} {z : Int32 × Mem}
set_option maxHeartbeats 4000000 in
set_option maxRecDepth 100000 in
theorem wX6_links_L12 (X : CX p s m args meth c D cy ad iX cX6_links 3 (wsG yX6_links cX6_links 3 (some .int)) RX6) (hr : meth.sig.returnType = (some .int)) (x1 : Int32) (y0 : Int32) (M : Mem) (h : fX6_links_L12 x1 y0 M = some z) : SW p l e rm_X6_links s m args below meth c 0 0 (QX6_links below D cy ad args s z) 3 (PH D cy ad iX s M) 12 [(0, .ref (ad 0)), (1, .int x1)] [.int y0] := by
  have hx := X.1
  have hb := X.2.1
  unfold fX6_links_L12 at h
  refine sw_istore_n hx hb [(2, .int y0), (0, .ref (ad 0)), (1, .int x1)] dX6_links_12 rfl (by decide) rfl ?_
  refine sw_aload_n hx hb dX6_links_13 1 rfl rfl ?_
  refine sw_iload_n hx hb dX6_links_14 2 rfl rfl ?_
  obtain ⟨hz, h⟩ := sz_ok h
  refine sw_putI X tyX6 tyX6_ok nmX6 inG6 mi_0 (ce_6 (rfl : kd 0 = 6)) rfl 6 (by decide) (goodW wd223) rfl (by decide +kernel : parseFieldDescriptor _ = some .boolean) (nar_z hz).1 (nar_z hz).2 (Nat.le_of_ble_eq_true rfl) (pu_6_6 (rfl : kd 0 = 6) _) dX6_links_15 h (fun M_1 h => ?_)
  refine sw_iload_n hx hb dX6_links_18 0 rfl rfl ?_
  exact sw_Iret X hr dX6_links_19 h

set_option maxHeartbeats 4000000 in
set_option maxRecDepth 100000 in
theorem wX6_links_E (X : CX p s m args meth c D cy ad iX cX6_links 3 (wsG yX6_links cX6_links 3 (some .int)) RX6) (hr : meth.sig.returnType = (some .int)) (x1 : Int32) (M : Mem) (h : fX6_links x1 M = some z) : SW p l e rm_X6_links s m args below meth c 0 0 (QX6_links below D cy ad args s z) 3 (PH D cy ad iX s M) 0 [(0, .ref (ad 0)), (1, .int x1)] [] := by
  have hx := X.1
  have hb := X.2.1
  unfold fX6_links at h
  refine sw_aload_n hx hb dX6_links_0 0 rfl rfl ?_
  refine sw_get X inG6 mi_0 (ce_6 (rfl : kd 0 = 6)) rfl 6 (by decide) (goodW wd223) rfl dX6_links_1 ?_
  refine sw_if_eq hx hb 11 dX6_links_4 (by decide) h (fun h => ?_) (fun h => ?_)
  · refine sw_iconst hx hb 0 dX6_links_11 (by decide) ?_
    refine sw_sub (lv1 := [(0, .ref (ad 0)), (1, .int x1)]) [0, 1] rfl ?_
    exact wX6_links_L12 X hr x1 0 M h
  · refine sw_iconst hx hb 1 dX6_links_7 (by decide) ?_
    refine sw_goto hx hb 12 dX6_links_8 (by decide) ?_
    refine sw_sub (lv1 := [(0, .ref (ad 0)), (1, .int x1)]) [0, 1] rfl ?_
    exact wX6_links_L12 X hr x1 1 M h

end
theorem okX6_links (l : Launch) {D : va_G} {cy : Nat → ClassId} {ad : Nat → Nat} (hD : ∀ M : Mem, va_D (AA ad iX) (wl cy ad iX M)) (x1 : Int32) (M : Mem) (z : Int32 × Mem) (h : fX6_links x1 M = some z) : CTI l yX6_links (wsG yX6_links cX6_links 3 (some .int)) rm_X6_links D cy ad iX [.ref (ad 0), .int x1] M z :=
  met_of (cc := cX6_links) (maxL := 3) (ret := (some .int)) (own := RX6) (by decide) rfl rfl hD ndX (Nat.le_of_ble_eq_true rfl) (fun p e s m below meth c X hr => wX6_links_E X hr x1 M h)
abbrev QX2_exchangeLimit (below : List Frame) (D : va_G) (cy : Nat → ClassId) (ad : Nat → Nat) (args : Array Value) (s : State) (z : Int32 × Mem) : State → Prop := MQ below (va_Qi (fun r u => r = z.1 ∧ u = z.2) (BB D cy ad iX) (AA ad iX)) args s 0 0 (AA ad iX)
section
variable {p : Program} {l : Launch} {e : Env} {s : State} {m : MethodId} {args : Array Value} {below : List Frame} {meth : Method} {c : Code} {D : va_G} {cy : Nat → ClassId} {ad : Nat → Nat} {z : Int32 × Mem}
set_option maxHeartbeats 4000000 in
set_option maxRecDepth 100000 in
theorem wX2_exchangeLimit_E (X : CX p s m args meth c D cy ad iX cX2_exchangeLimit 4 (wsG yX2_exchangeLimit cX2_exchangeLimit 4 (some .int)) RX2) (hr : meth.sig.returnType = (some .int)) (x1 : Int32) (x2 : Int32) (M : Mem) (h : fX2_exchangeLimit x1 x2 M = some z) : SW p l e rm_X2_exchangeLimit s m args below meth c 0 0 (QX2_exchangeLimit below D cy ad args s z) 4 (PH D cy ad iX s M) 0 [(0, .ref (ad 5)), (1, .int x1), (2, .int x2)] [] := by
  have hx := X.1
  have hb := X.2.1
  unfold fX2_exchangeLimit at h
  refine sw_aload_n hx hb dX2_exchangeLimit_0 0 rfl rfl ?_
  refine sw_get X inG2 mi_5 (ce_2 (rfl : kd 5 = 2)) rfl 5 (by decide) (goodW wd224) rfl dX2_exchangeLimit_1 ?_
  refine sw_istore_nN hx hb (fun x3_1 => [(3, .int x3_1), (0, .ref (ad 5)), (1, .int x1), (2, .int x2)]) dX2_exchangeLimit_4 rfl (by decide) (fun _ => rfl) h (fun x3_1 h => ?_)
  refine sw_aload_n hx hb dX2_exchangeLimit_5 1 rfl rfl ?_
  refine sw_iload_n hx hb dX2_exchangeLimit_6 2 rfl rfl ?_
  refine sw_putI X tyX2 tyX2_ok nmX2 inG2 mi_5 (ce_2 (rfl : kd 5 = 2)) rfl 5 (by decide) (goodW wd224) rfl (by decide +kernel : parseFieldDescriptor _ = some .int) rfl rfl (Nat.le_of_ble_eq_true rfl) (pu_2_5 (rfl : kd 5 = 2) _) dX2_exchangeLimit_7 h (fun M_2 h => ?_)
  refine sw_aload_n hx hb dX2_exchangeLimit_10 1 rfl rfl ?_
  refine sw_iload_n hx hb dX2_exchangeLimit_11 3 rfl rfl ?_
  refine sw_putI X tyX2 tyX2_ok nmX2 inG2 mi_5 (ce_2 (rfl : kd 5 = 2)) rfl 6 (by decide) (goodW wd225) rfl (by decide +kernel : parseFieldDescriptor _ = some .int) rfl rfl (Nat.le_of_ble_eq_true rfl) (pu_2_6 (rfl : kd 5 = 2) _) dX2_exchangeLimit_12 h (fun M_3 h => ?_)
  refine sw_iload_n hx hb dX2_exchangeLimit_15 0 rfl rfl ?_
  exact sw_Iret X hr dX2_exchangeLimit_16 h

end
theorem okX2_exchangeLimit (l : Launch) {D : va_G} {cy : Nat → ClassId} {ad : Nat → Nat} (hD : ∀ M : Mem, va_D (AA ad iX) (wl cy ad iX M)) (x1 : Int32) (x2 : Int32) (M : Mem) (z : Int32 × Mem) (h : fX2_exchangeLimit x1 x2 M = some z) : CTI l yX2_exchangeLimit (wsG yX2_exchangeLimit cX2_exchangeLimit 4 (some .int)) rm_X2_exchangeLimit D cy ad iX [.ref (ad 5), .int x1, .int x2] M z :=
  met_of (cc := cX2_exchangeLimit) (maxL := 4) (ret := (some .int)) (own := RX2) (by decide) rfl rfl hD ndX (Nat.le_of_ble_eq_true rfl) (fun p e s m below meth c X hr => wX2_exchangeLimit_E X hr x1 x2 M h)
abbrev QX6_longest (below : List Frame) (D : va_G) (cy : Nat → ClassId) (ad : Nat → Nat) (args : Array Value) (s : State) (z : Int32 × Mem) : State → Prop := MQ below (va_Qi (fun r u => r = z.1 ∧ u = z.2) (BB D cy ad iX) (AA ad iX)) args s 0 0 (AA ad iX)
section
variable {p : Program} {l : Launch} {e : Env} {s : State} {m : MethodId} {args : Array Value} {below : List Frame} {meth : Method} {c : Code} {D : va_G} {cy : Nat → ClassId} {ad : Nat → Nat} {z : Int32 × Mem}
set_option maxHeartbeats 4000000 in
set_option maxRecDepth 100000 in
theorem wX6_longest_L23 (X : CX p s m args meth c D cy ad iX cX6_longest 3 (wsG yX6_longest cX6_longest 3 (some .int)) RX6) (hr : meth.sig.returnType = (some .int)) (x1 : Int32) (x2 : Int32) (M : Mem) (h : fX6_longest_L23 x1 x2 M = some z) : SW p l e rm_X6_longest s m args below meth c 0 0 (QX6_longest below D cy ad args s z) 3 (PH D cy ad iX s M) 23 [(0, .ref (ad 0)), (1, .int x1), (2, .int x2)] [] := by
  have hx := X.1
  have hb := X.2.1
  unfold fX6_longest_L23 at h
  refine sw_aload_n hx hb dX6_longest_23 0 rfl rfl ?_
  refine sw_get X inG6 mi_0 (ce_6 (rfl : kd 0 = 6)) rfl 2 (by decide) (goodW wd28) rfl dX6_longest_24 ?_
  refine sw_iload_n hx hb dX6_longest_27 1 rfl rfl ?_
  refine sw_iload_n hx hb dX6_longest_28 2 rfl rfl ?_
  refine sw_callVI (C := RX2) (As := [.int x1, .int x2]) (rest := []) X mi_5 (ce_2 (rfl : kd 5 = 2)) rfl rfl (fun _ hz => okX2_exchangeLimit l X.2.2.2.2.2.2.1 x1 x2 M _ hz) (cwX6_90 X.2.2.2.2.1 ⟨Nat.le_of_ble_eq_true rfl, Nat.le_of_ble_eq_true rfl⟩)  rfl rfl (Nat.le_of_ble_eq_true rfl) dX6_longest_29 ⟨Nat.le_of_ble_eq_true rfl, Nat.le_of_ble_eq_true rfl⟩ h (fun v_2 M_1 _ h => ?_)
  exact sw_Iret X hr dX6_longest_32 h

set_option maxHeartbeats 4000000 in
set_option maxRecDepth 100000 in
theorem wX6_longest_E (X : CX p s m args meth c D cy ad iX cX6_longest 3 (wsG yX6_longest cX6_longest 3 (some .int)) RX6) (hr : meth.sig.returnType = (some .int)) (x1 : Int32) (x2 : Int32) (M : Mem) (h : fX6_longest x1 x2 M = some z) : SW p l e rm_X6_longest s m args below meth c 0 0 (QX6_longest below D cy ad args s z) 3 (PH D cy ad iX s M) 0 [(0, .ref (ad 0)), (1, .int x1), (2, .int x2)] [] := by
  have hx := X.1
  have hb := X.2.1
  unfold fX6_longest at h
  refine sw_iload_n hx hb dX6_longest_0 1 rfl rfl ?_
  refine sw_iconst hx hb 1 dX6_longest_1 (by decide) ?_
  refine sw_icmp_lt hx hb 21 dX6_longest_2 (by decide) h (fun h => ?_) (fun h => ?_)
  · refine sw_iconst hx hb (-1) dX6_longest_21 (by decide) ?_
    exact sw_Iret X hr dX6_longest_22 h
  · refine sw_iload_n hx hb dX6_longest_5 1 rfl rfl ?_
    refine sw_sipush hx hb 300 dX6_longest_6 (by decide) ?_
    refine sw_icmp_gt hx hb 21 dX6_longest_9 (by decide) h (fun h => ?_) (fun h => ?_)
    · refine sw_iconst hx hb (-1) dX6_longest_21 (by decide) ?_
      exact sw_Iret X hr dX6_longest_22 h
    · refine sw_iload_n hx hb dX6_longest_12 2 rfl rfl ?_
      refine sw_if_eq hx hb 23 dX6_longest_13 (by decide) h (fun h => ?_) (fun h => ?_)
      · refine sw_sub (lv1 := [(0, .ref (ad 0)), (1, .int x1), (2, .int x2)]) [0, 1, 2] rfl ?_
        exact wX6_longest_L23 X hr x1 x2 M h
      · refine sw_iload_n hx hb dX6_longest_16 2 rfl rfl ?_
        refine sw_iconst hx hb 1 dX6_longest_17 (by decide) ?_
        refine sw_icmp_eq hx hb 23 dX6_longest_18 (by decide) h (fun h => ?_) (fun h => ?_)
        · refine sw_sub (lv1 := [(0, .ref (ad 0)), (1, .int x1), (2, .int x2)]) [0, 1, 2] rfl ?_
          exact wX6_longest_L23 X hr x1 x2 M h
        · refine sw_iconst hx hb (-1) dX6_longest_21 (by decide) ?_
          exact sw_Iret X hr dX6_longest_22 h

end
theorem okX6_longest (l : Launch) {D : va_G} {cy : Nat → ClassId} {ad : Nat → Nat} (hD : ∀ M : Mem, va_D (AA ad iX) (wl cy ad iX M)) (x1 : Int32) (x2 : Int32) (M : Mem) (z : Int32 × Mem) (h : fX6_longest x1 x2 M = some z) : CTI l yX6_longest (wsG yX6_longest cX6_longest 3 (some .int)) rm_X6_longest D cy ad iX [.ref (ad 0), .int x1, .int x2] M z :=
  met_of (cc := cX6_longest) (maxL := 3) (ret := (some .int)) (own := RX6) (by decide) rfl rfl hD ndX (Nat.le_of_ble_eq_true rfl) (fun p e s m below meth c X hr => wX6_longest_E X hr x1 x2 M h)
abbrev QX2_begin (below : List Frame) (D : va_G) (cy : Nat → ClassId) (ad : Nat → Nat) (args : Array Value) (s : State) (z : Mem) : State → Prop := MQ below (va_Qv (fun u => u = z) (BB D cy ad iX) (AA ad iX)) args s 0 0 (AA ad iX)
section
variable {p : Program} {l : Launch} {e : Env} {s : State} {m : MethodId} {args : Array Value} {below : List Frame} {meth : Method} {c : Code} {D : va_G} {cy : Nat → ClassId} {ad : Nat → Nat} {z : Mem}
set_option maxHeartbeats 4000000 in
set_option maxRecDepth 100000 in
theorem wX2_begin_E (X : CX p s m args meth c D cy ad iX cX2_begin 2 (wsG yX2_begin cX2_begin 2 none) RX2) (hr : meth.sig.returnType = none) (x1 : Int32) (M : Mem) (h : fX2_begin x1 M = some z) : SW p l e rm_X2_begin s m args below meth c 0 0 (QX2_begin below D cy ad args s z) 2 (PH D cy ad iX s M) 0 [(0, .ref (ad 5)), (1, .int x1)] [] := by
  have hx := X.1
  have hb := X.2.1
  unfold fX2_begin at h
  refine sw_aload_n hx hb dX2_begin_0 0 rfl rfl ?_
  refine sw_callVV (C := RX2) (As := []) (rest := []) X mi_5 (ce_2 (rfl : kd 5 = 2)) rfl rfl (fun _ hz => okX2_clear l X.2.2.2.2.2.2.1 M _ hz) (cwX2_55 X.2.2.2.2.1 ⟨Nat.le_of_ble_eq_true rfl, Nat.le_of_ble_eq_true rfl⟩)  rfl rfl (Nat.le_of_ble_eq_true rfl) dX2_begin_1 ⟨Nat.le_of_ble_eq_true rfl, Nat.le_of_ble_eq_true rfl⟩ h (fun M_1 _ h => ?_)
  refine sw_aload_n hx hb dX2_begin_4 0 rfl rfl ?_
  refine sw_iload_n hx hb dX2_begin_5 1 rfl rfl ?_
  obtain ⟨hz, h⟩ := sz_ok h
  refine sw_putI X tyX2 tyX2_ok nmX2 inG2 mi_5 (ce_2 (rfl : kd 5 = 2)) rfl 7 (by decide) (goodW wd231) rfl (by decide +kernel : parseFieldDescriptor _ = some .boolean) (nar_z hz).1 (nar_z hz).2 (Nat.le_of_ble_eq_true rfl) (pu_2_7 (rfl : kd 5 = 2) _) dX2_begin_6 h (fun M_3 h => ?_)
  refine sw_aload_n hx hb dX2_begin_9 0 rfl rfl ?_
  refine sw_iconst hx hb (-1) dX2_begin_10 (by decide) ?_
  refine sw_putI X tyX2 tyX2_ok nmX2 inG2 mi_5 (ce_2 (rfl : kd 5 = 2)) rfl 8 (by decide) (goodW wd232) rfl (by decide +kernel : parseFieldDescriptor _ = some .int) rfl rfl (Nat.le_of_ble_eq_true rfl) (pu_2_8 (rfl : kd 5 = 2) _) dX2_begin_11 h (fun M_4 h => ?_)
  refine sw_aload_n hx hb dX2_begin_14 0 rfl rfl ?_
  refine sw_iconst hx hb (-1) dX2_begin_15 (by decide) ?_
  refine sw_putI X tyX2 tyX2_ok nmX2 inG2 mi_5 (ce_2 (rfl : kd 5 = 2)) rfl 9 (by decide) (goodW wd233) rfl (by decide +kernel : parseFieldDescriptor _ = some .int) rfl rfl (Nat.le_of_ble_eq_true rfl) (pu_2_9 (rfl : kd 5 = 2) _) dX2_begin_16 h (fun M_5 h => ?_)
  exact sw_Vret X hr dX2_begin_19 h

end
theorem okX2_begin (l : Launch) {D : va_G} {cy : Nat → ClassId} {ad : Nat → Nat} (hD : ∀ M : Mem, va_D (AA ad iX) (wl cy ad iX M)) (x1 : Int32) (M : Mem) (z : Mem) (h : fX2_begin x1 M = some z) : CTV l yX2_begin (wsG yX2_begin cX2_begin 2 none) rm_X2_begin D cy ad iX [.ref (ad 5), .int x1] M z :=
  met_of (cc := cX2_begin) (maxL := 2) (ret := none) (own := RX2) (by decide) rfl rfl hD ndX (Nat.le_of_ble_eq_true rfl) (fun p e s m below meth c X hr => wX2_begin_E X hr x1 M h)
abbrev QX0_fittingFor (below : List Frame) (D : va_G) (cy : Nat → ClassId) (ad : Nat → Nat) (args : Array Value) (s : State) (z : Int64 × Mem) : State → Prop := MQ below (va_Ql (fun r u => r = z.1 ∧ u = z.2) (BB D cy ad iX) (AA ad iX)) args s 0 0 (AA ad iX)
section
variable {p : Program} {l : Launch} {e : Env} {s : State} {m : MethodId} {args : Array Value} {below : List Frame} {meth : Method} {c : Code} {D : va_G} {cy : Nat → ClassId} {ad : Nat → Nat} {z : Int64 × Mem}
set_option maxHeartbeats 4000000 in
set_option maxRecDepth 100000 in
theorem wX0_fittingFor_E (X : CX p s m args meth c D cy ad iX cX0_fittingFor 2 (wsG yX0_fittingFor cX0_fittingFor 2 (some .long)) RX0) (hr : meth.sig.returnType = (some .long)) (o : Nat) (h_o : kd o = 0) (x1 : Int32) (M : Mem) (h : fX0_fittingFor o x1 M = some z) : SW p l e rm_X0_fittingFor s m args below meth c 0 0 (QX0_fittingFor below D cy ad args s z) 2 (PH D cy ad iX s M) 0 [(0, .ref (ad o)), (1, .int x1)] [] := by
  have hx := X.1
  have hb := X.2.1
  unfold fX0_fittingFor at h
  refine sw_iload_n hx hb dX0_fittingFor_0 1 rfl rfl ?_
  refine sw_if_lt hx hb 20 dX0_fittingFor_1 (by decide) h (fun h => ?_) (fun h => ?_)
  · refine sw_lconst hx hb 0 dX0_fittingFor_20 (by decide) ?_
    exact sw_Jret X hr dX0_fittingFor_21 h
  · refine sw_iload_n hx hb dX0_fittingFor_4 1 rfl rfl ?_
    refine sw_sipush hx hb 256 dX0_fittingFor_5 (by decide) ?_
    refine sw_icmp_ge hx hb 20 dX0_fittingFor_8 (by decide) h (fun h => ?_) (fun h => ?_)
    · refine sw_lconst hx hb 0 dX0_fittingFor_20 (by decide) ?_
      exact sw_Jret X hr dX0_fittingFor_21 h
    · refine sw_aload_n hx hb dX0_fittingFor_11 0 rfl rfl ?_
      refine sw_get X inG0 (mm0 h_o) (ce_0 h_o) rfl 0 (by decide) (goodW wd34) rfl dX0_fittingFor_12 ?_
      refine sw_iload_n hx hb dX0_fittingFor_15 1 rfl rfl ?_
      refine sw_lald X (ma0 h_o) (ka0 h_o) dX0_fittingFor_16 h (fun v_1 h => ?_)
      refine sw_goto hx hb 21 dX0_fittingFor_17 (by decide) ?_
      exact sw_Jret X hr dX0_fittingFor_21 h

end
theorem okX0_fittingFor (l : Launch) {D : va_G} {cy : Nat → ClassId} {ad : Nat → Nat} (hD : ∀ M : Mem, va_D (AA ad iX) (wl cy ad iX M)) (o : Nat) (x1 : Int32) (h_o : kd o = 0) (M : Mem) (z : Int64 × Mem) (h : fX0_fittingFor o x1 M = some z) : CTJ l yX0_fittingFor (wsG yX0_fittingFor cX0_fittingFor 2 (some .long)) rm_X0_fittingFor D cy ad iX [.ref (ad o), .int x1] M z :=
  met_of (cc := cX0_fittingFor) (maxL := 2) (ret := (some .long)) (own := RX0) (by decide) rfl rfl hD ndX (Nat.le_of_ble_eq_true rfl) (fun p e s m below meth c X hr => wX0_fittingFor_E X hr o h_o x1 M h)
abbrev QX0_behind (below : List Frame) (D : va_G) (cy : Nat → ClassId) (ad : Nat → Nat) (args : Array Value) (s : State) (z : Int64 × Mem) : State → Prop := MQ below (va_Ql (fun r u => r = z.1 ∧ u = z.2) (BB D cy ad iX) (AA ad iX)) args s 0 0 (AA ad iX)
section
variable {p : Program} {l : Launch} {e : Env} {s : State} {m : MethodId} {args : Array Value} {below : List Frame} {meth : Method} {c : Code} {D : va_G} {cy : Nat → ClassId} {ad : Nat → Nat} {z : Int64 × Mem}
set_option maxHeartbeats 4000000 in
set_option maxRecDepth 100000 in
theorem wX0_behind_L44 (X : CX p s m args meth c D cy ad iX cX0_behind 6 (wsG yX0_behind cX0_behind 6 (some .long)) RX0) (hr : meth.sig.returnType = (some .long)) (o : Nat) (h_o : kd o = 0) (k5 : Int64 → Int64 → Int32 → Mem → Option (Int64 × Mem)) (hk5 : ∀ (x1 : Int64) (x3 : Int64) (x5 : Int32) (M : Mem), k5 x1 x3 x5 M = some z → SW p l e rm_X0_behind s m args below meth c 0 0 (QX0_behind below D cy ad args s z) 6 (PH D cy ad iX s M) 5 [(0, .ref (ad o)), (1, .long x1), (3, .long x3), (5, .int x5)] []) (x1 : Int64) (x3 : Int64) (x5 : Int32) (M : Mem) (h : fX0_behind_L44 k5 o x1 x3 x5 M = some z) : SW p l e rm_X0_behind s m args below meth c 0 0 (QX0_behind below D cy ad args s z) 6 (PH D cy ad iX s M) 44 [(0, .ref (ad o)), (1, .long x1), (3, .long x3), (5, .int x5)] [] := by
  have hx := X.1
  have hb := X.2.1
  unfold fX0_behind_L44 at h
  refine sw_iincN hx hb (k := 3) (x5 + 1) (fun x5_1 => [(5, .int x5_1), (0, .ref (ad o)), (1, .long x1), (3, .long x3)]) dX0_behind_44 rfl (by rfl) (by decide) (fun _ => rfl) h (fun x5_1 h => ?_)
  refine sw_goto hx hb 5 dX0_behind_47 (by decide) ?_
  refine sw_sub (lv1 := [(0, .ref (ad o)), (1, .long x1), (3, .long x3), (5, .int x5_1)]) [1, 2, 3, 0] rfl ?_
  exact hk5 x1 x3 x5_1 M h

set_option maxHeartbeats 4000000 in
set_option maxRecDepth 100000 in
theorem wX0_behind_H5 (X : CX p s m args meth c D cy ad iX cX0_behind 6 (wsG yX0_behind cX0_behind 6 (some .long)) RX0) (hr : meth.sig.returnType = (some .long)) (o : Nat) (h_o : kd o = 0) : ∀ (n : Nat) (x1 : Int64) (x3 : Int64) (x5 : Int32) (M : Mem), fX0_behind_H5 o n x1 x3 x5 M = some z → SW p l e rm_X0_behind s m args below meth c 0 0 (QX0_behind below D cy ad args s z) 6 (PH D cy ad iX s M) 5 [(0, .ref (ad o)), (1, .long x1), (3, .long x3), (5, .int x5)] [] := by
  have hx := X.1
  have hb := X.2.1
  intro n
  induction n with
  | zero =>
    intro x1 x3 x5 M h
    have h : (none : Option (Int64 × Mem)) = some z := h
    cases h
  | succ n ih =>
    intro x1 x3 x5 M h
    rw [fX0_behind_H5] at h
    refine sw_iload hx hb dX0_behind_5 3 rfl ?_
    refine sw_aload_n hx hb dX0_behind_7 0 rfl rfl ?_
    refine sw_get X inG0 (mm0 h_o) (ce_0 h_o) rfl 2 (by decide) (goodW wd40) rfl dX0_behind_8 ?_
    refine sw_icmp_ge hx hb 50 dX0_behind_11 (by decide) h (fun h => ?_) (fun h => ?_)
    · refine sw_lload_n hx hb dX0_behind_50 2 rfl rfl ?_
      exact sw_Jret X hr dX0_behind_51 h
    · refine sw_lload_n hx hb dX0_behind_14 1 rfl rfl ?_
      refine sw_iload hx hb dX0_behind_15 3 rfl ?_
      refine sw_lushr hx hb dX0_behind_17 ?_
      refine sw_lconst hx hb 0 dX0_behind_18 (by decide) ?_
      refine sw_lcmp hx hb dX0_behind_19 ?_
      refine sw_if_eq hx hb 50 dX0_behind_20 (by decide) h (fun h => ?_) (fun h => ?_)
      · refine sw_lload_n hx hb dX0_behind_50 2 rfl rfl ?_
        exact sw_Jret X hr dX0_behind_51 h
      · refine sw_lload_n hx hb dX0_behind_23 1 rfl rfl ?_
        refine sw_iload hx hb dX0_behind_24 3 rfl ?_
        refine sw_lushr hx hb dX0_behind_26 ?_
        refine sw_lconst hx hb 1 dX0_behind_27 (by decide) ?_
        refine sw_land hx hb dX0_behind_28 ?_
        refine sw_lconst hx hb 0 dX0_behind_29 (by decide) ?_
        refine sw_lcmp hx hb dX0_behind_30 ?_
        refine sw_if_eq hx hb 44 dX0_behind_31 (by decide) h (fun h => ?_) (fun h => ?_)
        · refine sw_sub (lv1 := [(0, .ref (ad o)), (1, .long x1), (3, .long x3), (5, .int x5)]) [0, 1, 2, 3] rfl ?_
          exact wX0_behind_L44 X hr o h_o (fX0_behind_H5 o n) ih x1 x3 x5 M h
        · refine sw_lload_n hx hb dX0_behind_34 2 rfl rfl ?_
          refine sw_aload_n hx hb dX0_behind_35 0 rfl rfl ?_
          refine sw_get X inG0 (mm0 h_o) (ce_0 h_o) rfl 1 (by decide) (goodW wd39) rfl dX0_behind_36 ?_
          refine sw_iload hx hb dX0_behind_39 3 rfl ?_
          refine sw_lald X (mb0 h_o) (kb0 h_o) dX0_behind_41 h (fun v_2 h => ?_)
          refine sw_lor hx hb dX0_behind_42 ?_
          refine sw_lstore_nN hx hb (fun x3_3 => [(3, .long x3_3), (0, .ref (ad o)), (1, .long x1), (5, .int x5)]) dX0_behind_43 rfl (by decide) (fun _ => rfl) h (fun x3_3 h => ?_)
          refine sw_sub (lv1 := [(0, .ref (ad o)), (1, .long x1), (3, .long x3_3), (5, .int x5)]) [1, 2, 0, 3] rfl ?_
          exact wX0_behind_L44 X hr o h_o (fX0_behind_H5 o n) ih x1 x3_3 x5 M h

set_option maxHeartbeats 4000000 in
set_option maxRecDepth 100000 in
theorem wX0_behind_E (X : CX p s m args meth c D cy ad iX cX0_behind 6 (wsG yX0_behind cX0_behind 6 (some .long)) RX0) (hr : meth.sig.returnType = (some .long)) (o : Nat) (h_o : kd o = 0) (x1 : Int64) (M : Mem) (h : fX0_behind o x1 M = some z) : SW p l e rm_X0_behind s m args below meth c 0 0 (QX0_behind below D cy ad args s z) 6 (PH D cy ad iX s M) 0 [(0, .ref (ad o)), (1, .long x1)] [] := by
  have hx := X.1
  have hb := X.2.1
  unfold fX0_behind at h
  refine sw_lconst hx hb 0 dX0_behind_0 (by decide) ?_
  refine sw_lstore_n hx hb [(3, .long 0), (0, .ref (ad o)), (1, .long x1)] dX0_behind_1 rfl (by decide) rfl ?_
  refine sw_iconst hx hb 0 dX0_behind_2 (by decide) ?_
  refine sw_istore hx hb [(5, .int 0), (3, .long 0), (0, .ref (ad o)), (1, .long x1)] dX0_behind_3 (by decide) rfl ?_
  refine sw_sub (lv1 := [(0, .ref (ad o)), (1, .long x1), (3, .long 0), (5, .int 0)]) [2, 3, 1, 0] rfl ?_
  exact wX0_behind_H5 X hr o h_o FU x1 0 0 M h

end
theorem okX0_behind (l : Launch) {D : va_G} {cy : Nat → ClassId} {ad : Nat → Nat} (hD : ∀ M : Mem, va_D (AA ad iX) (wl cy ad iX M)) (o : Nat) (x1 : Int64) (h_o : kd o = 0) (M : Mem) (z : Int64 × Mem) (h : fX0_behind o x1 M = some z) : CTJ l yX0_behind (wsG yX0_behind cX0_behind 6 (some .long)) rm_X0_behind D cy ad iX [.ref (ad o), .long x1] M z :=
  met_of (cc := cX0_behind) (maxL := 6) (ret := (some .long)) (own := RX0) (by decide) rfl rfl hD ndX (Nat.le_of_ble_eq_true rfl) (fun p e s m below meth c X hr => wX0_behind_E X hr o h_o x1 M h)
abbrev QX0_longestFrom (below : List Frame) (D : va_G) (cy : Nat → ClassId) (ad : Nat → Nat) (args : Array Value) (s : State) (z : Int32 × Mem) : State → Prop := MQ below (va_Qi (fun r u => r = z.1 ∧ u = z.2) (BB D cy ad iX) (AA ad iX)) args s 0 0 (AA ad iX)
section
variable {p : Program} {l : Launch} {e : Env} {s : State} {m : MethodId} {args : Array Value} {below : List Frame} {meth : Method} {c : Code} {D : va_G} {cy : Nat → ClassId} {ad : Nat → Nat} {z : Int32 × Mem}
set_option maxHeartbeats 4000000 in
set_option maxRecDepth 100000 in
theorem wX0_longestFrom_L61 (X : CX p s m args meth c D cy ad iX cX0_longestFrom 9 (wsG yX0_longestFrom cX0_longestFrom 9 (some .int)) RX0) (hr : meth.sig.returnType = (some .int)) (o : Nat) (a1 : Nat) (h_o : kd o = 0) (h_a1 : kd a1 = 5) (k11 : Int32 → Int32 → Int64 → Int32 → Mem → Option (Int32 × Mem)) (hk11 : ∀ (x2 : Int32) (x3 : Int32) (x4 : Int64) (x6 : Int32) (M : Mem), k11 x2 x3 x4 x6 M = some z → SW p l e rm_X0_longestFrom s m args below meth c 0 0 (QX0_longestFrom below D cy ad args s z) 9 (PH D cy ad iX s M) 11 [(0, .ref (ad o)), (1, .ref (ad a1)), (2, .int x2), (3, .int x3), (4, .long x4), (6, .int x6)] []) (x2 : Int32) (x3 : Int32) (x6 : Int32) (x7 : Int64) (M : Mem) (h : fX0_longestFrom_L61 k11 o a1 x2 x3 x6 x7 M = some z) : SW p l e rm_X0_longestFrom s m args below meth c 0 0 (QX0_longestFrom below D cy ad args s z) 9 (PH D cy ad iX s M) 61 [(0, .ref (ad o)), (1, .ref (ad a1)), (2, .int x2), (3, .int x3), (6, .int x6), (7, .long x7)] [] := by
  have hx := X.1
  have hb := X.2.1
  unfold fX0_longestFrom_L61 at h
  refine sw_aload_n hx hb dX0_longestFrom_61 0 rfl rfl ?_
  refine sw_lload hx hb dX0_longestFrom_62 5 rfl ?_
  refine sw_callVJ (C := RX0) (As := [.long x7]) (rest := []) X (mm0 h_o) (ce_0 h_o) rfl rfl (fun _ hz => okX0_behind l X.2.2.2.2.2.2.1 o x7 h_o M _ hz) (cwX0_62 X.2.2.2.2.1 ⟨Nat.le_of_ble_eq_true rfl, Nat.le_of_ble_eq_true rfl⟩)  rfl rfl (Nat.le_of_ble_eq_true rfl) dX0_longestFrom_64 ⟨Nat.le_of_ble_eq_true rfl, Nat.le_of_ble_eq_true rfl⟩ h (fun v_10 M_9 _ h => ?_)
  refine sw_lstore hx hb [(4, .long v_10), (0, .ref (ad o)), (1, .ref (ad a1)), (2, .int x2), (3, .int x3), (6, .int x6), (7, .long x7)] dX0_longestFrom_67 (by decide) rfl ?_
  refine sw_iincN hx hb (k := 5) (x6 + 1) (fun x6_11 => [(6, .int x6_11), (4, .long v_10), (0, .ref (ad o)), (1, .ref (ad a1)), (2, .int x2), (3, .int x3), (7, .long x7)]) dX0_longestFrom_69 rfl (by rfl) (by decide) (fun _ => rfl) h (fun x6_11 h => ?_)
  refine sw_goto hx hb 11 dX0_longestFrom_72 (by decide) ?_
  refine sw_sub (lv1 := [(0, .ref (ad o)), (1, .ref (ad a1)), (2, .int x2), (3, .int x3), (4, .long v_10), (6, .int x6_11)]) [2, 3, 4, 5, 1, 0] rfl ?_
  exact hk11 x2 x3 v_10 x6_11 M_9 h

set_option maxHeartbeats 4000000 in
set_option maxRecDepth 100000 in
theorem wX0_longestFrom_H11 (X : CX p s m args meth c D cy ad iX cX0_longestFrom 9 (wsG yX0_longestFrom cX0_longestFrom 9 (some .int)) RX0) (hr : meth.sig.returnType = (some .int)) (o : Nat) (a1 : Nat) (h_o : kd o = 0) (h_a1 : kd a1 = 5) : ∀ (n : Nat) (x2 : Int32) (x3 : Int32) (x4 : Int64) (x6 : Int32) (M : Mem), fX0_longestFrom_H11 o a1 n x2 x3 x4 x6 M = some z → SW p l e rm_X0_longestFrom s m args below meth c 0 0 (QX0_longestFrom below D cy ad args s z) 9 (PH D cy ad iX s M) 11 [(0, .ref (ad o)), (1, .ref (ad a1)), (2, .int x2), (3, .int x3), (4, .long x4), (6, .int x6)] [] := by
  have hx := X.1
  have hb := X.2.1
  intro n
  induction n with
  | zero =>
    intro x2 x3 x4 x6 M h
    have h : (none : Option (Int32 × Mem)) = some z := h
    cases h
  | succ n ih =>
    intro x2 x3 x4 x6 M h
    rw [fX0_longestFrom_H11] at h
    refine sw_iload hx hb dX0_longestFrom_11 5 rfl ?_
    refine sw_aload_n hx hb dX0_longestFrom_13 1 rfl rfl ?_
    refine sw_callVI (C := RX5) (As := []) (rest := [.int x6]) X (mm5 h_a1) (ce_5 h_a1) rfl rfl (fun _ hz => okX5_size l X.2.2.2.2.2.2.1 a1 h_a1 M _ hz) (cwX0_48 X.2.2.2.2.1 ⟨Nat.le_of_ble_eq_true rfl, Nat.le_of_ble_eq_true rfl⟩)  rfl rfl (Nat.le_of_ble_eq_true rfl) dX0_longestFrom_14 ⟨Nat.le_of_ble_eq_true rfl, Nat.le_of_ble_eq_true rfl⟩ h (fun v_3 M_2 _ h => ?_)
    refine sw_icmp_ge hx hb 75 dX0_longestFrom_17 (by decide) h (fun h => ?_) (fun h => ?_)
    · refine sw_iload_n hx hb dX0_longestFrom_75 3 rfl rfl ?_
      exact sw_Iret X hr dX0_longestFrom_76 h
    · refine sw_lload hx hb dX0_longestFrom_20 4 rfl ?_
      refine sw_lconst hx hb 0 dX0_longestFrom_22 (by decide) ?_
      refine sw_lcmp hx hb dX0_longestFrom_23 ?_
      refine sw_if_eq hx hb 75 dX0_longestFrom_24 (by decide) h (fun h => ?_) (fun h => ?_)
      · refine sw_iload_n hx hb dX0_longestFrom_75 3 rfl rfl ?_
        exact sw_Iret X hr dX0_longestFrom_76 h
      · refine sw_lload hx hb dX0_longestFrom_27 4 rfl ?_
        refine sw_aload_n hx hb dX0_longestFrom_29 0 rfl rfl ?_
        refine sw_aload_n hx hb dX0_longestFrom_30 1 rfl rfl ?_
        refine sw_iload hx hb dX0_longestFrom_31 5 rfl ?_
        refine sw_callVI (C := RX5) (As := [.int x6]) (rest := [.ref (ad o), .long x4]) X (mm5 h_a1) (ce_5 h_a1) rfl rfl (fun _ hz => okX5_at l X.2.2.2.2.2.2.1 a1 x6 h_a1 M_2 _ hz) (cwX0_54 X.2.2.2.2.1 ⟨Nat.le_of_ble_eq_true rfl, Nat.le_of_ble_eq_true rfl⟩)  rfl rfl (Nat.le_of_ble_eq_true rfl) dX0_longestFrom_33 ⟨Nat.le_of_ble_eq_true rfl, Nat.le_of_ble_eq_true rfl⟩ h (fun v_5 M_4 _ h => ?_)
        refine sw_callVJ (C := RX0) (As := [.int v_5]) (rest := [.long x4]) X (mm0 h_o) (ce_0 h_o) rfl rfl (fun _ hz => okX0_fittingFor l X.2.2.2.2.2.2.1 o v_5 h_o M_4 _ hz) (cwX0_58 X.2.2.2.2.1 ⟨Nat.le_of_ble_eq_true rfl, Nat.le_of_ble_eq_true rfl⟩)  rfl rfl (Nat.le_of_ble_eq_true rfl) dX0_longestFrom_36 ⟨Nat.le_of_ble_eq_true rfl, Nat.le_of_ble_eq_true rfl⟩ h (fun v_7 M_6 _ h => ?_)
        refine sw_land hx hb dX0_longestFrom_39 ?_
        refine sw_lstoreN hx hb (fun x7_8 => [(7, .long x7_8), (0, .ref (ad o)), (1, .ref (ad a1)), (2, .int x2), (3, .int x3), (4, .long x4), (6, .int x6)]) dX0_longestFrom_40 (by decide) (fun _ => rfl) h (fun x7_8 h => ?_)
        refine sw_lload hx hb dX0_longestFrom_42 0 rfl ?_
        refine sw_aload_n hx hb dX0_longestFrom_44 1 rfl rfl ?_
        refine sw_get X inG0 (mm0 h_o) (ce_0 h_o) rfl 4 (by decide) (goodW wd42) rfl dX0_longestFrom_45 ?_
        refine sw_land hx hb dX0_longestFrom_48 ?_
        refine sw_lconst hx hb 0 dX0_longestFrom_49 (by decide) ?_
        refine sw_lcmp hx hb dX0_longestFrom_50 ?_
        refine sw_if_eq hx hb 61 dX0_longestFrom_51 (by decide) h (fun h => ?_) (fun h => ?_)
        · refine sw_sub (lv1 := [(0, .ref (ad o)), (1, .ref (ad a1)), (2, .int x2), (3, .int x3), (6, .int x6), (7, .long x7_8)]) [1, 2, 3, 4, 6, 0] rfl ?_
          exact wX0_longestFrom_L61 X hr o a1 h_o h_a1 (fX0_longestFrom_H11 o a1 n) ih x2 x3 x6 x7_8 M_6 h
        · refine sw_iload hx hb dX0_longestFrom_54 6 rfl ?_
          refine sw_iconst hx hb 1 dX0_longestFrom_56 (by decide) ?_
          refine sw_iadd hx hb dX0_longestFrom_57 ?_
          refine sw_iload_n hx hb dX0_longestFrom_58 3 rfl rfl ?_
          refine sw_isub hx hb dX0_longestFrom_59 ?_
          refine sw_istore_nN hx hb (fun x3_12 => [(3, .int x3_12), (7, .long x7_8), (0, .ref (ad o)), (1, .ref (ad a1)), (2, .int x2), (4, .long x4), (6, .int x6)]) dX0_longestFrom_60 rfl (by decide) (fun _ => rfl) h (fun x3_12 h => ?_)
          refine sw_sub (lv1 := [(0, .ref (ad o)), (1, .ref (ad a1)), (2, .int x2), (3, .int x3_12), (6, .int x6), (7, .long x7_8)]) [2, 3, 4, 0, 6, 1] rfl ?_
          exact wX0_longestFrom_L61 X hr o a1 h_o h_a1 (fX0_longestFrom_H11 o a1 n) ih x2 x3_12 x6 x7_8 M_6 h

set_option maxHeartbeats 4000000 in
set_option maxRecDepth 100000 in
theorem wX0_longestFrom_E (X : CX p s m args meth c D cy ad iX cX0_longestFrom 9 (wsG yX0_longestFrom cX0_longestFrom 9 (some .int)) RX0) (hr : meth.sig.returnType = (some .int)) (o : Nat) (a1 : Nat) (h_o : kd o = 0) (h_a1 : kd a1 = 5) (x2 : Int32) (M : Mem) (h : fX0_longestFrom o a1 x2 M = some z) : SW p l e rm_X0_longestFrom s m args below meth c 0 0 (QX0_longestFrom below D cy ad args s z) 9 (PH D cy ad iX s M) 0 [(0, .ref (ad o)), (1, .ref (ad a1)), (2, .int x2)] [] := by
  have hx := X.1
  have hb := X.2.1
  unfold fX0_longestFrom at h
  refine sw_iconst hx hb 0 dX0_longestFrom_0 (by decide) ?_
  refine sw_istore_n hx hb [(3, .int 0), (0, .ref (ad o)), (1, .ref (ad a1)), (2, .int x2)] dX0_longestFrom_1 rfl (by decide) rfl ?_
  refine sw_aload_n hx hb dX0_longestFrom_2 1 rfl rfl ?_
  refine sw_get X inG0 (mm0 h_o) (ce_0 h_o) rfl 3 (by decide) (goodW wd41) rfl dX0_longestFrom_3 ?_
  refine sw_lstoreN hx hb (fun x4_1 => [(4, .long x4_1), (3, .int 0), (0, .ref (ad o)), (1, .ref (ad a1)), (2, .int x2)]) dX0_longestFrom_6 (by decide) (fun _ => rfl) h (fun x4_1 h => ?_)
  refine sw_iload_n hx hb dX0_longestFrom_8 4 rfl rfl ?_
  refine sw_istore hx hb [(6, .int x2), (4, .long x4_1), (3, .int 0), (0, .ref (ad o)), (1, .ref (ad a1)), (2, .int x2)] dX0_longestFrom_9 (by decide) rfl ?_
  refine sw_sub (lv1 := [(0, .ref (ad o)), (1, .ref (ad a1)), (2, .int x2), (3, .int 0), (4, .long x4_1), (6, .int x2)]) [3, 4, 5, 2, 1, 0] rfl ?_
  exact wX0_longestFrom_H11 X hr o a1 h_o h_a1 FU x2 0 x4_1 x2 M h

end
theorem okX0_longestFrom (l : Launch) {D : va_G} {cy : Nat → ClassId} {ad : Nat → Nat} (hD : ∀ M : Mem, va_D (AA ad iX) (wl cy ad iX M)) (o : Nat) (a1 : Nat) (x2 : Int32) (h_o : kd o = 0) (h_a1 : kd a1 = 5) (M : Mem) (z : Int32 × Mem) (h : fX0_longestFrom o a1 x2 M = some z) : CTI l yX0_longestFrom (wsG yX0_longestFrom cX0_longestFrom 9 (some .int)) rm_X0_longestFrom D cy ad iX [.ref (ad o), .ref (ad a1), .int x2] M z :=
  met_of (cc := cX0_longestFrom) (maxL := 9) (ret := (some .int)) (own := RX0) (by decide) rfl rfl hD ndX (Nat.le_of_ble_eq_true rfl) (fun p e s m below meth c X hr => wX0_longestFrom_E X hr o a1 h_o h_a1 x2 M h)
abbrev QX2_put (below : List Frame) (D : va_G) (cy : Nat → ClassId) (ad : Nat → Nat) (args : Array Value) (s : State) (z : Mem) : State → Prop := MQ below (va_Qv (fun u => u = z) (BB D cy ad iX) (AA ad iX)) args s 0 0 (AA ad iX)
section
variable {p : Program} {l : Launch} {e : Env} {s : State} {m : MethodId} {args : Array Value} {below : List Frame} {meth : Method} {c : Code} {D : va_G} {cy : Nat → ClassId} {ad : Nat → Nat} {z : Mem}
set_option maxHeartbeats 4000000 in
set_option maxRecDepth 100000 in
theorem wX2_put_E (X : CX p s m args meth c D cy ad iX cX2_put 3 (wsG yX2_put cX2_put 3 none) RX2) (hr : meth.sig.returnType = none) (x1 : Int32) (x2 : Int32) (M : Mem) (h : fX2_put x1 x2 M = some z) : SW p l e rm_X2_put s m args below meth c 0 0 (QX2_put below D cy ad args s z) 3 (PH D cy ad iX s M) 0 [(0, .ref (ad 5)), (1, .int x1), (2, .int x2)] [] := by
  have hx := X.1
  have hb := X.2.1
  unfold fX2_put at h
  refine sw_aload_n hx hb dX2_put_0 0 rfl rfl ?_
  refine sw_get X inG2 mi_5 (ce_2 (rfl : kd 5 = 2)) rfl 3 (by decide) (goodW wd21) rfl dX2_put_1 ?_
  refine sw_sipush hx hb 400 dX2_put_4 (by decide) ?_
  refine sw_icmp_lt hx hb 16 dX2_put_7 (by decide) h (fun h => ?_) (fun h => ?_)
  · refine sw_aload_n hx hb dX2_put_16 0 rfl rfl ?_
    refine sw_get X inG2 mi_5 (ce_2 (rfl : kd 5 = 2)) rfl 0 (by decide) (goodW wd244) rfl dX2_put_17 ?_
    refine sw_aload_n hx hb dX2_put_20 0 rfl rfl ?_
    refine sw_get X inG2 mi_5 (ce_2 (rfl : kd 5 = 2)) rfl 3 (by decide) (goodW wd21) rfl dX2_put_21 ?_
    refine sw_iload_n hx hb dX2_put_24 1 rfl rfl ?_
    refine sw_iast X mi_6 (rfl : kd 6 = 9) dX2_put_25 h (fun M_1 h => ?_)
    refine sw_aload_n hx hb dX2_put_26 0 rfl rfl ?_
    refine sw_get X inG2 mi_5 (ce_2 (rfl : kd 5 = 2)) rfl 1 (by decide) (goodW wd245) rfl dX2_put_27 ?_
    refine sw_aload_n hx hb dX2_put_30 0 rfl rfl ?_
    refine sw_get X inG2 mi_5 (ce_2 (rfl : kd 5 = 2)) rfl 3 (by decide) (goodW wd21) rfl dX2_put_31 ?_
    refine sw_iload_n hx hb dX2_put_34 2 rfl rfl ?_
    refine sw_iast X mi_7 (rfl : kd 7 = 9) dX2_put_35 h (fun M_2 h => ?_)
    refine sw_aload_n hx hb dX2_put_36 0 rfl rfl ?_
    refine sw_get X inG2 mi_5 (ce_2 (rfl : kd 5 = 2)) rfl 2 (by decide) (goodW wd246) rfl dX2_put_37 ?_
    refine sw_aload_n hx hb dX2_put_40 0 rfl rfl ?_
    refine sw_get X inG2 mi_5 (ce_2 (rfl : kd 5 = 2)) rfl 3 (by decide) (goodW wd21) rfl dX2_put_41 ?_
    refine sw_aload_n hx hb dX2_put_44 0 rfl rfl ?_
    refine sw_get X inG2 mi_5 (ce_2 (rfl : kd 5 = 2)) rfl 8 (by decide) (goodW wd232) rfl dX2_put_45 ?_
    refine sw_iast X mi_8 (rfl : kd 8 = 9) dX2_put_48 h (fun M_3 h => ?_)
    refine sw_aload_n hx hb dX2_put_49 0 rfl rfl ?_
    refine sw_dup hx hb dX2_put_50 rfl ?_
    refine sw_get X inG2 mi_5 (ce_2 (rfl : kd 5 = 2)) rfl 3 (by decide) (goodW wd21) rfl dX2_put_51 ?_
    refine sw_iconst hx hb 1 dX2_put_54 (by decide) ?_
    refine sw_iadd hx hb dX2_put_55 ?_
    refine sw_putI X tyX2 tyX2_ok nmX2 inG2 mi_5 (ce_2 (rfl : kd 5 = 2)) rfl 3 (by decide) (goodW wd21) rfl (by decide +kernel : parseFieldDescriptor _ = some .int) rfl rfl (Nat.le_of_ble_eq_true rfl) (pu_2_3 (rfl : kd 5 = 2) _) dX2_put_56 h (fun M_4 h => ?_)
    exact sw_Vret X hr dX2_put_59 h
  · refine sw_aload_n hx hb dX2_put_10 0 rfl rfl ?_
    refine sw_iconst hx hb 1 dX2_put_11 (by decide) ?_
    obtain ⟨hz, h⟩ := sz_ok h
    refine sw_putI X tyX2 tyX2_ok nmX2 inG2 mi_5 (ce_2 (rfl : kd 5 = 2)) rfl 4 (by decide) (goodW wd22) rfl (by decide +kernel : parseFieldDescriptor _ = some .boolean) (nar_z hz).1 (nar_z hz).2 (Nat.le_of_ble_eq_true rfl) (pu_2_4 (rfl : kd 5 = 2) _) dX2_put_12 h (fun M_5 h => ?_)
    exact sw_Vret X hr dX2_put_15 h

end
theorem okX2_put (l : Launch) {D : va_G} {cy : Nat → ClassId} {ad : Nat → Nat} (hD : ∀ M : Mem, va_D (AA ad iX) (wl cy ad iX M)) (x1 : Int32) (x2 : Int32) (M : Mem) (z : Mem) (h : fX2_put x1 x2 M = some z) : CTV l yX2_put (wsG yX2_put cX2_put 3 none) rm_X2_put D cy ad iX [.ref (ad 5), .int x1, .int x2] M z :=
  met_of (cc := cX2_put) (maxL := 3) (ret := none) (own := RX2) (by decide) rfl rfl hD ndX (Nat.le_of_ble_eq_true rfl) (fun p e s m below meth c X hr => wX2_put_E X hr x1 x2 M h)
abbrev QX2_addCut (below : List Frame) (D : va_G) (cy : Nat → ClassId) (ad : Nat → Nat) (args : Array Value) (s : State) (z : Mem) : State → Prop := MQ below (va_Qv (fun u => u = z) (BB D cy ad iX) (AA ad iX)) args s 0 0 (AA ad iX)
section
variable {p : Program} {l : Launch} {e : Env} {s : State} {m : MethodId} {args : Array Value} {below : List Frame} {meth : Method} {c : Code} {D : va_G} {cy : Nat → ClassId} {ad : Nat → Nat} {z : Mem}
set_option maxHeartbeats 4000000 in
set_option maxRecDepth 100000 in
theorem wX2_addCut_L36 (X : CX p s m args meth c D cy ad iX cX2_addCut 4 (wsG yX2_addCut cX2_addCut 4 none) RX2) (hr : meth.sig.returnType = none) (k2 : Int32 → Int32 → Int32 → Mem → Option (Mem)) (hk2 : ∀ (x1 : Int32) (x2 : Int32) (x3 : Int32) (M : Mem), k2 x1 x2 x3 M = some z → SW p l e rm_X2_addCut s m args below meth c 0 0 (QX2_addCut below D cy ad args s z) 4 (PH D cy ad iX s M) 2 [(0, .ref (ad 5)), (1, .int x1), (2, .int x2), (3, .int x3)] []) (x1 : Int32) (x2 : Int32) (x3 : Int32) (M : Mem) (h : fX2_addCut_L36 k2 x1 x2 x3 M = some z) : SW p l e rm_X2_addCut s m args below meth c 0 0 (QX2_addCut below D cy ad args s z) 4 (PH D cy ad iX s M) 36 [(0, .ref (ad 5)), (1, .int x1), (2, .int x2), (3, .int x3)] [] := by
  have hx := X.1
  have hb := X.2.1
  unfold fX2_addCut_L36 at h
  refine sw_aload_n hx hb dX2_addCut_36 0 rfl rfl ?_
  refine sw_iload_n hx hb dX2_addCut_37 3 rfl rfl ?_
  refine sw_iload_n hx hb dX2_addCut_38 2 rfl rfl ?_
  refine sw_iload_n hx hb dX2_addCut_39 3 rfl rfl ?_
  refine sw_aload_n hx hb dX2_addCut_40 0 rfl rfl ?_
  refine sw_get X inG2 mi_5 (ce_2 (rfl : kd 5 = 2)) rfl 5 (by decide) (goodW wd224) rfl dX2_addCut_41 ?_
  refine sw_iadd hx hb dX2_addCut_44 ?_
  refine sw_mmin X (goodW wd247) (goodW wd105) (goodW wd106) (goodW wd107) (Nat.le_of_ble_eq_true rfl) (Nat.le_of_ble_eq_true rfl) (Nat.le_of_ble_eq_true rfl) (Nat.le_of_ble_eq_true rfl) dX2_addCut_45 ?_
  refine sw_callVV (C := RX2) (As := [.int x3, .int (mmin_ x2 (x3 + (gI M 5 5)))]) (rest := []) X mi_5 (ce_2 (rfl : kd 5 = 2)) rfl rfl (fun _ hz => okX2_put l X.2.2.2.2.2.2.1 x3 (mmin_ x2 (x3 + (gI M 5 5))) M _ hz) (cwX2_58 X.2.2.2.2.1 ⟨Nat.le_of_ble_eq_true rfl, Nat.le_of_ble_eq_true rfl⟩)  rfl rfl (Nat.le_of_ble_eq_true rfl) dX2_addCut_48 ⟨Nat.le_of_ble_eq_true rfl, Nat.le_of_ble_eq_true rfl⟩ h (fun M_1 _ h => ?_)
  refine sw_iload_n hx hb dX2_addCut_51 3 rfl rfl ?_
  refine sw_iconst hx hb 1 dX2_addCut_52 (by decide) ?_
  refine sw_aload_n hx hb dX2_addCut_53 0 rfl rfl ?_
  refine sw_get X inG2 mi_5 (ce_2 (rfl : kd 5 = 2)) rfl 5 (by decide) (goodW wd224) rfl dX2_addCut_54 ?_
  refine sw_mmax X (goodW wd252) (goodW wd109) (goodW wd106) (goodW wd110) (Nat.le_of_ble_eq_true rfl) (Nat.le_of_ble_eq_true rfl) (Nat.le_of_ble_eq_true rfl) (Nat.le_of_ble_eq_true rfl) dX2_addCut_57 ?_
  refine sw_iadd hx hb dX2_addCut_60 ?_
  refine sw_istore_nN hx hb (fun x3_3 => [(3, .int x3_3), (0, .ref (ad 5)), (1, .int x1), (2, .int x2)]) dX2_addCut_61 rfl (by decide) (fun _ => rfl) h (fun x3_3 h => ?_)
  refine sw_goto hx hb 2 dX2_addCut_62 (by decide) ?_
  refine sw_sub (lv1 := [(0, .ref (ad 5)), (1, .int x1), (2, .int x2), (3, .int x3_3)]) [1, 2, 3, 0] rfl ?_
  exact hk2 x1 x2 x3_3 M_1 h

set_option maxHeartbeats 4000000 in
set_option maxRecDepth 100000 in
theorem wX2_addCut_H2 (X : CX p s m args meth c D cy ad iX cX2_addCut 4 (wsG yX2_addCut cX2_addCut 4 none) RX2) (hr : meth.sig.returnType = none) : ∀ (n : Nat) (x1 : Int32) (x2 : Int32) (x3 : Int32) (M : Mem), fX2_addCut_H2 n x1 x2 x3 M = some z → SW p l e rm_X2_addCut s m args below meth c 0 0 (QX2_addCut below D cy ad args s z) 4 (PH D cy ad iX s M) 2 [(0, .ref (ad 5)), (1, .int x1), (2, .int x2), (3, .int x3)] [] := by
  have hx := X.1
  have hb := X.2.1
  intro n
  induction n with
  | zero =>
    intro x1 x2 x3 M h
    have h : (none : Option (Mem)) = some z := h
    cases h
  | succ n ih =>
    intro x1 x2 x3 M h
    rw [fX2_addCut_H2] at h
    refine sw_iload_n hx hb dX2_addCut_2 3 rfl rfl ?_
    refine sw_iload_n hx hb dX2_addCut_3 2 rfl rfl ?_
    refine sw_icmp_ge hx hb 65 dX2_addCut_4 (by decide) h (fun h => ?_) (fun h => ?_)
    · exact sw_Vret X hr dX2_addCut_65 h
    · refine sw_aload_n hx hb dX2_addCut_7 0 rfl rfl ?_
      refine sw_get X inG2 mi_5 (ce_2 (rfl : kd 5 = 2)) rfl 4 (by decide) (goodW wd22) rfl dX2_addCut_8 ?_
      refine sw_if_ne hx hb 65 dX2_addCut_11 (by decide) h (fun h => ?_) (fun h => ?_)
      · exact sw_Vret X hr dX2_addCut_65 h
      · refine sw_aload_n hx hb dX2_addCut_14 0 rfl rfl ?_
        refine sw_get X inG2 mi_5 (ce_2 (rfl : kd 5 = 2)) rfl 7 (by decide) (goodW wd231) rfl dX2_addCut_15 ?_
        refine sw_if_ne hx hb 36 dX2_addCut_18 (by decide) h (fun h => ?_) (fun h => ?_)
        · refine sw_sub (lv1 := [(0, .ref (ad 5)), (1, .int x1), (2, .int x2), (3, .int x3)]) [0, 1, 2, 3] rfl ?_
          exact wX2_addCut_L36 X hr (fX2_addCut_H2 n) ih x1 x2 x3 M h
        · refine sw_iload_n hx hb dX2_addCut_21 3 rfl rfl ?_
          refine sw_iload_n hx hb dX2_addCut_22 1 rfl rfl ?_
          refine sw_icmp_le hx hb 36 dX2_addCut_23 (by decide) h (fun h => ?_) (fun h => ?_)
          · refine sw_sub (lv1 := [(0, .ref (ad 5)), (1, .int x1), (2, .int x2), (3, .int x3)]) [0, 1, 2, 3] rfl ?_
            exact wX2_addCut_L36 X hr (fX2_addCut_H2 n) ih x1 x2 x3 M h
          · refine sw_aload_n hx hb dX2_addCut_26 0 rfl rfl ?_
            refine sw_dup hx hb dX2_addCut_27 rfl ?_
            refine sw_get X inG2 mi_5 (ce_2 (rfl : kd 5 = 2)) rfl 8 (by decide) (goodW wd232) rfl dX2_addCut_28 ?_
            refine sw_iconst hx hb 1 dX2_addCut_31 (by decide) ?_
            refine sw_iadd hx hb dX2_addCut_32 ?_
            refine sw_putI X tyX2 tyX2_ok nmX2 inG2 mi_5 (ce_2 (rfl : kd 5 = 2)) rfl 8 (by decide) (goodW wd232) rfl (by decide +kernel : parseFieldDescriptor _ = some .int) rfl rfl (Nat.le_of_ble_eq_true rfl) (pu_2_8 (rfl : kd 5 = 2) _) dX2_addCut_33 h (fun M_4 h => ?_)
            refine sw_sub (lv1 := [(0, .ref (ad 5)), (1, .int x1), (2, .int x2), (3, .int x3)]) [0, 1, 2, 3] rfl ?_
            exact wX2_addCut_L36 X hr (fX2_addCut_H2 n) ih x1 x2 x3 M_4 h

set_option maxHeartbeats 4000000 in
set_option maxRecDepth 100000 in
theorem wX2_addCut_E (X : CX p s m args meth c D cy ad iX cX2_addCut 4 (wsG yX2_addCut cX2_addCut 4 none) RX2) (hr : meth.sig.returnType = none) (x1 : Int32) (x2 : Int32) (M : Mem) (h : fX2_addCut x1 x2 M = some z) : SW p l e rm_X2_addCut s m args below meth c 0 0 (QX2_addCut below D cy ad args s z) 4 (PH D cy ad iX s M) 0 [(0, .ref (ad 5)), (1, .int x1), (2, .int x2)] [] := by
  have hx := X.1
  have hb := X.2.1
  unfold fX2_addCut at h
  refine sw_iload_n hx hb dX2_addCut_0 1 rfl rfl ?_
  refine sw_istore_n hx hb [(3, .int x1), (0, .ref (ad 5)), (1, .int x1), (2, .int x2)] dX2_addCut_1 rfl (by decide) rfl ?_
  refine sw_sub (lv1 := [(0, .ref (ad 5)), (1, .int x1), (2, .int x2), (3, .int x1)]) [1, 2, 3, 0] rfl ?_
  exact wX2_addCut_H2 X hr FU x1 x2 x1 M h

end
theorem okX2_addCut (l : Launch) {D : va_G} {cy : Nat → ClassId} {ad : Nat → Nat} (hD : ∀ M : Mem, va_D (AA ad iX) (wl cy ad iX M)) (x1 : Int32) (x2 : Int32) (M : Mem) (z : Mem) (h : fX2_addCut x1 x2 M = some z) : CTV l yX2_addCut (wsG yX2_addCut cX2_addCut 4 none) rm_X2_addCut D cy ad iX [.ref (ad 5), .int x1, .int x2] M z :=
  met_of (cc := cX2_addCut) (maxL := 4) (ret := none) (own := RX2) (by decide) rfl rfl hD ndX (Nat.le_of_ble_eq_true rfl) (fun p e s m below meth c X hr => wX2_addCut_E X hr x1 x2 M h)
abbrev QX2_add (below : List Frame) (D : va_G) (cy : Nat → ClassId) (ad : Nat → Nat) (args : Array Value) (s : State) (z : Mem) : State → Prop := MQ below (va_Qv (fun u => u = z) (BB D cy ad iX) (AA ad iX)) args s 0 0 (AA ad iX)
section
variable {p : Program} {l : Launch} {e : Env} {s : State} {m : MethodId} {args : Array Value} {below : List Frame} {meth : Method} {c : Code} {D : va_G} {cy : Nat → ClassId} {ad : Nat → Nat} {z : Mem}
set_option maxHeartbeats 4000000 in
set_option maxRecDepth 100000 in
theorem wX2_add_L25 (X : CX p s m args meth c D cy ad iX cX2_add 3 (wsG yX2_add cX2_add 3 none) RX2) (hr : meth.sig.returnType = none) (x1 : Int32) (x2 : Int32) (M : Mem) (h : fX2_add_L25 x1 x2 M = some z) : SW p l e rm_X2_add s m args below meth c 0 0 (QX2_add below D cy ad args s z) 3 (PH D cy ad iX s M) 25 [(0, .ref (ad 5)), (1, .int x1), (2, .int x2)] [] := by
  have hx := X.1
  have hb := X.2.1
  unfold fX2_add_L25 at h
  refine sw_aload_n hx hb dX2_add_25 0 rfl rfl ?_
  refine sw_iload_n hx hb dX2_add_26 1 rfl rfl ?_
  refine sw_putI X tyX2 tyX2_ok nmX2 inG2 mi_5 (ce_2 (rfl : kd 5 = 2)) rfl 9 (by decide) (goodW wd233) rfl (by decide +kernel : parseFieldDescriptor _ = some .int) rfl rfl (Nat.le_of_ble_eq_true rfl) (pu_2_9 (rfl : kd 5 = 2) _) dX2_add_27 h (fun M_2 h => ?_)
  refine sw_iload_n hx hb dX2_add_30 2 rfl rfl ?_
  refine sw_iload_n hx hb dX2_add_31 1 rfl rfl ?_
  refine sw_isub hx hb dX2_add_32 ?_
  refine sw_aload_n hx hb dX2_add_33 0 rfl rfl ?_
  refine sw_get X inG2 mi_5 (ce_2 (rfl : kd 5 = 2)) rfl 5 (by decide) (goodW wd224) rfl dX2_add_34 ?_
  refine sw_icmp_gt hx hb 49 dX2_add_37 (by decide) h (fun h => ?_) (fun h => ?_)
  · refine sw_aload_n hx hb dX2_add_49 0 rfl rfl ?_
    refine sw_get X inG2 mi_5 (ce_2 (rfl : kd 5 = 2)) rfl 6 (by decide) (goodW wd225) rfl dX2_add_50 ?_
    refine sw_if_ne hx hb 62 dX2_add_53 (by decide) h (fun h => ?_) (fun h => ?_)
    · exact sw_Vret X hr dX2_add_62 h
    · refine sw_aload_n hx hb dX2_add_56 0 rfl rfl ?_
      refine sw_iload_n hx hb dX2_add_57 1 rfl rfl ?_
      refine sw_iload_n hx hb dX2_add_58 2 rfl rfl ?_
      refine sw_callVV (C := RX2) (As := [.int x1, .int x2]) (rest := []) X mi_5 (ce_2 (rfl : kd 5 = 2)) rfl rfl (fun _ hz => okX2_addCut l X.2.2.2.2.2.2.1 x1 x2 M_2 _ hz) (cwX2_62 X.2.2.2.2.1 ⟨Nat.le_of_ble_eq_true rfl, Nat.le_of_ble_eq_true rfl⟩)  rfl rfl (Nat.le_of_ble_eq_true rfl) dX2_add_59 ⟨Nat.le_of_ble_eq_true rfl, Nat.le_of_ble_eq_true rfl⟩ h (fun M_3 _ h => ?_)
      exact sw_Vret X hr dX2_add_62 h
  · refine sw_aload_n hx hb dX2_add_40 0 rfl rfl ?_
    refine sw_iload_n hx hb dX2_add_41 1 rfl rfl ?_
    refine sw_iload_n hx hb dX2_add_42 2 rfl rfl ?_
    refine sw_callVV (C := RX2) (As := [.int x1, .int x2]) (rest := []) X mi_5 (ce_2 (rfl : kd 5 = 2)) rfl rfl (fun _ hz => okX2_put l X.2.2.2.2.2.2.1 x1 x2 M_2 _ hz) (cwX2_58 X.2.2.2.2.1 ⟨Nat.le_of_ble_eq_true rfl, Nat.le_of_ble_eq_true rfl⟩)  rfl rfl (Nat.le_of_ble_eq_true rfl) dX2_add_43 ⟨Nat.le_of_ble_eq_true rfl, Nat.le_of_ble_eq_true rfl⟩ h (fun M_5 _ h => ?_)
    refine sw_goto hx hb 62 dX2_add_46 (by decide) ?_
    exact sw_Vret X hr dX2_add_62 h

set_option maxHeartbeats 4000000 in
set_option maxRecDepth 100000 in
theorem wX2_add_L15 (X : CX p s m args meth c D cy ad iX cX2_add 3 (wsG yX2_add cX2_add 3 none) RX2) (hr : meth.sig.returnType = none) (x1 : Int32) (x2 : Int32) (M : Mem) (h : fX2_add_L15 x1 x2 M = some z) : SW p l e rm_X2_add s m args below meth c 0 0 (QX2_add below D cy ad args s z) 3 (PH D cy ad iX s M) 15 [(0, .ref (ad 5)), (1, .int x1), (2, .int x2)] [] := by
  have hx := X.1
  have hb := X.2.1
  unfold fX2_add_L15 at h
  refine sw_aload_n hx hb dX2_add_15 0 rfl rfl ?_
  refine sw_dup hx hb dX2_add_16 rfl ?_
  refine sw_get X inG2 mi_5 (ce_2 (rfl : kd 5 = 2)) rfl 8 (by decide) (goodW wd232) rfl dX2_add_17 ?_
  refine sw_iconst hx hb 1 dX2_add_20 (by decide) ?_
  refine sw_iadd hx hb dX2_add_21 ?_
  refine sw_putI X tyX2 tyX2_ok nmX2 inG2 mi_5 (ce_2 (rfl : kd 5 = 2)) rfl 8 (by decide) (goodW wd232) rfl (by decide +kernel : parseFieldDescriptor _ = some .int) rfl rfl (Nat.le_of_ble_eq_true rfl) (pu_2_8 (rfl : kd 5 = 2) _) dX2_add_22 h (fun M_1 h => ?_)
  refine sw_sub (lv1 := [(0, .ref (ad 5)), (1, .int x1), (2, .int x2)]) [0, 1, 2] rfl ?_
  exact wX2_add_L25 X hr x1 x2 M_1 h

set_option maxHeartbeats 4000000 in
set_option maxRecDepth 100000 in
theorem wX2_add_E (X : CX p s m args meth c D cy ad iX cX2_add 3 (wsG yX2_add cX2_add 3 none) RX2) (hr : meth.sig.returnType = none) (x1 : Int32) (x2 : Int32) (M : Mem) (h : fX2_add x1 x2 M = some z) : SW p l e rm_X2_add s m args below meth c 0 0 (QX2_add below D cy ad args s z) 3 (PH D cy ad iX s M) 0 [(0, .ref (ad 5)), (1, .int x1), (2, .int x2)] [] := by
  have hx := X.1
  have hb := X.2.1
  unfold fX2_add at h
  refine sw_aload_n hx hb dX2_add_0 0 rfl rfl ?_
  refine sw_get X inG2 mi_5 (ce_2 (rfl : kd 5 = 2)) rfl 7 (by decide) (goodW wd231) rfl dX2_add_1 ?_
  refine sw_if_eq hx hb 15 dX2_add_4 (by decide) h (fun h => ?_) (fun h => ?_)
  · refine sw_sub (lv1 := [(0, .ref (ad 5)), (1, .int x1), (2, .int x2)]) [0, 1, 2] rfl ?_
    exact wX2_add_L15 X hr x1 x2 M h
  · refine sw_iload_n hx hb dX2_add_7 1 rfl rfl ?_
    refine sw_aload_n hx hb dX2_add_8 0 rfl rfl ?_
    refine sw_get X inG2 mi_5 (ce_2 (rfl : kd 5 = 2)) rfl 9 (by decide) (goodW wd233) rfl dX2_add_9 ?_
    refine sw_icmp_eq hx hb 25 dX2_add_12 (by decide) h (fun h => ?_) (fun h => ?_)
    · refine sw_sub (lv1 := [(0, .ref (ad 5)), (1, .int x1), (2, .int x2)]) [0, 1, 2] rfl ?_
      exact wX2_add_L25 X hr x1 x2 M h
    · refine sw_sub (lv1 := [(0, .ref (ad 5)), (1, .int x1), (2, .int x2)]) [0, 1, 2] rfl ?_
      exact wX2_add_L15 X hr x1 x2 M h

end
theorem okX2_add (l : Launch) {D : va_G} {cy : Nat → ClassId} {ad : Nat → Nat} (hD : ∀ M : Mem, va_D (AA ad iX) (wl cy ad iX M)) (x1 : Int32) (x2 : Int32) (M : Mem) (z : Mem) (h : fX2_add x1 x2 M = some z) : CTV l yX2_add (wsG yX2_add cX2_add 3 none) rm_X2_add D cy ad iX [.ref (ad 5), .int x1, .int x2] M z :=
  met_of (cc := cX2_add) (maxL := 3) (ret := none) (own := RX2) (by decide) rfl rfl hD ndX (Nat.le_of_ble_eq_true rfl) (fun p e s m below meth c X hr => wX2_add_E X hr x1 x2 M h)
abbrev QX6_cutMatches (below : List Frame) (D : va_G) (cy : Nat → ClassId) (ad : Nat → Nat) (args : Array Value) (s : State) (z : Mem) : State → Prop := MQ below (va_Qv (fun u => u = z) (BB D cy ad iX) (AA ad iX)) args s 0 0 (AA ad iX)
section
variable {p : Program} {l : Launch} {e : Env} {s : State} {m : MethodId} {args : Array Value} {below : List Frame} {meth : Method} {c : Code} {D : va_G} {cy : Nat → ClassId} {ad : Nat → Nat} {z : Mem}
set_option maxHeartbeats 4000000 in
set_option maxRecDepth 100000 in
theorem wX6_cutMatches_L41 (X : CX p s m args meth c D cy ad iX cX6_cutMatches 3 (wsG yX6_cutMatches cX6_cutMatches 3 none) RX6) (hr : meth.sig.returnType = none) (k2 : Int32 → Mem → Option (Mem)) (hk2 : ∀ (x1 : Int32) (M : Mem), k2 x1 M = some z → SW p l e rm_X6_cutMatches s m args below meth c 0 0 (QX6_cutMatches below D cy ad args s z) 3 (PH D cy ad iX s M) 2 [(0, .ref (ad 0)), (1, .int x1)] []) (x1 : Int32) (x2 : Int32) (M : Mem) (h : fX6_cutMatches_L41 k2 x1 x2 M = some z) : SW p l e rm_X6_cutMatches s m args below meth c 0 0 (QX6_cutMatches below D cy ad args s z) 3 (PH D cy ad iX s M) 41 [(0, .ref (ad 0)), (1, .int x1), (2, .int x2)] [] := by
  have hx := X.1
  have hb := X.2.1
  unfold fX6_cutMatches_L41 at h
  refine sw_iload_n hx hb dX6_cutMatches_41 1 rfl rfl ?_
  refine sw_iconst hx hb 1 dX6_cutMatches_42 (by decide) ?_
  refine sw_iload_n hx hb dX6_cutMatches_43 2 rfl rfl ?_
  refine sw_mmax X (goodW wd261) (goodW wd109) (goodW wd106) (goodW wd110) (Nat.le_of_ble_eq_true rfl) (Nat.le_of_ble_eq_true rfl) (Nat.le_of_ble_eq_true rfl) (Nat.le_of_ble_eq_true rfl) dX6_cutMatches_44 ?_
  refine sw_iadd hx hb dX6_cutMatches_47 ?_
  refine sw_istore_nN hx hb (fun x1_6 => [(1, .int x1_6), (0, .ref (ad 0)), (2, .int x2)]) dX6_cutMatches_48 rfl (by decide) (fun _ => rfl) h (fun x1_6 h => ?_)
  refine sw_goto hx hb 2 dX6_cutMatches_49 (by decide) ?_
  refine sw_sub (lv1 := [(0, .ref (ad 0)), (1, .int x1_6)]) [1, 0] rfl ?_
  exact hk2 x1_6 M h

set_option maxHeartbeats 4000000 in
set_option maxRecDepth 100000 in
theorem wX6_cutMatches_H2 (X : CX p s m args meth c D cy ad iX cX6_cutMatches 3 (wsG yX6_cutMatches cX6_cutMatches 3 none) RX6) (hr : meth.sig.returnType = none) : ∀ (n : Nat) (x1 : Int32) (M : Mem), fX6_cutMatches_H2 n x1 M = some z → SW p l e rm_X6_cutMatches s m args below meth c 0 0 (QX6_cutMatches below D cy ad args s z) 3 (PH D cy ad iX s M) 2 [(0, .ref (ad 0)), (1, .int x1)] [] := by
  have hx := X.1
  have hb := X.2.1
  intro n
  induction n with
  | zero =>
    intro x1 M h
    have h : (none : Option (Mem)) = some z := h
    cases h
  | succ n ih =>
    intro x1 M h
    rw [fX6_cutMatches_H2] at h
    refine sw_iload_n hx hb dX6_cutMatches_2 1 rfl rfl ?_
    refine sw_aload_n hx hb dX6_cutMatches_3 0 rfl rfl ?_
    refine sw_get X inG6 mi_0 (ce_6 (rfl : kd 0 = 6)) rfl 1 (by decide) (goodW wd23) rfl dX6_cutMatches_4 ?_
    refine sw_callVI (C := RX5) (As := []) (rest := [.int x1]) X mi_3 (ce_5 (rfl : kd 3 = 5)) rfl rfl (fun _ hz => okX5_size l X.2.2.2.2.2.2.1 3 (rfl : kd 3 = 5) M _ hz) (cwX6_51 X.2.2.2.2.1 ⟨Nat.le_of_ble_eq_true rfl, Nat.le_of_ble_eq_true rfl⟩)  rfl rfl (Nat.le_of_ble_eq_true rfl) dX6_cutMatches_7 ⟨Nat.le_of_ble_eq_true rfl, Nat.le_of_ble_eq_true rfl⟩ h (fun v_2 M_1 _ h => ?_)
    refine sw_icmp_ge hx hb 52 dX6_cutMatches_10 (by decide) h (fun h => ?_) (fun h => ?_)
    · exact sw_Vret X hr dX6_cutMatches_52 h
    · refine sw_aload_n hx hb dX6_cutMatches_13 0 rfl rfl ?_
      refine sw_get X inG6 mi_0 (ce_6 (rfl : kd 0 = 6)) rfl 5 (by decide) (goodW wd181) rfl dX6_cutMatches_14 ?_
      obtain ⟨h_ra_3, h⟩ := ga_ok h
      generalize gR M_1 0 5 = ra_3 at h h_ra_3 ⊢
      refine sw_aload_n hx hb dX6_cutMatches_17 0 rfl rfl ?_
      refine sw_get X inG6 mi_0 (ce_6 (rfl : kd 0 = 6)) rfl 1 (by decide) (goodW wd23) rfl dX6_cutMatches_18 ?_
      refine sw_iload_n hx hb dX6_cutMatches_21 1 rfl rfl ?_
      refine sw_callVI (C := RX0) (As := [.ref (ad 3), .int x1]) (rest := []) X (mm0 h_ra_3) (ce_0 h_ra_3) rfl rfl (fun _ hz => okX0_longestFrom l X.2.2.2.2.2.2.1 ra_3 3 x1 h_ra_3 (rfl : kd 3 = 5) M_1 _ hz) (cwX6_141 X.2.2.2.2.1 ⟨Nat.le_of_ble_eq_true rfl, Nat.le_of_ble_eq_true rfl⟩)  rfl rfl (Nat.le_of_ble_eq_true rfl) dX6_cutMatches_22 ⟨Nat.le_of_ble_eq_true rfl, Nat.le_of_ble_eq_true rfl⟩ h (fun v_5 M_4 _ h => ?_)
      refine sw_istore_n hx hb [(2, .int v_5), (0, .ref (ad 0)), (1, .int x1)] dX6_cutMatches_25 rfl (by decide) rfl ?_
      refine sw_iload_n hx hb dX6_cutMatches_26 0 rfl rfl ?_
      refine sw_if_le hx hb 41 dX6_cutMatches_27 (by decide) h (fun h => ?_) (fun h => ?_)
      · refine sw_sub (lv1 := [(0, .ref (ad 0)), (1, .int x1), (2, .int v_5)]) [1, 2, 0] rfl ?_
        exact wX6_cutMatches_L41 X hr (fX6_cutMatches_H2 n) ih x1 v_5 M_4 h
      · refine sw_aload_n hx hb dX6_cutMatches_30 1 rfl rfl ?_
        refine sw_get X inG6 mi_0 (ce_6 (rfl : kd 0 = 6)) rfl 2 (by decide) (goodW wd28) rfl dX6_cutMatches_31 ?_
        refine sw_iload_n hx hb dX6_cutMatches_34 2 rfl rfl ?_
        refine sw_iload_n hx hb dX6_cutMatches_35 2 rfl rfl ?_
        refine sw_iload_n hx hb dX6_cutMatches_36 0 rfl rfl ?_
        refine sw_iadd hx hb dX6_cutMatches_37 ?_
        refine sw_callVV (C := RX2) (As := [.int x1, .int (x1 + v_5)]) (rest := []) X mi_5 (ce_2 (rfl : kd 5 = 2)) rfl rfl (fun _ hz => okX2_add l X.2.2.2.2.2.2.1 x1 (x1 + v_5) M_4 _ hz) (cwX6_151 X.2.2.2.2.1 ⟨Nat.le_of_ble_eq_true rfl, Nat.le_of_ble_eq_true rfl⟩)  rfl rfl (Nat.le_of_ble_eq_true rfl) dX6_cutMatches_38 ⟨Nat.le_of_ble_eq_true rfl, Nat.le_of_ble_eq_true rfl⟩ h (fun M_7 _ h => ?_)
        refine sw_sub (lv1 := [(0, .ref (ad 0)), (1, .int x1), (2, .int v_5)]) [1, 2, 0] rfl ?_
        exact wX6_cutMatches_L41 X hr (fX6_cutMatches_H2 n) ih x1 v_5 M_7 h

set_option maxHeartbeats 4000000 in
set_option maxRecDepth 100000 in
theorem wX6_cutMatches_E (X : CX p s m args meth c D cy ad iX cX6_cutMatches 3 (wsG yX6_cutMatches cX6_cutMatches 3 none) RX6) (hr : meth.sig.returnType = none) (M : Mem) (h : fX6_cutMatches M = some z) : SW p l e rm_X6_cutMatches s m args below meth c 0 0 (QX6_cutMatches below D cy ad args s z) 3 (PH D cy ad iX s M) 0 [(0, .ref (ad 0))] [] := by
  have hx := X.1
  have hb := X.2.1
  unfold fX6_cutMatches at h
  refine sw_iconst hx hb 0 dX6_cutMatches_0 (by decide) ?_
  refine sw_istore_n hx hb [(1, .int 0), (0, .ref (ad 0))] dX6_cutMatches_1 rfl (by decide) rfl ?_
  refine sw_sub (lv1 := [(0, .ref (ad 0)), (1, .int 0)]) [1, 0] rfl ?_
  exact wX6_cutMatches_H2 X hr FU 0 M h

end
theorem okX6_cutMatches (l : Launch) {D : va_G} {cy : Nat → ClassId} {ad : Nat → Nat} (hD : ∀ M : Mem, va_D (AA ad iX) (wl cy ad iX M)) (M : Mem) (z : Mem) (h : fX6_cutMatches M = some z) : CTV l yX6_cutMatches (wsG yX6_cutMatches cX6_cutMatches 3 none) rm_X6_cutMatches D cy ad iX [.ref (ad 0)] M z :=
  met_of (cc := cX6_cutMatches) (maxL := 3) (ret := none) (own := RX6) (by decide) rfl rfl hD ndX (Nat.le_of_ble_eq_true rfl) (fun p e s m below meth c X hr => wX6_cutMatches_E X hr M h)
