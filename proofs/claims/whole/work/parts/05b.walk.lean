abbrev QX5_size (below : List Frame) (D : va_G) (cy : Nat → ClassId) (ad : Nat → Nat) (args : Array Value) (s : State) (z : Int32 × Mem) : State → Prop := MQ below (va_Qi (fun r u => r = z.1 ∧ u = z.2) (BB D cy ad iX) (AA ad iX)) args s 0 0 (AA ad iX)
section
variable {p : Program} {l : Launch} {e : Env} {s : State} {m : MethodId} {args : Array Value} {below : List Frame} {meth : Method} {c : Code} {D : va_G} {cy : Nat → ClassId} {ad : Nat → Nat} {z : Int32 × Mem}
set_option maxHeartbeats 4000000 in
set_option maxRecDepth 100000 in
theorem wX5_size_E (X : CX p s m args meth c D cy ad iX cX5_size 1 (wsG yX5_size cX5_size 1 (some .int)) RX5) (hr : meth.sig.returnType = (some .int)) (o : Nat) (h_o : kd o = 5) (M : Mem) (h : fX5_size o M = some z) : SW p l e rm_X5_size s m args below meth c 0 0 (QX5_size below D cy ad args s z) 1 (PH D cy ad iX s M) 0 [(0, .ref (ad o))] [] := by
  have hx := X.1
  have hb := X.2.1
  unfold fX5_size at h
  refine sw_aload_n hx hb dX5_size_0 0 rfl rfl ?_
  refine sw_get X inG5 (mm5 h_o) (ce_5 h_o) rfl 1 (by decide) (goodW wd0) rfl dX5_size_1 ?_
  exact sw_Iret X hr dX5_size_4 h

end
theorem okX5_size (l : Launch) {D : va_G} {cy : Nat → ClassId} {ad : Nat → Nat} (hD : ∀ M : Mem, va_D (AA ad iX) (wl cy ad iX M)) (o : Nat) (h_o : kd o = 5) (M : Mem) (z : Int32 × Mem) (h : fX5_size o M = some z) : CTI l yX5_size (wsG yX5_size cX5_size 1 (some .int)) rm_X5_size D cy ad iX [.ref (ad o)] M z :=
  met_of (cc := cX5_size) (maxL := 1) (ret := (some .int)) (own := RX5) (by decide) rfl rfl hD ndX (Nat.le_of_ble_eq_true rfl) (fun p e s m below meth c X hr => wX5_size_E X hr o h_o M h)
abbrev QX5_append (below : List Frame) (D : va_G) (cy : Nat → ClassId) (ad : Nat → Nat) (args : Array Value) (s : State) (z : Mem) : State → Prop := MQ below (va_Qv (fun u => u = z) (BB D cy ad iX) (AA ad iX)) args s 0 0 (AA ad iX)
section
variable {p : Program} {l : Launch} {e : Env} {s : State} {m : MethodId} {args : Array Value} {below : List Frame} {meth : Method} {c : Code} {D : va_G} {cy : Nat → ClassId} {ad : Nat → Nat} {z : Mem}
set_option maxHeartbeats 4000000 in
set_option maxRecDepth 100000 in
theorem wX5_append_E (X : CX p s m args meth c D cy ad iX cX5_append 2 (wsG yX5_append cX5_append 2 none) RX5) (hr : meth.sig.returnType = none) (o : Nat) (h_o : kd o = 5) (x1 : Int32) (M : Mem) (h : fX5_append o x1 M = some z) : SW p l e rm_X5_append s m args below meth c 0 0 (QX5_append below D cy ad args s z) 2 (PH D cy ad iX s M) 0 [(0, .ref (ad o)), (1, .int x1)] [] := by
  have hx := X.1
  have hb := X.2.1
  unfold fX5_append at h
  refine sw_aload_n hx hb dX5_append_0 0 rfl rfl ?_
  refine sw_get X inG5 (mm5 h_o) (ce_5 h_o) rfl 1 (by decide) (goodW wd0) rfl dX5_append_1 ?_
  refine sw_sipush hx hb 300 dX5_append_4 (by decide) ?_
  refine sw_icmp_ge hx hb 31 dX5_append_7 (by decide) h (fun h => ?_) (fun h => ?_)
  · exact sw_Vret X hr dX5_append_31 h
  · refine sw_aload_n hx hb dX5_append_10 0 rfl rfl ?_
    refine sw_get X inG5 (mm5 h_o) (ce_5 h_o) rfl 0 (by decide) (goodW wd1) rfl dX5_append_11 ?_
    refine sw_aload_n hx hb dX5_append_14 0 rfl rfl ?_
    refine sw_get X inG5 (mm5 h_o) (ce_5 h_o) rfl 1 (by decide) (goodW wd0) rfl dX5_append_15 ?_
    refine sw_iload_n hx hb dX5_append_18 1 rfl rfl ?_
    refine sw_i2b hx hb dX5_append_19 ?_
    refine sw_bast X (ma5 h_o) (ka5 h_o) dX5_append_20 h (fun M_1 h => ?_)
    refine sw_aload_n hx hb dX5_append_21 0 rfl rfl ?_
    refine sw_dup hx hb dX5_append_22 rfl ?_
    refine sw_get X inG5 (mm5 h_o) (ce_5 h_o) rfl 1 (by decide) (goodW wd0) rfl dX5_append_23 ?_
    refine sw_iconst hx hb 1 dX5_append_26 (by decide) ?_
    refine sw_iadd hx hb dX5_append_27 ?_
    refine sw_putI X tyX5 tyX5_ok nmX5 inG5 (mm5 h_o) (ce_5 h_o) rfl 1 (by decide) (goodW wd0) rfl (by decide +kernel : parseFieldDescriptor _ = some .int) rfl rfl (Nat.le_of_ble_eq_true rfl) (pu_5_1 h_o _) dX5_append_28 h (fun M_2 h => ?_)
    exact sw_Vret X hr dX5_append_31 h

end
theorem okX5_append (l : Launch) {D : va_G} {cy : Nat → ClassId} {ad : Nat → Nat} (hD : ∀ M : Mem, va_D (AA ad iX) (wl cy ad iX M)) (o : Nat) (x1 : Int32) (h_o : kd o = 5) (M : Mem) (z : Mem) (h : fX5_append o x1 M = some z) : CTV l yX5_append (wsG yX5_append cX5_append 2 none) rm_X5_append D cy ad iX [.ref (ad o), .int x1] M z :=
  met_of (cc := cX5_append) (maxL := 2) (ret := none) (own := RX5) (by decide) rfl rfl hD ndX (Nat.le_of_ble_eq_true rfl) (fun p e s m below meth c X hr => wX5_append_E X hr o h_o x1 M h)
abbrev QX6_feed (below : List Frame) (D : va_G) (cy : Nat → ClassId) (ad : Nat → Nat) (args : Array Value) (s : State) (z : Int32 × Mem) : State → Prop := MQ below (va_Qi (fun r u => r = z.1 ∧ u = z.2) (BB D cy ad iX) (AA ad iX)) args s 0 0 (AA ad iX)
section
variable {p : Program} {l : Launch} {e : Env} {s : State} {m : MethodId} {args : Array Value} {below : List Frame} {meth : Method} {c : Code} {D : va_G} {cy : Nat → ClassId} {ad : Nat → Nat} {z : Int32 × Mem}
set_option maxHeartbeats 4000000 in
set_option maxRecDepth 100000 in
theorem wX6_feed_H34 (X : CX p s m args meth c D cy ad iX cX6_feed 5 (wsG yX6_feed cX6_feed 5 (some .int)) RX6) (hr : meth.sig.returnType = (some .int)) : ∀ (n : Nat) (x1 : Int32) (x2 : Int64) (x4 : Int32) (M : Mem), fX6_feed_H34 n x1 x2 x4 M = some z → SW p l e rm_X6_feed s m args below meth c 0 0 (QX6_feed below D cy ad args s z) 5 (PH D cy ad iX s M) 34 [(0, .ref (ad 0)), (1, .int x1), (2, .long x2), (4, .int x4)] [] := by
  have hx := X.1
  have hb := X.2.1
  intro n
  induction n with
  | zero =>
    intro x1 x2 x4 M h
    have h : (none : Option (Int32 × Mem)) = some z := h
    cases h
  | succ n ih =>
    intro x1 x2 x4 M h
    rw [fX6_feed_H34] at h
    refine sw_iload hx hb dX6_feed_34 3 rfl ?_
    refine sw_iload_n hx hb dX6_feed_36 1 rfl rfl ?_
    refine sw_icmp_ge hx hb 65 dX6_feed_37 (by decide) h (fun h => ?_) (fun h => ?_)
    · refine sw_aload_n hx hb dX6_feed_65 0 rfl rfl ?_
      refine sw_get X inG6 mi_0 (ce_6 (rfl : kd 0 = 6)) rfl 0 (by decide) (goodW wd2) rfl dX6_feed_66 ?_
      refine sw_callVI (C := RX5) (As := []) (rest := []) X mi_1 (ce_5 (rfl : kd 1 = 5)) rfl rfl (fun _ hz => okX5_size l X.2.2.2.2.2.2.1 1 (rfl : kd 1 = 5) M _ hz) (cwX6_51 X.2.2.2.2.1 ⟨Nat.le_of_ble_eq_true rfl, Nat.le_of_ble_eq_true rfl⟩)  rfl rfl (Nat.le_of_ble_eq_true rfl) dX6_feed_69 ⟨Nat.le_of_ble_eq_true rfl, Nat.le_of_ble_eq_true rfl⟩ h (fun v_4 M_3 _ h => ?_)
      exact sw_Iret X hr dX6_feed_72 h
    · refine sw_aload_n hx hb dX6_feed_40 0 rfl rfl ?_
      refine sw_get X inG6 mi_0 (ce_6 (rfl : kd 0 = 6)) rfl 0 (by decide) (goodW wd2) rfl dX6_feed_41 ?_
      refine sw_lload_n hx hb dX6_feed_44 2 rfl rfl ?_
      refine sw_bipush hx hb 8 dX6_feed_45 (by decide) ?_
      refine sw_iload hx hb dX6_feed_47 3 rfl ?_
      refine sw_imul hx hb dX6_feed_49 ?_
      refine sw_lushr hx hb dX6_feed_50 ?_
      refine sw_l2i hx hb dX6_feed_51 ?_
      refine sw_sipush hx hb 255 dX6_feed_52 (by decide) ?_
      refine sw_iand hx hb dX6_feed_55 ?_
      refine sw_callVV (C := RX5) (As := [.int ((((ushr6 x2 (8 * x4)) : Int64).toInt32) &&& 255)]) (rest := []) X mi_1 (ce_5 (rfl : kd 1 = 5)) rfl rfl (fun _ hz => okX5_append l X.2.2.2.2.2.2.1 1 ((((ushr6 x2 (8 * x4)) : Int64).toInt32) &&& 255) (rfl : kd 1 = 5) M _ hz) (cwX6_55 X.2.2.2.2.1 ⟨Nat.le_of_ble_eq_true rfl, Nat.le_of_ble_eq_true rfl⟩)  rfl rfl (Nat.le_of_ble_eq_true rfl) dX6_feed_56 ⟨Nat.le_of_ble_eq_true rfl, Nat.le_of_ble_eq_true rfl⟩ h (fun M_5 _ h => ?_)
      refine sw_iincN hx hb (k := 3) (x4 + 1) (fun x4_7 => [(4, .int x4_7), (0, .ref (ad 0)), (1, .int x1), (2, .long x2)]) dX6_feed_59 rfl (by rfl) (by decide) (fun _ => rfl) h (fun x4_7 h => ?_)
      refine sw_goto hx hb 34 dX6_feed_62 (by decide) ?_
      refine sw_sub (lv1 := [(0, .ref (ad 0)), (1, .int x1), (2, .long x2), (4, .int x4_7)]) [1, 2, 3, 0] rfl ?_
      exact ih x1 x2 x4_7 M_5 h

set_option maxHeartbeats 4000000 in
set_option maxRecDepth 100000 in
theorem wX6_feed_E (X : CX p s m args meth c D cy ad iX cX6_feed 5 (wsG yX6_feed cX6_feed 5 (some .int)) RX6) (hr : meth.sig.returnType = (some .int)) (x1 : Int32) (x2 : Int64) (M : Mem) (h : fX6_feed x1 x2 M = some z) : SW p l e rm_X6_feed s m args below meth c 0 0 (QX6_feed below D cy ad args s z) 5 (PH D cy ad iX s M) 0 [(0, .ref (ad 0)), (1, .int x1), (2, .long x2)] [] := by
  have hx := X.1
  have hb := X.2.1
  unfold fX6_feed at h
  refine sw_iload_n hx hb dX6_feed_0 1 rfl rfl ?_
  refine sw_iconst hx hb 1 dX6_feed_1 (by decide) ?_
  refine sw_icmp_lt hx hb 11 dX6_feed_2 (by decide) h (fun h => ?_) (fun h => ?_)
  · refine sw_iconst hx hb (-1) dX6_feed_11 (by decide) ?_
    exact sw_Iret X hr dX6_feed_12 h
  · refine sw_iload_n hx hb dX6_feed_5 1 rfl rfl ?_
    refine sw_bipush hx hb 8 dX6_feed_6 (by decide) ?_
    refine sw_icmp_le hx hb 13 dX6_feed_8 (by decide) h (fun h => ?_) (fun h => ?_)
    · refine sw_aload_n hx hb dX6_feed_13 0 rfl rfl ?_
      refine sw_get X inG6 mi_0 (ce_6 (rfl : kd 0 = 6)) rfl 0 (by decide) (goodW wd2) rfl dX6_feed_14 ?_
      refine sw_callVI (C := RX5) (As := []) (rest := []) X mi_1 (ce_5 (rfl : kd 1 = 5)) rfl rfl (fun _ hz => okX5_size l X.2.2.2.2.2.2.1 1 (rfl : kd 1 = 5) M _ hz) (cwX6_51 X.2.2.2.2.1 ⟨Nat.le_of_ble_eq_true rfl, Nat.le_of_ble_eq_true rfl⟩)  rfl rfl (Nat.le_of_ble_eq_true rfl) dX6_feed_17 ⟨Nat.le_of_ble_eq_true rfl, Nat.le_of_ble_eq_true rfl⟩ h (fun v_2 M_1 _ h => ?_)
      refine sw_iload_n hx hb dX6_feed_20 1 rfl rfl ?_
      refine sw_iadd hx hb dX6_feed_21 ?_
      refine sw_sipush hx hb 300 dX6_feed_22 (by decide) ?_
      refine sw_icmp_le hx hb 31 dX6_feed_25 (by decide) h (fun h => ?_) (fun h => ?_)
      · refine sw_iconst hx hb 0 dX6_feed_31 (by decide) ?_
        refine sw_istore hx hb [(4, .int 0), (0, .ref (ad 0)), (1, .int x1), (2, .long x2)] dX6_feed_32 (by decide) rfl ?_
        refine sw_sub (lv1 := [(0, .ref (ad 0)), (1, .int x1), (2, .long x2), (4, .int 0)]) [1, 2, 3, 0] rfl ?_
        exact wX6_feed_H34 X hr FU x1 x2 0 M_1 h
      · refine sw_bipush hx hb (-3) dX6_feed_28 (by decide) ?_
        exact sw_Iret X hr dX6_feed_30 h
    · refine sw_iconst hx hb (-1) dX6_feed_11 (by decide) ?_
      exact sw_Iret X hr dX6_feed_12 h

end
theorem okX6_feed (l : Launch) {D : va_G} {cy : Nat → ClassId} {ad : Nat → Nat} (hD : ∀ M : Mem, va_D (AA ad iX) (wl cy ad iX M)) (x1 : Int32) (x2 : Int64) (M : Mem) (z : Int32 × Mem) (h : fX6_feed x1 x2 M = some z) : CTI l yX6_feed (wsG yX6_feed cX6_feed 5 (some .int)) rm_X6_feed D cy ad iX [.ref (ad 0), .int x1, .long x2] M z :=
  met_of (cc := cX6_feed) (maxL := 5) (ret := (some .int)) (own := RX6) (by decide) rfl rfl hD ndX (Nat.le_of_ble_eq_true rfl) (fun p e s m below meth c X hr => wX6_feed_E X hr x1 x2 M h)
abbrev QX5_at (below : List Frame) (D : va_G) (cy : Nat → ClassId) (ad : Nat → Nat) (args : Array Value) (s : State) (z : Int32 × Mem) : State → Prop := MQ below (va_Qi (fun r u => r = z.1 ∧ u = z.2) (BB D cy ad iX) (AA ad iX)) args s 0 0 (AA ad iX)
section
variable {p : Program} {l : Launch} {e : Env} {s : State} {m : MethodId} {args : Array Value} {below : List Frame} {meth : Method} {c : Code} {D : va_G} {cy : Nat → ClassId} {ad : Nat → Nat} {z : Int32 × Mem}
set_option maxHeartbeats 4000000 in
set_option maxRecDepth 100000 in
theorem wX5_at_E (X : CX p s m args meth c D cy ad iX cX5_at 2 (wsG yX5_at cX5_at 2 (some .int)) RX5) (hr : meth.sig.returnType = (some .int)) (o : Nat) (h_o : kd o = 5) (x1 : Int32) (M : Mem) (h : fX5_at o x1 M = some z) : SW p l e rm_X5_at s m args below meth c 0 0 (QX5_at below D cy ad args s z) 2 (PH D cy ad iX s M) 0 [(0, .ref (ad o)), (1, .int x1)] [] := by
  have hx := X.1
  have hb := X.2.1
  unfold fX5_at at h
  refine sw_iload_n hx hb dX5_at_0 1 rfl rfl ?_
  refine sw_if_lt hx hb 25 dX5_at_1 (by decide) h (fun h => ?_) (fun h => ?_)
  · refine sw_iconst hx hb (-1) dX5_at_25 (by decide) ?_
    exact sw_Iret X hr dX5_at_26 h
  · refine sw_iload_n hx hb dX5_at_4 1 rfl rfl ?_
    refine sw_aload_n hx hb dX5_at_5 0 rfl rfl ?_
    refine sw_get X inG5 (mm5 h_o) (ce_5 h_o) rfl 1 (by decide) (goodW wd0) rfl dX5_at_6 ?_
    refine sw_icmp_ge hx hb 25 dX5_at_9 (by decide) h (fun h => ?_) (fun h => ?_)
    · refine sw_iconst hx hb (-1) dX5_at_25 (by decide) ?_
      exact sw_Iret X hr dX5_at_26 h
    · refine sw_aload_n hx hb dX5_at_12 0 rfl rfl ?_
      refine sw_get X inG5 (mm5 h_o) (ce_5 h_o) rfl 0 (by decide) (goodW wd1) rfl dX5_at_13 ?_
      refine sw_iload_n hx hb dX5_at_16 1 rfl rfl ?_
      refine sw_bald X (ma5 h_o) (ka5 h_o) dX5_at_17 h (fun v_1 h => ?_)
      refine sw_sipush hx hb 255 dX5_at_18 (by decide) ?_
      refine sw_iand hx hb dX5_at_21 ?_
      refine sw_goto hx hb 26 dX5_at_22 (by decide) ?_
      exact sw_Iret X hr dX5_at_26 h

end
theorem okX5_at (l : Launch) {D : va_G} {cy : Nat → ClassId} {ad : Nat → Nat} (hD : ∀ M : Mem, va_D (AA ad iX) (wl cy ad iX M)) (o : Nat) (x1 : Int32) (h_o : kd o = 5) (M : Mem) (z : Int32 × Mem) (h : fX5_at o x1 M = some z) : CTI l yX5_at (wsG yX5_at cX5_at 2 (some .int)) rm_X5_at D cy ad iX [.ref (ad o), .int x1] M z :=
  met_of (cc := cX5_at) (maxL := 2) (ret := (some .int)) (own := RX5) (by decide) rfl rfl hD ndX (Nat.le_of_ble_eq_true rfl) (fun p e s m below meth c X hr => wX5_at_E X hr o h_o x1 M h)
abbrev QX5_clear (below : List Frame) (D : va_G) (cy : Nat → ClassId) (ad : Nat → Nat) (args : Array Value) (s : State) (z : Mem) : State → Prop := MQ below (va_Qv (fun u => u = z) (BB D cy ad iX) (AA ad iX)) args s 0 0 (AA ad iX)
section
variable {p : Program} {l : Launch} {e : Env} {s : State} {m : MethodId} {args : Array Value} {below : List Frame} {meth : Method} {c : Code} {D : va_G} {cy : Nat → ClassId} {ad : Nat → Nat} {z : Mem}
set_option maxHeartbeats 4000000 in
set_option maxRecDepth 100000 in
theorem wX5_clear_E (X : CX p s m args meth c D cy ad iX cX5_clear 1 (wsG yX5_clear cX5_clear 1 none) RX5) (hr : meth.sig.returnType = none) (o : Nat) (h_o : kd o = 5) (M : Mem) (h : fX5_clear o M = some z) : SW p l e rm_X5_clear s m args below meth c 0 0 (QX5_clear below D cy ad args s z) 1 (PH D cy ad iX s M) 0 [(0, .ref (ad o))] [] := by
  have hx := X.1
  have hb := X.2.1
  unfold fX5_clear at h
  refine sw_aload_n hx hb dX5_clear_0 0 rfl rfl ?_
  refine sw_iconst hx hb 0 dX5_clear_1 (by decide) ?_
  refine sw_putI X tyX5 tyX5_ok nmX5 inG5 (mm5 h_o) (ce_5 h_o) rfl 1 (by decide) (goodW wd0) rfl (by decide +kernel : parseFieldDescriptor _ = some .int) rfl rfl (Nat.le_of_ble_eq_true rfl) (pu_5_1 h_o _) dX5_clear_2 h (fun M_1 h => ?_)
  exact sw_Vret X hr dX5_clear_5 h

end
theorem okX5_clear (l : Launch) {D : va_G} {cy : Nat → ClassId} {ad : Nat → Nat} (hD : ∀ M : Mem, va_D (AA ad iX) (wl cy ad iX M)) (o : Nat) (h_o : kd o = 5) (M : Mem) (z : Mem) (h : fX5_clear o M = some z) : CTV l yX5_clear (wsG yX5_clear cX5_clear 1 none) rm_X5_clear D cy ad iX [.ref (ad o)] M z :=
  met_of (cc := cX5_clear) (maxL := 1) (ret := none) (own := RX5) (by decide) rfl rfl hD ndX (Nat.le_of_ble_eq_true rfl) (fun p e s m below meth c X hr => wX5_clear_E X hr o h_o M h)
abbrev QX5_takeOver (below : List Frame) (D : va_G) (cy : Nat → ClassId) (ad : Nat → Nat) (args : Array Value) (s : State) (z : Mem) : State → Prop := MQ below (va_Qv (fun u => u = z) (BB D cy ad iX) (AA ad iX)) args s 0 0 (AA ad iX)
section
variable {p : Program} {l : Launch} {e : Env} {s : State} {m : MethodId} {args : Array Value} {below : List Frame} {meth : Method} {c : Code} {D : va_G} {cy : Nat → ClassId} {ad : Nat → Nat} {z : Mem}
set_option maxHeartbeats 4000000 in
set_option maxRecDepth 100000 in
theorem wX5_takeOver_H7 (X : CX p s m args meth c D cy ad iX cX5_takeOver 3 (wsG yX5_takeOver cX5_takeOver 3 none) RX5) (hr : meth.sig.returnType = none) (o : Nat) (a1 : Nat) (h_o : kd o = 5) (h_a1 : kd a1 = 5) : ∀ (n : Nat) (x2 : Int32) (M : Mem), fX5_takeOver_H7 o a1 n x2 M = some z → SW p l e rm_X5_takeOver s m args below meth c 0 0 (QX5_takeOver below D cy ad args s z) 3 (PH D cy ad iX s M) 7 [(0, .ref (ad o)), (1, .ref (ad a1)), (2, .int x2)] [] := by
  have hx := X.1
  have hb := X.2.1
  intro n
  induction n with
  | zero =>
    intro x2 M h
    have h : (none : Option (Mem)) = some z := h
    cases h
  | succ n ih =>
    intro x2 M h
    rw [fX5_takeOver_H7] at h
    refine sw_iload_n hx hb dX5_takeOver_7 2 rfl rfl ?_
    refine sw_aload_n hx hb dX5_takeOver_8 1 rfl rfl ?_
    refine sw_get X inG5 (mm5 h_a1) (ce_5 h_a1) rfl 1 (by decide) (goodW wd0) rfl dX5_takeOver_9 ?_
    refine sw_icmp_ge hx hb 30 dX5_takeOver_12 (by decide) h (fun h => ?_) (fun h => ?_)
    · refine sw_aload_n hx hb dX5_takeOver_30 1 rfl rfl ?_
      refine sw_callVV (C := RX5) (As := []) (rest := []) X (mm5 h_a1) (ce_5 h_a1) rfl rfl (fun _ hz => okX5_clear l X.2.2.2.2.2.2.1 a1 h_a1 M _ hz) (cwX5_27 X.2.2.2.2.1 ⟨Nat.le_of_ble_eq_true rfl, Nat.le_of_ble_eq_true rfl⟩)  rfl rfl (Nat.le_of_ble_eq_true rfl) dX5_takeOver_31 ⟨Nat.le_of_ble_eq_true rfl, Nat.le_of_ble_eq_true rfl⟩ h (fun M_2 _ h => ?_)
      exact sw_Vret X hr dX5_takeOver_34 h
    · refine sw_aload_n hx hb dX5_takeOver_15 0 rfl rfl ?_
      refine sw_aload_n hx hb dX5_takeOver_16 1 rfl rfl ?_
      refine sw_iload_n hx hb dX5_takeOver_17 2 rfl rfl ?_
      refine sw_callVI (C := RX5) (As := [.int x2]) (rest := [.ref (ad o)]) X (mm5 h_a1) (ce_5 h_a1) rfl rfl (fun _ hz => okX5_at l X.2.2.2.2.2.2.1 a1 x2 h_a1 M _ hz) (cwX5_19 X.2.2.2.2.1 ⟨Nat.le_of_ble_eq_true rfl, Nat.le_of_ble_eq_true rfl⟩)  rfl rfl (Nat.le_of_ble_eq_true rfl) dX5_takeOver_18 ⟨Nat.le_of_ble_eq_true rfl, Nat.le_of_ble_eq_true rfl⟩ h (fun v_5 M_4 _ h => ?_)
      refine sw_callVV (C := RX5) (As := [.int v_5]) (rest := []) X (mm5 h_o) (ce_5 h_o) rfl rfl (fun _ hz => okX5_append l X.2.2.2.2.2.2.1 o v_5 h_o M_4 _ hz) (cwX5_23 X.2.2.2.2.1 ⟨Nat.le_of_ble_eq_true rfl, Nat.le_of_ble_eq_true rfl⟩)  rfl rfl (Nat.le_of_ble_eq_true rfl) dX5_takeOver_21 ⟨Nat.le_of_ble_eq_true rfl, Nat.le_of_ble_eq_true rfl⟩ h (fun M_6 _ h => ?_)
      refine sw_iincN hx hb (k := 2) (x2 + 1) (fun x2_8 => [(2, .int x2_8), (0, .ref (ad o)), (1, .ref (ad a1))]) dX5_takeOver_24 rfl (by rfl) (by decide) (fun _ => rfl) h (fun x2_8 h => ?_)
      refine sw_goto hx hb 7 dX5_takeOver_27 (by decide) ?_
      refine sw_sub (lv1 := [(0, .ref (ad o)), (1, .ref (ad a1)), (2, .int x2_8)]) [1, 2, 0] rfl ?_
      exact ih x2_8 M_6 h

set_option maxHeartbeats 4000000 in
set_option maxRecDepth 100000 in
theorem wX5_takeOver_E (X : CX p s m args meth c D cy ad iX cX5_takeOver 3 (wsG yX5_takeOver cX5_takeOver 3 none) RX5) (hr : meth.sig.returnType = none) (o : Nat) (a1 : Nat) (h_o : kd o = 5) (h_a1 : kd a1 = 5) (M : Mem) (h : fX5_takeOver o a1 M = some z) : SW p l e rm_X5_takeOver s m args below meth c 0 0 (QX5_takeOver below D cy ad args s z) 3 (PH D cy ad iX s M) 0 [(0, .ref (ad o)), (1, .ref (ad a1))] [] := by
  have hx := X.1
  have hb := X.2.1
  unfold fX5_takeOver at h
  refine sw_aload_n hx hb dX5_takeOver_0 0 rfl rfl ?_
  refine sw_iconst hx hb 0 dX5_takeOver_1 (by decide) ?_
  refine sw_putI X tyX5 tyX5_ok nmX5 inG5 (mm5 h_o) (ce_5 h_o) rfl 1 (by decide) (goodW wd0) rfl (by decide +kernel : parseFieldDescriptor _ = some .int) rfl rfl (Nat.le_of_ble_eq_true rfl) (pu_5_1 h_o _) dX5_takeOver_2 h (fun M_1 h => ?_)
  refine sw_iconst hx hb 0 dX5_takeOver_5 (by decide) ?_
  refine sw_istore_n hx hb [(2, .int 0), (0, .ref (ad o)), (1, .ref (ad a1))] dX5_takeOver_6 rfl (by decide) rfl ?_
  refine sw_sub (lv1 := [(0, .ref (ad o)), (1, .ref (ad a1)), (2, .int 0)]) [1, 2, 0] rfl ?_
  exact wX5_takeOver_H7 X hr o a1 h_o h_a1 FU 0 M_1 h

end
theorem okX5_takeOver (l : Launch) {D : va_G} {cy : Nat → ClassId} {ad : Nat → Nat} (hD : ∀ M : Mem, va_D (AA ad iX) (wl cy ad iX M)) (o : Nat) (a1 : Nat) (h_o : kd o = 5) (h_a1 : kd a1 = 5) (M : Mem) (z : Mem) (h : fX5_takeOver o a1 M = some z) : CTV l yX5_takeOver (wsG yX5_takeOver cX5_takeOver 3 none) rm_X5_takeOver D cy ad iX [.ref (ad o), .ref (ad a1)] M z :=
  met_of (cc := cX5_takeOver) (maxL := 3) (ret := none) (own := RX5) (by decide) rfl rfl hD ndX (Nat.le_of_ble_eq_true rfl) (fun p e s m below meth c X hr => wX5_takeOver_E X hr o a1 h_o h_a1 M h)
abbrev QX2_clear (below : List Frame) (D : va_G) (cy : Nat → ClassId) (ad : Nat → Nat) (args : Array Value) (s : State) (z : Mem) : State → Prop := MQ below (va_Qv (fun u => u = z) (BB D cy ad iX) (AA ad iX)) args s 0 0 (AA ad iX)
section
variable {p : Program} {l : Launch} {e : Env} {s : State} {m : MethodId} {args : Array Value} {below : List Frame} {meth : Method} {c : Code} {D : va_G} {cy : Nat → ClassId} {ad : Nat → Nat} {z : Mem}
set_option maxHeartbeats 4000000 in
set_option maxRecDepth 100000 in
theorem wX2_clear_E (X : CX p s m args meth c D cy ad iX cX2_clear 1 (wsG yX2_clear cX2_clear 1 none) RX2) (hr : meth.sig.returnType = none) (M : Mem) (h : fX2_clear M = some z) : SW p l e rm_X2_clear s m args below meth c 0 0 (QX2_clear below D cy ad args s z) 1 (PH D cy ad iX s M) 0 [(0, .ref (ad 5))] [] := by
  have hx := X.1
  have hb := X.2.1
  unfold fX2_clear at h
  refine sw_aload_n hx hb dX2_clear_0 0 rfl rfl ?_
  refine sw_iconst hx hb 0 dX2_clear_1 (by decide) ?_
  refine sw_putI X tyX2 tyX2_ok nmX2 inG2 mi_5 (ce_2 (rfl : kd 5 = 2)) rfl 3 (by decide) (goodW wd21) rfl (by decide +kernel : parseFieldDescriptor _ = some .int) rfl rfl (Nat.le_of_ble_eq_true rfl) (pu_2_3 (rfl : kd 5 = 2) _) dX2_clear_2 h (fun M_1 h => ?_)
  refine sw_aload_n hx hb dX2_clear_5 0 rfl rfl ?_
  refine sw_iconst hx hb 0 dX2_clear_6 (by decide) ?_
  obtain ⟨hz, h⟩ := sz_ok h
  refine sw_putI X tyX2 tyX2_ok nmX2 inG2 mi_5 (ce_2 (rfl : kd 5 = 2)) rfl 4 (by decide) (goodW wd22) rfl (by decide +kernel : parseFieldDescriptor _ = some .boolean) (nar_z hz).1 (nar_z hz).2 (Nat.le_of_ble_eq_true rfl) (pu_2_4 (rfl : kd 5 = 2) _) dX2_clear_7 h (fun M_2 h => ?_)
  exact sw_Vret X hr dX2_clear_10 h

end
theorem okX2_clear (l : Launch) {D : va_G} {cy : Nat → ClassId} {ad : Nat → Nat} (hD : ∀ M : Mem, va_D (AA ad iX) (wl cy ad iX M)) (M : Mem) (z : Mem) (h : fX2_clear M = some z) : CTV l yX2_clear (wsG yX2_clear cX2_clear 1 none) rm_X2_clear D cy ad iX [.ref (ad 5)] M z :=
  met_of (cc := cX2_clear) (maxL := 1) (ret := none) (own := RX2) (by decide) rfl rfl hD ndX (Nat.le_of_ble_eq_true rfl) (fun p e s m below meth c X hr => wX2_clear_E X hr M h)
abbrev QX6_text (below : List Frame) (D : va_G) (cy : Nat → ClassId) (ad : Nat → Nat) (args : Array Value) (s : State) (z : Int32 × Mem) : State → Prop := MQ below (va_Qi (fun r u => r = z.1 ∧ u = z.2) (BB D cy ad iX) (AA ad iX)) args s 0 0 (AA ad iX)
section
variable {p : Program} {l : Launch} {e : Env} {s : State} {m : MethodId} {args : Array Value} {below : List Frame} {meth : Method} {c : Code} {D : va_G} {cy : Nat → ClassId} {ad : Nat → Nat} {z : Int32 × Mem}
set_option maxHeartbeats 4000000 in
set_option maxRecDepth 100000 in
theorem wX6_text_E (X : CX p s m args meth c D cy ad iX cX6_text 1 (wsG yX6_text cX6_text 1 (some .int)) RX6) (hr : meth.sig.returnType = (some .int)) (M : Mem) (h : fX6_text M = some z) : SW p l e rm_X6_text s m args below meth c 0 0 (QX6_text below D cy ad args s z) 1 (PH D cy ad iX s M) 0 [(0, .ref (ad 0))] [] := by
  have hx := X.1
  have hb := X.2.1
  unfold fX6_text at h
  refine sw_aload_n hx hb dX6_text_0 0 rfl rfl ?_
  refine sw_get X inG6 mi_0 (ce_6 (rfl : kd 0 = 6)) rfl 1 (by decide) (goodW wd23) rfl dX6_text_1 ?_
  refine sw_aload_n hx hb dX6_text_4 0 rfl rfl ?_
  refine sw_get X inG6 mi_0 (ce_6 (rfl : kd 0 = 6)) rfl 0 (by decide) (goodW wd2) rfl dX6_text_5 ?_
  refine sw_callVV (C := RX5) (As := [.ref (ad 1)]) (rest := []) X mi_3 (ce_5 (rfl : kd 3 = 5)) rfl rfl (fun _ hz => okX5_takeOver l X.2.2.2.2.2.2.1 3 1 (rfl : kd 3 = 5) (rfl : kd 1 = 5) M _ hz) (cwX6_59 X.2.2.2.2.1 ⟨Nat.le_of_ble_eq_true rfl, Nat.le_of_ble_eq_true rfl⟩)  rfl rfl (Nat.le_of_ble_eq_true rfl) dX6_text_8 ⟨Nat.le_of_ble_eq_true rfl, Nat.le_of_ble_eq_true rfl⟩ h (fun M_1 _ h => ?_)
  refine sw_aload_n hx hb dX6_text_11 0 rfl rfl ?_
  refine sw_get X inG6 mi_0 (ce_6 (rfl : kd 0 = 6)) rfl 2 (by decide) (goodW wd28) rfl dX6_text_12 ?_
  refine sw_callVV (C := RX2) (As := []) (rest := []) X mi_5 (ce_2 (rfl : kd 5 = 2)) rfl rfl (fun _ hz => okX2_clear l X.2.2.2.2.2.2.1 M_1 _ hz) (cwX6_63 X.2.2.2.2.1 ⟨Nat.le_of_ble_eq_true rfl, Nat.le_of_ble_eq_true rfl⟩)  rfl rfl (Nat.le_of_ble_eq_true rfl) dX6_text_15 ⟨Nat.le_of_ble_eq_true rfl, Nat.le_of_ble_eq_true rfl⟩ h (fun M_3 _ h => ?_)
  refine sw_aload_n hx hb dX6_text_18 0 rfl rfl ?_
  refine sw_get X inG6 mi_0 (ce_6 (rfl : kd 0 = 6)) rfl 1 (by decide) (goodW wd23) rfl dX6_text_19 ?_
  refine sw_callVI (C := RX5) (As := []) (rest := []) X mi_3 (ce_5 (rfl : kd 3 = 5)) rfl rfl (fun _ hz => okX5_size l X.2.2.2.2.2.2.1 3 (rfl : kd 3 = 5) M_3 _ hz) (cwX6_51 X.2.2.2.2.1 ⟨Nat.le_of_ble_eq_true rfl, Nat.le_of_ble_eq_true rfl⟩)  rfl rfl (Nat.le_of_ble_eq_true rfl) dX6_text_22 ⟨Nat.le_of_ble_eq_true rfl, Nat.le_of_ble_eq_true rfl⟩ h (fun v_6 M_5 _ h => ?_)
  exact sw_Iret X hr dX6_text_25 h

end
theorem okX6_text (l : Launch) {D : va_G} {cy : Nat → ClassId} {ad : Nat → Nat} (hD : ∀ M : Mem, va_D (AA ad iX) (wl cy ad iX M)) (M : Mem) (z : Int32 × Mem) (h : fX6_text M = some z) : CTI l yX6_text (wsG yX6_text cX6_text 1 (some .int)) rm_X6_text D cy ad iX [.ref (ad 0)] M z :=
  met_of (cc := cX6_text) (maxL := 1) (ret := (some .int)) (own := RX6) (by decide) rfl rfl hD ndX (Nat.le_of_ble_eq_true rfl) (fun p e s m below meth c X hr => wX6_text_E X hr M h)
abbrev QJ7_fill_d0a16 (below : List Frame) (D : va_G) (cy : Nat → ClassId) (ad : Nat → Nat) (args : Array Value) (s : State) (z : Mem) : State → Prop := MQ below (va_Qv (fun u => u = z) (BB D cy ad iX) (AA ad iX)) args s 0 0 (AA ad iX)
section
variable {p : Program} {l : Launch} {e : Env} {s : State} {m : MethodId} {args : Array Value} {below : List Frame} {meth : Method} {c : Code} {D : va_G} {cy : Nat → ClassId} {ad : Nat → Nat} {z : Mem}
set_option maxHeartbeats 4000000 in
set_option maxRecDepth 100000 in
theorem wJ7_fill_d0a16_H6 (X : CX p s m args meth c D cy ad iX cJ7_fill_d0a16 5 (wsG yJ7_fill_d0a16 cJ7_fill_d0a16 5 none) RJ7) (hr : meth.sig.returnType = none) (a0 : Nat) (h_a0 : kd a0 = 10) (m_a0 : a0 ∈ iX) : ∀ (n : Nat) (x1 : Int64) (x3 : Int32) (x4 : Int32) (M : Mem), fJ7_fill_d0a16_H6 a0 n x1 x3 x4 M = some z → SW p l e rm_J7_fill_d0a16 s m args below meth c 0 0 (QJ7_fill_d0a16 below D cy ad args s z) 5 (PH D cy ad iX s M) 6 [(0, .ref (ad a0)), (1, .long x1), (3, .int x3), (4, .int x4)] [] := by
  have hx := X.1
  have hb := X.2.1
  intro n
  induction n with
  | zero =>
    intro x1 x3 x4 M h
    have h : (none : Option (Mem)) = some z := h
    cases h
  | succ n ih =>
    intro x1 x3 x4 M h
    rw [fJ7_fill_d0a16_H6] at h
    refine sw_iload_n hx hb dJ7_fill_d0a16_6 2 rfl rfl ?_
    refine sw_iload hx hb dJ7_fill_d0a16_7 3 rfl ?_
    refine sw_icmp_ge hx hb 22 dJ7_fill_d0a16_9 (by decide) h (fun h => ?_) (fun h => ?_)
    · exact sw_Vret X hr dJ7_fill_d0a16_22 h
    · refine sw_aload_n hx hb dJ7_fill_d0a16_12 0 rfl rfl ?_
      refine sw_iload_n hx hb dJ7_fill_d0a16_13 2 rfl rfl ?_
      refine sw_lload_n hx hb dJ7_fill_d0a16_14 1 rfl rfl ?_
      refine sw_last X m_a0 h_a0 dJ7_fill_d0a16_15 h (fun M_2 h => ?_)
      refine sw_iincN hx hb (k := 2) (x3 + 1) (fun x3_3 => [(3, .int x3_3), (0, .ref (ad a0)), (1, .long x1), (4, .int x4)]) dJ7_fill_d0a16_16 rfl (by rfl) (by decide) (fun _ => rfl) h (fun x3_3 h => ?_)
      refine sw_goto hx hb 6 dJ7_fill_d0a16_19 (by decide) ?_
      refine sw_sub (lv1 := [(0, .ref (ad a0)), (1, .long x1), (3, .int x3_3), (4, .int x4)]) [1, 2, 0, 3] rfl ?_
      exact ih x1 x3_3 x4 M_2 h

set_option maxHeartbeats 4000000 in
set_option maxRecDepth 100000 in
theorem wJ7_fill_d0a16_E (X : CX p s m args meth c D cy ad iX cJ7_fill_d0a16 5 (wsG yJ7_fill_d0a16 cJ7_fill_d0a16 5 none) RJ7) (hr : meth.sig.returnType = none) (a0 : Nat) (h_a0 : kd a0 = 10) (m_a0 : a0 ∈ iX) (x1 : Int64) (M : Mem) (h : fJ7_fill_d0a16 a0 x1 M = some z) : SW p l e rm_J7_fill_d0a16 s m args below meth c 0 0 (QJ7_fill_d0a16 below D cy ad args s z) 5 (PH D cy ad iX s M) 0 [(0, .ref (ad a0)), (1, .long x1)] [] := by
  have hx := X.1
  have hb := X.2.1
  unfold fJ7_fill_d0a16 at h
  refine sw_iconst hx hb 0 dJ7_fill_d0a16_0 (by decide) ?_
  refine sw_istore_n hx hb [(3, .int 0), (0, .ref (ad a0)), (1, .long x1)] dJ7_fill_d0a16_1 rfl (by decide) rfl ?_
  refine sw_aload_n hx hb dJ7_fill_d0a16_2 1 rfl rfl ?_
  refine sw_alen X m_a0 h_a0 dJ7_fill_d0a16_3 ?_
  refine sw_istoreN hx hb (fun x4_1 => [(4, .int x4_1), (3, .int 0), (0, .ref (ad a0)), (1, .long x1)]) dJ7_fill_d0a16_4 (by decide) (fun _ => rfl) h (fun x4_1 h => ?_)
  refine sw_sub (lv1 := [(0, .ref (ad a0)), (1, .long x1), (3, .int 0), (4, .int x4_1)]) [2, 3, 1, 0] rfl ?_
  exact wJ7_fill_d0a16_H6 X hr a0 h_a0 m_a0 FU x1 0 x4_1 M h

end
theorem okJ7_fill_d0a16 (l : Launch) {D : va_G} {cy : Nat → ClassId} {ad : Nat → Nat} (hD : ∀ M : Mem, va_D (AA ad iX) (wl cy ad iX M)) (a0 : Nat) (x1 : Int64) (h_a0 : kd a0 = 10) (m_a0 : a0 ∈ iX) (M : Mem) (z : Mem) (h : fJ7_fill_d0a16 a0 x1 M = some z) : CTV l yJ7_fill_d0a16 (wsG yJ7_fill_d0a16 cJ7_fill_d0a16 5 none) rm_J7_fill_d0a16 D cy ad iX [.ref (ad a0), .long x1] M z :=
  met_of (cc := cJ7_fill_d0a16) (maxL := 5) (ret := none) (own := RJ7) (by decide) rfl rfl hD ndX (Nat.le_of_ble_eq_true rfl) (fun p e s m below meth c X hr => wJ7_fill_d0a16_E X hr a0 h_a0 m_a0 x1 M h)
abbrev QX0_clear (below : List Frame) (D : va_G) (cy : Nat → ClassId) (ad : Nat → Nat) (args : Array Value) (s : State) (z : Mem) : State → Prop := MQ below (va_Qv (fun u => u = z) (BB D cy ad iX) (AA ad iX)) args s 0 0 (AA ad iX)
section
variable {p : Program} {l : Launch} {e : Env} {s : State} {m : MethodId} {args : Array Value} {below : List Frame} {meth : Method} {c : Code} {D : va_G} {cy : Nat → ClassId} {ad : Nat → Nat} {z : Mem}
set_option maxHeartbeats 4000000 in
set_option maxRecDepth 100000 in
theorem wX0_clear_E (X : CX p s m args meth c D cy ad iX cX0_clear 1 (wsG yX0_clear cX0_clear 1 none) RX0) (hr : meth.sig.returnType = none) (o : Nat) (h_o : kd o = 0) (M : Mem) (h : fX0_clear o M = some z) : SW p l e rm_X0_clear s m args below meth c 0 0 (QX0_clear below D cy ad args s z) 1 (PH D cy ad iX s M) 0 [(0, .ref (ad o))] [] := by
  have hx := X.1
  have hb := X.2.1
  unfold fX0_clear at h
  refine sw_aload_n hx hb dX0_clear_0 0 rfl rfl ?_
  refine sw_get X inG0 (mm0 h_o) (ce_0 h_o) rfl 0 (by decide) (goodW wd34) rfl dX0_clear_1 ?_
  refine sw_lconst hx hb 0 dX0_clear_4 (by decide) ?_
  refine sw_callSV (As := [.ref (ad (o + 1)), .long 0]) (rest := []) X (fun _ hz => okJ7_fill_d0a16 l X.2.2.2.2.2.2.1 (o + 1) 0 (ka0 h_o) (ma0 h_o) M _ hz) (cwX0_29 X.2.2.2.2.1 ⟨Nat.le_of_ble_eq_true rfl, Nat.le_of_ble_eq_true rfl⟩)  rfl rfl (Nat.le_of_ble_eq_true rfl) dX0_clear_5 ⟨Nat.le_of_ble_eq_true rfl, Nat.le_of_ble_eq_true rfl⟩ h (fun M_1 _ h => ?_)
  refine sw_aload_n hx hb dX0_clear_8 0 rfl rfl ?_
  refine sw_get X inG0 (mm0 h_o) (ce_0 h_o) rfl 1 (by decide) (goodW wd39) rfl dX0_clear_9 ?_
  refine sw_lconst hx hb 0 dX0_clear_12 (by decide) ?_
  refine sw_callSV (As := [.ref (ad (o + 2)), .long 0]) (rest := []) X (fun _ hz => okJ7_fill_d0a16 l X.2.2.2.2.2.2.1 (o + 2) 0 (kb0 h_o) (mb0 h_o) M_1 _ hz) (cwX0_29 X.2.2.2.2.1 ⟨Nat.le_of_ble_eq_true rfl, Nat.le_of_ble_eq_true rfl⟩)  rfl rfl (Nat.le_of_ble_eq_true rfl) dX0_clear_13 ⟨Nat.le_of_ble_eq_true rfl, Nat.le_of_ble_eq_true rfl⟩ h (fun M_3 _ h => ?_)
  refine sw_aload_n hx hb dX0_clear_16 0 rfl rfl ?_
  refine sw_iconst hx hb 0 dX0_clear_17 (by decide) ?_
  refine sw_putI X tyX0 tyX0_ok nmX0 inG0 (mm0 h_o) (ce_0 h_o) rfl 2 (by decide) (goodW wd40) rfl (by decide +kernel : parseFieldDescriptor _ = some .int) rfl rfl (Nat.le_of_ble_eq_true rfl) (pu_0_2 h_o _) dX0_clear_18 h (fun M_5 h => ?_)
  refine sw_aload_n hx hb dX0_clear_21 0 rfl rfl ?_
  refine sw_lconst hx hb 0 dX0_clear_22 (by decide) ?_
  refine sw_putJ X tyX0 tyX0_ok nmX0 inG0 (mm0 h_o) (ce_0 h_o) rfl 3 (by decide) (goodW wd41) rfl (by decide +kernel : parseFieldDescriptor _ = some .long) rfl rfl (Nat.le_of_ble_eq_true rfl) (pu_0_3 h_o _) dX0_clear_23 h (fun M_6 h => ?_)
  refine sw_aload_n hx hb dX0_clear_26 0 rfl rfl ?_
  refine sw_lconst hx hb 0 dX0_clear_27 (by decide) ?_
  refine sw_putJ X tyX0 tyX0_ok nmX0 inG0 (mm0 h_o) (ce_0 h_o) rfl 4 (by decide) (goodW wd42) rfl (by decide +kernel : parseFieldDescriptor _ = some .long) rfl rfl (Nat.le_of_ble_eq_true rfl) (pu_0_4 h_o _) dX0_clear_28 h (fun M_7 h => ?_)
  exact sw_Vret X hr dX0_clear_31 h

end
theorem okX0_clear (l : Launch) {D : va_G} {cy : Nat → ClassId} {ad : Nat → Nat} (hD : ∀ M : Mem, va_D (AA ad iX) (wl cy ad iX M)) (o : Nat) (h_o : kd o = 0) (M : Mem) (z : Mem) (h : fX0_clear o M = some z) : CTV l yX0_clear (wsG yX0_clear cX0_clear 1 none) rm_X0_clear D cy ad iX [.ref (ad o)] M z :=
  met_of (cc := cX0_clear) (maxL := 1) (ret := none) (own := RX0) (by decide) rfl rfl hD ndX (Nat.le_of_ble_eq_true rfl) (fun p e s m below meth c X hr => wX0_clear_E X hr o h_o M h)
abbrev QX3_become (below : List Frame) (D : va_G) (cy : Nat → ClassId) (ad : Nat → Nat) (args : Array Value) (s : State) (z : Mem) : State → Prop := MQ below (va_Qv (fun u => u = z) (BB D cy ad iX) (AA ad iX)) args s 0 0 (AA ad iX)
section
variable {p : Program} {l : Launch} {e : Env} {s : State} {m : MethodId} {args : Array Value} {below : List Frame} {meth : Method} {c : Code} {D : va_G} {cy : Nat → ClassId} {ad : Nat → Nat} {z : Mem}
set_option maxHeartbeats 4000000 in
set_option maxRecDepth 100000 in
theorem wX3_become_E (X : CX p s m args meth c D cy ad iX cX3_become 4 (wsG yX3_become cX3_become 4 none) RX3) (hr : meth.sig.returnType = none) (o : Nat) (h_o : kd o = 3) (x1 : Int64) (x3 : Int32) (M : Mem) (h : fX3_become o x1 x3 M = some z) : SW p l e rm_X3_become s m args below meth c 0 0 (QX3_become below D cy ad args s z) 4 (PH D cy ad iX s M) 0 [(0, .ref (ad o)), (1, .long x1), (3, .int x3)] [] := by
  have hx := X.1
  have hb := X.2.1
  unfold fX3_become at h
  refine sw_aload_n hx hb dX3_become_0 0 rfl rfl ?_
  refine sw_lload_n hx hb dX3_become_1 1 rfl rfl ?_
  refine sw_putJ X tyX3 tyX3_ok nmX3 inG3 (mm3 h_o) (ce_3 h_o) rfl 0 (by decide) (goodW wd43) rfl (by decide +kernel : parseFieldDescriptor _ = some .long) rfl rfl (Nat.le_of_ble_eq_true rfl) (pu_3_0 h_o _) dX3_become_2 h (fun M_1 h => ?_)
  refine sw_aload_n hx hb dX3_become_5 0 rfl rfl ?_
  refine sw_lload_n hx hb dX3_become_6 1 rfl rfl ?_
  refine sw_putJ X tyX3 tyX3_ok nmX3 inG3 (mm3 h_o) (ce_3 h_o) rfl 1 (by decide) (goodW wd44) rfl (by decide +kernel : parseFieldDescriptor _ = some .long) rfl rfl (Nat.le_of_ble_eq_true rfl) (pu_3_1 h_o _) dX3_become_7 h (fun M_2 h => ?_)
  refine sw_aload_n hx hb dX3_become_10 0 rfl rfl ?_
  refine sw_iload_n hx hb dX3_become_11 2 rfl rfl ?_
  obtain ⟨hz, h⟩ := sz_ok h
  refine sw_putI X tyX3 tyX3_ok nmX3 inG3 (mm3 h_o) (ce_3 h_o) rfl 2 (by decide) (goodW wd45) rfl (by decide +kernel : parseFieldDescriptor _ = some .boolean) (nar_z hz).1 (nar_z hz).2 (Nat.le_of_ble_eq_true rfl) (pu_3_2 h_o _) dX3_become_12 h (fun M_3 h => ?_)
  exact sw_Vret X hr dX3_become_15 h

end
theorem okX3_become (l : Launch) {D : va_G} {cy : Nat → ClassId} {ad : Nat → Nat} (hD : ∀ M : Mem, va_D (AA ad iX) (wl cy ad iX M)) (o : Nat) (x1 : Int64) (x3 : Int32) (h_o : kd o = 3) (M : Mem) (z : Mem) (h : fX3_become o x1 x3 M = some z) : CTV l yX3_become (wsG yX3_become cX3_become 4 none) rm_X3_become D cy ad iX [.ref (ad o), .long x1, .int x3] M z :=
  met_of (cc := cX3_become) (maxL := 4) (ret := none) (own := RX3) (by decide) rfl rfl hD ndX (Nat.le_of_ble_eq_true rfl) (fun p e s m below meth c X hr => wX3_become_E X hr o h_o x1 x3 M h)
abbrev QX3_becomeNothing (below : List Frame) (D : va_G) (cy : Nat → ClassId) (ad : Nat → Nat) (args : Array Value) (s : State) (z : Mem) : State → Prop := MQ below (va_Qv (fun u => u = z) (BB D cy ad iX) (AA ad iX)) args s 0 0 (AA ad iX)
section
variable {p : Program} {l : Launch} {e : Env} {s : State} {m : MethodId} {args : Array Value} {below : List Frame} {meth : Method} {c : Code} {D : va_G} {cy : Nat → ClassId} {ad : Nat → Nat} {z : Mem}
set_option maxHeartbeats 4000000 in
set_option maxRecDepth 100000 in
theorem wX3_becomeNothing_E (X : CX p s m args meth c D cy ad iX cX3_becomeNothing 1 (wsG yX3_becomeNothing cX3_becomeNothing 1 none) RX3) (hr : meth.sig.returnType = none) (o : Nat) (h_o : kd o = 3) (M : Mem) (h : fX3_becomeNothing o M = some z) : SW p l e rm_X3_becomeNothing s m args below meth c 0 0 (QX3_becomeNothing below D cy ad args s z) 1 (PH D cy ad iX s M) 0 [(0, .ref (ad o))] [] := by
  have hx := X.1
  have hb := X.2.1
  unfold fX3_becomeNothing at h
  refine sw_aload_n hx hb dX3_becomeNothing_0 0 rfl rfl ?_
  refine sw_lconst hx hb 0 dX3_becomeNothing_1 (by decide) ?_
  refine sw_iconst hx hb 0 dX3_becomeNothing_2 (by decide) ?_
  refine sw_callVV (C := RX3) (As := [.long 0, .int 0]) (rest := []) X (mm3 h_o) (ce_3 h_o) rfl rfl (fun _ hz => okX3_become l X.2.2.2.2.2.2.1 o 0 0 h_o M _ hz) (cwX3_7 X.2.2.2.2.1 ⟨Nat.le_of_ble_eq_true rfl, Nat.le_of_ble_eq_true rfl⟩)  rfl rfl (Nat.le_of_ble_eq_true rfl) dX3_becomeNothing_3 ⟨Nat.le_of_ble_eq_true rfl, Nat.le_of_ble_eq_true rfl⟩ h (fun M_1 _ h => ?_)
  exact sw_Vret X hr dX3_becomeNothing_6 h

end
theorem okX3_becomeNothing (l : Launch) {D : va_G} {cy : Nat → ClassId} {ad : Nat → Nat} (hD : ∀ M : Mem, va_D (AA ad iX) (wl cy ad iX M)) (o : Nat) (h_o : kd o = 3) (M : Mem) (z : Mem) (h : fX3_becomeNothing o M = some z) : CTV l yX3_becomeNothing (wsG yX3_becomeNothing cX3_becomeNothing 1 none) rm_X3_becomeNothing D cy ad iX [.ref (ad o)] M z :=
  met_of (cc := cX3_becomeNothing) (maxL := 1) (ret := none) (own := RX3) (by decide) rfl rfl hD ndX (Nat.le_of_ble_eq_true rfl) (fun p e s m below meth c X hr => wX3_becomeNothing_E X hr o h_o M h)
abbrev QX3_becomeEmptyRow (below : List Frame) (D : va_G) (cy : Nat → ClassId) (ad : Nat → Nat) (args : Array Value) (s : State) (z : Mem) : State → Prop := MQ below (va_Qv (fun u => u = z) (BB D cy ad iX) (AA ad iX)) args s 0 0 (AA ad iX)
section
variable {p : Program} {l : Launch} {e : Env} {s : State} {m : MethodId} {args : Array Value} {below : List Frame} {meth : Method} {c : Code} {D : va_G} {cy : Nat → ClassId} {ad : Nat → Nat} {z : Mem}
set_option maxHeartbeats 4000000 in
set_option maxRecDepth 100000 in
theorem wX3_becomeEmptyRow_E (X : CX p s m args meth c D cy ad iX cX3_becomeEmptyRow 1 (wsG yX3_becomeEmptyRow cX3_becomeEmptyRow 1 none) RX3) (hr : meth.sig.returnType = none) (o : Nat) (h_o : kd o = 3) (M : Mem) (h : fX3_becomeEmptyRow o M = some z) : SW p l e rm_X3_becomeEmptyRow s m args below meth c 0 0 (QX3_becomeEmptyRow below D cy ad args s z) 1 (PH D cy ad iX s M) 0 [(0, .ref (ad o))] [] := by
  have hx := X.1
  have hb := X.2.1
  unfold fX3_becomeEmptyRow at h
  refine sw_aload_n hx hb dX3_becomeEmptyRow_0 0 rfl rfl ?_
  refine sw_lconst hx hb 0 dX3_becomeEmptyRow_1 (by decide) ?_
  refine sw_iconst hx hb 1 dX3_becomeEmptyRow_2 (by decide) ?_
  refine sw_callVV (C := RX3) (As := [.long 0, .int 1]) (rest := []) X (mm3 h_o) (ce_3 h_o) rfl rfl (fun _ hz => okX3_become l X.2.2.2.2.2.2.1 o 0 1 h_o M _ hz) (cwX3_7 X.2.2.2.2.1 ⟨Nat.le_of_ble_eq_true rfl, Nat.le_of_ble_eq_true rfl⟩)  rfl rfl (Nat.le_of_ble_eq_true rfl) dX3_becomeEmptyRow_3 ⟨Nat.le_of_ble_eq_true rfl, Nat.le_of_ble_eq_true rfl⟩ h (fun M_1 _ h => ?_)
  exact sw_Vret X hr dX3_becomeEmptyRow_6 h

end
theorem okX3_becomeEmptyRow (l : Launch) {D : va_G} {cy : Nat → ClassId} {ad : Nat → Nat} (hD : ∀ M : Mem, va_D (AA ad iX) (wl cy ad iX M)) (o : Nat) (h_o : kd o = 3) (M : Mem) (z : Mem) (h : fX3_becomeEmptyRow o M = some z) : CTV l yX3_becomeEmptyRow (wsG yX3_becomeEmptyRow cX3_becomeEmptyRow 1 none) rm_X3_becomeEmptyRow D cy ad iX [.ref (ad o)] M z :=
  met_of (cc := cX3_becomeEmptyRow) (maxL := 1) (ret := none) (own := RX3) (by decide) rfl rfl hD ndX (Nat.le_of_ble_eq_true rfl) (fun p e s m below meth c X hr => wX3_becomeEmptyRow_E X hr o h_o M h)
abbrev QX4_beginChoices (below : List Frame) (D : va_G) (cy : Nat → ClassId) (ad : Nat → Nat) (args : Array Value) (s : State) (z : Mem) : State → Prop := MQ below (va_Qv (fun u => u = z) (BB D cy ad iX) (AA ad iX)) args s 0 0 (AA ad iX)
section
variable {p : Program} {l : Launch} {e : Env} {s : State} {m : MethodId} {args : Array Value} {below : List Frame} {meth : Method} {c : Code} {D : va_G} {cy : Nat → ClassId} {ad : Nat → Nat} {z : Mem}
set_option maxHeartbeats 4000000 in
set_option maxRecDepth 100000 in
theorem wX4_beginChoices_E (X : CX p s m args meth c D cy ad iX cX4_beginChoices 1 (wsG yX4_beginChoices cX4_beginChoices 1 none) RX4) (hr : meth.sig.returnType = none) (M : Mem) (h : fX4_beginChoices M = some z) : SW p l e rm_X4_beginChoices s m args below meth c 0 0 (QX4_beginChoices below D cy ad args s z) 1 (PH D cy ad iX s M) 0 [(0, .ref (ad 17))] [] := by
  have hx := X.1
  have hb := X.2.1
  unfold fX4_beginChoices at h
  refine sw_aload_n hx hb dX4_beginChoices_0 0 rfl rfl ?_
  refine sw_get X inG4 mi_17 (ce_4 (rfl : kd 17 = 4)) rfl 1 (by decide) (goodW wd51) rfl dX4_beginChoices_1 ?_
  refine sw_aload_n hx hb dX4_beginChoices_4 0 rfl rfl ?_
  refine sw_get X inG4 mi_17 (ce_4 (rfl : kd 17 = 4)) rfl 5 (by decide) (goodW wd52) rfl dX4_beginChoices_5 ?_
  refine sw_aald X mi_20 (rfl : kd 20 = 12) dX4_beginChoices_8 h (fun pa_1 ha hb2 h => ?_)
  have h_pa_1 := kv20 ha hb2
  refine sw_callVV (C := RX3) (As := []) (rest := []) X (mm3 h_pa_1) (ce_3 h_pa_1) rfl rfl (fun _ hz => okX3_becomeNothing l X.2.2.2.2.2.2.1 pa_1 h_pa_1 M _ hz) (cwX4_95 X.2.2.2.2.1 ⟨Nat.le_of_ble_eq_true rfl, Nat.le_of_ble_eq_true rfl⟩)  rfl rfl (Nat.le_of_ble_eq_true rfl) dX4_beginChoices_9 ⟨Nat.le_of_ble_eq_true rfl, Nat.le_of_ble_eq_true rfl⟩ h (fun M_2 _ h => ?_)
  refine sw_aload_n hx hb dX4_beginChoices_12 0 rfl rfl ?_
  refine sw_get X inG4 mi_17 (ce_4 (rfl : kd 17 = 4)) rfl 2 (by decide) (goodW wd57) rfl dX4_beginChoices_13 ?_
  refine sw_aload_n hx hb dX4_beginChoices_16 0 rfl rfl ?_
  refine sw_get X inG4 mi_17 (ce_4 (rfl : kd 17 = 4)) rfl 5 (by decide) (goodW wd52) rfl dX4_beginChoices_17 ?_
  refine sw_aald X mi_30 (rfl : kd 30 = 12) dX4_beginChoices_20 h (fun pa_4 ha hb2 h => ?_)
  have h_pa_4 := kv30 ha hb2
  refine sw_callVV (C := RX3) (As := []) (rest := []) X (mm3 h_pa_4) (ce_3 h_pa_4) rfl rfl (fun _ hz => okX3_becomeEmptyRow l X.2.2.2.2.2.2.1 pa_4 h_pa_4 M_2 _ hz) (cwX4_98 X.2.2.2.2.1 ⟨Nat.le_of_ble_eq_true rfl, Nat.le_of_ble_eq_true rfl⟩)  rfl rfl (Nat.le_of_ble_eq_true rfl) dX4_beginChoices_21 ⟨Nat.le_of_ble_eq_true rfl, Nat.le_of_ble_eq_true rfl⟩ h (fun M_5 _ h => ?_)
  exact sw_Vret X hr dX4_beginChoices_24 h

end
theorem okX4_beginChoices (l : Launch) {D : va_G} {cy : Nat → ClassId} {ad : Nat → Nat} (hD : ∀ M : Mem, va_D (AA ad iX) (wl cy ad iX M)) (M : Mem) (z : Mem) (h : fX4_beginChoices M = some z) : CTV l yX4_beginChoices (wsG yX4_beginChoices cX4_beginChoices 1 none) rm_X4_beginChoices D cy ad iX [.ref (ad 17)] M z :=
  met_of (cc := cX4_beginChoices) (maxL := 1) (ret := none) (own := RX4) (by decide) rfl rfl hD ndX (Nat.le_of_ble_eq_true rfl) (fun p e s m below meth c X hr => wX4_beginChoices_E X hr M h)
abbrev QX4_begin (below : List Frame) (D : va_G) (cy : Nat → ClassId) (ad : Nat → Nat) (args : Array Value) (s : State) (z : Mem) : State → Prop := MQ below (va_Qv (fun u => u = z) (BB D cy ad iX) (AA ad iX)) args s 0 0 (AA ad iX)
section
variable {p : Program} {l : Launch} {e : Env} {s : State} {m : MethodId} {args : Array Value} {below : List Frame} {meth : Method} {c : Code} {D : va_G} {cy : Nat → ClassId} {ad : Nat → Nat} {z : Mem}
set_option maxHeartbeats 4000000 in
set_option maxRecDepth 100000 in
theorem wX4_begin_E (X : CX p s m args meth c D cy ad iX cX4_begin 2 (wsG yX4_begin cX4_begin 2 none) RX4) (hr : meth.sig.returnType = none) (a1 : Nat) (h_a1 : kd a1 = 5) (M : Mem) (h : fX4_begin a1 M = some z) : SW p l e rm_X4_begin s m args below meth c 0 0 (QX4_begin below D cy ad args s z) 2 (PH D cy ad iX s M) 0 [(0, .ref (ad 17)), (1, .ref (ad a1))] [] := by
  have hx := X.1
  have hb := X.2.1
  unfold fX4_begin at h
  refine sw_aload_n hx hb dX4_begin_0 0 rfl rfl ?_
  refine sw_get X inG4 mi_17 (ce_4 (rfl : kd 17 = 4)) rfl 0 (by decide) (goodW wd62) rfl dX4_begin_1 ?_
  refine sw_aload_n hx hb dX4_begin_4 1 rfl rfl ?_
  refine sw_callVV (C := RX5) (As := [.ref (ad a1)]) (rest := []) X mi_18 (ce_5 (rfl : kd 18 = 5)) rfl rfl (fun _ hz => okX5_takeOver l X.2.2.2.2.2.2.1 18 a1 (rfl : kd 18 = 5) h_a1 M _ hz) (cwX4_75 X.2.2.2.2.1 ⟨Nat.le_of_ble_eq_true rfl, Nat.le_of_ble_eq_true rfl⟩)  rfl rfl (Nat.le_of_ble_eq_true rfl) dX4_begin_5 ⟨Nat.le_of_ble_eq_true rfl, Nat.le_of_ble_eq_true rfl⟩ h (fun M_1 _ h => ?_)
  refine sw_aload_n hx hb dX4_begin_8 0 rfl rfl ?_
  refine sw_get X inG4 mi_17 (ce_4 (rfl : kd 17 = 4)) rfl 4 (by decide) (goodW wd64) rfl dX4_begin_9 ?_
  obtain ⟨h_ra_3, h⟩ := ga_ok h
  generalize gR M_1 17 4 = ra_3 at h h_ra_3 ⊢
  refine sw_callVV (C := RX0) (As := []) (rest := []) X (mm0 h_ra_3) (ce_0 h_ra_3) rfl rfl (fun _ hz => okX0_clear l X.2.2.2.2.2.2.1 ra_3 h_ra_3 M_1 _ hz) (cwX4_78 X.2.2.2.2.1 ⟨Nat.le_of_ble_eq_true rfl, Nat.le_of_ble_eq_true rfl⟩)  rfl rfl (Nat.le_of_ble_eq_true rfl) dX4_begin_12 ⟨Nat.le_of_ble_eq_true rfl, Nat.le_of_ble_eq_true rfl⟩ h (fun M_4 _ h => ?_)
  refine sw_aload_n hx hb dX4_begin_15 0 rfl rfl ?_
  refine sw_iconst hx hb 0 dX4_begin_16 (by decide) ?_
  refine sw_putI X tyX4 tyX4_ok nmX4 inG4 mi_17 (ce_4 (rfl : kd 17 = 4)) rfl 6 (by decide) (goodW wd70) rfl (by decide +kernel : parseFieldDescriptor _ = some .int) rfl rfl (Nat.le_of_ble_eq_true rfl) (pu_4_6 (rfl : kd 17 = 4) _) dX4_begin_17 h (fun M_6 h => ?_)
  refine sw_aload_n hx hb dX4_begin_20 0 rfl rfl ?_
  refine sw_iconst hx hb (-1) dX4_begin_21 (by decide) ?_
  refine sw_putI X tyX4 tyX4_ok nmX4 inG4 mi_17 (ce_4 (rfl : kd 17 = 4)) rfl 7 (by decide) (goodW wd71) rfl (by decide +kernel : parseFieldDescriptor _ = some .int) rfl rfl (Nat.le_of_ble_eq_true rfl) (pu_4_7 (rfl : kd 17 = 4) _) dX4_begin_22 h (fun M_7 h => ?_)
  refine sw_aload_n hx hb dX4_begin_25 0 rfl rfl ?_
  refine sw_iconst hx hb 0 dX4_begin_26 (by decide) ?_
  refine sw_putI X tyX4 tyX4_ok nmX4 inG4 mi_17 (ce_4 (rfl : kd 17 = 4)) rfl 5 (by decide) (goodW wd52) rfl (by decide +kernel : parseFieldDescriptor _ = some .int) rfl rfl (Nat.le_of_ble_eq_true rfl) (pu_4_5 (rfl : kd 17 = 4) _) dX4_begin_27 h (fun M_8 h => ?_)
  refine sw_aload_n hx hb dX4_begin_30 0 rfl rfl ?_
  refine sw_callVV (C := RX4) (As := []) (rest := []) X mi_17 (ce_4 (rfl : kd 17 = 4)) rfl rfl (fun _ hz => okX4_beginChoices l X.2.2.2.2.2.2.1 M_8 _ hz) (cwX4_81 X.2.2.2.2.1 ⟨Nat.le_of_ble_eq_true rfl, Nat.le_of_ble_eq_true rfl⟩)  rfl rfl (Nat.le_of_ble_eq_true rfl) dX4_begin_31 ⟨Nat.le_of_ble_eq_true rfl, Nat.le_of_ble_eq_true rfl⟩ h (fun M_9 _ h => ?_)
  exact sw_Vret X hr dX4_begin_34 h

end
theorem okX4_begin (l : Launch) {D : va_G} {cy : Nat → ClassId} {ad : Nat → Nat} (hD : ∀ M : Mem, va_D (AA ad iX) (wl cy ad iX M)) (a1 : Nat) (h_a1 : kd a1 = 5) (M : Mem) (z : Mem) (h : fX4_begin a1 M = some z) : CTV l yX4_begin (wsG yX4_begin cX4_begin 2 none) rm_X4_begin D cy ad iX [.ref (ad 17), .ref (ad a1)] M z :=
  met_of (cc := cX4_begin) (maxL := 2) (ret := none) (own := RX4) (by decide) rfl rfl hD ndX (Nat.le_of_ble_eq_true rfl) (fun p e s m below meth c X hr => wX4_begin_E X hr a1 h_a1 M h)
abbrev QX4_open (below : List Frame) (D : va_G) (cy : Nat → ClassId) (ad : Nat → Nat) (args : Array Value) (s : State) (z : Mem) : State → Prop := MQ below (va_Qv (fun u => u = z) (BB D cy ad iX) (AA ad iX)) args s 0 0 (AA ad iX)
section
variable {p : Program} {l : Launch} {e : Env} {s : State} {m : MethodId} {args : Array Value} {below : List Frame} {meth : Method} {c : Code} {D : va_G} {cy : Nat → ClassId} {ad : Nat → Nat} {z : Mem}
set_option maxHeartbeats 4000000 in
set_option maxRecDepth 100000 in
theorem wX4_open_E (X : CX p s m args meth c D cy ad iX cX4_open 1 (wsG yX4_open cX4_open 1 none) RX4) (hr : meth.sig.returnType = none) (M : Mem) (h : fX4_open M = some z) : SW p l e rm_X4_open s m args below meth c 0 0 (QX4_open below D cy ad args s z) 1 (PH D cy ad iX s M) 0 [(0, .ref (ad 17))] [] := by
  have hx := X.1
  have hb := X.2.1
  unfold fX4_open at h
  refine sw_aload_n hx hb dX4_open_0 0 rfl rfl ?_
  refine sw_get X inG4 mi_17 (ce_4 (rfl : kd 17 = 4)) rfl 5 (by decide) (goodW wd52) rfl dX4_open_1 ?_
  refine sw_bipush hx hb 8 dX4_open_4 (by decide) ?_
  refine sw_icmp_lt hx hb 18 dX4_open_6 (by decide) h (fun h => ?_) (fun h => ?_)
  · refine sw_aload_n hx hb dX4_open_18 0 rfl rfl ?_
    refine sw_dup hx hb dX4_open_19 rfl ?_
    refine sw_get X inG4 mi_17 (ce_4 (rfl : kd 17 = 4)) rfl 5 (by decide) (goodW wd52) rfl dX4_open_20 ?_
    refine sw_iconst hx hb 1 dX4_open_23 (by decide) ?_
    refine sw_iadd hx hb dX4_open_24 ?_
    refine sw_putI X tyX4 tyX4_ok nmX4 inG4 mi_17 (ce_4 (rfl : kd 17 = 4)) rfl 5 (by decide) (goodW wd52) rfl (by decide +kernel : parseFieldDescriptor _ = some .int) rfl rfl (Nat.le_of_ble_eq_true rfl) (pu_4_5 (rfl : kd 17 = 4) _) dX4_open_25 h (fun M_1 h => ?_)
    refine sw_aload_n hx hb dX4_open_28 0 rfl rfl ?_
    refine sw_dup hx hb dX4_open_29 rfl ?_
    refine sw_get X inG4 mi_17 (ce_4 (rfl : kd 17 = 4)) rfl 6 (by decide) (goodW wd70) rfl dX4_open_30 ?_
    refine sw_iconst hx hb 1 dX4_open_33 (by decide) ?_
    refine sw_iadd hx hb dX4_open_34 ?_
    refine sw_putI X tyX4 tyX4_ok nmX4 inG4 mi_17 (ce_4 (rfl : kd 17 = 4)) rfl 6 (by decide) (goodW wd70) rfl (by decide +kernel : parseFieldDescriptor _ = some .int) rfl rfl (Nat.le_of_ble_eq_true rfl) (pu_4_6 (rfl : kd 17 = 4) _) dX4_open_35 h (fun M_2 h => ?_)
    refine sw_aload_n hx hb dX4_open_38 0 rfl rfl ?_
    refine sw_callVV (C := RX4) (As := []) (rest := []) X mi_17 (ce_4 (rfl : kd 17 = 4)) rfl rfl (fun _ hz => okX4_beginChoices l X.2.2.2.2.2.2.1 M_2 _ hz) (cwX4_81 X.2.2.2.2.1 ⟨Nat.le_of_ble_eq_true rfl, Nat.le_of_ble_eq_true rfl⟩)  rfl rfl (Nat.le_of_ble_eq_true rfl) dX4_open_39 ⟨Nat.le_of_ble_eq_true rfl, Nat.le_of_ble_eq_true rfl⟩ h (fun M_3 _ h => ?_)
    exact sw_Vret X hr dX4_open_42 h
  · refine sw_aload_n hx hb dX4_open_9 0 rfl rfl ?_
    refine sw_aload_n hx hb dX4_open_10 0 rfl rfl ?_
    refine sw_get X inG4 mi_17 (ce_4 (rfl : kd 17 = 4)) rfl 6 (by decide) (goodW wd70) rfl dX4_open_11 ?_
    refine sw_putI X tyX4 tyX4_ok nmX4 inG4 mi_17 (ce_4 (rfl : kd 17 = 4)) rfl 7 (by decide) (goodW wd71) rfl (by decide +kernel : parseFieldDescriptor _ = some .int) rfl rfl (Nat.le_of_ble_eq_true rfl) (pu_4_7 (rfl : kd 17 = 4) _) dX4_open_14 h (fun M_5 h => ?_)
    exact sw_Vret X hr dX4_open_17 h

end
theorem okX4_open (l : Launch) {D : va_G} {cy : Nat → ClassId} {ad : Nat → Nat} (hD : ∀ M : Mem, va_D (AA ad iX) (wl cy ad iX M)) (M : Mem) (z : Mem) (h : fX4_open M = some z) : CTV l yX4_open (wsG yX4_open cX4_open 1 none) rm_X4_open D cy ad iX [.ref (ad 17)] M z :=
  met_of (cc := cX4_open) (maxL := 1) (ret := none) (own := RX4) (by decide) rfl rfl hD ndX (Nat.le_of_ble_eq_true rfl) (fun p e s m below meth c X hr => wX4_open_E X hr M h)
abbrev QX3_addChoice (below : List Frame) (D : va_G) (cy : Nat → ClassId) (ad : Nat → Nat) (args : Array Value) (s : State) (z : Mem) : State → Prop := MQ below (va_Qv (fun u => u = z) (BB D cy ad iX) (AA ad iX)) args s 0 0 (AA ad iX)
section
variable {p : Program} {l : Launch} {e : Env} {s : State} {m : MethodId} {args : Array Value} {below : List Frame} {meth : Method} {c : Code} {D : va_G} {cy : Nat → ClassId} {ad : Nat → Nat} {z : Mem}
set_option maxHeartbeats 4000000 in
set_option maxRecDepth 100000 in
theorem wX3_addChoice_L46 (X : CX p s m args meth c D cy ad iX cX3_addChoice 2 (wsG yX3_addChoice cX3_addChoice 2 none) RX3) (hr : meth.sig.returnType = none) (o : Nat) (a1 : Nat) (h_o : kd o = 3) (h_a1 : kd a1 = 3) (y0 : Int32) (M : Mem) (h : fX3_addChoice_L46 o a1 y0 M = some z) : SW p l e rm_X3_addChoice s m args below meth c 0 0 (QX3_addChoice below D cy ad args s z) 2 (PH D cy ad iX s M) 46 [] [.int y0, .ref (ad o)] := by
  have hx := X.1
  have hb := X.2.1
  unfold fX3_addChoice_L46 at h
  obtain ⟨hz, h⟩ := sz_ok h
  refine sw_putI X tyX3 tyX3_ok nmX3 inG3 (mm3 h_o) (ce_3 h_o) rfl 2 (by decide) (goodW wd45) rfl (by decide +kernel : parseFieldDescriptor _ = some .boolean) (nar_z hz).1 (nar_z hz).2 (Nat.le_of_ble_eq_true rfl) (pu_3_2 h_o _) dX3_addChoice_46 h (fun M_3 h => ?_)
  exact sw_Vret X hr dX3_addChoice_49 h

set_option maxHeartbeats 4000000 in
set_option maxRecDepth 100000 in
theorem wX3_addChoice_L41 (X : CX p s m args meth c D cy ad iX cX3_addChoice 2 (wsG yX3_addChoice cX3_addChoice 2 none) RX3) (hr : meth.sig.returnType = none) (o : Nat) (a1 : Nat) (h_o : kd o = 3) (h_a1 : kd a1 = 3) (M : Mem) (h : fX3_addChoice_L41 o a1 M = some z) : SW p l e rm_X3_addChoice s m args below meth c 0 0 (QX3_addChoice below D cy ad args s z) 2 (PH D cy ad iX s M) 41 [] [.ref (ad o)] := by
  have hx := X.1
  have hb := X.2.1
  unfold fX3_addChoice_L41 at h
  refine sw_iconst hx hb 1 dX3_addChoice_41 (by decide) ?_
  refine sw_goto hx hb 46 dX3_addChoice_42 (by decide) ?_
  refine sw_sub (lv1 := []) [] rfl ?_
  exact wX3_addChoice_L46 X hr o a1 h_o h_a1 1 M h

set_option maxHeartbeats 4000000 in
set_option maxRecDepth 100000 in
theorem wX3_addChoice_E (X : CX p s m args meth c D cy ad iX cX3_addChoice 2 (wsG yX3_addChoice cX3_addChoice 2 none) RX3) (hr : meth.sig.returnType = none) (o : Nat) (a1 : Nat) (h_o : kd o = 3) (h_a1 : kd a1 = 3) (M : Mem) (h : fX3_addChoice o a1 M = some z) : SW p l e rm_X3_addChoice s m args below meth c 0 0 (QX3_addChoice below D cy ad args s z) 2 (PH D cy ad iX s M) 0 [(0, .ref (ad o)), (1, .ref (ad a1))] [] := by
  have hx := X.1
  have hb := X.2.1
  unfold fX3_addChoice at h
  refine sw_aload_n hx hb dX3_addChoice_0 0 rfl rfl ?_
  refine sw_dup hx hb dX3_addChoice_1 rfl ?_
  refine sw_get X inG3 (mm3 h_o) (ce_3 h_o) rfl 0 (by decide) (goodW wd43) rfl dX3_addChoice_2 ?_
  refine sw_aload_n hx hb dX3_addChoice_5 1 rfl rfl ?_
  refine sw_get X inG3 (mm3 h_a1) (ce_3 h_a1) rfl 0 (by decide) (goodW wd43) rfl dX3_addChoice_6 ?_
  refine sw_lor hx hb dX3_addChoice_9 ?_
  refine sw_putJ X tyX3 tyX3_ok nmX3 inG3 (mm3 h_o) (ce_3 h_o) rfl 0 (by decide) (goodW wd43) rfl (by decide +kernel : parseFieldDescriptor _ = some .long) rfl rfl (Nat.le_of_ble_eq_true rfl) (pu_3_0 h_o _) dX3_addChoice_10 h (fun M_1 h => ?_)
  refine sw_aload_n hx hb dX3_addChoice_13 0 rfl rfl ?_
  refine sw_dup hx hb dX3_addChoice_14 rfl ?_
  refine sw_get X inG3 (mm3 h_o) (ce_3 h_o) rfl 1 (by decide) (goodW wd44) rfl dX3_addChoice_15 ?_
  refine sw_aload_n hx hb dX3_addChoice_18 1 rfl rfl ?_
  refine sw_get X inG3 (mm3 h_a1) (ce_3 h_a1) rfl 1 (by decide) (goodW wd44) rfl dX3_addChoice_19 ?_
  refine sw_lor hx hb dX3_addChoice_22 ?_
  refine sw_putJ X tyX3 tyX3_ok nmX3 inG3 (mm3 h_o) (ce_3 h_o) rfl 1 (by decide) (goodW wd44) rfl (by decide +kernel : parseFieldDescriptor _ = some .long) rfl rfl (Nat.le_of_ble_eq_true rfl) (pu_3_1 h_o _) dX3_addChoice_23 h (fun M_2 h => ?_)
  refine sw_aload_n hx hb dX3_addChoice_26 0 rfl rfl ?_
  refine sw_aload_n hx hb dX3_addChoice_27 0 rfl rfl ?_
  refine sw_get X inG3 (mm3 h_o) (ce_3 h_o) rfl 2 (by decide) (goodW wd45) rfl dX3_addChoice_28 ?_
  refine sw_if_ne hx hb 41 dX3_addChoice_31 (by decide) h (fun h => ?_) (fun h => ?_)
  · refine sw_sub (lv1 := []) [] rfl ?_
    exact wX3_addChoice_L41 X hr o a1 h_o h_a1 M_2 h
  · refine sw_aload_n hx hb dX3_addChoice_34 1 rfl rfl ?_
    refine sw_get X inG3 (mm3 h_a1) (ce_3 h_a1) rfl 2 (by decide) (goodW wd45) rfl dX3_addChoice_35 ?_
    refine sw_if_eq hx hb 45 dX3_addChoice_38 (by decide) h (fun h => ?_) (fun h => ?_)
    · refine sw_iconst hx hb 0 dX3_addChoice_45 (by decide) ?_
      refine sw_sub (lv1 := []) [] rfl ?_
      exact wX3_addChoice_L46 X hr o a1 h_o h_a1 0 M_2 h
    · refine sw_sub (lv1 := []) [] rfl ?_
      exact wX3_addChoice_L41 X hr o a1 h_o h_a1 M_2 h

end
theorem okX3_addChoice (l : Launch) {D : va_G} {cy : Nat → ClassId} {ad : Nat → Nat} (hD : ∀ M : Mem, va_D (AA ad iX) (wl cy ad iX M)) (o : Nat) (a1 : Nat) (h_o : kd o = 3) (h_a1 : kd a1 = 3) (M : Mem) (z : Mem) (h : fX3_addChoice o a1 M = some z) : CTV l yX3_addChoice (wsG yX3_addChoice cX3_addChoice 2 none) rm_X3_addChoice D cy ad iX [.ref (ad o), .ref (ad a1)] M z :=
  met_of (cc := cX3_addChoice) (maxL := 2) (ret := none) (own := RX3) (by decide) rfl rfl hD ndX (Nat.le_of_ble_eq_true rfl) (fun p e s m below meth c X hr => wX3_addChoice_E X hr o a1 h_o h_a1 M h)
abbrev QX4_endRow (below : List Frame) (D : va_G) (cy : Nat → ClassId) (ad : Nat → Nat) (args : Array Value) (s : State) (z : Mem) : State → Prop := MQ below (va_Qv (fun u => u = z) (BB D cy ad iX) (AA ad iX)) args s 0 0 (AA ad iX)
section
variable {p : Program} {l : Launch} {e : Env} {s : State} {m : MethodId} {args : Array Value} {below : List Frame} {meth : Method} {c : Code} {D : va_G} {cy : Nat → ClassId} {ad : Nat → Nat} {z : Mem}
set_option maxHeartbeats 4000000 in
set_option maxRecDepth 100000 in
theorem wX4_endRow_E (X : CX p s m args meth c D cy ad iX cX4_endRow 1 (wsG yX4_endRow cX4_endRow 1 none) RX4) (hr : meth.sig.returnType = none) (M : Mem) (h : fX4_endRow M = some z) : SW p l e rm_X4_endRow s m args below meth c 0 0 (QX4_endRow below D cy ad args s z) 1 (PH D cy ad iX s M) 0 [(0, .ref (ad 17))] [] := by
  have hx := X.1
  have hb := X.2.1
  unfold fX4_endRow at h
  refine sw_aload_n hx hb dX4_endRow_0 0 rfl rfl ?_
  refine sw_get X inG4 mi_17 (ce_4 (rfl : kd 17 = 4)) rfl 1 (by decide) (goodW wd51) rfl dX4_endRow_1 ?_
  refine sw_aload_n hx hb dX4_endRow_4 0 rfl rfl ?_
  refine sw_get X inG4 mi_17 (ce_4 (rfl : kd 17 = 4)) rfl 5 (by decide) (goodW wd52) rfl dX4_endRow_5 ?_
  refine sw_aald X mi_20 (rfl : kd 20 = 12) dX4_endRow_8 h (fun pa_1 ha hb2 h => ?_)
  have h_pa_1 := kv20 ha hb2
  refine sw_aload_n hx hb dX4_endRow_9 0 rfl rfl ?_
  refine sw_get X inG4 mi_17 (ce_4 (rfl : kd 17 = 4)) rfl 2 (by decide) (goodW wd57) rfl dX4_endRow_10 ?_
  refine sw_aload_n hx hb dX4_endRow_13 0 rfl rfl ?_
  refine sw_get X inG4 mi_17 (ce_4 (rfl : kd 17 = 4)) rfl 5 (by decide) (goodW wd52) rfl dX4_endRow_14 ?_
  refine sw_aald X mi_30 (rfl : kd 30 = 12) dX4_endRow_17 h (fun pa_2 ha hb2 h => ?_)
  have h_pa_2 := kv30 ha hb2
  refine sw_callVV (C := RX3) (As := [.ref (ad pa_2)]) (rest := []) X (mm3 h_pa_1) (ce_3 h_pa_1) rfl rfl (fun _ hz => okX3_addChoice l X.2.2.2.2.2.2.1 pa_1 pa_2 h_pa_1 h_pa_2 M _ hz) (cwX4_101 X.2.2.2.2.1 ⟨Nat.le_of_ble_eq_true rfl, Nat.le_of_ble_eq_true rfl⟩)  rfl rfl (Nat.le_of_ble_eq_true rfl) dX4_endRow_18 ⟨Nat.le_of_ble_eq_true rfl, Nat.le_of_ble_eq_true rfl⟩ h (fun M_3 _ h => ?_)
  refine sw_aload_n hx hb dX4_endRow_21 0 rfl rfl ?_
  refine sw_get X inG4 mi_17 (ce_4 (rfl : kd 17 = 4)) rfl 2 (by decide) (goodW wd57) rfl dX4_endRow_22 ?_
  refine sw_aload_n hx hb dX4_endRow_25 0 rfl rfl ?_
  refine sw_get X inG4 mi_17 (ce_4 (rfl : kd 17 = 4)) rfl 5 (by decide) (goodW wd52) rfl dX4_endRow_26 ?_
  refine sw_aald X mi_30 (rfl : kd 30 = 12) dX4_endRow_29 h (fun pa_5 ha hb2 h => ?_)
  have h_pa_5 := kv30 ha hb2
  refine sw_callVV (C := RX3) (As := []) (rest := []) X (mm3 h_pa_5) (ce_3 h_pa_5) rfl rfl (fun _ hz => okX3_becomeEmptyRow l X.2.2.2.2.2.2.1 pa_5 h_pa_5 M_3 _ hz) (cwX4_98 X.2.2.2.2.1 ⟨Nat.le_of_ble_eq_true rfl, Nat.le_of_ble_eq_true rfl⟩)  rfl rfl (Nat.le_of_ble_eq_true rfl) dX4_endRow_30 ⟨Nat.le_of_ble_eq_true rfl, Nat.le_of_ble_eq_true rfl⟩ h (fun M_6 _ h => ?_)
  exact sw_Vret X hr dX4_endRow_33 h

end
theorem okX4_endRow (l : Launch) {D : va_G} {cy : Nat → ClassId} {ad : Nat → Nat} (hD : ∀ M : Mem, va_D (AA ad iX) (wl cy ad iX M)) (M : Mem) (z : Mem) (h : fX4_endRow M = some z) : CTV l yX4_endRow (wsG yX4_endRow cX4_endRow 1 none) rm_X4_endRow D cy ad iX [.ref (ad 17)] M z :=
  met_of (cc := cX4_endRow) (maxL := 1) (ret := none) (own := RX4) (by decide) rfl rfl hD ndX (Nat.le_of_ble_eq_true rfl) (fun p e s m below meth c X hr => wX4_endRow_E X hr M h)
