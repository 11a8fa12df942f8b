abbrev QX7_isOther (below : List Frame) (D : va_G) (cy : Nat → ClassId) (ad : Nat → Nat) (args : Array Value) (s : State) (z : Int32 × Mem) : State → Prop := MQ below (va_Qi (fun r u => r = z.1 ∧ u = z.2) (BB D cy ad iY) (AA ad iY)) args s 0 0 (AA ad iY)
section
variable {p : Program} {l : Launch} {e : Env} {s : State} {m : MethodId} {args : Array Value} {below : List Frame} {meth : Method} {c : Code} {D : va_G} {cy : Nat → ClassId} {ad : Nat → Nat} {z : Int32 × Mem}
set_option maxHeartbeats 4000000 in
set_option maxRecDepth 100000 in
theorem wX7_isOther_E (X : CX p s m args meth c D cy ad iY cX7_isOther 1 (wsG yX7_isOther cX7_isOther 1 (some .boolean)) RX7) (hr : meth.sig.returnType = (some .boolean)) (x0 : Int32) (M : Mem) (h : fX7_isOther x0 M = some z) : SW p l e rm_X7_isOther s m args below meth c 0 0 (QX7_isOther below D cy ad args s z) 1 (PH D cy ad iY s M) 0 [(0, .int x0)] [] := by
  have hx := X.1
  have hb := X.2.1
  unfold fX7_isOther at h
  refine sw_iload_n hx hb dX7_isOther_0 0 rfl rfl ?_
  refine sw_callSI (As := [.int x0]) (rest := []) X (fun _ hz => okX7_isLetter l X.2.2.2.2.2.2.1 x0 M _ hz) (cwX7_89 X.2.2.2.2.1 ⟨Nat.le_of_ble_eq_true rfl, Nat.le_of_ble_eq_true rfl⟩)  rfl rfl (Nat.le_of_ble_eq_true rfl) dX7_isOther_1 ⟨Nat.le_of_ble_eq_true rfl, Nat.le_of_ble_eq_true rfl⟩ h (fun v_2 M_1 _ h => ?_)
  refine sw_if_ne hx hb 25 dX7_isOther_4 (by decide) h (fun h => ?_) (fun h => ?_)
  · refine sw_iconst hx hb 0 dX7_isOther_25 (by decide) ?_
    exact sw_Zret X hr dX7_isOther_26 h
  · refine sw_iload_n hx hb dX7_isOther_7 0 rfl rfl ?_
    refine sw_callSI (As := [.int x0]) (rest := []) X (fun _ hz => okX7_isFigure l X.2.2.2.2.2.2.1 x0 M_1 _ hz) (cwX7_93 X.2.2.2.2.1 ⟨Nat.le_of_ble_eq_true rfl, Nat.le_of_ble_eq_true rfl⟩)  rfl rfl (Nat.le_of_ble_eq_true rfl) dX7_isOther_8 ⟨Nat.le_of_ble_eq_true rfl, Nat.le_of_ble_eq_true rfl⟩ h (fun v_4 M_3 _ h => ?_)
    refine sw_if_ne hx hb 25 dX7_isOther_11 (by decide) h (fun h => ?_) (fun h => ?_)
    · refine sw_iconst hx hb 0 dX7_isOther_25 (by decide) ?_
      exact sw_Zret X hr dX7_isOther_26 h
    · refine sw_iload_n hx hb dX7_isOther_14 0 rfl rfl ?_
      refine sw_callSI (As := [.int x0]) (rest := []) X (fun _ hz => okX7_isBlank l X.2.2.2.2.2.2.1 x0 M_3 _ hz) (cwX7_96 X.2.2.2.2.1 ⟨Nat.le_of_ble_eq_true rfl, Nat.le_of_ble_eq_true rfl⟩)  rfl rfl (Nat.le_of_ble_eq_true rfl) dX7_isOther_15 ⟨Nat.le_of_ble_eq_true rfl, Nat.le_of_ble_eq_true rfl⟩ h (fun v_6 M_5 _ h => ?_)
      refine sw_if_ne hx hb 25 dX7_isOther_18 (by decide) h (fun h => ?_) (fun h => ?_)
      · refine sw_iconst hx hb 0 dX7_isOther_25 (by decide) ?_
        exact sw_Zret X hr dX7_isOther_26 h
      · refine sw_iconst hx hb 1 dX7_isOther_21 (by decide) ?_
        refine sw_goto hx hb 26 dX7_isOther_22 (by decide) ?_
        exact sw_Zret X hr dX7_isOther_26 h

end
theorem okX7_isOther (l : Launch) {D : va_G} {cy : Nat → ClassId} {ad : Nat → Nat} (hD : ∀ M : Mem, va_D (AA ad iY) (wl cy ad iY M)) (x0 : Int32) (M : Mem) (z : Int32 × Mem) (h : fX7_isOther x0 M = some z) : CTI l yX7_isOther (wsG yX7_isOther cX7_isOther 1 (some .boolean)) rm_X7_isOther D cy ad iY [.int x0] M z :=
  met_of (cc := cX7_isOther) (maxL := 1) (ret := (some .boolean)) (own := RX7) (by decide) rfl rfl hD ndY (Nat.le_of_ble_eq_true rfl) (fun p e s m below meth c X hr => wX7_isOther_E X hr x0 M h)
abbrev QX7_feed (below : List Frame) (D : va_G) (cy : Nat → ClassId) (ad : Nat → Nat) (args : Array Value) (s : State) (z : Int32 × Mem) : State → Prop := MQ below (va_Qi (fun r u => r = z.1 ∧ u = z.2) (BB D cy ad iY) (AA ad iY)) args s 0 0 (AA ad iY)
section
variable {p : Program} {l : Launch} {e : Env} {s : State} {m : MethodId} {args : Array Value} {below : List Frame} {meth : Method} {c : Code} {D : va_G} {cy : Nat → ClassId} {ad : Nat → Nat} {z : Int32 × Mem}
set_option maxHeartbeats 4000000 in
set_option maxRecDepth 100000 in
theorem wX7_feed_H30 (X : CX p s m args meth c D cy ad iY cX7_feed 5 (wsG yX7_feed cX7_feed 5 (some .int)) RX7) (hr : meth.sig.returnType = (some .int)) : ∀ (n : Nat) (x1 : Int32) (x2 : Int64) (x4 : Int32) (M : Mem), fX7_feed_H30 n x1 x2 x4 M = some z → SW p l e rm_X7_feed s m args below meth c 0 0 (QX7_feed below D cy ad args s z) 5 (PH D cy ad iY s M) 30 [(0, .ref (ad 50)), (1, .int x1), (2, .long x2), (4, .int x4)] [] := by
  have hx := X.1
  have hb := X.2.1
  intro n
  induction n with
  | zero =>
    intro x1 x2 x4 M h
    have h : (none : Option (Int32 × Mem)) = some z := h
    cases h
  | succ n ih =>
    intro x1 x2 x4 M h
    rw [fX7_feed_H30] at h
    refine sw_iload hx hb dX7_feed_30 3 rfl ?_
    refine sw_iload_n hx hb dX7_feed_32 1 rfl rfl ?_
    refine sw_icmp_ge hx hb 73 dX7_feed_33 (by decide) h (fun h => ?_) (fun h => ?_)
    · refine sw_aload_n hx hb dX7_feed_73 0 rfl rfl ?_
      refine sw_get X inG7 mi_50 (ce_7 (rfl : kd 50 = 7)) rfl 1 (by decide) (goodW wd405) rfl dX7_feed_74 ?_
      exact sw_Iret X hr dX7_feed_77 h
    · refine sw_aload_n hx hb dX7_feed_36 0 rfl rfl ?_
      refine sw_get X inG7 mi_50 (ce_7 (rfl : kd 50 = 7)) rfl 0 (by decide) (goodW wd406) rfl dX7_feed_37 ?_
      refine sw_aload_n hx hb dX7_feed_40 0 rfl rfl ?_
      refine sw_get X inG7 mi_50 (ce_7 (rfl : kd 50 = 7)) rfl 1 (by decide) (goodW wd405) rfl dX7_feed_41 ?_
      refine sw_lload_n hx hb dX7_feed_44 2 rfl rfl ?_
      refine sw_bipush hx hb 8 dX7_feed_45 (by decide) ?_
      refine sw_iload hx hb dX7_feed_47 3 rfl ?_
      refine sw_imul hx hb dX7_feed_49 ?_
      refine sw_lshr hx hb dX7_feed_50 ?_
      refine sw_l2i hx hb dX7_feed_51 ?_
      refine sw_sipush hx hb 255 dX7_feed_52 (by decide) ?_
      refine sw_iand hx hb dX7_feed_55 ?_
      refine sw_iast X mi_51 (rfl : kd 51 = 9) dX7_feed_56 h (fun M_3 h => ?_)
      refine sw_aload_n hx hb dX7_feed_57 0 rfl rfl ?_
      refine sw_dup hx hb dX7_feed_58 rfl ?_
      refine sw_get X inG7 mi_50 (ce_7 (rfl : kd 50 = 7)) rfl 1 (by decide) (goodW wd405) rfl dX7_feed_59 ?_
      refine sw_iconst hx hb 1 dX7_feed_62 (by decide) ?_
      refine sw_iadd hx hb dX7_feed_63 ?_
      refine sw_putI X tyX7 tyX7_ok nmX7 inG7 mi_50 (ce_7 (rfl : kd 50 = 7)) rfl 1 (by decide) (goodW wd405) rfl (by decide +kernel : parseFieldDescriptor _ = some .int) rfl rfl (Nat.le_of_ble_eq_true rfl) (pu_7_1 (rfl : kd 50 = 7) _) dX7_feed_64 h (fun M_4 h => ?_)
      refine sw_iincN hx hb (k := 3) (x4 + 1) (fun x4_5 => [(4, .int x4_5), (0, .ref (ad 50)), (1, .int x1), (2, .long x2)]) dX7_feed_67 rfl (by rfl) (by decide) (fun _ => rfl) h (fun x4_5 h => ?_)
      refine sw_goto hx hb 30 dX7_feed_70 (by decide) ?_
      refine sw_sub (lv1 := [(0, .ref (ad 50)), (1, .int x1), (2, .long x2), (4, .int x4_5)]) [1, 2, 3, 0] rfl ?_
      exact ih x1 x2 x4_5 M_4 h

set_option maxHeartbeats 4000000 in
set_option maxRecDepth 100000 in
theorem wX7_feed_E (X : CX p s m args meth c D cy ad iY cX7_feed 5 (wsG yX7_feed cX7_feed 5 (some .int)) RX7) (hr : meth.sig.returnType = (some .int)) (x1 : Int32) (x2 : Int64) (M : Mem) (h : fX7_feed x1 x2 M = some z) : SW p l e rm_X7_feed s m args below meth c 0 0 (QX7_feed below D cy ad args s z) 5 (PH D cy ad iY s M) 0 [(0, .ref (ad 50)), (1, .int x1), (2, .long x2)] [] := by
  have hx := X.1
  have hb := X.2.1
  unfold fX7_feed at h
  refine sw_iload_n hx hb dX7_feed_0 1 rfl rfl ?_
  refine sw_iconst hx hb 1 dX7_feed_1 (by decide) ?_
  refine sw_bipush hx hb 8 dX7_feed_2 (by decide) ?_
  refine sw_callSI (As := [.int x1, .int 1, .int 8]) (rest := []) X (fun _ hz => okX7_isIn l X.2.2.2.2.2.2.1 x1 1 8 M _ hz) (cwX7_85 X.2.2.2.2.1 ⟨Nat.le_of_ble_eq_true rfl, Nat.le_of_ble_eq_true rfl⟩)  rfl rfl (Nat.le_of_ble_eq_true rfl) dX7_feed_4 ⟨Nat.le_of_ble_eq_true rfl, Nat.le_of_ble_eq_true rfl⟩ h (fun v_2 M_1 _ h => ?_)
  refine sw_if_ne hx hb 12 dX7_feed_7 (by decide) h (fun h => ?_) (fun h => ?_)
  · refine sw_aload_n hx hb dX7_feed_12 0 rfl rfl ?_
    refine sw_get X inG7 mi_50 (ce_7 (rfl : kd 50 = 7)) rfl 1 (by decide) (goodW wd405) rfl dX7_feed_13 ?_
    refine sw_iload_n hx hb dX7_feed_16 1 rfl rfl ?_
    refine sw_iadd hx hb dX7_feed_17 ?_
    refine sw_sipush hx hb 300 dX7_feed_18 (by decide) ?_
    refine sw_icmp_le hx hb 27 dX7_feed_21 (by decide) h (fun h => ?_) (fun h => ?_)
    · refine sw_iconst hx hb 0 dX7_feed_27 (by decide) ?_
      refine sw_istore hx hb [(4, .int 0), (0, .ref (ad 50)), (1, .int x1), (2, .long x2)] dX7_feed_28 (by decide) rfl ?_
      refine sw_sub (lv1 := [(0, .ref (ad 50)), (1, .int x1), (2, .long x2), (4, .int 0)]) [1, 2, 3, 0] rfl ?_
      exact wX7_feed_H30 X hr FU x1 x2 0 M_1 h
    · refine sw_bipush hx hb (-3) dX7_feed_24 (by decide) ?_
      exact sw_Iret X hr dX7_feed_26 h
  · refine sw_iconst hx hb (-1) dX7_feed_10 (by decide) ?_
    exact sw_Iret X hr dX7_feed_11 h

end
theorem okX7_feed (l : Launch) {D : va_G} {cy : Nat → ClassId} {ad : Nat → Nat} (hD : ∀ M : Mem, va_D (AA ad iY) (wl cy ad iY M)) (x1 : Int32) (x2 : Int64) (M : Mem) (z : Int32 × Mem) (h : fX7_feed x1 x2 M = some z) : CTI l yX7_feed (wsG yX7_feed cX7_feed 5 (some .int)) rm_X7_feed D cy ad iY [.ref (ad 50), .int x1, .long x2] M z :=
  met_of (cc := cX7_feed) (maxL := 5) (ret := (some .int)) (own := RX7) (by decide) rfl rfl hD ndY (Nat.le_of_ble_eq_true rfl) (fun p e s m below meth c X hr => wX7_feed_E X hr x1 x2 M h)
abbrev QX7_text (below : List Frame) (D : va_G) (cy : Nat → ClassId) (ad : Nat → Nat) (args : Array Value) (s : State) (z : Int32 × Mem) : State → Prop := MQ below (va_Qi (fun r u => r = z.1 ∧ u = z.2) (BB D cy ad iY) (AA ad iY)) args s 0 0 (AA ad iY)
section
variable {p : Program} {l : Launch} {e : Env} {s : State} {m : MethodId} {args : Array Value} {below : List Frame} {meth : Method} {c : Code} {D : va_G} {cy : Nat → ClassId} {ad : Nat → Nat} {z : Int32 × Mem}
set_option maxHeartbeats 4000000 in
set_option maxRecDepth 100000 in
theorem wX7_text_H20 (X : CX p s m args meth c D cy ad iY cX7_text 2 (wsG yX7_text cX7_text 2 (some .int)) RX7) (hr : meth.sig.returnType = (some .int)) : ∀ (n : Nat) (x1 : Int32) (M : Mem), fX7_text_H20 n x1 M = some z → SW p l e rm_X7_text s m args below meth c 0 0 (QX7_text below D cy ad args s z) 2 (PH D cy ad iY s M) 20 [(0, .ref (ad 50)), (1, .int x1)] [] := by
  have hx := X.1
  have hb := X.2.1
  intro n
  induction n with
  | zero =>
    intro x1 M h
    have h : (none : Option (Int32 × Mem)) = some z := h
    cases h
  | succ n ih =>
    intro x1 M h
    rw [fX7_text_H20] at h
    refine sw_iload_n hx hb dX7_text_20 1 rfl rfl ?_
    refine sw_aload_n hx hb dX7_text_21 0 rfl rfl ?_
    refine sw_get X inG7 mi_50 (ce_7 (rfl : kd 50 = 7)) rfl 3 (by decide) (goodW wd407) rfl dX7_text_22 ?_
    refine sw_icmp_ge hx hb 46 dX7_text_25 (by decide) h (fun h => ?_) (fun h => ?_)
    · refine sw_aload_n hx hb dX7_text_46 0 rfl rfl ?_
      refine sw_get X inG7 mi_50 (ce_7 (rfl : kd 50 = 7)) rfl 3 (by decide) (goodW wd407) rfl dX7_text_47 ?_
      exact sw_Iret X hr dX7_text_50 h
    · refine sw_aload_n hx hb dX7_text_28 0 rfl rfl ?_
      refine sw_get X inG7 mi_50 (ce_7 (rfl : kd 50 = 7)) rfl 2 (by decide) (goodW wd409) rfl dX7_text_29 ?_
      refine sw_iload_n hx hb dX7_text_32 1 rfl rfl ?_
      refine sw_aload_n hx hb dX7_text_33 0 rfl rfl ?_
      refine sw_get X inG7 mi_50 (ce_7 (rfl : kd 50 = 7)) rfl 0 (by decide) (goodW wd406) rfl dX7_text_34 ?_
      refine sw_iload_n hx hb dX7_text_37 1 rfl rfl ?_
      refine sw_iald X mi_51 (rfl : kd 51 = 9) dX7_text_38 h (fun v_4 h => ?_)
      refine sw_iast X mi_53 (rfl : kd 53 = 9) dX7_text_39 h (fun M_5 h => ?_)
      refine sw_iincN hx hb (k := 1) (x1 + 1) (fun x1_6 => [(1, .int x1_6), (0, .ref (ad 50))]) dX7_text_40 rfl (by rfl) (by decide) (fun _ => rfl) h (fun x1_6 h => ?_)
      refine sw_goto hx hb 20 dX7_text_43 (by decide) ?_
      refine sw_sub (lv1 := [(0, .ref (ad 50)), (1, .int x1_6)]) [1, 0] rfl ?_
      exact ih x1_6 M_5 h

set_option maxHeartbeats 4000000 in
set_option maxRecDepth 100000 in
theorem wX7_text_E (X : CX p s m args meth c D cy ad iY cX7_text 2 (wsG yX7_text cX7_text 2 (some .int)) RX7) (hr : meth.sig.returnType = (some .int)) (M : Mem) (h : fX7_text M = some z) : SW p l e rm_X7_text s m args below meth c 0 0 (QX7_text below D cy ad args s z) 2 (PH D cy ad iY s M) 0 [(0, .ref (ad 50))] [] := by
  have hx := X.1
  have hb := X.2.1
  unfold fX7_text at h
  refine sw_aload_n hx hb dX7_text_0 0 rfl rfl ?_
  refine sw_aload_n hx hb dX7_text_1 0 rfl rfl ?_
  refine sw_get X inG7 mi_50 (ce_7 (rfl : kd 50 = 7)) rfl 1 (by decide) (goodW wd405) rfl dX7_text_2 ?_
  refine sw_putI X tyX7 tyX7_ok nmX7 inG7 mi_50 (ce_7 (rfl : kd 50 = 7)) rfl 3 (by decide) (goodW wd407) rfl (by decide +kernel : parseFieldDescriptor _ = some .int) rfl rfl (Nat.le_of_ble_eq_true rfl) (pu_7_3 (rfl : kd 50 = 7) _) dX7_text_5 h (fun M_1 h => ?_)
  refine sw_aload_n hx hb dX7_text_8 0 rfl rfl ?_
  refine sw_iconst hx hb 0 dX7_text_9 (by decide) ?_
  refine sw_putI X tyX7 tyX7_ok nmX7 inG7 mi_50 (ce_7 (rfl : kd 50 = 7)) rfl 1 (by decide) (goodW wd405) rfl (by decide +kernel : parseFieldDescriptor _ = some .int) rfl rfl (Nat.le_of_ble_eq_true rfl) (pu_7_1 (rfl : kd 50 = 7) _) dX7_text_10 h (fun M_2 h => ?_)
  refine sw_aload_n hx hb dX7_text_13 0 rfl rfl ?_
  refine sw_iconst hx hb 0 dX7_text_14 (by decide) ?_
  refine sw_putI X tyX7 tyX7_ok nmX7 inG7 mi_50 (ce_7 (rfl : kd 50 = 7)) rfl 12 (by decide) (goodW wd408) rfl (by decide +kernel : parseFieldDescriptor _ = some .int) rfl rfl (Nat.le_of_ble_eq_true rfl) (pu_7_12 (rfl : kd 50 = 7) _) dX7_text_15 h (fun M_3 h => ?_)
  refine sw_iconst hx hb 0 dX7_text_18 (by decide) ?_
  refine sw_istore_n hx hb [(1, .int 0), (0, .ref (ad 50))] dX7_text_19 rfl (by decide) rfl ?_
  refine sw_sub (lv1 := [(0, .ref (ad 50)), (1, .int 0)]) [1, 0] rfl ?_
  exact wX7_text_H20 X hr FU 0 M_3 h

end
theorem okX7_text (l : Launch) {D : va_G} {cy : Nat → ClassId} {ad : Nat → Nat} (hD : ∀ M : Mem, va_D (AA ad iY) (wl cy ad iY M)) (M : Mem) (z : Int32 × Mem) (h : fX7_text M = some z) : CTI l yX7_text (wsG yX7_text cX7_text 2 (some .int)) rm_X7_text D cy ad iY [.ref (ad 50)] M z :=
  met_of (cc := cX7_text) (maxL := 2) (ret := (some .int)) (own := RX7) (by decide) rfl rfl hD ndY (Nat.le_of_ble_eq_true rfl) (fun p e s m below meth c X hr => wX7_text_E X hr M h)
abbrev QX7_peek (below : List Frame) (D : va_G) (cy : Nat → ClassId) (ad : Nat → Nat) (args : Array Value) (s : State) (z : Int32 × Mem) : State → Prop := MQ below (va_Qi (fun r u => r = z.1 ∧ u = z.2) (BB D cy ad iY) (AA ad iY)) args s 0 0 (AA ad iY)
section
variable {p : Program} {l : Launch} {e : Env} {s : State} {m : MethodId} {args : Array Value} {below : List Frame} {meth : Method} {c : Code} {D : va_G} {cy : Nat → ClassId} {ad : Nat → Nat} {z : Int32 × Mem}
set_option maxHeartbeats 4000000 in
set_option maxRecDepth 100000 in
theorem wX7_peek_E (X : CX p s m args meth c D cy ad iY cX7_peek 1 (wsG yX7_peek cX7_peek 1 (some .int)) RX7) (hr : meth.sig.returnType = (some .int)) (M : Mem) (h : fX7_peek M = some z) : SW p l e rm_X7_peek s m args below meth c 0 0 (QX7_peek below D cy ad args s z) 1 (PH D cy ad iY s M) 0 [(0, .ref (ad 50))] [] := by
  have hx := X.1
  have hb := X.2.1
  unfold fX7_peek at h
  refine sw_aload_n hx hb dX7_peek_0 0 rfl rfl ?_
  refine sw_get X inG7 mi_50 (ce_7 (rfl : kd 50 = 7)) rfl 37 (by decide) (goodW wd410) rfl dX7_peek_1 ?_
  refine sw_aload_n hx hb dX7_peek_4 0 rfl rfl ?_
  refine sw_get X inG7 mi_50 (ce_7 (rfl : kd 50 = 7)) rfl 1 (by decide) (goodW wd405) rfl dX7_peek_5 ?_
  refine sw_icmp_ge hx hb 23 dX7_peek_8 (by decide) h (fun h => ?_) (fun h => ?_)
  · refine sw_iconst hx hb (-1) dX7_peek_23 (by decide) ?_
    exact sw_Iret X hr dX7_peek_24 h
  · refine sw_aload_n hx hb dX7_peek_11 0 rfl rfl ?_
    refine sw_get X inG7 mi_50 (ce_7 (rfl : kd 50 = 7)) rfl 0 (by decide) (goodW wd406) rfl dX7_peek_12 ?_
    refine sw_aload_n hx hb dX7_peek_15 0 rfl rfl ?_
    refine sw_get X inG7 mi_50 (ce_7 (rfl : kd 50 = 7)) rfl 37 (by decide) (goodW wd410) rfl dX7_peek_16 ?_
    refine sw_iald X mi_51 (rfl : kd 51 = 9) dX7_peek_19 h (fun v_1 h => ?_)
    refine sw_goto hx hb 24 dX7_peek_20 (by decide) ?_
    exact sw_Iret X hr dX7_peek_24 h

end
theorem okX7_peek (l : Launch) {D : va_G} {cy : Nat → ClassId} {ad : Nat → Nat} (hD : ∀ M : Mem, va_D (AA ad iY) (wl cy ad iY M)) (M : Mem) (z : Int32 × Mem) (h : fX7_peek M = some z) : CTI l yX7_peek (wsG yX7_peek cX7_peek 1 (some .int)) rm_X7_peek D cy ad iY [.ref (ad 50)] M z :=
  met_of (cc := cX7_peek) (maxL := 1) (ret := (some .int)) (own := RX7) (by decide) rfl rfl hD ndY (Nat.le_of_ble_eq_true rfl) (fun p e s m below meth c X hr => wX7_peek_E X hr M h)
abbrev QX7_begins (below : List Frame) (D : va_G) (cy : Nat → ClassId) (ad : Nat → Nat) (args : Array Value) (s : State) (z : Mem) : State → Prop := MQ below (va_Qv (fun u => u = z) (BB D cy ad iY) (AA ad iY)) args s 0 0 (AA ad iY)
section
variable {p : Program} {l : Launch} {e : Env} {s : State} {m : MethodId} {args : Array Value} {below : List Frame} {meth : Method} {c : Code} {D : va_G} {cy : Nat → ClassId} {ad : Nat → Nat} {z : Mem}
set_option maxHeartbeats 4000000 in
set_option maxRecDepth 100000 in
theorem wX7_begins_E (X : CX p s m args meth c D cy ad iY cX7_begins 1 (wsG yX7_begins cX7_begins 1 none) RX7) (hr : meth.sig.returnType = none) (M : Mem) (h : fX7_begins M = some z) : SW p l e rm_X7_begins s m args below meth c 0 0 (QX7_begins below D cy ad args s z) 1 (PH D cy ad iY s M) 0 [(0, .ref (ad 50))] [] := by
  have hx := X.1
  have hb := X.2.1
  unfold fX7_begins at h
  refine sw_aload_n hx hb dX7_begins_0 0 rfl rfl ?_
  refine sw_get X inG7 mi_50 (ce_7 (rfl : kd 50 = 7)) rfl 29 (by decide) (goodW wd411) rfl dX7_begins_1 ?_
  refine sw_aload_n hx hb dX7_begins_4 0 rfl rfl ?_
  refine sw_get X inG7 mi_50 (ce_7 (rfl : kd 50 = 7)) rfl 36 (by decide) (goodW wd412) rfl dX7_begins_5 ?_
  refine sw_iconst hx hb 1 dX7_begins_8 (by decide) ?_
  refine sw_zast X mi_80 (rfl : kd 80 = 11) dX7_begins_9 h (fun M_1 h => ?_)
  refine sw_aload_n hx hb dX7_begins_10 0 rfl rfl ?_
  refine sw_get X inG7 mi_50 (ce_7 (rfl : kd 50 = 7)) rfl 30 (by decide) (goodW wd413) rfl dX7_begins_11 ?_
  refine sw_aload_n hx hb dX7_begins_14 0 rfl rfl ?_
  refine sw_get X inG7 mi_50 (ce_7 (rfl : kd 50 = 7)) rfl 36 (by decide) (goodW wd412) rfl dX7_begins_15 ?_
  refine sw_lconst hx hb 0 dX7_begins_18 (by decide) ?_
  refine sw_last X mi_81 (rfl : kd 81 = 10) dX7_begins_19 h (fun M_2 h => ?_)
  refine sw_aload_n hx hb dX7_begins_20 0 rfl rfl ?_
  refine sw_get X inG7 mi_50 (ce_7 (rfl : kd 50 = 7)) rfl 31 (by decide) (goodW wd414) rfl dX7_begins_21 ?_
  refine sw_aload_n hx hb dX7_begins_24 0 rfl rfl ?_
  refine sw_get X inG7 mi_50 (ce_7 (rfl : kd 50 = 7)) rfl 36 (by decide) (goodW wd412) rfl dX7_begins_25 ?_
  refine sw_lconst hx hb 0 dX7_begins_28 (by decide) ?_
  refine sw_last X mi_82 (rfl : kd 82 = 10) dX7_begins_29 h (fun M_3 h => ?_)
  refine sw_aload_n hx hb dX7_begins_30 0 rfl rfl ?_
  refine sw_iconst hx hb 0 dX7_begins_31 (by decide) ?_
  obtain ⟨hz, h⟩ := sz_ok h
  refine sw_putI X tyX7 tyX7_ok nmX7 inG7 mi_50 (ce_7 (rfl : kd 50 = 7)) rfl 32 (by decide) (goodW wd415) rfl (by decide +kernel : parseFieldDescriptor _ = some .boolean) (nar_z hz).1 (nar_z hz).2 (Nat.le_of_ble_eq_true rfl) (pu_7_32 (rfl : kd 50 = 7) _) dX7_begins_32 h (fun M_4 h => ?_)
  exact sw_Vret X hr dX7_begins_35 h

end
theorem okX7_begins (l : Launch) {D : va_G} {cy : Nat → ClassId} {ad : Nat → Nat} (hD : ∀ M : Mem, va_D (AA ad iY) (wl cy ad iY M)) (M : Mem) (z : Mem) (h : fX7_begins M = some z) : CTV l yX7_begins (wsG yX7_begins cX7_begins 1 none) rm_X7_begins D cy ad iY [.ref (ad 50)] M z :=
  met_of (cc := cX7_begins) (maxL := 1) (ret := none) (own := RX7) (by decide) rfl rfl hD ndY (Nat.le_of_ble_eq_true rfl) (fun p e s m below meth c X hr => wX7_begins_E X hr M h)
abbrev QX7_opens (below : List Frame) (D : va_G) (cy : Nat → ClassId) (ad : Nat → Nat) (args : Array Value) (s : State) (z : Mem) : State → Prop := MQ below (va_Qv (fun u => u = z) (BB D cy ad iY) (AA ad iY)) args s 0 0 (AA ad iY)
section
variable {p : Program} {l : Launch} {e : Env} {s : State} {m : MethodId} {args : Array Value} {below : List Frame} {meth : Method} {c : Code} {D : va_G} {cy : Nat → ClassId} {ad : Nat → Nat} {z : Mem}
set_option maxHeartbeats 4000000 in
set_option maxRecDepth 100000 in
theorem wX7_opens_E (X : CX p s m args meth c D cy ad iY cX7_opens 1 (wsG yX7_opens cX7_opens 1 none) RX7) (hr : meth.sig.returnType = none) (M : Mem) (h : fX7_opens M = some z) : SW p l e rm_X7_opens s m args below meth c 0 0 (QX7_opens below D cy ad args s z) 1 (PH D cy ad iY s M) 0 [(0, .ref (ad 50))] [] := by
  have hx := X.1
  have hb := X.2.1
  unfold fX7_opens at h
  refine sw_aload_n hx hb dX7_opens_0 0 rfl rfl ?_
  refine sw_get X inG7 mi_50 (ce_7 (rfl : kd 50 = 7)) rfl 26 (by decide) (goodW wd416) rfl dX7_opens_1 ?_
  refine sw_aload_n hx hb dX7_opens_4 0 rfl rfl ?_
  refine sw_get X inG7 mi_50 (ce_7 (rfl : kd 50 = 7)) rfl 36 (by decide) (goodW wd412) rfl dX7_opens_5 ?_
  refine sw_iconst hx hb 0 dX7_opens_8 (by decide) ?_
  refine sw_zast X mi_77 (rfl : kd 77 = 11) dX7_opens_9 h (fun M_1 h => ?_)
  refine sw_aload_n hx hb dX7_opens_10 0 rfl rfl ?_
  refine sw_get X inG7 mi_50 (ce_7 (rfl : kd 50 = 7)) rfl 25 (by decide) (goodW wd417) rfl dX7_opens_11 ?_
  refine sw_aload_n hx hb dX7_opens_14 0 rfl rfl ?_
  refine sw_get X inG7 mi_50 (ce_7 (rfl : kd 50 = 7)) rfl 36 (by decide) (goodW wd412) rfl dX7_opens_15 ?_
  refine sw_iconst hx hb 0 dX7_opens_18 (by decide) ?_
  refine sw_zast X mi_76 (rfl : kd 76 = 11) dX7_opens_19 h (fun M_2 h => ?_)
  refine sw_aload_n hx hb dX7_opens_20 0 rfl rfl ?_
  refine sw_get X inG7 mi_50 (ce_7 (rfl : kd 50 = 7)) rfl 27 (by decide) (goodW wd418) rfl dX7_opens_21 ?_
  refine sw_aload_n hx hb dX7_opens_24 0 rfl rfl ?_
  refine sw_get X inG7 mi_50 (ce_7 (rfl : kd 50 = 7)) rfl 36 (by decide) (goodW wd412) rfl dX7_opens_25 ?_
  refine sw_lconst hx hb 0 dX7_opens_28 (by decide) ?_
  refine sw_last X mi_78 (rfl : kd 78 = 10) dX7_opens_29 h (fun M_3 h => ?_)
  refine sw_aload_n hx hb dX7_opens_30 0 rfl rfl ?_
  refine sw_get X inG7 mi_50 (ce_7 (rfl : kd 50 = 7)) rfl 28 (by decide) (goodW wd419) rfl dX7_opens_31 ?_
  refine sw_aload_n hx hb dX7_opens_34 0 rfl rfl ?_
  refine sw_get X inG7 mi_50 (ce_7 (rfl : kd 50 = 7)) rfl 36 (by decide) (goodW wd412) rfl dX7_opens_35 ?_
  refine sw_lconst hx hb 0 dX7_opens_38 (by decide) ?_
  refine sw_last X mi_79 (rfl : kd 79 = 10) dX7_opens_39 h (fun M_4 h => ?_)
  refine sw_aload_n hx hb dX7_opens_40 0 rfl rfl ?_
  refine sw_callVV (C := RX7) (As := []) (rest := []) X mi_50 (ce_7 (rfl : kd 50 = 7)) rfl rfl (fun _ hz => okX7_begins l X.2.2.2.2.2.2.1 M_4 _ hz) (cwX7_114 X.2.2.2.2.1 ⟨Nat.le_of_ble_eq_true rfl, Nat.le_of_ble_eq_true rfl⟩)  rfl rfl (Nat.le_of_ble_eq_true rfl) dX7_opens_41 ⟨Nat.le_of_ble_eq_true rfl, Nat.le_of_ble_eq_true rfl⟩ h (fun M_5 _ h => ?_)
  exact sw_Vret X hr dX7_opens_44 h

end
theorem okX7_opens (l : Launch) {D : va_G} {cy : Nat → ClassId} {ad : Nat → Nat} (hD : ∀ M : Mem, va_D (AA ad iY) (wl cy ad iY M)) (M : Mem) (z : Mem) (h : fX7_opens M = some z) : CTV l yX7_opens (wsG yX7_opens cX7_opens 1 none) rm_X7_opens D cy ad iY [.ref (ad 50)] M z :=
  met_of (cc := cX7_opens) (maxL := 1) (ret := none) (own := RX7) (by decide) rfl rfl hD ndY (Nat.le_of_ble_eq_true rfl) (fun p e s m below meth c X hr => wX7_opens_E X hr M h)
abbrev QX7_joins (below : List Frame) (D : va_G) (cy : Nat → ClassId) (ad : Nat → Nat) (args : Array Value) (s : State) (z : Mem) : State → Prop := MQ below (va_Qv (fun u => u = z) (BB D cy ad iY) (AA ad iY)) args s 0 0 (AA ad iY)
section
variable {p : Program} {l : Launch} {e : Env} {s : State} {m : MethodId} {args : Array Value} {below : List Frame} {meth : Method} {c : Code} {D : va_G} {cy : Nat → ClassId} {ad : Nat → Nat} {z : Mem}
set_option maxHeartbeats 4000000 in
set_option maxRecDepth 100000 in
theorem wX7_joins_L127 (X : CX p s m args meth c D cy ad iY cX7_joins 2 (wsG yX7_joins cX7_joins 2 none) RX7) (hr : meth.sig.returnType = none) (y0 : Int64) (y1 : Int32) (M : Mem) (h : fX7_joins_L127 y0 y1 M = some z) : SW p l e rm_X7_joins s m args below meth c 0 0 (QX7_joins below D cy ad args s z) 2 (PH D cy ad iY s M) 127 [(0, .ref (ad 50))] [.long y0, .int y1, .ref (ad 82)] := by
  have hx := X.1
  have hb := X.2.1
  unfold fX7_joins_L127 at h
  refine sw_last X mi_82 (rfl : kd 82 = 10) dX7_joins_127 h (fun M_4 h => ?_)
  refine sw_aload_n hx hb dX7_joins_128 0 rfl rfl ?_
  refine sw_get X inG7 mi_50 (ce_7 (rfl : kd 50 = 7)) rfl 29 (by decide) (goodW wd411) rfl dX7_joins_129 ?_
  refine sw_aload_n hx hb dX7_joins_132 0 rfl rfl ?_
  refine sw_get X inG7 mi_50 (ce_7 (rfl : kd 50 = 7)) rfl 36 (by decide) (goodW wd412) rfl dX7_joins_133 ?_
  refine sw_dup2 hx hb dX7_joins_136 rfl rfl ?_
  refine sw_zald X mi_80 (rfl : kd 80 = 11) dX7_joins_137 h (fun v_5 h => ?_)
  refine sw_aload_n hx hb dX7_joins_138 0 rfl rfl ?_
  refine sw_get X inG7 mi_50 (ce_7 (rfl : kd 50 = 7)) rfl 33 (by decide) (goodW wd425) rfl dX7_joins_139 ?_
  refine sw_iand hx hb dX7_joins_142 ?_
  refine sw_zast X mi_80 (rfl : kd 80 = 11) dX7_joins_143 h (fun M_6 h => ?_)
  refine sw_aload_n hx hb dX7_joins_144 0 rfl rfl ?_
  refine sw_iconst hx hb 0 dX7_joins_145 (by decide) ?_
  obtain ⟨hz, h⟩ := sz_ok h
  refine sw_putI X tyX7 tyX7_ok nmX7 inG7 mi_50 (ce_7 (rfl : kd 50 = 7)) rfl 32 (by decide) (goodW wd415) rfl (by decide +kernel : parseFieldDescriptor _ = some .boolean) (nar_z hz).1 (nar_z hz).2 (Nat.le_of_ble_eq_true rfl) (pu_7_32 (rfl : kd 50 = 7) _) dX7_joins_146 h (fun M_7 h => ?_)
  exact sw_Vret X hr dX7_joins_149 h

set_option maxHeartbeats 4000000 in
set_option maxRecDepth 100000 in
theorem wX7_joins_L89 (X : CX p s m args meth c D cy ad iY cX7_joins 2 (wsG yX7_joins cX7_joins 2 none) RX7) (hr : meth.sig.returnType = none) (y0 : Int64) (y1 : Int64) (y2 : Int32) (M : Mem) (h : fX7_joins_L89 y0 y1 y2 M = some z) : SW p l e rm_X7_joins s m args below meth c 0 0 (QX7_joins below D cy ad args s z) 2 (PH D cy ad iY s M) 89 [(0, .ref (ad 50))] [.long y0, .long y1, .int y2, .ref (ad 81)] := by
  have hx := X.1
  have hb := X.2.1
  unfold fX7_joins_L89 at h
  refine sw_lor hx hb dX7_joins_89 ?_
  refine sw_last X mi_81 (rfl : kd 81 = 10) dX7_joins_90 h (fun M_3 h => ?_)
  refine sw_aload_n hx hb dX7_joins_91 0 rfl rfl ?_
  refine sw_get X inG7 mi_50 (ce_7 (rfl : kd 50 = 7)) rfl 31 (by decide) (goodW wd414) rfl dX7_joins_92 ?_
  refine sw_aload_n hx hb dX7_joins_95 0 rfl rfl ?_
  refine sw_get X inG7 mi_50 (ce_7 (rfl : kd 50 = 7)) rfl 36 (by decide) (goodW wd412) rfl dX7_joins_96 ?_
  refine sw_aload_n hx hb dX7_joins_99 0 rfl rfl ?_
  refine sw_get X inG7 mi_50 (ce_7 (rfl : kd 50 = 7)) rfl 33 (by decide) (goodW wd425) rfl dX7_joins_100 ?_
  refine sw_if_eq hx hb 123 dX7_joins_103 (by decide) h (fun h => ?_) (fun h => ?_)
  · refine sw_aload_n hx hb dX7_joins_123 0 rfl rfl ?_
    refine sw_get X inG7 mi_50 (ce_7 (rfl : kd 50 = 7)) rfl 35 (by decide) (goodW wd426) rfl dX7_joins_124 ?_
    refine sw_sub (lv1 := [(0, .ref (ad 50))]) [0] rfl ?_
    exact wX7_joins_L127 X hr (gJ M_3 50 35) (gI M_3 50 36) M_3 h
  · refine sw_aload_n hx hb dX7_joins_106 0 rfl rfl ?_
    refine sw_get X inG7 mi_50 (ce_7 (rfl : kd 50 = 7)) rfl 31 (by decide) (goodW wd414) rfl dX7_joins_107 ?_
    refine sw_aload_n hx hb dX7_joins_110 0 rfl rfl ?_
    refine sw_get X inG7 mi_50 (ce_7 (rfl : kd 50 = 7)) rfl 36 (by decide) (goodW wd412) rfl dX7_joins_111 ?_
    refine sw_lald X mi_82 (rfl : kd 82 = 10) dX7_joins_114 h (fun v_8 h => ?_)
    refine sw_aload_n hx hb dX7_joins_115 0 rfl rfl ?_
    refine sw_get X inG7 mi_50 (ce_7 (rfl : kd 50 = 7)) rfl 35 (by decide) (goodW wd426) rfl dX7_joins_116 ?_
    refine sw_lor hx hb dX7_joins_119 ?_
    refine sw_goto hx hb 127 dX7_joins_120 (by decide) ?_
    refine sw_sub (lv1 := [(0, .ref (ad 50))]) [0] rfl ?_
    exact wX7_joins_L127 X hr (v_8 ||| (gJ M_3 50 35)) (gI M_3 50 36) M_3 h

set_option maxHeartbeats 4000000 in
set_option maxRecDepth 100000 in
theorem wX7_joins_L51 (X : CX p s m args meth c D cy ad iY cX7_joins 2 (wsG yX7_joins cX7_joins 2 none) RX7) (hr : meth.sig.returnType = none) (k10 : Int32 → Mem → Option (Mem)) (hk10 : ∀ (x1 : Int32) (M : Mem), k10 x1 M = some z → SW p l e rm_X7_joins s m args below meth c 0 0 (QX7_joins below D cy ad args s z) 2 (PH D cy ad iY s M) 10 [(0, .ref (ad 50)), (1, .int x1)] []) (x1 : Int32) (y0 : Int64) (y1 : Int64) (y2 : Int32) (M : Mem) (h : fX7_joins_L51 k10 x1 y0 y1 y2 M = some z) : SW p l e rm_X7_joins s m args below meth c 0 0 (QX7_joins below D cy ad args s z) 2 (PH D cy ad iY s M) 51 [(0, .ref (ad 50)), (1, .int x1)] [.long y0, .long y1, .int y2, .ref (ad 75)] := by
  have hx := X.1
  have hb := X.2.1
  unfold fX7_joins_L51 at h
  refine sw_lor hx hb dX7_joins_51 ?_
  refine sw_last X mi_75 (rfl : kd 75 = 10) dX7_joins_52 h (fun M_11 h => ?_)
  refine sw_iincN hx hb (k := 1) (x1 + 1) (fun x1_12 => [(1, .int x1_12), (0, .ref (ad 50))]) dX7_joins_53 rfl (by rfl) (by decide) (fun _ => rfl) h (fun x1_12 h => ?_)
  refine sw_goto hx hb 10 dX7_joins_56 (by decide) ?_
  refine sw_sub (lv1 := [(0, .ref (ad 50)), (1, .int x1_12)]) [1, 0] rfl ?_
  exact hk10 x1_12 M_11 h

set_option maxHeartbeats 4000000 in
set_option maxRecDepth 100000 in
theorem wX7_joins_H10 (X : CX p s m args meth c D cy ad iY cX7_joins 2 (wsG yX7_joins cX7_joins 2 none) RX7) (hr : meth.sig.returnType = none) : ∀ (n : Nat) (x1 : Int32) (M : Mem), fX7_joins_H10 n x1 M = some z → SW p l e rm_X7_joins s m args below meth c 0 0 (QX7_joins below D cy ad args s z) 2 (PH D cy ad iY s M) 10 [(0, .ref (ad 50)), (1, .int x1)] [] := by
  have hx := X.1
  have hb := X.2.1
  intro n
  induction n with
  | zero =>
    intro x1 M h
    have h : (none : Option (Mem)) = some z := h
    cases h
  | succ n ih =>
    intro x1 M h
    rw [fX7_joins_H10] at h
    refine sw_iload_n hx hb dX7_joins_10 1 rfl rfl ?_
    refine sw_aload_n hx hb dX7_joins_11 0 rfl rfl ?_
    refine sw_get X inG7 mi_50 (ce_7 (rfl : kd 50 = 7)) rfl 22 (by decide) (goodW wd424) rfl dX7_joins_12 ?_
    refine sw_icmp_ge hx hb 59 dX7_joins_15 (by decide) h (fun h => ?_) (fun h => ?_)
    · refine sw_aload_n hx hb dX7_joins_59 0 rfl rfl ?_
      refine sw_get X inG7 mi_50 (ce_7 (rfl : kd 50 = 7)) rfl 30 (by decide) (goodW wd413) rfl dX7_joins_60 ?_
      refine sw_aload_n hx hb dX7_joins_63 0 rfl rfl ?_
      refine sw_get X inG7 mi_50 (ce_7 (rfl : kd 50 = 7)) rfl 36 (by decide) (goodW wd412) rfl dX7_joins_64 ?_
      refine sw_dup2 hx hb dX7_joins_67 rfl rfl ?_
      refine sw_lald X mi_81 (rfl : kd 81 = 10) dX7_joins_68 h (fun v_1 h => ?_)
      refine sw_aload_n hx hb dX7_joins_69 0 rfl rfl ?_
      refine sw_get X inG7 mi_50 (ce_7 (rfl : kd 50 = 7)) rfl 29 (by decide) (goodW wd411) rfl dX7_joins_70 ?_
      refine sw_aload_n hx hb dX7_joins_73 0 rfl rfl ?_
      refine sw_get X inG7 mi_50 (ce_7 (rfl : kd 50 = 7)) rfl 36 (by decide) (goodW wd412) rfl dX7_joins_74 ?_
      refine sw_zald X mi_80 (rfl : kd 80 = 11) dX7_joins_77 h (fun v_2 h => ?_)
      refine sw_if_eq hx hb 88 dX7_joins_78 (by decide) h (fun h => ?_) (fun h => ?_)
      · refine sw_lconst hx hb 0 dX7_joins_88 (by decide) ?_
        refine sw_sub (lv1 := [(0, .ref (ad 50))]) [0] rfl ?_
        exact wX7_joins_L89 X hr 0 v_1 (gI M 50 36) M h
      · refine sw_aload_n hx hb dX7_joins_81 0 rfl rfl ?_
        refine sw_get X inG7 mi_50 (ce_7 (rfl : kd 50 = 7)) rfl 34 (by decide) (goodW wd427) rfl dX7_joins_82 ?_
        refine sw_goto hx hb 89 dX7_joins_85 (by decide) ?_
        refine sw_sub (lv1 := [(0, .ref (ad 50))]) [0] rfl ?_
        exact wX7_joins_L89 X hr (gJ M 50 34) v_1 (gI M 50 36) M h
    · refine sw_aload_n hx hb dX7_joins_18 0 rfl rfl ?_
      refine sw_get X inG7 mi_50 (ce_7 (rfl : kd 50 = 7)) rfl 24 (by decide) (goodW wd428) rfl dX7_joins_19 ?_
      refine sw_iload_n hx hb dX7_joins_22 1 rfl rfl ?_
      refine sw_dup2 hx hb dX7_joins_23 rfl rfl ?_
      refine sw_lald X mi_75 (rfl : kd 75 = 10) dX7_joins_24 h (fun v_9 h => ?_)
      refine sw_aload_n hx hb dX7_joins_25 0 rfl rfl ?_
      refine sw_get X inG7 mi_50 (ce_7 (rfl : kd 50 = 7)) rfl 31 (by decide) (goodW wd414) rfl dX7_joins_26 ?_
      refine sw_aload_n hx hb dX7_joins_29 0 rfl rfl ?_
      refine sw_get X inG7 mi_50 (ce_7 (rfl : kd 50 = 7)) rfl 36 (by decide) (goodW wd412) rfl dX7_joins_30 ?_
      refine sw_lald X mi_82 (rfl : kd 82 = 10) dX7_joins_33 h (fun v_10 h => ?_)
      refine sw_iload_n hx hb dX7_joins_34 1 rfl rfl ?_
      refine sw_lshr hx hb dX7_joins_35 ?_
      refine sw_lconst hx hb 1 dX7_joins_36 (by decide) ?_
      refine sw_land hx hb dX7_joins_37 ?_
      refine sw_lconst hx hb 1 dX7_joins_38 (by decide) ?_
      refine sw_lcmp hx hb dX7_joins_39 ?_
      refine sw_if_ne hx hb 50 dX7_joins_40 (by decide) h (fun h => ?_) (fun h => ?_)
      · refine sw_lconst hx hb 0 dX7_joins_50 (by decide) ?_
        refine sw_sub (lv1 := [(0, .ref (ad 50)), (1, .int x1)]) [0, 1] rfl ?_
        exact wX7_joins_L51 X hr (fX7_joins_H10 n) ih x1 0 v_9 x1 M h
      · refine sw_aload_n hx hb dX7_joins_43 0 rfl rfl ?_
        refine sw_get X inG7 mi_50 (ce_7 (rfl : kd 50 = 7)) rfl 34 (by decide) (goodW wd427) rfl dX7_joins_44 ?_
        refine sw_goto hx hb 51 dX7_joins_47 (by decide) ?_
        refine sw_sub (lv1 := [(0, .ref (ad 50)), (1, .int x1)]) [0, 1] rfl ?_
        exact wX7_joins_L51 X hr (fX7_joins_H10 n) ih x1 (gJ M 50 34) v_9 x1 M h

set_option maxHeartbeats 4000000 in
set_option maxRecDepth 100000 in
theorem wX7_joins_E (X : CX p s m args meth c D cy ad iY cX7_joins 2 (wsG yX7_joins cX7_joins 2 none) RX7) (hr : meth.sig.returnType = none) (M : Mem) (h : fX7_joins M = some z) : SW p l e rm_X7_joins s m args below meth c 0 0 (QX7_joins below D cy ad args s z) 2 (PH D cy ad iY s M) 0 [(0, .ref (ad 50))] [] := by
  have hx := X.1
  have hb := X.2.1
  unfold fX7_joins at h
  refine sw_aload_n hx hb dX7_joins_0 0 rfl rfl ?_
  refine sw_get X inG7 mi_50 (ce_7 (rfl : kd 50 = 7)) rfl 32 (by decide) (goodW wd415) rfl dX7_joins_1 ?_
  refine sw_if_ne hx hb 8 dX7_joins_4 (by decide) h (fun h => ?_) (fun h => ?_)
  · refine sw_iconst hx hb 0 dX7_joins_8 (by decide) ?_
    refine sw_istore_n hx hb [(1, .int 0), (0, .ref (ad 50))] dX7_joins_9 rfl (by decide) rfl ?_
    refine sw_sub (lv1 := [(0, .ref (ad 50)), (1, .int 0)]) [1, 0] rfl ?_
    exact wX7_joins_H10 X hr FU 0 M h
  · exact sw_Vret X hr dX7_joins_7 h

end
theorem okX7_joins (l : Launch) {D : va_G} {cy : Nat → ClassId} {ad : Nat → Nat} (hD : ∀ M : Mem, va_D (AA ad iY) (wl cy ad iY M)) (M : Mem) (z : Mem) (h : fX7_joins M = some z) : CTV l yX7_joins (wsG yX7_joins cX7_joins 2 none) rm_X7_joins D cy ad iY [.ref (ad 50)] M z :=
  met_of (cc := cX7_joins) (maxL := 2) (ret := none) (own := RX7) (by decide) rfl rfl hD ndY (Nat.le_of_ble_eq_true rfl) (fun p e s m below meth c X hr => wX7_joins_E X hr M h)
abbrev QX7_closes (below : List Frame) (D : va_G) (cy : Nat → ClassId) (ad : Nat → Nat) (args : Array Value) (s : State) (z : Mem) : State → Prop := MQ below (va_Qv (fun u => u = z) (BB D cy ad iY) (AA ad iY)) args s 0 0 (AA ad iY)
section
variable {p : Program} {l : Launch} {e : Env} {s : State} {m : MethodId} {args : Array Value} {below : List Frame} {meth : Method} {c : Code} {D : va_G} {cy : Nat → ClassId} {ad : Nat → Nat} {z : Mem}
set_option maxHeartbeats 4000000 in
set_option maxRecDepth 100000 in
theorem wX7_closes_E (X : CX p s m args meth c D cy ad iY cX7_closes 1 (wsG yX7_closes cX7_closes 1 none) RX7) (hr : meth.sig.returnType = none) (M : Mem) (h : fX7_closes M = some z) : SW p l e rm_X7_closes s m args below meth c 0 0 (QX7_closes below D cy ad args s z) 1 (PH D cy ad iY s M) 0 [(0, .ref (ad 50))] [] := by
  have hx := X.1
  have hb := X.2.1
  unfold fX7_closes at h
  refine sw_aload_n hx hb dX7_closes_0 0 rfl rfl ?_
  refine sw_callVV (C := RX7) (As := []) (rest := []) X mi_50 (ce_7 (rfl : kd 50 = 7)) rfl rfl (fun _ hz => okX7_joins l X.2.2.2.2.2.2.1 M _ hz) (cwX7_134 X.2.2.2.2.1 ⟨Nat.le_of_ble_eq_true rfl, Nat.le_of_ble_eq_true rfl⟩)  rfl rfl (Nat.le_of_ble_eq_true rfl) dX7_closes_1 ⟨Nat.le_of_ble_eq_true rfl, Nat.le_of_ble_eq_true rfl⟩ h (fun M_1 _ h => ?_)
  refine sw_aload_n hx hb dX7_closes_4 0 rfl rfl ?_
  refine sw_get X inG7 mi_50 (ce_7 (rfl : kd 50 = 7)) rfl 25 (by decide) (goodW wd417) rfl dX7_closes_5 ?_
  refine sw_aload_n hx hb dX7_closes_8 0 rfl rfl ?_
  refine sw_get X inG7 mi_50 (ce_7 (rfl : kd 50 = 7)) rfl 36 (by decide) (goodW wd412) rfl dX7_closes_9 ?_
  refine sw_dup2 hx hb dX7_closes_12 rfl rfl ?_
  refine sw_zald X mi_76 (rfl : kd 76 = 11) dX7_closes_13 h (fun v_3 h => ?_)
  refine sw_aload_n hx hb dX7_closes_14 0 rfl rfl ?_
  refine sw_get X inG7 mi_50 (ce_7 (rfl : kd 50 = 7)) rfl 29 (by decide) (goodW wd411) rfl dX7_closes_15 ?_
  refine sw_aload_n hx hb dX7_closes_18 0 rfl rfl ?_
  refine sw_get X inG7 mi_50 (ce_7 (rfl : kd 50 = 7)) rfl 36 (by decide) (goodW wd412) rfl dX7_closes_19 ?_
  refine sw_zald X mi_80 (rfl : kd 80 = 11) dX7_closes_22 h (fun v_4 h => ?_)
  refine sw_ior hx hb dX7_closes_23 ?_
  refine sw_zast X mi_76 (rfl : kd 76 = 11) dX7_closes_24 h (fun M_5 h => ?_)
  refine sw_aload_n hx hb dX7_closes_25 0 rfl rfl ?_
  refine sw_get X inG7 mi_50 (ce_7 (rfl : kd 50 = 7)) rfl 27 (by decide) (goodW wd418) rfl dX7_closes_26 ?_
  refine sw_aload_n hx hb dX7_closes_29 0 rfl rfl ?_
  refine sw_get X inG7 mi_50 (ce_7 (rfl : kd 50 = 7)) rfl 36 (by decide) (goodW wd412) rfl dX7_closes_30 ?_
  refine sw_dup2 hx hb dX7_closes_33 rfl rfl ?_
  refine sw_lald X mi_78 (rfl : kd 78 = 10) dX7_closes_34 h (fun v_6 h => ?_)
  refine sw_aload_n hx hb dX7_closes_35 0 rfl rfl ?_
  refine sw_get X inG7 mi_50 (ce_7 (rfl : kd 50 = 7)) rfl 30 (by decide) (goodW wd413) rfl dX7_closes_36 ?_
  refine sw_aload_n hx hb dX7_closes_39 0 rfl rfl ?_
  refine sw_get X inG7 mi_50 (ce_7 (rfl : kd 50 = 7)) rfl 36 (by decide) (goodW wd412) rfl dX7_closes_40 ?_
  refine sw_lald X mi_81 (rfl : kd 81 = 10) dX7_closes_43 h (fun v_7 h => ?_)
  refine sw_lor hx hb dX7_closes_44 ?_
  refine sw_last X mi_78 (rfl : kd 78 = 10) dX7_closes_45 h (fun M_8 h => ?_)
  refine sw_aload_n hx hb dX7_closes_46 0 rfl rfl ?_
  refine sw_get X inG7 mi_50 (ce_7 (rfl : kd 50 = 7)) rfl 28 (by decide) (goodW wd419) rfl dX7_closes_47 ?_
  refine sw_aload_n hx hb dX7_closes_50 0 rfl rfl ?_
  refine sw_get X inG7 mi_50 (ce_7 (rfl : kd 50 = 7)) rfl 36 (by decide) (goodW wd412) rfl dX7_closes_51 ?_
  refine sw_dup2 hx hb dX7_closes_54 rfl rfl ?_
  refine sw_lald X mi_79 (rfl : kd 79 = 10) dX7_closes_55 h (fun v_9 h => ?_)
  refine sw_aload_n hx hb dX7_closes_56 0 rfl rfl ?_
  refine sw_get X inG7 mi_50 (ce_7 (rfl : kd 50 = 7)) rfl 31 (by decide) (goodW wd414) rfl dX7_closes_57 ?_
  refine sw_aload_n hx hb dX7_closes_60 0 rfl rfl ?_
  refine sw_get X inG7 mi_50 (ce_7 (rfl : kd 50 = 7)) rfl 36 (by decide) (goodW wd412) rfl dX7_closes_61 ?_
  refine sw_lald X mi_82 (rfl : kd 82 = 10) dX7_closes_64 h (fun v_10 h => ?_)
  refine sw_lor hx hb dX7_closes_65 ?_
  refine sw_last X mi_79 (rfl : kd 79 = 10) dX7_closes_66 h (fun M_11 h => ?_)
  exact sw_Vret X hr dX7_closes_67 h

end
theorem okX7_closes (l : Launch) {D : va_G} {cy : Nat → ClassId} {ad : Nat → Nat} (hD : ∀ M : Mem, va_D (AA ad iY) (wl cy ad iY M)) (M : Mem) (z : Mem) (h : fX7_closes M = some z) : CTV l yX7_closes (wsG yX7_closes cX7_closes 1 none) rm_X7_closes D cy ad iY [.ref (ad 50)] M z :=
  met_of (cc := cX7_closes) (maxL := 1) (ret := none) (own := RX7) (by decide) rfl rfl hD ndY (Nat.le_of_ble_eq_true rfl) (fun p e s m below meth c X hr => wX7_closes_E X hr M h)
abbrev QX7_piece (below : List Frame) (D : va_G) (cy : Nat → ClassId) (ad : Nat → Nat) (args : Array Value) (s : State) (z : Mem) : State → Prop := MQ below (va_Qv (fun u => u = z) (BB D cy ad iY) (AA ad iY)) args s 0 0 (AA ad iY)
section
variable {p : Program} {l : Launch} {e : Env} {s : State} {m : MethodId} {args : Array Value} {below : List Frame} {meth : Method} {c : Code} {D : va_G} {cy : Nat → ClassId} {ad : Nat → Nat} {z : Mem}
set_option maxHeartbeats 4000000 in
set_option maxRecDepth 100000 in
theorem wX7_piece_E (X : CX p s m args meth c D cy ad iY cX7_piece 6 (wsG yX7_piece cX7_piece 6 none) RX7) (hr : meth.sig.returnType = none) (x1 : Int32) (x2 : Int64) (x4 : Int64) (M : Mem) (h : fX7_piece x1 x2 x4 M = some z) : SW p l e rm_X7_piece s m args below meth c 0 0 (QX7_piece below D cy ad args s z) 6 (PH D cy ad iY s M) 0 [(0, .ref (ad 50)), (1, .int x1), (2, .long x2), (4, .long x4)] [] := by
  have hx := X.1
  have hb := X.2.1
  unfold fX7_piece at h
  refine sw_aload_n hx hb dX7_piece_0 0 rfl rfl ?_
  refine sw_callVV (C := RX7) (As := []) (rest := []) X mi_50 (ce_7 (rfl : kd 50 = 7)) rfl rfl (fun _ hz => okX7_joins l X.2.2.2.2.2.2.1 M _ hz) (cwX7_134 X.2.2.2.2.1 ⟨Nat.le_of_ble_eq_true rfl, Nat.le_of_ble_eq_true rfl⟩)  rfl rfl (Nat.le_of_ble_eq_true rfl) dX7_piece_1 ⟨Nat.le_of_ble_eq_true rfl, Nat.le_of_ble_eq_true rfl⟩ h (fun M_1 _ h => ?_)
  refine sw_aload_n hx hb dX7_piece_4 0 rfl rfl ?_
  refine sw_iconst hx hb 1 dX7_piece_5 (by decide) ?_
  obtain ⟨hz, h⟩ := sz_ok h
  refine sw_putI X tyX7 tyX7_ok nmX7 inG7 mi_50 (ce_7 (rfl : kd 50 = 7)) rfl 32 (by decide) (goodW wd415) rfl (by decide +kernel : parseFieldDescriptor _ = some .boolean) (nar_z hz).1 (nar_z hz).2 (Nat.le_of_ble_eq_true rfl) (pu_7_32 (rfl : kd 50 = 7) _) dX7_piece_6 h (fun M_3 h => ?_)
  refine sw_aload_n hx hb dX7_piece_9 0 rfl rfl ?_
  refine sw_iload_n hx hb dX7_piece_10 1 rfl rfl ?_
  obtain ⟨hz, h⟩ := sz_ok h
  refine sw_putI X tyX7 tyX7_ok nmX7 inG7 mi_50 (ce_7 (rfl : kd 50 = 7)) rfl 33 (by decide) (goodW wd425) rfl (by decide +kernel : parseFieldDescriptor _ = some .boolean) (nar_z hz).1 (nar_z hz).2 (Nat.le_of_ble_eq_true rfl) (pu_7_33 (rfl : kd 50 = 7) _) dX7_piece_11 h (fun M_4 h => ?_)
  refine sw_aload_n hx hb dX7_piece_14 0 rfl rfl ?_
  refine sw_lload_n hx hb dX7_piece_15 2 rfl rfl ?_
  refine sw_putJ X tyX7 tyX7_ok nmX7 inG7 mi_50 (ce_7 (rfl : kd 50 = 7)) rfl 34 (by decide) (goodW wd427) rfl (by decide +kernel : parseFieldDescriptor _ = some .long) rfl rfl (Nat.le_of_ble_eq_true rfl) (pu_7_34 (rfl : kd 50 = 7) _) dX7_piece_16 h (fun M_5 h => ?_)
  refine sw_aload_n hx hb dX7_piece_19 0 rfl rfl ?_
  refine sw_lload hx hb dX7_piece_20 3 rfl ?_
  refine sw_putJ X tyX7 tyX7_ok nmX7 inG7 mi_50 (ce_7 (rfl : kd 50 = 7)) rfl 35 (by decide) (goodW wd426) rfl (by decide +kernel : parseFieldDescriptor _ = some .long) rfl rfl (Nat.le_of_ble_eq_true rfl) (pu_7_35 (rfl : kd 50 = 7) _) dX7_piece_22 h (fun M_6 h => ?_)
  exact sw_Vret X hr dX7_piece_25 h

end
theorem okX7_piece (l : Launch) {D : va_G} {cy : Nat → ClassId} {ad : Nat → Nat} (hD : ∀ M : Mem, va_D (AA ad iY) (wl cy ad iY M)) (x1 : Int32) (x2 : Int64) (x4 : Int64) (M : Mem) (z : Mem) (h : fX7_piece x1 x2 x4 M = some z) : CTV l yX7_piece (wsG yX7_piece cX7_piece 6 none) rm_X7_piece D cy ad iY [.ref (ad 50), .int x1, .long x2, .long x4] M z :=
  met_of (cc := cX7_piece) (maxL := 6) (ret := none) (own := RX7) (by decide) rfl rfl hD ndY (Nat.le_of_ble_eq_true rfl) (fun p e s m below meth c X hr => wX7_piece_E X hr x1 x2 x4 M h)
abbrev QX7_takes (below : List Frame) (D : va_G) (cy : Nat → ClassId) (ad : Nat → Nat) (args : Array Value) (s : State) (z : Mem) : State → Prop := MQ below (va_Qv (fun u => u = z) (BB D cy ad iY) (AA ad iY)) args s 0 0 (AA ad iY)
section
variable {p : Program} {l : Launch} {e : Env} {s : State} {m : MethodId} {args : Array Value} {below : List Frame} {meth : Method} {c : Code} {D : va_G} {cy : Nat → ClassId} {ad : Nat → Nat} {z : Mem}
set_option maxHeartbeats 4000000 in
set_option maxRecDepth 100000 in
theorem wX7_takes_E (X : CX p s m args meth c D cy ad iY cX7_takes 3 (wsG yX7_takes cX7_takes 3 none) RX7) (hr : meth.sig.returnType = none) (x1 : Int32) (x2 : Int32) (M : Mem) (h : fX7_takes x1 x2 M = some z) : SW p l e rm_X7_takes s m args below meth c 0 0 (QX7_takes below D cy ad args s z) 3 (PH D cy ad iY s M) 0 [(0, .ref (ad 50)), (1, .int x1), (2, .int x2)] [] := by
  have hx := X.1
  have hb := X.2.1
  unfold fX7_takes at h
  refine sw_aload_n hx hb dX7_takes_0 0 rfl rfl ?_
  refine sw_get X inG7 mi_50 (ce_7 (rfl : kd 50 = 7)) rfl 23 (by decide) (goodW wd433) rfl dX7_takes_1 ?_
  refine sw_iconst hx hb 4 dX7_takes_4 (by decide) ?_
  refine sw_iload_n hx hb dX7_takes_5 1 rfl rfl ?_
  refine sw_imul hx hb dX7_takes_6 ?_
  refine sw_iload_n hx hb dX7_takes_7 2 rfl rfl ?_
  refine sw_bipush hx hb 64 dX7_takes_8 (by decide) ?_
  refine sw_idiv hx hb dX7_takes_10 (by decide) ?_
  refine sw_iadd hx hb dX7_takes_11 ?_
  refine sw_dup2 hx hb dX7_takes_12 rfl rfl ?_
  refine sw_lald X mi_74 (rfl : kd 74 = 10) dX7_takes_13 h (fun v_1 h => ?_)
  refine sw_lconst hx hb 1 dX7_takes_14 (by decide) ?_
  refine sw_iload_n hx hb dX7_takes_15 2 rfl rfl ?_
  refine sw_bipush hx hb 64 dX7_takes_16 (by decide) ?_
  refine sw_irem hx hb dX7_takes_18 (by decide) ?_
  refine sw_lshl hx hb dX7_takes_19 ?_
  refine sw_lor hx hb dX7_takes_20 ?_
  refine sw_last X mi_74 (rfl : kd 74 = 10) dX7_takes_21 h (fun M_2 h => ?_)
  exact sw_Vret X hr dX7_takes_22 h

end
theorem okX7_takes (l : Launch) {D : va_G} {cy : Nat → ClassId} {ad : Nat → Nat} (hD : ∀ M : Mem, va_D (AA ad iY) (wl cy ad iY M)) (x1 : Int32) (x2 : Int32) (M : Mem) (z : Mem) (h : fX7_takes x1 x2 M = some z) : CTV l yX7_takes (wsG yX7_takes cX7_takes 3 none) rm_X7_takes D cy ad iY [.ref (ad 50), .int x1, .int x2] M z :=
  met_of (cc := cX7_takes) (maxL := 3) (ret := none) (own := RX7) (by decide) rfl rfl hD ndY (Nat.le_of_ble_eq_true rfl) (fun p e s m below meth c X hr => wX7_takes_E X hr x1 x2 M h)
abbrev QX7_atom (below : List Frame) (D : va_G) (cy : Nat → ClassId) (ad : Nat → Nat) (args : Array Value) (s : State) (z : Mem) : State → Prop := MQ below (va_Qv (fun u => u = z) (BB D cy ad iY) (AA ad iY)) args s 0 0 (AA ad iY)
section
variable {p : Program} {l : Launch} {e : Env} {s : State} {m : MethodId} {args : Array Value} {below : List Frame} {meth : Method} {c : Code} {D : va_G} {cy : Nat → ClassId} {ad : Nat → Nat} {z : Mem}
set_option maxHeartbeats 4000000 in
set_option maxRecDepth 100000 in
theorem wX7_atom_H2 (X : CX p s m args meth c D cy ad iY cX7_atom 2 (wsG yX7_atom cX7_atom 2 none) RX7) (hr : meth.sig.returnType = none) : ∀ (n : Nat) (x1 : Int32) (M : Mem), fX7_atom_H2 n x1 M = some z → SW p l e rm_X7_atom s m args below meth c 0 0 (QX7_atom below D cy ad args s z) 2 (PH D cy ad iY s M) 2 [(0, .ref (ad 50)), (1, .int x1)] [] := by
  have hx := X.1
  have hb := X.2.1
  intro n
  induction n with
  | zero =>
    intro x1 M h
    have h : (none : Option (Mem)) = some z := h
    cases h
  | succ n ih =>
    intro x1 M h
    rw [fX7_atom_H2] at h
    refine sw_iload_n hx hb dX7_atom_2 1 rfl rfl ?_
    refine sw_iconst hx hb 4 dX7_atom_3 (by decide) ?_
    refine sw_icmp_ge hx hb 27 dX7_atom_4 (by decide) h (fun h => ?_) (fun h => ?_)
    · refine sw_aload_n hx hb dX7_atom_27 0 rfl rfl ?_
      refine sw_get X inG7 mi_50 (ce_7 (rfl : kd 50 = 7)) rfl 24 (by decide) (goodW wd428) rfl dX7_atom_28 ?_
      refine sw_aload_n hx hb dX7_atom_31 0 rfl rfl ?_
      refine sw_get X inG7 mi_50 (ce_7 (rfl : kd 50 = 7)) rfl 22 (by decide) (goodW wd424) rfl dX7_atom_32 ?_
      refine sw_lconst hx hb 0 dX7_atom_35 (by decide) ?_
      refine sw_last X mi_75 (rfl : kd 75 = 10) dX7_atom_36 h (fun M_1 h => ?_)
      refine sw_aload_n hx hb dX7_atom_37 0 rfl rfl ?_
      refine sw_dup hx hb dX7_atom_38 rfl ?_
      refine sw_get X inG7 mi_50 (ce_7 (rfl : kd 50 = 7)) rfl 22 (by decide) (goodW wd424) rfl dX7_atom_39 ?_
      refine sw_iconst hx hb 1 dX7_atom_42 (by decide) ?_
      refine sw_iadd hx hb dX7_atom_43 ?_
      refine sw_putI X tyX7 tyX7_ok nmX7 inG7 mi_50 (ce_7 (rfl : kd 50 = 7)) rfl 22 (by decide) (goodW wd424) rfl (by decide +kernel : parseFieldDescriptor _ = some .int) rfl rfl (Nat.le_of_ble_eq_true rfl) (pu_7_22 (rfl : kd 50 = 7) _) dX7_atom_44 h (fun M_2 h => ?_)
      exact sw_Vret X hr dX7_atom_47 h
    · refine sw_aload_n hx hb dX7_atom_7 0 rfl rfl ?_
      refine sw_get X inG7 mi_50 (ce_7 (rfl : kd 50 = 7)) rfl 23 (by decide) (goodW wd433) rfl dX7_atom_8 ?_
      refine sw_iconst hx hb 4 dX7_atom_11 (by decide) ?_
      refine sw_aload_n hx hb dX7_atom_12 0 rfl rfl ?_
      refine sw_get X inG7 mi_50 (ce_7 (rfl : kd 50 = 7)) rfl 22 (by decide) (goodW wd424) rfl dX7_atom_13 ?_
      refine sw_imul hx hb dX7_atom_16 ?_
      refine sw_iload_n hx hb dX7_atom_17 1 rfl rfl ?_
      refine sw_iadd hx hb dX7_atom_18 ?_
      refine sw_lconst hx hb 0 dX7_atom_19 (by decide) ?_
      refine sw_last X mi_74 (rfl : kd 74 = 10) dX7_atom_20 h (fun M_3 h => ?_)
      refine sw_iincN hx hb (k := 1) (x1 + 1) (fun x1_4 => [(1, .int x1_4), (0, .ref (ad 50))]) dX7_atom_21 rfl (by rfl) (by decide) (fun _ => rfl) h (fun x1_4 h => ?_)
      refine sw_goto hx hb 2 dX7_atom_24 (by decide) ?_
      refine sw_sub (lv1 := [(0, .ref (ad 50)), (1, .int x1_4)]) [1, 0] rfl ?_
      exact ih x1_4 M_3 h

set_option maxHeartbeats 4000000 in
set_option maxRecDepth 100000 in
theorem wX7_atom_E (X : CX p s m args meth c D cy ad iY cX7_atom 2 (wsG yX7_atom cX7_atom 2 none) RX7) (hr : meth.sig.returnType = none) (M : Mem) (h : fX7_atom M = some z) : SW p l e rm_X7_atom s m args below meth c 0 0 (QX7_atom below D cy ad args s z) 2 (PH D cy ad iY s M) 0 [(0, .ref (ad 50))] [] := by
  have hx := X.1
  have hb := X.2.1
  unfold fX7_atom at h
  refine sw_iconst hx hb 0 dX7_atom_0 (by decide) ?_
  refine sw_istore_n hx hb [(1, .int 0), (0, .ref (ad 50))] dX7_atom_1 rfl (by decide) rfl ?_
  refine sw_sub (lv1 := [(0, .ref (ad 50)), (1, .int 0)]) [1, 0] rfl ?_
  exact wX7_atom_H2 X hr FU 0 M h

end
theorem okX7_atom (l : Launch) {D : va_G} {cy : Nat → ClassId} {ad : Nat → Nat} (hD : ∀ M : Mem, va_D (AA ad iY) (wl cy ad iY M)) (M : Mem) (z : Mem) (h : fX7_atom M = some z) : CTV l yX7_atom (wsG yX7_atom cX7_atom 2 none) rm_X7_atom D cy ad iY [.ref (ad 50)] M z :=
  met_of (cc := cX7_atom) (maxL := 2) (ret := none) (own := RX7) (by decide) rfl rfl hD ndY (Nat.le_of_ble_eq_true rfl) (fun p e s m below meth c X hr => wX7_atom_E X hr M h)
