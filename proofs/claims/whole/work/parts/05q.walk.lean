abbrev QX7_wordsWithin (below : List Frame) (D : va_G) (cy : Nat → ClassId) (ad : Nat → Nat) (args : Array Value) (s : State) (z : Mem) : State → Prop := MQ below (va_Qv (fun u => u = z) (BB D cy ad iY) (AA ad iY)) args s 0 0 (AA ad iY)
section
variable {p : Program} {l : Launch} {e : Env} {s : State} {m : MethodId} {args : Array Value} {below : List Frame} {meth : Method} {c : Code} {D : va_G} {cy : Nat → ClassId} {ad : Nat → Nat} {z : Mem}
set_option maxHeartbeats 4000000 in
set_option maxRecDepth 100000 in
theorem wX7_wordsWithin_L58 (X : CX p s m args meth c D cy ad iY cX7_wordsWithin 5 (wsG yX7_wordsWithin cX7_wordsWithin 5 none) RX7) (hr : meth.sig.returnType = none) (k2 : Int32 → Int32 → Mem → Option (Mem)) (hk2 : ∀ (x2 : Int32) (x3 : Int32) (M : Mem), k2 x2 x3 M = some z → SW p l e rm_X7_wordsWithin s m args below meth c 0 0 (QX7_wordsWithin below D cy ad args s z) 5 (PH D cy ad iY s M) 2 [(0, .ref (ad 50)), (2, .int x2), (3, .int x3)] []) (x2 : Int32) (y0 : Int32) (M : Mem) (h : fX7_wordsWithin_L58 k2 x2 y0 M = some z) : SW p l e rm_X7_wordsWithin s m args below meth c 0 0 (QX7_wordsWithin below D cy ad args s z) 5 (PH D cy ad iY s M) 58 [(0, .ref (ad 50)), (2, .int x2)] [.int y0] := by
  have hx := X.1
  have hb := X.2.1
  unfold fX7_wordsWithin_L58 at h
  refine sw_istore_n hx hb [(3, .int y0), (0, .ref (ad 50)), (2, .int x2)] dX7_wordsWithin_58 rfl (by decide) rfl ?_
  refine sw_goto hx hb 2 dX7_wordsWithin_59 (by decide) ?_
  refine sw_sub (lv1 := [(0, .ref (ad 50)), (2, .int x2), (3, .int y0)]) [1, 2, 0] rfl ?_
  exact hk2 x2 y0 M h

set_option maxHeartbeats 4000000 in
set_option maxRecDepth 100000 in
theorem wX7_wordsWithin_L44 (X : CX p s m args meth c D cy ad iY cX7_wordsWithin 5 (wsG yX7_wordsWithin cX7_wordsWithin 5 none) RX7) (hr : meth.sig.returnType = none) (k2 : Int32 → Int32 → Mem → Option (Mem)) (hk2 : ∀ (x2 : Int32) (x3 : Int32) (M : Mem), k2 x2 x3 M = some z → SW p l e rm_X7_wordsWithin s m args below meth c 0 0 (QX7_wordsWithin below D cy ad args s z) 5 (PH D cy ad iY s M) 2 [(0, .ref (ad 50)), (2, .int x2), (3, .int x3)] []) (x2 : Int32) (x3 : Int32) (x4 : Int32) (M : Mem) (h : fX7_wordsWithin_L44 k2 x2 x3 x4 M = some z) : SW p l e rm_X7_wordsWithin s m args below meth c 0 0 (QX7_wordsWithin below D cy ad args s z) 5 (PH D cy ad iY s M) 44 [(0, .ref (ad 50)), (2, .int x2), (3, .int x3), (4, .int x4)] [] := by
  have hx := X.1
  have hb := X.2.1
  unfold fX7_wordsWithin_L44 at h
  refine sw_iload hx hb dX7_wordsWithin_44 3 rfl ?_
  refine sw_iload_n hx hb dX7_wordsWithin_46 2 rfl rfl ?_
  refine sw_icmp_le hx hb 55 dX7_wordsWithin_47 (by decide) h (fun h => ?_) (fun h => ?_)
  · refine sw_iload_n hx hb dX7_wordsWithin_55 2 rfl rfl ?_
    refine sw_iconst hx hb 1 dX7_wordsWithin_56 (by decide) ?_
    refine sw_iadd hx hb dX7_wordsWithin_57 ?_
    refine sw_sub (lv1 := [(0, .ref (ad 50)), (2, .int x2)]) [0, 1] rfl ?_
    exact wX7_wordsWithin_L58 X hr k2 hk2 x2 (x3 + 1) M h
  · refine sw_iload hx hb dX7_wordsWithin_50 3 rfl ?_
    refine sw_goto hx hb 58 dX7_wordsWithin_52 (by decide) ?_
    refine sw_sub (lv1 := [(0, .ref (ad 50)), (2, .int x2)]) [0, 1] rfl ?_
    exact wX7_wordsWithin_L58 X hr k2 hk2 x2 x4 M h

set_option maxHeartbeats 4000000 in
set_option maxRecDepth 100000 in
theorem wX7_wordsWithin_L31 (X : CX p s m args meth c D cy ad iY cX7_wordsWithin 5 (wsG yX7_wordsWithin cX7_wordsWithin 5 none) RX7) (hr : meth.sig.returnType = none) (k2 : Int32 → Int32 → Mem → Option (Mem)) (hk2 : ∀ (x2 : Int32) (x3 : Int32) (M : Mem), k2 x2 x3 M = some z → SW p l e rm_X7_wordsWithin s m args below meth c 0 0 (QX7_wordsWithin below D cy ad args s z) 5 (PH D cy ad iY s M) 2 [(0, .ref (ad 50)), (2, .int x2), (3, .int x3)] []) (x2 : Int32) (x3 : Int32) (x4 : Int32) (M : Mem) (h : fX7_wordsWithin_L31 k2 x2 x3 x4 M = some z) : SW p l e rm_X7_wordsWithin s m args below meth c 0 0 (QX7_wordsWithin below D cy ad args s z) 5 (PH D cy ad iY s M) 31 [(0, .ref (ad 50)), (2, .int x2), (3, .int x3), (4, .int x4)] [] := by
  have hx := X.1
  have hb := X.2.1
  unfold fX7_wordsWithin_L31 at h
  refine sw_iload hx hb dX7_wordsWithin_31 3 rfl ?_
  refine sw_iload_n hx hb dX7_wordsWithin_33 2 rfl rfl ?_
  refine sw_icmp_le hx hb 44 dX7_wordsWithin_34 (by decide) h (fun h => ?_) (fun h => ?_)
  · refine sw_sub (lv1 := [(0, .ref (ad 50)), (2, .int x2), (3, .int x3), (4, .int x4)]) [0, 1, 2, 3] rfl ?_
    exact wX7_wordsWithin_L44 X hr k2 hk2 x2 x3 x4 M h
  · refine sw_aload_n hx hb dX7_wordsWithin_37 0 rfl rfl ?_
    refine sw_iload_n hx hb dX7_wordsWithin_38 2 rfl rfl ?_
    refine sw_iload hx hb dX7_wordsWithin_39 3 rfl ?_
    refine sw_callVV (C := RX7) (As := [.int x3, .int x4]) (rest := []) X mi_50 (ce_7 (rfl : kd 50 = 7)) rfl rfl (fun _ hz => okX7_tokenOf l X.2.2.2.2.2.2.1 x3 x4 M _ hz) (cwX7_230 X.2.2.2.2.1 ⟨Nat.le_of_ble_eq_true rfl, Nat.le_of_ble_eq_true rfl⟩)  rfl rfl (Nat.le_of_ble_eq_true rfl) dX7_wordsWithin_41 ⟨Nat.le_of_ble_eq_true rfl, Nat.le_of_ble_eq_true rfl⟩ h (fun M_1 _ h => ?_)
    refine sw_sub (lv1 := [(0, .ref (ad 50)), (2, .int x2), (3, .int x3), (4, .int x4)]) [0, 1, 2, 3] rfl ?_
    exact wX7_wordsWithin_L44 X hr k2 hk2 x2 x3 x4 M_1 h

set_option maxHeartbeats 4000000 in
set_option maxRecDepth 100000 in
theorem wX7_wordsWithin_H10 (X : CX p s m args meth c D cy ad iY cX7_wordsWithin 5 (wsG yX7_wordsWithin cX7_wordsWithin 5 none) RX7) (hr : meth.sig.returnType = none) (k2 : Int32 → Int32 → Mem → Option (Mem)) (hk2 : ∀ (x2 : Int32) (x3 : Int32) (M : Mem), k2 x2 x3 M = some z → SW p l e rm_X7_wordsWithin s m args below meth c 0 0 (QX7_wordsWithin below D cy ad args s z) 5 (PH D cy ad iY s M) 2 [(0, .ref (ad 50)), (2, .int x2), (3, .int x3)] []) : ∀ (n : Nat) (x2 : Int32) (x3 : Int32) (x4 : Int32) (M : Mem), fX7_wordsWithin_H10 k2 n x2 x3 x4 M = some z → SW p l e rm_X7_wordsWithin s m args below meth c 0 0 (QX7_wordsWithin below D cy ad args s z) 5 (PH D cy ad iY s M) 10 [(0, .ref (ad 50)), (2, .int x2), (3, .int x3), (4, .int x4)] [] := by
  have hx := X.1
  have hb := X.2.1
  intro n
  induction n with
  | zero =>
    intro x2 x3 x4 M h
    have h : (none : Option (Mem)) = some z := h
    cases h
  | succ n ih =>
    intro x2 x3 x4 M h
    rw [fX7_wordsWithin_H10] at h
    refine sw_iload hx hb dX7_wordsWithin_10 3 rfl ?_
    refine sw_iload_n hx hb dX7_wordsWithin_12 1 rfl rfl ?_
    refine sw_icmp_ge hx hb 31 dX7_wordsWithin_13 (by decide) h (fun h => ?_) (fun h => ?_)
    · refine sw_sub (lv1 := [(0, .ref (ad 50)), (2, .int x2), (3, .int x3), (4, .int x4)]) [0, 1, 2, 3] rfl ?_
      exact wX7_wordsWithin_L31 X hr k2 hk2 x2 x3 x4 M h
    · refine sw_aload_n hx hb dX7_wordsWithin_16 0 rfl rfl ?_
      refine sw_iload hx hb dX7_wordsWithin_17 3 rfl ?_
      refine sw_callVI (C := RX7) (As := [.int x4]) (rest := []) X mi_50 (ce_7 (rfl : kd 50 = 7)) rfl rfl (fun _ hz => okX7_isOfWord l X.2.2.2.2.2.2.1 x4 M _ hz) (cwX7_227 X.2.2.2.2.1 ⟨Nat.le_of_ble_eq_true rfl, Nat.le_of_ble_eq_true rfl⟩)  rfl rfl (Nat.le_of_ble_eq_true rfl) dX7_wordsWithin_19 ⟨Nat.le_of_ble_eq_true rfl, Nat.le_of_ble_eq_true rfl⟩ h (fun v_4 M_3 _ h => ?_)
      refine sw_if_eq hx hb 31 dX7_wordsWithin_22 (by decide) h (fun h => ?_) (fun h => ?_)
      · refine sw_sub (lv1 := [(0, .ref (ad 50)), (2, .int x2), (3, .int x3), (4, .int x4)]) [0, 1, 2, 3] rfl ?_
        exact wX7_wordsWithin_L31 X hr k2 hk2 x2 x3 x4 M_3 h
      · refine sw_iincN hx hb (k := 3) (x4 + 1) (fun x4_5 => [(4, .int x4_5), (0, .ref (ad 50)), (2, .int x2), (3, .int x3)]) dX7_wordsWithin_25 rfl (by rfl) (by decide) (fun _ => rfl) h (fun x4_5 h => ?_)
        refine sw_goto hx hb 10 dX7_wordsWithin_28 (by decide) ?_
        refine sw_sub (lv1 := [(0, .ref (ad 50)), (2, .int x2), (3, .int x3), (4, .int x4_5)]) [1, 2, 3, 0] rfl ?_
        exact ih x2 x3 x4_5 M_3 h

set_option maxHeartbeats 4000000 in
set_option maxRecDepth 100000 in
theorem wX7_wordsWithin_H2 (X : CX p s m args meth c D cy ad iY cX7_wordsWithin 5 (wsG yX7_wordsWithin cX7_wordsWithin 5 none) RX7) (hr : meth.sig.returnType = none) : ∀ (n : Nat) (x2 : Int32) (x3 : Int32) (M : Mem), fX7_wordsWithin_H2 n x2 x3 M = some z → SW p l e rm_X7_wordsWithin s m args below meth c 0 0 (QX7_wordsWithin below D cy ad args s z) 5 (PH D cy ad iY s M) 2 [(0, .ref (ad 50)), (2, .int x2), (3, .int x3)] [] := by
  have hx := X.1
  have hb := X.2.1
  intro n
  induction n with
  | zero =>
    intro x2 x3 M h
    have h : (none : Option (Mem)) = some z := h
    cases h
  | succ n ih =>
    intro x2 x3 M h
    rw [fX7_wordsWithin_H2] at h
    refine sw_iload_n hx hb dX7_wordsWithin_2 2 rfl rfl ?_
    refine sw_iload_n hx hb dX7_wordsWithin_3 1 rfl rfl ?_
    refine sw_icmp_ge hx hb 62 dX7_wordsWithin_4 (by decide) h (fun h => ?_) (fun h => ?_)
    · exact sw_Vret X hr dX7_wordsWithin_62 h
    · refine sw_iload_n hx hb dX7_wordsWithin_7 2 rfl rfl ?_
      refine sw_istore hx hb [(4, .int x3), (0, .ref (ad 50)), (2, .int x2), (3, .int x3)] dX7_wordsWithin_8 (by decide) rfl ?_
      refine sw_sub (lv1 := [(0, .ref (ad 50)), (2, .int x2), (3, .int x3), (4, .int x3)]) [1, 2, 3, 0] rfl ?_
      exact wX7_wordsWithin_H10 X hr (fX7_wordsWithin_H2 n) ih FU x2 x3 x3 M h

set_option maxHeartbeats 4000000 in
set_option maxRecDepth 100000 in
theorem wX7_wordsWithin_E (X : CX p s m args meth c D cy ad iY cX7_wordsWithin 5 (wsG yX7_wordsWithin cX7_wordsWithin 5 none) RX7) (hr : meth.sig.returnType = none) (x1 : Int32) (x2 : Int32) (M : Mem) (h : fX7_wordsWithin x1 x2 M = some z) : SW p l e rm_X7_wordsWithin s m args below meth c 0 0 (QX7_wordsWithin below D cy ad args s z) 5 (PH D cy ad iY s M) 0 [(0, .ref (ad 50)), (1, .int x1), (2, .int x2)] [] := by
  have hx := X.1
  have hb := X.2.1
  unfold fX7_wordsWithin at h
  refine sw_iload_n hx hb dX7_wordsWithin_0 1 rfl rfl ?_
  refine sw_istore_n hx hb [(3, .int x1), (0, .ref (ad 50)), (1, .int x1), (2, .int x2)] dX7_wordsWithin_1 rfl (by decide) rfl ?_
  refine sw_sub (lv1 := [(0, .ref (ad 50)), (2, .int x2), (3, .int x1)]) [1, 3, 0] rfl ?_
  exact wX7_wordsWithin_H2 X hr FU x2 x1 M h

end
theorem okX7_wordsWithin (l : Launch) {D : va_G} {cy : Nat → ClassId} {ad : Nat → Nat} (hD : ∀ M : Mem, va_D (AA ad iY) (wl cy ad iY M)) (x1 : Int32) (x2 : Int32) (M : Mem) (z : Mem) (h : fX7_wordsWithin x1 x2 M = some z) : CTV l yX7_wordsWithin (wsG yX7_wordsWithin cX7_wordsWithin 5 none) rm_X7_wordsWithin D cy ad iY [.ref (ad 50), .int x1, .int x2] M z :=
  met_of (cc := cX7_wordsWithin) (maxL := 5) (ret := none) (own := RX7) (by decide) rfl rfl hD ndY (Nat.le_of_ble_eq_true rfl) (fun p e s m below meth c X hr => wX7_wordsWithin_E X hr x1 x2 M h)
abbrev QX7_paths (below : List Frame) (D : va_G) (cy : Nat → ClassId) (ad : Nat → Nat) (args : Array Value) (s : State) (z : Mem) : State → Prop := MQ below (va_Qv (fun u => u = z) (BB D cy ad iY) (AA ad iY)) args s 0 0 (AA ad iY)
section
variable {p : Program} {l : Launch} {e : Env} {s : State} {m : MethodId} {args : Array Value} {below : List Frame} {meth : Method} {c : Code} {D : va_G} {cy : Nat → ClassId} {ad : Nat → Nat} {z : Mem}
set_option maxHeartbeats 4000000 in
set_option maxRecDepth 100000 in
theorem wX7_paths_L26 (X : CX p s m args meth c D cy ad iY cX7_paths 4 (wsG yX7_paths cX7_paths 4 none) RX7) (hr : meth.sig.returnType = none) (k4 : Int32 → Int32 → Int32 → Mem → Option (Mem)) (hk4 : ∀ (x1 : Int32) (x2 : Int32) (x3 : Int32) (M : Mem), k4 x1 x2 x3 M = some z → SW p l e rm_X7_paths s m args below meth c 0 0 (QX7_paths below D cy ad args s z) 4 (PH D cy ad iY s M) 4 [(0, .ref (ad 50)), (1, .int x1), (2, .int x2), (3, .int x3)] []) (x1 : Int32) (x2 : Int32) (x3 : Int32) (M : Mem) (h : fX7_paths_L26 k4 x1 x2 x3 M = some z) : SW p l e rm_X7_paths s m args below meth c 0 0 (QX7_paths below D cy ad args s z) 4 (PH D cy ad iY s M) 26 [(0, .ref (ad 50)), (1, .int x1), (2, .int x2), (3, .int x3)] [] := by
  have hx := X.1
  have hb := X.2.1
  unfold fX7_paths_L26 at h
  refine sw_iincN hx hb (k := 3) (x3 + 1) (fun x3_5 => [(3, .int x3_5), (0, .ref (ad 50)), (1, .int x1), (2, .int x2)]) dX7_paths_26 rfl (by rfl) (by decide) (fun _ => rfl) h (fun x3_5 h => ?_)
  refine sw_goto hx hb 4 dX7_paths_29 (by decide) ?_
  refine sw_sub (lv1 := [(0, .ref (ad 50)), (1, .int x1), (2, .int x2), (3, .int x3_5)]) [1, 2, 3, 0] rfl ?_
  exact hk4 x1 x2 x3_5 M h

set_option maxHeartbeats 4000000 in
set_option maxRecDepth 100000 in
theorem wX7_paths_H4 (X : CX p s m args meth c D cy ad iY cX7_paths 4 (wsG yX7_paths cX7_paths 4 none) RX7) (hr : meth.sig.returnType = none) : ∀ (n : Nat) (x1 : Int32) (x2 : Int32) (x3 : Int32) (M : Mem), fX7_paths_H4 n x1 x2 x3 M = some z → SW p l e rm_X7_paths s m args below meth c 0 0 (QX7_paths below D cy ad args s z) 4 (PH D cy ad iY s M) 4 [(0, .ref (ad 50)), (1, .int x1), (2, .int x2), (3, .int x3)] [] := by
  have hx := X.1
  have hb := X.2.1
  intro n
  induction n with
  | zero =>
    intro x1 x2 x3 M h
    have h : (none : Option (Mem)) = some z := h
    cases h
  | succ n ih =>
    intro x1 x2 x3 M h
    rw [fX7_paths_H4] at h
    refine sw_iload_n hx hb dX7_paths_4 3 rfl rfl ?_
    refine sw_iload_n hx hb dX7_paths_5 2 rfl rfl ?_
    refine sw_icmp_ge hx hb 32 dX7_paths_6 (by decide) h (fun h => ?_) (fun h => ?_)
    · refine sw_aload_n hx hb dX7_paths_32 0 rfl rfl ?_
      refine sw_iload_n hx hb dX7_paths_33 1 rfl rfl ?_
      refine sw_iload_n hx hb dX7_paths_34 2 rfl rfl ?_
      refine sw_callVV (C := RX7) (As := [.int x1, .int x2]) (rest := []) X mi_50 (ce_7 (rfl : kd 50 = 7)) rfl rfl (fun _ hz => okX7_tokenOf l X.2.2.2.2.2.2.1 x1 x2 M _ hz) (cwX7_230 X.2.2.2.2.1 ⟨Nat.le_of_ble_eq_true rfl, Nat.le_of_ble_eq_true rfl⟩)  rfl rfl (Nat.le_of_ble_eq_true rfl) dX7_paths_35 ⟨Nat.le_of_ble_eq_true rfl, Nat.le_of_ble_eq_true rfl⟩ h (fun M_2 _ h => ?_)
      exact sw_Vret X hr dX7_paths_38 h
    · refine sw_aload_n hx hb dX7_paths_9 0 rfl rfl ?_
      refine sw_get X inG7 mi_50 (ce_7 (rfl : kd 50 = 7)) rfl 2 (by decide) (goodW wd409) rfl dX7_paths_10 ?_
      refine sw_iload_n hx hb dX7_paths_13 3 rfl rfl ?_
      refine sw_iald X mi_53 (rfl : kd 53 = 9) dX7_paths_14 h (fun v_4 h => ?_)
      refine sw_bipush hx hb 47 dX7_paths_15 (by decide) ?_
      refine sw_icmp_ne hx hb 26 dX7_paths_17 (by decide) h (fun h => ?_) (fun h => ?_)
      · refine sw_sub (lv1 := [(0, .ref (ad 50)), (1, .int x1), (2, .int x2), (3, .int x3)]) [0, 1, 2, 3] rfl ?_
        exact wX7_paths_L26 X hr (fX7_paths_H4 n) ih x1 x2 x3 M h
      · refine sw_aload_n hx hb dX7_paths_20 0 rfl rfl ?_
        refine sw_iload_n hx hb dX7_paths_21 1 rfl rfl ?_
        refine sw_iload_n hx hb dX7_paths_22 3 rfl rfl ?_
        refine sw_callVV (C := RX7) (As := [.int x1, .int x3]) (rest := []) X mi_50 (ce_7 (rfl : kd 50 = 7)) rfl rfl (fun _ hz => okX7_tokenOf l X.2.2.2.2.2.2.1 x1 x3 M _ hz) (cwX7_230 X.2.2.2.2.1 ⟨Nat.le_of_ble_eq_true rfl, Nat.le_of_ble_eq_true rfl⟩)  rfl rfl (Nat.le_of_ble_eq_true rfl) dX7_paths_23 ⟨Nat.le_of_ble_eq_true rfl, Nat.le_of_ble_eq_true rfl⟩ h (fun M_6 _ h => ?_)
        refine sw_sub (lv1 := [(0, .ref (ad 50)), (1, .int x1), (2, .int x2), (3, .int x3)]) [0, 1, 2, 3] rfl ?_
        exact wX7_paths_L26 X hr (fX7_paths_H4 n) ih x1 x2 x3 M_6 h

set_option maxHeartbeats 4000000 in
set_option maxRecDepth 100000 in
theorem wX7_paths_E (X : CX p s m args meth c D cy ad iY cX7_paths 4 (wsG yX7_paths cX7_paths 4 none) RX7) (hr : meth.sig.returnType = none) (x1 : Int32) (x2 : Int32) (M : Mem) (h : fX7_paths x1 x2 M = some z) : SW p l e rm_X7_paths s m args below meth c 0 0 (QX7_paths below D cy ad args s z) 4 (PH D cy ad iY s M) 0 [(0, .ref (ad 50)), (1, .int x1), (2, .int x2)] [] := by
  have hx := X.1
  have hb := X.2.1
  unfold fX7_paths at h
  refine sw_iload_n hx hb dX7_paths_0 1 rfl rfl ?_
  refine sw_iconst hx hb 1 dX7_paths_1 (by decide) ?_
  refine sw_iadd hx hb dX7_paths_2 ?_
  refine sw_istore_nN hx hb (fun x3_1 => [(3, .int x3_1), (0, .ref (ad 50)), (1, .int x1), (2, .int x2)]) dX7_paths_3 rfl (by decide) (fun _ => rfl) h (fun x3_1 h => ?_)
  refine sw_sub (lv1 := [(0, .ref (ad 50)), (1, .int x1), (2, .int x2), (3, .int x3_1)]) [1, 2, 3, 0] rfl ?_
  exact wX7_paths_H4 X hr FU x1 x2 x3_1 M h

end
theorem okX7_paths (l : Launch) {D : va_G} {cy : Nat → ClassId} {ad : Nat → Nat} (hD : ∀ M : Mem, va_D (AA ad iY) (wl cy ad iY M)) (x1 : Int32) (x2 : Int32) (M : Mem) (z : Mem) (h : fX7_paths x1 x2 M = some z) : CTV l yX7_paths (wsG yX7_paths cX7_paths 4 none) rm_X7_paths D cy ad iY [.ref (ad 50), .int x1, .int x2] M z :=
  met_of (cc := cX7_paths) (maxL := 4) (ret := none) (own := RX7) (by decide) rfl rfl hD ndY (Nat.le_of_ble_eq_true rfl) (fun p e s m below meth c X hr => wX7_paths_E X hr x1 x2 M h)
abbrev QX7_isStrange (below : List Frame) (D : va_G) (cy : Nat → ClassId) (ad : Nat → Nat) (args : Array Value) (s : State) (z : Int32 × Mem) : State → Prop := MQ below (va_Qi (fun r u => r = z.1 ∧ u = z.2) (BB D cy ad iY) (AA ad iY)) args s 0 0 (AA ad iY)
section
variable {p : Program} {l : Launch} {e : Env} {s : State} {m : MethodId} {args : Array Value} {below : List Frame} {meth : Method} {c : Code} {D : va_G} {cy : Nat → ClassId} {ad : Nat → Nat} {z : Int32 × Mem}
set_option maxHeartbeats 4000000 in
set_option maxRecDepth 100000 in
theorem wX7_isStrange_E (X : CX p s m args meth c D cy ad iY cX7_isStrange 3 (wsG yX7_isStrange cX7_isStrange 3 (some .boolean)) RX7) (hr : meth.sig.returnType = (some .boolean)) (x1 : Int32) (x2 : Int32) (M : Mem) (h : fX7_isStrange x1 x2 M = some z) : SW p l e rm_X7_isStrange s m args below meth c 0 0 (QX7_isStrange below D cy ad args s z) 3 (PH D cy ad iY s M) 0 [(0, .ref (ad 50)), (1, .int x1), (2, .int x2)] [] := by
  have hx := X.1
  have hb := X.2.1
  unfold fX7_isStrange at h
  refine sw_aload_n hx hb dX7_isStrange_0 0 rfl rfl ?_
  refine sw_get X inG7 mi_50 (ce_7 (rfl : kd 50 = 7)) rfl 41 (by decide) (goodW wd492) rfl dX7_isStrange_1 ?_
  refine sw_iload_n hx hb dX7_isStrange_4 1 rfl rfl ?_
  refine sw_iald X mi_92 (rfl : kd 92 = 9) dX7_isStrange_5 h (fun v_1 h => ?_)
  refine sw_iconst hx hb 1 dX7_isStrange_6 (by decide) ?_
  refine sw_icmp_ne hx hb 26 dX7_isStrange_7 (by decide) h (fun h => ?_) (fun h => ?_)
  · refine sw_iconst hx hb 0 dX7_isStrange_26 (by decide) ?_
    exact sw_Zret X hr dX7_isStrange_27 h
  · refine sw_aload_n hx hb dX7_isStrange_10 0 rfl rfl ?_
    refine sw_iload_n hx hb dX7_isStrange_11 1 rfl rfl ?_
    refine sw_iconst hx hb 1 dX7_isStrange_12 (by decide) ?_
    refine sw_iload_n hx hb dX7_isStrange_13 2 rfl rfl ?_
    refine sw_callVI (C := RX7) (As := [.int x1, .int 1, .int x2]) (rest := []) X mi_50 (ce_7 (rfl : kd 50 = 7)) rfl rfl (fun _ hz => okX7_wordAt l X.2.2.2.2.2.2.1 x1 1 x2 M _ hz) (cwX7_192 X.2.2.2.2.1 ⟨Nat.le_of_ble_eq_true rfl, Nat.le_of_ble_eq_true rfl⟩)  rfl rfl (Nat.le_of_ble_eq_true rfl) dX7_isStrange_14 ⟨Nat.le_of_ble_eq_true rfl, Nat.le_of_ble_eq_true rfl⟩ h (fun v_3 M_2 _ h => ?_)
    refine sw_bipush hx hb (-2) dX7_isStrange_17 (by decide) ?_
    refine sw_icmp_ne hx hb 26 dX7_isStrange_19 (by decide) h (fun h => ?_) (fun h => ?_)
    · refine sw_iconst hx hb 0 dX7_isStrange_26 (by decide) ?_
      exact sw_Zret X hr dX7_isStrange_27 h
    · refine sw_iconst hx hb 1 dX7_isStrange_22 (by decide) ?_
      refine sw_goto hx hb 27 dX7_isStrange_23 (by decide) ?_
      exact sw_Zret X hr dX7_isStrange_27 h

end
theorem okX7_isStrange (l : Launch) {D : va_G} {cy : Nat → ClassId} {ad : Nat → Nat} (hD : ∀ M : Mem, va_D (AA ad iY) (wl cy ad iY M)) (x1 : Int32) (x2 : Int32) (M : Mem) (z : Int32 × Mem) (h : fX7_isStrange x1 x2 M = some z) : CTI l yX7_isStrange (wsG yX7_isStrange cX7_isStrange 3 (some .boolean)) rm_X7_isStrange D cy ad iY [.ref (ad 50), .int x1, .int x2] M z :=
  met_of (cc := cX7_isStrange) (maxL := 3) (ret := (some .boolean)) (own := RX7) (by decide) rfl rfl hD ndY (Nat.le_of_ble_eq_true rfl) (fun p e s m below meth c X hr => wX7_isStrange_E X hr x1 x2 M h)
abbrev QX7_dictionary (below : List Frame) (D : va_G) (cy : Nat → ClassId) (ad : Nat → Nat) (args : Array Value) (s : State) (z : Mem) : State → Prop := MQ below (va_Qv (fun u => u = z) (BB D cy ad iY) (AA ad iY)) args s 0 0 (AA ad iY)
section
variable {p : Program} {l : Launch} {e : Env} {s : State} {m : MethodId} {args : Array Value} {below : List Frame} {meth : Method} {c : Code} {D : va_G} {cy : Nat → ClassId} {ad : Nat → Nat} {z : Mem}
set_option maxHeartbeats 4000000 in
set_option maxRecDepth 100000 in
theorem wX7_dictionary_L54 (X : CX p s m args meth c D cy ad iY cX7_dictionary 5 (wsG yX7_dictionary cX7_dictionary 5 none) RX7) (hr : meth.sig.returnType = none) (k8 : Int32 → Int32 → Mem → Option (Mem)) (hk8 : ∀ (x2 : Int32) (x3 : Int32) (M : Mem), k8 x2 x3 M = some z → SW p l e rm_X7_dictionary s m args below meth c 0 0 (QX7_dictionary below D cy ad args s z) 5 (PH D cy ad iY s M) 8 [(0, .ref (ad 50)), (2, .int x2), (3, .int x3)] []) (x2 : Int32) (x3 : Int32) (x4 : Int32) (M : Mem) (h : fX7_dictionary_L54 k8 x2 x3 x4 M = some z) : SW p l e rm_X7_dictionary s m args below meth c 0 0 (QX7_dictionary below D cy ad args s z) 5 (PH D cy ad iY s M) 54 [(0, .ref (ad 50)), (2, .int x2), (3, .int x3), (4, .int x4)] [] := by
  have hx := X.1
  have hb := X.2.1
  unfold fX7_dictionary_L54 at h
  refine sw_aload_n hx hb dX7_dictionary_54 0 rfl rfl ?_
  refine sw_iload_n hx hb dX7_dictionary_55 2 rfl rfl ?_
  refine sw_iload hx hb dX7_dictionary_56 3 rfl ?_
  refine sw_callVV (C := RX7) (As := [.int x3, .int x4]) (rest := []) X mi_50 (ce_7 (rfl : kd 50 = 7)) rfl rfl (fun _ hz => okX7_tokenOf l X.2.2.2.2.2.2.1 x3 x4 M _ hz) (cwX7_230 X.2.2.2.2.1 ⟨Nat.le_of_ble_eq_true rfl, Nat.le_of_ble_eq_true rfl⟩)  rfl rfl (Nat.le_of_ble_eq_true rfl) dX7_dictionary_58 ⟨Nat.le_of_ble_eq_true rfl, Nat.le_of_ble_eq_true rfl⟩ h (fun M_7 _ h => ?_)
  refine sw_iload hx hb dX7_dictionary_61 3 rfl ?_
  refine sw_istore_n hx hb [(3, .int x4), (0, .ref (ad 50)), (2, .int x2), (4, .int x4)] dX7_dictionary_63 rfl (by decide) rfl ?_
  refine sw_goto hx hb 8 dX7_dictionary_64 (by decide) ?_
  refine sw_sub (lv1 := [(0, .ref (ad 50)), (2, .int x2), (3, .int x4)]) [1, 2, 0] rfl ?_
  exact hk8 x2 x4 M_7 h

set_option maxHeartbeats 4000000 in
set_option maxRecDepth 100000 in
theorem wX7_dictionary_H32 (X : CX p s m args meth c D cy ad iY cX7_dictionary 5 (wsG yX7_dictionary cX7_dictionary 5 none) RX7) (hr : meth.sig.returnType = none) (k8 : Int32 → Int32 → Mem → Option (Mem)) (hk8 : ∀ (x2 : Int32) (x3 : Int32) (M : Mem), k8 x2 x3 M = some z → SW p l e rm_X7_dictionary s m args below meth c 0 0 (QX7_dictionary below D cy ad args s z) 5 (PH D cy ad iY s M) 8 [(0, .ref (ad 50)), (2, .int x2), (3, .int x3)] []) : ∀ (n : Nat) (x2 : Int32) (x3 : Int32) (x4 : Int32) (M : Mem), fX7_dictionary_H32 k8 n x2 x3 x4 M = some z → SW p l e rm_X7_dictionary s m args below meth c 0 0 (QX7_dictionary below D cy ad args s z) 5 (PH D cy ad iY s M) 32 [(0, .ref (ad 50)), (2, .int x2), (3, .int x3), (4, .int x4)] [] := by
  have hx := X.1
  have hb := X.2.1
  intro n
  induction n with
  | zero =>
    intro x2 x3 x4 M h
    have h : (none : Option (Mem)) = some z := h
    cases h
  | succ n ih =>
    intro x2 x3 x4 M h
    rw [fX7_dictionary_H32] at h
    refine sw_iload hx hb dX7_dictionary_32 3 rfl ?_
    refine sw_iload_n hx hb dX7_dictionary_34 1 rfl rfl ?_
    refine sw_icmp_ge hx hb 54 dX7_dictionary_35 (by decide) h (fun h => ?_) (fun h => ?_)
    · refine sw_sub (lv1 := [(0, .ref (ad 50)), (2, .int x2), (3, .int x3), (4, .int x4)]) [0, 1, 2, 3] rfl ?_
      exact wX7_dictionary_L54 X hr k8 hk8 x2 x3 x4 M h
    · refine sw_aload_n hx hb dX7_dictionary_38 0 rfl rfl ?_
      refine sw_iload hx hb dX7_dictionary_39 3 rfl ?_
      refine sw_iload_n hx hb dX7_dictionary_41 1 rfl rfl ?_
      refine sw_callVI (C := RX7) (As := [.int x4, .int x2]) (rest := []) X mi_50 (ce_7 (rfl : kd 50 = 7)) rfl rfl (fun _ hz => okX7_isStrange l X.2.2.2.2.2.2.1 x4 x2 M _ hz) (cwX7_233 X.2.2.2.2.1 ⟨Nat.le_of_ble_eq_true rfl, Nat.le_of_ble_eq_true rfl⟩)  rfl rfl (Nat.le_of_ble_eq_true rfl) dX7_dictionary_42 ⟨Nat.le_of_ble_eq_true rfl, Nat.le_of_ble_eq_true rfl⟩ h (fun v_10 M_9 _ h => ?_)
      refine sw_if_eq hx hb 54 dX7_dictionary_45 (by decide) h (fun h => ?_) (fun h => ?_)
      · refine sw_sub (lv1 := [(0, .ref (ad 50)), (2, .int x2), (3, .int x3), (4, .int x4)]) [0, 1, 2, 3] rfl ?_
        exact wX7_dictionary_L54 X hr k8 hk8 x2 x3 x4 M_9 h
      · refine sw_iincN hx hb (k := 3) (x4 + 1) (fun x4_11 => [(4, .int x4_11), (0, .ref (ad 50)), (2, .int x2), (3, .int x3)]) dX7_dictionary_48 rfl (by rfl) (by decide) (fun _ => rfl) h (fun x4_11 h => ?_)
        refine sw_goto hx hb 32 dX7_dictionary_51 (by decide) ?_
        refine sw_sub (lv1 := [(0, .ref (ad 50)), (2, .int x2), (3, .int x3), (4, .int x4_11)]) [1, 2, 3, 0] rfl ?_
        exact ih x2 x3 x4_11 M_9 h

set_option maxHeartbeats 4000000 in
set_option maxRecDepth 100000 in
theorem wX7_dictionary_H8 (X : CX p s m args meth c D cy ad iY cX7_dictionary 5 (wsG yX7_dictionary cX7_dictionary 5 none) RX7) (hr : meth.sig.returnType = none) : ∀ (n : Nat) (x2 : Int32) (x3 : Int32) (M : Mem), fX7_dictionary_H8 n x2 x3 M = some z → SW p l e rm_X7_dictionary s m args below meth c 0 0 (QX7_dictionary below D cy ad args s z) 5 (PH D cy ad iY s M) 8 [(0, .ref (ad 50)), (2, .int x2), (3, .int x3)] [] := by
  have hx := X.1
  have hb := X.2.1
  intro n
  induction n with
  | zero =>
    intro x2 x3 M h
    have h : (none : Option (Mem)) = some z := h
    cases h
  | succ n ih =>
    intro x2 x3 M h
    rw [fX7_dictionary_H8] at h
    refine sw_iload_n hx hb dX7_dictionary_8 2 rfl rfl ?_
    refine sw_iload_n hx hb dX7_dictionary_9 1 rfl rfl ?_
    refine sw_icmp_ge hx hb 67 dX7_dictionary_10 (by decide) h (fun h => ?_) (fun h => ?_)
    · exact sw_Vret X hr dX7_dictionary_67 h
    · refine sw_iload_n hx hb dX7_dictionary_13 2 rfl rfl ?_
      refine sw_aload_n hx hb dX7_dictionary_14 0 rfl rfl ?_
      refine sw_get X inG7 mi_50 (ce_7 (rfl : kd 50 = 7)) rfl 41 (by decide) (goodW wd492) rfl dX7_dictionary_15 ?_
      refine sw_iload_n hx hb dX7_dictionary_18 2 rfl rfl ?_
      refine sw_iald X mi_92 (rfl : kd 92 = 9) dX7_dictionary_19 h (fun v_3 h => ?_)
      refine sw_iadd hx hb dX7_dictionary_20 ?_
      refine sw_istoreN hx hb (fun x4_4 => [(4, .int x4_4), (0, .ref (ad 50)), (2, .int x2), (3, .int x3)]) dX7_dictionary_21 (by decide) (fun _ => rfl) h (fun x4_4 h => ?_)
      refine sw_aload_n hx hb dX7_dictionary_23 1 rfl rfl ?_
      refine sw_iload_n hx hb dX7_dictionary_24 3 rfl rfl ?_
      refine sw_iload_n hx hb dX7_dictionary_25 2 rfl rfl ?_
      refine sw_callVI (C := RX7) (As := [.int x3, .int x2]) (rest := []) X mi_50 (ce_7 (rfl : kd 50 = 7)) rfl rfl (fun _ hz => okX7_isStrange l X.2.2.2.2.2.2.1 x3 x2 M _ hz) (cwX7_233 X.2.2.2.2.1 ⟨Nat.le_of_ble_eq_true rfl, Nat.le_of_ble_eq_true rfl⟩)  rfl rfl (Nat.le_of_ble_eq_true rfl) dX7_dictionary_26 ⟨Nat.le_of_ble_eq_true rfl, Nat.le_of_ble_eq_true rfl⟩ h (fun v_6 M_5 _ h => ?_)
      refine sw_if_eq hx hb 54 dX7_dictionary_29 (by decide) h (fun h => ?_) (fun h => ?_)
      · refine sw_sub (lv1 := [(0, .ref (ad 50)), (2, .int x2), (3, .int x3), (4, .int x4_4)]) [1, 2, 3, 0] rfl ?_
        exact wX7_dictionary_L54 X hr (fX7_dictionary_H8 n) ih x2 x3 x4_4 M_5 h
      · refine sw_sub (lv1 := [(0, .ref (ad 50)), (2, .int x2), (3, .int x3), (4, .int x4_4)]) [1, 2, 3, 0] rfl ?_
        exact wX7_dictionary_H32 X hr (fX7_dictionary_H8 n) ih FU x2 x3 x4_4 M_5 h

set_option maxHeartbeats 4000000 in
set_option maxRecDepth 100000 in
theorem wX7_dictionary_E (X : CX p s m args meth c D cy ad iY cX7_dictionary 5 (wsG yX7_dictionary cX7_dictionary 5 none) RX7) (hr : meth.sig.returnType = none) (x1 : Int32) (x2 : Int32) (M : Mem) (h : fX7_dictionary x1 x2 M = some z) : SW p l e rm_X7_dictionary s m args below meth c 0 0 (QX7_dictionary below D cy ad args s z) 5 (PH D cy ad iY s M) 0 [(0, .ref (ad 50)), (1, .int x1), (2, .int x2)] [] := by
  have hx := X.1
  have hb := X.2.1
  unfold fX7_dictionary at h
  refine sw_aload_n hx hb dX7_dictionary_0 0 rfl rfl ?_
  refine sw_iload_n hx hb dX7_dictionary_1 1 rfl rfl ?_
  refine sw_iload_n hx hb dX7_dictionary_2 2 rfl rfl ?_
  refine sw_callVV (C := RX7) (As := [.int x1, .int x2]) (rest := []) X mi_50 (ce_7 (rfl : kd 50 = 7)) rfl rfl (fun _ hz => okX7_ways l X.2.2.2.2.2.2.1 x1 x2 M _ hz) (cwX7_199 X.2.2.2.2.1 ⟨Nat.le_of_ble_eq_true rfl, Nat.le_of_ble_eq_true rfl⟩)  rfl rfl (Nat.le_of_ble_eq_true rfl) dX7_dictionary_3 ⟨Nat.le_of_ble_eq_true rfl, Nat.le_of_ble_eq_true rfl⟩ h (fun M_1 _ h => ?_)
  refine sw_iload_n hx hb dX7_dictionary_6 1 rfl rfl ?_
  refine sw_istore_n hx hb [(3, .int x1), (0, .ref (ad 50)), (1, .int x1), (2, .int x2)] dX7_dictionary_7 rfl (by decide) rfl ?_
  refine sw_sub (lv1 := [(0, .ref (ad 50)), (2, .int x2), (3, .int x1)]) [1, 3, 0] rfl ?_
  exact wX7_dictionary_H8 X hr FU x2 x1 M_1 h

end
theorem okX7_dictionary (l : Launch) {D : va_G} {cy : Nat → ClassId} {ad : Nat → Nat} (hD : ∀ M : Mem, va_D (AA ad iY) (wl cy ad iY M)) (x1 : Int32) (x2 : Int32) (M : Mem) (z : Mem) (h : fX7_dictionary x1 x2 M = some z) : CTV l yX7_dictionary (wsG yX7_dictionary cX7_dictionary 5 none) rm_X7_dictionary D cy ad iY [.ref (ad 50), .int x1, .int x2] M z :=
  met_of (cc := cX7_dictionary) (maxL := 5) (ret := none) (own := RX7) (by decide) rfl rfl hD ndY (Nat.le_of_ble_eq_true rfl) (fun p e s m below meth c X hr => wX7_dictionary_E X hr x1 x2 M h)
abbrev QX7_row (below : List Frame) (D : va_G) (cy : Nat → ClassId) (ad : Nat → Nat) (args : Array Value) (s : State) (z : Mem) : State → Prop := MQ below (va_Qv (fun u => u = z) (BB D cy ad iY) (AA ad iY)) args s 0 0 (AA ad iY)
section
variable {p : Program} {l : Launch} {e : Env} {s : State} {m : MethodId} {args : Array Value} {below : List Frame} {meth : Method} {c : Code} {D : va_G} {cy : Nat → ClassId} {ad : Nat → Nat} {z : Mem}
set_option maxHeartbeats 4000000 in
set_option maxRecDepth 100000 in
theorem wX7_row_L73 (X : CX p s m args meth c D cy ad iY cX7_row 7 (wsG yX7_row cX7_row 7 none) RX7) (hr : meth.sig.returnType = none) (x1 : Int32) (x2 : Int32) (M : Mem) (h : fX7_row_L73 x1 x2 M = some z) : SW p l e rm_X7_row s m args below meth c 0 0 (QX7_row below D cy ad args s z) 7 (PH D cy ad iY s M) 73 [(0, .ref (ad 50)), (1, .int x1), (2, .int x2)] [] := by
  have hx := X.1
  have hb := X.2.1
  unfold fX7_row_L73 at h
  refine sw_aload_n hx hb dX7_row_73 0 rfl rfl ?_
  refine sw_iload_n hx hb dX7_row_74 1 rfl rfl ?_
  refine sw_iload_n hx hb dX7_row_75 2 rfl rfl ?_
  refine sw_callVV (C := RX7) (As := [.int x1, .int x2]) (rest := []) X mi_50 (ce_7 (rfl : kd 50 = 7)) rfl rfl (fun _ hz => okX7_tokenOf l X.2.2.2.2.2.2.1 x1 x2 M _ hz) (cwX7_230 X.2.2.2.2.1 ⟨Nat.le_of_ble_eq_true rfl, Nat.le_of_ble_eq_true rfl⟩)  rfl rfl (Nat.le_of_ble_eq_true rfl) dX7_row_76 ⟨Nat.le_of_ble_eq_true rfl, Nat.le_of_ble_eq_true rfl⟩ h (fun M_1 _ h => ?_)
  refine sw_goto hx hb 217 dX7_row_79 (by decide) ?_
  exact sw_Vret X hr dX7_row_217 h

set_option maxHeartbeats 4000000 in
set_option maxRecDepth 100000 in
theorem wX7_row_L211 (X : CX p s m args meth c D cy ad iY cX7_row 7 (wsG yX7_row cX7_row 7 none) RX7) (hr : meth.sig.returnType = none) (x1 : Int32) (x2 : Int32) (M : Mem) (h : fX7_row_L211 x1 x2 M = some z) : SW p l e rm_X7_row s m args below meth c 0 0 (QX7_row below D cy ad args s z) 7 (PH D cy ad iY s M) 211 [(0, .ref (ad 50)), (1, .int x1), (2, .int x2)] [] := by
  have hx := X.1
  have hb := X.2.1
  unfold fX7_row_L211 at h
  refine sw_aload_n hx hb dX7_row_211 0 rfl rfl ?_
  refine sw_iload_n hx hb dX7_row_212 1 rfl rfl ?_
  refine sw_iload_n hx hb dX7_row_213 2 rfl rfl ?_
  refine sw_callVV (C := RX7) (As := [.int x1, .int x2]) (rest := []) X mi_50 (ce_7 (rfl : kd 50 = 7)) rfl rfl (fun _ hz => okX7_tokenOf l X.2.2.2.2.2.2.1 x1 x2 M _ hz) (cwX7_230 X.2.2.2.2.1 ⟨Nat.le_of_ble_eq_true rfl, Nat.le_of_ble_eq_true rfl⟩)  rfl rfl (Nat.le_of_ble_eq_true rfl) dX7_row_214 ⟨Nat.le_of_ble_eq_true rfl, Nat.le_of_ble_eq_true rfl⟩ h (fun M_7 _ h => ?_)
  exact sw_Vret X hr dX7_row_217 h

set_option maxHeartbeats 4000000 in
set_option maxRecDepth 100000 in
theorem wX7_row_L156 (X : CX p s m args meth c D cy ad iY cX7_row 7 (wsG yX7_row cX7_row 7 none) RX7) (hr : meth.sig.returnType = none) (M : Mem) (h : fX7_row_L156 M = some z) : SW p l e rm_X7_row s m args below meth c 0 0 (QX7_row below D cy ad args s z) 7 (PH D cy ad iY s M) 156 [] [] := by
  have hx := X.1
  have hb := X.2.1
  unfold fX7_row_L156 at h
  refine sw_goto hx hb 217 dX7_row_156 (by decide) ?_
  exact sw_Vret X hr dX7_row_217 h

set_option maxHeartbeats 4000000 in
set_option maxRecDepth 100000 in
theorem wX7_row_L150 (X : CX p s m args meth c D cy ad iY cX7_row 7 (wsG yX7_row cX7_row 7 none) RX7) (hr : meth.sig.returnType = none) (k94 : Int32 → Int32 → Int32 → Int32 → Int32 → Mem → Option (Mem)) (hk94 : ∀ (x1 : Int32) (x2 : Int32) (x3 : Int32) (x4 : Int32) (x5 : Int32) (M : Mem), k94 x1 x2 x3 x4 x5 M = some z → SW p l e rm_X7_row s m args below meth c 0 0 (QX7_row below D cy ad args s z) 7 (PH D cy ad iY s M) 94 [(0, .ref (ad 50)), (1, .int x1), (2, .int x2), (3, .int x3), (4, .int x4), (5, .int x5)] []) (x1 : Int32) (x2 : Int32) (x3 : Int32) (x4 : Int32) (x5 : Int32) (M : Mem) (h : fX7_row_L150 k94 x1 x2 x3 x4 x5 M = some z) : SW p l e rm_X7_row s m args below meth c 0 0 (QX7_row below D cy ad args s z) 7 (PH D cy ad iY s M) 150 [(0, .ref (ad 50)), (1, .int x1), (2, .int x2), (3, .int x3), (4, .int x4), (5, .int x5)] [] := by
  have hx := X.1
  have hb := X.2.1
  unfold fX7_row_L150 at h
  refine sw_iincN hx hb (k := 5) (x5 + 1) (fun x5_11 => [(5, .int x5_11), (0, .ref (ad 50)), (1, .int x1), (2, .int x2), (3, .int x3), (4, .int x4)]) dX7_row_150 rfl (by rfl) (by decide) (fun _ => rfl) h (fun x5_11 h => ?_)
  refine sw_goto hx hb 94 dX7_row_153 (by decide) ?_
  refine sw_sub (lv1 := [(0, .ref (ad 50)), (1, .int x1), (2, .int x2), (3, .int x3), (4, .int x4), (5, .int x5_11)]) [1, 2, 3, 4, 5, 0] rfl ?_
  exact hk94 x1 x2 x3 x4 x5_11 M h

set_option maxHeartbeats 4000000 in
set_option maxRecDepth 100000 in
theorem wX7_row_H117 (X : CX p s m args meth c D cy ad iY cX7_row 7 (wsG yX7_row cX7_row 7 none) RX7) (hr : meth.sig.returnType = none) (k94 : Int32 → Int32 → Int32 → Int32 → Int32 → Mem → Option (Mem)) (hk94 : ∀ (x1 : Int32) (x2 : Int32) (x3 : Int32) (x4 : Int32) (x5 : Int32) (M : Mem), k94 x1 x2 x3 x4 x5 M = some z → SW p l e rm_X7_row s m args below meth c 0 0 (QX7_row below D cy ad args s z) 7 (PH D cy ad iY s M) 94 [(0, .ref (ad 50)), (1, .int x1), (2, .int x2), (3, .int x3), (4, .int x4), (5, .int x5)] []) : ∀ (n : Nat) (x1 : Int32) (x2 : Int32) (x3 : Int32) (x4 : Int32) (x5 : Int32) (x6 : Int32) (M : Mem), fX7_row_H117 k94 n x1 x2 x3 x4 x5 x6 M = some z → SW p l e rm_X7_row s m args below meth c 0 0 (QX7_row below D cy ad args s z) 7 (PH D cy ad iY s M) 117 [(0, .ref (ad 50)), (1, .int x1), (2, .int x2), (3, .int x3), (4, .int x4), (5, .int x5), (6, .int x6)] [] := by
  have hx := X.1
  have hb := X.2.1
  intro n
  induction n with
  | zero =>
    intro x1 x2 x3 x4 x5 x6 M h
    have h : (none : Option (Mem)) = some z := h
    cases h
  | succ n ih =>
    intro x1 x2 x3 x4 x5 x6 M h
    rw [fX7_row_H117] at h
    refine sw_iload hx hb dX7_row_117 6 rfl ?_
    refine sw_iload hx hb dX7_row_119 4 rfl ?_
    refine sw_icmp_gt hx hb 150 dX7_row_121 (by decide) h (fun h => ?_) (fun h => ?_)
    · refine sw_sub (lv1 := [(0, .ref (ad 50)), (1, .int x1), (2, .int x2), (3, .int x3), (4, .int x4), (5, .int x5)]) [0, 1, 2, 3, 4, 5] rfl ?_
      exact wX7_row_L150 X hr k94 hk94 x1 x2 x3 x4 x5 M h
    · refine sw_iload hx hb dX7_row_124 5 rfl ?_
      refine sw_iload hx hb dX7_row_126 6 rfl ?_
      refine sw_iadd hx hb dX7_row_128 ?_
      refine sw_iload_n hx hb dX7_row_129 2 rfl rfl ?_
      refine sw_icmp_gt hx hb 150 dX7_row_130 (by decide) h (fun h => ?_) (fun h => ?_)
      · refine sw_sub (lv1 := [(0, .ref (ad 50)), (1, .int x1), (2, .int x2), (3, .int x3), (4, .int x4), (5, .int x5)]) [0, 1, 2, 3, 4, 5] rfl ?_
        exact wX7_row_L150 X hr k94 hk94 x1 x2 x3 x4 x5 M h
      · refine sw_aload_n hx hb dX7_row_133 0 rfl rfl ?_
        refine sw_iload hx hb dX7_row_134 5 rfl ?_
        refine sw_iload hx hb dX7_row_136 5 rfl ?_
        refine sw_iload hx hb dX7_row_138 6 rfl ?_
        refine sw_iadd hx hb dX7_row_140 ?_
        refine sw_callVV (C := RX7) (As := [.int x5, .int (x5 + x6)]) (rest := []) X mi_50 (ce_7 (rfl : kd 50 = 7)) rfl rfl (fun _ hz => okX7_tokenOf l X.2.2.2.2.2.2.1 x5 (x5 + x6) M _ hz) (cwX7_230 X.2.2.2.2.1 ⟨Nat.le_of_ble_eq_true rfl, Nat.le_of_ble_eq_true rfl⟩)  rfl rfl (Nat.le_of_ble_eq_true rfl) dX7_row_141 ⟨Nat.le_of_ble_eq_true rfl, Nat.le_of_ble_eq_true rfl⟩ h (fun M_12 _ h => ?_)
        refine sw_iincN hx hb (k := 6) (x6 + 1) (fun x6_14 => [(6, .int x6_14), (0, .ref (ad 50)), (1, .int x1), (2, .int x2), (3, .int x3), (4, .int x4), (5, .int x5)]) dX7_row_144 rfl (by rfl) (by decide) (fun _ => rfl) h (fun x6_14 h => ?_)
        refine sw_goto hx hb 117 dX7_row_147 (by decide) ?_
        refine sw_sub (lv1 := [(0, .ref (ad 50)), (1, .int x1), (2, .int x2), (3, .int x3), (4, .int x4), (5, .int x5), (6, .int x6_14)]) [1, 2, 3, 4, 5, 6, 0] rfl ?_
        exact ih x1 x2 x3 x4 x5 x6_14 M_12 h

set_option maxHeartbeats 4000000 in
set_option maxRecDepth 100000 in
theorem wX7_row_L114 (X : CX p s m args meth c D cy ad iY cX7_row 7 (wsG yX7_row cX7_row 7 none) RX7) (hr : meth.sig.returnType = none) (k94 : Int32 → Int32 → Int32 → Int32 → Int32 → Mem → Option (Mem)) (hk94 : ∀ (x1 : Int32) (x2 : Int32) (x3 : Int32) (x4 : Int32) (x5 : Int32) (M : Mem), k94 x1 x2 x3 x4 x5 M = some z → SW p l e rm_X7_row s m args below meth c 0 0 (QX7_row below D cy ad args s z) 7 (PH D cy ad iY s M) 94 [(0, .ref (ad 50)), (1, .int x1), (2, .int x2), (3, .int x3), (4, .int x4), (5, .int x5)] []) (x1 : Int32) (x2 : Int32) (x3 : Int32) (x4 : Int32) (x5 : Int32) (M : Mem) (h : fX7_row_L114 k94 x1 x2 x3 x4 x5 M = some z) : SW p l e rm_X7_row s m args below meth c 0 0 (QX7_row below D cy ad args s z) 7 (PH D cy ad iY s M) 114 [(0, .ref (ad 50)), (1, .int x1), (2, .int x2), (3, .int x3), (4, .int x4), (5, .int x5)] [] := by
  have hx := X.1
  have hb := X.2.1
  unfold fX7_row_L114 at h
  refine sw_iload_n hx hb dX7_row_114 3 rfl rfl ?_
  refine sw_istore hx hb [(6, .int x3), (0, .ref (ad 50)), (1, .int x1), (2, .int x2), (3, .int x3), (4, .int x4), (5, .int x5)] dX7_row_115 (by decide) rfl ?_
  refine sw_sub (lv1 := [(0, .ref (ad 50)), (1, .int x1), (2, .int x2), (3, .int x3), (4, .int x4), (5, .int x5), (6, .int x3)]) [1, 2, 3, 4, 5, 6, 0] rfl ?_
  exact wX7_row_H117 X hr k94 hk94 FU x1 x2 x3 x4 x5 x3 M h

set_option maxHeartbeats 4000000 in
set_option maxRecDepth 100000 in
theorem wX7_row_H94 (X : CX p s m args meth c D cy ad iY cX7_row 7 (wsG yX7_row cX7_row 7 none) RX7) (hr : meth.sig.returnType = none) : ∀ (n : Nat) (x1 : Int32) (x2 : Int32) (x3 : Int32) (x4 : Int32) (x5 : Int32) (M : Mem), fX7_row_H94 n x1 x2 x3 x4 x5 M = some z → SW p l e rm_X7_row s m args below meth c 0 0 (QX7_row below D cy ad args s z) 7 (PH D cy ad iY s M) 94 [(0, .ref (ad 50)), (1, .int x1), (2, .int x2), (3, .int x3), (4, .int x4), (5, .int x5)] [] := by
  have hx := X.1
  have hb := X.2.1
  intro n
  induction n with
  | zero =>
    intro x1 x2 x3 x4 x5 M h
    have h : (none : Option (Mem)) = some z := h
    cases h
  | succ n ih =>
    intro x1 x2 x3 x4 x5 M h
    rw [fX7_row_H94] at h
    refine sw_iload hx hb dX7_row_94 5 rfl ?_
    refine sw_iload_n hx hb dX7_row_96 2 rfl rfl ?_
    refine sw_icmp_ge hx hb 156 dX7_row_97 (by decide) h (fun h => ?_) (fun h => ?_)
    · refine sw_sub (lv1 := []) [] rfl ?_
      exact wX7_row_L156 X hr M h
    · refine sw_aload_n hx hb dX7_row_100 0 rfl rfl ?_
      refine sw_get X inG7 mi_50 (ce_7 (rfl : kd 50 = 7)) rfl 42 (by decide) (goodW wd512) rfl dX7_row_101 ?_
      refine sw_iconst hx hb 5 dX7_row_104 (by decide) ?_
      refine sw_icmp_eq hx hb 114 dX7_row_105 (by decide) h (fun h => ?_) (fun h => ?_)
      · refine sw_sub (lv1 := [(0, .ref (ad 50)), (1, .int x1), (2, .int x2), (3, .int x3), (4, .int x4), (5, .int x5)]) [0, 1, 2, 3, 4, 5] rfl ?_
        exact wX7_row_L114 X hr (fX7_row_H94 n) ih x1 x2 x3 x4 x5 M h
      · refine sw_iload hx hb dX7_row_108 5 rfl ?_
        refine sw_iload_n hx hb dX7_row_110 1 rfl rfl ?_
        refine sw_icmp_ne hx hb 156 dX7_row_111 (by decide) h (fun h => ?_) (fun h => ?_)
        · refine sw_sub (lv1 := []) [] rfl ?_
          exact wX7_row_L156 X hr M h
        · refine sw_sub (lv1 := [(0, .ref (ad 50)), (1, .int x1), (2, .int x2), (3, .int x3), (4, .int x4), (5, .int x5)]) [0, 1, 2, 3, 4, 5] rfl ?_
          exact wX7_row_L114 X hr (fX7_row_H94 n) ih x1 x2 x3 x4 x5 M h

set_option maxHeartbeats 4000000 in
set_option maxRecDepth 100000 in
theorem wX7_row_L91 (X : CX p s m args meth c D cy ad iY cX7_row 7 (wsG yX7_row cX7_row 7 none) RX7) (hr : meth.sig.returnType = none) (x1 : Int32) (x2 : Int32) (x3 : Int32) (x4 : Int32) (M : Mem) (h : fX7_row_L91 x1 x2 x3 x4 M = some z) : SW p l e rm_X7_row s m args below meth c 0 0 (QX7_row below D cy ad args s z) 7 (PH D cy ad iY s M) 91 [(0, .ref (ad 50)), (1, .int x1), (2, .int x2), (3, .int x3), (4, .int x4)] [] := by
  have hx := X.1
  have hb := X.2.1
  unfold fX7_row_L91 at h
  refine sw_iload_n hx hb dX7_row_91 1 rfl rfl ?_
  refine sw_istore hx hb [(5, .int x1), (0, .ref (ad 50)), (1, .int x1), (2, .int x2), (3, .int x3), (4, .int x4)] dX7_row_92 (by decide) rfl ?_
  refine sw_sub (lv1 := [(0, .ref (ad 50)), (1, .int x1), (2, .int x2), (3, .int x3), (4, .int x4), (5, .int x1)]) [1, 2, 3, 4, 5, 0] rfl ?_
  exact wX7_row_H94 X hr FU x1 x2 x3 x4 x1 M h

set_option maxHeartbeats 4000000 in
set_option maxRecDepth 100000 in
theorem wX7_row_H171 (X : CX p s m args meth c D cy ad iY cX7_row 7 (wsG yX7_row cX7_row 7 none) RX7) (hr : meth.sig.returnType = none) : ∀ (n : Nat) (x1 : Int32) (x2 : Int32) (x5 : Int32) (M : Mem), fX7_row_H171 n x1 x2 x5 M = some z → SW p l e rm_X7_row s m args below meth c 0 0 (QX7_row below D cy ad args s z) 7 (PH D cy ad iY s M) 171 [(0, .ref (ad 50)), (1, .int x1), (2, .int x2), (5, .int x5)] [] := by
  have hx := X.1
  have hb := X.2.1
  intro n
  induction n with
  | zero =>
    intro x1 x2 x5 M h
    have h : (none : Option (Mem)) = some z := h
    cases h
  | succ n ih =>
    intro x1 x2 x5 M h
    rw [fX7_row_H171] at h
    refine sw_iload hx hb dX7_row_171 3 rfl ?_
    refine sw_iconst hx hb 1 dX7_row_173 (by decide) ?_
    refine sw_iadd hx hb dX7_row_174 ?_
    refine sw_iload_n hx hb dX7_row_175 2 rfl rfl ?_
    refine sw_icmp_ge hx hb 195 dX7_row_176 (by decide) h (fun h => ?_) (fun h => ?_)
    · refine sw_iload_n hx hb dX7_row_195 2 rfl rfl ?_
      refine sw_iload_n hx hb dX7_row_196 1 rfl rfl ?_
      refine sw_iconst hx hb 1 dX7_row_197 (by decide) ?_
      refine sw_iadd hx hb dX7_row_198 ?_
      refine sw_icmp_ne hx hb 217 dX7_row_199 (by decide) h (fun h => ?_) (fun h => ?_)
      · exact sw_Vret X hr dX7_row_217 h
      · refine sw_aload_n hx hb dX7_row_202 0 rfl rfl ?_
        refine sw_iload_n hx hb dX7_row_203 1 rfl rfl ?_
        refine sw_iload_n hx hb dX7_row_204 2 rfl rfl ?_
        refine sw_callVV (C := RX7) (As := [.int x1, .int x2]) (rest := []) X mi_50 (ce_7 (rfl : kd 50 = 7)) rfl rfl (fun _ hz => okX7_tokenOf l X.2.2.2.2.2.2.1 x1 x2 M _ hz) (cwX7_230 X.2.2.2.2.1 ⟨Nat.le_of_ble_eq_true rfl, Nat.le_of_ble_eq_true rfl⟩)  rfl rfl (Nat.le_of_ble_eq_true rfl) dX7_row_205 ⟨Nat.le_of_ble_eq_true rfl, Nat.le_of_ble_eq_true rfl⟩ h (fun M_17 _ h => ?_)
        refine sw_goto hx hb 217 dX7_row_208 (by decide) ?_
        exact sw_Vret X hr dX7_row_217 h
    · refine sw_aload_n hx hb dX7_row_179 0 rfl rfl ?_
      refine sw_iload hx hb dX7_row_180 3 rfl ?_
      refine sw_iload hx hb dX7_row_182 3 rfl ?_
      refine sw_iconst hx hb 2 dX7_row_184 (by decide) ?_
      refine sw_iadd hx hb dX7_row_185 ?_
      refine sw_callVV (C := RX7) (As := [.int x5, .int (x5 + 2)]) (rest := []) X mi_50 (ce_7 (rfl : kd 50 = 7)) rfl rfl (fun _ hz => okX7_tokenOf l X.2.2.2.2.2.2.1 x5 (x5 + 2) M _ hz) (cwX7_230 X.2.2.2.2.1 ⟨Nat.le_of_ble_eq_true rfl, Nat.le_of_ble_eq_true rfl⟩)  rfl rfl (Nat.le_of_ble_eq_true rfl) dX7_row_186 ⟨Nat.le_of_ble_eq_true rfl, Nat.le_of_ble_eq_true rfl⟩ h (fun M_19 _ h => ?_)
      refine sw_iincN hx hb (k := 3) (x5 + 1) (fun x5_21 => [(5, .int x5_21), (0, .ref (ad 50)), (1, .int x1), (2, .int x2)]) dX7_row_189 rfl (by rfl) (by decide) (fun _ => rfl) h (fun x5_21 h => ?_)
      refine sw_goto hx hb 171 dX7_row_192 (by decide) ?_
      refine sw_sub (lv1 := [(0, .ref (ad 50)), (1, .int x1), (2, .int x2), (5, .int x5_21)]) [1, 2, 3, 0] rfl ?_
      exact ih x1 x2 x5_21 M_19 h

set_option maxHeartbeats 4000000 in
set_option maxRecDepth 100000 in
theorem wX7_row_E (X : CX p s m args meth c D cy ad iY cX7_row 7 (wsG yX7_row cX7_row 7 none) RX7) (hr : meth.sig.returnType = none) (x1 : Int32) (x2 : Int32) (x3 : Int32) (x4 : Int32) (M : Mem) (h : fX7_row x1 x2 x3 x4 M = some z) : SW p l e rm_X7_row s m args below meth c 0 0 (QX7_row below D cy ad args s z) 7 (PH D cy ad iY s M) 0 [(0, .ref (ad 50)), (1, .int x1), (2, .int x2), (3, .int x3), (4, .int x4)] [] := by
  have hx := X.1
  have hb := X.2.1
  unfold fX7_row at h
  refine sw_aload_n hx hb dX7_row_0 0 rfl rfl ?_
  refine sw_get X inG7 mi_50 (ce_7 (rfl : kd 50 = 7)) rfl 42 (by decide) (goodW wd512) rfl dX7_row_1 ?_
  refine ifc h (fun hc4_0 h => ?_) (fun hc4_0 h => ?_)
  · refine sw_tableIn hx hb (off := 44) 48 dX7_row_4 (by rw [hc4_0]; decide) (by rw [hc4_0]; decide) (by rw [hc4_0]; decide +kernel) (by decide) ?_
    refine sw_aload_n hx hb dX7_row_48 0 rfl rfl ?_
    refine sw_get X inG7 mi_50 (ce_7 (rfl : kd 50 = 7)) rfl 9 (by decide) (goodW wd505) rfl dX7_row_49 ?_
    refine sw_if_eq hx hb 73 dX7_row_52 (by decide) h (fun h => ?_) (fun h => ?_)
    · refine sw_sub (lv1 := [(0, .ref (ad 50)), (1, .int x1), (2, .int x2)]) [0, 1, 2] rfl ?_
      exact wX7_row_L73 X hr x1 x2 M h
    · refine sw_aload_n hx hb dX7_row_55 0 rfl rfl ?_
      refine sw_iload_n hx hb dX7_row_56 1 rfl rfl ?_
      refine sw_iload_n hx hb dX7_row_57 2 rfl rfl ?_
      refine sw_callVI (C := RX7) (As := [.int x1, .int x2]) (rest := []) X mi_50 (ce_7 (rfl : kd 50 = 7)) rfl rfl (fun _ hz => okX7_isLink l X.2.2.2.2.2.2.1 x1 x2 M _ hz) (cwX7_237 X.2.2.2.2.1 ⟨Nat.le_of_ble_eq_true rfl, Nat.le_of_ble_eq_true rfl⟩)  rfl rfl (Nat.le_of_ble_eq_true rfl) dX7_row_58 ⟨Nat.le_of_ble_eq_true rfl, Nat.le_of_ble_eq_true rfl⟩ h (fun v_4 M_3 _ h => ?_)
      refine sw_if_ne hx hb 73 dX7_row_61 (by decide) h (fun h => ?_) (fun h => ?_)
      · refine sw_sub (lv1 := [(0, .ref (ad 50)), (1, .int x1), (2, .int x2)]) [0, 1, 2] rfl ?_
        exact wX7_row_L73 X hr x1 x2 M_3 h
      · refine sw_aload_n hx hb dX7_row_64 0 rfl rfl ?_
        refine sw_iload_n hx hb dX7_row_65 1 rfl rfl ?_
        refine sw_iload_n hx hb dX7_row_66 2 rfl rfl ?_
        refine sw_callVV (C := RX7) (As := [.int x1, .int x2]) (rest := []) X mi_50 (ce_7 (rfl : kd 50 = 7)) rfl rfl (fun _ hz => okX7_wordsWithin l X.2.2.2.2.2.2.1 x1 x2 M_3 _ hz) (cwX7_240 X.2.2.2.2.1 ⟨Nat.le_of_ble_eq_true rfl, Nat.le_of_ble_eq_true rfl⟩)  rfl rfl (Nat.le_of_ble_eq_true rfl) dX7_row_67 ⟨Nat.le_of_ble_eq_true rfl, Nat.le_of_ble_eq_true rfl⟩ h (fun M_5 _ h => ?_)
        refine sw_goto hx hb 217 dX7_row_70 (by decide) ?_
        exact sw_Vret X hr dX7_row_217 h
  · skip
    refine ifc h (fun hc4_1 h => ?_) (fun hc4_1 h => ?_)
    · refine sw_tableIn hx hb (off := 207) 211 dX7_row_4 (by rw [hc4_1]; decide) (by rw [hc4_1]; decide) (by rw [hc4_1]; decide +kernel) (by decide) ?_
      refine sw_sub (lv1 := [(0, .ref (ad 50)), (1, .int x1), (2, .int x2)]) [0, 1, 2] rfl ?_
      exact wX7_row_L211 X hr x1 x2 M h
    · skip
      refine ifc h (fun hc4_2 h => ?_) (fun hc4_2 h => ?_)
      · refine sw_tableIn hx hb (off := 78) 82 dX7_row_4 (by rw [hc4_2]; decide) (by rw [hc4_2]; decide) (by rw [hc4_2]; decide +kernel) (by decide) ?_
        refine sw_aload_n hx hb dX7_row_82 0 rfl rfl ?_
        refine sw_iload_n hx hb dX7_row_83 1 rfl rfl ?_
        refine sw_iload_n hx hb dX7_row_84 2 rfl rfl ?_
        refine sw_callVV (C := RX7) (As := [.int x1, .int x2]) (rest := []) X mi_50 (ce_7 (rfl : kd 50 = 7)) rfl rfl (fun _ hz => okX7_paths l X.2.2.2.2.2.2.1 x1 x2 M _ hz) (cwX7_243 X.2.2.2.2.1 ⟨Nat.le_of_ble_eq_true rfl, Nat.le_of_ble_eq_true rfl⟩)  rfl rfl (Nat.le_of_ble_eq_true rfl) dX7_row_85 ⟨Nat.le_of_ble_eq_true rfl, Nat.le_of_ble_eq_true rfl⟩ h (fun M_9 _ h => ?_)
        refine sw_goto hx hb 217 dX7_row_88 (by decide) ?_
        exact sw_Vret X hr dX7_row_217 h
      · skip
        refine ifc h (fun hc4_3 h => ?_) (fun hc4_3 h => ?_)
        · refine sw_tableIn hx hb (off := 87) 91 dX7_row_4 (by rw [hc4_3]; decide) (by rw [hc4_3]; decide) (by rw [hc4_3]; decide +kernel) (by decide) ?_
          refine sw_sub (lv1 := [(0, .ref (ad 50)), (1, .int x1), (2, .int x2), (3, .int x3), (4, .int x4)]) [0, 1, 2, 3, 4] rfl ?_
          exact wX7_row_L91 X hr x1 x2 x3 x4 M h
        · skip
          refine ifc h (fun hc4_4 h => ?_) (fun hc4_4 h => ?_)
          · refine sw_tableIn hx hb (off := 87) 91 dX7_row_4 (by rw [hc4_4]; decide) (by rw [hc4_4]; decide) (by rw [hc4_4]; decide +kernel) (by decide) ?_
            refine sw_sub (lv1 := [(0, .ref (ad 50)), (1, .int x1), (2, .int x2), (3, .int x3), (4, .int x4)]) [0, 1, 2, 3, 4] rfl ?_
            exact wX7_row_L91 X hr x1 x2 x3 x4 M h
          · skip
            refine ifc h (fun hc4_5 h => ?_) (fun hc4_5 h => ?_)
            · refine sw_tableIn hx hb (off := 155) 159 dX7_row_4 (by rw [hc4_5]; decide) (by rw [hc4_5]; decide) (by rw [hc4_5]; decide +kernel) (by decide) ?_
              refine sw_aload_n hx hb dX7_row_159 0 rfl rfl ?_
              refine sw_iload_n hx hb dX7_row_160 1 rfl rfl ?_
              refine sw_iload_n hx hb dX7_row_161 2 rfl rfl ?_
              refine sw_callVV (C := RX7) (As := [.int x1, .int x2]) (rest := []) X mi_50 (ce_7 (rfl : kd 50 = 7)) rfl rfl (fun _ hz => okX7_dictionary l X.2.2.2.2.2.2.1 x1 x2 M _ hz) (cwX7_246 X.2.2.2.2.1 ⟨Nat.le_of_ble_eq_true rfl, Nat.le_of_ble_eq_true rfl⟩)  rfl rfl (Nat.le_of_ble_eq_true rfl) dX7_row_162 ⟨Nat.le_of_ble_eq_true rfl, Nat.le_of_ble_eq_true rfl⟩ h (fun M_15 _ h => ?_)
              refine sw_goto hx hb 217 dX7_row_165 (by decide) ?_
              exact sw_Vret X hr dX7_row_217 h
            · skip
              refine ifc h (fun hc4_6 h => ?_) (fun hc4_6 h => ?_)
              · refine sw_tableIn hx hb (off := 164) 168 dX7_row_4 (by rw [hc4_6]; decide) (by rw [hc4_6]; decide) (by rw [hc4_6]; decide +kernel) (by decide) ?_
                refine sw_iload_n hx hb dX7_row_168 1 rfl rfl ?_
                refine sw_istore hx hb [(5, .int x1), (0, .ref (ad 50)), (1, .int x1), (2, .int x2), (3, .int x3), (4, .int x4)] dX7_row_169 (by decide) rfl ?_
                refine sw_sub (lv1 := [(0, .ref (ad 50)), (1, .int x1), (2, .int x2), (5, .int x1)]) [1, 2, 3, 0] rfl ?_
                exact wX7_row_H171 X hr FU x1 x2 x1 M h
              · skip
                refine sw_tableOut hx hb 211 dX7_row_4 (by have q0 := lv_neT hc4_0 (show (2 : Int32).toInt = 2 from rfl); have q1 := lv_neT hc4_1 (show (3 : Int32).toInt = 3 from rfl); have q2 := lv_neT hc4_2 (show (4 : Int32).toInt = 4 from rfl); have q3 := lv_neT hc4_3 (show (5 : Int32).toInt = 5 from rfl); have q4 := lv_neT hc4_4 (show (6 : Int32).toInt = 6 from rfl); have q5 := lv_neT hc4_5 (show (7 : Int32).toInt = 7 from rfl); have q6 := lv_neT hc4_6 (show (8 : Int32).toInt = 8 from rfl); omega) (by decide) ?_
                refine sw_sub (lv1 := [(0, .ref (ad 50)), (1, .int x1), (2, .int x2)]) [0, 1, 2] rfl ?_
                exact wX7_row_L211 X hr x1 x2 M h

end
theorem okX7_row (l : Launch) {D : va_G} {cy : Nat → ClassId} {ad : Nat → Nat} (hD : ∀ M : Mem, va_D (AA ad iY) (wl cy ad iY M)) (x1 : Int32) (x2 : Int32) (x3 : Int32) (x4 : Int32) (M : Mem) (z : Mem) (h : fX7_row x1 x2 x3 x4 M = some z) : CTV l yX7_row (wsG yX7_row cX7_row 7 none) rm_X7_row D cy ad iY [.ref (ad 50), .int x1, .int x2, .int x3, .int x4] M z :=
  met_of (cc := cX7_row) (maxL := 7) (ret := none) (own := RX7) (by decide) rfl rfl hD ndY (Nat.le_of_ble_eq_true rfl) (fun p e s m below meth c X hr => wX7_row_E X hr x1 x2 x3 x4 M h)
