abbrev QX4_readRange (below : List Frame) (D : va_G) (cy : Nat → ClassId) (ad : Nat → Nat) (args : Array Value) (s : State) (z : Mem) : State → Prop := MQ below (va_Qv (fun u => u = z) (BB D cy ad iX) (AA ad iX)) args s 0 0 (AA ad iX)
section
variable {p : Program} {l : Launch} {e : Env} {s : State} {m : MethodId} {args : Array Value} {below : List Frame} {meth : Method} {c : Code} {D : va_G} {cy : Nat → ClassId} {ad : Nat → Nat} {z : Mem}
set_option maxHeartbeats 4000000 in
set_option maxRecDepth 100000 in
theorem wX4_readRange_L71 (X : CX p s m args meth c D cy ad iX cX4_readRange 4 (wsG yX4_readRange cX4_readRange 4 none) RX4) (hr : meth.sig.returnType = none) (x1 : Int32) (x2 : Int32) (M : Mem) (h : fX4_readRange_L71 x1 x2 M = some z) : SW p l e rm_X4_readRange s m args below meth c 0 0 (QX4_readRange below D cy ad args s z) 4 (PH D cy ad iX s M) 71 [(0, .ref (ad 17)), (1, .int x1), (2, .int x2)] [] := by
  have hx := X.1
  have hb := X.2.1
  unfold fX4_readRange_L71 at h
  refine sw_aload_n hx hb dX4_readRange_71 0 rfl rfl ?_
  refine sw_get X inG4 mi_17 (ce_4 (rfl : kd 17 = 4)) rfl 7 (by decide) (goodW wd71) rfl dX4_readRange_72 ?_
  refine sw_iconst hx hb (-1) dX4_readRange_75 (by decide) ?_
  refine sw_icmp_ne hx hb 88 dX4_readRange_76 (by decide) h (fun h => ?_) (fun h => ?_)
  · exact sw_Vret X hr dX4_readRange_88 h
  · refine sw_aload_n hx hb dX4_readRange_79 0 rfl rfl ?_
    refine sw_get X inG4 mi_17 (ce_4 (rfl : kd 17 = 4)) rfl 4 (by decide) (goodW wd64) rfl dX4_readRange_80 ?_
    obtain ⟨h_ra_3, h⟩ := ga_ok h
    generalize gR M 17 4 = ra_3 at h h_ra_3 ⊢
    refine sw_iload_n hx hb dX4_readRange_83 1 rfl rfl ?_
    refine sw_iload_n hx hb dX4_readRange_84 2 rfl rfl ?_
    refine sw_callVV (C := RX0) (As := [.int x1, .int x2]) (rest := []) X (mm0 h_ra_3) (ce_0 h_ra_3) rfl rfl (fun _ hz => okX0_allow l X.2.2.2.2.2.2.1 ra_3 x1 x2 h_ra_3 M _ hz) (cwX4_137 X.2.2.2.2.1 ⟨Nat.le_of_ble_eq_true rfl, Nat.le_of_ble_eq_true rfl⟩)  rfl rfl (Nat.le_of_ble_eq_true rfl) dX4_readRange_85 ⟨Nat.le_of_ble_eq_true rfl, Nat.le_of_ble_eq_true rfl⟩ h (fun M_4 _ h => ?_)
    exact sw_Vret X hr dX4_readRange_88 h

set_option maxHeartbeats 4000000 in
set_option maxRecDepth 100000 in
theorem wX4_readRange_E (X : CX p s m args meth c D cy ad iX cX4_readRange 4 (wsG yX4_readRange cX4_readRange 4 none) RX4) (hr : meth.sig.returnType = none) (M : Mem) (h : fX4_readRange M = some z) : SW p l e rm_X4_readRange s m args below meth c 0 0 (QX4_readRange below D cy ad args s z) 4 (PH D cy ad iX s M) 0 [(0, .ref (ad 17))] [] := by
  have hx := X.1
  have hb := X.2.1
  unfold fX4_readRange at h
  refine sw_aload_n hx hb dX4_readRange_0 0 rfl rfl ?_
  refine sw_iconst hx hb 1 dX4_readRange_1 (by decide) ?_
  refine sw_callVI (C := RX4) (As := [.int 1]) (rest := []) X mi_17 (ce_4 (rfl : kd 17 = 4)) rfl rfl (fun _ hz => okX4_readSign l X.2.2.2.2.2.2.1 1 M _ hz) (cwX4_133 X.2.2.2.2.1 ⟨Nat.le_of_ble_eq_true rfl, Nat.le_of_ble_eq_true rfl⟩)  rfl rfl (Nat.le_of_ble_eq_true rfl) dX4_readRange_2 ⟨Nat.le_of_ble_eq_true rfl, Nat.le_of_ble_eq_true rfl⟩ h (fun v_2 M_1 _ h => ?_)
  refine sw_istore_n hx hb [(1, .int v_2), (0, .ref (ad 17))] dX4_readRange_5 rfl (by decide) rfl ?_
  refine sw_iload_n hx hb dX4_readRange_6 0 rfl rfl ?_
  refine sw_istore_n hx hb [(2, .int v_2), (1, .int v_2), (0, .ref (ad 17))] dX4_readRange_7 rfl (by decide) rfl ?_
  refine sw_aload_n hx hb dX4_readRange_8 2 rfl rfl ?_
  refine sw_get X inG4 mi_17 (ce_4 (rfl : kd 17 = 4)) rfl 7 (by decide) (goodW wd71) rfl dX4_readRange_9 ?_
  refine sw_iconst hx hb (-1) dX4_readRange_12 (by decide) ?_
  refine sw_icmp_ne hx hb 71 dX4_readRange_13 (by decide) h (fun h => ?_) (fun h => ?_)
  · refine sw_sub (lv1 := [(0, .ref (ad 17)), (1, .int v_2), (2, .int v_2)]) [2, 1, 0] rfl ?_
    exact wX4_readRange_L71 X hr v_2 v_2 M_1 h
  · refine sw_aload_n hx hb dX4_readRange_16 2 rfl rfl ?_
    refine sw_get X inG4 mi_17 (ce_4 (rfl : kd 17 = 4)) rfl 0 (by decide) (goodW wd62) rfl dX4_readRange_17 ?_
    refine sw_aload_n hx hb dX4_readRange_20 2 rfl rfl ?_
    refine sw_get X inG4 mi_17 (ce_4 (rfl : kd 17 = 4)) rfl 6 (by decide) (goodW wd70) rfl dX4_readRange_21 ?_
    refine sw_callVI (C := RX5) (As := [.int (gI M_1 17 6)]) (rest := []) X mi_18 (ce_5 (rfl : kd 18 = 5)) rfl rfl (fun _ hz => okX5_at l X.2.2.2.2.2.2.1 18 (gI M_1 17 6) (rfl : kd 18 = 5) M_1 _ hz) (cwX4_57 X.2.2.2.2.1 ⟨Nat.le_of_ble_eq_true rfl, Nat.le_of_ble_eq_true rfl⟩)  rfl rfl (Nat.le_of_ble_eq_true rfl) dX4_readRange_24 ⟨Nat.le_of_ble_eq_true rfl, Nat.le_of_ble_eq_true rfl⟩ h (fun v_7 M_6 _ h => ?_)
    refine sw_bipush hx hb 45 dX4_readRange_27 (by decide) ?_
    refine sw_icmp_ne hx hb 71 dX4_readRange_29 (by decide) h (fun h => ?_) (fun h => ?_)
    · refine sw_sub (lv1 := [(0, .ref (ad 17)), (1, .int v_2), (2, .int v_2)]) [2, 1, 0] rfl ?_
      exact wX4_readRange_L71 X hr v_2 v_2 M_6 h
    · refine sw_aload_n hx hb dX4_readRange_32 2 rfl rfl ?_
      refine sw_dup hx hb dX4_readRange_33 rfl ?_
      refine sw_get X inG4 mi_17 (ce_4 (rfl : kd 17 = 4)) rfl 6 (by decide) (goodW wd70) rfl dX4_readRange_34 ?_
      refine sw_iconst hx hb 1 dX4_readRange_37 (by decide) ?_
      refine sw_iadd hx hb dX4_readRange_38 ?_
      refine sw_putI X tyX4 tyX4_ok nmX4 inG4 mi_17 (ce_4 (rfl : kd 17 = 4)) rfl 6 (by decide) (goodW wd70) rfl (by decide +kernel : parseFieldDescriptor _ = some .int) rfl rfl (Nat.le_of_ble_eq_true rfl) (pu_4_6 (rfl : kd 17 = 4) _) dX4_readRange_39 h (fun M_8 h => ?_)
      refine sw_aload_n hx hb dX4_readRange_42 2 rfl rfl ?_
      refine sw_get X inG4 mi_17 (ce_4 (rfl : kd 17 = 4)) rfl 6 (by decide) (goodW wd70) rfl dX4_readRange_43 ?_
      refine sw_istore_nN hx hb (fun x3_9 => [(3, .int x3_9), (2, .int v_2), (1, .int v_2), (0, .ref (ad 17))]) dX4_readRange_46 rfl (by decide) (fun _ => rfl) h (fun x3_9 h => ?_)
      refine sw_aload_n hx hb dX4_readRange_47 3 rfl rfl ?_
      refine sw_iconst hx hb 1 dX4_readRange_48 (by decide) ?_
      refine sw_callVI (C := RX4) (As := [.int 1]) (rest := []) X mi_17 (ce_4 (rfl : kd 17 = 4)) rfl rfl (fun _ hz => okX4_readSign l X.2.2.2.2.2.2.1 1 M_8 _ hz) (cwX4_133 X.2.2.2.2.1 ⟨Nat.le_of_ble_eq_true rfl, Nat.le_of_ble_eq_true rfl⟩)  rfl rfl (Nat.le_of_ble_eq_true rfl) dX4_readRange_49 ⟨Nat.le_of_ble_eq_true rfl, Nat.le_of_ble_eq_true rfl⟩ h (fun v_11 M_10 _ h => ?_)
      refine sw_istore_n hx hb [(2, .int v_11), (3, .int x3_9), (1, .int v_2), (0, .ref (ad 17))] dX4_readRange_52 rfl (by decide) rfl ?_
      refine sw_aload_n hx hb dX4_readRange_53 3 rfl rfl ?_
      refine sw_get X inG4 mi_17 (ce_4 (rfl : kd 17 = 4)) rfl 7 (by decide) (goodW wd71) rfl dX4_readRange_54 ?_
      refine sw_iconst hx hb (-1) dX4_readRange_57 (by decide) ?_
      refine sw_icmp_ne hx hb 71 dX4_readRange_58 (by decide) h (fun h => ?_) (fun h => ?_)
      · refine sw_sub (lv1 := [(0, .ref (ad 17)), (1, .int v_2), (2, .int v_11)]) [3, 2, 0] rfl ?_
        exact wX4_readRange_L71 X hr v_2 v_11 M_10 h
      · refine sw_iload_n hx hb dX4_readRange_61 0 rfl rfl ?_
        refine sw_iload_n hx hb dX4_readRange_62 2 rfl rfl ?_
        refine sw_icmp_ge hx hb 71 dX4_readRange_63 (by decide) h (fun h => ?_) (fun h => ?_)
        · refine sw_sub (lv1 := [(0, .ref (ad 17)), (1, .int v_2), (2, .int v_11)]) [3, 2, 0] rfl ?_
          exact wX4_readRange_L71 X hr v_2 v_11 M_10 h
        · refine sw_aload_n hx hb dX4_readRange_66 3 rfl rfl ?_
          refine sw_iload_n hx hb dX4_readRange_67 1 rfl rfl ?_
          refine sw_putI X tyX4 tyX4_ok nmX4 inG4 mi_17 (ce_4 (rfl : kd 17 = 4)) rfl 7 (by decide) (goodW wd71) rfl (by decide +kernel : parseFieldDescriptor _ = some .int) rfl rfl (Nat.le_of_ble_eq_true rfl) (pu_4_7 (rfl : kd 17 = 4) _) dX4_readRange_68 h (fun M_12 h => ?_)
          refine sw_sub (lv1 := [(0, .ref (ad 17)), (1, .int v_2), (2, .int v_11)]) [3, 2, 0] rfl ?_
          exact wX4_readRange_L71 X hr v_2 v_11 M_12 h

end
theorem okX4_readRange (l : Launch) {D : va_G} {cy : Nat → ClassId} {ad : Nat → Nat} (hD : ∀ M : Mem, va_D (AA ad iX) (wl cy ad iX M)) (M : Mem) (z : Mem) (h : fX4_readRange M = some z) : CTV l yX4_readRange (wsG yX4_readRange cX4_readRange 4 none) rm_X4_readRange D cy ad iX [.ref (ad 17)] M z :=
  met_of (cc := cX4_readRange) (maxL := 4) (ret := none) (own := RX4) (by decide) rfl rfl hD ndX (Nat.le_of_ble_eq_true rfl) (fun p e s m below meth c X hr => wX4_readRange_E X hr M h)
abbrev QX0_turnRound (below : List Frame) (D : va_G) (cy : Nat → ClassId) (ad : Nat → Nat) (args : Array Value) (s : State) (z : Mem) : State → Prop := MQ below (va_Qv (fun u => u = z) (BB D cy ad iX) (AA ad iX)) args s 0 0 (AA ad iX)
section
variable {p : Program} {l : Launch} {e : Env} {s : State} {m : MethodId} {args : Array Value} {below : List Frame} {meth : Method} {c : Code} {D : va_G} {cy : Nat → ClassId} {ad : Nat → Nat} {z : Mem}
set_option maxHeartbeats 4000000 in
set_option maxRecDepth 100000 in
theorem wX0_turnRound_H2 (X : CX p s m args meth c D cy ad iX cX0_turnRound 2 (wsG yX0_turnRound cX0_turnRound 2 none) RX0) (hr : meth.sig.returnType = none) (o : Nat) (h_o : kd o = 0) : ∀ (n : Nat) (x1 : Int32) (M : Mem), fX0_turnRound_H2 o n x1 M = some z → SW p l e rm_X0_turnRound s m args below meth c 0 0 (QX0_turnRound below D cy ad args s z) 2 (PH D cy ad iX s M) 2 [(0, .ref (ad o)), (1, .int x1)] [] := by
  have hx := X.1
  have hb := X.2.1
  intro n
  induction n with
  | zero =>
    intro x1 M h
    have h : (none : Option (Mem)) = some z := h
    cases h
  | succ n ih =>
    intro x1 M h
    rw [fX0_turnRound_H2] at h
    refine sw_iload_n hx hb dX0_turnRound_2 1 rfl rfl ?_
    refine sw_sipush hx hb 256 dX0_turnRound_3 (by decide) ?_
    refine sw_icmp_ge hx hb 28 dX0_turnRound_6 (by decide) h (fun h => ?_) (fun h => ?_)
    · exact sw_Vret X hr dX0_turnRound_28 h
    · refine sw_aload_n hx hb dX0_turnRound_9 0 rfl rfl ?_
      refine sw_get X inG0 (mm0 h_o) (ce_0 h_o) rfl 0 (by decide) (goodW wd34) rfl dX0_turnRound_10 ?_
      refine sw_iload_n hx hb dX0_turnRound_13 1 rfl rfl ?_
      refine sw_dup2 hx hb dX0_turnRound_14 rfl rfl ?_
      refine sw_lald X (ma0 h_o) (ka0 h_o) dX0_turnRound_15 h (fun v_1 h => ?_)
      refine sw_aload_n hx hb dX0_turnRound_16 0 rfl rfl ?_
      refine sw_callVJ (C := RX0) (As := []) (rest := [.long v_1, .int x1, .ref (ad (o + 1))]) X (mm0 h_o) (ce_0 h_o) rfl rfl (fun _ hz => okX0_newest l X.2.2.2.2.2.2.1 o h_o M _ hz) (cwX0_44 X.2.2.2.2.1 ⟨Nat.le_of_ble_eq_true rfl, Nat.le_of_ble_eq_true rfl⟩)  rfl rfl (Nat.le_of_ble_eq_true rfl) dX0_turnRound_17 ⟨Nat.le_of_ble_eq_true rfl, Nat.le_of_ble_eq_true rfl⟩ h (fun v_3 M_2 _ h => ?_)
      refine sw_lxor hx hb dX0_turnRound_20 ?_
      refine sw_last X (ma0 h_o) (ka0 h_o) dX0_turnRound_21 h (fun M_4 h => ?_)
      refine sw_iincN hx hb (k := 1) (x1 + 1) (fun x1_5 => [(1, .int x1_5), (0, .ref (ad o))]) dX0_turnRound_22 rfl (by rfl) (by decide) (fun _ => rfl) h (fun x1_5 h => ?_)
      refine sw_goto hx hb 2 dX0_turnRound_25 (by decide) ?_
      refine sw_sub (lv1 := [(0, .ref (ad o)), (1, .int x1_5)]) [1, 0] rfl ?_
      exact ih x1_5 M_4 h

set_option maxHeartbeats 4000000 in
set_option maxRecDepth 100000 in
theorem wX0_turnRound_E (X : CX p s m args meth c D cy ad iX cX0_turnRound 2 (wsG yX0_turnRound cX0_turnRound 2 none) RX0) (hr : meth.sig.returnType = none) (o : Nat) (h_o : kd o = 0) (M : Mem) (h : fX0_turnRound o M = some z) : SW p l e rm_X0_turnRound s m args below meth c 0 0 (QX0_turnRound below D cy ad args s z) 2 (PH D cy ad iX s M) 0 [(0, .ref (ad o))] [] := by
  have hx := X.1
  have hb := X.2.1
  unfold fX0_turnRound at h
  refine sw_iconst hx hb 0 dX0_turnRound_0 (by decide) ?_
  refine sw_istore_n hx hb [(1, .int 0), (0, .ref (ad o))] dX0_turnRound_1 rfl (by decide) rfl ?_
  refine sw_sub (lv1 := [(0, .ref (ad o)), (1, .int 0)]) [1, 0] rfl ?_
  exact wX0_turnRound_H2 X hr o h_o FU 0 M h

end
theorem okX0_turnRound (l : Launch) {D : va_G} {cy : Nat → ClassId} {ad : Nat → Nat} (hD : ∀ M : Mem, va_D (AA ad iX) (wl cy ad iX M)) (o : Nat) (h_o : kd o = 0) (M : Mem) (z : Mem) (h : fX0_turnRound o M = some z) : CTV l yX0_turnRound (wsG yX0_turnRound cX0_turnRound 2 none) rm_X0_turnRound D cy ad iX [.ref (ad o)] M z :=
  met_of (cc := cX0_turnRound) (maxL := 2) (ret := none) (own := RX0) (by decide) rfl rfl hD ndX (Nat.le_of_ble_eq_true rfl) (fun p e s m below meth c X hr => wX0_turnRound_E X hr o h_o M h)
abbrev QX4_readSet (below : List Frame) (D : va_G) (cy : Nat → ClassId) (ad : Nat → Nat) (args : Array Value) (s : State) (z : Mem) : State → Prop := MQ below (va_Qv (fun u => u = z) (BB D cy ad iX) (AA ad iX)) args s 0 0 (AA ad iX)
section
variable {p : Program} {l : Launch} {e : Env} {s : State} {m : MethodId} {args : Array Value} {below : List Frame} {meth : Method} {c : Code} {D : va_G} {cy : Nat → ClassId} {ad : Nat → Nat} {z : Mem}
set_option maxHeartbeats 4000000 in
set_option maxRecDepth 100000 in
theorem wX4_readSet_L93 (X : CX p s m args meth c D cy ad iX cX4_readSet 3 (wsG yX4_readSet cX4_readSet 3 none) RX4) (hr : meth.sig.returnType = none) (x1 : Int32) (M : Mem) (h : fX4_readSet_L93 x1 M = some z) : SW p l e rm_X4_readSet s m args below meth c 0 0 (QX4_readSet below D cy ad args s z) 3 (PH D cy ad iX s M) 93 [(0, .ref (ad 17)), (1, .int x1)] [] := by
  have hx := X.1
  have hb := X.2.1
  unfold fX4_readSet_L93 at h
  refine sw_aload_n hx hb dX4_readSet_93 0 rfl rfl ?_
  refine sw_dup hx hb dX4_readSet_94 rfl ?_
  refine sw_get X inG4 mi_17 (ce_4 (rfl : kd 17 = 4)) rfl 6 (by decide) (goodW wd70) rfl dX4_readSet_95 ?_
  refine sw_iconst hx hb 1 dX4_readSet_98 (by decide) ?_
  refine sw_iadd hx hb dX4_readSet_99 ?_
  refine sw_putI X tyX4 tyX4_ok nmX4 inG4 mi_17 (ce_4 (rfl : kd 17 = 4)) rfl 6 (by decide) (goodW wd70) rfl (by decide +kernel : parseFieldDescriptor _ = some .int) rfl rfl (Nat.le_of_ble_eq_true rfl) (pu_4_6 (rfl : kd 17 = 4) _) dX4_readSet_100 h (fun M_6 h => ?_)
  refine sw_iload_n hx hb dX4_readSet_103 1 rfl rfl ?_
  refine sw_if_eq hx hb 114 dX4_readSet_104 (by decide) h (fun h => ?_) (fun h => ?_)
  · exact sw_Vret X hr dX4_readSet_114 h
  · refine sw_aload_n hx hb dX4_readSet_107 0 rfl rfl ?_
    refine sw_get X inG4 mi_17 (ce_4 (rfl : kd 17 = 4)) rfl 4 (by decide) (goodW wd64) rfl dX4_readSet_108 ?_
    obtain ⟨h_ra_7, h⟩ := ga_ok h
    generalize gR M_6 17 4 = ra_7 at h h_ra_7 ⊢
    refine sw_callVV (C := RX0) (As := []) (rest := []) X (mm0 h_ra_7) (ce_0 h_ra_7) rfl rfl (fun _ hz => okX0_turnRound l X.2.2.2.2.2.2.1 ra_7 h_ra_7 M_6 _ hz) (cwX4_149 X.2.2.2.2.1 ⟨Nat.le_of_ble_eq_true rfl, Nat.le_of_ble_eq_true rfl⟩)  rfl rfl (Nat.le_of_ble_eq_true rfl) dX4_readSet_111 ⟨Nat.le_of_ble_eq_true rfl, Nat.le_of_ble_eq_true rfl⟩ h (fun M_8 _ h => ?_)
    exact sw_Vret X hr dX4_readSet_114 h

set_option maxHeartbeats 4000000 in
set_option maxRecDepth 100000 in
theorem wX4_readSet_H52 (X : CX p s m args meth c D cy ad iX cX4_readSet 3 (wsG yX4_readSet cX4_readSet 3 none) RX4) (hr : meth.sig.returnType = none) : ∀ (n : Nat) (x1 : Int32) (x2 : Int32) (M : Mem), fX4_readSet_H52 n x1 x2 M = some z → SW p l e rm_X4_readSet s m args below meth c 0 0 (QX4_readSet below D cy ad args s z) 3 (PH D cy ad iX s M) 52 [(0, .ref (ad 17)), (1, .int x1), (2, .int x2)] [] := by
  have hx := X.1
  have hb := X.2.1
  intro n
  induction n with
  | zero =>
    intro x1 x2 M h
    have h : (none : Option (Mem)) = some z := h
    cases h
  | succ n ih =>
    intro x1 x2 M h
    rw [fX4_readSet_H52] at h
    refine sw_iload_n hx hb dX4_readSet_52 2 rfl rfl ?_
    refine sw_sipush hx hb 300 dX4_readSet_53 (by decide) ?_
    refine sw_icmp_ge hx hb 93 dX4_readSet_56 (by decide) h (fun h => ?_) (fun h => ?_)
    · refine sw_sub (lv1 := [(0, .ref (ad 17)), (1, .int x1)]) [0, 1] rfl ?_
      exact wX4_readSet_L93 X hr x1 M h
    · refine sw_aload_n hx hb dX4_readSet_59 0 rfl rfl ?_
      refine sw_get X inG4 mi_17 (ce_4 (rfl : kd 17 = 4)) rfl 7 (by decide) (goodW wd71) rfl dX4_readSet_60 ?_
      refine sw_iconst hx hb (-1) dX4_readSet_63 (by decide) ?_
      refine sw_icmp_ne hx hb 93 dX4_readSet_64 (by decide) h (fun h => ?_) (fun h => ?_)
      · refine sw_sub (lv1 := [(0, .ref (ad 17)), (1, .int x1)]) [0, 1] rfl ?_
        exact wX4_readSet_L93 X hr x1 M h
      · refine sw_aload_n hx hb dX4_readSet_67 0 rfl rfl ?_
        refine sw_get X inG4 mi_17 (ce_4 (rfl : kd 17 = 4)) rfl 0 (by decide) (goodW wd62) rfl dX4_readSet_68 ?_
        refine sw_aload_n hx hb dX4_readSet_71 0 rfl rfl ?_
        refine sw_get X inG4 mi_17 (ce_4 (rfl : kd 17 = 4)) rfl 6 (by decide) (goodW wd70) rfl dX4_readSet_72 ?_
        refine sw_callVI (C := RX5) (As := [.int (gI M 17 6)]) (rest := []) X mi_18 (ce_5 (rfl : kd 18 = 5)) rfl rfl (fun _ hz => okX5_at l X.2.2.2.2.2.2.1 18 (gI M 17 6) (rfl : kd 18 = 5) M _ hz) (cwX4_57 X.2.2.2.2.1 ⟨Nat.le_of_ble_eq_true rfl, Nat.le_of_ble_eq_true rfl⟩)  rfl rfl (Nat.le_of_ble_eq_true rfl) dX4_readSet_75 ⟨Nat.le_of_ble_eq_true rfl, Nat.le_of_ble_eq_true rfl⟩ h (fun v_11 M_10 _ h => ?_)
        refine sw_bipush hx hb 93 dX4_readSet_78 (by decide) ?_
        refine sw_icmp_eq hx hb 93 dX4_readSet_80 (by decide) h (fun h => ?_) (fun h => ?_)
        · refine sw_sub (lv1 := [(0, .ref (ad 17)), (1, .int x1)]) [0, 1] rfl ?_
          exact wX4_readSet_L93 X hr x1 M_10 h
        · refine sw_aload_n hx hb dX4_readSet_83 0 rfl rfl ?_
          refine sw_callVV (C := RX4) (As := []) (rest := []) X mi_17 (ce_4 (rfl : kd 17 = 4)) rfl rfl (fun _ hz => okX4_readRange l X.2.2.2.2.2.2.1 M_10 _ hz) (cwX4_152 X.2.2.2.2.1 ⟨Nat.le_of_ble_eq_true rfl, Nat.le_of_ble_eq_true rfl⟩)  rfl rfl (Nat.le_of_ble_eq_true rfl) dX4_readSet_84 ⟨Nat.le_of_ble_eq_true rfl, Nat.le_of_ble_eq_true rfl⟩ h (fun M_12 _ h => ?_)
          refine sw_iincN hx hb (k := 2) (x2 + 1) (fun x2_14 => [(2, .int x2_14), (0, .ref (ad 17)), (1, .int x1)]) dX4_readSet_87 rfl (by rfl) (by decide) (fun _ => rfl) h (fun x2_14 h => ?_)
          refine sw_goto hx hb 52 dX4_readSet_90 (by decide) ?_
          refine sw_sub (lv1 := [(0, .ref (ad 17)), (1, .int x1), (2, .int x2_14)]) [1, 2, 0] rfl ?_
          exact ih x1 x2_14 M_12 h

set_option maxHeartbeats 4000000 in
set_option maxRecDepth 100000 in
theorem wX4_readSet_L46 (X : CX p s m args meth c D cy ad iX cX4_readSet 3 (wsG yX4_readSet cX4_readSet 3 none) RX4) (hr : meth.sig.returnType = none) (x1 : Int32) (M : Mem) (h : fX4_readSet_L46 x1 M = some z) : SW p l e rm_X4_readSet s m args below meth c 0 0 (QX4_readSet below D cy ad args s z) 3 (PH D cy ad iX s M) 46 [(0, .ref (ad 17)), (1, .int x1)] [] := by
  have hx := X.1
  have hb := X.2.1
  unfold fX4_readSet_L46 at h
  refine sw_aload_n hx hb dX4_readSet_46 0 rfl rfl ?_
  refine sw_callVV (C := RX4) (As := []) (rest := []) X mi_17 (ce_4 (rfl : kd 17 = 4)) rfl rfl (fun _ hz => okX4_readRange l X.2.2.2.2.2.2.1 M _ hz) (cwX4_152 X.2.2.2.2.1 ⟨Nat.le_of_ble_eq_true rfl, Nat.le_of_ble_eq_true rfl⟩)  rfl rfl (Nat.le_of_ble_eq_true rfl) dX4_readSet_47 ⟨Nat.le_of_ble_eq_true rfl, Nat.le_of_ble_eq_true rfl⟩ h (fun M_4 _ h => ?_)
  refine sw_iconst hx hb 0 dX4_readSet_50 (by decide) ?_
  refine sw_istore_n hx hb [(2, .int 0), (0, .ref (ad 17)), (1, .int x1)] dX4_readSet_51 rfl (by decide) rfl ?_
  refine sw_sub (lv1 := [(0, .ref (ad 17)), (1, .int x1), (2, .int 0)]) [1, 2, 0] rfl ?_
  exact wX4_readSet_H52 X hr FU x1 0 M_4 h

set_option maxHeartbeats 4000000 in
set_option maxRecDepth 100000 in
theorem wX4_readSet_L31 (X : CX p s m args meth c D cy ad iX cX4_readSet 3 (wsG yX4_readSet cX4_readSet 3 none) RX4) (hr : meth.sig.returnType = none) (y0 : Int32) (M : Mem) (h : fX4_readSet_L31 y0 M = some z) : SW p l e rm_X4_readSet s m args below meth c 0 0 (QX4_readSet below D cy ad args s z) 3 (PH D cy ad iX s M) 31 [(0, .ref (ad 17))] [.int y0] := by
  have hx := X.1
  have hb := X.2.1
  unfold fX4_readSet_L31 at h
  refine sw_istore_n hx hb [(1, .int y0), (0, .ref (ad 17))] dX4_readSet_31 rfl (by decide) rfl ?_
  refine sw_iload_n hx hb dX4_readSet_32 0 rfl rfl ?_
  refine sw_if_eq hx hb 46 dX4_readSet_33 (by decide) h (fun h => ?_) (fun h => ?_)
  · refine sw_sub (lv1 := [(0, .ref (ad 17)), (1, .int y0)]) [1, 0] rfl ?_
    exact wX4_readSet_L46 X hr y0 M h
  · refine sw_aload_n hx hb dX4_readSet_36 1 rfl rfl ?_
    refine sw_dup hx hb dX4_readSet_37 rfl ?_
    refine sw_get X inG4 mi_17 (ce_4 (rfl : kd 17 = 4)) rfl 6 (by decide) (goodW wd70) rfl dX4_readSet_38 ?_
    refine sw_iconst hx hb 1 dX4_readSet_41 (by decide) ?_
    refine sw_iadd hx hb dX4_readSet_42 ?_
    refine sw_putI X tyX4 tyX4_ok nmX4 inG4 mi_17 (ce_4 (rfl : kd 17 = 4)) rfl 6 (by decide) (goodW wd70) rfl (by decide +kernel : parseFieldDescriptor _ = some .int) rfl rfl (Nat.le_of_ble_eq_true rfl) (pu_4_6 (rfl : kd 17 = 4) _) dX4_readSet_43 h (fun M_15 h => ?_)
    refine sw_sub (lv1 := [(0, .ref (ad 17)), (1, .int y0)]) [1, 0] rfl ?_
    exact wX4_readSet_L46 X hr y0 M_15 h

set_option maxHeartbeats 4000000 in
set_option maxRecDepth 100000 in
theorem wX4_readSet_E (X : CX p s m args meth c D cy ad iX cX4_readSet 3 (wsG yX4_readSet cX4_readSet 3 none) RX4) (hr : meth.sig.returnType = none) (M : Mem) (h : fX4_readSet M = some z) : SW p l e rm_X4_readSet s m args below meth c 0 0 (QX4_readSet below D cy ad args s z) 3 (PH D cy ad iX s M) 0 [(0, .ref (ad 17))] [] := by
  have hx := X.1
  have hb := X.2.1
  unfold fX4_readSet at h
  refine sw_aload_n hx hb dX4_readSet_0 0 rfl rfl ?_
  refine sw_dup hx hb dX4_readSet_1 rfl ?_
  refine sw_get X inG4 mi_17 (ce_4 (rfl : kd 17 = 4)) rfl 6 (by decide) (goodW wd70) rfl dX4_readSet_2 ?_
  refine sw_iconst hx hb 1 dX4_readSet_5 (by decide) ?_
  refine sw_iadd hx hb dX4_readSet_6 ?_
  refine sw_putI X tyX4 tyX4_ok nmX4 inG4 mi_17 (ce_4 (rfl : kd 17 = 4)) rfl 6 (by decide) (goodW wd70) rfl (by decide +kernel : parseFieldDescriptor _ = some .int) rfl rfl (Nat.le_of_ble_eq_true rfl) (pu_4_6 (rfl : kd 17 = 4) _) dX4_readSet_7 h (fun M_1 h => ?_)
  refine sw_aload_n hx hb dX4_readSet_10 0 rfl rfl ?_
  refine sw_get X inG4 mi_17 (ce_4 (rfl : kd 17 = 4)) rfl 0 (by decide) (goodW wd62) rfl dX4_readSet_11 ?_
  refine sw_aload_n hx hb dX4_readSet_14 0 rfl rfl ?_
  refine sw_get X inG4 mi_17 (ce_4 (rfl : kd 17 = 4)) rfl 6 (by decide) (goodW wd70) rfl dX4_readSet_15 ?_
  refine sw_callVI (C := RX5) (As := [.int (gI M_1 17 6)]) (rest := []) X mi_18 (ce_5 (rfl : kd 18 = 5)) rfl rfl (fun _ hz => okX5_at l X.2.2.2.2.2.2.1 18 (gI M_1 17 6) (rfl : kd 18 = 5) M_1 _ hz) (cwX4_57 X.2.2.2.2.1 ⟨Nat.le_of_ble_eq_true rfl, Nat.le_of_ble_eq_true rfl⟩)  rfl rfl (Nat.le_of_ble_eq_true rfl) dX4_readSet_18 ⟨Nat.le_of_ble_eq_true rfl, Nat.le_of_ble_eq_true rfl⟩ h (fun v_3 M_2 _ h => ?_)
  refine sw_bipush hx hb 94 dX4_readSet_21 (by decide) ?_
  refine sw_icmp_ne hx hb 30 dX4_readSet_23 (by decide) h (fun h => ?_) (fun h => ?_)
  · refine sw_iconst hx hb 0 dX4_readSet_30 (by decide) ?_
    refine sw_sub (lv1 := [(0, .ref (ad 17))]) [0] rfl ?_
    exact wX4_readSet_L31 X hr 0 M_2 h
  · refine sw_iconst hx hb 1 dX4_readSet_26 (by decide) ?_
    refine sw_goto hx hb 31 dX4_readSet_27 (by decide) ?_
    refine sw_sub (lv1 := [(0, .ref (ad 17))]) [0] rfl ?_
    exact wX4_readSet_L31 X hr 1 M_2 h

end
theorem okX4_readSet (l : Launch) {D : va_G} {cy : Nat → ClassId} {ad : Nat → Nat} (hD : ∀ M : Mem, va_D (AA ad iX) (wl cy ad iX M)) (M : Mem) (z : Mem) (h : fX4_readSet M = some z) : CTV l yX4_readSet (wsG yX4_readSet cX4_readSet 3 none) rm_X4_readSet D cy ad iX [.ref (ad 17)] M z :=
  met_of (cc := cX4_readSet) (maxL := 3) (ret := none) (own := RX4) (by decide) rfl rfl hD ndX (Nat.le_of_ble_eq_true rfl) (fun p e s m below meth c X hr => wX4_readSet_E X hr M h)
abbrev QX4_allowSolid (below : List Frame) (D : va_G) (cy : Nat → ClassId) (ad : Nat → Nat) (args : Array Value) (s : State) (z : Mem) : State → Prop := MQ below (va_Qv (fun u => u = z) (BB D cy ad iX) (AA ad iX)) args s 0 0 (AA ad iX)
section
variable {p : Program} {l : Launch} {e : Env} {s : State} {m : MethodId} {args : Array Value} {below : List Frame} {meth : Method} {c : Code} {D : va_G} {cy : Nat → ClassId} {ad : Nat → Nat} {z : Mem}
set_option maxHeartbeats 4000000 in
set_option maxRecDepth 100000 in
theorem wX4_allowSolid_E (X : CX p s m args meth c D cy ad iX cX4_allowSolid 1 (wsG yX4_allowSolid cX4_allowSolid 1 none) RX4) (hr : meth.sig.returnType = none) (M : Mem) (h : fX4_allowSolid M = some z) : SW p l e rm_X4_allowSolid s m args below meth c 0 0 (QX4_allowSolid below D cy ad args s z) 1 (PH D cy ad iX s M) 0 [(0, .ref (ad 17))] [] := by
  have hx := X.1
  have hb := X.2.1
  unfold fX4_allowSolid at h
  refine sw_aload_n hx hb dX4_allowSolid_0 0 rfl rfl ?_
  refine sw_get X inG4 mi_17 (ce_4 (rfl : kd 17 = 4)) rfl 4 (by decide) (goodW wd64) rfl dX4_allowSolid_1 ?_
  obtain ⟨h_ra_1, h⟩ := ga_ok h
  generalize gR M 17 4 = ra_1 at h h_ra_1 ⊢
  refine sw_bipush hx hb 32 dX4_allowSolid_4 (by decide) ?_
  refine sw_bipush hx hb 32 dX4_allowSolid_6 (by decide) ?_
  refine sw_callVV (C := RX0) (As := [.int 32, .int 32]) (rest := []) X (mm0 h_ra_1) (ce_0 h_ra_1) rfl rfl (fun _ hz => okX0_allow l X.2.2.2.2.2.2.1 ra_1 32 32 h_ra_1 M _ hz) (cwX4_137 X.2.2.2.2.1 ⟨Nat.le_of_ble_eq_true rfl, Nat.le_of_ble_eq_true rfl⟩)  rfl rfl (Nat.le_of_ble_eq_true rfl) dX4_allowSolid_8 ⟨Nat.le_of_ble_eq_true rfl, Nat.le_of_ble_eq_true rfl⟩ h (fun M_2 _ h => ?_)
  refine sw_aload_n hx hb dX4_allowSolid_11 0 rfl rfl ?_
  refine sw_get X inG4 mi_17 (ce_4 (rfl : kd 17 = 4)) rfl 4 (by decide) (goodW wd64) rfl dX4_allowSolid_12 ?_
  obtain ⟨h_ra_4, h⟩ := ga_ok h
  generalize gR M_2 17 4 = ra_4 at h h_ra_4 ⊢
  refine sw_bipush hx hb 9 dX4_allowSolid_15 (by decide) ?_
  refine sw_bipush hx hb 10 dX4_allowSolid_17 (by decide) ?_
  refine sw_callVV (C := RX0) (As := [.int 9, .int 10]) (rest := []) X (mm0 h_ra_4) (ce_0 h_ra_4) rfl rfl (fun _ hz => okX0_allow l X.2.2.2.2.2.2.1 ra_4 9 10 h_ra_4 M_2 _ hz) (cwX4_137 X.2.2.2.2.1 ⟨Nat.le_of_ble_eq_true rfl, Nat.le_of_ble_eq_true rfl⟩)  rfl rfl (Nat.le_of_ble_eq_true rfl) dX4_allowSolid_19 ⟨Nat.le_of_ble_eq_true rfl, Nat.le_of_ble_eq_true rfl⟩ h (fun M_5 _ h => ?_)
  refine sw_aload_n hx hb dX4_allowSolid_22 0 rfl rfl ?_
  refine sw_get X inG4 mi_17 (ce_4 (rfl : kd 17 = 4)) rfl 4 (by decide) (goodW wd64) rfl dX4_allowSolid_23 ?_
  obtain ⟨h_ra_7, h⟩ := ga_ok h
  generalize gR M_5 17 4 = ra_7 at h h_ra_7 ⊢
  refine sw_callVV (C := RX0) (As := []) (rest := []) X (mm0 h_ra_7) (ce_0 h_ra_7) rfl rfl (fun _ hz => okX0_turnRound l X.2.2.2.2.2.2.1 ra_7 h_ra_7 M_5 _ hz) (cwX4_149 X.2.2.2.2.1 ⟨Nat.le_of_ble_eq_true rfl, Nat.le_of_ble_eq_true rfl⟩)  rfl rfl (Nat.le_of_ble_eq_true rfl) dX4_allowSolid_26 ⟨Nat.le_of_ble_eq_true rfl, Nat.le_of_ble_eq_true rfl⟩ h (fun M_8 _ h => ?_)
  exact sw_Vret X hr dX4_allowSolid_29 h

end
theorem okX4_allowSolid (l : Launch) {D : va_G} {cy : Nat → ClassId} {ad : Nat → Nat} (hD : ∀ M : Mem, va_D (AA ad iX) (wl cy ad iX M)) (M : Mem) (z : Mem) (h : fX4_allowSolid M = some z) : CTV l yX4_allowSolid (wsG yX4_allowSolid cX4_allowSolid 1 none) rm_X4_allowSolid D cy ad iX [.ref (ad 17)] M z :=
  met_of (cc := cX4_allowSolid) (maxL := 1) (ret := none) (own := RX4) (by decide) rfl rfl hD ndX (Nat.le_of_ble_eq_true rfl) (fun p e s m below meth c X hr => wX4_allowSolid_E X hr M h)
abbrev QX3_becomeAtom (below : List Frame) (D : va_G) (cy : Nat → ClassId) (ad : Nat → Nat) (args : Array Value) (s : State) (z : Mem) : State → Prop := MQ below (va_Qv (fun u => u = z) (BB D cy ad iX) (AA ad iX)) args s 0 0 (AA ad iX)
section
variable {p : Program} {l : Launch} {e : Env} {s : State} {m : MethodId} {args : Array Value} {below : List Frame} {meth : Method} {c : Code} {D : va_G} {cy : Nat → ClassId} {ad : Nat → Nat} {z : Mem}
set_option maxHeartbeats 4000000 in
set_option maxRecDepth 100000 in
theorem wX3_becomeAtom_E (X : CX p s m args meth c D cy ad iX cX3_becomeAtom 3 (wsG yX3_becomeAtom cX3_becomeAtom 3 none) RX3) (hr : meth.sig.returnType = none) (o : Nat) (h_o : kd o = 3) (x1 : Int64) (M : Mem) (h : fX3_becomeAtom o x1 M = some z) : SW p l e rm_X3_becomeAtom s m args below meth c 0 0 (QX3_becomeAtom below D cy ad args s z) 3 (PH D cy ad iX s M) 0 [(0, .ref (ad o)), (1, .long x1)] [] := by
  have hx := X.1
  have hb := X.2.1
  unfold fX3_becomeAtom at h
  refine sw_aload_n hx hb dX3_becomeAtom_0 0 rfl rfl ?_
  refine sw_lload_n hx hb dX3_becomeAtom_1 1 rfl rfl ?_
  refine sw_iconst hx hb 0 dX3_becomeAtom_2 (by decide) ?_
  refine sw_callVV (C := RX3) (As := [.long x1, .int 0]) (rest := []) X (mm3 h_o) (ce_3 h_o) rfl rfl (fun _ hz => okX3_become l X.2.2.2.2.2.2.1 o x1 0 h_o M _ hz) (cwX3_7 X.2.2.2.2.1 ⟨Nat.le_of_ble_eq_true rfl, Nat.le_of_ble_eq_true rfl⟩)  rfl rfl (Nat.le_of_ble_eq_true rfl) dX3_becomeAtom_3 ⟨Nat.le_of_ble_eq_true rfl, Nat.le_of_ble_eq_true rfl⟩ h (fun M_1 _ h => ?_)
  exact sw_Vret X hr dX3_becomeAtom_6 h

end
theorem okX3_becomeAtom (l : Launch) {D : va_G} {cy : Nat → ClassId} {ad : Nat → Nat} (hD : ∀ M : Mem, va_D (AA ad iX) (wl cy ad iX M)) (o : Nat) (x1 : Int64) (h_o : kd o = 3) (M : Mem) (z : Mem) (h : fX3_becomeAtom o x1 M = some z) : CTV l yX3_becomeAtom (wsG yX3_becomeAtom cX3_becomeAtom 3 none) rm_X3_becomeAtom D cy ad iX [.ref (ad o), .long x1] M z :=
  met_of (cc := cX3_becomeAtom) (maxL := 3) (ret := none) (own := RX3) (by decide) rfl rfl hD ndX (Nat.le_of_ble_eq_true rfl) (fun p e s m below meth c X hr => wX3_becomeAtom_E X hr o h_o x1 M h)
abbrev QX4_readAtom (below : List Frame) (D : va_G) (cy : Nat → ClassId) (ad : Nat → Nat) (args : Array Value) (s : State) (z : Mem) : State → Prop := MQ below (va_Qv (fun u => u = z) (BB D cy ad iX) (AA ad iX)) args s 0 0 (AA ad iX)
section
variable {p : Program} {l : Launch} {e : Env} {s : State} {m : MethodId} {args : Array Value} {below : List Frame} {meth : Method} {c : Code} {D : va_G} {cy : Nat → ClassId} {ad : Nat → Nat} {z : Mem}
set_option maxHeartbeats 4000000 in
set_option maxRecDepth 100000 in
theorem wX4_readAtom_L91 (X : CX p s m args meth c D cy ad iX cX4_readAtom 3 (wsG yX4_readAtom cX4_readAtom 3 none) RX4) (hr : meth.sig.returnType = none) (M : Mem) (h : fX4_readAtom_L91 M = some z) : SW p l e rm_X4_readAtom s m args below meth c 0 0 (QX4_readAtom below D cy ad args s z) 3 (PH D cy ad iX s M) 91 [(0, .ref (ad 17))] [] := by
  have hx := X.1
  have hb := X.2.1
  unfold fX4_readAtom_L91 at h
  refine sw_aload_n hx hb dX4_readAtom_91 0 rfl rfl ?_
  refine sw_get X inG4 mi_17 (ce_4 (rfl : kd 17 = 4)) rfl 7 (by decide) (goodW wd71) rfl dX4_readAtom_92 ?_
  refine sw_iconst hx hb (-1) dX4_readAtom_95 (by decide) ?_
  refine sw_icmp_ne hx hb 117 dX4_readAtom_96 (by decide) h (fun h => ?_) (fun h => ?_)
  · exact sw_Vret X hr dX4_readAtom_117 h
  · refine sw_aload_n hx hb dX4_readAtom_99 0 rfl rfl ?_
    refine sw_get X inG4 mi_17 (ce_4 (rfl : kd 17 = 4)) rfl 3 (by decide) (goodW wd82) rfl dX4_readAtom_100 ?_
    refine sw_aload_n hx hb dX4_readAtom_103 0 rfl rfl ?_
    refine sw_get X inG4 mi_17 (ce_4 (rfl : kd 17 = 4)) rfl 4 (by decide) (goodW wd64) rfl dX4_readAtom_104 ?_
    obtain ⟨h_ra_14, h⟩ := ga_ok h
    generalize gR M 17 4 = ra_14 at h h_ra_14 ⊢
    refine sw_callVJ (C := RX0) (As := []) (rest := [.ref (ad 40)]) X (mm0 h_ra_14) (ce_0 h_ra_14) rfl rfl (fun _ hz => okX0_newest l X.2.2.2.2.2.2.1 ra_14 h_ra_14 M _ hz) (cwX4_141 X.2.2.2.2.1 ⟨Nat.le_of_ble_eq_true rfl, Nat.le_of_ble_eq_true rfl⟩)  rfl rfl (Nat.le_of_ble_eq_true rfl) dX4_readAtom_107 ⟨Nat.le_of_ble_eq_true rfl, Nat.le_of_ble_eq_true rfl⟩ h (fun v_16 M_15 _ h => ?_)
    refine sw_callVV (C := RX3) (As := [.long v_16]) (rest := []) X mi_40 (ce_3 (rfl : kd 40 = 3)) rfl rfl (fun _ hz => okX3_becomeAtom l X.2.2.2.2.2.2.1 40 v_16 (rfl : kd 40 = 3) M_15 _ hz) (cwX4_145 X.2.2.2.2.1 ⟨Nat.le_of_ble_eq_true rfl, Nat.le_of_ble_eq_true rfl⟩)  rfl rfl (Nat.le_of_ble_eq_true rfl) dX4_readAtom_110 ⟨Nat.le_of_ble_eq_true rfl, Nat.le_of_ble_eq_true rfl⟩ h (fun M_17 _ h => ?_)
    refine sw_aload_n hx hb dX4_readAtom_113 0 rfl rfl ?_
    refine sw_callVV (C := RX4) (As := []) (rest := []) X mi_17 (ce_4 (rfl : kd 17 = 4)) rfl rfl (fun _ hz => okX4_endPiece l X.2.2.2.2.2.2.1 M_17 _ hz) (cwX4_108 X.2.2.2.2.1 ⟨Nat.le_of_ble_eq_true rfl, Nat.le_of_ble_eq_true rfl⟩)  rfl rfl (Nat.le_of_ble_eq_true rfl) dX4_readAtom_114 ⟨Nat.le_of_ble_eq_true rfl, Nat.le_of_ble_eq_true rfl⟩ h (fun M_19 _ h => ?_)
    exact sw_Vret X hr dX4_readAtom_117 h

set_option maxHeartbeats 4000000 in
set_option maxRecDepth 100000 in
theorem wX4_readAtom_E (X : CX p s m args meth c D cy ad iX cX4_readAtom 3 (wsG yX4_readAtom cX4_readAtom 3 none) RX4) (hr : meth.sig.returnType = none) (M : Mem) (h : fX4_readAtom M = some z) : SW p l e rm_X4_readAtom s m args below meth c 0 0 (QX4_readAtom below D cy ad args s z) 3 (PH D cy ad iX s M) 0 [(0, .ref (ad 17))] [] := by
  have hx := X.1
  have hb := X.2.1
  unfold fX4_readAtom at h
  refine sw_aload_n hx hb dX4_readAtom_0 0 rfl rfl ?_
  refine sw_get X inG4 mi_17 (ce_4 (rfl : kd 17 = 4)) rfl 4 (by decide) (goodW wd64) rfl dX4_readAtom_1 ?_
  obtain ⟨h_ra_1, h⟩ := ga_ok h
  generalize gR M 17 4 = ra_1 at h h_ra_1 ⊢
  refine sw_callVI (C := RX0) (As := []) (rest := []) X (mm0 h_ra_1) (ce_0 h_ra_1) rfl rfl (fun _ hz => okX0_atoms l X.2.2.2.2.2.2.1 ra_1 h_ra_1 M _ hz) (cwX4_121 X.2.2.2.2.1 ⟨Nat.le_of_ble_eq_true rfl, Nat.le_of_ble_eq_true rfl⟩)  rfl rfl (Nat.le_of_ble_eq_true rfl) dX4_readAtom_4 ⟨Nat.le_of_ble_eq_true rfl, Nat.le_of_ble_eq_true rfl⟩ h (fun v_3 M_2 _ h => ?_)
  refine sw_bipush hx hb 60 dX4_readAtom_7 (by decide) ?_
  refine sw_icmp_lt hx hb 21 dX4_readAtom_9 (by decide) h (fun h => ?_) (fun h => ?_)
  · refine sw_aload_n hx hb dX4_readAtom_21 0 rfl rfl ?_
    refine sw_get X inG4 mi_17 (ce_4 (rfl : kd 17 = 4)) rfl 4 (by decide) (goodW wd64) rfl dX4_readAtom_22 ?_
    obtain ⟨h_ra_4, h⟩ := ga_ok h
    generalize gR M_2 17 4 = ra_4 at h h_ra_4 ⊢
    refine sw_callVV (C := RX0) (As := []) (rest := []) X (mm0 h_ra_4) (ce_0 h_ra_4) rfl rfl (fun _ hz => okX0_addAtom l X.2.2.2.2.2.2.1 ra_4 h_ra_4 M_2 _ hz) (cwX4_124 X.2.2.2.2.1 ⟨Nat.le_of_ble_eq_true rfl, Nat.le_of_ble_eq_true rfl⟩)  rfl rfl (Nat.le_of_ble_eq_true rfl) dX4_readAtom_25 ⟨Nat.le_of_ble_eq_true rfl, Nat.le_of_ble_eq_true rfl⟩ h (fun M_5 _ h => ?_)
    refine sw_aload_n hx hb dX4_readAtom_28 0 rfl rfl ?_
    refine sw_get X inG4 mi_17 (ce_4 (rfl : kd 17 = 4)) rfl 0 (by decide) (goodW wd62) rfl dX4_readAtom_29 ?_
    refine sw_aload_n hx hb dX4_readAtom_32 0 rfl rfl ?_
    refine sw_get X inG4 mi_17 (ce_4 (rfl : kd 17 = 4)) rfl 6 (by decide) (goodW wd70) rfl dX4_readAtom_33 ?_
    refine sw_callVI (C := RX5) (As := [.int (gI M_5 17 6)]) (rest := []) X mi_18 (ce_5 (rfl : kd 18 = 5)) rfl rfl (fun _ hz => okX5_at l X.2.2.2.2.2.2.1 18 (gI M_5 17 6) (rfl : kd 18 = 5) M_5 _ hz) (cwX4_57 X.2.2.2.2.1 ⟨Nat.le_of_ble_eq_true rfl, Nat.le_of_ble_eq_true rfl⟩)  rfl rfl (Nat.le_of_ble_eq_true rfl) dX4_readAtom_36 ⟨Nat.le_of_ble_eq_true rfl, Nat.le_of_ble_eq_true rfl⟩ h (fun v_8 M_7 _ h => ?_)
    refine sw_istore_n hx hb [(1, .int v_8), (0, .ref (ad 17))] dX4_readAtom_39 rfl (by decide) rfl ?_
    refine sw_iload_n hx hb dX4_readAtom_40 0 rfl rfl ?_
    refine sw_bipush hx hb 91 dX4_readAtom_41 (by decide) ?_
    refine sw_icmp_ne hx hb 53 dX4_readAtom_43 (by decide) h (fun h => ?_) (fun h => ?_)
    · refine sw_iload_n hx hb dX4_readAtom_53 0 rfl rfl ?_
      refine sw_bipush hx hb 46 dX4_readAtom_54 (by decide) ?_
      refine sw_icmp_ne hx hb 76 dX4_readAtom_56 (by decide) h (fun h => ?_) (fun h => ?_)
      · refine sw_aload_n hx hb dX4_readAtom_76 1 rfl rfl ?_
        refine sw_iconst hx hb 0 dX4_readAtom_77 (by decide) ?_
        refine sw_callVI (C := RX4) (As := [.int 0]) (rest := []) X mi_17 (ce_4 (rfl : kd 17 = 4)) rfl rfl (fun _ hz => okX4_readSign l X.2.2.2.2.2.2.1 0 M_7 _ hz) (cwX4_133 X.2.2.2.2.1 ⟨Nat.le_of_ble_eq_true rfl, Nat.le_of_ble_eq_true rfl⟩)  rfl rfl (Nat.le_of_ble_eq_true rfl) dX4_readAtom_78 ⟨Nat.le_of_ble_eq_true rfl, Nat.le_of_ble_eq_true rfl⟩ h (fun v_10 M_9 _ h => ?_)
        refine sw_istore_n hx hb [(2, .int v_10), (1, .int v_8), (0, .ref (ad 17))] dX4_readAtom_81 rfl (by decide) rfl ?_
        refine sw_aload_n hx hb dX4_readAtom_82 2 rfl rfl ?_
        refine sw_get X inG4 mi_17 (ce_4 (rfl : kd 17 = 4)) rfl 4 (by decide) (goodW wd64) rfl dX4_readAtom_83 ?_
        obtain ⟨h_ra_11, h⟩ := ga_ok h
        generalize gR M_9 17 4 = ra_11 at h h_ra_11 ⊢
        refine sw_iload_n hx hb dX4_readAtom_86 0 rfl rfl ?_
        refine sw_iload_n hx hb dX4_readAtom_87 0 rfl rfl ?_
        refine sw_callVV (C := RX0) (As := [.int v_10, .int v_10]) (rest := []) X (mm0 h_ra_11) (ce_0 h_ra_11) rfl rfl (fun _ hz => okX0_allow l X.2.2.2.2.2.2.1 ra_11 v_10 v_10 h_ra_11 M_9 _ hz) (cwX4_137 X.2.2.2.2.1 ⟨Nat.le_of_ble_eq_true rfl, Nat.le_of_ble_eq_true rfl⟩)  rfl rfl (Nat.le_of_ble_eq_true rfl) dX4_readAtom_88 ⟨Nat.le_of_ble_eq_true rfl, Nat.le_of_ble_eq_true rfl⟩ h (fun M_12 _ h => ?_)
        refine sw_sub (lv1 := [(0, .ref (ad 17))]) [2] rfl ?_
        exact wX4_readAtom_L91 X hr M_12 h
      · refine sw_aload_n hx hb dX4_readAtom_59 1 rfl rfl ?_
        refine sw_dup hx hb dX4_readAtom_60 rfl ?_
        refine sw_get X inG4 mi_17 (ce_4 (rfl : kd 17 = 4)) rfl 6 (by decide) (goodW wd70) rfl dX4_readAtom_61 ?_
        refine sw_iconst hx hb 1 dX4_readAtom_64 (by decide) ?_
        refine sw_iadd hx hb dX4_readAtom_65 ?_
        refine sw_putI X tyX4 tyX4_ok nmX4 inG4 mi_17 (ce_4 (rfl : kd 17 = 4)) rfl 6 (by decide) (goodW wd70) rfl (by decide +kernel : parseFieldDescriptor _ = some .int) rfl rfl (Nat.le_of_ble_eq_true rfl) (pu_4_6 (rfl : kd 17 = 4) _) dX4_readAtom_66 h (fun M_21 h => ?_)
        refine sw_aload_n hx hb dX4_readAtom_69 1 rfl rfl ?_
        refine sw_callVV (C := RX4) (As := []) (rest := []) X mi_17 (ce_4 (rfl : kd 17 = 4)) rfl rfl (fun _ hz => okX4_allowSolid l X.2.2.2.2.2.2.1 M_21 _ hz) (cwX4_130 X.2.2.2.2.1 ⟨Nat.le_of_ble_eq_true rfl, Nat.le_of_ble_eq_true rfl⟩)  rfl rfl (Nat.le_of_ble_eq_true rfl) dX4_readAtom_70 ⟨Nat.le_of_ble_eq_true rfl, Nat.le_of_ble_eq_true rfl⟩ h (fun M_22 _ h => ?_)
        refine sw_goto hx hb 91 dX4_readAtom_73 (by decide) ?_
        refine sw_sub (lv1 := [(0, .ref (ad 17))]) [1] rfl ?_
        exact wX4_readAtom_L91 X hr M_22 h
    · refine sw_aload_n hx hb dX4_readAtom_46 1 rfl rfl ?_
      refine sw_callVV (C := RX4) (As := []) (rest := []) X mi_17 (ce_4 (rfl : kd 17 = 4)) rfl rfl (fun _ hz => okX4_readSet l X.2.2.2.2.2.2.1 M_7 _ hz) (cwX4_127 X.2.2.2.2.1 ⟨Nat.le_of_ble_eq_true rfl, Nat.le_of_ble_eq_true rfl⟩)  rfl rfl (Nat.le_of_ble_eq_true rfl) dX4_readAtom_47 ⟨Nat.le_of_ble_eq_true rfl, Nat.le_of_ble_eq_true rfl⟩ h (fun M_24 _ h => ?_)
      refine sw_goto hx hb 91 dX4_readAtom_50 (by decide) ?_
      refine sw_sub (lv1 := [(0, .ref (ad 17))]) [1] rfl ?_
      exact wX4_readAtom_L91 X hr M_24 h
  · refine sw_aload_n hx hb dX4_readAtom_12 0 rfl rfl ?_
    refine sw_aload_n hx hb dX4_readAtom_13 0 rfl rfl ?_
    refine sw_get X inG4 mi_17 (ce_4 (rfl : kd 17 = 4)) rfl 6 (by decide) (goodW wd70) rfl dX4_readAtom_14 ?_
    refine sw_putI X tyX4 tyX4_ok nmX4 inG4 mi_17 (ce_4 (rfl : kd 17 = 4)) rfl 7 (by decide) (goodW wd71) rfl (by decide +kernel : parseFieldDescriptor _ = some .int) rfl rfl (Nat.le_of_ble_eq_true rfl) (pu_4_7 (rfl : kd 17 = 4) _) dX4_readAtom_17 h (fun M_26 h => ?_)
    exact sw_Vret X hr dX4_readAtom_20 h

end
theorem okX4_readAtom (l : Launch) {D : va_G} {cy : Nat → ClassId} {ad : Nat → Nat} (hD : ∀ M : Mem, va_D (AA ad iX) (wl cy ad iX M)) (M : Mem) (z : Mem) (h : fX4_readAtom M = some z) : CTV l yX4_readAtom (wsG yX4_readAtom cX4_readAtom 3 none) rm_X4_readAtom D cy ad iX [.ref (ad 17)] M z :=
  met_of (cc := cX4_readAtom) (maxL := 3) (ret := none) (own := RX4) (by decide) rfl rfl hD ndX (Nat.le_of_ble_eq_true rfl) (fun p e s m below meth c X hr => wX4_readAtom_E X hr M h)
abbrev QX0_setEdges (below : List Frame) (D : va_G) (cy : Nat → ClassId) (ad : Nat → Nat) (args : Array Value) (s : State) (z : Mem) : State → Prop := MQ below (va_Qv (fun u => u = z) (BB D cy ad iX) (AA ad iX)) args s 0 0 (AA ad iX)
section
variable {p : Program} {l : Launch} {e : Env} {s : State} {m : MethodId} {args : Array Value} {below : List Frame} {meth : Method} {c : Code} {D : va_G} {cy : Nat → ClassId} {ad : Nat → Nat} {z : Mem}
set_option maxHeartbeats 4000000 in
set_option maxRecDepth 100000 in
theorem wX0_setEdges_E (X : CX p s m args meth c D cy ad iX cX0_setEdges 5 (wsG yX0_setEdges cX0_setEdges 5 none) RX0) (hr : meth.sig.returnType = none) (o : Nat) (h_o : kd o = 0) (x1 : Int64) (x3 : Int64) (M : Mem) (h : fX0_setEdges o x1 x3 M = some z) : SW p l e rm_X0_setEdges s m args below meth c 0 0 (QX0_setEdges below D cy ad args s z) 5 (PH D cy ad iX s M) 0 [(0, .ref (ad o)), (1, .long x1), (3, .long x3)] [] := by
  have hx := X.1
  have hb := X.2.1
  unfold fX0_setEdges at h
  refine sw_aload_n hx hb dX0_setEdges_0 0 rfl rfl ?_
  refine sw_lload_n hx hb dX0_setEdges_1 1 rfl rfl ?_
  refine sw_putJ X tyX0 tyX0_ok nmX0 inG0 (mm0 h_o) (ce_0 h_o) rfl 3 (by decide) (goodW wd41) rfl (by decide +kernel : parseFieldDescriptor _ = some .long) rfl rfl (Nat.le_of_ble_eq_true rfl) (pu_0_3 h_o _) dX0_setEdges_2 h (fun M_1 h => ?_)
  refine sw_aload_n hx hb dX0_setEdges_5 0 rfl rfl ?_
  refine sw_lload_n hx hb dX0_setEdges_6 2 rfl rfl ?_
  refine sw_putJ X tyX0 tyX0_ok nmX0 inG0 (mm0 h_o) (ce_0 h_o) rfl 4 (by decide) (goodW wd42) rfl (by decide +kernel : parseFieldDescriptor _ = some .long) rfl rfl (Nat.le_of_ble_eq_true rfl) (pu_0_4 h_o _) dX0_setEdges_7 h (fun M_2 h => ?_)
  exact sw_Vret X hr dX0_setEdges_10 h

end
theorem okX0_setEdges (l : Launch) {D : va_G} {cy : Nat → ClassId} {ad : Nat → Nat} (hD : ∀ M : Mem, va_D (AA ad iX) (wl cy ad iX M)) (o : Nat) (x1 : Int64) (x3 : Int64) (h_o : kd o = 0) (M : Mem) (z : Mem) (h : fX0_setEdges o x1 x3 M = some z) : CTV l yX0_setEdges (wsG yX0_setEdges cX0_setEdges 5 none) rm_X0_setEdges D cy ad iX [.ref (ad o), .long x1, .long x3] M z :=
  met_of (cc := cX0_setEdges) (maxL := 5) (ret := none) (own := RX0) (by decide) rfl rfl hD ndX (Nat.le_of_ble_eq_true rfl) (fun p e s m below meth c X hr => wX0_setEdges_E X hr o h_o x1 x3 M h)
abbrev QX4_end (below : List Frame) (D : va_G) (cy : Nat → ClassId) (ad : Nat → Nat) (args : Array Value) (s : State) (z : Mem) : State → Prop := MQ below (va_Qv (fun u => u = z) (BB D cy ad iX) (AA ad iX)) args s 0 0 (AA ad iX)
section
variable {p : Program} {l : Launch} {e : Env} {s : State} {m : MethodId} {args : Array Value} {below : List Frame} {meth : Method} {c : Code} {D : va_G} {cy : Nat → ClassId} {ad : Nat → Nat} {z : Mem}
set_option maxHeartbeats 4000000 in
set_option maxRecDepth 100000 in
theorem wX4_end_L26 (X : CX p s m args meth c D cy ad iX cX4_end 1 (wsG yX4_end cX4_end 1 none) RX4) (hr : meth.sig.returnType = none) (M : Mem) (h : fX4_end_L26 M = some z) : SW p l e rm_X4_end s m args below meth c 0 0 (QX4_end below D cy ad args s z) 1 (PH D cy ad iX s M) 26 [(0, .ref (ad 17))] [] := by
  have hx := X.1
  have hb := X.2.1
  unfold fX4_end_L26 at h
  refine sw_aload_n hx hb dX4_end_26 0 rfl rfl ?_
  refine sw_callVV (C := RX4) (As := []) (rest := []) X mi_17 (ce_4 (rfl : kd 17 = 4)) rfl rfl (fun _ hz => okX4_endRow l X.2.2.2.2.2.2.1 M _ hz) (cwX4_66 X.2.2.2.2.1 ⟨Nat.le_of_ble_eq_true rfl, Nat.le_of_ble_eq_true rfl⟩)  rfl rfl (Nat.le_of_ble_eq_true rfl) dX4_end_27 ⟨Nat.le_of_ble_eq_true rfl, Nat.le_of_ble_eq_true rfl⟩ h (fun M_1 _ h => ?_)
  refine sw_aload_n hx hb dX4_end_30 0 rfl rfl ?_
  refine sw_get X inG4 mi_17 (ce_4 (rfl : kd 17 = 4)) rfl 4 (by decide) (goodW wd64) rfl dX4_end_31 ?_
  obtain ⟨h_ra_3, h⟩ := ga_ok h
  generalize gR M_1 17 4 = ra_3 at h h_ra_3 ⊢
  refine sw_aload_n hx hb dX4_end_34 0 rfl rfl ?_
  refine sw_get X inG4 mi_17 (ce_4 (rfl : kd 17 = 4)) rfl 1 (by decide) (goodW wd51) rfl dX4_end_35 ?_
  refine sw_iconst hx hb 0 dX4_end_38 (by decide) ?_
  refine sw_aald X mi_20 (rfl : kd 20 = 12) dX4_end_39 h (fun pa_4 ha hb2 h => ?_)
  have h_pa_4 := kv20 ha hb2
  refine sw_getN (host := "TokenMachines") X inG3 (mm3 h_pa_4) (ce_3 h_pa_4) rfl 0 (by decide) (by decide +kernel) rfl dX4_end_40 ?_
  refine sw_aload_n hx hb dX4_end_43 0 rfl rfl ?_
  refine sw_get X inG4 mi_17 (ce_4 (rfl : kd 17 = 4)) rfl 1 (by decide) (goodW wd51) rfl dX4_end_44 ?_
  refine sw_iconst hx hb 0 dX4_end_47 (by decide) ?_
  refine sw_aald X mi_20 (rfl : kd 20 = 12) dX4_end_48 h (fun pa_5 ha hb2 h => ?_)
  have h_pa_5 := kv20 ha hb2
  refine sw_getN (host := "TokenMachines") X inG3 (mm3 h_pa_5) (ce_3 h_pa_5) rfl 1 (by decide) (by decide +kernel) rfl dX4_end_49 ?_
  refine sw_callVV (C := RX0) (As := [.long (gJ M_1 pa_4 0), .long (gJ M_1 pa_5 1)]) (rest := []) X (mm0 h_ra_3) (ce_0 h_ra_3) rfl rfl (fun _ hz => okX0_setEdges l X.2.2.2.2.2.2.1 ra_3 (gJ M_1 pa_4 0) (gJ M_1 pa_5 1) h_ra_3 M_1 _ hz) (cwX4_91 X.2.2.2.2.1 ⟨Nat.le_of_ble_eq_true rfl, Nat.le_of_ble_eq_true rfl⟩)  rfl rfl (Nat.le_of_ble_eq_true rfl) dX4_end_52 ⟨Nat.le_of_ble_eq_true rfl, Nat.le_of_ble_eq_true rfl⟩ h (fun M_6 _ h => ?_)
  exact sw_Vret X hr dX4_end_55 h

set_option maxHeartbeats 4000000 in
set_option maxRecDepth 100000 in
theorem wX4_end_E (X : CX p s m args meth c D cy ad iX cX4_end 1 (wsG yX4_end cX4_end 1 none) RX4) (hr : meth.sig.returnType = none) (M : Mem) (h : fX4_end M = some z) : SW p l e rm_X4_end s m args below meth c 0 0 (QX4_end below D cy ad args s z) 1 (PH D cy ad iX s M) 0 [(0, .ref (ad 17))] [] := by
  have hx := X.1
  have hb := X.2.1
  unfold fX4_end at h
  refine sw_aload_n hx hb dX4_end_0 0 rfl rfl ?_
  refine sw_get X inG4 mi_17 (ce_4 (rfl : kd 17 = 4)) rfl 7 (by decide) (goodW wd71) rfl dX4_end_1 ?_
  refine sw_iconst hx hb (-1) dX4_end_4 (by decide) ?_
  refine sw_icmp_ne hx hb 26 dX4_end_5 (by decide) h (fun h => ?_) (fun h => ?_)
  · refine sw_sub (lv1 := [(0, .ref (ad 17))]) [0] rfl ?_
    exact wX4_end_L26 X hr M h
  · refine sw_aload_n hx hb dX4_end_8 0 rfl rfl ?_
    refine sw_get X inG4 mi_17 (ce_4 (rfl : kd 17 = 4)) rfl 5 (by decide) (goodW wd52) rfl dX4_end_9 ?_
    refine sw_if_le hx hb 26 dX4_end_12 (by decide) h (fun h => ?_) (fun h => ?_)
    · refine sw_sub (lv1 := [(0, .ref (ad 17))]) [0] rfl ?_
      exact wX4_end_L26 X hr M h
    · refine sw_aload_n hx hb dX4_end_15 0 rfl rfl ?_
      refine sw_aload_n hx hb dX4_end_16 0 rfl rfl ?_
      refine sw_get X inG4 mi_17 (ce_4 (rfl : kd 17 = 4)) rfl 0 (by decide) (goodW wd62) rfl dX4_end_17 ?_
      refine sw_callVI (C := RX5) (As := []) (rest := [.ref (ad 17)]) X mi_18 (ce_5 (rfl : kd 18 = 5)) rfl rfl (fun _ hz => okX5_size l X.2.2.2.2.2.2.1 18 (rfl : kd 18 = 5) M _ hz) (cwX4_53 X.2.2.2.2.1 ⟨Nat.le_of_ble_eq_true rfl, Nat.le_of_ble_eq_true rfl⟩)  rfl rfl (Nat.le_of_ble_eq_true rfl) dX4_end_20 ⟨Nat.le_of_ble_eq_true rfl, Nat.le_of_ble_eq_true rfl⟩ h (fun v_9 M_8 _ h => ?_)
      refine sw_putI X tyX4 tyX4_ok nmX4 inG4 mi_17 (ce_4 (rfl : kd 17 = 4)) rfl 7 (by decide) (goodW wd71) rfl (by decide +kernel : parseFieldDescriptor _ = some .int) rfl rfl (Nat.le_of_ble_eq_true rfl) (pu_4_7 (rfl : kd 17 = 4) _) dX4_end_23 h (fun M_10 h => ?_)
      refine sw_sub (lv1 := [(0, .ref (ad 17))]) [0] rfl ?_
      exact wX4_end_L26 X hr M_10 h

end
theorem okX4_end (l : Launch) {D : va_G} {cy : Nat → ClassId} {ad : Nat → Nat} (hD : ∀ M : Mem, va_D (AA ad iX) (wl cy ad iX M)) (M : Mem) (z : Mem) (h : fX4_end M = some z) : CTV l yX4_end (wsG yX4_end cX4_end 1 none) rm_X4_end D cy ad iX [.ref (ad 17)] M z :=
  met_of (cc := cX4_end) (maxL := 1) (ret := none) (own := RX4) (by decide) rfl rfl hD ndX (Nat.le_of_ble_eq_true rfl) (fun p e s m below meth c X hr => wX4_end_E X hr M h)
