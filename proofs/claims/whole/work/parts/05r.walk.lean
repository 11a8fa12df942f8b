abbrev QX7_tokens (below : List Frame) (D : va_G) (cy : Nat → ClassId) (ad : Nat → Nat) (args : Array Value) (s : State) (z : Int32 × Mem) : State → Prop := MQ below (va_Qi (fun r u => r = z.1 ∧ u = z.2) (BB D cy ad iY) (AA ad iY)) args s 0 0 (AA ad iY)
section
variable {p : Program} {l : Launch} {e : Env} {s : State} {m : MethodId} {args : Array Value} {below : List Frame} {meth : Method} {c : Code} {D : va_G} {cy : Nat → ClassId} {ad : Nat → Nat} {z : Int32 × Mem}
set_option maxHeartbeats 4000000 in
set_option maxRecDepth 100000 in
theorem wX7_tokens_L183 (X : CX p s m args meth c D cy ad iY cX7_tokens 6 (wsG yX7_tokens cX7_tokens 6 (some .int)) RX7) (hr : meth.sig.returnType = (some .int)) (y0 : Int32) (M : Mem) (h : fX7_tokens_L183 y0 M = some z) : SW p l e rm_X7_tokens s m args below meth c 0 0 (QX7_tokens below D cy ad args s z) 6 (PH D cy ad iY s M) 183 [(0, .ref (ad 50))] [.int y0, .ref (ad 50)] := by
  have hx := X.1
  have hb := X.2.1
  unfold fX7_tokens_L183 at h
  refine sw_putI X tyX7 tyX7_ok nmX7 inG7 mi_50 (ce_7 (rfl : kd 50 = 7)) rfl 12 (by decide) (goodW wd408) rfl (by decide +kernel : parseFieldDescriptor _ = some .int) rfl rfl (Nat.le_of_ble_eq_true rfl) (pu_7_12 (rfl : kd 50 = 7) _) dX7_tokens_183 h (fun M_12 h => ?_)
  refine sw_aload_n hx hb dX7_tokens_186 0 rfl rfl ?_
  refine sw_get X inG7 mi_50 (ce_7 (rfl : kd 50 = 7)) rfl 13 (by decide) (goodW wd511) rfl dX7_tokens_187 ?_
  refine sw_if_eq hx hb 198 dX7_tokens_190 (by decide) h (fun h => ?_) (fun h => ?_)
  · refine sw_aload_n hx hb dX7_tokens_198 0 rfl rfl ?_
    refine sw_get X inG7 mi_50 (ce_7 (rfl : kd 50 = 7)) rfl 12 (by decide) (goodW wd408) rfl dX7_tokens_199 ?_
    exact sw_Iret X hr dX7_tokens_202 h
  · refine sw_bipush hx hb (-3) dX7_tokens_193 (by decide) ?_
    refine sw_goto hx hb 202 dX7_tokens_195 (by decide) ?_
    exact sw_Iret X hr dX7_tokens_202 h

set_option maxHeartbeats 4000000 in
set_option maxRecDepth 100000 in
theorem wX7_tokens_L162 (X : CX p s m args meth c D cy ad iY cX7_tokens 6 (wsG yX7_tokens cX7_tokens 6 (some .int)) RX7) (hr : meth.sig.returnType = (some .int)) (k73 : Int32 → Int32 → Int32 → Int32 → Mem → Option (Int32 × Mem)) (hk73 : ∀ (x1 : Int32) (x2 : Int32) (x3 : Int32) (x4 : Int32) (M : Mem), k73 x1 x2 x3 x4 M = some z → SW p l e rm_X7_tokens s m args below meth c 0 0 (QX7_tokens below D cy ad args s z) 6 (PH D cy ad iY s M) 73 [(0, .ref (ad 50)), (1, .int x1), (2, .int x2), (3, .int x3), (4, .int x4)] []) (x1 : Int32) (x2 : Int32) (x3 : Int32) (y0 : Int32) (M : Mem) (h : fX7_tokens_L162 k73 x1 x2 x3 y0 M = some z) : SW p l e rm_X7_tokens s m args below meth c 0 0 (QX7_tokens below D cy ad args s z) 6 (PH D cy ad iY s M) 162 [(0, .ref (ad 50)), (1, .int x1), (2, .int x2), (3, .int x3)] [.int y0] := by
  have hx := X.1
  have hb := X.2.1
  unfold fX7_tokens_L162 at h
  refine sw_istore hx hb [(4, .int y0), (0, .ref (ad 50)), (1, .int x1), (2, .int x2), (3, .int x3)] dX7_tokens_162 (by decide) rfl ?_
  refine sw_goto hx hb 73 dX7_tokens_164 (by decide) ?_
  refine sw_sub (lv1 := [(0, .ref (ad 50)), (1, .int x1), (2, .int x2), (3, .int x3), (4, .int y0)]) [1, 2, 3, 4, 0] rfl ?_
  exact hk73 x1 x2 x3 y0 M h

set_option maxHeartbeats 4000000 in
set_option maxRecDepth 100000 in
theorem wX7_tokens_L146 (X : CX p s m args meth c D cy ad iY cX7_tokens 6 (wsG yX7_tokens cX7_tokens 6 (some .int)) RX7) (hr : meth.sig.returnType = (some .int)) (k73 : Int32 → Int32 → Int32 → Int32 → Mem → Option (Int32 × Mem)) (hk73 : ∀ (x1 : Int32) (x2 : Int32) (x3 : Int32) (x4 : Int32) (M : Mem), k73 x1 x2 x3 x4 M = some z → SW p l e rm_X7_tokens s m args below meth c 0 0 (QX7_tokens below D cy ad args s z) 6 (PH D cy ad iY s M) 73 [(0, .ref (ad 50)), (1, .int x1), (2, .int x2), (3, .int x3), (4, .int x4)] []) (x1 : Int32) (x2 : Int32) (x3 : Int32) (x4 : Int32) (x5 : Int32) (M : Mem) (h : fX7_tokens_L146 k73 x1 x2 x3 x4 x5 M = some z) : SW p l e rm_X7_tokens s m args below meth c 0 0 (QX7_tokens below D cy ad args s z) 6 (PH D cy ad iY s M) 146 [(0, .ref (ad 50)), (1, .int x1), (2, .int x2), (3, .int x3), (4, .int x4), (5, .int x5)] [] := by
  have hx := X.1
  have hb := X.2.1
  unfold fX7_tokens_L146 at h
  refine sw_iload hx hb dX7_tokens_146 5 rfl ?_
  refine sw_iload hx hb dX7_tokens_148 4 rfl ?_
  refine sw_icmp_le hx hb 158 dX7_tokens_150 (by decide) h (fun h => ?_) (fun h => ?_)
  · refine sw_iload hx hb dX7_tokens_158 4 rfl ?_
    refine sw_iconst hx hb 1 dX7_tokens_160 (by decide) ?_
    refine sw_iadd hx hb dX7_tokens_161 ?_
    refine sw_sub (lv1 := [(0, .ref (ad 50)), (1, .int x1), (2, .int x2), (3, .int x3)]) [0, 1, 2, 3] rfl ?_
    exact wX7_tokens_L162 X hr k73 hk73 x1 x2 x3 (x4 + 1) M h
  · refine sw_iload hx hb dX7_tokens_153 5 rfl ?_
    refine sw_goto hx hb 162 dX7_tokens_155 (by decide) ?_
    refine sw_sub (lv1 := [(0, .ref (ad 50)), (1, .int x1), (2, .int x2), (3, .int x3)]) [0, 1, 2, 3] rfl ?_
    exact wX7_tokens_L162 X hr k73 hk73 x1 x2 x3 x5 M h

set_option maxHeartbeats 4000000 in
set_option maxRecDepth 100000 in
theorem wX7_tokens_L129 (X : CX p s m args meth c D cy ad iY cX7_tokens 6 (wsG yX7_tokens cX7_tokens 6 (some .int)) RX7) (hr : meth.sig.returnType = (some .int)) (k73 : Int32 → Int32 → Int32 → Int32 → Mem → Option (Int32 × Mem)) (hk73 : ∀ (x1 : Int32) (x2 : Int32) (x3 : Int32) (x4 : Int32) (M : Mem), k73 x1 x2 x3 x4 M = some z → SW p l e rm_X7_tokens s m args below meth c 0 0 (QX7_tokens below D cy ad args s z) 6 (PH D cy ad iY s M) 73 [(0, .ref (ad 50)), (1, .int x1), (2, .int x2), (3, .int x3), (4, .int x4)] []) (x1 : Int32) (x2 : Int32) (x3 : Int32) (x4 : Int32) (x5 : Int32) (M : Mem) (h : fX7_tokens_L129 k73 x1 x2 x3 x4 x5 M = some z) : SW p l e rm_X7_tokens s m args below meth c 0 0 (QX7_tokens below D cy ad args s z) 6 (PH D cy ad iY s M) 129 [(0, .ref (ad 50)), (1, .int x1), (2, .int x2), (3, .int x3), (4, .int x4), (5, .int x5)] [] := by
  have hx := X.1
  have hb := X.2.1
  unfold fX7_tokens_L129 at h
  refine sw_iload hx hb dX7_tokens_129 5 rfl ?_
  refine sw_iload hx hb dX7_tokens_131 4 rfl ?_
  refine sw_icmp_le hx hb 146 dX7_tokens_133 (by decide) h (fun h => ?_) (fun h => ?_)
  · refine sw_sub (lv1 := [(0, .ref (ad 50)), (1, .int x1), (2, .int x2), (3, .int x3), (4, .int x4), (5, .int x5)]) [0, 1, 2, 3, 4, 5] rfl ?_
    exact wX7_tokens_L146 X hr k73 hk73 x1 x2 x3 x4 x5 M h
  · refine sw_aload_n hx hb dX7_tokens_136 0 rfl rfl ?_
    refine sw_iload hx hb dX7_tokens_137 4 rfl ?_
    refine sw_iload hx hb dX7_tokens_139 5 rfl ?_
    refine sw_iload_n hx hb dX7_tokens_141 2 rfl rfl ?_
    refine sw_iload_n hx hb dX7_tokens_142 3 rfl rfl ?_
    refine sw_callVV (C := RX7) (As := [.int x4, .int x5, .int x2, .int x3]) (rest := []) X mi_50 (ce_7 (rfl : kd 50 = 7)) rfl rfl (fun _ hz => okX7_row l X.2.2.2.2.2.2.1 x4 x5 x2 x3 M _ hz) (cwX7_252 X.2.2.2.2.1 ⟨Nat.le_of_ble_eq_true rfl, Nat.le_of_ble_eq_true rfl⟩)  rfl rfl (Nat.le_of_ble_eq_true rfl) dX7_tokens_143 ⟨Nat.le_of_ble_eq_true rfl, Nat.le_of_ble_eq_true rfl⟩ h (fun M_13 _ h => ?_)
    refine sw_sub (lv1 := [(0, .ref (ad 50)), (1, .int x1), (2, .int x2), (3, .int x3), (4, .int x4), (5, .int x5)]) [0, 1, 2, 3, 4, 5] rfl ?_
    exact wX7_tokens_L146 X hr k73 hk73 x1 x2 x3 x4 x5 M_13 h

set_option maxHeartbeats 4000000 in
set_option maxRecDepth 100000 in
theorem wX7_tokens_H105 (X : CX p s m args meth c D cy ad iY cX7_tokens 6 (wsG yX7_tokens cX7_tokens 6 (some .int)) RX7) (hr : meth.sig.returnType = (some .int)) (k73 : Int32 → Int32 → Int32 → Int32 → Mem → Option (Int32 × Mem)) (hk73 : ∀ (x1 : Int32) (x2 : Int32) (x3 : Int32) (x4 : Int32) (M : Mem), k73 x1 x2 x3 x4 M = some z → SW p l e rm_X7_tokens s m args below meth c 0 0 (QX7_tokens below D cy ad args s z) 6 (PH D cy ad iY s M) 73 [(0, .ref (ad 50)), (1, .int x1), (2, .int x2), (3, .int x3), (4, .int x4)] []) : ∀ (n : Nat) (x1 : Int32) (x2 : Int32) (x3 : Int32) (x4 : Int32) (x5 : Int32) (M : Mem), fX7_tokens_H105 k73 n x1 x2 x3 x4 x5 M = some z → SW p l e rm_X7_tokens s m args below meth c 0 0 (QX7_tokens below D cy ad args s z) 6 (PH D cy ad iY s M) 105 [(0, .ref (ad 50)), (1, .int x1), (2, .int x2), (3, .int x3), (4, .int x4), (5, .int x5)] [] := by
  have hx := X.1
  have hb := X.2.1
  intro n
  induction n with
  | zero =>
    intro x1 x2 x3 x4 x5 M h
    have h : (none : Option (Int32 × Mem)) = some z := h
    cases h
  | succ n ih =>
    intro x1 x2 x3 x4 x5 M h
    rw [fX7_tokens_H105] at h
    refine sw_iload hx hb dX7_tokens_105 5 rfl ?_
    refine sw_aload_n hx hb dX7_tokens_107 0 rfl rfl ?_
    refine sw_get X inG7 mi_50 (ce_7 (rfl : kd 50 = 7)) rfl 3 (by decide) (goodW wd407) rfl dX7_tokens_108 ?_
    refine sw_icmp_ge hx hb 129 dX7_tokens_111 (by decide) h (fun h => ?_) (fun h => ?_)
    · refine sw_sub (lv1 := [(0, .ref (ad 50)), (1, .int x1), (2, .int x2), (3, .int x3), (4, .int x4), (5, .int x5)]) [0, 1, 2, 3, 4, 5] rfl ?_
      exact wX7_tokens_L129 X hr k73 hk73 x1 x2 x3 x4 x5 M h
    · refine sw_aload_n hx hb dX7_tokens_114 0 rfl rfl ?_
      refine sw_iload hx hb dX7_tokens_115 5 rfl ?_
      refine sw_callVI (C := RX7) (As := [.int x5]) (rest := []) X mi_50 (ce_7 (rfl : kd 50 = 7)) rfl rfl (fun _ hz => okX7_isOfRow l X.2.2.2.2.2.2.1 x5 M _ hz) (cwX7_249 X.2.2.2.2.1 ⟨Nat.le_of_ble_eq_true rfl, Nat.le_of_ble_eq_true rfl⟩)  rfl rfl (Nat.le_of_ble_eq_true rfl) dX7_tokens_117 ⟨Nat.le_of_ble_eq_true rfl, Nat.le_of_ble_eq_true rfl⟩ h (fun v_16 M_15 _ h => ?_)
      refine sw_if_eq hx hb 129 dX7_tokens_120 (by decide) h (fun h => ?_) (fun h => ?_)
      · refine sw_sub (lv1 := [(0, .ref (ad 50)), (1, .int x1), (2, .int x2), (3, .int x3), (4, .int x4), (5, .int x5)]) [0, 1, 2, 3, 4, 5] rfl ?_
        exact wX7_tokens_L129 X hr k73 hk73 x1 x2 x3 x4 x5 M_15 h
      · refine sw_iincN hx hb (k := 5) (x5 + 1) (fun x5_17 => [(5, .int x5_17), (0, .ref (ad 50)), (1, .int x1), (2, .int x2), (3, .int x3), (4, .int x4)]) dX7_tokens_123 rfl (by rfl) (by decide) (fun _ => rfl) h (fun x5_17 h => ?_)
        refine sw_goto hx hb 105 dX7_tokens_126 (by decide) ?_
        refine sw_sub (lv1 := [(0, .ref (ad 50)), (1, .int x1), (2, .int x2), (3, .int x3), (4, .int x4), (5, .int x5_17)]) [1, 2, 3, 4, 5, 0] rfl ?_
        exact ih x1 x2 x3 x4 x5_17 M_15 h

set_option maxHeartbeats 4000000 in
set_option maxRecDepth 100000 in
theorem wX7_tokens_H73 (X : CX p s m args meth c D cy ad iY cX7_tokens 6 (wsG yX7_tokens cX7_tokens 6 (some .int)) RX7) (hr : meth.sig.returnType = (some .int)) : ∀ (n : Nat) (x1 : Int32) (x2 : Int32) (x3 : Int32) (x4 : Int32) (M : Mem), fX7_tokens_H73 n x1 x2 x3 x4 M = some z → SW p l e rm_X7_tokens s m args below meth c 0 0 (QX7_tokens below D cy ad args s z) 6 (PH D cy ad iY s M) 73 [(0, .ref (ad 50)), (1, .int x1), (2, .int x2), (3, .int x3), (4, .int x4)] [] := by
  have hx := X.1
  have hb := X.2.1
  intro n
  induction n with
  | zero =>
    intro x1 x2 x3 x4 M h
    have h : (none : Option (Int32 × Mem)) = some z := h
    cases h
  | succ n ih =>
    intro x1 x2 x3 x4 M h
    rw [fX7_tokens_H73] at h
    refine sw_iload hx hb dX7_tokens_73 4 rfl ?_
    refine sw_aload_n hx hb dX7_tokens_75 0 rfl rfl ?_
    refine sw_get X inG7 mi_50 (ce_7 (rfl : kd 50 = 7)) rfl 3 (by decide) (goodW wd407) rfl dX7_tokens_76 ?_
    refine sw_icmp_ge hx hb 167 dX7_tokens_79 (by decide) h (fun h => ?_) (fun h => ?_)
    · refine sw_aload_n hx hb dX7_tokens_167 0 rfl rfl ?_
      refine sw_aload_n hx hb dX7_tokens_168 0 rfl rfl ?_
      refine sw_get X inG7 mi_50 (ce_7 (rfl : kd 50 = 7)) rfl 13 (by decide) (goodW wd511) rfl dX7_tokens_169 ?_
      refine sw_if_eq hx hb 179 dX7_tokens_172 (by decide) h (fun h => ?_) (fun h => ?_)
      · refine sw_aload_n hx hb dX7_tokens_179 0 rfl rfl ?_
        refine sw_get X inG7 mi_50 (ce_7 (rfl : kd 50 = 7)) rfl 12 (by decide) (goodW wd408) rfl dX7_tokens_180 ?_
        refine sw_sub (lv1 := [(0, .ref (ad 50))]) [0] rfl ?_
        exact wX7_tokens_L183 X hr (gI M 50 12) M h
      · refine sw_iconst hx hb 0 dX7_tokens_175 (by decide) ?_
        refine sw_goto hx hb 183 dX7_tokens_176 (by decide) ?_
        refine sw_sub (lv1 := [(0, .ref (ad 50))]) [0] rfl ?_
        exact wX7_tokens_L183 X hr 0 M h
    · refine sw_iload hx hb dX7_tokens_82 4 rfl ?_
      refine sw_istore hx hb [(5, .int x4), (0, .ref (ad 50)), (1, .int x1), (2, .int x2), (3, .int x3), (4, .int x4)] dX7_tokens_84 (by decide) rfl ?_
      refine sw_iload_n hx hb dX7_tokens_86 2 rfl rfl ?_
      refine sw_iconst hx hb 3 dX7_tokens_87 (by decide) ?_
      refine sw_icmp_ne hx hb 105 dX7_tokens_88 (by decide) h (fun h => ?_) (fun h => ?_)
      · refine sw_sub (lv1 := [(0, .ref (ad 50)), (1, .int x1), (2, .int x2), (3, .int x3), (4, .int x4), (5, .int x4)]) [1, 2, 3, 4, 5, 0] rfl ?_
        exact wX7_tokens_H105 X hr (fX7_tokens_H73 n) ih FU x1 x2 x3 x4 x4 M h
      · refine sw_iload hx hb dX7_tokens_91 0 rfl ?_
        refine sw_aload_n hx hb dX7_tokens_93 1 rfl rfl ?_
        refine sw_iload hx hb dX7_tokens_94 5 rfl ?_
        refine sw_callVI (C := RX7) (As := [.int x4]) (rest := [.int x4]) X mi_50 (ce_7 (rfl : kd 50 = 7)) rfl rfl (fun _ hz => okX7_matches l X.2.2.2.2.2.2.1 x4 M _ hz) (cwX7_185 X.2.2.2.2.1 ⟨Nat.le_of_ble_eq_true rfl, Nat.le_of_ble_eq_true rfl⟩)  rfl rfl (Nat.le_of_ble_eq_true rfl) dX7_tokens_96 ⟨Nat.le_of_ble_eq_true rfl, Nat.le_of_ble_eq_true rfl⟩ h (fun v_19 M_18 _ h => ?_)
        refine sw_iadd hx hb dX7_tokens_99 ?_
        refine sw_istoreN hx hb (fun x5_20 => [(5, .int x5_20), (0, .ref (ad 50)), (1, .int x1), (2, .int x2), (3, .int x3), (4, .int x4)]) dX7_tokens_100 (by decide) (fun _ => rfl) h (fun x5_20 h => ?_)
        refine sw_goto hx hb 129 dX7_tokens_102 (by decide) ?_
        refine sw_sub (lv1 := [(0, .ref (ad 50)), (1, .int x1), (2, .int x2), (3, .int x3), (4, .int x4), (5, .int x5_20)]) [1, 2, 3, 4, 5, 0] rfl ?_
        exact wX7_tokens_L129 X hr (fX7_tokens_H73 n) ih x1 x2 x3 x4 x5_20 M_18 h

set_option maxHeartbeats 4000000 in
set_option maxRecDepth 100000 in
theorem wX7_tokens_L45 (X : CX p s m args meth c D cy ad iY cX7_tokens 6 (wsG yX7_tokens cX7_tokens 6 (some .int)) RX7) (hr : meth.sig.returnType = (some .int)) (x1 : Int32) (x2 : Int32) (x3 : Int32) (M : Mem) (h : fX7_tokens_L45 x1 x2 x3 M = some z) : SW p l e rm_X7_tokens s m args below meth c 0 0 (QX7_tokens below D cy ad args s z) 6 (PH D cy ad iY s M) 45 [(0, .ref (ad 50)), (1, .int x1), (2, .int x2), (3, .int x3)] [] := by
  have hx := X.1
  have hb := X.2.1
  unfold fX7_tokens_L45 at h
  refine sw_aload_n hx hb dX7_tokens_45 0 rfl rfl ?_
  refine sw_iload_n hx hb dX7_tokens_46 1 rfl rfl ?_
  refine sw_putI X tyX7 tyX7_ok nmX7 inG7 mi_50 (ce_7 (rfl : kd 50 = 7)) rfl 42 (by decide) (goodW wd512) rfl (by decide +kernel : parseFieldDescriptor _ = some .int) rfl rfl (Nat.le_of_ble_eq_true rfl) (pu_7_42 (rfl : kd 50 = 7) _) dX7_tokens_47 h (fun M_7 h => ?_)
  refine sw_aload_n hx hb dX7_tokens_50 0 rfl rfl ?_
  refine sw_iconst hx hb 0 dX7_tokens_51 (by decide) ?_
  refine sw_putI X tyX7 tyX7_ok nmX7 inG7 mi_50 (ce_7 (rfl : kd 50 = 7)) rfl 12 (by decide) (goodW wd408) rfl (by decide +kernel : parseFieldDescriptor _ = some .int) rfl rfl (Nat.le_of_ble_eq_true rfl) (pu_7_12 (rfl : kd 50 = 7) _) dX7_tokens_52 h (fun M_8 h => ?_)
  refine sw_aload_n hx hb dX7_tokens_55 0 rfl rfl ?_
  refine sw_iconst hx hb 0 dX7_tokens_56 (by decide) ?_
  obtain ⟨hz, h⟩ := sz_ok h
  refine sw_putI X tyX7 tyX7_ok nmX7 inG7 mi_50 (ce_7 (rfl : kd 50 = 7)) rfl 13 (by decide) (goodW wd511) rfl (by decide +kernel : parseFieldDescriptor _ = some .boolean) (nar_z hz).1 (nar_z hz).2 (Nat.le_of_ble_eq_true rfl) (pu_7_13 (rfl : kd 50 = 7) _) dX7_tokens_57 h (fun M_9 h => ?_)
  refine sw_aload_n hx hb dX7_tokens_60 0 rfl rfl ?_
  refine sw_iconst hx hb (-1) dX7_tokens_61 (by decide) ?_
  refine sw_putI X tyX7 tyX7_ok nmX7 inG7 mi_50 (ce_7 (rfl : kd 50 = 7)) rfl 43 (by decide) (goodW wd513) rfl (by decide +kernel : parseFieldDescriptor _ = some .int) rfl rfl (Nat.le_of_ble_eq_true rfl) (pu_7_43 (rfl : kd 50 = 7) _) dX7_tokens_62 h (fun M_10 h => ?_)
  refine sw_aload_n hx hb dX7_tokens_65 0 rfl rfl ?_
  refine sw_iconst hx hb (-1) dX7_tokens_66 (by decide) ?_
  refine sw_putI X tyX7 tyX7_ok nmX7 inG7 mi_50 (ce_7 (rfl : kd 50 = 7)) rfl 44 (by decide) (goodW wd514) rfl (by decide +kernel : parseFieldDescriptor _ = some .int) rfl rfl (Nat.le_of_ble_eq_true rfl) (pu_7_44 (rfl : kd 50 = 7) _) dX7_tokens_67 h (fun M_11 h => ?_)
  refine sw_iconst hx hb 0 dX7_tokens_70 (by decide) ?_
  refine sw_istore hx hb [(4, .int 0), (0, .ref (ad 50)), (1, .int x1), (2, .int x2), (3, .int x3)] dX7_tokens_71 (by decide) rfl ?_
  refine sw_sub (lv1 := [(0, .ref (ad 50)), (1, .int x1), (2, .int x2), (3, .int x3), (4, .int 0)]) [1, 2, 3, 4, 0] rfl ?_
  exact wX7_tokens_H73 X hr FU x1 x2 x3 0 M_11 h

set_option maxHeartbeats 4000000 in
set_option maxRecDepth 100000 in
theorem wX7_tokens_L21 (X : CX p s m args meth c D cy ad iY cX7_tokens 6 (wsG yX7_tokens cX7_tokens 6 (some .int)) RX7) (hr : meth.sig.returnType = (some .int)) (x1 : Int32) (x2 : Int32) (x3 : Int32) (M : Mem) (h : fX7_tokens_L21 x1 x2 x3 M = some z) : SW p l e rm_X7_tokens s m args below meth c 0 0 (QX7_tokens below D cy ad args s z) 6 (PH D cy ad iY s M) 21 [(0, .ref (ad 50)), (1, .int x1), (2, .int x2), (3, .int x3)] [] := by
  have hx := X.1
  have hb := X.2.1
  unfold fX7_tokens_L21 at h
  refine sw_iload_n hx hb dX7_tokens_21 2 rfl rfl ?_
  refine sw_iconst hx hb 1 dX7_tokens_22 (by decide) ?_
  refine sw_sipush hx hb 300 dX7_tokens_23 (by decide) ?_
  refine sw_callSI (As := [.int x2, .int 1, .int 300]) (rest := []) X (fun _ hz => okX7_isIn l X.2.2.2.2.2.2.1 x2 1 300 M _ hz) (cwX7_85 X.2.2.2.2.1 ⟨Nat.le_of_ble_eq_true rfl, Nat.le_of_ble_eq_true rfl⟩)  rfl rfl (Nat.le_of_ble_eq_true rfl) dX7_tokens_26 ⟨Nat.le_of_ble_eq_true rfl, Nat.le_of_ble_eq_true rfl⟩ h (fun v_4 M_3 _ h => ?_)
  refine sw_if_eq hx hb 43 dX7_tokens_29 (by decide) h (fun h => ?_) (fun h => ?_)
  · refine sw_iconst hx hb (-1) dX7_tokens_43 (by decide) ?_
    exact sw_Iret X hr dX7_tokens_44 h
  · refine sw_iload_n hx hb dX7_tokens_32 3 rfl rfl ?_
    refine sw_iload_n hx hb dX7_tokens_33 2 rfl rfl ?_
    refine sw_sipush hx hb 300 dX7_tokens_34 (by decide) ?_
    refine sw_callSI (As := [.int x3, .int x2, .int 300]) (rest := []) X (fun _ hz => okX7_isIn l X.2.2.2.2.2.2.1 x3 x2 300 M_3 _ hz) (cwX7_85 X.2.2.2.2.1 ⟨Nat.le_of_ble_eq_true rfl, Nat.le_of_ble_eq_true rfl⟩)  rfl rfl (Nat.le_of_ble_eq_true rfl) dX7_tokens_37 ⟨Nat.le_of_ble_eq_true rfl, Nat.le_of_ble_eq_true rfl⟩ h (fun v_6 M_5 _ h => ?_)
    refine sw_if_ne hx hb 45 dX7_tokens_40 (by decide) h (fun h => ?_) (fun h => ?_)
    · refine sw_sub (lv1 := [(0, .ref (ad 50)), (1, .int x1), (2, .int x2), (3, .int x3)]) [0, 1, 2, 3] rfl ?_
      exact wX7_tokens_L45 X hr x1 x2 x3 M_5 h
    · refine sw_iconst hx hb (-1) dX7_tokens_43 (by decide) ?_
      exact sw_Iret X hr dX7_tokens_44 h

set_option maxHeartbeats 4000000 in
set_option maxRecDepth 100000 in
theorem wX7_tokens_E (X : CX p s m args meth c D cy ad iY cX7_tokens 6 (wsG yX7_tokens cX7_tokens 6 (some .int)) RX7) (hr : meth.sig.returnType = (some .int)) (x1 : Int32) (x2 : Int32) (x3 : Int32) (M : Mem) (h : fX7_tokens x1 x2 x3 M = some z) : SW p l e rm_X7_tokens s m args below meth c 0 0 (QX7_tokens below D cy ad args s z) 6 (PH D cy ad iY s M) 0 [(0, .ref (ad 50)), (1, .int x1), (2, .int x2), (3, .int x3)] [] := by
  have hx := X.1
  have hb := X.2.1
  unfold fX7_tokens at h
  refine sw_iload_n hx hb dX7_tokens_0 1 rfl rfl ?_
  refine sw_iconst hx hb 0 dX7_tokens_1 (by decide) ?_
  refine sw_bipush hx hb 8 dX7_tokens_2 (by decide) ?_
  refine sw_callSI (As := [.int x1, .int 0, .int 8]) (rest := []) X (fun _ hz => okX7_isIn l X.2.2.2.2.2.2.1 x1 0 8 M _ hz) (cwX7_85 X.2.2.2.2.1 ⟨Nat.le_of_ble_eq_true rfl, Nat.le_of_ble_eq_true rfl⟩)  rfl rfl (Nat.le_of_ble_eq_true rfl) dX7_tokens_4 ⟨Nat.le_of_ble_eq_true rfl, Nat.le_of_ble_eq_true rfl⟩ h (fun v_2 M_1 _ h => ?_)
  refine sw_if_eq hx hb 43 dX7_tokens_7 (by decide) h (fun h => ?_) (fun h => ?_)
  · refine sw_iconst hx hb (-1) dX7_tokens_43 (by decide) ?_
    exact sw_Iret X hr dX7_tokens_44 h
  · refine sw_iload_n hx hb dX7_tokens_10 1 rfl rfl ?_
    refine sw_iconst hx hb 5 dX7_tokens_11 (by decide) ?_
    refine sw_icmp_eq hx hb 21 dX7_tokens_12 (by decide) h (fun h => ?_) (fun h => ?_)
    · refine sw_sub (lv1 := [(0, .ref (ad 50)), (1, .int x1), (2, .int x2), (3, .int x3)]) [0, 1, 2, 3] rfl ?_
      exact wX7_tokens_L21 X hr x1 x2 x3 M_1 h
    · refine sw_iload_n hx hb dX7_tokens_15 1 rfl rfl ?_
      refine sw_bipush hx hb 6 dX7_tokens_16 (by decide) ?_
      refine sw_icmp_ne hx hb 45 dX7_tokens_18 (by decide) h (fun h => ?_) (fun h => ?_)
      · refine sw_sub (lv1 := [(0, .ref (ad 50)), (1, .int x1), (2, .int x2), (3, .int x3)]) [0, 1, 2, 3] rfl ?_
        exact wX7_tokens_L45 X hr x1 x2 x3 M_1 h
      · refine sw_sub (lv1 := [(0, .ref (ad 50)), (1, .int x1), (2, .int x2), (3, .int x3)]) [0, 1, 2, 3] rfl ?_
        exact wX7_tokens_L21 X hr x1 x2 x3 M_1 h

end
theorem okX7_tokens (l : Launch) {D : va_G} {cy : Nat → ClassId} {ad : Nat → Nat} (hD : ∀ M : Mem, va_D (AA ad iY) (wl cy ad iY M)) (x1 : Int32) (x2 : Int32) (x3 : Int32) (M : Mem) (z : Int32 × Mem) (h : fX7_tokens x1 x2 x3 M = some z) : CTI l yX7_tokens (wsG yX7_tokens cX7_tokens 6 (some .int)) rm_X7_tokens D cy ad iY [.ref (ad 50), .int x1, .int x2, .int x3] M z :=
  met_of (cc := cX7_tokens) (maxL := 6) (ret := (some .int)) (own := RX7) (by decide) rfl rfl hD ndY (Nat.le_of_ble_eq_true rfl) (fun p e s m below meth c X hr => wX7_tokens_E X hr x1 x2 x3 M h)
abbrev QX7_isToken (below : List Frame) (D : va_G) (cy : Nat → ClassId) (ad : Nat → Nat) (args : Array Value) (s : State) (z : Int32 × Mem) : State → Prop := MQ below (va_Qi (fun r u => r = z.1 ∧ u = z.2) (BB D cy ad iY) (AA ad iY)) args s 0 0 (AA ad iY)
section
variable {p : Program} {l : Launch} {e : Env} {s : State} {m : MethodId} {args : Array Value} {below : List Frame} {meth : Method} {c : Code} {D : va_G} {cy : Nat → ClassId} {ad : Nat → Nat} {z : Int32 × Mem}
set_option maxHeartbeats 4000000 in
set_option maxRecDepth 100000 in
theorem wX7_isToken_E (X : CX p s m args meth c D cy ad iY cX7_isToken 2 (wsG yX7_isToken cX7_isToken 2 (some .boolean)) RX7) (hr : meth.sig.returnType = (some .boolean)) (x1 : Int32) (M : Mem) (h : fX7_isToken x1 M = some z) : SW p l e rm_X7_isToken s m args below meth c 0 0 (QX7_isToken below D cy ad args s z) 2 (PH D cy ad iY s M) 0 [(0, .ref (ad 50)), (1, .int x1)] [] := by
  have hx := X.1
  have hb := X.2.1
  unfold fX7_isToken at h
  refine sw_iload_n hx hb dX7_isToken_0 1 rfl rfl ?_
  refine sw_iconst hx hb 0 dX7_isToken_1 (by decide) ?_
  refine sw_aload_n hx hb dX7_isToken_2 0 rfl rfl ?_
  refine sw_get X inG7 mi_50 (ce_7 (rfl : kd 50 = 7)) rfl 12 (by decide) (goodW wd408) rfl dX7_isToken_3 ?_
  refine sw_iconst hx hb 1 dX7_isToken_6 (by decide) ?_
  refine sw_isub hx hb dX7_isToken_7 ?_
  refine sw_callSI (As := [.int x1, .int 0, .int ((gI M 50 12) - 1)]) (rest := []) X (fun _ hz => okX7_isIn l X.2.2.2.2.2.2.1 x1 0 ((gI M 50 12) - 1) M _ hz) (cwX7_85 X.2.2.2.2.1 ⟨Nat.le_of_ble_eq_true rfl, Nat.le_of_ble_eq_true rfl⟩)  rfl rfl (Nat.le_of_ble_eq_true rfl) dX7_isToken_8 ⟨Nat.le_of_ble_eq_true rfl, Nat.le_of_ble_eq_true rfl⟩ h (fun v_2 M_1 _ h => ?_)
  exact sw_Zret X hr dX7_isToken_11 h

end
theorem okX7_isToken (l : Launch) {D : va_G} {cy : Nat → ClassId} {ad : Nat → Nat} (hD : ∀ M : Mem, va_D (AA ad iY) (wl cy ad iY M)) (x1 : Int32) (M : Mem) (z : Int32 × Mem) (h : fX7_isToken x1 M = some z) : CTI l yX7_isToken (wsG yX7_isToken cX7_isToken 2 (some .boolean)) rm_X7_isToken D cy ad iY [.ref (ad 50), .int x1] M z :=
  met_of (cc := cX7_isToken) (maxL := 2) (ret := (some .boolean)) (own := RX7) (by decide) rfl rfl hD ndY (Nat.le_of_ble_eq_true rfl) (fun p e s m below meth c X hr => wX7_isToken_E X hr x1 M h)
abbrev QX7_token (below : List Frame) (D : va_G) (cy : Nat → ClassId) (ad : Nat → Nat) (args : Array Value) (s : State) (z : Int32 × Mem) : State → Prop := MQ below (va_Qi (fun r u => r = z.1 ∧ u = z.2) (BB D cy ad iY) (AA ad iY)) args s 0 0 (AA ad iY)
section
variable {p : Program} {l : Launch} {e : Env} {s : State} {m : MethodId} {args : Array Value} {below : List Frame} {meth : Method} {c : Code} {D : va_G} {cy : Nat → ClassId} {ad : Nat → Nat} {z : Int32 × Mem}
set_option maxHeartbeats 4000000 in
set_option maxRecDepth 100000 in
theorem wX7_token_E (X : CX p s m args meth c D cy ad iY cX7_token 3 (wsG yX7_token cX7_token 3 (some .int)) RX7) (hr : meth.sig.returnType = (some .int)) (x1 : Int32) (x2 : Int32) (M : Mem) (h : fX7_token x1 x2 M = some z) : SW p l e rm_X7_token s m args below meth c 0 0 (QX7_token below D cy ad args s z) 3 (PH D cy ad iY s M) 0 [(0, .ref (ad 50)), (1, .int x1), (2, .int x2)] [] := by
  have hx := X.1
  have hb := X.2.1
  unfold fX7_token at h
  refine sw_aload_n hx hb dX7_token_0 0 rfl rfl ?_
  refine sw_iload_n hx hb dX7_token_1 1 rfl rfl ?_
  refine sw_callVI (C := RX7) (As := [.int x1]) (rest := []) X mi_50 (ce_7 (rfl : kd 50 = 7)) rfl rfl (fun _ hz => okX7_isToken l X.2.2.2.2.2.2.1 x1 M _ hz) (cwX7_256 X.2.2.2.2.1 ⟨Nat.le_of_ble_eq_true rfl, Nat.le_of_ble_eq_true rfl⟩)  rfl rfl (Nat.le_of_ble_eq_true rfl) dX7_token_2 ⟨Nat.le_of_ble_eq_true rfl, Nat.le_of_ble_eq_true rfl⟩ h (fun v_2 M_1 _ h => ?_)
  refine sw_if_eq hx hb 17 dX7_token_5 (by decide) h (fun h => ?_) (fun h => ?_)
  · refine sw_iconst hx hb (-1) dX7_token_17 (by decide) ?_
    exact sw_Iret X hr dX7_token_18 h
  · refine sw_iload_n hx hb dX7_token_8 2 rfl rfl ?_
    refine sw_iconst hx hb 0 dX7_token_9 (by decide) ?_
    refine sw_iconst hx hb 2 dX7_token_10 (by decide) ?_
    refine sw_callSI (As := [.int x2, .int 0, .int 2]) (rest := []) X (fun _ hz => okX7_isIn l X.2.2.2.2.2.2.1 x2 0 2 M_1 _ hz) (cwX7_85 X.2.2.2.2.1 ⟨Nat.le_of_ble_eq_true rfl, Nat.le_of_ble_eq_true rfl⟩)  rfl rfl (Nat.le_of_ble_eq_true rfl) dX7_token_11 ⟨Nat.le_of_ble_eq_true rfl, Nat.le_of_ble_eq_true rfl⟩ h (fun v_4 M_3 _ h => ?_)
    refine sw_if_ne hx hb 19 dX7_token_14 (by decide) h (fun h => ?_) (fun h => ?_)
    · refine sw_iload_n hx hb dX7_token_19 2 rfl rfl ?_
      refine sw_if_ne hx hb 32 dX7_token_20 (by decide) h (fun h => ?_) (fun h => ?_)
      · refine sw_iload_n hx hb dX7_token_32 2 rfl rfl ?_
        refine sw_iconst hx hb 1 dX7_token_33 (by decide) ?_
        refine sw_icmp_ne hx hb 46 dX7_token_34 (by decide) h (fun h => ?_) (fun h => ?_)
        · refine sw_aload_n hx hb dX7_token_46 0 rfl rfl ?_
          refine sw_get X inG7 mi_50 (ce_7 (rfl : kd 50 = 7)) rfl 16 (by decide) (goodW wd510) rfl dX7_token_47 ?_
          refine sw_iload_n hx hb dX7_token_50 1 rfl rfl ?_
          refine sw_iald X mi_67 (rfl : kd 67 = 9) dX7_token_51 h (fun v_5 h => ?_)
          exact sw_Iret X hr dX7_token_52 h
        · refine sw_aload_n hx hb dX7_token_37 0 rfl rfl ?_
          refine sw_get X inG7 mi_50 (ce_7 (rfl : kd 50 = 7)) rfl 15 (by decide) (goodW wd509) rfl dX7_token_38 ?_
          refine sw_iload_n hx hb dX7_token_41 1 rfl rfl ?_
          refine sw_iald X mi_66 (rfl : kd 66 = 9) dX7_token_42 h (fun v_6 h => ?_)
          refine sw_goto hx hb 52 dX7_token_43 (by decide) ?_
          exact sw_Iret X hr dX7_token_52 h
      · refine sw_aload_n hx hb dX7_token_23 0 rfl rfl ?_
        refine sw_get X inG7 mi_50 (ce_7 (rfl : kd 50 = 7)) rfl 14 (by decide) (goodW wd508) rfl dX7_token_24 ?_
        refine sw_iload_n hx hb dX7_token_27 1 rfl rfl ?_
        refine sw_iald X mi_65 (rfl : kd 65 = 9) dX7_token_28 h (fun v_7 h => ?_)
        refine sw_goto hx hb 52 dX7_token_29 (by decide) ?_
        exact sw_Iret X hr dX7_token_52 h
    · refine sw_iconst hx hb (-1) dX7_token_17 (by decide) ?_
      exact sw_Iret X hr dX7_token_18 h

end
theorem okX7_token (l : Launch) {D : va_G} {cy : Nat → ClassId} {ad : Nat → Nat} (hD : ∀ M : Mem, va_D (AA ad iY) (wl cy ad iY M)) (x1 : Int32) (x2 : Int32) (M : Mem) (z : Int32 × Mem) (h : fX7_token x1 x2 M = some z) : CTI l yX7_token (wsG yX7_token cX7_token 3 (some .int)) rm_X7_token D cy ad iY [.ref (ad 50), .int x1, .int x2] M z :=
  met_of (cc := cX7_token) (maxL := 3) (ret := (some .int)) (own := RX7) (by decide) rfl rfl hD ndY (Nat.le_of_ble_eq_true rfl) (fun p e s m below meth c X hr => wX7_token_E X hr x1 x2 M h)
abbrev QX7_sign (below : List Frame) (D : va_G) (cy : Nat → ClassId) (ad : Nat → Nat) (args : Array Value) (s : State) (z : Int32 × Mem) : State → Prop := MQ below (va_Qi (fun r u => r = z.1 ∧ u = z.2) (BB D cy ad iY) (AA ad iY)) args s 0 0 (AA ad iY)
section
variable {p : Program} {l : Launch} {e : Env} {s : State} {m : MethodId} {args : Array Value} {below : List Frame} {meth : Method} {c : Code} {D : va_G} {cy : Nat → ClassId} {ad : Nat → Nat} {z : Int32 × Mem}
set_option maxHeartbeats 4000000 in
set_option maxRecDepth 100000 in
theorem wX7_sign_E (X : CX p s m args meth c D cy ad iY cX7_sign 3 (wsG yX7_sign cX7_sign 3 (some .int)) RX7) (hr : meth.sig.returnType = (some .int)) (x1 : Int32) (x2 : Int32) (M : Mem) (h : fX7_sign x1 x2 M = some z) : SW p l e rm_X7_sign s m args below meth c 0 0 (QX7_sign below D cy ad args s z) 3 (PH D cy ad iY s M) 0 [(0, .ref (ad 50)), (1, .int x1), (2, .int x2)] [] := by
  have hx := X.1
  have hb := X.2.1
  unfold fX7_sign at h
  refine sw_aload_n hx hb dX7_sign_0 0 rfl rfl ?_
  refine sw_iload_n hx hb dX7_sign_1 1 rfl rfl ?_
  refine sw_callVI (C := RX7) (As := [.int x1]) (rest := []) X mi_50 (ce_7 (rfl : kd 50 = 7)) rfl rfl (fun _ hz => okX7_isToken l X.2.2.2.2.2.2.1 x1 M _ hz) (cwX7_256 X.2.2.2.2.1 ⟨Nat.le_of_ble_eq_true rfl, Nat.le_of_ble_eq_true rfl⟩)  rfl rfl (Nat.le_of_ble_eq_true rfl) dX7_sign_2 ⟨Nat.le_of_ble_eq_true rfl, Nat.le_of_ble_eq_true rfl⟩ h (fun v_2 M_1 _ h => ?_)
  refine sw_if_eq hx hb 47 dX7_sign_5 (by decide) h (fun h => ?_) (fun h => ?_)
  · refine sw_iconst hx hb (-1) dX7_sign_47 (by decide) ?_
    exact sw_Iret X hr dX7_sign_48 h
  · refine sw_iload_n hx hb dX7_sign_8 2 rfl rfl ?_
    refine sw_iconst hx hb 0 dX7_sign_9 (by decide) ?_
    refine sw_aload_n hx hb dX7_sign_10 0 rfl rfl ?_
    refine sw_get X inG7 mi_50 (ce_7 (rfl : kd 50 = 7)) rfl 15 (by decide) (goodW wd509) rfl dX7_sign_11 ?_
    refine sw_iload_n hx hb dX7_sign_14 1 rfl rfl ?_
    refine sw_iald X mi_66 (rfl : kd 66 = 9) dX7_sign_15 h (fun v_3 h => ?_)
    refine sw_aload_n hx hb dX7_sign_16 0 rfl rfl ?_
    refine sw_get X inG7 mi_50 (ce_7 (rfl : kd 50 = 7)) rfl 14 (by decide) (goodW wd508) rfl dX7_sign_17 ?_
    refine sw_iload_n hx hb dX7_sign_20 1 rfl rfl ?_
    refine sw_iald X mi_65 (rfl : kd 65 = 9) dX7_sign_21 h (fun v_4 h => ?_)
    refine sw_isub hx hb dX7_sign_22 ?_
    refine sw_iconst hx hb 1 dX7_sign_23 (by decide) ?_
    refine sw_isub hx hb dX7_sign_24 ?_
    refine sw_callSI (As := [.int x2, .int 0, .int ((v_3 - v_4) - 1)]) (rest := []) X (fun _ hz => okX7_isIn l X.2.2.2.2.2.2.1 x2 0 ((v_3 - v_4) - 1) M_1 _ hz) (cwX7_85 X.2.2.2.2.1 ⟨Nat.le_of_ble_eq_true rfl, Nat.le_of_ble_eq_true rfl⟩)  rfl rfl (Nat.le_of_ble_eq_true rfl) dX7_sign_25 ⟨Nat.le_of_ble_eq_true rfl, Nat.le_of_ble_eq_true rfl⟩ h (fun v_6 M_5 _ h => ?_)
    refine sw_if_eq hx hb 47 dX7_sign_28 (by decide) h (fun h => ?_) (fun h => ?_)
    · refine sw_iconst hx hb (-1) dX7_sign_47 (by decide) ?_
      exact sw_Iret X hr dX7_sign_48 h
    · refine sw_aload_n hx hb dX7_sign_31 0 rfl rfl ?_
      refine sw_get X inG7 mi_50 (ce_7 (rfl : kd 50 = 7)) rfl 2 (by decide) (goodW wd409) rfl dX7_sign_32 ?_
      refine sw_aload_n hx hb dX7_sign_35 0 rfl rfl ?_
      refine sw_get X inG7 mi_50 (ce_7 (rfl : kd 50 = 7)) rfl 14 (by decide) (goodW wd508) rfl dX7_sign_36 ?_
      refine sw_iload_n hx hb dX7_sign_39 1 rfl rfl ?_
      refine sw_iald X mi_65 (rfl : kd 65 = 9) dX7_sign_40 h (fun v_7 h => ?_)
      refine sw_iload_n hx hb dX7_sign_41 2 rfl rfl ?_
      refine sw_iadd hx hb dX7_sign_42 ?_
      refine sw_iald X mi_53 (rfl : kd 53 = 9) dX7_sign_43 h (fun v_8 h => ?_)
      refine sw_goto hx hb 48 dX7_sign_44 (by decide) ?_
      exact sw_Iret X hr dX7_sign_48 h

end
theorem okX7_sign (l : Launch) {D : va_G} {cy : Nat → ClassId} {ad : Nat → Nat} (hD : ∀ M : Mem, va_D (AA ad iY) (wl cy ad iY M)) (x1 : Int32) (x2 : Int32) (M : Mem) (z : Int32 × Mem) (h : fX7_sign x1 x2 M = some z) : CTI l yX7_sign (wsG yX7_sign cX7_sign 3 (some .int)) rm_X7_sign D cy ad iY [.ref (ad 50), .int x1, .int x2] M z :=
  met_of (cc := cX7_sign) (maxL := 3) (ret := (some .int)) (own := RX7) (by decide) rfl rfl hD ndY (Nat.le_of_ble_eq_true rfl) (fun p e s m below meth c X hr => wX7_sign_E X hr x1 x2 M h)
abbrev QX7_same (below : List Frame) (D : va_G) (cy : Nat → ClassId) (ad : Nat → Nat) (args : Array Value) (s : State) (z : Int32 × Mem) : State → Prop := MQ below (va_Qi (fun r u => r = z.1 ∧ u = z.2) (BB D cy ad iY) (AA ad iY)) args s 0 0 (AA ad iY)
section
variable {p : Program} {l : Launch} {e : Env} {s : State} {m : MethodId} {args : Array Value} {below : List Frame} {meth : Method} {c : Code} {D : va_G} {cy : Nat → ClassId} {ad : Nat → Nat} {z : Int32 × Mem}
set_option maxHeartbeats 4000000 in
set_option maxRecDepth 100000 in
theorem wX7_same_L114 (X : CX p s m args meth c D cy ad iY cX7_same 6 (wsG yX7_same cX7_same 6 (some .int)) RX7) (hr : meth.sig.returnType = (some .int)) (x4 : Int32) (M : Mem) (h : fX7_same_L114 x4 M = some z) : SW p l e rm_X7_same s m args below meth c 0 0 (QX7_same below D cy ad args s z) 6 (PH D cy ad iY s M) 114 [(4, .int x4)] [] := by
  have hx := X.1
  have hb := X.2.1
  unfold fX7_same_L114 at h
  refine sw_iload hx hb dX7_same_114 0 rfl ?_
  refine sw_if_eq hx hb 123 dX7_same_116 (by decide) h (fun h => ?_) (fun h => ?_)
  · refine sw_iconst hx hb 0 dX7_same_123 (by decide) ?_
    exact sw_Iret X hr dX7_same_124 h
  · refine sw_iconst hx hb 1 dX7_same_119 (by decide) ?_
    refine sw_goto hx hb 124 dX7_same_120 (by decide) ?_
    exact sw_Iret X hr dX7_same_124 h

set_option maxHeartbeats 4000000 in
set_option maxRecDepth 100000 in
theorem wX7_same_L106 (X : CX p s m args meth c D cy ad iY cX7_same 6 (wsG yX7_same cX7_same 6 (some .int)) RX7) (hr : meth.sig.returnType = (some .int)) (k59 : Int32 → Int32 → Int32 → Int32 → Int32 → Mem → Option (Int32 × Mem)) (hk59 : ∀ (x1 : Int32) (x2 : Int32) (x3 : Int32) (x4 : Int32) (x5 : Int32) (M : Mem), k59 x1 x2 x3 x4 x5 M = some z → SW p l e rm_X7_same s m args below meth c 0 0 (QX7_same below D cy ad args s z) 6 (PH D cy ad iY s M) 59 [(0, .ref (ad 50)), (1, .int x1), (2, .int x2), (3, .int x3), (4, .int x4), (5, .int x5)] []) (x1 : Int32) (x2 : Int32) (x3 : Int32) (x5 : Int32) (y0 : Int32) (M : Mem) (h : fX7_same_L106 k59 x1 x2 x3 x5 y0 M = some z) : SW p l e rm_X7_same s m args below meth c 0 0 (QX7_same below D cy ad args s z) 6 (PH D cy ad iY s M) 106 [(0, .ref (ad 50)), (1, .int x1), (2, .int x2), (3, .int x3), (5, .int x5)] [.int y0] := by
  have hx := X.1
  have hb := X.2.1
  unfold fX7_same_L106 at h
  refine sw_istore hx hb [(4, .int y0), (0, .ref (ad 50)), (1, .int x1), (2, .int x2), (3, .int x3), (5, .int x5)] dX7_same_106 (by decide) rfl ?_
  refine sw_iincN hx hb (k := 5) (x5 + 1) (fun x5_14 => [(5, .int x5_14), (4, .int y0), (0, .ref (ad 50)), (1, .int x1), (2, .int x2), (3, .int x3)]) dX7_same_108 rfl (by rfl) (by decide) (fun _ => rfl) h (fun x5_14 h => ?_)
  refine sw_goto hx hb 59 dX7_same_111 (by decide) ?_
  refine sw_sub (lv1 := [(0, .ref (ad 50)), (1, .int x1), (2, .int x2), (3, .int x3), (4, .int y0), (5, .int x5_14)]) [2, 3, 4, 5, 1, 0] rfl ?_
  exact hk59 x1 x2 x3 y0 x5_14 M h

set_option maxHeartbeats 4000000 in
set_option maxRecDepth 100000 in
theorem wX7_same_H59 (X : CX p s m args meth c D cy ad iY cX7_same 6 (wsG yX7_same cX7_same 6 (some .int)) RX7) (hr : meth.sig.returnType = (some .int)) : ∀ (n : Nat) (x1 : Int32) (x2 : Int32) (x3 : Int32) (x4 : Int32) (x5 : Int32) (M : Mem), fX7_same_H59 n x1 x2 x3 x4 x5 M = some z → SW p l e rm_X7_same s m args below meth c 0 0 (QX7_same below D cy ad args s z) 6 (PH D cy ad iY s M) 59 [(0, .ref (ad 50)), (1, .int x1), (2, .int x2), (3, .int x3), (4, .int x4), (5, .int x5)] [] := by
  have hx := X.1
  have hb := X.2.1
  intro n
  induction n with
  | zero =>
    intro x1 x2 x3 x4 x5 M h
    have h : (none : Option (Int32 × Mem)) = some z := h
    cases h
  | succ n ih =>
    intro x1 x2 x3 x4 x5 M h
    rw [fX7_same_H59] at h
    refine sw_iload hx hb dX7_same_59 5 rfl ?_
    refine sw_iload_n hx hb dX7_same_61 3 rfl rfl ?_
    refine sw_icmp_ge hx hb 114 dX7_same_62 (by decide) h (fun h => ?_) (fun h => ?_)
    · refine sw_sub (lv1 := [(4, .int x4)]) [4] rfl ?_
      exact wX7_same_L114 X hr x4 M h
    · refine sw_iload hx hb dX7_same_65 4 rfl ?_
      refine sw_if_eq hx hb 114 dX7_same_67 (by decide) h (fun h => ?_) (fun h => ?_)
      · refine sw_sub (lv1 := [(4, .int x4)]) [4] rfl ?_
        exact wX7_same_L114 X hr x4 M h
      · refine sw_aload_n hx hb dX7_same_70 0 rfl rfl ?_
        refine sw_get X inG7 mi_50 (ce_7 (rfl : kd 50 = 7)) rfl 2 (by decide) (goodW wd409) rfl dX7_same_71 ?_
        refine sw_aload_n hx hb dX7_same_74 0 rfl rfl ?_
        refine sw_get X inG7 mi_50 (ce_7 (rfl : kd 50 = 7)) rfl 14 (by decide) (goodW wd508) rfl dX7_same_75 ?_
        refine sw_iload_n hx hb dX7_same_78 1 rfl rfl ?_
        refine sw_iald X mi_65 (rfl : kd 65 = 9) dX7_same_79 h (fun v_10 h => ?_)
        refine sw_iload hx hb dX7_same_80 5 rfl ?_
        refine sw_iadd hx hb dX7_same_82 ?_
        refine sw_iald X mi_53 (rfl : kd 53 = 9) dX7_same_83 h (fun v_11 h => ?_)
        refine sw_aload_n hx hb dX7_same_84 0 rfl rfl ?_
        refine sw_get X inG7 mi_50 (ce_7 (rfl : kd 50 = 7)) rfl 2 (by decide) (goodW wd409) rfl dX7_same_85 ?_
        refine sw_aload_n hx hb dX7_same_88 0 rfl rfl ?_
        refine sw_get X inG7 mi_50 (ce_7 (rfl : kd 50 = 7)) rfl 14 (by decide) (goodW wd508) rfl dX7_same_89 ?_
        refine sw_iload_n hx hb dX7_same_92 2 rfl rfl ?_
        refine sw_iald X mi_65 (rfl : kd 65 = 9) dX7_same_93 h (fun v_12 h => ?_)
        refine sw_iload hx hb dX7_same_94 5 rfl ?_
        refine sw_iadd hx hb dX7_same_96 ?_
        refine sw_iald X mi_53 (rfl : kd 53 = 9) dX7_same_97 h (fun v_13 h => ?_)
        refine sw_icmp_ne hx hb 105 dX7_same_98 (by decide) h (fun h => ?_) (fun h => ?_)
        · refine sw_iconst hx hb 0 dX7_same_105 (by decide) ?_
          refine sw_sub (lv1 := [(0, .ref (ad 50)), (1, .int x1), (2, .int x2), (3, .int x3), (5, .int x5)]) [0, 1, 2, 3, 5] rfl ?_
          exact wX7_same_L106 X hr (fX7_same_H59 n) ih x1 x2 x3 x5 0 M h
        · refine sw_iconst hx hb 1 dX7_same_101 (by decide) ?_
          refine sw_goto hx hb 106 dX7_same_102 (by decide) ?_
          refine sw_sub (lv1 := [(0, .ref (ad 50)), (1, .int x1), (2, .int x2), (3, .int x3), (5, .int x5)]) [0, 1, 2, 3, 5] rfl ?_
          exact wX7_same_L106 X hr (fX7_same_H59 n) ih x1 x2 x3 x5 1 M h

set_option maxHeartbeats 4000000 in
set_option maxRecDepth 100000 in
theorem wX7_same_L54 (X : CX p s m args meth c D cy ad iY cX7_same 6 (wsG yX7_same cX7_same 6 (some .int)) RX7) (hr : meth.sig.returnType = (some .int)) (x1 : Int32) (x2 : Int32) (x3 : Int32) (y0 : Int32) (M : Mem) (h : fX7_same_L54 x1 x2 x3 y0 M = some z) : SW p l e rm_X7_same s m args below meth c 0 0 (QX7_same below D cy ad args s z) 6 (PH D cy ad iY s M) 54 [(0, .ref (ad 50)), (1, .int x1), (2, .int x2), (3, .int x3)] [.int y0] := by
  have hx := X.1
  have hb := X.2.1
  unfold fX7_same_L54 at h
  refine sw_istore hx hb [(4, .int y0), (0, .ref (ad 50)), (1, .int x1), (2, .int x2), (3, .int x3)] dX7_same_54 (by decide) rfl ?_
  refine sw_iconst hx hb 0 dX7_same_56 (by decide) ?_
  refine sw_istore hx hb [(5, .int 0), (4, .int y0), (0, .ref (ad 50)), (1, .int x1), (2, .int x2), (3, .int x3)] dX7_same_57 (by decide) rfl ?_
  refine sw_sub (lv1 := [(0, .ref (ad 50)), (1, .int x1), (2, .int x2), (3, .int x3), (4, .int y0), (5, .int 0)]) [2, 3, 4, 5, 1, 0] rfl ?_
  exact wX7_same_H59 X hr FU x1 x2 x3 y0 0 M h

set_option maxHeartbeats 4000000 in
set_option maxRecDepth 100000 in
theorem wX7_same_E (X : CX p s m args meth c D cy ad iY cX7_same 6 (wsG yX7_same cX7_same 6 (some .int)) RX7) (hr : meth.sig.returnType = (some .int)) (x1 : Int32) (x2 : Int32) (M : Mem) (h : fX7_same x1 x2 M = some z) : SW p l e rm_X7_same s m args below meth c 0 0 (QX7_same below D cy ad args s z) 6 (PH D cy ad iY s M) 0 [(0, .ref (ad 50)), (1, .int x1), (2, .int x2)] [] := by
  have hx := X.1
  have hb := X.2.1
  unfold fX7_same at h
  refine sw_aload_n hx hb dX7_same_0 0 rfl rfl ?_
  refine sw_iload_n hx hb dX7_same_1 1 rfl rfl ?_
  refine sw_callVI (C := RX7) (As := [.int x1]) (rest := []) X mi_50 (ce_7 (rfl : kd 50 = 7)) rfl rfl (fun _ hz => okX7_isToken l X.2.2.2.2.2.2.1 x1 M _ hz) (cwX7_256 X.2.2.2.2.1 ⟨Nat.le_of_ble_eq_true rfl, Nat.le_of_ble_eq_true rfl⟩)  rfl rfl (Nat.le_of_ble_eq_true rfl) dX7_same_2 ⟨Nat.le_of_ble_eq_true rfl, Nat.le_of_ble_eq_true rfl⟩ h (fun v_2 M_1 _ h => ?_)
  refine sw_if_eq hx hb 16 dX7_same_5 (by decide) h (fun h => ?_) (fun h => ?_)
  · refine sw_iconst hx hb (-1) dX7_same_16 (by decide) ?_
    exact sw_Iret X hr dX7_same_17 h
  · refine sw_aload_n hx hb dX7_same_8 0 rfl rfl ?_
    refine sw_iload_n hx hb dX7_same_9 2 rfl rfl ?_
    refine sw_callVI (C := RX7) (As := [.int x2]) (rest := []) X mi_50 (ce_7 (rfl : kd 50 = 7)) rfl rfl (fun _ hz => okX7_isToken l X.2.2.2.2.2.2.1 x2 M_1 _ hz) (cwX7_256 X.2.2.2.2.1 ⟨Nat.le_of_ble_eq_true rfl, Nat.le_of_ble_eq_true rfl⟩)  rfl rfl (Nat.le_of_ble_eq_true rfl) dX7_same_10 ⟨Nat.le_of_ble_eq_true rfl, Nat.le_of_ble_eq_true rfl⟩ h (fun v_4 M_3 _ h => ?_)
    refine sw_if_ne hx hb 18 dX7_same_13 (by decide) h (fun h => ?_) (fun h => ?_)
    · refine sw_aload_n hx hb dX7_same_18 0 rfl rfl ?_
      refine sw_get X inG7 mi_50 (ce_7 (rfl : kd 50 = 7)) rfl 15 (by decide) (goodW wd509) rfl dX7_same_19 ?_
      refine sw_iload_n hx hb dX7_same_22 1 rfl rfl ?_
      refine sw_iald X mi_66 (rfl : kd 66 = 9) dX7_same_23 h (fun v_5 h => ?_)
      refine sw_aload_n hx hb dX7_same_24 0 rfl rfl ?_
      refine sw_get X inG7 mi_50 (ce_7 (rfl : kd 50 = 7)) rfl 14 (by decide) (goodW wd508) rfl dX7_same_25 ?_
      refine sw_iload_n hx hb dX7_same_28 1 rfl rfl ?_
      refine sw_iald X mi_65 (rfl : kd 65 = 9) dX7_same_29 h (fun v_6 h => ?_)
      refine sw_isub hx hb dX7_same_30 ?_
      refine sw_istore_nN hx hb (fun x3_7 => [(3, .int x3_7), (0, .ref (ad 50)), (1, .int x1), (2, .int x2)]) dX7_same_31 rfl (by decide) (fun _ => rfl) h (fun x3_7 h => ?_)
      refine sw_iload_n hx hb dX7_same_32 0 rfl rfl ?_
      refine sw_aload_n hx hb dX7_same_33 1 rfl rfl ?_
      refine sw_get X inG7 mi_50 (ce_7 (rfl : kd 50 = 7)) rfl 15 (by decide) (goodW wd509) rfl dX7_same_34 ?_
      refine sw_iload_n hx hb dX7_same_37 3 rfl rfl ?_
      refine sw_iald X mi_66 (rfl : kd 66 = 9) dX7_same_38 h (fun v_8 h => ?_)
      refine sw_aload_n hx hb dX7_same_39 1 rfl rfl ?_
      refine sw_get X inG7 mi_50 (ce_7 (rfl : kd 50 = 7)) rfl 14 (by decide) (goodW wd508) rfl dX7_same_40 ?_
      refine sw_iload_n hx hb dX7_same_43 3 rfl rfl ?_
      refine sw_iald X mi_65 (rfl : kd 65 = 9) dX7_same_44 h (fun v_9 h => ?_)
      refine sw_isub hx hb dX7_same_45 ?_
      refine sw_icmp_ne hx hb 53 dX7_same_46 (by decide) h (fun h => ?_) (fun h => ?_)
      · refine sw_iconst hx hb 0 dX7_same_53 (by decide) ?_
        refine sw_sub (lv1 := [(0, .ref (ad 50)), (1, .int x1), (2, .int x2), (3, .int x3_7)]) [1, 2, 3, 0] rfl ?_
        exact wX7_same_L54 X hr x1 x2 x3_7 0 M_3 h
      · refine sw_iconst hx hb 1 dX7_same_49 (by decide) ?_
        refine sw_goto hx hb 54 dX7_same_50 (by decide) ?_
        refine sw_sub (lv1 := [(0, .ref (ad 50)), (1, .int x1), (2, .int x2), (3, .int x3_7)]) [1, 2, 3, 0] rfl ?_
        exact wX7_same_L54 X hr x1 x2 x3_7 1 M_3 h
    · refine sw_iconst hx hb (-1) dX7_same_16 (by decide) ?_
      exact sw_Iret X hr dX7_same_17 h

end
theorem okX7_same (l : Launch) {D : va_G} {cy : Nat → ClassId} {ad : Nat → Nat} (hD : ∀ M : Mem, va_D (AA ad iY) (wl cy ad iY M)) (x1 : Int32) (x2 : Int32) (M : Mem) (z : Int32 × Mem) (h : fX7_same x1 x2 M = some z) : CTI l yX7_same (wsG yX7_same cX7_same 6 (some .int)) rm_X7_same D cy ad iY [.ref (ad 50), .int x1, .int x2] M z :=
  met_of (cc := cX7_same) (maxL := 6) (ret := (some .int)) (own := RX7) (by decide) rfl rfl hD ndY (Nat.le_of_ble_eq_true rfl) (fun p e s m below meth c X hr => wX7_same_E X hr x1 x2 M h)
abbrev QX7_count (below : List Frame) (D : va_G) (cy : Nat → ClassId) (ad : Nat → Nat) (args : Array Value) (s : State) (z : Int32 × Mem) : State → Prop := MQ below (va_Qi (fun r u => r = z.1 ∧ u = z.2) (BB D cy ad iY) (AA ad iY)) args s 0 0 (AA ad iY)
section
variable {p : Program} {l : Launch} {e : Env} {s : State} {m : MethodId} {args : Array Value} {below : List Frame} {meth : Method} {c : Code} {D : va_G} {cy : Nat → ClassId} {ad : Nat → Nat} {z : Int32 × Mem}
set_option maxHeartbeats 4000000 in
set_option maxRecDepth 100000 in
theorem wX7_count_E (X : CX p s m args meth c D cy ad iY cX7_count 2 (wsG yX7_count cX7_count 2 (some .int)) RX7) (hr : meth.sig.returnType = (some .int)) (x1 : Int32) (M : Mem) (h : fX7_count x1 M = some z) : SW p l e rm_X7_count s m args below meth c 0 0 (QX7_count below D cy ad args s z) 2 (PH D cy ad iY s M) 0 [(0, .ref (ad 50)), (1, .int x1)] [] := by
  have hx := X.1
  have hb := X.2.1
  unfold fX7_count at h
  refine sw_iload_n hx hb dX7_count_0 1 rfl rfl ?_
  refine ifc h (fun hc1_0 h => ?_) (fun hc1_0 h => ?_)
  · refine sw_tableIn hx hb (off := 35) 36 dX7_count_1 (by rw [hc1_0]; decide) (by rw [hc1_0]; decide) (by rw [hc1_0]; decide +kernel) (by decide) ?_
    refine sw_aload_n hx hb dX7_count_36 0 rfl rfl ?_
    refine sw_get X inG7 mi_50 (ce_7 (rfl : kd 50 = 7)) rfl 3 (by decide) (goodW wd407) rfl dX7_count_37 ?_
    exact sw_Iret X hr dX7_count_40 h
  · skip
    refine ifc h (fun hc1_1 h => ?_) (fun hc1_1 h => ?_)
    · refine sw_tableIn hx hb (off := 40) 41 dX7_count_1 (by rw [hc1_1]; decide) (by rw [hc1_1]; decide) (by rw [hc1_1]; decide +kernel) (by decide) ?_
      refine sw_aload_n hx hb dX7_count_41 0 rfl rfl ?_
      refine sw_get X inG7 mi_50 (ce_7 (rfl : kd 50 = 7)) rfl 12 (by decide) (goodW wd408) rfl dX7_count_42 ?_
      exact sw_Iret X hr dX7_count_45 h
    · skip
      refine ifc h (fun hc1_2 h => ?_) (fun hc1_2 h => ?_)
      · refine sw_tableIn hx hb (off := 45) 46 dX7_count_1 (by rw [hc1_2]; decide) (by rw [hc1_2]; decide) (by rw [hc1_2]; decide +kernel) (by decide) ?_
        refine sw_aload_n hx hb dX7_count_46 0 rfl rfl ?_
        refine sw_get X inG7 mi_50 (ce_7 (rfl : kd 50 = 7)) rfl 1 (by decide) (goodW wd405) rfl dX7_count_47 ?_
        exact sw_Iret X hr dX7_count_50 h
      · skip
        refine ifc h (fun hc1_3 h => ?_) (fun hc1_3 h => ?_)
        · refine sw_tableIn hx hb (off := 50) 51 dX7_count_1 (by rw [hc1_3]; decide) (by rw [hc1_3]; decide) (by rw [hc1_3]; decide +kernel) (by decide) ?_
          refine sw_aload_n hx hb dX7_count_51 0 rfl rfl ?_
          refine sw_get X inG7 mi_50 (ce_7 (rfl : kd 50 = 7)) rfl 17 (by decide) (goodW wd476) rfl dX7_count_52 ?_
          exact sw_Iret X hr dX7_count_55 h
        · skip
          refine ifc h (fun hc1_4 h => ?_) (fun hc1_4 h => ?_)
          · refine sw_tableIn hx hb (off := 55) 56 dX7_count_1 (by rw [hc1_4]; decide) (by rw [hc1_4]; decide) (by rw [hc1_4]; decide +kernel) (by decide) ?_
            refine sw_aload_n hx hb dX7_count_56 0 rfl rfl ?_
            refine sw_get X inG7 mi_50 (ce_7 (rfl : kd 50 = 7)) rfl 4 (by decide) (goodW wd485) rfl dX7_count_57 ?_
            exact sw_Iret X hr dX7_count_60 h
          · skip
            refine sw_tableOut hx hb 61 dX7_count_1 (by have q0 := lv_neT hc1_0 (show (0 : Int32).toInt = 0 from rfl); have q1 := lv_neT hc1_1 (show (1 : Int32).toInt = 1 from rfl); have q2 := lv_neT hc1_2 (show (2 : Int32).toInt = 2 from rfl); have q3 := lv_neT hc1_3 (show (3 : Int32).toInt = 3 from rfl); have q4 := lv_neT hc1_4 (show (4 : Int32).toInt = 4 from rfl); omega) (by decide) ?_
            refine sw_iconst hx hb (-1) dX7_count_61 (by decide) ?_
            exact sw_Iret X hr dX7_count_62 h

end
theorem okX7_count (l : Launch) {D : va_G} {cy : Nat → ClassId} {ad : Nat → Nat} (hD : ∀ M : Mem, va_D (AA ad iY) (wl cy ad iY M)) (x1 : Int32) (M : Mem) (z : Int32 × Mem) (h : fX7_count x1 M = some z) : CTI l yX7_count (wsG yX7_count cX7_count 2 (some .int)) rm_X7_count D cy ad iY [.ref (ad 50), .int x1] M z :=
  met_of (cc := cX7_count) (maxL := 2) (ret := (some .int)) (own := RX7) (by decide) rfl rfl hD ndY (Nat.le_of_ble_eq_true rfl) (fun p e s m below meth c X hr => wX7_count_E X hr x1 M h)
