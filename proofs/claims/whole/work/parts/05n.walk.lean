abbrev QX7_word (below : List Frame) (D : va_G) (cy : Nat → ClassId) (ad : Nat → Nat) (args : Array Value) (s : State) (z : Int32 × Mem) : State → Prop := MQ below (va_Qi (fun r u => r = z.1 ∧ u = z.2) (BB D cy ad iY) (AA ad iY)) args s 0 0 (AA ad iY)
section
variable {p : Program} {l : Launch} {e : Env} {s : State} {m : MethodId} {args : Array Value} {below : List Frame} {meth : Method} {c : Code} {D : va_G} {cy : Nat → ClassId} {ad : Nat → Nat} {z : Int32 × Mem}
set_option maxHeartbeats 4000000 in
set_option maxRecDepth 100000 in
theorem wX7_word_H190 (X : CX p s m args meth c D cy ad iY cX7_word 7 (wsG yX7_word cX7_word 7 (some .int)) RX7) (hr : meth.sig.returnType = (some .int)) : ∀ (n : Nat) (x1 : Int32) (x2 : Int32) (x4 : Int32) (M : Mem), fX7_word_H190 n x1 x2 x4 M = some z → SW p l e rm_X7_word s m args below meth c 0 0 (QX7_word below D cy ad args s z) 7 (PH D cy ad iY s M) 190 [(0, .ref (ad 50)), (1, .int x1), (2, .int x2), (4, .int x4)] [] := by
  have hx := X.1
  have hb := X.2.1
  intro n
  induction n with
  | zero =>
    intro x1 x2 x4 M h
    have h : (none : Option (Int32 × Mem)) = some z := h
    cases h
  | succ n ih =>
    intro x1 x2 x4 M h
    rw [fX7_word_H190] at h
    refine sw_iload hx hb dX7_word_190 3 rfl ?_
    refine sw_iload_n hx hb dX7_word_192 2 rfl rfl ?_
    refine sw_icmp_ge hx hb 224 dX7_word_193 (by decide) h (fun h => ?_) (fun h => ?_)
    · refine sw_aload_n hx hb dX7_word_224 0 rfl rfl ?_
      refine sw_get X inG7 mi_50 (ce_7 (rfl : kd 50 = 7)) rfl 6 (by decide) (goodW wd486) rfl dX7_word_225 ?_
      refine sw_aload_n hx hb dX7_word_228 0 rfl rfl ?_
      refine sw_get X inG7 mi_50 (ce_7 (rfl : kd 50 = 7)) rfl 4 (by decide) (goodW wd485) rfl dX7_word_229 ?_
      refine sw_iload_n hx hb dX7_word_232 2 rfl rfl ?_
      refine sw_iast X mi_57 (rfl : kd 57 = 9) dX7_word_233 h (fun M_5 h => ?_)
      refine sw_aload_n hx hb dX7_word_234 0 rfl rfl ?_
      refine sw_get X inG7 mi_50 (ce_7 (rfl : kd 50 = 7)) rfl 7 (by decide) (goodW wd487) rfl dX7_word_235 ?_
      refine sw_aload_n hx hb dX7_word_238 0 rfl rfl ?_
      refine sw_get X inG7 mi_50 (ce_7 (rfl : kd 50 = 7)) rfl 4 (by decide) (goodW wd485) rfl dX7_word_239 ?_
      refine sw_iload_n hx hb dX7_word_242 1 rfl rfl ?_
      refine sw_iast X mi_58 (rfl : kd 58 = 9) dX7_word_243 h (fun M_6 h => ?_)
      refine sw_aload_n hx hb dX7_word_244 0 rfl rfl ?_
      refine sw_dup hx hb dX7_word_245 rfl ?_
      refine sw_get X inG7 mi_50 (ce_7 (rfl : kd 50 = 7)) rfl 4 (by decide) (goodW wd485) rfl dX7_word_246 ?_
      refine sw_iconst hx hb 1 dX7_word_249 (by decide) ?_
      refine sw_iadd hx hb dX7_word_250 ?_
      refine sw_putI X tyX7 tyX7_ok nmX7 inG7 mi_50 (ce_7 (rfl : kd 50 = 7)) rfl 4 (by decide) (goodW wd485) rfl (by decide +kernel : parseFieldDescriptor _ = some .int) rfl rfl (Nat.le_of_ble_eq_true rfl) (pu_7_4 (rfl : kd 50 = 7) _) dX7_word_251 h (fun M_7 h => ?_)
      refine sw_aload_n hx hb dX7_word_254 0 rfl rfl ?_
      refine sw_get X inG7 mi_50 (ce_7 (rfl : kd 50 = 7)) rfl 4 (by decide) (goodW wd485) rfl dX7_word_255 ?_
      refine sw_iconst hx hb 1 dX7_word_258 (by decide) ?_
      refine sw_isub hx hb dX7_word_259 ?_
      exact sw_Iret X hr dX7_word_260 h
    · refine sw_aload_n hx hb dX7_word_196 0 rfl rfl ?_
      refine sw_get X inG7 mi_50 (ce_7 (rfl : kd 50 = 7)) rfl 5 (by decide) (goodW wd488) rfl dX7_word_197 ?_
      refine sw_bipush hx hb 12 dX7_word_200 (by decide) ?_
      refine sw_aload_n hx hb dX7_word_202 0 rfl rfl ?_
      refine sw_get X inG7 mi_50 (ce_7 (rfl : kd 50 = 7)) rfl 4 (by decide) (goodW wd485) rfl dX7_word_203 ?_
      refine sw_imul hx hb dX7_word_206 ?_
      refine sw_iload hx hb dX7_word_207 3 rfl ?_
      refine sw_iadd hx hb dX7_word_209 ?_
      refine sw_aload_n hx hb dX7_word_210 0 rfl rfl ?_
      refine sw_get X inG7 mi_50 (ce_7 (rfl : kd 50 = 7)) rfl 0 (by decide) (goodW wd406) rfl dX7_word_211 ?_
      refine sw_iload hx hb dX7_word_214 3 rfl ?_
      refine sw_iald X mi_51 (rfl : kd 51 = 9) dX7_word_216 h (fun v_8 h => ?_)
      refine sw_iast X mi_56 (rfl : kd 56 = 9) dX7_word_217 h (fun M_9 h => ?_)
      refine sw_iincN hx hb (k := 3) (x4 + 1) (fun x4_10 => [(4, .int x4_10), (0, .ref (ad 50)), (1, .int x1), (2, .int x2)]) dX7_word_218 rfl (by rfl) (by decide) (fun _ => rfl) h (fun x4_10 h => ?_)
      refine sw_goto hx hb 190 dX7_word_221 (by decide) ?_
      refine sw_sub (lv1 := [(0, .ref (ad 50)), (1, .int x1), (2, .int x2), (4, .int x4_10)]) [1, 2, 3, 0] rfl ?_
      exact ih x1 x2 x4_10 M_9 h

set_option maxHeartbeats 4000000 in
set_option maxRecDepth 100000 in
theorem wX7_word_L161 (X : CX p s m args meth c D cy ad iY cX7_word 7 (wsG yX7_word cX7_word 7 (some .int)) RX7) (hr : meth.sig.returnType = (some .int)) (k84 : Int32 → Int32 → Int32 → Mem → Option (Int32 × Mem)) (hk84 : ∀ (x1 : Int32) (x2 : Int32) (x4 : Int32) (M : Mem), k84 x1 x2 x4 M = some z → SW p l e rm_X7_word s m args below meth c 0 0 (QX7_word below D cy ad args s z) 7 (PH D cy ad iY s M) 84 [(0, .ref (ad 50)), (1, .int x1), (2, .int x2), (4, .int x4)] []) (x1 : Int32) (x2 : Int32) (x4 : Int32) (x5 : Int32) (M : Mem) (h : fX7_word_L161 k84 x1 x2 x4 x5 M = some z) : SW p l e rm_X7_word s m args below meth c 0 0 (QX7_word below D cy ad args s z) 7 (PH D cy ad iY s M) 161 [(0, .ref (ad 50)), (1, .int x1), (2, .int x2), (4, .int x4), (5, .int x5)] [] := by
  have hx := X.1
  have hb := X.2.1
  unfold fX7_word_L161 at h
  refine sw_iload hx hb dX7_word_161 4 rfl ?_
  refine sw_if_eq hx hb 169 dX7_word_163 (by decide) h (fun h => ?_) (fun h => ?_)
  · refine sw_iincN hx hb (k := 3) (x4 + 1) (fun x4_12 => [(4, .int x4_12), (0, .ref (ad 50)), (1, .int x1), (2, .int x2), (5, .int x5)]) dX7_word_169 rfl (by rfl) (by decide) (fun _ => rfl) h (fun x4_12 h => ?_)
    refine sw_goto hx hb 84 dX7_word_172 (by decide) ?_
    refine sw_sub (lv1 := [(0, .ref (ad 50)), (1, .int x1), (2, .int x2), (4, .int x4_12)]) [1, 2, 3, 0] rfl ?_
    exact hk84 x1 x2 x4_12 M h
  · refine sw_bipush hx hb (-2) dX7_word_166 (by decide) ?_
    exact sw_Iret X hr dX7_word_168 h

set_option maxHeartbeats 4000000 in
set_option maxRecDepth 100000 in
theorem wX7_word_L153 (X : CX p s m args meth c D cy ad iY cX7_word 7 (wsG yX7_word cX7_word 7 (some .int)) RX7) (hr : meth.sig.returnType = (some .int)) (k84 : Int32 → Int32 → Int32 → Mem → Option (Int32 × Mem)) (k114 : Int32 → Int32 → Int32 → Int32 → Int32 → Mem → Option (Int32 × Mem)) (hk84 : ∀ (x1 : Int32) (x2 : Int32) (x4 : Int32) (M : Mem), k84 x1 x2 x4 M = some z → SW p l e rm_X7_word s m args below meth c 0 0 (QX7_word below D cy ad args s z) 7 (PH D cy ad iY s M) 84 [(0, .ref (ad 50)), (1, .int x1), (2, .int x2), (4, .int x4)] []) (hk114 : ∀ (x1 : Int32) (x2 : Int32) (x4 : Int32) (x5 : Int32) (x6 : Int32) (M : Mem), k114 x1 x2 x4 x5 x6 M = some z → SW p l e rm_X7_word s m args below meth c 0 0 (QX7_word below D cy ad args s z) 7 (PH D cy ad iY s M) 114 [(0, .ref (ad 50)), (1, .int x1), (2, .int x2), (4, .int x4), (5, .int x5), (6, .int x6)] []) (x1 : Int32) (x2 : Int32) (x4 : Int32) (x6 : Int32) (y0 : Int32) (M : Mem) (h : fX7_word_L153 k84 k114 x1 x2 x4 x6 y0 M = some z) : SW p l e rm_X7_word s m args below meth c 0 0 (QX7_word below D cy ad args s z) 7 (PH D cy ad iY s M) 153 [(0, .ref (ad 50)), (1, .int x1), (2, .int x2), (4, .int x4), (6, .int x6)] [.int y0] := by
  have hx := X.1
  have hb := X.2.1
  unfold fX7_word_L153 at h
  refine sw_istore hx hb [(5, .int y0), (0, .ref (ad 50)), (1, .int x1), (2, .int x2), (4, .int x4), (6, .int x6)] dX7_word_153 (by decide) rfl ?_
  refine sw_iincN hx hb (k := 5) (x6 + 1) (fun x6_15 => [(6, .int x6_15), (5, .int y0), (0, .ref (ad 50)), (1, .int x1), (2, .int x2), (4, .int x4)]) dX7_word_155 rfl (by rfl) (by decide) (fun _ => rfl) h (fun x6_15 h => ?_)
  refine sw_goto hx hb 114 dX7_word_158 (by decide) ?_
  refine sw_sub (lv1 := [(0, .ref (ad 50)), (1, .int x1), (2, .int x2), (4, .int x4), (5, .int y0), (6, .int x6_15)]) [2, 3, 4, 5, 1, 0] rfl ?_
  exact hk114 x1 x2 x4 y0 x6_15 M h

set_option maxHeartbeats 4000000 in
set_option maxRecDepth 100000 in
theorem wX7_word_H114 (X : CX p s m args meth c D cy ad iY cX7_word 7 (wsG yX7_word cX7_word 7 (some .int)) RX7) (hr : meth.sig.returnType = (some .int)) (k84 : Int32 → Int32 → Int32 → Mem → Option (Int32 × Mem)) (hk84 : ∀ (x1 : Int32) (x2 : Int32) (x4 : Int32) (M : Mem), k84 x1 x2 x4 M = some z → SW p l e rm_X7_word s m args below meth c 0 0 (QX7_word below D cy ad args s z) 7 (PH D cy ad iY s M) 84 [(0, .ref (ad 50)), (1, .int x1), (2, .int x2), (4, .int x4)] []) : ∀ (n : Nat) (x1 : Int32) (x2 : Int32) (x4 : Int32) (x5 : Int32) (x6 : Int32) (M : Mem), fX7_word_H114 k84 n x1 x2 x4 x5 x6 M = some z → SW p l e rm_X7_word s m args below meth c 0 0 (QX7_word below D cy ad args s z) 7 (PH D cy ad iY s M) 114 [(0, .ref (ad 50)), (1, .int x1), (2, .int x2), (4, .int x4), (5, .int x5), (6, .int x6)] [] := by
  have hx := X.1
  have hb := X.2.1
  intro n
  induction n with
  | zero =>
    intro x1 x2 x4 x5 x6 M h
    have h : (none : Option (Int32 × Mem)) = some z := h
    cases h
  | succ n ih =>
    intro x1 x2 x4 x5 x6 M h
    rw [fX7_word_H114] at h
    refine sw_iload hx hb dX7_word_114 5 rfl ?_
    refine sw_iload_n hx hb dX7_word_116 2 rfl rfl ?_
    refine sw_icmp_ge hx hb 161 dX7_word_117 (by decide) h (fun h => ?_) (fun h => ?_)
    · refine sw_sub (lv1 := [(0, .ref (ad 50)), (1, .int x1), (2, .int x2), (4, .int x4), (5, .int x5)]) [0, 1, 2, 3, 4] rfl ?_
      exact wX7_word_L161 X hr k84 hk84 x1 x2 x4 x5 M h
    · refine sw_iload hx hb dX7_word_120 4 rfl ?_
      refine sw_if_eq hx hb 161 dX7_word_122 (by decide) h (fun h => ?_) (fun h => ?_)
      · refine sw_sub (lv1 := [(0, .ref (ad 50)), (1, .int x1), (2, .int x2), (4, .int x4), (5, .int x5)]) [0, 1, 2, 3, 4] rfl ?_
        exact wX7_word_L161 X hr k84 hk84 x1 x2 x4 x5 M h
      · refine sw_aload_n hx hb dX7_word_125 0 rfl rfl ?_
        refine sw_get X inG7 mi_50 (ce_7 (rfl : kd 50 = 7)) rfl 5 (by decide) (goodW wd488) rfl dX7_word_126 ?_
        refine sw_bipush hx hb 12 dX7_word_129 (by decide) ?_
        refine sw_iload hx hb dX7_word_131 3 rfl ?_
        refine sw_imul hx hb dX7_word_133 ?_
        refine sw_iload hx hb dX7_word_134 5 rfl ?_
        refine sw_iadd hx hb dX7_word_136 ?_
        refine sw_iald X mi_56 (rfl : kd 56 = 9) dX7_word_137 h (fun v_13 h => ?_)
        refine sw_aload_n hx hb dX7_word_138 0 rfl rfl ?_
        refine sw_get X inG7 mi_50 (ce_7 (rfl : kd 50 = 7)) rfl 0 (by decide) (goodW wd406) rfl dX7_word_139 ?_
        refine sw_iload hx hb dX7_word_142 5 rfl ?_
        refine sw_iald X mi_51 (rfl : kd 51 = 9) dX7_word_144 h (fun v_14 h => ?_)
        refine sw_icmp_ne hx hb 152 dX7_word_145 (by decide) h (fun h => ?_) (fun h => ?_)
        · refine sw_iconst hx hb 0 dX7_word_152 (by decide) ?_
          refine sw_sub (lv1 := [(0, .ref (ad 50)), (1, .int x1), (2, .int x2), (4, .int x4), (6, .int x6)]) [0, 1, 2, 3, 5] rfl ?_
          exact wX7_word_L153 X hr k84 (fX7_word_H114 k84 n) hk84 ih x1 x2 x4 x6 0 M h
        · refine sw_iconst hx hb 1 dX7_word_148 (by decide) ?_
          refine sw_goto hx hb 153 dX7_word_149 (by decide) ?_
          refine sw_sub (lv1 := [(0, .ref (ad 50)), (1, .int x1), (2, .int x2), (4, .int x4), (6, .int x6)]) [0, 1, 2, 3, 5] rfl ?_
          exact wX7_word_L153 X hr k84 (fX7_word_H114 k84 n) hk84 ih x1 x2 x4 x6 1 M h

set_option maxHeartbeats 4000000 in
set_option maxRecDepth 100000 in
theorem wX7_word_L109 (X : CX p s m args meth c D cy ad iY cX7_word 7 (wsG yX7_word cX7_word 7 (some .int)) RX7) (hr : meth.sig.returnType = (some .int)) (k84 : Int32 → Int32 → Int32 → Mem → Option (Int32 × Mem)) (hk84 : ∀ (x1 : Int32) (x2 : Int32) (x4 : Int32) (M : Mem), k84 x1 x2 x4 M = some z → SW p l e rm_X7_word s m args below meth c 0 0 (QX7_word below D cy ad args s z) 7 (PH D cy ad iY s M) 84 [(0, .ref (ad 50)), (1, .int x1), (2, .int x2), (4, .int x4)] []) (x1 : Int32) (x2 : Int32) (x4 : Int32) (y0 : Int32) (M : Mem) (h : fX7_word_L109 k84 x1 x2 x4 y0 M = some z) : SW p l e rm_X7_word s m args below meth c 0 0 (QX7_word below D cy ad args s z) 7 (PH D cy ad iY s M) 109 [(0, .ref (ad 50)), (1, .int x1), (2, .int x2), (4, .int x4)] [.int y0] := by
  have hx := X.1
  have hb := X.2.1
  unfold fX7_word_L109 at h
  refine sw_istore hx hb [(5, .int y0), (0, .ref (ad 50)), (1, .int x1), (2, .int x2), (4, .int x4)] dX7_word_109 (by decide) rfl ?_
  refine sw_iconst hx hb 0 dX7_word_111 (by decide) ?_
  refine sw_istore hx hb [(6, .int 0), (5, .int y0), (0, .ref (ad 50)), (1, .int x1), (2, .int x2), (4, .int x4)] dX7_word_112 (by decide) rfl ?_
  refine sw_sub (lv1 := [(0, .ref (ad 50)), (1, .int x1), (2, .int x2), (4, .int x4), (5, .int y0), (6, .int 0)]) [2, 3, 4, 5, 1, 0] rfl ?_
  exact wX7_word_H114 X hr k84 hk84 FU x1 x2 x4 y0 0 M h

set_option maxHeartbeats 4000000 in
set_option maxRecDepth 100000 in
theorem wX7_word_H84 (X : CX p s m args meth c D cy ad iY cX7_word 7 (wsG yX7_word cX7_word 7 (some .int)) RX7) (hr : meth.sig.returnType = (some .int)) : ∀ (n : Nat) (x1 : Int32) (x2 : Int32) (x4 : Int32) (M : Mem), fX7_word_H84 n x1 x2 x4 M = some z → SW p l e rm_X7_word s m args below meth c 0 0 (QX7_word below D cy ad args s z) 7 (PH D cy ad iY s M) 84 [(0, .ref (ad 50)), (1, .int x1), (2, .int x2), (4, .int x4)] [] := by
  have hx := X.1
  have hb := X.2.1
  intro n
  induction n with
  | zero =>
    intro x1 x2 x4 M h
    have h : (none : Option (Int32 × Mem)) = some z := h
    cases h
  | succ n ih =>
    intro x1 x2 x4 M h
    rw [fX7_word_H84] at h
    refine sw_iload hx hb dX7_word_84 3 rfl ?_
    refine sw_aload_n hx hb dX7_word_86 0 rfl rfl ?_
    refine sw_get X inG7 mi_50 (ce_7 (rfl : kd 50 = 7)) rfl 4 (by decide) (goodW wd485) rfl dX7_word_87 ?_
    refine sw_icmp_ge hx hb 175 dX7_word_90 (by decide) h (fun h => ?_) (fun h => ?_)
    · refine sw_aload_n hx hb dX7_word_175 0 rfl rfl ?_
      refine sw_get X inG7 mi_50 (ce_7 (rfl : kd 50 = 7)) rfl 4 (by decide) (goodW wd485) rfl dX7_word_176 ?_
      refine sw_bipush hx hb 40 dX7_word_179 (by decide) ?_
      refine sw_icmp_ne hx hb 187 dX7_word_181 (by decide) h (fun h => ?_) (fun h => ?_)
      · refine sw_iconst hx hb 0 dX7_word_187 (by decide) ?_
        refine sw_istore hx hb [(4, .int 0), (0, .ref (ad 50)), (1, .int x1), (2, .int x2)] dX7_word_188 (by decide) rfl ?_
        refine sw_sub (lv1 := [(0, .ref (ad 50)), (1, .int x1), (2, .int x2), (4, .int 0)]) [1, 2, 3, 0] rfl ?_
        exact wX7_word_H190 X hr FU x1 x2 0 M h
      · refine sw_bipush hx hb (-3) dX7_word_184 (by decide) ?_
        exact sw_Iret X hr dX7_word_186 h
    · refine sw_aload_n hx hb dX7_word_93 0 rfl rfl ?_
      refine sw_get X inG7 mi_50 (ce_7 (rfl : kd 50 = 7)) rfl 6 (by decide) (goodW wd486) rfl dX7_word_94 ?_
      refine sw_iload hx hb dX7_word_97 3 rfl ?_
      refine sw_iald X mi_57 (rfl : kd 57 = 9) dX7_word_99 h (fun v_11 h => ?_)
      refine sw_iload_n hx hb dX7_word_100 2 rfl rfl ?_
      refine sw_icmp_ne hx hb 108 dX7_word_101 (by decide) h (fun h => ?_) (fun h => ?_)
      · refine sw_iconst hx hb 0 dX7_word_108 (by decide) ?_
        refine sw_sub (lv1 := [(0, .ref (ad 50)), (1, .int x1), (2, .int x2), (4, .int x4)]) [0, 1, 2, 3] rfl ?_
        exact wX7_word_L109 X hr (fX7_word_H84 n) ih x1 x2 x4 0 M h
      · refine sw_iconst hx hb 1 dX7_word_104 (by decide) ?_
        refine sw_goto hx hb 109 dX7_word_105 (by decide) ?_
        refine sw_sub (lv1 := [(0, .ref (ad 50)), (1, .int x1), (2, .int x2), (4, .int x4)]) [0, 1, 2, 3] rfl ?_
        exact wX7_word_L109 X hr (fX7_word_H84 n) ih x1 x2 x4 1 M h

set_option maxHeartbeats 4000000 in
set_option maxRecDepth 100000 in
theorem wX7_word_L75 (X : CX p s m args meth c D cy ad iY cX7_word 7 (wsG yX7_word cX7_word 7 (some .int)) RX7) (hr : meth.sig.returnType = (some .int)) (x1 : Int32) (x2 : Int32) (x3 : Int32) (M : Mem) (h : fX7_word_L75 x1 x2 x3 M = some z) : SW p l e rm_X7_word s m args below meth c 0 0 (QX7_word below D cy ad args s z) 7 (PH D cy ad iY s M) 75 [(0, .ref (ad 50)), (1, .int x1), (2, .int x2), (3, .int x3)] [] := by
  have hx := X.1
  have hb := X.2.1
  unfold fX7_word_L75 at h
  refine sw_iload_n hx hb dX7_word_75 3 rfl rfl ?_
  refine sw_if_ne hx hb 81 dX7_word_76 (by decide) h (fun h => ?_) (fun h => ?_)
  · refine sw_iconst hx hb 0 dX7_word_81 (by decide) ?_
    refine sw_istore hx hb [(4, .int 0), (0, .ref (ad 50)), (1, .int x1), (2, .int x2), (3, .int x3)] dX7_word_82 (by decide) rfl ?_
    refine sw_sub (lv1 := [(0, .ref (ad 50)), (1, .int x1), (2, .int x2), (4, .int 0)]) [1, 2, 3, 0] rfl ?_
    exact wX7_word_H84 X hr FU x1 x2 0 M h
  · refine sw_iconst hx hb (-1) dX7_word_79 (by decide) ?_
    exact sw_Iret X hr dX7_word_80 h

set_option maxHeartbeats 4000000 in
set_option maxRecDepth 100000 in
theorem wX7_word_L68 (X : CX p s m args meth c D cy ad iY cX7_word 7 (wsG yX7_word cX7_word 7 (some .int)) RX7) (hr : meth.sig.returnType = (some .int)) (k40 : Int32 → Int32 → Int32 → Int32 → Mem → Option (Int32 × Mem)) (hk40 : ∀ (x1 : Int32) (x2 : Int32) (x3 : Int32) (x4 : Int32) (M : Mem), k40 x1 x2 x3 x4 M = some z → SW p l e rm_X7_word s m args below meth c 0 0 (QX7_word below D cy ad args s z) 7 (PH D cy ad iY s M) 40 [(0, .ref (ad 50)), (1, .int x1), (2, .int x2), (3, .int x3), (4, .int x4)] []) (x1 : Int32) (x2 : Int32) (x4 : Int32) (y0 : Int32) (M : Mem) (h : fX7_word_L68 k40 x1 x2 x4 y0 M = some z) : SW p l e rm_X7_word s m args below meth c 0 0 (QX7_word below D cy ad args s z) 7 (PH D cy ad iY s M) 68 [(0, .ref (ad 50)), (1, .int x1), (2, .int x2), (4, .int x4)] [.int y0] := by
  have hx := X.1
  have hb := X.2.1
  unfold fX7_word_L68 at h
  refine sw_istore_n hx hb [(3, .int y0), (0, .ref (ad 50)), (1, .int x1), (2, .int x2), (4, .int x4)] dX7_word_68 rfl (by decide) rfl ?_
  refine sw_iincN hx hb (k := 4) (x4 + 1) (fun x4_19 => [(4, .int x4_19), (3, .int y0), (0, .ref (ad 50)), (1, .int x1), (2, .int x2)]) dX7_word_69 rfl (by rfl) (by decide) (fun _ => rfl) h (fun x4_19 h => ?_)
  refine sw_goto hx hb 40 dX7_word_72 (by decide) ?_
  refine sw_sub (lv1 := [(0, .ref (ad 50)), (1, .int x1), (2, .int x2), (3, .int y0), (4, .int x4_19)]) [2, 3, 4, 1, 0] rfl ?_
  exact hk40 x1 x2 y0 x4_19 M h

set_option maxHeartbeats 4000000 in
set_option maxRecDepth 100000 in
theorem wX7_word_H40 (X : CX p s m args meth c D cy ad iY cX7_word 7 (wsG yX7_word cX7_word 7 (some .int)) RX7) (hr : meth.sig.returnType = (some .int)) : ∀ (n : Nat) (x1 : Int32) (x2 : Int32) (x3 : Int32) (x4 : Int32) (M : Mem), fX7_word_H40 n x1 x2 x3 x4 M = some z → SW p l e rm_X7_word s m args below meth c 0 0 (QX7_word below D cy ad args s z) 7 (PH D cy ad iY s M) 40 [(0, .ref (ad 50)), (1, .int x1), (2, .int x2), (3, .int x3), (4, .int x4)] [] := by
  have hx := X.1
  have hb := X.2.1
  intro n
  induction n with
  | zero =>
    intro x1 x2 x3 x4 M h
    have h : (none : Option (Int32 × Mem)) = some z := h
    cases h
  | succ n ih =>
    intro x1 x2 x3 x4 M h
    rw [fX7_word_H40] at h
    refine sw_iload hx hb dX7_word_40 4 rfl ?_
    refine sw_iload_n hx hb dX7_word_42 2 rfl rfl ?_
    refine sw_icmp_ge hx hb 75 dX7_word_43 (by decide) h (fun h => ?_) (fun h => ?_)
    · refine sw_sub (lv1 := [(0, .ref (ad 50)), (1, .int x1), (2, .int x2), (3, .int x3)]) [0, 1, 2, 3] rfl ?_
      exact wX7_word_L75 X hr x1 x2 x3 M h
    · refine sw_iload_n hx hb dX7_word_46 3 rfl rfl ?_
      refine sw_if_eq hx hb 75 dX7_word_47 (by decide) h (fun h => ?_) (fun h => ?_)
      · refine sw_sub (lv1 := [(0, .ref (ad 50)), (1, .int x1), (2, .int x2), (3, .int x3)]) [0, 1, 2, 3] rfl ?_
        exact wX7_word_L75 X hr x1 x2 x3 M h
      · refine sw_aload_n hx hb dX7_word_50 0 rfl rfl ?_
        refine sw_get X inG7 mi_50 (ce_7 (rfl : kd 50 = 7)) rfl 0 (by decide) (goodW wd406) rfl dX7_word_51 ?_
        refine sw_iload hx hb dX7_word_54 4 rfl ?_
        refine sw_iald X mi_51 (rfl : kd 51 = 9) dX7_word_56 h (fun v_16 h => ?_)
        refine sw_callSI (As := [.int v_16]) (rest := []) X (fun _ hz => okX7_isBlank l X.2.2.2.2.2.2.1 v_16 M _ hz) (cwX7_96 X.2.2.2.2.1 ⟨Nat.le_of_ble_eq_true rfl, Nat.le_of_ble_eq_true rfl⟩)  rfl rfl (Nat.le_of_ble_eq_true rfl) dX7_word_57 ⟨Nat.le_of_ble_eq_true rfl, Nat.le_of_ble_eq_true rfl⟩ h (fun v_18 M_17 _ h => ?_)
        refine sw_if_ne hx hb 67 dX7_word_60 (by decide) h (fun h => ?_) (fun h => ?_)
        · refine sw_iconst hx hb 0 dX7_word_67 (by decide) ?_
          refine sw_sub (lv1 := [(0, .ref (ad 50)), (1, .int x1), (2, .int x2), (4, .int x4)]) [0, 1, 2, 4] rfl ?_
          exact wX7_word_L68 X hr (fX7_word_H40 n) ih x1 x2 x4 0 M_17 h
        · refine sw_iconst hx hb 1 dX7_word_63 (by decide) ?_
          refine sw_goto hx hb 68 dX7_word_64 (by decide) ?_
          refine sw_sub (lv1 := [(0, .ref (ad 50)), (1, .int x1), (2, .int x2), (4, .int x4)]) [0, 1, 2, 4] rfl ?_
          exact wX7_word_L68 X hr (fX7_word_H40 n) ih x1 x2 x4 1 M_17 h

set_option maxHeartbeats 4000000 in
set_option maxRecDepth 100000 in
theorem wX7_word_L36 (X : CX p s m args meth c D cy ad iY cX7_word 7 (wsG yX7_word cX7_word 7 (some .int)) RX7) (hr : meth.sig.returnType = (some .int)) (x1 : Int32) (x2 : Int32) (y0 : Int32) (M : Mem) (h : fX7_word_L36 x1 x2 y0 M = some z) : SW p l e rm_X7_word s m args below meth c 0 0 (QX7_word below D cy ad args s z) 7 (PH D cy ad iY s M) 36 [(0, .ref (ad 50)), (1, .int x1), (2, .int x2)] [.int y0] := by
  have hx := X.1
  have hb := X.2.1
  unfold fX7_word_L36 at h
  refine sw_istore_n hx hb [(3, .int y0), (0, .ref (ad 50)), (1, .int x1), (2, .int x2)] dX7_word_36 rfl (by decide) rfl ?_
  refine sw_iconst hx hb 0 dX7_word_37 (by decide) ?_
  refine sw_istore hx hb [(4, .int 0), (3, .int y0), (0, .ref (ad 50)), (1, .int x1), (2, .int x2)] dX7_word_38 (by decide) rfl ?_
  refine sw_sub (lv1 := [(0, .ref (ad 50)), (1, .int x1), (2, .int x2), (3, .int y0), (4, .int 0)]) [2, 3, 4, 1, 0] rfl ?_
  exact wX7_word_H40 X hr FU x1 x2 y0 0 M h

set_option maxHeartbeats 4000000 in
set_option maxRecDepth 100000 in
theorem wX7_word_L35 (X : CX p s m args meth c D cy ad iY cX7_word 7 (wsG yX7_word cX7_word 7 (some .int)) RX7) (hr : meth.sig.returnType = (some .int)) (x1 : Int32) (x2 : Int32) (M : Mem) (h : fX7_word_L35 x1 x2 M = some z) : SW p l e rm_X7_word s m args below meth c 0 0 (QX7_word below D cy ad args s z) 7 (PH D cy ad iY s M) 35 [(0, .ref (ad 50)), (1, .int x1), (2, .int x2)] [] := by
  have hx := X.1
  have hb := X.2.1
  unfold fX7_word_L35 at h
  refine sw_iconst hx hb 0 dX7_word_35 (by decide) ?_
  refine sw_sub (lv1 := [(0, .ref (ad 50)), (1, .int x1), (2, .int x2)]) [0, 1, 2] rfl ?_
  exact wX7_word_L36 X hr x1 x2 0 M h

set_option maxHeartbeats 4000000 in
set_option maxRecDepth 100000 in
theorem wX7_word_E (X : CX p s m args meth c D cy ad iY cX7_word 7 (wsG yX7_word cX7_word 7 (some .int)) RX7) (hr : meth.sig.returnType = (some .int)) (x1 : Int32) (M : Mem) (h : fX7_word x1 M = some z) : SW p l e rm_X7_word s m args below meth c 0 0 (QX7_word below D cy ad args s z) 7 (PH D cy ad iY s M) 0 [(0, .ref (ad 50)), (1, .int x1)] [] := by
  have hx := X.1
  have hb := X.2.1
  unfold fX7_word at h
  refine sw_aload_n hx hb dX7_word_0 0 rfl rfl ?_
  refine sw_get X inG7 mi_50 (ce_7 (rfl : kd 50 = 7)) rfl 1 (by decide) (goodW wd405) rfl dX7_word_1 ?_
  refine sw_istore_nN hx hb (fun x2_1 => [(2, .int x2_1), (0, .ref (ad 50)), (1, .int x1)]) dX7_word_4 rfl (by decide) (fun _ => rfl) h (fun x2_1 h => ?_)
  refine sw_aload_n hx hb dX7_word_5 1 rfl rfl ?_
  refine sw_iconst hx hb 0 dX7_word_6 (by decide) ?_
  refine sw_putI X tyX7 tyX7_ok nmX7 inG7 mi_50 (ce_7 (rfl : kd 50 = 7)) rfl 1 (by decide) (goodW wd405) rfl (by decide +kernel : parseFieldDescriptor _ = some .int) rfl rfl (Nat.le_of_ble_eq_true rfl) (pu_7_1 (rfl : kd 50 = 7) _) dX7_word_7 h (fun M_2 h => ?_)
  refine sw_iload_n hx hb dX7_word_10 0 rfl rfl ?_
  refine sw_iconst hx hb 1 dX7_word_11 (by decide) ?_
  refine sw_bipush hx hb 12 dX7_word_12 (by decide) ?_
  refine sw_callSI (As := [.int x2_1, .int 1, .int 12]) (rest := []) X (fun _ hz => okX7_isIn l X.2.2.2.2.2.2.1 x2_1 1 12 M_2 _ hz) (cwX7_85 X.2.2.2.2.1 ⟨Nat.le_of_ble_eq_true rfl, Nat.le_of_ble_eq_true rfl⟩)  rfl rfl (Nat.le_of_ble_eq_true rfl) dX7_word_14 ⟨Nat.le_of_ble_eq_true rfl, Nat.le_of_ble_eq_true rfl⟩ h (fun v_4 M_3 _ h => ?_)
  refine sw_if_eq hx hb 35 dX7_word_17 (by decide) h (fun h => ?_) (fun h => ?_)
  · refine sw_sub (lv1 := [(0, .ref (ad 50)), (1, .int x1), (2, .int x2_1)]) [1, 2, 0] rfl ?_
    exact wX7_word_L35 X hr x1 x2_1 M_3 h
  · refine sw_iload_n hx hb dX7_word_20 2 rfl rfl ?_
    refine sw_iconst hx hb 1 dX7_word_21 (by decide) ?_
    refine sw_sipush hx hb 1000 dX7_word_22 (by decide) ?_
    refine sw_callSI (As := [.int x1, .int 1, .int 1000]) (rest := []) X (fun _ hz => okX7_isIn l X.2.2.2.2.2.2.1 x1 1 1000 M_3 _ hz) (cwX7_85 X.2.2.2.2.1 ⟨Nat.le_of_ble_eq_true rfl, Nat.le_of_ble_eq_true rfl⟩)  rfl rfl (Nat.le_of_ble_eq_true rfl) dX7_word_25 ⟨Nat.le_of_ble_eq_true rfl, Nat.le_of_ble_eq_true rfl⟩ h (fun v_21 M_20 _ h => ?_)
    refine sw_if_eq hx hb 35 dX7_word_28 (by decide) h (fun h => ?_) (fun h => ?_)
    · refine sw_sub (lv1 := [(0, .ref (ad 50)), (1, .int x1), (2, .int x2_1)]) [1, 2, 0] rfl ?_
      exact wX7_word_L35 X hr x1 x2_1 M_20 h
    · refine sw_iconst hx hb 1 dX7_word_31 (by decide) ?_
      refine sw_goto hx hb 36 dX7_word_32 (by decide) ?_
      refine sw_sub (lv1 := [(0, .ref (ad 50)), (1, .int x1), (2, .int x2_1)]) [1, 2, 0] rfl ?_
      exact wX7_word_L36 X hr x1 x2_1 1 M_20 h

end
theorem okX7_word (l : Launch) {D : va_G} {cy : Nat → ClassId} {ad : Nat → Nat} (hD : ∀ M : Mem, va_D (AA ad iY) (wl cy ad iY M)) (x1 : Int32) (M : Mem) (z : Int32 × Mem) (h : fX7_word x1 M = some z) : CTI l yX7_word (wsG yX7_word cX7_word 7 (some .int)) rm_X7_word D cy ad iY [.ref (ad 50), .int x1] M z :=
  met_of (cc := cX7_word) (maxL := 7) (ret := (some .int)) (own := RX7) (by decide) rfl rfl hD ndY (Nat.le_of_ble_eq_true rfl) (fun p e s m below meth c X hr => wX7_word_E X hr x1 M h)
abbrev QX7_strange (below : List Frame) (D : va_G) (cy : Nat → ClassId) (ad : Nat → Nat) (args : Array Value) (s : State) (z : Int32 × Mem) : State → Prop := MQ below (va_Qi (fun r u => r = z.1 ∧ u = z.2) (BB D cy ad iY) (AA ad iY)) args s 0 0 (AA ad iY)
section
variable {p : Program} {l : Launch} {e : Env} {s : State} {m : MethodId} {args : Array Value} {below : List Frame} {meth : Method} {c : Code} {D : va_G} {cy : Nat → ClassId} {ad : Nat → Nat} {z : Int32 × Mem}
set_option maxHeartbeats 4000000 in
set_option maxRecDepth 100000 in
theorem wX7_strange_E (X : CX p s m args meth c D cy ad iY cX7_strange 3 (wsG yX7_strange cX7_strange 3 (some .int)) RX7) (hr : meth.sig.returnType = (some .int)) (x1 : Int32) (M : Mem) (h : fX7_strange x1 M = some z) : SW p l e rm_X7_strange s m args below meth c 0 0 (QX7_strange below D cy ad args s z) 3 (PH D cy ad iY s M) 0 [(0, .ref (ad 50)), (1, .int x1)] [] := by
  have hx := X.1
  have hb := X.2.1
  unfold fX7_strange at h
  refine sw_iload_n hx hb dX7_strange_0 1 rfl rfl ?_
  refine sw_iconst hx hb 1 dX7_strange_1 (by decide) ?_
  refine sw_sipush hx hb 1000 dX7_strange_2 (by decide) ?_
  refine sw_callSI (As := [.int x1, .int 1, .int 1000]) (rest := []) X (fun _ hz => okX7_isIn l X.2.2.2.2.2.2.1 x1 1 1000 M _ hz) (cwX7_85 X.2.2.2.2.1 ⟨Nat.le_of_ble_eq_true rfl, Nat.le_of_ble_eq_true rfl⟩)  rfl rfl (Nat.le_of_ble_eq_true rfl) dX7_strange_5 ⟨Nat.le_of_ble_eq_true rfl, Nat.le_of_ble_eq_true rfl⟩ h (fun v_2 M_1 _ h => ?_)
  refine sw_if_ne hx hb 13 dX7_strange_8 (by decide) h (fun h => ?_) (fun h => ?_)
  · refine sw_aload_n hx hb dX7_strange_13 0 rfl rfl ?_
    refine sw_get X inG7 mi_50 (ce_7 (rfl : kd 50 = 7)) rfl 8 (by decide) (goodW wd489) rfl dX7_strange_14 ?_
    refine sw_istore_nN hx hb (fun x2_3 => [(2, .int x2_3), (0, .ref (ad 50)), (1, .int x1)]) dX7_strange_17 rfl (by decide) (fun _ => rfl) h (fun x2_3 h => ?_)
    refine sw_aload_n hx hb dX7_strange_18 1 rfl rfl ?_
    refine sw_iload_n hx hb dX7_strange_19 2 rfl rfl ?_
    refine sw_putI X tyX7 tyX7_ok nmX7 inG7 mi_50 (ce_7 (rfl : kd 50 = 7)) rfl 8 (by decide) (goodW wd489) rfl (by decide +kernel : parseFieldDescriptor _ = some .int) rfl rfl (Nat.le_of_ble_eq_true rfl) (pu_7_8 (rfl : kd 50 = 7) _) dX7_strange_20 h (fun M_4 h => ?_)
    refine sw_iload_n hx hb dX7_strange_23 0 rfl rfl ?_
    exact sw_Iret X hr dX7_strange_24 h
  · refine sw_iconst hx hb (-1) dX7_strange_11 (by decide) ?_
    exact sw_Iret X hr dX7_strange_12 h

end
theorem okX7_strange (l : Launch) {D : va_G} {cy : Nat → ClassId} {ad : Nat → Nat} (hD : ∀ M : Mem, va_D (AA ad iY) (wl cy ad iY M)) (x1 : Int32) (M : Mem) (z : Int32 × Mem) (h : fX7_strange x1 M = some z) : CTI l yX7_strange (wsG yX7_strange cX7_strange 3 (some .int)) rm_X7_strange D cy ad iY [.ref (ad 50), .int x1] M z :=
  met_of (cc := cX7_strange) (maxL := 3) (ret := (some .int)) (own := RX7) (by decide) rfl rfl hD ndY (Nat.le_of_ble_eq_true rfl) (fun p e s m below meth c X hr => wX7_strange_E X hr x1 M h)
abbrev QX7_wordAt (below : List Frame) (D : va_G) (cy : Nat → ClassId) (ad : Nat → Nat) (args : Array Value) (s : State) (z : Int32 × Mem) : State → Prop := MQ below (va_Qi (fun r u => r = z.1 ∧ u = z.2) (BB D cy ad iY) (AA ad iY)) args s 0 0 (AA ad iY)
section
variable {p : Program} {l : Launch} {e : Env} {s : State} {m : MethodId} {args : Array Value} {below : List Frame} {meth : Method} {c : Code} {D : va_G} {cy : Nat → ClassId} {ad : Nat → Nat} {z : Int32 × Mem}
set_option maxHeartbeats 4000000 in
set_option maxRecDepth 100000 in
theorem wX7_wordAt_L89 (X : CX p s m args meth c D cy ad iY cX7_wordAt 7 (wsG yX7_wordAt cX7_wordAt 7 (some .int)) RX7) (hr : meth.sig.returnType = (some .int)) (k3 : Int32 → Int32 → Int32 → Int32 → Mem → Option (Int32 × Mem)) (hk3 : ∀ (x1 : Int32) (x2 : Int32) (x3 : Int32) (x4 : Int32) (M : Mem), k3 x1 x2 x3 x4 M = some z → SW p l e rm_X7_wordAt s m args below meth c 0 0 (QX7_wordAt below D cy ad args s z) 7 (PH D cy ad iY s M) 3 [(0, .ref (ad 50)), (1, .int x1), (2, .int x2), (3, .int x3), (4, .int x4)] []) (x1 : Int32) (x2 : Int32) (x3 : Int32) (x4 : Int32) (x5 : Int32) (M : Mem) (h : fX7_wordAt_L89 k3 x1 x2 x3 x4 x5 M = some z) : SW p l e rm_X7_wordAt s m args below meth c 0 0 (QX7_wordAt below D cy ad args s z) 7 (PH D cy ad iY s M) 89 [(0, .ref (ad 50)), (1, .int x1), (2, .int x2), (3, .int x3), (4, .int x4), (5, .int x5)] [] := by
  have hx := X.1
  have hb := X.2.1
  unfold fX7_wordAt_L89 at h
  refine sw_iload hx hb dX7_wordAt_89 5 rfl ?_
  refine sw_if_eq hx hb 97 dX7_wordAt_91 (by decide) h (fun h => ?_) (fun h => ?_)
  · refine sw_iincN hx hb (k := 4) (x4 + 1) (fun x4_2 => [(4, .int x4_2), (0, .ref (ad 50)), (1, .int x1), (2, .int x2), (3, .int x3), (5, .int x5)]) dX7_wordAt_97 rfl (by rfl) (by decide) (fun _ => rfl) h (fun x4_2 h => ?_)
    refine sw_goto hx hb 3 dX7_wordAt_100 (by decide) ?_
    refine sw_sub (lv1 := [(0, .ref (ad 50)), (1, .int x1), (2, .int x2), (3, .int x3), (4, .int x4_2)]) [1, 2, 3, 4, 0] rfl ?_
    exact hk3 x1 x2 x3 x4_2 M h
  · refine sw_iload hx hb dX7_wordAt_94 4 rfl ?_
    exact sw_Iret X hr dX7_wordAt_96 h

set_option maxHeartbeats 4000000 in
set_option maxRecDepth 100000 in
theorem wX7_wordAt_L81 (X : CX p s m args meth c D cy ad iY cX7_wordAt 7 (wsG yX7_wordAt cX7_wordAt 7 (some .int)) RX7) (hr : meth.sig.returnType = (some .int)) (k3 : Int32 → Int32 → Int32 → Int32 → Mem → Option (Int32 × Mem)) (k40 : Int32 → Int32 → Int32 → Int32 → Int32 → Int32 → Mem → Option (Int32 × Mem)) (hk3 : ∀ (x1 : Int32) (x2 : Int32) (x3 : Int32) (x4 : Int32) (M : Mem), k3 x1 x2 x3 x4 M = some z → SW p l e rm_X7_wordAt s m args below meth c 0 0 (QX7_wordAt below D cy ad args s z) 7 (PH D cy ad iY s M) 3 [(0, .ref (ad 50)), (1, .int x1), (2, .int x2), (3, .int x3), (4, .int x4)] []) (hk40 : ∀ (x1 : Int32) (x2 : Int32) (x3 : Int32) (x4 : Int32) (x5 : Int32) (x6 : Int32) (M : Mem), k40 x1 x2 x3 x4 x5 x6 M = some z → SW p l e rm_X7_wordAt s m args below meth c 0 0 (QX7_wordAt below D cy ad args s z) 7 (PH D cy ad iY s M) 40 [(0, .ref (ad 50)), (1, .int x1), (2, .int x2), (3, .int x3), (4, .int x4), (5, .int x5), (6, .int x6)] []) (x1 : Int32) (x2 : Int32) (x3 : Int32) (x4 : Int32) (x6 : Int32) (y0 : Int32) (M : Mem) (h : fX7_wordAt_L81 k3 k40 x1 x2 x3 x4 x6 y0 M = some z) : SW p l e rm_X7_wordAt s m args below meth c 0 0 (QX7_wordAt below D cy ad args s z) 7 (PH D cy ad iY s M) 81 [(0, .ref (ad 50)), (1, .int x1), (2, .int x2), (3, .int x3), (4, .int x4), (6, .int x6)] [.int y0] := by
  have hx := X.1
  have hb := X.2.1
  unfold fX7_wordAt_L81 at h
  refine sw_istore hx hb [(5, .int y0), (0, .ref (ad 50)), (1, .int x1), (2, .int x2), (3, .int x3), (4, .int x4), (6, .int x6)] dX7_wordAt_81 (by decide) rfl ?_
  refine sw_iincN hx hb (k := 6) (x6 + 1) (fun x6_5 => [(6, .int x6_5), (5, .int y0), (0, .ref (ad 50)), (1, .int x1), (2, .int x2), (3, .int x3), (4, .int x4)]) dX7_wordAt_83 rfl (by rfl) (by decide) (fun _ => rfl) h (fun x6_5 h => ?_)
  refine sw_goto hx hb 40 dX7_wordAt_86 (by decide) ?_
  refine sw_sub (lv1 := [(0, .ref (ad 50)), (1, .int x1), (2, .int x2), (3, .int x3), (4, .int x4), (5, .int y0), (6, .int x6_5)]) [2, 3, 4, 5, 6, 1, 0] rfl ?_
  exact hk40 x1 x2 x3 x4 y0 x6_5 M h

set_option maxHeartbeats 4000000 in
set_option maxRecDepth 100000 in
theorem wX7_wordAt_H40 (X : CX p s m args meth c D cy ad iY cX7_wordAt 7 (wsG yX7_wordAt cX7_wordAt 7 (some .int)) RX7) (hr : meth.sig.returnType = (some .int)) (k3 : Int32 → Int32 → Int32 → Int32 → Mem → Option (Int32 × Mem)) (hk3 : ∀ (x1 : Int32) (x2 : Int32) (x3 : Int32) (x4 : Int32) (M : Mem), k3 x1 x2 x3 x4 M = some z → SW p l e rm_X7_wordAt s m args below meth c 0 0 (QX7_wordAt below D cy ad args s z) 7 (PH D cy ad iY s M) 3 [(0, .ref (ad 50)), (1, .int x1), (2, .int x2), (3, .int x3), (4, .int x4)] []) : ∀ (n : Nat) (x1 : Int32) (x2 : Int32) (x3 : Int32) (x4 : Int32) (x5 : Int32) (x6 : Int32) (M : Mem), fX7_wordAt_H40 k3 n x1 x2 x3 x4 x5 x6 M = some z → SW p l e rm_X7_wordAt s m args below meth c 0 0 (QX7_wordAt below D cy ad args s z) 7 (PH D cy ad iY s M) 40 [(0, .ref (ad 50)), (1, .int x1), (2, .int x2), (3, .int x3), (4, .int x4), (5, .int x5), (6, .int x6)] [] := by
  have hx := X.1
  have hb := X.2.1
  intro n
  induction n with
  | zero =>
    intro x1 x2 x3 x4 x5 x6 M h
    have h : (none : Option (Int32 × Mem)) = some z := h
    cases h
  | succ n ih =>
    intro x1 x2 x3 x4 x5 x6 M h
    rw [fX7_wordAt_H40] at h
    refine sw_iload hx hb dX7_wordAt_40 6 rfl ?_
    refine sw_iload_n hx hb dX7_wordAt_42 2 rfl rfl ?_
    refine sw_icmp_ge hx hb 89 dX7_wordAt_43 (by decide) h (fun h => ?_) (fun h => ?_)
    · refine sw_sub (lv1 := [(0, .ref (ad 50)), (1, .int x1), (2, .int x2), (3, .int x3), (4, .int x4), (5, .int x5)]) [0, 1, 2, 3, 4, 5] rfl ?_
      exact wX7_wordAt_L89 X hr k3 hk3 x1 x2 x3 x4 x5 M h
    · refine sw_iload hx hb dX7_wordAt_46 5 rfl ?_
      refine sw_if_eq hx hb 89 dX7_wordAt_48 (by decide) h (fun h => ?_) (fun h => ?_)
      · refine sw_sub (lv1 := [(0, .ref (ad 50)), (1, .int x1), (2, .int x2), (3, .int x3), (4, .int x4), (5, .int x5)]) [0, 1, 2, 3, 4, 5] rfl ?_
        exact wX7_wordAt_L89 X hr k3 hk3 x1 x2 x3 x4 x5 M h
      · refine sw_aload_n hx hb dX7_wordAt_51 0 rfl rfl ?_
        refine sw_get X inG7 mi_50 (ce_7 (rfl : kd 50 = 7)) rfl 5 (by decide) (goodW wd488) rfl dX7_wordAt_52 ?_
        refine sw_bipush hx hb 12 dX7_wordAt_55 (by decide) ?_
        refine sw_iload hx hb dX7_wordAt_57 4 rfl ?_
        refine sw_imul hx hb dX7_wordAt_59 ?_
        refine sw_iload hx hb dX7_wordAt_60 6 rfl ?_
        refine sw_iadd hx hb dX7_wordAt_62 ?_
        refine sw_iald X mi_56 (rfl : kd 56 = 9) dX7_wordAt_63 h (fun v_3 h => ?_)
        refine sw_aload_n hx hb dX7_wordAt_64 0 rfl rfl ?_
        refine sw_get X inG7 mi_50 (ce_7 (rfl : kd 50 = 7)) rfl 2 (by decide) (goodW wd409) rfl dX7_wordAt_65 ?_
        refine sw_iload_n hx hb dX7_wordAt_68 1 rfl rfl ?_
        refine sw_iload hx hb dX7_wordAt_69 6 rfl ?_
        refine sw_iadd hx hb dX7_wordAt_71 ?_
        refine sw_iald X mi_53 (rfl : kd 53 = 9) dX7_wordAt_72 h (fun v_4 h => ?_)
        refine sw_icmp_ne hx hb 80 dX7_wordAt_73 (by decide) h (fun h => ?_) (fun h => ?_)
        · refine sw_iconst hx hb 0 dX7_wordAt_80 (by decide) ?_
          refine sw_sub (lv1 := [(0, .ref (ad 50)), (1, .int x1), (2, .int x2), (3, .int x3), (4, .int x4), (6, .int x6)]) [0, 1, 2, 3, 4, 6] rfl ?_
          exact wX7_wordAt_L81 X hr k3 (fX7_wordAt_H40 k3 n) hk3 ih x1 x2 x3 x4 x6 0 M h
        · refine sw_iconst hx hb 1 dX7_wordAt_76 (by decide) ?_
          refine sw_goto hx hb 81 dX7_wordAt_77 (by decide) ?_
          refine sw_sub (lv1 := [(0, .ref (ad 50)), (1, .int x1), (2, .int x2), (3, .int x3), (4, .int x4), (6, .int x6)]) [0, 1, 2, 3, 4, 6] rfl ?_
          exact wX7_wordAt_L81 X hr k3 (fX7_wordAt_H40 k3 n) hk3 ih x1 x2 x3 x4 x6 1 M h

set_option maxHeartbeats 4000000 in
set_option maxRecDepth 100000 in
theorem wX7_wordAt_L35 (X : CX p s m args meth c D cy ad iY cX7_wordAt 7 (wsG yX7_wordAt cX7_wordAt 7 (some .int)) RX7) (hr : meth.sig.returnType = (some .int)) (k3 : Int32 → Int32 → Int32 → Int32 → Mem → Option (Int32 × Mem)) (hk3 : ∀ (x1 : Int32) (x2 : Int32) (x3 : Int32) (x4 : Int32) (M : Mem), k3 x1 x2 x3 x4 M = some z → SW p l e rm_X7_wordAt s m args below meth c 0 0 (QX7_wordAt below D cy ad args s z) 7 (PH D cy ad iY s M) 3 [(0, .ref (ad 50)), (1, .int x1), (2, .int x2), (3, .int x3), (4, .int x4)] []) (x1 : Int32) (x2 : Int32) (x3 : Int32) (x4 : Int32) (y0 : Int32) (M : Mem) (h : fX7_wordAt_L35 k3 x1 x2 x3 x4 y0 M = some z) : SW p l e rm_X7_wordAt s m args below meth c 0 0 (QX7_wordAt below D cy ad args s z) 7 (PH D cy ad iY s M) 35 [(0, .ref (ad 50)), (1, .int x1), (2, .int x2), (3, .int x3), (4, .int x4)] [.int y0] := by
  have hx := X.1
  have hb := X.2.1
  unfold fX7_wordAt_L35 at h
  refine sw_istore hx hb [(5, .int y0), (0, .ref (ad 50)), (1, .int x1), (2, .int x2), (3, .int x3), (4, .int x4)] dX7_wordAt_35 (by decide) rfl ?_
  refine sw_iconst hx hb 0 dX7_wordAt_37 (by decide) ?_
  refine sw_istore hx hb [(6, .int 0), (5, .int y0), (0, .ref (ad 50)), (1, .int x1), (2, .int x2), (3, .int x3), (4, .int x4)] dX7_wordAt_38 (by decide) rfl ?_
  refine sw_sub (lv1 := [(0, .ref (ad 50)), (1, .int x1), (2, .int x2), (3, .int x3), (4, .int x4), (5, .int y0), (6, .int 0)]) [2, 3, 4, 5, 6, 1, 0] rfl ?_
  exact wX7_wordAt_H40 X hr k3 hk3 FU x1 x2 x3 x4 y0 0 M h

set_option maxHeartbeats 4000000 in
set_option maxRecDepth 100000 in
theorem wX7_wordAt_L34 (X : CX p s m args meth c D cy ad iY cX7_wordAt 7 (wsG yX7_wordAt cX7_wordAt 7 (some .int)) RX7) (hr : meth.sig.returnType = (some .int)) (k3 : Int32 → Int32 → Int32 → Int32 → Mem → Option (Int32 × Mem)) (hk3 : ∀ (x1 : Int32) (x2 : Int32) (x3 : Int32) (x4 : Int32) (M : Mem), k3 x1 x2 x3 x4 M = some z → SW p l e rm_X7_wordAt s m args below meth c 0 0 (QX7_wordAt below D cy ad args s z) 7 (PH D cy ad iY s M) 3 [(0, .ref (ad 50)), (1, .int x1), (2, .int x2), (3, .int x3), (4, .int x4)] []) (x1 : Int32) (x2 : Int32) (x3 : Int32) (x4 : Int32) (M : Mem) (h : fX7_wordAt_L34 k3 x1 x2 x3 x4 M = some z) : SW p l e rm_X7_wordAt s m args below meth c 0 0 (QX7_wordAt below D cy ad args s z) 7 (PH D cy ad iY s M) 34 [(0, .ref (ad 50)), (1, .int x1), (2, .int x2), (3, .int x3), (4, .int x4)] [] := by
  have hx := X.1
  have hb := X.2.1
  unfold fX7_wordAt_L34 at h
  refine sw_iconst hx hb 0 dX7_wordAt_34 (by decide) ?_
  refine sw_sub (lv1 := [(0, .ref (ad 50)), (1, .int x1), (2, .int x2), (3, .int x3), (4, .int x4)]) [0, 1, 2, 3, 4] rfl ?_
  exact wX7_wordAt_L35 X hr k3 hk3 x1 x2 x3 x4 0 M h

set_option maxHeartbeats 4000000 in
set_option maxRecDepth 100000 in
theorem wX7_wordAt_H3 (X : CX p s m args meth c D cy ad iY cX7_wordAt 7 (wsG yX7_wordAt cX7_wordAt 7 (some .int)) RX7) (hr : meth.sig.returnType = (some .int)) : ∀ (n : Nat) (x1 : Int32) (x2 : Int32) (x3 : Int32) (x4 : Int32) (M : Mem), fX7_wordAt_H3 n x1 x2 x3 x4 M = some z → SW p l e rm_X7_wordAt s m args below meth c 0 0 (QX7_wordAt below D cy ad args s z) 7 (PH D cy ad iY s M) 3 [(0, .ref (ad 50)), (1, .int x1), (2, .int x2), (3, .int x3), (4, .int x4)] [] := by
  have hx := X.1
  have hb := X.2.1
  intro n
  induction n with
  | zero =>
    intro x1 x2 x3 x4 M h
    have h : (none : Option (Int32 × Mem)) = some z := h
    cases h
  | succ n ih =>
    intro x1 x2 x3 x4 M h
    rw [fX7_wordAt_H3] at h
    refine sw_iload hx hb dX7_wordAt_3 4 rfl ?_
    refine sw_aload_n hx hb dX7_wordAt_5 0 rfl rfl ?_
    refine sw_get X inG7 mi_50 (ce_7 (rfl : kd 50 = 7)) rfl 4 (by decide) (goodW wd485) rfl dX7_wordAt_6 ?_
    refine sw_icmp_ge hx hb 103 dX7_wordAt_9 (by decide) h (fun h => ?_) (fun h => ?_)
    · refine sw_bipush hx hb (-2) dX7_wordAt_103 (by decide) ?_
      exact sw_Iret X hr dX7_wordAt_105 h
    · refine sw_aload_n hx hb dX7_wordAt_12 0 rfl rfl ?_
      refine sw_get X inG7 mi_50 (ce_7 (rfl : kd 50 = 7)) rfl 6 (by decide) (goodW wd486) rfl dX7_wordAt_13 ?_
      refine sw_iload hx hb dX7_wordAt_16 4 rfl ?_
      refine sw_iald X mi_57 (rfl : kd 57 = 9) dX7_wordAt_18 h (fun v_1 h => ?_)
      refine sw_iload_n hx hb dX7_wordAt_19 2 rfl rfl ?_
      refine sw_icmp_ne hx hb 34 dX7_wordAt_20 (by decide) h (fun h => ?_) (fun h => ?_)
      · refine sw_sub (lv1 := [(0, .ref (ad 50)), (1, .int x1), (2, .int x2), (3, .int x3), (4, .int x4)]) [0, 1, 2, 3, 4] rfl ?_
        exact wX7_wordAt_L34 X hr (fX7_wordAt_H3 n) ih x1 x2 x3 x4 M h
      · refine sw_iload_n hx hb dX7_wordAt_23 1 rfl rfl ?_
        refine sw_iload_n hx hb dX7_wordAt_24 2 rfl rfl ?_
        refine sw_iadd hx hb dX7_wordAt_25 ?_
        refine sw_iload_n hx hb dX7_wordAt_26 3 rfl rfl ?_
        refine sw_icmp_gt hx hb 34 dX7_wordAt_27 (by decide) h (fun h => ?_) (fun h => ?_)
        · refine sw_sub (lv1 := [(0, .ref (ad 50)), (1, .int x1), (2, .int x2), (3, .int x3), (4, .int x4)]) [0, 1, 2, 3, 4] rfl ?_
          exact wX7_wordAt_L34 X hr (fX7_wordAt_H3 n) ih x1 x2 x3 x4 M h
        · refine sw_iconst hx hb 1 dX7_wordAt_30 (by decide) ?_
          refine sw_goto hx hb 35 dX7_wordAt_31 (by decide) ?_
          refine sw_sub (lv1 := [(0, .ref (ad 50)), (1, .int x1), (2, .int x2), (3, .int x3), (4, .int x4)]) [0, 1, 2, 3, 4] rfl ?_
          exact wX7_wordAt_L35 X hr (fX7_wordAt_H3 n) ih x1 x2 x3 x4 1 M h

set_option maxHeartbeats 4000000 in
set_option maxRecDepth 100000 in
theorem wX7_wordAt_E (X : CX p s m args meth c D cy ad iY cX7_wordAt 7 (wsG yX7_wordAt cX7_wordAt 7 (some .int)) RX7) (hr : meth.sig.returnType = (some .int)) (x1 : Int32) (x2 : Int32) (x3 : Int32) (M : Mem) (h : fX7_wordAt x1 x2 x3 M = some z) : SW p l e rm_X7_wordAt s m args below meth c 0 0 (QX7_wordAt below D cy ad args s z) 7 (PH D cy ad iY s M) 0 [(0, .ref (ad 50)), (1, .int x1), (2, .int x2), (3, .int x3)] [] := by
  have hx := X.1
  have hb := X.2.1
  unfold fX7_wordAt at h
  refine sw_iconst hx hb 0 dX7_wordAt_0 (by decide) ?_
  refine sw_istore hx hb [(4, .int 0), (0, .ref (ad 50)), (1, .int x1), (2, .int x2), (3, .int x3)] dX7_wordAt_1 (by decide) rfl ?_
  refine sw_sub (lv1 := [(0, .ref (ad 50)), (1, .int x1), (2, .int x2), (3, .int x3), (4, .int 0)]) [1, 2, 3, 4, 0] rfl ?_
  exact wX7_wordAt_H3 X hr FU x1 x2 x3 0 M h

end
theorem okX7_wordAt (l : Launch) {D : va_G} {cy : Nat → ClassId} {ad : Nat → Nat} (hD : ∀ M : Mem, va_D (AA ad iY) (wl cy ad iY M)) (x1 : Int32) (x2 : Int32) (x3 : Int32) (M : Mem) (z : Int32 × Mem) (h : fX7_wordAt x1 x2 x3 M = some z) : CTI l yX7_wordAt (wsG yX7_wordAt cX7_wordAt 7 (some .int)) rm_X7_wordAt D cy ad iY [.ref (ad 50), .int x1, .int x2, .int x3] M z :=
  met_of (cc := cX7_wordAt) (maxL := 7) (ret := (some .int)) (own := RX7) (by decide) rfl rfl hD ndY (Nat.le_of_ble_eq_true rfl) (fun p e s m below meth c X hr => wX7_wordAt_E X hr x1 x2 x3 M h)
