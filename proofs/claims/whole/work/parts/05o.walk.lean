abbrev QX7_ways (below : List Frame) (D : va_G) (cy : Nat → ClassId) (ad : Nat → Nat) (args : Array Value) (s : State) (z : Mem) : State → Prop := MQ below (va_Qv (fun u => u = z) (BB D cy ad iY) (AA ad iY)) args s 0 0 (AA ad iY)
section
variable {p : Program} {l : Launch} {e : Env} {s : State} {m : MethodId} {args : Array Value} {below : List Frame} {meth : Method} {c : Code} {D : va_G} {cy : Nat → ClassId} {ad : Nat → Nat} {z : Mem}
set_option maxHeartbeats 4000000 in
set_option maxRecDepth 100000 in
theorem wX7_ways_L206 (X : CX p s m args meth c D cy ad iY cX7_ways 8 (wsG yX7_ways cX7_ways 8 none) RX7) (hr : meth.sig.returnType = none) (k18 : Int32 → Int32 → Int32 → Mem → Option (Mem)) (k34 : Int32 → Int32 → Int32 → Int32 → Mem → Option (Mem)) (hk18 : ∀ (x1 : Int32) (x2 : Int32) (x3 : Int32) (M : Mem), k18 x1 x2 x3 M = some z → SW p l e rm_X7_ways s m args below meth c 0 0 (QX7_ways below D cy ad args s z) 8 (PH D cy ad iY s M) 18 [(0, .ref (ad 50)), (1, .int x1), (2, .int x2), (3, .int x3)] []) (hk34 : ∀ (x1 : Int32) (x2 : Int32) (x3 : Int32) (x4 : Int32) (M : Mem), k34 x1 x2 x3 x4 M = some z → SW p l e rm_X7_ways s m args below meth c 0 0 (QX7_ways below D cy ad args s z) 8 (PH D cy ad iY s M) 34 [(0, .ref (ad 50)), (1, .int x1), (2, .int x2), (3, .int x3), (4, .int x4)] []) (x1 : Int32) (x2 : Int32) (x3 : Int32) (x4 : Int32) (M : Mem) (h : fX7_ways_L206 k18 k34 x1 x2 x3 x4 M = some z) : SW p l e rm_X7_ways s m args below meth c 0 0 (QX7_ways below D cy ad args s z) 8 (PH D cy ad iY s M) 206 [(0, .ref (ad 50)), (1, .int x1), (2, .int x2), (3, .int x3), (4, .int x4)] [] := by
  have hx := X.1
  have hb := X.2.1
  unfold fX7_ways_L206 at h
  refine sw_iincN hx hb (k := 4) (x4 + (-1)) (fun x4_17 => [(4, .int x4_17), (0, .ref (ad 50)), (1, .int x1), (2, .int x2), (3, .int x3)]) dX7_ways_206 rfl (by rfl) (by decide) (fun _ => rfl) h (fun x4_17 h => ?_)
  refine sw_goto hx hb 34 dX7_ways_209 (by decide) ?_
  refine sw_sub (lv1 := [(0, .ref (ad 50)), (1, .int x1), (2, .int x2), (3, .int x3), (4, .int x4_17)]) [1, 2, 3, 4, 0] rfl ?_
  exact hk34 x1 x2 x3 x4_17 M h

set_option maxHeartbeats 4000000 in
set_option maxRecDepth 100000 in
theorem wX7_ways_L182 (X : CX p s m args meth c D cy ad iY cX7_ways 8 (wsG yX7_ways cX7_ways 8 none) RX7) (hr : meth.sig.returnType = none) (k18 : Int32 → Int32 → Int32 → Mem → Option (Mem)) (k34 : Int32 → Int32 → Int32 → Int32 → Mem → Option (Mem)) (hk18 : ∀ (x1 : Int32) (x2 : Int32) (x3 : Int32) (M : Mem), k18 x1 x2 x3 M = some z → SW p l e rm_X7_ways s m args below meth c 0 0 (QX7_ways below D cy ad args s z) 8 (PH D cy ad iY s M) 18 [(0, .ref (ad 50)), (1, .int x1), (2, .int x2), (3, .int x3)] []) (hk34 : ∀ (x1 : Int32) (x2 : Int32) (x3 : Int32) (x4 : Int32) (M : Mem), k34 x1 x2 x3 x4 M = some z → SW p l e rm_X7_ways s m args below meth c 0 0 (QX7_ways below D cy ad args s z) 8 (PH D cy ad iY s M) 34 [(0, .ref (ad 50)), (1, .int x1), (2, .int x2), (3, .int x3), (4, .int x4)] []) (x1 : Int32) (x2 : Int32) (x3 : Int32) (x4 : Int32) (x6 : Int32) (x7 : Int32) (M : Mem) (h : fX7_ways_L182 k18 k34 x1 x2 x3 x4 x6 x7 M = some z) : SW p l e rm_X7_ways s m args below meth c 0 0 (QX7_ways below D cy ad args s z) 8 (PH D cy ad iY s M) 182 [(0, .ref (ad 50)), (1, .int x1), (2, .int x2), (3, .int x3), (4, .int x4), (6, .int x6), (7, .int x7)] [] := by
  have hx := X.1
  have hb := X.2.1
  unfold fX7_ways_L182 at h
  refine sw_aload_n hx hb dX7_ways_182 0 rfl rfl ?_
  refine sw_get X inG7 mi_50 (ce_7 (rfl : kd 50 = 7)) rfl 39 (by decide) (goodW wd490) rfl dX7_ways_183 ?_
  refine sw_iload_n hx hb dX7_ways_186 3 rfl rfl ?_
  refine sw_iload hx hb dX7_ways_187 5 rfl ?_
  refine sw_iast X mi_90 (rfl : kd 90 = 9) dX7_ways_189 h (fun M_14 h => ?_)
  refine sw_aload_n hx hb dX7_ways_190 0 rfl rfl ?_
  refine sw_get X inG7 mi_50 (ce_7 (rfl : kd 50 = 7)) rfl 40 (by decide) (goodW wd491) rfl dX7_ways_191 ?_
  refine sw_iload_n hx hb dX7_ways_194 3 rfl rfl ?_
  refine sw_iload hx hb dX7_ways_195 6 rfl ?_
  refine sw_iast X mi_91 (rfl : kd 91 = 9) dX7_ways_197 h (fun M_15 h => ?_)
  refine sw_aload_n hx hb dX7_ways_198 0 rfl rfl ?_
  refine sw_get X inG7 mi_50 (ce_7 (rfl : kd 50 = 7)) rfl 41 (by decide) (goodW wd492) rfl dX7_ways_199 ?_
  refine sw_iload_n hx hb dX7_ways_202 3 rfl rfl ?_
  refine sw_iload hx hb dX7_ways_203 4 rfl ?_
  refine sw_iast X mi_92 (rfl : kd 92 = 9) dX7_ways_205 h (fun M_16 h => ?_)
  refine sw_sub (lv1 := [(0, .ref (ad 50)), (1, .int x1), (2, .int x2), (3, .int x3), (4, .int x4)]) [0, 1, 2, 3, 4] rfl ?_
  exact wX7_ways_L206 X hr k18 k34 hk18 hk34 x1 x2 x3 x4 M_16 h

set_option maxHeartbeats 4000000 in
set_option maxRecDepth 100000 in
theorem wX7_ways_L113 (X : CX p s m args meth c D cy ad iY cX7_ways 8 (wsG yX7_ways cX7_ways 8 none) RX7) (hr : meth.sig.returnType = none) (k18 : Int32 → Int32 → Int32 → Mem → Option (Mem)) (k34 : Int32 → Int32 → Int32 → Int32 → Mem → Option (Mem)) (hk18 : ∀ (x1 : Int32) (x2 : Int32) (x3 : Int32) (M : Mem), k18 x1 x2 x3 M = some z → SW p l e rm_X7_ways s m args below meth c 0 0 (QX7_ways below D cy ad args s z) 8 (PH D cy ad iY s M) 18 [(0, .ref (ad 50)), (1, .int x1), (2, .int x2), (3, .int x3)] []) (hk34 : ∀ (x1 : Int32) (x2 : Int32) (x3 : Int32) (x4 : Int32) (M : Mem), k34 x1 x2 x3 x4 M = some z → SW p l e rm_X7_ways s m args below meth c 0 0 (QX7_ways below D cy ad args s z) 8 (PH D cy ad iY s M) 34 [(0, .ref (ad 50)), (1, .int x1), (2, .int x2), (3, .int x3), (4, .int x4)] []) (x1 : Int32) (x2 : Int32) (x3 : Int32) (x4 : Int32) (x6 : Int32) (M : Mem) (h : fX7_ways_L113 k18 k34 x1 x2 x3 x4 x6 M = some z) : SW p l e rm_X7_ways s m args below meth c 0 0 (QX7_ways below D cy ad args s z) 8 (PH D cy ad iY s M) 113 [(0, .ref (ad 50)), (1, .int x1), (2, .int x2), (3, .int x3), (4, .int x4), (6, .int x6)] [] := by
  have hx := X.1
  have hb := X.2.1
  unfold fX7_ways_L113 at h
  refine sw_iload hx hb dX7_ways_113 5 rfl ?_
  refine sw_aload_n hx hb dX7_ways_115 0 rfl rfl ?_
  refine sw_get X inG7 mi_50 (ce_7 (rfl : kd 50 = 7)) rfl 39 (by decide) (goodW wd490) rfl dX7_ways_116 ?_
  refine sw_iload_n hx hb dX7_ways_119 3 rfl rfl ?_
  refine sw_iload hx hb dX7_ways_120 4 rfl ?_
  refine sw_iadd hx hb dX7_ways_122 ?_
  refine sw_iald X mi_90 (rfl : kd 90 = 9) dX7_ways_123 h (fun v_9 h => ?_)
  refine sw_iadd hx hb dX7_ways_124 ?_
  refine sw_istoreN hx hb (fun x6_10 => [(6, .int x6_10), (0, .ref (ad 50)), (1, .int x1), (2, .int x2), (3, .int x3), (4, .int x4)]) dX7_ways_125 (by decide) (fun _ => rfl) h (fun x6_10 h => ?_)
  refine sw_iconst hx hb 1 dX7_ways_127 (by decide) ?_
  refine sw_aload_n hx hb dX7_ways_128 1 rfl rfl ?_
  refine sw_get X inG7 mi_50 (ce_7 (rfl : kd 50 = 7)) rfl 40 (by decide) (goodW wd491) rfl dX7_ways_129 ?_
  refine sw_iload_n hx hb dX7_ways_132 4 rfl rfl ?_
  refine sw_iload hx hb dX7_ways_133 5 rfl ?_
  refine sw_iadd hx hb dX7_ways_135 ?_
  refine sw_iald X mi_91 (rfl : kd 91 = 9) dX7_ways_136 h (fun v_11 h => ?_)
  refine sw_iadd hx hb dX7_ways_137 ?_
  refine sw_istoreN hx hb (fun x7_12 => [(7, .int x7_12), (6, .int x6_10), (0, .ref (ad 50)), (1, .int x1), (2, .int x2), (3, .int x3), (4, .int x4)]) dX7_ways_138 (by decide) (fun _ => rfl) h (fun x7_12 h => ?_)
  refine sw_aload_n hx hb dX7_ways_140 2 rfl rfl ?_
  refine sw_get X inG7 mi_50 (ce_7 (rfl : kd 50 = 7)) rfl 41 (by decide) (goodW wd492) rfl dX7_ways_141 ?_
  refine sw_iload_n hx hb dX7_ways_144 5 rfl rfl ?_
  refine sw_iald X mi_92 (rfl : kd 92 = 9) dX7_ways_145 h (fun v_13 h => ?_)
  refine sw_if_eq hx hb 182 dX7_ways_146 (by decide) h (fun h => ?_) (fun h => ?_)
  · refine sw_sub (lv1 := [(0, .ref (ad 50)), (1, .int x1), (2, .int x2), (3, .int x3), (4, .int x4), (6, .int x6_10), (7, .int x7_12)]) [2, 3, 4, 5, 6, 1, 0] rfl ?_
    exact wX7_ways_L182 X hr k18 k34 hk18 hk34 x1 x2 x3 x4 x6_10 x7_12 M h
  · refine sw_iload hx hb dX7_ways_149 1 rfl ?_
    refine sw_aload_n hx hb dX7_ways_151 2 rfl rfl ?_
    refine sw_get X inG7 mi_50 (ce_7 (rfl : kd 50 = 7)) rfl 39 (by decide) (goodW wd490) rfl dX7_ways_152 ?_
    refine sw_iload_n hx hb dX7_ways_155 5 rfl rfl ?_
    refine sw_iald X mi_90 (rfl : kd 90 = 9) dX7_ways_156 h (fun v_18 h => ?_)
    refine sw_icmp_lt hx hb 182 dX7_ways_157 (by decide) h (fun h => ?_) (fun h => ?_)
    · refine sw_sub (lv1 := [(0, .ref (ad 50)), (1, .int x1), (2, .int x2), (3, .int x3), (4, .int x4), (6, .int x6_10), (7, .int x7_12)]) [2, 3, 4, 5, 6, 1, 0] rfl ?_
      exact wX7_ways_L182 X hr k18 k34 hk18 hk34 x1 x2 x3 x4 x6_10 x7_12 M h
    · refine sw_iload hx hb dX7_ways_160 1 rfl ?_
      refine sw_aload_n hx hb dX7_ways_162 2 rfl rfl ?_
      refine sw_get X inG7 mi_50 (ce_7 (rfl : kd 50 = 7)) rfl 39 (by decide) (goodW wd490) rfl dX7_ways_163 ?_
      refine sw_iload_n hx hb dX7_ways_166 5 rfl rfl ?_
      refine sw_iald X mi_90 (rfl : kd 90 = 9) dX7_ways_167 h (fun v_19 h => ?_)
      refine sw_icmp_ne hx hb 206 dX7_ways_168 (by decide) h (fun h => ?_) (fun h => ?_)
      · refine sw_sub (lv1 := [(0, .ref (ad 50)), (1, .int x1), (2, .int x2), (3, .int x3), (4, .int x4)]) [2, 3, 4, 5, 6] rfl ?_
        exact wX7_ways_L206 X hr k18 k34 hk18 hk34 x1 x2 x3 x4 M h
      · refine sw_iload hx hb dX7_ways_171 0 rfl ?_
        refine sw_aload_n hx hb dX7_ways_173 2 rfl rfl ?_
        refine sw_get X inG7 mi_50 (ce_7 (rfl : kd 50 = 7)) rfl 40 (by decide) (goodW wd491) rfl dX7_ways_174 ?_
        refine sw_iload_n hx hb dX7_ways_177 5 rfl rfl ?_
        refine sw_iald X mi_91 (rfl : kd 91 = 9) dX7_ways_178 h (fun v_20 h => ?_)
        refine sw_icmp_ge hx hb 206 dX7_ways_179 (by decide) h (fun h => ?_) (fun h => ?_)
        · refine sw_sub (lv1 := [(0, .ref (ad 50)), (1, .int x1), (2, .int x2), (3, .int x3), (4, .int x4)]) [2, 3, 4, 5, 6] rfl ?_
          exact wX7_ways_L206 X hr k18 k34 hk18 hk34 x1 x2 x3 x4 M h
        · refine sw_sub (lv1 := [(0, .ref (ad 50)), (1, .int x1), (2, .int x2), (3, .int x3), (4, .int x4), (6, .int x6_10), (7, .int x7_12)]) [2, 3, 4, 5, 6, 1, 0] rfl ?_
          exact wX7_ways_L182 X hr k18 k34 hk18 hk34 x1 x2 x3 x4 x6_10 x7_12 M h

set_option maxHeartbeats 4000000 in
set_option maxRecDepth 100000 in
theorem wX7_ways_L98 (X : CX p s m args meth c D cy ad iY cX7_ways 8 (wsG yX7_ways cX7_ways 8 none) RX7) (hr : meth.sig.returnType = none) (k18 : Int32 → Int32 → Int32 → Mem → Option (Mem)) (k34 : Int32 → Int32 → Int32 → Int32 → Mem → Option (Mem)) (hk18 : ∀ (x1 : Int32) (x2 : Int32) (x3 : Int32) (M : Mem), k18 x1 x2 x3 M = some z → SW p l e rm_X7_ways s m args below meth c 0 0 (QX7_ways below D cy ad args s z) 8 (PH D cy ad iY s M) 18 [(0, .ref (ad 50)), (1, .int x1), (2, .int x2), (3, .int x3)] []) (hk34 : ∀ (x1 : Int32) (x2 : Int32) (x3 : Int32) (x4 : Int32) (M : Mem), k34 x1 x2 x3 x4 M = some z → SW p l e rm_X7_ways s m args below meth c 0 0 (QX7_ways below D cy ad args s z) 8 (PH D cy ad iY s M) 34 [(0, .ref (ad 50)), (1, .int x1), (2, .int x2), (3, .int x3), (4, .int x4)] []) (x1 : Int32) (x2 : Int32) (x3 : Int32) (x4 : Int32) (x5 : Int32) (y0 : Int32) (M : Mem) (h : fX7_ways_L98 k18 k34 x1 x2 x3 x4 x5 y0 M = some z) : SW p l e rm_X7_ways s m args below meth c 0 0 (QX7_ways below D cy ad args s z) 8 (PH D cy ad iY s M) 98 [(0, .ref (ad 50)), (1, .int x1), (2, .int x2), (3, .int x3), (4, .int x4), (5, .int x5)] [.int y0] := by
  have hx := X.1
  have hb := X.2.1
  unfold fX7_ways_L98 at h
  refine sw_istore hx hb [(6, .int y0), (0, .ref (ad 50)), (1, .int x1), (2, .int x2), (3, .int x3), (4, .int x4), (5, .int x5)] dX7_ways_98 (by decide) rfl ?_
  refine sw_iload hx hb dX7_ways_100 6 rfl ?_
  refine sw_bipush hx hb (-2) dX7_ways_102 (by decide) ?_
  refine sw_icmp_ne hx hb 113 dX7_ways_104 (by decide) h (fun h => ?_) (fun h => ?_)
  · refine sw_sub (lv1 := [(0, .ref (ad 50)), (1, .int x1), (2, .int x2), (3, .int x3), (4, .int x4), (6, .int y0)]) [1, 2, 3, 4, 5, 0] rfl ?_
    exact wX7_ways_L113 X hr k18 k34 hk18 hk34 x1 x2 x3 x4 y0 M h
  · refine sw_iload hx hb dX7_ways_107 5 rfl ?_
    refine sw_iconst hx hb 1 dX7_ways_109 (by decide) ?_
    refine sw_icmp_ne hx hb 206 dX7_ways_110 (by decide) h (fun h => ?_) (fun h => ?_)
    · refine sw_sub (lv1 := [(0, .ref (ad 50)), (1, .int x1), (2, .int x2), (3, .int x3), (4, .int x4)]) [1, 2, 3, 4, 5] rfl ?_
      exact wX7_ways_L206 X hr k18 k34 hk18 hk34 x1 x2 x3 x4 M h
    · refine sw_sub (lv1 := [(0, .ref (ad 50)), (1, .int x1), (2, .int x2), (3, .int x3), (4, .int x4), (6, .int y0)]) [1, 2, 3, 4, 5, 0] rfl ?_
      exact wX7_ways_L113 X hr k18 k34 hk18 hk34 x1 x2 x3 x4 y0 M h

set_option maxHeartbeats 4000000 in
set_option maxRecDepth 100000 in
theorem wX7_ways_L84 (X : CX p s m args meth c D cy ad iY cX7_ways 8 (wsG yX7_ways cX7_ways 8 none) RX7) (hr : meth.sig.returnType = none) (k18 : Int32 → Int32 → Int32 → Mem → Option (Mem)) (k34 : Int32 → Int32 → Int32 → Int32 → Mem → Option (Mem)) (hk18 : ∀ (x1 : Int32) (x2 : Int32) (x3 : Int32) (M : Mem), k18 x1 x2 x3 M = some z → SW p l e rm_X7_ways s m args below meth c 0 0 (QX7_ways below D cy ad args s z) 8 (PH D cy ad iY s M) 18 [(0, .ref (ad 50)), (1, .int x1), (2, .int x2), (3, .int x3)] []) (hk34 : ∀ (x1 : Int32) (x2 : Int32) (x3 : Int32) (x4 : Int32) (M : Mem), k34 x1 x2 x3 x4 M = some z → SW p l e rm_X7_ways s m args below meth c 0 0 (QX7_ways below D cy ad args s z) 8 (PH D cy ad iY s M) 34 [(0, .ref (ad 50)), (1, .int x1), (2, .int x2), (3, .int x3), (4, .int x4)] []) (x1 : Int32) (x2 : Int32) (x3 : Int32) (x4 : Int32) (x5 : Int32) (M : Mem) (h : fX7_ways_L84 k18 k34 x1 x2 x3 x4 x5 M = some z) : SW p l e rm_X7_ways s m args below meth c 0 0 (QX7_ways below D cy ad args s z) 8 (PH D cy ad iY s M) 84 [(0, .ref (ad 50)), (1, .int x1), (2, .int x2), (3, .int x3), (4, .int x4), (5, .int x5)] [] := by
  have hx := X.1
  have hb := X.2.1
  unfold fX7_ways_L84 at h
  refine sw_aload_n hx hb dX7_ways_84 0 rfl rfl ?_
  refine sw_get X inG7 mi_50 (ce_7 (rfl : kd 50 = 7)) rfl 7 (by decide) (goodW wd487) rfl dX7_ways_85 ?_
  refine sw_iload hx hb dX7_ways_88 5 rfl ?_
  refine sw_iald X mi_58 (rfl : kd 58 = 9) dX7_ways_90 h (fun v_8 h => ?_)
  refine sw_goto hx hb 98 dX7_ways_91 (by decide) ?_
  refine sw_sub (lv1 := [(0, .ref (ad 50)), (1, .int x1), (2, .int x2), (3, .int x3), (4, .int x4), (5, .int x5)]) [0, 1, 2, 3, 4, 5] rfl ?_
  exact wX7_ways_L98 X hr k18 k34 hk18 hk34 x1 x2 x3 x4 x5 v_8 M h

set_option maxHeartbeats 4000000 in
set_option maxRecDepth 100000 in
theorem wX7_ways_H34 (X : CX p s m args meth c D cy ad iY cX7_ways 8 (wsG yX7_ways cX7_ways 8 none) RX7) (hr : meth.sig.returnType = none) (k18 : Int32 → Int32 → Int32 → Mem → Option (Mem)) (hk18 : ∀ (x1 : Int32) (x2 : Int32) (x3 : Int32) (M : Mem), k18 x1 x2 x3 M = some z → SW p l e rm_X7_ways s m args below meth c 0 0 (QX7_ways below D cy ad args s z) 8 (PH D cy ad iY s M) 18 [(0, .ref (ad 50)), (1, .int x1), (2, .int x2), (3, .int x3)] []) : ∀ (n : Nat) (x1 : Int32) (x2 : Int32) (x3 : Int32) (x4 : Int32) (M : Mem), fX7_ways_H34 k18 n x1 x2 x3 x4 M = some z → SW p l e rm_X7_ways s m args below meth c 0 0 (QX7_ways below D cy ad args s z) 8 (PH D cy ad iY s M) 34 [(0, .ref (ad 50)), (1, .int x1), (2, .int x2), (3, .int x3), (4, .int x4)] [] := by
  have hx := X.1
  have hb := X.2.1
  intro n
  induction n with
  | zero =>
    intro x1 x2 x3 x4 M h
    have h : (none : Option (Mem)) = some z := h
    cases h
  | succ n ih =>
    intro x1 x2 x3 x4 M h
    rw [fX7_ways_H34] at h
    refine sw_iload hx hb dX7_ways_34 4 rfl ?_
    refine sw_iconst hx hb 1 dX7_ways_36 (by decide) ?_
    refine sw_icmp_lt hx hb 212 dX7_ways_37 (by decide) h (fun h => ?_) (fun h => ?_)
    · refine sw_iincN hx hb (k := 3) (x3 + (-1)) (fun x3_5 => [(3, .int x3_5), (0, .ref (ad 50)), (1, .int x1), (2, .int x2), (4, .int x4)]) dX7_ways_212 rfl (by rfl) (by decide) (fun _ => rfl) h (fun x3_5 h => ?_)
      refine sw_goto hx hb 18 dX7_ways_215 (by decide) ?_
      refine sw_sub (lv1 := [(0, .ref (ad 50)), (1, .int x1), (2, .int x2), (3, .int x3_5)]) [1, 2, 3, 0] rfl ?_
      exact hk18 x1 x2 x3_5 M h
    · refine sw_aload_n hx hb dX7_ways_40 0 rfl rfl ?_
      refine sw_iload_n hx hb dX7_ways_41 3 rfl rfl ?_
      refine sw_iload hx hb dX7_ways_42 4 rfl ?_
      refine sw_iload_n hx hb dX7_ways_44 2 rfl rfl ?_
      refine sw_callVI (C := RX7) (As := [.int x3, .int x4, .int x2]) (rest := []) X mi_50 (ce_7 (rfl : kd 50 = 7)) rfl rfl (fun _ hz => okX7_wordAt l X.2.2.2.2.2.2.1 x3 x4 x2 M _ hz) (cwX7_192 X.2.2.2.2.1 ⟨Nat.le_of_ble_eq_true rfl, Nat.le_of_ble_eq_true rfl⟩)  rfl rfl (Nat.le_of_ble_eq_true rfl) dX7_ways_45 ⟨Nat.le_of_ble_eq_true rfl, Nat.le_of_ble_eq_true rfl⟩ h (fun v_7 M_6 _ h => ?_)
      refine sw_istore hx hb [(5, .int v_7), (0, .ref (ad 50)), (1, .int x1), (2, .int x2), (3, .int x3), (4, .int x4)] dX7_ways_48 (by decide) rfl ?_
      refine sw_iload hx hb dX7_ways_50 0 rfl ?_
      refine sw_bipush hx hb (-2) dX7_ways_52 (by decide) ?_
      refine sw_icmp_ne hx hb 64 dX7_ways_54 (by decide) h (fun h => ?_) (fun h => ?_)
      · refine sw_iload hx hb dX7_ways_64 5 rfl ?_
        refine sw_iconst hx hb 1 dX7_ways_66 (by decide) ?_
        refine sw_icmp_gt hx hb 84 dX7_ways_67 (by decide) h (fun h => ?_) (fun h => ?_)
        · refine sw_sub (lv1 := [(0, .ref (ad 50)), (1, .int x1), (2, .int x2), (3, .int x3), (4, .int x4), (5, .int v_7)]) [1, 2, 3, 4, 5, 0] rfl ?_
          exact wX7_ways_L84 X hr k18 (fX7_ways_H34 k18 n) hk18 ih x1 x2 x3 x4 v_7 M_6 h
        · refine sw_aload_n hx hb dX7_ways_70 1 rfl rfl ?_
          refine sw_get X inG7 mi_50 (ce_7 (rfl : kd 50 = 7)) rfl 7 (by decide) (goodW wd487) rfl dX7_ways_71 ?_
          refine sw_iload hx hb dX7_ways_74 0 rfl ?_
          refine sw_iald X mi_58 (rfl : kd 58 = 9) dX7_ways_76 h (fun v_21 h => ?_)
          refine sw_aload_n hx hb dX7_ways_77 1 rfl rfl ?_
          refine sw_get X inG7 mi_50 (ce_7 (rfl : kd 50 = 7)) rfl 8 (by decide) (goodW wd489) rfl dX7_ways_78 ?_
          refine sw_icmp_ge hx hb 94 dX7_ways_81 (by decide) h (fun h => ?_) (fun h => ?_)
          · refine sw_aload_n hx hb dX7_ways_94 1 rfl rfl ?_
            refine sw_get X inG7 mi_50 (ce_7 (rfl : kd 50 = 7)) rfl 8 (by decide) (goodW wd489) rfl dX7_ways_95 ?_
            refine sw_sub (lv1 := [(0, .ref (ad 50)), (1, .int x1), (2, .int x2), (3, .int x3), (4, .int x4), (5, .int v_7)]) [1, 2, 3, 4, 5, 0] rfl ?_
            exact wX7_ways_L98 X hr k18 (fX7_ways_H34 k18 n) hk18 ih x1 x2 x3 x4 v_7 (gI M_6 50 8) M_6 h
          · refine sw_sub (lv1 := [(0, .ref (ad 50)), (1, .int x1), (2, .int x2), (3, .int x3), (4, .int x4), (5, .int v_7)]) [1, 2, 3, 4, 5, 0] rfl ?_
            exact wX7_ways_L84 X hr k18 (fX7_ways_H34 k18 n) hk18 ih x1 x2 x3 x4 v_7 M_6 h
      · refine sw_aload_n hx hb dX7_ways_57 1 rfl rfl ?_
        refine sw_get X inG7 mi_50 (ce_7 (rfl : kd 50 = 7)) rfl 8 (by decide) (goodW wd489) rfl dX7_ways_58 ?_
        refine sw_goto hx hb 98 dX7_ways_61 (by decide) ?_
        refine sw_sub (lv1 := [(0, .ref (ad 50)), (1, .int x1), (2, .int x2), (3, .int x3), (4, .int x4), (5, .int v_7)]) [1, 2, 3, 4, 5, 0] rfl ?_
        exact wX7_ways_L98 X hr k18 (fX7_ways_H34 k18 n) hk18 ih x1 x2 x3 x4 v_7 (gI M_6 50 8) M_6 h

set_option maxHeartbeats 4000000 in
set_option maxRecDepth 100000 in
theorem wX7_ways_H18 (X : CX p s m args meth c D cy ad iY cX7_ways 8 (wsG yX7_ways cX7_ways 8 none) RX7) (hr : meth.sig.returnType = none) : ∀ (n : Nat) (x1 : Int32) (x2 : Int32) (x3 : Int32) (M : Mem), fX7_ways_H18 n x1 x2 x3 M = some z → SW p l e rm_X7_ways s m args below meth c 0 0 (QX7_ways below D cy ad args s z) 8 (PH D cy ad iY s M) 18 [(0, .ref (ad 50)), (1, .int x1), (2, .int x2), (3, .int x3)] [] := by
  have hx := X.1
  have hb := X.2.1
  intro n
  induction n with
  | zero =>
    intro x1 x2 x3 M h
    have h : (none : Option (Mem)) = some z := h
    cases h
  | succ n ih =>
    intro x1 x2 x3 M h
    rw [fX7_ways_H18] at h
    refine sw_iload_n hx hb dX7_ways_18 3 rfl rfl ?_
    refine sw_iload_n hx hb dX7_ways_19 1 rfl rfl ?_
    refine sw_icmp_lt hx hb 218 dX7_ways_20 (by decide) h (fun h => ?_) (fun h => ?_)
    · exact sw_Vret X hr dX7_ways_218 h
    · refine sw_aload_n hx hb dX7_ways_23 0 rfl rfl ?_
      refine sw_get X inG7 mi_50 (ce_7 (rfl : kd 50 = 7)) rfl 41 (by decide) (goodW wd492) rfl dX7_ways_24 ?_
      refine sw_iload_n hx hb dX7_ways_27 3 rfl rfl ?_
      refine sw_iconst hx hb 0 dX7_ways_28 (by decide) ?_
      refine sw_iast X mi_92 (rfl : kd 92 = 9) dX7_ways_29 h (fun M_4 h => ?_)
      refine sw_bipush hx hb 12 dX7_ways_30 (by decide) ?_
      refine sw_istore hx hb [(4, .int 12), (0, .ref (ad 50)), (1, .int x1), (2, .int x2), (3, .int x3)] dX7_ways_32 (by decide) rfl ?_
      refine sw_sub (lv1 := [(0, .ref (ad 50)), (1, .int x1), (2, .int x2), (3, .int x3), (4, .int 12)]) [1, 2, 3, 4, 0] rfl ?_
      exact wX7_ways_H34 X hr (fX7_ways_H18 n) ih FU x1 x2 x3 12 M_4 h

set_option maxHeartbeats 4000000 in
set_option maxRecDepth 100000 in
theorem wX7_ways_E (X : CX p s m args meth c D cy ad iY cX7_ways 8 (wsG yX7_ways cX7_ways 8 none) RX7) (hr : meth.sig.returnType = none) (x1 : Int32) (x2 : Int32) (M : Mem) (h : fX7_ways x1 x2 M = some z) : SW p l e rm_X7_ways s m args below meth c 0 0 (QX7_ways below D cy ad args s z) 8 (PH D cy ad iY s M) 0 [(0, .ref (ad 50)), (1, .int x1), (2, .int x2)] [] := by
  have hx := X.1
  have hb := X.2.1
  unfold fX7_ways at h
  refine sw_aload_n hx hb dX7_ways_0 0 rfl rfl ?_
  refine sw_get X inG7 mi_50 (ce_7 (rfl : kd 50 = 7)) rfl 39 (by decide) (goodW wd490) rfl dX7_ways_1 ?_
  refine sw_iload_n hx hb dX7_ways_4 2 rfl rfl ?_
  refine sw_iconst hx hb 0 dX7_ways_5 (by decide) ?_
  refine sw_iast X mi_90 (rfl : kd 90 = 9) dX7_ways_6 h (fun M_1 h => ?_)
  refine sw_aload_n hx hb dX7_ways_7 0 rfl rfl ?_
  refine sw_get X inG7 mi_50 (ce_7 (rfl : kd 50 = 7)) rfl 40 (by decide) (goodW wd491) rfl dX7_ways_8 ?_
  refine sw_iload_n hx hb dX7_ways_11 2 rfl rfl ?_
  refine sw_iconst hx hb 0 dX7_ways_12 (by decide) ?_
  refine sw_iast X mi_91 (rfl : kd 91 = 9) dX7_ways_13 h (fun M_2 h => ?_)
  refine sw_iload_n hx hb dX7_ways_14 2 rfl rfl ?_
  refine sw_iconst hx hb 1 dX7_ways_15 (by decide) ?_
  refine sw_isub hx hb dX7_ways_16 ?_
  refine sw_istore_nN hx hb (fun x3_3 => [(3, .int x3_3), (0, .ref (ad 50)), (1, .int x1), (2, .int x2)]) dX7_ways_17 rfl (by decide) (fun _ => rfl) h (fun x3_3 h => ?_)
  refine sw_sub (lv1 := [(0, .ref (ad 50)), (1, .int x1), (2, .int x2), (3, .int x3_3)]) [1, 2, 3, 0] rfl ?_
  exact wX7_ways_H18 X hr FU x1 x2 x3_3 M_2 h

end
theorem okX7_ways (l : Launch) {D : va_G} {cy : Nat → ClassId} {ad : Nat → Nat} (hD : ∀ M : Mem, va_D (AA ad iY) (wl cy ad iY M)) (x1 : Int32) (x2 : Int32) (M : Mem) (z : Mem) (h : fX7_ways x1 x2 M = some z) : CTV l yX7_ways (wsG yX7_ways cX7_ways 8 none) rm_X7_ways D cy ad iY [.ref (ad 50), .int x1, .int x2] M z :=
  met_of (cc := cX7_ways) (maxL := 8) (ret := none) (own := RX7) (by decide) rfl rfl hD ndY (Nat.le_of_ble_eq_true rfl) (fun p e s m below meth c X hr => wX7_ways_E X hr x1 x2 M h)
abbrev QX7_isSolid (below : List Frame) (D : va_G) (cy : Nat → ClassId) (ad : Nat → Nat) (args : Array Value) (s : State) (z : Int32 × Mem) : State → Prop := MQ below (va_Qi (fun r u => r = z.1 ∧ u = z.2) (BB D cy ad iY) (AA ad iY)) args s 0 0 (AA ad iY)
section
variable {p : Program} {l : Launch} {e : Env} {s : State} {m : MethodId} {args : Array Value} {below : List Frame} {meth : Method} {c : Code} {D : va_G} {cy : Nat → ClassId} {ad : Nat → Nat} {z : Int32 × Mem}
set_option maxHeartbeats 4000000 in
set_option maxRecDepth 100000 in
theorem wX7_isSolid_E (X : CX p s m args meth c D cy ad iY cX7_isSolid 2 (wsG yX7_isSolid cX7_isSolid 2 (some .boolean)) RX7) (hr : meth.sig.returnType = (some .boolean)) (x1 : Int32) (M : Mem) (h : fX7_isSolid x1 M = some z) : SW p l e rm_X7_isSolid s m args below meth c 0 0 (QX7_isSolid below D cy ad args s z) 2 (PH D cy ad iY s M) 0 [(0, .ref (ad 50)), (1, .int x1)] [] := by
  have hx := X.1
  have hb := X.2.1
  unfold fX7_isSolid at h
  refine sw_iload_n hx hb dX7_isSolid_0 1 rfl rfl ?_
  refine sw_iconst hx hb 0 dX7_isSolid_1 (by decide) ?_
  refine sw_aload_n hx hb dX7_isSolid_2 0 rfl rfl ?_
  refine sw_get X inG7 mi_50 (ce_7 (rfl : kd 50 = 7)) rfl 3 (by decide) (goodW wd407) rfl dX7_isSolid_3 ?_
  refine sw_iconst hx hb 1 dX7_isSolid_6 (by decide) ?_
  refine sw_isub hx hb dX7_isSolid_7 ?_
  refine sw_callSI (As := [.int x1, .int 0, .int ((gI M 50 3) - 1)]) (rest := []) X (fun _ hz => okX7_isIn l X.2.2.2.2.2.2.1 x1 0 ((gI M 50 3) - 1) M _ hz) (cwX7_85 X.2.2.2.2.1 ⟨Nat.le_of_ble_eq_true rfl, Nat.le_of_ble_eq_true rfl⟩)  rfl rfl (Nat.le_of_ble_eq_true rfl) dX7_isSolid_8 ⟨Nat.le_of_ble_eq_true rfl, Nat.le_of_ble_eq_true rfl⟩ h (fun v_2 M_1 _ h => ?_)
  refine sw_if_eq hx hb 30 dX7_isSolid_11 (by decide) h (fun h => ?_) (fun h => ?_)
  · refine sw_iconst hx hb 0 dX7_isSolid_30 (by decide) ?_
    exact sw_Zret X hr dX7_isSolid_31 h
  · refine sw_aload_n hx hb dX7_isSolid_14 0 rfl rfl ?_
    refine sw_get X inG7 mi_50 (ce_7 (rfl : kd 50 = 7)) rfl 2 (by decide) (goodW wd409) rfl dX7_isSolid_15 ?_
    refine sw_iload_n hx hb dX7_isSolid_18 1 rfl rfl ?_
    refine sw_iald X mi_53 (rfl : kd 53 = 9) dX7_isSolid_19 h (fun v_3 h => ?_)
    refine sw_callSI (As := [.int v_3]) (rest := []) X (fun _ hz => okX7_isBlank l X.2.2.2.2.2.2.1 v_3 M_1 _ hz) (cwX7_96 X.2.2.2.2.1 ⟨Nat.le_of_ble_eq_true rfl, Nat.le_of_ble_eq_true rfl⟩)  rfl rfl (Nat.le_of_ble_eq_true rfl) dX7_isSolid_20 ⟨Nat.le_of_ble_eq_true rfl, Nat.le_of_ble_eq_true rfl⟩ h (fun v_5 M_4 _ h => ?_)
    refine sw_if_ne hx hb 30 dX7_isSolid_23 (by decide) h (fun h => ?_) (fun h => ?_)
    · refine sw_iconst hx hb 0 dX7_isSolid_30 (by decide) ?_
      exact sw_Zret X hr dX7_isSolid_31 h
    · refine sw_iconst hx hb 1 dX7_isSolid_26 (by decide) ?_
      refine sw_goto hx hb 31 dX7_isSolid_27 (by decide) ?_
      exact sw_Zret X hr dX7_isSolid_31 h

end
theorem okX7_isSolid (l : Launch) {D : va_G} {cy : Nat → ClassId} {ad : Nat → Nat} (hD : ∀ M : Mem, va_D (AA ad iY) (wl cy ad iY M)) (x1 : Int32) (M : Mem) (z : Int32 × Mem) (h : fX7_isSolid x1 M = some z) : CTI l yX7_isSolid (wsG yX7_isSolid cX7_isSolid 2 (some .boolean)) rm_X7_isSolid D cy ad iY [.ref (ad 50), .int x1] M z :=
  met_of (cc := cX7_isSolid) (maxL := 2) (ret := (some .boolean)) (own := RX7) (by decide) rfl rfl hD ndY (Nat.le_of_ble_eq_true rfl) (fun p e s m below meth c X hr => wX7_isSolid_E X hr x1 M h)
abbrev QX7_cost (below : List Frame) (D : va_G) (cy : Nat → ClassId) (ad : Nat → Nat) (args : Array Value) (s : State) (z : Int32 × Mem) : State → Prop := MQ below (va_Qi (fun r u => r = z.1 ∧ u = z.2) (BB D cy ad iY) (AA ad iY)) args s 0 0 (AA ad iY)
section
variable {p : Program} {l : Launch} {e : Env} {s : State} {m : MethodId} {args : Array Value} {below : List Frame} {meth : Method} {c : Code} {D : va_G} {cy : Nat → ClassId} {ad : Nat → Nat} {z : Int32 × Mem}
set_option maxHeartbeats 4000000 in
set_option maxRecDepth 100000 in
theorem wX7_cost_H51 (X : CX p s m args meth c D cy ad iY cX7_cost 4 (wsG yX7_cost cX7_cost 4 (some .int)) RX7) (hr : meth.sig.returnType = (some .int)) : ∀ (n : Nat) (x2 : Int32) (x3 : Int32) (M : Mem), fX7_cost_H51 n x2 x3 M = some z → SW p l e rm_X7_cost s m args below meth c 0 0 (QX7_cost below D cy ad args s z) 4 (PH D cy ad iY s M) 51 [(0, .ref (ad 50)), (2, .int x2), (3, .int x3)] [] := by
  have hx := X.1
  have hb := X.2.1
  intro n
  induction n with
  | zero =>
    intro x2 x3 M h
    have h : (none : Option (Int32 × Mem)) = some z := h
    cases h
  | succ n ih =>
    intro x2 x3 M h
    rw [fX7_cost_H51] at h
    refine sw_aload_n hx hb dX7_cost_51 0 rfl rfl ?_
    refine sw_iload_n hx hb dX7_cost_52 2 rfl rfl ?_
    refine sw_callVI (C := RX7) (As := [.int x3]) (rest := []) X mi_50 (ce_7 (rfl : kd 50 = 7)) rfl rfl (fun _ hz => okX7_isSolid l X.2.2.2.2.2.2.1 x3 M _ hz) (cwX7_196 X.2.2.2.2.1 ⟨Nat.le_of_ble_eq_true rfl, Nat.le_of_ble_eq_true rfl⟩)  rfl rfl (Nat.le_of_ble_eq_true rfl) dX7_cost_53 ⟨Nat.le_of_ble_eq_true rfl, Nat.le_of_ble_eq_true rfl⟩ h (fun v_9 M_8 _ h => ?_)
    refine sw_if_eq hx hb 65 dX7_cost_56 (by decide) h (fun h => ?_) (fun h => ?_)
    · refine sw_aload_n hx hb dX7_cost_65 0 rfl rfl ?_
      refine sw_iload_n hx hb dX7_cost_66 1 rfl rfl ?_
      refine sw_iload_n hx hb dX7_cost_67 2 rfl rfl ?_
      refine sw_callVV (C := RX7) (As := [.int x2, .int x3]) (rest := []) X mi_50 (ce_7 (rfl : kd 50 = 7)) rfl rfl (fun _ hz => okX7_ways l X.2.2.2.2.2.2.1 x2 x3 M_8 _ hz) (cwX7_199 X.2.2.2.2.1 ⟨Nat.le_of_ble_eq_true rfl, Nat.le_of_ble_eq_true rfl⟩)  rfl rfl (Nat.le_of_ble_eq_true rfl) dX7_cost_68 ⟨Nat.le_of_ble_eq_true rfl, Nat.le_of_ble_eq_true rfl⟩ h (fun M_10 _ h => ?_)
      refine sw_aload_n hx hb dX7_cost_71 0 rfl rfl ?_
      refine sw_get X inG7 mi_50 (ce_7 (rfl : kd 50 = 7)) rfl 39 (by decide) (goodW wd490) rfl dX7_cost_72 ?_
      refine sw_iload_n hx hb dX7_cost_75 1 rfl rfl ?_
      refine sw_iald X mi_90 (rfl : kd 90 = 9) dX7_cost_76 h (fun v_12 h => ?_)
      exact sw_Iret X hr dX7_cost_77 h
    · refine sw_iincN hx hb (k := 2) (x3 + 1) (fun x3_13 => [(3, .int x3_13), (0, .ref (ad 50)), (2, .int x2)]) dX7_cost_59 rfl (by rfl) (by decide) (fun _ => rfl) h (fun x3_13 h => ?_)
      refine sw_goto hx hb 51 dX7_cost_62 (by decide) ?_
      refine sw_sub (lv1 := [(0, .ref (ad 50)), (2, .int x2), (3, .int x3_13)]) [1, 2, 0] rfl ?_
      exact ih x2 x3_13 M_8 h

set_option maxHeartbeats 4000000 in
set_option maxRecDepth 100000 in
theorem wX7_cost_H33 (X : CX p s m args meth c D cy ad iY cX7_cost 4 (wsG yX7_cost cX7_cost 4 (some .int)) RX7) (hr : meth.sig.returnType = (some .int)) : ∀ (n : Nat) (x1 : Int32) (x2 : Int32) (M : Mem), fX7_cost_H33 n x1 x2 M = some z → SW p l e rm_X7_cost s m args below meth c 0 0 (QX7_cost below D cy ad args s z) 4 (PH D cy ad iY s M) 33 [(0, .ref (ad 50)), (1, .int x1), (2, .int x2)] [] := by
  have hx := X.1
  have hb := X.2.1
  intro n
  induction n with
  | zero =>
    intro x1 x2 M h
    have h : (none : Option (Int32 × Mem)) = some z := h
    cases h
  | succ n ih =>
    intro x1 x2 M h
    rw [fX7_cost_H33] at h
    refine sw_aload_n hx hb dX7_cost_33 0 rfl rfl ?_
    refine sw_iload_n hx hb dX7_cost_34 2 rfl rfl ?_
    refine sw_iconst hx hb 1 dX7_cost_35 (by decide) ?_
    refine sw_isub hx hb dX7_cost_36 ?_
    refine sw_callVI (C := RX7) (As := [.int (x2 - 1)]) (rest := []) X mi_50 (ce_7 (rfl : kd 50 = 7)) rfl rfl (fun _ hz => okX7_isSolid l X.2.2.2.2.2.2.1 (x2 - 1) M _ hz) (cwX7_196 X.2.2.2.2.1 ⟨Nat.le_of_ble_eq_true rfl, Nat.le_of_ble_eq_true rfl⟩)  rfl rfl (Nat.le_of_ble_eq_true rfl) dX7_cost_37 ⟨Nat.le_of_ble_eq_true rfl, Nat.le_of_ble_eq_true rfl⟩ h (fun v_7 M_6 _ h => ?_)
    refine sw_if_eq hx hb 49 dX7_cost_40 (by decide) h (fun h => ?_) (fun h => ?_)
    · refine sw_iload_n hx hb dX7_cost_49 1 rfl rfl ?_
      refine sw_istore_n hx hb [(3, .int x1), (0, .ref (ad 50)), (1, .int x1), (2, .int x2)] dX7_cost_50 rfl (by decide) rfl ?_
      refine sw_sub (lv1 := [(0, .ref (ad 50)), (2, .int x2), (3, .int x1)]) [1, 3, 0] rfl ?_
      exact wX7_cost_H51 X hr FU x2 x1 M_6 h
    · refine sw_iincN hx hb (k := 2) (x2 + (-1)) (fun x2_14 => [(2, .int x2_14), (0, .ref (ad 50)), (1, .int x1)]) dX7_cost_43 rfl (by rfl) (by decide) (fun _ => rfl) h (fun x2_14 h => ?_)
      refine sw_goto hx hb 33 dX7_cost_46 (by decide) ?_
      refine sw_sub (lv1 := [(0, .ref (ad 50)), (1, .int x1), (2, .int x2_14)]) [1, 2, 0] rfl ?_
      exact ih x1 x2_14 M_6 h

set_option maxHeartbeats 4000000 in
set_option maxRecDepth 100000 in
theorem wX7_cost_E (X : CX p s m args meth c D cy ad iY cX7_cost 4 (wsG yX7_cost cX7_cost 4 (some .int)) RX7) (hr : meth.sig.returnType = (some .int)) (x1 : Int32) (M : Mem) (h : fX7_cost x1 M = some z) : SW p l e rm_X7_cost s m args below meth c 0 0 (QX7_cost below D cy ad args s z) 4 (PH D cy ad iY s M) 0 [(0, .ref (ad 50)), (1, .int x1)] [] := by
  have hx := X.1
  have hb := X.2.1
  unfold fX7_cost at h
  refine sw_iload_n hx hb dX7_cost_0 1 rfl rfl ?_
  refine sw_iconst hx hb 0 dX7_cost_1 (by decide) ?_
  refine sw_aload_n hx hb dX7_cost_2 0 rfl rfl ?_
  refine sw_get X inG7 mi_50 (ce_7 (rfl : kd 50 = 7)) rfl 3 (by decide) (goodW wd407) rfl dX7_cost_3 ?_
  refine sw_iconst hx hb 1 dX7_cost_6 (by decide) ?_
  refine sw_isub hx hb dX7_cost_7 ?_
  refine sw_callSI (As := [.int x1, .int 0, .int ((gI M 50 3) - 1)]) (rest := []) X (fun _ hz => okX7_isIn l X.2.2.2.2.2.2.1 x1 0 ((gI M 50 3) - 1) M _ hz) (cwX7_85 X.2.2.2.2.1 ⟨Nat.le_of_ble_eq_true rfl, Nat.le_of_ble_eq_true rfl⟩)  rfl rfl (Nat.le_of_ble_eq_true rfl) dX7_cost_8 ⟨Nat.le_of_ble_eq_true rfl, Nat.le_of_ble_eq_true rfl⟩ h (fun v_2 M_1 _ h => ?_)
  refine sw_if_ne hx hb 16 dX7_cost_11 (by decide) h (fun h => ?_) (fun h => ?_)
  · refine sw_aload_n hx hb dX7_cost_16 0 rfl rfl ?_
    refine sw_get X inG7 mi_50 (ce_7 (rfl : kd 50 = 7)) rfl 2 (by decide) (goodW wd409) rfl dX7_cost_17 ?_
    refine sw_iload_n hx hb dX7_cost_20 1 rfl rfl ?_
    refine sw_iald X mi_53 (rfl : kd 53 = 9) dX7_cost_21 h (fun v_3 h => ?_)
    refine sw_callSI (As := [.int v_3]) (rest := []) X (fun _ hz => okX7_isBlank l X.2.2.2.2.2.2.1 v_3 M_1 _ hz) (cwX7_96 X.2.2.2.2.1 ⟨Nat.le_of_ble_eq_true rfl, Nat.le_of_ble_eq_true rfl⟩)  rfl rfl (Nat.le_of_ble_eq_true rfl) dX7_cost_22 ⟨Nat.le_of_ble_eq_true rfl, Nat.le_of_ble_eq_true rfl⟩ h (fun v_5 M_4 _ h => ?_)
    refine sw_if_eq hx hb 31 dX7_cost_25 (by decide) h (fun h => ?_) (fun h => ?_)
    · refine sw_iload_n hx hb dX7_cost_31 1 rfl rfl ?_
      refine sw_istore_n hx hb [(2, .int x1), (0, .ref (ad 50)), (1, .int x1)] dX7_cost_32 rfl (by decide) rfl ?_
      refine sw_sub (lv1 := [(0, .ref (ad 50)), (1, .int x1), (2, .int x1)]) [1, 2, 0] rfl ?_
      exact wX7_cost_H33 X hr FU x1 x1 M_4 h
    · refine sw_bipush hx hb (-2) dX7_cost_28 (by decide) ?_
      exact sw_Iret X hr dX7_cost_30 h
  · refine sw_iconst hx hb (-1) dX7_cost_14 (by decide) ?_
    exact sw_Iret X hr dX7_cost_15 h

end
theorem okX7_cost (l : Launch) {D : va_G} {cy : Nat → ClassId} {ad : Nat → Nat} (hD : ∀ M : Mem, va_D (AA ad iY) (wl cy ad iY M)) (x1 : Int32) (M : Mem) (z : Int32 × Mem) (h : fX7_cost x1 M = some z) : CTI l yX7_cost (wsG yX7_cost cX7_cost 4 (some .int)) rm_X7_cost D cy ad iY [.ref (ad 50), .int x1] M z :=
  met_of (cc := cX7_cost) (maxL := 4) (ret := (some .int)) (own := RX7) (by decide) rfl rfl hD ndY (Nat.le_of_ble_eq_true rfl) (fun p e s m below meth c X hr => wX7_cost_E X hr x1 M h)
abbrev QX7_links (below : List Frame) (D : va_G) (cy : Nat → ClassId) (ad : Nat → Nat) (args : Array Value) (s : State) (z : Int32 × Mem) : State → Prop := MQ below (va_Qi (fun r u => r = z.1 ∧ u = z.2) (BB D cy ad iY) (AA ad iY)) args s 0 0 (AA ad iY)
section
variable {p : Program} {l : Launch} {e : Env} {s : State} {m : MethodId} {args : Array Value} {below : List Frame} {meth : Method} {c : Code} {D : va_G} {cy : Nat → ClassId} {ad : Nat → Nat} {z : Int32 × Mem}
set_option maxHeartbeats 4000000 in
set_option maxRecDepth 100000 in
theorem wX7_links_L12 (X : CX p s m args meth c D cy ad iY cX7_links 3 (wsG yX7_links cX7_links 3 (some .int)) RX7) (hr : meth.sig.returnType = (some .int)) (x1 : Int32) (y0 : Int32) (M : Mem) (h : fX7_links_L12 x1 y0 M = some z) : SW p l e rm_X7_links s m args below meth c 0 0 (QX7_links below D cy ad args s z) 3 (PH D cy ad iY s M) 12 [(0, .ref (ad 50)), (1, .int x1)] [.int y0] := by
  have hx := X.1
  have hb := X.2.1
  unfold fX7_links_L12 at h
  refine sw_istore_n hx hb [(2, .int y0), (0, .ref (ad 50)), (1, .int x1)] dX7_links_12 rfl (by decide) rfl ?_
  refine sw_aload_n hx hb dX7_links_13 1 rfl rfl ?_
  refine sw_iload_n hx hb dX7_links_14 2 rfl rfl ?_
  obtain ⟨hz, h⟩ := sz_ok h
  refine sw_putI X tyX7 tyX7_ok nmX7 inG7 mi_50 (ce_7 (rfl : kd 50 = 7)) rfl 9 (by decide) (goodW wd505) rfl (by decide +kernel : parseFieldDescriptor _ = some .boolean) (nar_z hz).1 (nar_z hz).2 (Nat.le_of_ble_eq_true rfl) (pu_7_9 (rfl : kd 50 = 7) _) dX7_links_15 h (fun M_1 h => ?_)
  refine sw_iload_n hx hb dX7_links_18 0 rfl rfl ?_
  exact sw_Iret X hr dX7_links_19 h

set_option maxHeartbeats 4000000 in
set_option maxRecDepth 100000 in
theorem wX7_links_E (X : CX p s m args meth c D cy ad iY cX7_links 3 (wsG yX7_links cX7_links 3 (some .int)) RX7) (hr : meth.sig.returnType = (some .int)) (x1 : Int32) (M : Mem) (h : fX7_links x1 M = some z) : SW p l e rm_X7_links s m args below meth c 0 0 (QX7_links below D cy ad args s z) 3 (PH D cy ad iY s M) 0 [(0, .ref (ad 50)), (1, .int x1)] [] := by
  have hx := X.1
  have hb := X.2.1
  unfold fX7_links at h
  refine sw_aload_n hx hb dX7_links_0 0 rfl rfl ?_
  refine sw_get X inG7 mi_50 (ce_7 (rfl : kd 50 = 7)) rfl 9 (by decide) (goodW wd505) rfl dX7_links_1 ?_
  refine sw_if_eq hx hb 11 dX7_links_4 (by decide) h (fun h => ?_) (fun h => ?_)
  · refine sw_iconst hx hb 0 dX7_links_11 (by decide) ?_
    refine sw_sub (lv1 := [(0, .ref (ad 50)), (1, .int x1)]) [0, 1] rfl ?_
    exact wX7_links_L12 X hr x1 0 M h
  · refine sw_iconst hx hb 1 dX7_links_7 (by decide) ?_
    refine sw_goto hx hb 12 dX7_links_8 (by decide) ?_
    refine sw_sub (lv1 := [(0, .ref (ad 50)), (1, .int x1)]) [0, 1] rfl ?_
    exact wX7_links_L12 X hr x1 1 M h

end
theorem okX7_links (l : Launch) {D : va_G} {cy : Nat → ClassId} {ad : Nat → Nat} (hD : ∀ M : Mem, va_D (AA ad iY) (wl cy ad iY M)) (x1 : Int32) (M : Mem) (z : Int32 × Mem) (h : fX7_links x1 M = some z) : CTI l yX7_links (wsG yX7_links cX7_links 3 (some .int)) rm_X7_links D cy ad iY [.ref (ad 50), .int x1] M z :=
  met_of (cc := cX7_links) (maxL := 3) (ret := (some .int)) (own := RX7) (by decide) rfl rfl hD ndY (Nat.le_of_ble_eq_true rfl) (fun p e s m below meth c X hr => wX7_links_E X hr x1 M h)
abbrev QX7_longest (below : List Frame) (D : va_G) (cy : Nat → ClassId) (ad : Nat → Nat) (args : Array Value) (s : State) (z : Int32 × Mem) : State → Prop := MQ below (va_Qi (fun r u => r = z.1 ∧ u = z.2) (BB D cy ad iY) (AA ad iY)) args s 0 0 (AA ad iY)
section
variable {p : Program} {l : Launch} {e : Env} {s : State} {m : MethodId} {args : Array Value} {below : List Frame} {meth : Method} {c : Code} {D : va_G} {cy : Nat → ClassId} {ad : Nat → Nat} {z : Int32 × Mem}
set_option maxHeartbeats 4000000 in
set_option maxRecDepth 100000 in
theorem wX7_longest_E (X : CX p s m args meth c D cy ad iY cX7_longest 4 (wsG yX7_longest cX7_longest 4 (some .int)) RX7) (hr : meth.sig.returnType = (some .int)) (x1 : Int32) (x2 : Int32) (M : Mem) (h : fX7_longest x1 x2 M = some z) : SW p l e rm_X7_longest s m args below meth c 0 0 (QX7_longest below D cy ad args s z) 4 (PH D cy ad iY s M) 0 [(0, .ref (ad 50)), (1, .int x1), (2, .int x2)] [] := by
  have hx := X.1
  have hb := X.2.1
  unfold fX7_longest at h
  refine sw_iload_n hx hb dX7_longest_0 1 rfl rfl ?_
  refine sw_iconst hx hb 1 dX7_longest_1 (by decide) ?_
  refine sw_sipush hx hb 300 dX7_longest_2 (by decide) ?_
  refine sw_callSI (As := [.int x1, .int 1, .int 300]) (rest := []) X (fun _ hz => okX7_isIn l X.2.2.2.2.2.2.1 x1 1 300 M _ hz) (cwX7_85 X.2.2.2.2.1 ⟨Nat.le_of_ble_eq_true rfl, Nat.le_of_ble_eq_true rfl⟩)  rfl rfl (Nat.le_of_ble_eq_true rfl) dX7_longest_5 ⟨Nat.le_of_ble_eq_true rfl, Nat.le_of_ble_eq_true rfl⟩ h (fun v_2 M_1 _ h => ?_)
  refine sw_if_eq hx hb 20 dX7_longest_8 (by decide) h (fun h => ?_) (fun h => ?_)
  · refine sw_iconst hx hb (-1) dX7_longest_20 (by decide) ?_
    exact sw_Iret X hr dX7_longest_21 h
  · refine sw_iload_n hx hb dX7_longest_11 2 rfl rfl ?_
    refine sw_iconst hx hb 0 dX7_longest_12 (by decide) ?_
    refine sw_iconst hx hb 1 dX7_longest_13 (by decide) ?_
    refine sw_callSI (As := [.int x2, .int 0, .int 1]) (rest := []) X (fun _ hz => okX7_isIn l X.2.2.2.2.2.2.1 x2 0 1 M_1 _ hz) (cwX7_85 X.2.2.2.2.1 ⟨Nat.le_of_ble_eq_true rfl, Nat.le_of_ble_eq_true rfl⟩)  rfl rfl (Nat.le_of_ble_eq_true rfl) dX7_longest_14 ⟨Nat.le_of_ble_eq_true rfl, Nat.le_of_ble_eq_true rfl⟩ h (fun v_4 M_3 _ h => ?_)
    refine sw_if_ne hx hb 22 dX7_longest_17 (by decide) h (fun h => ?_) (fun h => ?_)
    · refine sw_aload_n hx hb dX7_longest_22 0 rfl rfl ?_
      refine sw_get X inG7 mi_50 (ce_7 (rfl : kd 50 = 7)) rfl 10 (by decide) (goodW wd506) rfl dX7_longest_23 ?_
      refine sw_istore_nN hx hb (fun x3_5 => [(3, .int x3_5), (0, .ref (ad 50)), (1, .int x1), (2, .int x2)]) dX7_longest_26 rfl (by decide) (fun _ => rfl) h (fun x3_5 h => ?_)
      refine sw_aload_n hx hb dX7_longest_27 1 rfl rfl ?_
      refine sw_iload_n hx hb dX7_longest_28 2 rfl rfl ?_
      refine sw_putI X tyX7 tyX7_ok nmX7 inG7 mi_50 (ce_7 (rfl : kd 50 = 7)) rfl 10 (by decide) (goodW wd506) rfl (by decide +kernel : parseFieldDescriptor _ = some .int) rfl rfl (Nat.le_of_ble_eq_true rfl) (pu_7_10 (rfl : kd 50 = 7) _) dX7_longest_29 h (fun M_6 h => ?_)
      refine sw_aload_n hx hb dX7_longest_32 1 rfl rfl ?_
      refine sw_iload_n hx hb dX7_longest_33 3 rfl rfl ?_
      refine sw_putI X tyX7 tyX7_ok nmX7 inG7 mi_50 (ce_7 (rfl : kd 50 = 7)) rfl 11 (by decide) (goodW wd507) rfl (by decide +kernel : parseFieldDescriptor _ = some .int) rfl rfl (Nat.le_of_ble_eq_true rfl) (pu_7_11 (rfl : kd 50 = 7) _) dX7_longest_34 h (fun M_7 h => ?_)
      refine sw_iload_n hx hb dX7_longest_37 0 rfl rfl ?_
      exact sw_Iret X hr dX7_longest_38 h
    · refine sw_iconst hx hb (-1) dX7_longest_20 (by decide) ?_
      exact sw_Iret X hr dX7_longest_21 h

end
theorem okX7_longest (l : Launch) {D : va_G} {cy : Nat → ClassId} {ad : Nat → Nat} (hD : ∀ M : Mem, va_D (AA ad iY) (wl cy ad iY M)) (x1 : Int32) (x2 : Int32) (M : Mem) (z : Int32 × Mem) (h : fX7_longest x1 x2 M = some z) : CTI l yX7_longest (wsG yX7_longest cX7_longest 4 (some .int)) rm_X7_longest D cy ad iY [.ref (ad 50), .int x1, .int x2] M z :=
  met_of (cc := cX7_longest) (maxL := 4) (ret := (some .int)) (own := RX7) (by decide) rfl rfl hD ndY (Nat.le_of_ble_eq_true rfl) (fun p e s m below meth c X hr => wX7_longest_E X hr x1 x2 M h)
abbrev QX7_lays (below : List Frame) (D : va_G) (cy : Nat → ClassId) (ad : Nat → Nat) (args : Array Value) (s : State) (z : Mem) : State → Prop := MQ below (va_Qv (fun u => u = z) (BB D cy ad iY) (AA ad iY)) args s 0 0 (AA ad iY)
section
variable {p : Program} {l : Launch} {e : Env} {s : State} {m : MethodId} {args : Array Value} {below : List Frame} {meth : Method} {c : Code} {D : va_G} {cy : Nat → ClassId} {ad : Nat → Nat} {z : Mem}
set_option maxHeartbeats 4000000 in
set_option maxRecDepth 100000 in
theorem wX7_lays_E (X : CX p s m args meth c D cy ad iY cX7_lays 4 (wsG yX7_lays cX7_lays 4 none) RX7) (hr : meth.sig.returnType = none) (x1 : Int32) (x2 : Int32) (x3 : Int32) (M : Mem) (h : fX7_lays x1 x2 x3 M = some z) : SW p l e rm_X7_lays s m args below meth c 0 0 (QX7_lays below D cy ad args s z) 4 (PH D cy ad iY s M) 0 [(0, .ref (ad 50)), (1, .int x1), (2, .int x2), (3, .int x3)] [] := by
  have hx := X.1
  have hb := X.2.1
  unfold fX7_lays at h
  refine sw_aload_n hx hb dX7_lays_0 0 rfl rfl ?_
  refine sw_get X inG7 mi_50 (ce_7 (rfl : kd 50 = 7)) rfl 12 (by decide) (goodW wd408) rfl dX7_lays_1 ?_
  refine sw_sipush hx hb 400 dX7_lays_4 (by decide) ?_
  refine sw_icmp_ne hx hb 16 dX7_lays_7 (by decide) h (fun h => ?_) (fun h => ?_)
  · refine sw_aload_n hx hb dX7_lays_16 0 rfl rfl ?_
    refine sw_get X inG7 mi_50 (ce_7 (rfl : kd 50 = 7)) rfl 14 (by decide) (goodW wd508) rfl dX7_lays_17 ?_
    refine sw_aload_n hx hb dX7_lays_20 0 rfl rfl ?_
    refine sw_get X inG7 mi_50 (ce_7 (rfl : kd 50 = 7)) rfl 12 (by decide) (goodW wd408) rfl dX7_lays_21 ?_
    refine sw_iload_n hx hb dX7_lays_24 1 rfl rfl ?_
    refine sw_iast X mi_65 (rfl : kd 65 = 9) dX7_lays_25 h (fun M_1 h => ?_)
    refine sw_aload_n hx hb dX7_lays_26 0 rfl rfl ?_
    refine sw_get X inG7 mi_50 (ce_7 (rfl : kd 50 = 7)) rfl 15 (by decide) (goodW wd509) rfl dX7_lays_27 ?_
    refine sw_aload_n hx hb dX7_lays_30 0 rfl rfl ?_
    refine sw_get X inG7 mi_50 (ce_7 (rfl : kd 50 = 7)) rfl 12 (by decide) (goodW wd408) rfl dX7_lays_31 ?_
    refine sw_iload_n hx hb dX7_lays_34 2 rfl rfl ?_
    refine sw_iast X mi_66 (rfl : kd 66 = 9) dX7_lays_35 h (fun M_2 h => ?_)
    refine sw_aload_n hx hb dX7_lays_36 0 rfl rfl ?_
    refine sw_get X inG7 mi_50 (ce_7 (rfl : kd 50 = 7)) rfl 16 (by decide) (goodW wd510) rfl dX7_lays_37 ?_
    refine sw_aload_n hx hb dX7_lays_40 0 rfl rfl ?_
    refine sw_get X inG7 mi_50 (ce_7 (rfl : kd 50 = 7)) rfl 12 (by decide) (goodW wd408) rfl dX7_lays_41 ?_
    refine sw_iload_n hx hb dX7_lays_44 3 rfl rfl ?_
    refine sw_iast X mi_67 (rfl : kd 67 = 9) dX7_lays_45 h (fun M_3 h => ?_)
    refine sw_aload_n hx hb dX7_lays_46 0 rfl rfl ?_
    refine sw_dup hx hb dX7_lays_47 rfl ?_
    refine sw_get X inG7 mi_50 (ce_7 (rfl : kd 50 = 7)) rfl 12 (by decide) (goodW wd408) rfl dX7_lays_48 ?_
    refine sw_iconst hx hb 1 dX7_lays_51 (by decide) ?_
    refine sw_iadd hx hb dX7_lays_52 ?_
    refine sw_putI X tyX7 tyX7_ok nmX7 inG7 mi_50 (ce_7 (rfl : kd 50 = 7)) rfl 12 (by decide) (goodW wd408) rfl (by decide +kernel : parseFieldDescriptor _ = some .int) rfl rfl (Nat.le_of_ble_eq_true rfl) (pu_7_12 (rfl : kd 50 = 7) _) dX7_lays_53 h (fun M_4 h => ?_)
    exact sw_Vret X hr dX7_lays_56 h
  · refine sw_aload_n hx hb dX7_lays_10 0 rfl rfl ?_
    refine sw_iconst hx hb 1 dX7_lays_11 (by decide) ?_
    obtain ⟨hz, h⟩ := sz_ok h
    refine sw_putI X tyX7 tyX7_ok nmX7 inG7 mi_50 (ce_7 (rfl : kd 50 = 7)) rfl 13 (by decide) (goodW wd511) rfl (by decide +kernel : parseFieldDescriptor _ = some .boolean) (nar_z hz).1 (nar_z hz).2 (Nat.le_of_ble_eq_true rfl) (pu_7_13 (rfl : kd 50 = 7) _) dX7_lays_12 h (fun M_5 h => ?_)
    exact sw_Vret X hr dX7_lays_15 h

end
theorem okX7_lays (l : Launch) {D : va_G} {cy : Nat → ClassId} {ad : Nat → Nat} (hD : ∀ M : Mem, va_D (AA ad iY) (wl cy ad iY M)) (x1 : Int32) (x2 : Int32) (x3 : Int32) (M : Mem) (z : Mem) (h : fX7_lays x1 x2 x3 M = some z) : CTV l yX7_lays (wsG yX7_lays cX7_lays 4 none) rm_X7_lays D cy ad iY [.ref (ad 50), .int x1, .int x2, .int x3] M z :=
  met_of (cc := cX7_lays) (maxL := 4) (ret := none) (own := RX7) (by decide) rfl rfl hD ndY (Nat.le_of_ble_eq_true rfl) (fun p e s m below meth c X hr => wX7_lays_E X hr x1 x2 x3 M h)
