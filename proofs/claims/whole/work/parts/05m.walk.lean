abbrev QX7_reads (below : List Frame) (D : va_G) (cy : Nat → ClassId) (ad : Nat → Nat) (args : Array Value) (s : State) (z : Int32 × Mem) : State → Prop := MQ below (va_Qi (fun r u => r = z.1 ∧ u = z.2) (BB D cy ad iY) (AA ad iY)) args s 0 0 (AA ad iY)
section
variable {p : Program} {l : Launch} {e : Env} {s : State} {m : MethodId} {args : Array Value} {below : List Frame} {meth : Method} {c : Code} {D : va_G} {cy : Nat → ClassId} {ad : Nat → Nat} {z : Int32 × Mem}
set_option maxHeartbeats 4000000 in
set_option maxRecDepth 100000 in
theorem wX7_reads_L324 (X : CX p s m args meth c D cy ad iY cX7_reads 3 (wsG yX7_reads cX7_reads 3 (some .boolean)) RX7) (hr : meth.sig.returnType = (some .boolean)) (k19 : Mem → Option (Int32 × Mem)) (hk19 : ∀ (M : Mem), k19 M = some z → SW p l e rm_X7_reads s m args below meth c 0 0 (QX7_reads below D cy ad args s z) 3 (PH D cy ad iY s M) 19 [(0, .ref (ad 50))] []) (M : Mem) (h : fX7_reads_L324 k19 M = some z) : SW p l e rm_X7_reads s m args below meth c 0 0 (QX7_reads below D cy ad args s z) 3 (PH D cy ad iY s M) 324 [(0, .ref (ad 50))] [] := by
  have hx := X.1
  have hb := X.2.1
  unfold fX7_reads_L324 at h
  refine sw_goto hx hb 19 dX7_reads_324 (by decide) ?_
  refine sw_sub (lv1 := [(0, .ref (ad 50))]) [0] rfl ?_
  exact hk19 M h

set_option maxHeartbeats 4000000 in
set_option maxRecDepth 100000 in
theorem wX7_reads_L314 (X : CX p s m args meth c D cy ad iY cX7_reads 3 (wsG yX7_reads cX7_reads 3 (some .boolean)) RX7) (hr : meth.sig.returnType = (some .boolean)) (k19 : Mem → Option (Int32 × Mem)) (hk19 : ∀ (M : Mem), k19 M = some z → SW p l e rm_X7_reads s m args below meth c 0 0 (QX7_reads below D cy ad args s z) 3 (PH D cy ad iY s M) 19 [(0, .ref (ad 50))] []) (x1 : Int32) (M : Mem) (h : fX7_reads_L314 k19 x1 M = some z) : SW p l e rm_X7_reads s m args below meth c 0 0 (QX7_reads below D cy ad args s z) 3 (PH D cy ad iY s M) 314 [(0, .ref (ad 50)), (1, .int x1)] [] := by
  have hx := X.1
  have hb := X.2.1
  unfold fX7_reads_L314 at h
  refine sw_aload_n hx hb dX7_reads_314 0 rfl rfl ?_
  refine sw_iload_n hx hb dX7_reads_315 1 rfl rfl ?_
  refine sw_callVI (C := RX7) (As := [.int x1]) (rest := []) X mi_50 (ce_7 (rfl : kd 50 = 7)) rfl rfl (fun _ hz => okX7_plain l X.2.2.2.2.2.2.1 x1 M _ hz) (cwX7_170 X.2.2.2.2.1 ⟨Nat.le_of_ble_eq_true rfl, Nat.le_of_ble_eq_true rfl⟩)  rfl rfl (Nat.le_of_ble_eq_true rfl) dX7_reads_316 ⟨Nat.le_of_ble_eq_true rfl, Nat.le_of_ble_eq_true rfl⟩ h (fun v_11 M_10 _ h => ?_)
  refine sw_if_ne hx hb 324 dX7_reads_319 (by decide) h (fun h => ?_) (fun h => ?_)
  · refine sw_sub (lv1 := [(0, .ref (ad 50))]) [0] rfl ?_
    exact wX7_reads_L324 X hr k19 hk19 M_10 h
  · refine sw_iconst hx hb 0 dX7_reads_322 (by decide) ?_
    exact sw_Zret X hr dX7_reads_323 h

set_option maxHeartbeats 4000000 in
set_option maxRecDepth 100000 in
theorem wX7_reads_L149 (X : CX p s m args meth c D cy ad iY cX7_reads 3 (wsG yX7_reads cX7_reads 3 (some .boolean)) RX7) (hr : meth.sig.returnType = (some .boolean)) (k19 : Mem → Option (Int32 × Mem)) (hk19 : ∀ (M : Mem), k19 M = some z → SW p l e rm_X7_reads s m args below meth c 0 0 (QX7_reads below D cy ad args s z) 3 (PH D cy ad iY s M) 19 [(0, .ref (ad 50))] []) (x1 : Int32) (M : Mem) (h : fX7_reads_L149 k19 x1 M = some z) : SW p l e rm_X7_reads s m args below meth c 0 0 (QX7_reads below D cy ad args s z) 3 (PH D cy ad iY s M) 149 [(0, .ref (ad 50)), (1, .int x1)] [] := by
  have hx := X.1
  have hb := X.2.1
  unfold fX7_reads_L149 at h
  refine sw_iload_n hx hb dX7_reads_149 1 rfl rfl ?_
  refine sw_bipush hx hb 124 dX7_reads_150 (by decide) ?_
  refine sw_icmp_ne hx hb 176 dX7_reads_152 (by decide) h (fun h => ?_) (fun h => ?_)
  · refine sw_iload_n hx hb dX7_reads_176 1 rfl rfl ?_
    refine sw_bipush hx hb 40 dX7_reads_177 (by decide) ?_
    refine sw_icmp_ne hx hb 224 dX7_reads_179 (by decide) h (fun h => ?_) (fun h => ?_)
    · refine sw_iload_n hx hb dX7_reads_224 1 rfl rfl ?_
      refine sw_bipush hx hb 41 dX7_reads_225 (by decide) ?_
      refine sw_icmp_ne hx hb 314 dX7_reads_227 (by decide) h (fun h => ?_) (fun h => ?_)
      · refine sw_sub (lv1 := [(0, .ref (ad 50)), (1, .int x1)]) [0, 1] rfl ?_
        exact wX7_reads_L314 X hr k19 hk19 x1 M h
      · refine sw_aload_n hx hb dX7_reads_230 0 rfl rfl ?_
        refine sw_get X inG7 mi_50 (ce_7 (rfl : kd 50 = 7)) rfl 36 (by decide) (goodW wd412) rfl dX7_reads_231 ?_
        refine sw_if_le hx hb 314 dX7_reads_234 (by decide) h (fun h => ?_) (fun h => ?_)
        · refine sw_sub (lv1 := [(0, .ref (ad 50)), (1, .int x1)]) [0, 1] rfl ?_
          exact wX7_reads_L314 X hr k19 hk19 x1 M h
        · refine sw_aload_n hx hb dX7_reads_237 0 rfl rfl ?_
          refine sw_callVV (C := RX7) (As := []) (rest := []) X mi_50 (ce_7 (rfl : kd 50 = 7)) rfl rfl (fun _ hz => okX7_closes l X.2.2.2.2.2.2.1 M _ hz) (cwX7_167 X.2.2.2.2.1 ⟨Nat.le_of_ble_eq_true rfl, Nat.le_of_ble_eq_true rfl⟩)  rfl rfl (Nat.le_of_ble_eq_true rfl) dX7_reads_238 ⟨Nat.le_of_ble_eq_true rfl, Nat.le_of_ble_eq_true rfl⟩ h (fun M_12 _ h => ?_)
          refine sw_aload_n hx hb dX7_reads_241 0 rfl rfl ?_
          refine sw_dup hx hb dX7_reads_242 rfl ?_
          refine sw_get X inG7 mi_50 (ce_7 (rfl : kd 50 = 7)) rfl 36 (by decide) (goodW wd412) rfl dX7_reads_243 ?_
          refine sw_iconst hx hb 1 dX7_reads_246 (by decide) ?_
          refine sw_isub hx hb dX7_reads_247 ?_
          refine sw_putI X tyX7 tyX7_ok nmX7 inG7 mi_50 (ce_7 (rfl : kd 50 = 7)) rfl 36 (by decide) (goodW wd412) rfl (by decide +kernel : parseFieldDescriptor _ = some .int) rfl rfl (Nat.le_of_ble_eq_true rfl) (pu_7_36 (rfl : kd 50 = 7) _) dX7_reads_248 h (fun M_14 h => ?_)
          refine sw_aload_n hx hb dX7_reads_251 0 rfl rfl ?_
          refine sw_iconst hx hb 1 dX7_reads_252 (by decide) ?_
          obtain ⟨hz, h⟩ := sz_ok h
          refine sw_putI X tyX7 tyX7_ok nmX7 inG7 mi_50 (ce_7 (rfl : kd 50 = 7)) rfl 32 (by decide) (goodW wd415) rfl (by decide +kernel : parseFieldDescriptor _ = some .boolean) (nar_z hz).1 (nar_z hz).2 (Nat.le_of_ble_eq_true rfl) (pu_7_32 (rfl : kd 50 = 7) _) dX7_reads_253 h (fun M_15 h => ?_)
          refine sw_aload_n hx hb dX7_reads_256 0 rfl rfl ?_
          refine sw_aload_n hx hb dX7_reads_257 0 rfl rfl ?_
          refine sw_get X inG7 mi_50 (ce_7 (rfl : kd 50 = 7)) rfl 25 (by decide) (goodW wd417) rfl dX7_reads_258 ?_
          refine sw_aload_n hx hb dX7_reads_261 0 rfl rfl ?_
          refine sw_get X inG7 mi_50 (ce_7 (rfl : kd 50 = 7)) rfl 36 (by decide) (goodW wd412) rfl dX7_reads_262 ?_
          refine sw_iconst hx hb 1 dX7_reads_265 (by decide) ?_
          refine sw_iadd hx hb dX7_reads_266 ?_
          refine sw_zald X mi_76 (rfl : kd 76 = 11) dX7_reads_267 h (fun v_16 h => ?_)
          obtain ⟨hz, h⟩ := sz_ok h
          refine sw_putI X tyX7 tyX7_ok nmX7 inG7 mi_50 (ce_7 (rfl : kd 50 = 7)) rfl 33 (by decide) (goodW wd425) rfl (by decide +kernel : parseFieldDescriptor _ = some .boolean) (nar_z hz).1 (nar_z hz).2 (Nat.le_of_ble_eq_true rfl) (pu_7_33 (rfl : kd 50 = 7) _) dX7_reads_268 h (fun M_17 h => ?_)
          refine sw_aload_n hx hb dX7_reads_271 0 rfl rfl ?_
          refine sw_aload_n hx hb dX7_reads_272 0 rfl rfl ?_
          refine sw_get X inG7 mi_50 (ce_7 (rfl : kd 50 = 7)) rfl 27 (by decide) (goodW wd418) rfl dX7_reads_273 ?_
          refine sw_aload_n hx hb dX7_reads_276 0 rfl rfl ?_
          refine sw_get X inG7 mi_50 (ce_7 (rfl : kd 50 = 7)) rfl 36 (by decide) (goodW wd412) rfl dX7_reads_277 ?_
          refine sw_iconst hx hb 1 dX7_reads_280 (by decide) ?_
          refine sw_iadd hx hb dX7_reads_281 ?_
          refine sw_lald X mi_78 (rfl : kd 78 = 10) dX7_reads_282 h (fun v_18 h => ?_)
          refine sw_putJ X tyX7 tyX7_ok nmX7 inG7 mi_50 (ce_7 (rfl : kd 50 = 7)) rfl 34 (by decide) (goodW wd427) rfl (by decide +kernel : parseFieldDescriptor _ = some .long) rfl rfl (Nat.le_of_ble_eq_true rfl) (pu_7_34 (rfl : kd 50 = 7) _) dX7_reads_283 h (fun M_19 h => ?_)
          refine sw_aload_n hx hb dX7_reads_286 0 rfl rfl ?_
          refine sw_aload_n hx hb dX7_reads_287 0 rfl rfl ?_
          refine sw_get X inG7 mi_50 (ce_7 (rfl : kd 50 = 7)) rfl 28 (by decide) (goodW wd419) rfl dX7_reads_288 ?_
          refine sw_aload_n hx hb dX7_reads_291 0 rfl rfl ?_
          refine sw_get X inG7 mi_50 (ce_7 (rfl : kd 50 = 7)) rfl 36 (by decide) (goodW wd412) rfl dX7_reads_292 ?_
          refine sw_iconst hx hb 1 dX7_reads_295 (by decide) ?_
          refine sw_iadd hx hb dX7_reads_296 ?_
          refine sw_lald X mi_79 (rfl : kd 79 = 10) dX7_reads_297 h (fun v_20 h => ?_)
          refine sw_putJ X tyX7 tyX7_ok nmX7 inG7 mi_50 (ce_7 (rfl : kd 50 = 7)) rfl 35 (by decide) (goodW wd426) rfl (by decide +kernel : parseFieldDescriptor _ = some .long) rfl rfl (Nat.le_of_ble_eq_true rfl) (pu_7_35 (rfl : kd 50 = 7) _) dX7_reads_298 h (fun M_21 h => ?_)
          refine sw_aload_n hx hb dX7_reads_301 0 rfl rfl ?_
          refine sw_dup hx hb dX7_reads_302 rfl ?_
          refine sw_get X inG7 mi_50 (ce_7 (rfl : kd 50 = 7)) rfl 37 (by decide) (goodW wd410) rfl dX7_reads_303 ?_
          refine sw_iconst hx hb 1 dX7_reads_306 (by decide) ?_
          refine sw_iadd hx hb dX7_reads_307 ?_
          refine sw_putI X tyX7 tyX7_ok nmX7 inG7 mi_50 (ce_7 (rfl : kd 50 = 7)) rfl 37 (by decide) (goodW wd410) rfl (by decide +kernel : parseFieldDescriptor _ = some .int) rfl rfl (Nat.le_of_ble_eq_true rfl) (pu_7_37 (rfl : kd 50 = 7) _) dX7_reads_308 h (fun M_22 h => ?_)
          refine sw_goto hx hb 324 dX7_reads_311 (by decide) ?_
          refine sw_sub (lv1 := [(0, .ref (ad 50))]) [0] rfl ?_
          exact wX7_reads_L324 X hr k19 hk19 M_22 h
    · refine sw_aload_n hx hb dX7_reads_182 0 rfl rfl ?_
      refine sw_get X inG7 mi_50 (ce_7 (rfl : kd 50 = 7)) rfl 36 (by decide) (goodW wd412) rfl dX7_reads_183 ?_
      refine sw_bipush hx hb 8 dX7_reads_186 (by decide) ?_
      refine sw_icmp_ne hx hb 193 dX7_reads_188 (by decide) h (fun h => ?_) (fun h => ?_)
      · refine sw_aload_n hx hb dX7_reads_193 0 rfl rfl ?_
        refine sw_callVV (C := RX7) (As := []) (rest := []) X mi_50 (ce_7 (rfl : kd 50 = 7)) rfl rfl (fun _ hz => okX7_joins l X.2.2.2.2.2.2.1 M _ hz) (cwX7_134 X.2.2.2.2.1 ⟨Nat.le_of_ble_eq_true rfl, Nat.le_of_ble_eq_true rfl⟩)  rfl rfl (Nat.le_of_ble_eq_true rfl) dX7_reads_194 ⟨Nat.le_of_ble_eq_true rfl, Nat.le_of_ble_eq_true rfl⟩ h (fun M_23 _ h => ?_)
        refine sw_aload_n hx hb dX7_reads_197 0 rfl rfl ?_
        refine sw_dup hx hb dX7_reads_198 rfl ?_
        refine sw_get X inG7 mi_50 (ce_7 (rfl : kd 50 = 7)) rfl 36 (by decide) (goodW wd412) rfl dX7_reads_199 ?_
        refine sw_iconst hx hb 1 dX7_reads_202 (by decide) ?_
        refine sw_iadd hx hb dX7_reads_203 ?_
        refine sw_putI X tyX7 tyX7_ok nmX7 inG7 mi_50 (ce_7 (rfl : kd 50 = 7)) rfl 36 (by decide) (goodW wd412) rfl (by decide +kernel : parseFieldDescriptor _ = some .int) rfl rfl (Nat.le_of_ble_eq_true rfl) (pu_7_36 (rfl : kd 50 = 7) _) dX7_reads_204 h (fun M_25 h => ?_)
        refine sw_aload_n hx hb dX7_reads_207 0 rfl rfl ?_
        refine sw_callVV (C := RX7) (As := []) (rest := []) X mi_50 (ce_7 (rfl : kd 50 = 7)) rfl rfl (fun _ hz => okX7_opens l X.2.2.2.2.2.2.1 M_25 _ hz) (cwX7_164 X.2.2.2.2.1 ⟨Nat.le_of_ble_eq_true rfl, Nat.le_of_ble_eq_true rfl⟩)  rfl rfl (Nat.le_of_ble_eq_true rfl) dX7_reads_208 ⟨Nat.le_of_ble_eq_true rfl, Nat.le_of_ble_eq_true rfl⟩ h (fun M_26 _ h => ?_)
        refine sw_aload_n hx hb dX7_reads_211 0 rfl rfl ?_
        refine sw_dup hx hb dX7_reads_212 rfl ?_
        refine sw_get X inG7 mi_50 (ce_7 (rfl : kd 50 = 7)) rfl 37 (by decide) (goodW wd410) rfl dX7_reads_213 ?_
        refine sw_iconst hx hb 1 dX7_reads_216 (by decide) ?_
        refine sw_iadd hx hb dX7_reads_217 ?_
        refine sw_putI X tyX7 tyX7_ok nmX7 inG7 mi_50 (ce_7 (rfl : kd 50 = 7)) rfl 37 (by decide) (goodW wd410) rfl (by decide +kernel : parseFieldDescriptor _ = some .int) rfl rfl (Nat.le_of_ble_eq_true rfl) (pu_7_37 (rfl : kd 50 = 7) _) dX7_reads_218 h (fun M_28 h => ?_)
        refine sw_goto hx hb 324 dX7_reads_221 (by decide) ?_
        refine sw_sub (lv1 := [(0, .ref (ad 50))]) [0] rfl ?_
        exact wX7_reads_L324 X hr k19 hk19 M_28 h
      · refine sw_iconst hx hb 0 dX7_reads_191 (by decide) ?_
        exact sw_Zret X hr dX7_reads_192 h
  · refine sw_aload_n hx hb dX7_reads_155 0 rfl rfl ?_
    refine sw_callVV (C := RX7) (As := []) (rest := []) X mi_50 (ce_7 (rfl : kd 50 = 7)) rfl rfl (fun _ hz => okX7_closes l X.2.2.2.2.2.2.1 M _ hz) (cwX7_167 X.2.2.2.2.1 ⟨Nat.le_of_ble_eq_true rfl, Nat.le_of_ble_eq_true rfl⟩)  rfl rfl (Nat.le_of_ble_eq_true rfl) dX7_reads_156 ⟨Nat.le_of_ble_eq_true rfl, Nat.le_of_ble_eq_true rfl⟩ h (fun M_29 _ h => ?_)
    refine sw_aload_n hx hb dX7_reads_159 0 rfl rfl ?_
    refine sw_callVV (C := RX7) (As := []) (rest := []) X mi_50 (ce_7 (rfl : kd 50 = 7)) rfl rfl (fun _ hz => okX7_begins l X.2.2.2.2.2.2.1 M_29 _ hz) (cwX7_114 X.2.2.2.2.1 ⟨Nat.le_of_ble_eq_true rfl, Nat.le_of_ble_eq_true rfl⟩)  rfl rfl (Nat.le_of_ble_eq_true rfl) dX7_reads_160 ⟨Nat.le_of_ble_eq_true rfl, Nat.le_of_ble_eq_true rfl⟩ h (fun M_31 _ h => ?_)
    refine sw_aload_n hx hb dX7_reads_163 0 rfl rfl ?_
    refine sw_dup hx hb dX7_reads_164 rfl ?_
    refine sw_get X inG7 mi_50 (ce_7 (rfl : kd 50 = 7)) rfl 37 (by decide) (goodW wd410) rfl dX7_reads_165 ?_
    refine sw_iconst hx hb 1 dX7_reads_168 (by decide) ?_
    refine sw_iadd hx hb dX7_reads_169 ?_
    refine sw_putI X tyX7 tyX7_ok nmX7 inG7 mi_50 (ce_7 (rfl : kd 50 = 7)) rfl 37 (by decide) (goodW wd410) rfl (by decide +kernel : parseFieldDescriptor _ = some .int) rfl rfl (Nat.le_of_ble_eq_true rfl) (pu_7_37 (rfl : kd 50 = 7) _) dX7_reads_170 h (fun M_33 h => ?_)
    refine sw_goto hx hb 324 dX7_reads_173 (by decide) ?_
    refine sw_sub (lv1 := [(0, .ref (ad 50))]) [0] rfl ?_
    exact wX7_reads_L324 X hr k19 hk19 M_33 h

set_option maxHeartbeats 4000000 in
set_option maxRecDepth 100000 in
theorem wX7_reads_L128 (X : CX p s m args meth c D cy ad iY cX7_reads 3 (wsG yX7_reads cX7_reads 3 (some .boolean)) RX7) (hr : meth.sig.returnType = (some .boolean)) (k19 : Mem → Option (Int32 × Mem)) (hk19 : ∀ (M : Mem), k19 M = some z → SW p l e rm_X7_reads s m args below meth c 0 0 (QX7_reads below D cy ad args s z) 3 (PH D cy ad iY s M) 19 [(0, .ref (ad 50))] []) (y0 : Int32) (y1 : Int32) (M : Mem) (h : fX7_reads_L128 k19 y0 y1 M = some z) : SW p l e rm_X7_reads s m args below meth c 0 0 (QX7_reads below D cy ad args s z) 3 (PH D cy ad iY s M) 128 [(0, .ref (ad 50))] [.int y0, .int y1, .ref (ad 50)] := by
  have hx := X.1
  have hb := X.2.1
  unfold fX7_reads_L128 at h
  refine sw_ior hx hb dX7_reads_128 ?_
  obtain ⟨hz, h⟩ := sz_ok h
  refine sw_putI X tyX7 tyX7_ok nmX7 inG7 mi_50 (ce_7 (rfl : kd 50 = 7)) rfl 33 (by decide) (goodW wd425) rfl (by decide +kernel : parseFieldDescriptor _ = some .boolean) (nar_z hz).1 (nar_z hz).2 (Nat.le_of_ble_eq_true rfl) (pu_7_33 (rfl : kd 50 = 7) _) dX7_reads_129 h (fun M_34 h => ?_)
  refine sw_aload_n hx hb dX7_reads_132 0 rfl rfl ?_
  refine sw_callVV (C := RX7) (As := []) (rest := []) X mi_50 (ce_7 (rfl : kd 50 = 7)) rfl rfl (fun _ hz => okX7_joins l X.2.2.2.2.2.2.1 M_34 _ hz) (cwX7_134 X.2.2.2.2.1 ⟨Nat.le_of_ble_eq_true rfl, Nat.le_of_ble_eq_true rfl⟩)  rfl rfl (Nat.le_of_ble_eq_true rfl) dX7_reads_133 ⟨Nat.le_of_ble_eq_true rfl, Nat.le_of_ble_eq_true rfl⟩ h (fun M_35 _ h => ?_)
  refine sw_aload_n hx hb dX7_reads_136 0 rfl rfl ?_
  refine sw_dup hx hb dX7_reads_137 rfl ?_
  refine sw_get X inG7 mi_50 (ce_7 (rfl : kd 50 = 7)) rfl 37 (by decide) (goodW wd410) rfl dX7_reads_138 ?_
  refine sw_iconst hx hb 1 dX7_reads_141 (by decide) ?_
  refine sw_iadd hx hb dX7_reads_142 ?_
  refine sw_putI X tyX7 tyX7_ok nmX7 inG7 mi_50 (ce_7 (rfl : kd 50 = 7)) rfl 37 (by decide) (goodW wd410) rfl (by decide +kernel : parseFieldDescriptor _ = some .int) rfl rfl (Nat.le_of_ble_eq_true rfl) (pu_7_37 (rfl : kd 50 = 7) _) dX7_reads_143 h (fun M_37 h => ?_)
  refine sw_goto hx hb 324 dX7_reads_146 (by decide) ?_
  refine sw_sub (lv1 := [(0, .ref (ad 50))]) [0] rfl ?_
  exact wX7_reads_L324 X hr k19 hk19 M_37 h

set_option maxHeartbeats 4000000 in
set_option maxRecDepth 100000 in
theorem wX7_reads_L112 (X : CX p s m args meth c D cy ad iY cX7_reads 3 (wsG yX7_reads cX7_reads 3 (some .boolean)) RX7) (hr : meth.sig.returnType = (some .boolean)) (k19 : Mem → Option (Int32 × Mem)) (hk19 : ∀ (M : Mem), k19 M = some z → SW p l e rm_X7_reads s m args below meth c 0 0 (QX7_reads below D cy ad args s z) 3 (PH D cy ad iY s M) 19 [(0, .ref (ad 50))] []) (x1 : Int32) (M : Mem) (h : fX7_reads_L112 k19 x1 M = some z) : SW p l e rm_X7_reads s m args below meth c 0 0 (QX7_reads below D cy ad args s z) 3 (PH D cy ad iY s M) 112 [(0, .ref (ad 50)), (1, .int x1)] [] := by
  have hx := X.1
  have hb := X.2.1
  unfold fX7_reads_L112 at h
  refine sw_aload_n hx hb dX7_reads_112 0 rfl rfl ?_
  refine sw_dup hx hb dX7_reads_113 rfl ?_
  refine sw_get X inG7 mi_50 (ce_7 (rfl : kd 50 = 7)) rfl 33 (by decide) (goodW wd425) rfl dX7_reads_114 ?_
  refine sw_iload_n hx hb dX7_reads_117 1 rfl rfl ?_
  refine sw_bipush hx hb 43 dX7_reads_118 (by decide) ?_
  refine sw_icmp_eq hx hb 127 dX7_reads_120 (by decide) h (fun h => ?_) (fun h => ?_)
  · refine sw_iconst hx hb 0 dX7_reads_127 (by decide) ?_
    refine sw_sub (lv1 := [(0, .ref (ad 50))]) [0] rfl ?_
    exact wX7_reads_L128 X hr k19 hk19 0 (gI M 50 33) M h
  · refine sw_iconst hx hb 1 dX7_reads_123 (by decide) ?_
    refine sw_goto hx hb 128 dX7_reads_124 (by decide) ?_
    refine sw_sub (lv1 := [(0, .ref (ad 50))]) [0] rfl ?_
    exact wX7_reads_L128 X hr k19 hk19 1 (gI M 50 33) M h

set_option maxHeartbeats 4000000 in
set_option maxRecDepth 100000 in
theorem wX7_reads_L104 (X : CX p s m args meth c D cy ad iY cX7_reads 3 (wsG yX7_reads cX7_reads 3 (some .boolean)) RX7) (hr : meth.sig.returnType = (some .boolean)) (k19 : Mem → Option (Int32 × Mem)) (k62 : Int32 → Int32 → Mem → Option (Int32 × Mem)) (hk19 : ∀ (M : Mem), k19 M = some z → SW p l e rm_X7_reads s m args below meth c 0 0 (QX7_reads below D cy ad args s z) 3 (PH D cy ad iY s M) 19 [(0, .ref (ad 50))] []) (hk62 : ∀ (x1 : Int32) (x2 : Int32) (M : Mem), k62 x1 x2 M = some z → SW p l e rm_X7_reads s m args below meth c 0 0 (QX7_reads below D cy ad args s z) 3 (PH D cy ad iY s M) 62 [(0, .ref (ad 50)), (1, .int x1), (2, .int x2)] []) (x1 : Int32) (x2 : Int32) (y0 : Int64) (y1 : Int64) (y2 : Int32) (M : Mem) (h : fX7_reads_L104 k19 k62 x1 x2 y0 y1 y2 M = some z) : SW p l e rm_X7_reads s m args below meth c 0 0 (QX7_reads below D cy ad args s z) 3 (PH D cy ad iY s M) 104 [(0, .ref (ad 50)), (1, .int x1), (2, .int x2)] [.long y0, .long y1, .int y2, .ref (ad 75)] := by
  have hx := X.1
  have hb := X.2.1
  unfold fX7_reads_L104 at h
  refine sw_lor hx hb dX7_reads_104 ?_
  refine sw_last X mi_75 (rfl : kd 75 = 10) dX7_reads_105 h (fun M_39 h => ?_)
  refine sw_iincN hx hb (k := 2) (x2 + 1) (fun x2_40 => [(2, .int x2_40), (0, .ref (ad 50)), (1, .int x1)]) dX7_reads_106 rfl (by rfl) (by decide) (fun _ => rfl) h (fun x2_40 h => ?_)
  refine sw_goto hx hb 62 dX7_reads_109 (by decide) ?_
  refine sw_sub (lv1 := [(0, .ref (ad 50)), (1, .int x1), (2, .int x2_40)]) [1, 2, 0] rfl ?_
  exact hk62 x1 x2_40 M_39 h

set_option maxHeartbeats 4000000 in
set_option maxRecDepth 100000 in
theorem wX7_reads_H62 (X : CX p s m args meth c D cy ad iY cX7_reads 3 (wsG yX7_reads cX7_reads 3 (some .boolean)) RX7) (hr : meth.sig.returnType = (some .boolean)) (k19 : Mem → Option (Int32 × Mem)) (hk19 : ∀ (M : Mem), k19 M = some z → SW p l e rm_X7_reads s m args below meth c 0 0 (QX7_reads below D cy ad args s z) 3 (PH D cy ad iY s M) 19 [(0, .ref (ad 50))] []) : ∀ (n : Nat) (x1 : Int32) (x2 : Int32) (M : Mem), fX7_reads_H62 k19 n x1 x2 M = some z → SW p l e rm_X7_reads s m args below meth c 0 0 (QX7_reads below D cy ad args s z) 3 (PH D cy ad iY s M) 62 [(0, .ref (ad 50)), (1, .int x1), (2, .int x2)] [] := by
  have hx := X.1
  have hb := X.2.1
  intro n
  induction n with
  | zero =>
    intro x1 x2 M h
    have h : (none : Option (Int32 × Mem)) = some z := h
    cases h
  | succ n ih =>
    intro x1 x2 M h
    rw [fX7_reads_H62] at h
    refine sw_iload_n hx hb dX7_reads_62 2 rfl rfl ?_
    refine sw_aload_n hx hb dX7_reads_63 0 rfl rfl ?_
    refine sw_get X inG7 mi_50 (ce_7 (rfl : kd 50 = 7)) rfl 22 (by decide) (goodW wd424) rfl dX7_reads_64 ?_
    refine sw_icmp_ge hx hb 112 dX7_reads_67 (by decide) h (fun h => ?_) (fun h => ?_)
    · refine sw_sub (lv1 := [(0, .ref (ad 50)), (1, .int x1)]) [0, 1] rfl ?_
      exact wX7_reads_L112 X hr k19 hk19 x1 M h
    · refine sw_iload_n hx hb dX7_reads_70 1 rfl rfl ?_
      refine sw_bipush hx hb 63 dX7_reads_71 (by decide) ?_
      refine sw_icmp_eq hx hb 112 dX7_reads_73 (by decide) h (fun h => ?_) (fun h => ?_)
      · refine sw_sub (lv1 := [(0, .ref (ad 50)), (1, .int x1)]) [0, 1] rfl ?_
        exact wX7_reads_L112 X hr k19 hk19 x1 M h
      · refine sw_aload_n hx hb dX7_reads_76 0 rfl rfl ?_
        refine sw_get X inG7 mi_50 (ce_7 (rfl : kd 50 = 7)) rfl 24 (by decide) (goodW wd428) rfl dX7_reads_77 ?_
        refine sw_iload_n hx hb dX7_reads_80 2 rfl rfl ?_
        refine sw_dup2 hx hb dX7_reads_81 rfl rfl ?_
        refine sw_lald X mi_75 (rfl : kd 75 = 10) dX7_reads_82 h (fun v_38 h => ?_)
        refine sw_aload_n hx hb dX7_reads_83 0 rfl rfl ?_
        refine sw_get X inG7 mi_50 (ce_7 (rfl : kd 50 = 7)) rfl 35 (by decide) (goodW wd426) rfl dX7_reads_84 ?_
        refine sw_iload_n hx hb dX7_reads_87 2 rfl rfl ?_
        refine sw_lshr hx hb dX7_reads_88 ?_
        refine sw_lconst hx hb 1 dX7_reads_89 (by decide) ?_
        refine sw_land hx hb dX7_reads_90 ?_
        refine sw_lconst hx hb 1 dX7_reads_91 (by decide) ?_
        refine sw_lcmp hx hb dX7_reads_92 ?_
        refine sw_if_ne hx hb 103 dX7_reads_93 (by decide) h (fun h => ?_) (fun h => ?_)
        · refine sw_lconst hx hb 0 dX7_reads_103 (by decide) ?_
          refine sw_sub (lv1 := [(0, .ref (ad 50)), (1, .int x1), (2, .int x2)]) [0, 1, 2] rfl ?_
          exact wX7_reads_L104 X hr k19 (fX7_reads_H62 k19 n) hk19 ih x1 x2 0 v_38 x2 M h
        · refine sw_aload_n hx hb dX7_reads_96 0 rfl rfl ?_
          refine sw_get X inG7 mi_50 (ce_7 (rfl : kd 50 = 7)) rfl 34 (by decide) (goodW wd427) rfl dX7_reads_97 ?_
          refine sw_goto hx hb 104 dX7_reads_100 (by decide) ?_
          refine sw_sub (lv1 := [(0, .ref (ad 50)), (1, .int x1), (2, .int x2)]) [0, 1, 2] rfl ?_
          exact wX7_reads_L104 X hr k19 (fX7_reads_H62 k19 n) hk19 ih x1 x2 (gJ M 50 34) v_38 x2 M h

set_option maxHeartbeats 4000000 in
set_option maxRecDepth 100000 in
theorem wX7_reads_L53 (X : CX p s m args meth c D cy ad iY cX7_reads 3 (wsG yX7_reads cX7_reads 3 (some .boolean)) RX7) (hr : meth.sig.returnType = (some .boolean)) (k19 : Mem → Option (Int32 × Mem)) (hk19 : ∀ (M : Mem), k19 M = some z → SW p l e rm_X7_reads s m args below meth c 0 0 (QX7_reads below D cy ad args s z) 3 (PH D cy ad iY s M) 19 [(0, .ref (ad 50))] []) (x1 : Int32) (M : Mem) (h : fX7_reads_L53 k19 x1 M = some z) : SW p l e rm_X7_reads s m args below meth c 0 0 (QX7_reads below D cy ad args s z) 3 (PH D cy ad iY s M) 53 [(0, .ref (ad 50)), (1, .int x1)] [] := by
  have hx := X.1
  have hb := X.2.1
  unfold fX7_reads_L53 at h
  refine sw_aload_n hx hb dX7_reads_53 0 rfl rfl ?_
  refine sw_get X inG7 mi_50 (ce_7 (rfl : kd 50 = 7)) rfl 32 (by decide) (goodW wd415) rfl dX7_reads_54 ?_
  refine sw_if_eq hx hb 149 dX7_reads_57 (by decide) h (fun h => ?_) (fun h => ?_)
  · refine sw_sub (lv1 := [(0, .ref (ad 50)), (1, .int x1)]) [0, 1] rfl ?_
    exact wX7_reads_L149 X hr k19 hk19 x1 M h
  · refine sw_iconst hx hb 0 dX7_reads_60 (by decide) ?_
    refine sw_istore_n hx hb [(2, .int 0), (0, .ref (ad 50)), (1, .int x1)] dX7_reads_61 rfl (by decide) rfl ?_
    refine sw_sub (lv1 := [(0, .ref (ad 50)), (1, .int x1), (2, .int 0)]) [1, 2, 0] rfl ?_
    exact wX7_reads_H62 X hr k19 hk19 FU x1 0 M h

set_option maxHeartbeats 4000000 in
set_option maxRecDepth 100000 in
theorem wX7_reads_H19 (X : CX p s m args meth c D cy ad iY cX7_reads 3 (wsG yX7_reads cX7_reads 3 (some .boolean)) RX7) (hr : meth.sig.returnType = (some .boolean)) : ∀ (n : Nat) (M : Mem), fX7_reads_H19 n M = some z → SW p l e rm_X7_reads s m args below meth c 0 0 (QX7_reads below D cy ad args s z) 3 (PH D cy ad iY s M) 19 [(0, .ref (ad 50))] [] := by
  have hx := X.1
  have hb := X.2.1
  intro n
  induction n with
  | zero =>
    intro M h
    have h : (none : Option (Int32 × Mem)) = some z := h
    cases h
  | succ n ih =>
    intro M h
    rw [fX7_reads_H19] at h
    refine sw_aload_n hx hb dX7_reads_19 0 rfl rfl ?_
    refine sw_get X inG7 mi_50 (ce_7 (rfl : kd 50 = 7)) rfl 37 (by decide) (goodW wd410) rfl dX7_reads_20 ?_
    refine sw_aload_n hx hb dX7_reads_23 0 rfl rfl ?_
    refine sw_get X inG7 mi_50 (ce_7 (rfl : kd 50 = 7)) rfl 1 (by decide) (goodW wd405) rfl dX7_reads_24 ?_
    refine sw_icmp_ge hx hb 327 dX7_reads_27 (by decide) h (fun h => ?_) (fun h => ?_)
    · refine sw_aload_n hx hb dX7_reads_327 0 rfl rfl ?_
      refine sw_callVV (C := RX7) (As := []) (rest := []) X mi_50 (ce_7 (rfl : kd 50 = 7)) rfl rfl (fun _ hz => okX7_closes l X.2.2.2.2.2.2.1 M _ hz) (cwX7_167 X.2.2.2.2.1 ⟨Nat.le_of_ble_eq_true rfl, Nat.le_of_ble_eq_true rfl⟩)  rfl rfl (Nat.le_of_ble_eq_true rfl) dX7_reads_328 ⟨Nat.le_of_ble_eq_true rfl, Nat.le_of_ble_eq_true rfl⟩ h (fun M_6 _ h => ?_)
      refine sw_aload_n hx hb dX7_reads_331 0 rfl rfl ?_
      refine sw_get X inG7 mi_50 (ce_7 (rfl : kd 50 = 7)) rfl 36 (by decide) (goodW wd412) rfl dX7_reads_332 ?_
      refine sw_if_ne hx hb 342 dX7_reads_335 (by decide) h (fun h => ?_) (fun h => ?_)
      · refine sw_iconst hx hb 0 dX7_reads_342 (by decide) ?_
        exact sw_Zret X hr dX7_reads_343 h
      · refine sw_iconst hx hb 1 dX7_reads_338 (by decide) ?_
        refine sw_goto hx hb 343 dX7_reads_339 (by decide) ?_
        exact sw_Zret X hr dX7_reads_343 h
    · refine sw_aload_n hx hb dX7_reads_30 0 rfl rfl ?_
      refine sw_callVI (C := RX7) (As := []) (rest := []) X mi_50 (ce_7 (rfl : kd 50 = 7)) rfl rfl (fun _ hz => okX7_peek l X.2.2.2.2.2.2.1 M _ hz) (cwX7_137 X.2.2.2.2.1 ⟨Nat.le_of_ble_eq_true rfl, Nat.le_of_ble_eq_true rfl⟩)  rfl rfl (Nat.le_of_ble_eq_true rfl) dX7_reads_31 ⟨Nat.le_of_ble_eq_true rfl, Nat.le_of_ble_eq_true rfl⟩ h (fun v_9 M_8 _ h => ?_)
      refine sw_istore_n hx hb [(1, .int v_9), (0, .ref (ad 50))] dX7_reads_34 rfl (by decide) rfl ?_
      refine sw_iload_n hx hb dX7_reads_35 0 rfl rfl ?_
      refine sw_bipush hx hb 42 dX7_reads_36 (by decide) ?_
      refine sw_icmp_eq hx hb 53 dX7_reads_38 (by decide) h (fun h => ?_) (fun h => ?_)
      · refine sw_sub (lv1 := [(0, .ref (ad 50)), (1, .int v_9)]) [1, 0] rfl ?_
        exact wX7_reads_L53 X hr (fX7_reads_H19 n) ih v_9 M_8 h
      · refine sw_iload_n hx hb dX7_reads_41 0 rfl rfl ?_
        refine sw_bipush hx hb 43 dX7_reads_42 (by decide) ?_
        refine sw_icmp_eq hx hb 53 dX7_reads_44 (by decide) h (fun h => ?_) (fun h => ?_)
        · refine sw_sub (lv1 := [(0, .ref (ad 50)), (1, .int v_9)]) [1, 0] rfl ?_
          exact wX7_reads_L53 X hr (fX7_reads_H19 n) ih v_9 M_8 h
        · refine sw_iload_n hx hb dX7_reads_47 0 rfl rfl ?_
          refine sw_bipush hx hb 63 dX7_reads_48 (by decide) ?_
          refine sw_icmp_ne hx hb 149 dX7_reads_50 (by decide) h (fun h => ?_) (fun h => ?_)
          · refine sw_sub (lv1 := [(0, .ref (ad 50)), (1, .int v_9)]) [1, 0] rfl ?_
            exact wX7_reads_L149 X hr (fX7_reads_H19 n) ih v_9 M_8 h
          · refine sw_sub (lv1 := [(0, .ref (ad 50)), (1, .int v_9)]) [1, 0] rfl ?_
            exact wX7_reads_L53 X hr (fX7_reads_H19 n) ih v_9 M_8 h

set_option maxHeartbeats 4000000 in
set_option maxRecDepth 100000 in
theorem wX7_reads_E (X : CX p s m args meth c D cy ad iY cX7_reads 3 (wsG yX7_reads cX7_reads 3 (some .boolean)) RX7) (hr : meth.sig.returnType = (some .boolean)) (M : Mem) (h : fX7_reads M = some z) : SW p l e rm_X7_reads s m args below meth c 0 0 (QX7_reads below D cy ad args s z) 3 (PH D cy ad iY s M) 0 [(0, .ref (ad 50))] [] := by
  have hx := X.1
  have hb := X.2.1
  unfold fX7_reads at h
  refine sw_aload_n hx hb dX7_reads_0 0 rfl rfl ?_
  refine sw_iconst hx hb 0 dX7_reads_1 (by decide) ?_
  refine sw_putI X tyX7 tyX7_ok nmX7 inG7 mi_50 (ce_7 (rfl : kd 50 = 7)) rfl 22 (by decide) (goodW wd424) rfl (by decide +kernel : parseFieldDescriptor _ = some .int) rfl rfl (Nat.le_of_ble_eq_true rfl) (pu_7_22 (rfl : kd 50 = 7) _) dX7_reads_2 h (fun M_1 h => ?_)
  refine sw_aload_n hx hb dX7_reads_5 0 rfl rfl ?_
  refine sw_iconst hx hb 0 dX7_reads_6 (by decide) ?_
  refine sw_putI X tyX7 tyX7_ok nmX7 inG7 mi_50 (ce_7 (rfl : kd 50 = 7)) rfl 36 (by decide) (goodW wd412) rfl (by decide +kernel : parseFieldDescriptor _ = some .int) rfl rfl (Nat.le_of_ble_eq_true rfl) (pu_7_36 (rfl : kd 50 = 7) _) dX7_reads_7 h (fun M_2 h => ?_)
  refine sw_aload_n hx hb dX7_reads_10 0 rfl rfl ?_
  refine sw_iconst hx hb 0 dX7_reads_11 (by decide) ?_
  refine sw_putI X tyX7 tyX7_ok nmX7 inG7 mi_50 (ce_7 (rfl : kd 50 = 7)) rfl 37 (by decide) (goodW wd410) rfl (by decide +kernel : parseFieldDescriptor _ = some .int) rfl rfl (Nat.le_of_ble_eq_true rfl) (pu_7_37 (rfl : kd 50 = 7) _) dX7_reads_12 h (fun M_3 h => ?_)
  refine sw_aload_n hx hb dX7_reads_15 0 rfl rfl ?_
  refine sw_callVV (C := RX7) (As := []) (rest := []) X mi_50 (ce_7 (rfl : kd 50 = 7)) rfl rfl (fun _ hz => okX7_opens l X.2.2.2.2.2.2.1 M_3 _ hz) (cwX7_164 X.2.2.2.2.1 ⟨Nat.le_of_ble_eq_true rfl, Nat.le_of_ble_eq_true rfl⟩)  rfl rfl (Nat.le_of_ble_eq_true rfl) dX7_reads_16 ⟨Nat.le_of_ble_eq_true rfl, Nat.le_of_ble_eq_true rfl⟩ h (fun M_4 _ h => ?_)
  refine sw_sub (lv1 := [(0, .ref (ad 50))]) [0] rfl ?_
  exact wX7_reads_H19 X hr FU M_4 h

end
theorem okX7_reads (l : Launch) {D : va_G} {cy : Nat → ClassId} {ad : Nat → Nat} (hD : ∀ M : Mem, va_D (AA ad iY) (wl cy ad iY M)) (M : Mem) (z : Int32 × Mem) (h : fX7_reads M = some z) : CTI l yX7_reads (wsG yX7_reads cX7_reads 3 (some .boolean)) rm_X7_reads D cy ad iY [.ref (ad 50)] M z :=
  met_of (cc := cX7_reads) (maxL := 3) (ret := (some .boolean)) (own := RX7) (by decide) rfl rfl hD ndY (Nat.le_of_ble_eq_true rfl) (fun p e s m below meth c X hr => wX7_reads_E X hr M h)
abbrev QX7_pattern (below : List Frame) (D : va_G) (cy : Nat → ClassId) (ad : Nat → Nat) (args : Array Value) (s : State) (z : Int32 × Mem) : State → Prop := MQ below (va_Qi (fun r u => r = z.1 ∧ u = z.2) (BB D cy ad iY) (AA ad iY)) args s 0 0 (AA ad iY)
section
variable {p : Program} {l : Launch} {e : Env} {s : State} {m : MethodId} {args : Array Value} {below : List Frame} {meth : Method} {c : Code} {D : va_G} {cy : Nat → ClassId} {ad : Nat → Nat} {z : Int32 × Mem}
set_option maxHeartbeats 4000000 in
set_option maxRecDepth 100000 in
theorem wX7_pattern_H59 (X : CX p s m args meth c D cy ad iY cX7_pattern 3 (wsG yX7_pattern cX7_pattern 3 (some .int)) RX7) (hr : meth.sig.returnType = (some .int)) : ∀ (n : Nat) (x2 : Int32) (M : Mem), fX7_pattern_H59 n x2 M = some z → SW p l e rm_X7_pattern s m args below meth c 0 0 (QX7_pattern below D cy ad args s z) 3 (PH D cy ad iY s M) 59 [(0, .ref (ad 50)), (2, .int x2)] [] := by
  have hx := X.1
  have hb := X.2.1
  intro n
  induction n with
  | zero =>
    intro x2 M h
    have h : (none : Option (Int32 × Mem)) = some z := h
    cases h
  | succ n ih =>
    intro x2 M h
    rw [fX7_pattern_H59] at h
    refine sw_iload_n hx hb dX7_pattern_59 1 rfl rfl ?_
    refine sw_bipush hx hb 60 dX7_pattern_60 (by decide) ?_
    refine sw_icmp_ge hx hb 83 dX7_pattern_62 (by decide) h (fun h => ?_) (fun h => ?_)
    · refine sw_aload_n hx hb dX7_pattern_83 0 rfl rfl ?_
      refine sw_aload_n hx hb dX7_pattern_84 0 rfl rfl ?_
      refine sw_get X inG7 mi_50 (ce_7 (rfl : kd 50 = 7)) rfl 27 (by decide) (goodW wd418) rfl dX7_pattern_85 ?_
      refine sw_iconst hx hb 0 dX7_pattern_88 (by decide) ?_
      refine sw_lald X mi_78 (rfl : kd 78 = 10) dX7_pattern_89 h (fun v_5 h => ?_)
      refine sw_putJ X tyX7 tyX7_ok nmX7 inG7 mi_50 (ce_7 (rfl : kd 50 = 7)) rfl 20 (by decide) (goodW wd477) rfl (by decide +kernel : parseFieldDescriptor _ = some .long) rfl rfl (Nat.le_of_ble_eq_true rfl) (pu_7_20 (rfl : kd 50 = 7) _) dX7_pattern_90 h (fun M_6 h => ?_)
      refine sw_aload_n hx hb dX7_pattern_93 0 rfl rfl ?_
      refine sw_aload_n hx hb dX7_pattern_94 0 rfl rfl ?_
      refine sw_get X inG7 mi_50 (ce_7 (rfl : kd 50 = 7)) rfl 28 (by decide) (goodW wd419) rfl dX7_pattern_95 ?_
      refine sw_iconst hx hb 0 dX7_pattern_98 (by decide) ?_
      refine sw_lald X mi_79 (rfl : kd 79 = 10) dX7_pattern_99 h (fun v_7 h => ?_)
      refine sw_putJ X tyX7 tyX7_ok nmX7 inG7 mi_50 (ce_7 (rfl : kd 50 = 7)) rfl 21 (by decide) (goodW wd478) rfl (by decide +kernel : parseFieldDescriptor _ = some .long) rfl rfl (Nat.le_of_ble_eq_true rfl) (pu_7_21 (rfl : kd 50 = 7) _) dX7_pattern_100 h (fun M_8 h => ?_)
      refine sw_aload_n hx hb dX7_pattern_103 0 rfl rfl ?_
      refine sw_get X inG7 mi_50 (ce_7 (rfl : kd 50 = 7)) rfl 17 (by decide) (goodW wd476) rfl dX7_pattern_104 ?_
      exact sw_Iret X hr dX7_pattern_107 h
    · refine sw_aload_n hx hb dX7_pattern_65 0 rfl rfl ?_
      refine sw_get X inG7 mi_50 (ce_7 (rfl : kd 50 = 7)) rfl 19 (by decide) (goodW wd479) rfl dX7_pattern_66 ?_
      refine sw_iload_n hx hb dX7_pattern_69 1 rfl rfl ?_
      refine sw_aload_n hx hb dX7_pattern_70 0 rfl rfl ?_
      refine sw_get X inG7 mi_50 (ce_7 (rfl : kd 50 = 7)) rfl 24 (by decide) (goodW wd428) rfl dX7_pattern_71 ?_
      refine sw_iload_n hx hb dX7_pattern_74 1 rfl rfl ?_
      refine sw_lald X mi_75 (rfl : kd 75 = 10) dX7_pattern_75 h (fun v_9 h => ?_)
      refine sw_last X mi_70 (rfl : kd 70 = 10) dX7_pattern_76 h (fun M_10 h => ?_)
      refine sw_iincN hx hb (k := 1) (x2 + 1) (fun x2_11 => [(2, .int x2_11), (0, .ref (ad 50))]) dX7_pattern_77 rfl (by rfl) (by decide) (fun _ => rfl) h (fun x2_11 h => ?_)
      refine sw_goto hx hb 59 dX7_pattern_80 (by decide) ?_
      refine sw_sub (lv1 := [(0, .ref (ad 50)), (2, .int x2_11)]) [1, 0] rfl ?_
      exact ih x2_11 M_10 h

set_option maxHeartbeats 4000000 in
set_option maxRecDepth 100000 in
theorem wX7_pattern_H32 (X : CX p s m args meth c D cy ad iY cX7_pattern 3 (wsG yX7_pattern cX7_pattern 3 (some .int)) RX7) (hr : meth.sig.returnType = (some .int)) : ∀ (n : Nat) (x2 : Int32) (M : Mem), fX7_pattern_H32 n x2 M = some z → SW p l e rm_X7_pattern s m args below meth c 0 0 (QX7_pattern below D cy ad args s z) 3 (PH D cy ad iY s M) 32 [(0, .ref (ad 50)), (2, .int x2)] [] := by
  have hx := X.1
  have hb := X.2.1
  intro n
  induction n with
  | zero =>
    intro x2 M h
    have h : (none : Option (Int32 × Mem)) = some z := h
    cases h
  | succ n ih =>
    intro x2 M h
    rw [fX7_pattern_H32] at h
    refine sw_iload_n hx hb dX7_pattern_32 1 rfl rfl ?_
    refine sw_sipush hx hb 240 dX7_pattern_33 (by decide) ?_
    refine sw_icmp_ge hx hb 57 dX7_pattern_36 (by decide) h (fun h => ?_) (fun h => ?_)
    · refine sw_iconst hx hb 0 dX7_pattern_57 (by decide) ?_
      refine sw_istore_n hx hb [(2, .int 0), (0, .ref (ad 50))] dX7_pattern_58 rfl (by decide) rfl ?_
      refine sw_sub (lv1 := [(0, .ref (ad 50)), (2, .int 0)]) [1, 0] rfl ?_
      exact wX7_pattern_H59 X hr FU 0 M h
    · refine sw_aload_n hx hb dX7_pattern_39 0 rfl rfl ?_
      refine sw_get X inG7 mi_50 (ce_7 (rfl : kd 50 = 7)) rfl 18 (by decide) (goodW wd480) rfl dX7_pattern_40 ?_
      refine sw_iload_n hx hb dX7_pattern_43 1 rfl rfl ?_
      refine sw_aload_n hx hb dX7_pattern_44 0 rfl rfl ?_
      refine sw_get X inG7 mi_50 (ce_7 (rfl : kd 50 = 7)) rfl 23 (by decide) (goodW wd433) rfl dX7_pattern_45 ?_
      refine sw_iload_n hx hb dX7_pattern_48 1 rfl rfl ?_
      refine sw_lald X mi_74 (rfl : kd 74 = 10) dX7_pattern_49 h (fun v_12 h => ?_)
      refine sw_last X mi_69 (rfl : kd 69 = 10) dX7_pattern_50 h (fun M_13 h => ?_)
      refine sw_iincN hx hb (k := 1) (x2 + 1) (fun x2_14 => [(2, .int x2_14), (0, .ref (ad 50))]) dX7_pattern_51 rfl (by rfl) (by decide) (fun _ => rfl) h (fun x2_14 h => ?_)
      refine sw_goto hx hb 32 dX7_pattern_54 (by decide) ?_
      refine sw_sub (lv1 := [(0, .ref (ad 50)), (2, .int x2_14)]) [1, 0] rfl ?_
      exact ih x2_14 M_13 h

set_option maxHeartbeats 4000000 in
set_option maxRecDepth 100000 in
theorem wX7_pattern_E (X : CX p s m args meth c D cy ad iY cX7_pattern 3 (wsG yX7_pattern cX7_pattern 3 (some .int)) RX7) (hr : meth.sig.returnType = (some .int)) (M : Mem) (h : fX7_pattern M = some z) : SW p l e rm_X7_pattern s m args below meth c 0 0 (QX7_pattern below D cy ad args s z) 3 (PH D cy ad iY s M) 0 [(0, .ref (ad 50))] [] := by
  have hx := X.1
  have hb := X.2.1
  unfold fX7_pattern at h
  refine sw_aload_n hx hb dX7_pattern_0 0 rfl rfl ?_
  refine sw_callVI (C := RX7) (As := []) (rest := []) X mi_50 (ce_7 (rfl : kd 50 = 7)) rfl rfl (fun _ hz => okX7_reads l X.2.2.2.2.2.2.1 M _ hz) (cwX7_173 X.2.2.2.2.1 ⟨Nat.le_of_ble_eq_true rfl, Nat.le_of_ble_eq_true rfl⟩)  rfl rfl (Nat.le_of_ble_eq_true rfl) dX7_pattern_1 ⟨Nat.le_of_ble_eq_true rfl, Nat.le_of_ble_eq_true rfl⟩ h (fun v_2 M_1 _ h => ?_)
  refine sw_istore_n hx hb [(1, .int v_2), (0, .ref (ad 50))] dX7_pattern_4 rfl (by decide) rfl ?_
  refine sw_aload_n hx hb dX7_pattern_5 1 rfl rfl ?_
  refine sw_iconst hx hb 0 dX7_pattern_6 (by decide) ?_
  refine sw_putI X tyX7 tyX7_ok nmX7 inG7 mi_50 (ce_7 (rfl : kd 50 = 7)) rfl 1 (by decide) (goodW wd405) rfl (by decide +kernel : parseFieldDescriptor _ = some .int) rfl rfl (Nat.le_of_ble_eq_true rfl) (pu_7_1 (rfl : kd 50 = 7) _) dX7_pattern_7 h (fun M_3 h => ?_)
  refine sw_iload_n hx hb dX7_pattern_10 0 rfl rfl ?_
  refine sw_if_ne hx hb 22 dX7_pattern_11 (by decide) h (fun h => ?_) (fun h => ?_)
  · refine sw_aload_n hx hb dX7_pattern_22 1 rfl rfl ?_
    refine sw_aload_n hx hb dX7_pattern_23 1 rfl rfl ?_
    refine sw_get X inG7 mi_50 (ce_7 (rfl : kd 50 = 7)) rfl 22 (by decide) (goodW wd424) rfl dX7_pattern_24 ?_
    refine sw_putI X tyX7 tyX7_ok nmX7 inG7 mi_50 (ce_7 (rfl : kd 50 = 7)) rfl 17 (by decide) (goodW wd476) rfl (by decide +kernel : parseFieldDescriptor _ = some .int) rfl rfl (Nat.le_of_ble_eq_true rfl) (pu_7_17 (rfl : kd 50 = 7) _) dX7_pattern_27 h (fun M_4 h => ?_)
    refine sw_iconst hx hb 0 dX7_pattern_30 (by decide) ?_
    refine sw_istore_n hx hb [(2, .int 0), (1, .int v_2), (0, .ref (ad 50))] dX7_pattern_31 rfl (by decide) rfl ?_
    refine sw_sub (lv1 := [(0, .ref (ad 50)), (2, .int 0)]) [2, 0] rfl ?_
    exact wX7_pattern_H32 X hr FU 0 M_4 h
  · refine sw_bipush hx hb (-10) dX7_pattern_14 (by decide) ?_
    refine sw_aload_n hx hb dX7_pattern_16 1 rfl rfl ?_
    refine sw_get X inG7 mi_50 (ce_7 (rfl : kd 50 = 7)) rfl 37 (by decide) (goodW wd410) rfl dX7_pattern_17 ?_
    refine sw_isub hx hb dX7_pattern_20 ?_
    exact sw_Iret X hr dX7_pattern_21 h

end
theorem okX7_pattern (l : Launch) {D : va_G} {cy : Nat → ClassId} {ad : Nat → Nat} (hD : ∀ M : Mem, va_D (AA ad iY) (wl cy ad iY M)) (M : Mem) (z : Int32 × Mem) (h : fX7_pattern M = some z) : CTI l yX7_pattern (wsG yX7_pattern cX7_pattern 3 (some .int)) rm_X7_pattern D cy ad iY [.ref (ad 50)] M z :=
  met_of (cc := cX7_pattern) (maxL := 3) (ret := (some .int)) (own := RX7) (by decide) rfl rfl hD ndY (Nat.le_of_ble_eq_true rfl) (fun p e s m below meth c X hr => wX7_pattern_E X hr M h)
abbrev QX7_matches (below : List Frame) (D : va_G) (cy : Nat → ClassId) (ad : Nat → Nat) (args : Array Value) (s : State) (z : Int32 × Mem) : State → Prop := MQ below (va_Qi (fun r u => r = z.1 ∧ u = z.2) (BB D cy ad iY) (AA ad iY)) args s 0 0 (AA ad iY)
section
variable {p : Program} {l : Launch} {e : Env} {s : State} {m : MethodId} {args : Array Value} {below : List Frame} {meth : Method} {c : Code} {D : va_G} {cy : Nat → ClassId} {ad : Nat → Nat} {z : Int32 × Mem}
set_option maxHeartbeats 4000000 in
set_option maxRecDepth 100000 in
theorem wX7_matches_L143 (X : CX p s m args meth c D cy ad iY cX7_matches 11 (wsG yX7_matches cX7_matches 11 (some .int)) RX7) (hr : meth.sig.returnType = (some .int)) (k11 : Int32 → Int64 → Int32 → Int32 → Mem → Option (Int32 × Mem)) (hk11 : ∀ (x1 : Int32) (x2 : Int64) (x4 : Int32) (x5 : Int32) (M : Mem), k11 x1 x2 x4 x5 M = some z → SW p l e rm_X7_matches s m args below meth c 0 0 (QX7_matches below D cy ad args s z) 11 (PH D cy ad iY s M) 11 [(0, .ref (ad 50)), (1, .int x1), (2, .long x2), (4, .int x4), (5, .int x5)] []) (x1 : Int32) (x5 : Int32) (x8 : Int64) (y0 : Int32) (M : Mem) (h : fX7_matches_L143 k11 x1 x5 x8 y0 M = some z) : SW p l e rm_X7_matches s m args below meth c 0 0 (QX7_matches below D cy ad args s z) 11 (PH D cy ad iY s M) 143 [(0, .ref (ad 50)), (1, .int x1), (5, .int x5), (8, .long x8)] [.int y0] := by
  have hx := X.1
  have hb := X.2.1
  unfold fX7_matches_L143 at h
  refine sw_istore hx hb [(4, .int y0), (0, .ref (ad 50)), (1, .int x1), (5, .int x5), (8, .long x8)] dX7_matches_143 (by decide) rfl ?_
  refine sw_lload hx hb dX7_matches_145 4 rfl ?_
  refine sw_lstore_n hx hb [(2, .long x8), (4, .int y0), (0, .ref (ad 50)), (1, .int x1), (5, .int x5), (8, .long x8)] dX7_matches_147 rfl (by decide) rfl ?_
  refine sw_iincN hx hb (k := 4) (x5 + 1) (fun x5_2 => [(5, .int x5_2), (2, .long x8), (4, .int y0), (0, .ref (ad 50)), (1, .int x1), (8, .long x8)]) dX7_matches_148 rfl (by rfl) (by decide) (fun _ => rfl) h (fun x5_2 h => ?_)
  refine sw_goto hx hb 11 dX7_matches_151 (by decide) ?_
  refine sw_sub (lv1 := [(0, .ref (ad 50)), (1, .int x1), (2, .long x8), (4, .int y0), (5, .int x5_2)]) [3, 4, 1, 2, 0] rfl ?_
  exact hk11 x1 x8 y0 x5_2 M h

set_option maxHeartbeats 4000000 in
set_option maxRecDepth 100000 in
theorem wX7_matches_L114 (X : CX p s m args meth c D cy ad iY cX7_matches 11 (wsG yX7_matches cX7_matches 11 (some .int)) RX7) (hr : meth.sig.returnType = (some .int)) (k11 : Int32 → Int64 → Int32 → Int32 → Mem → Option (Int32 × Mem)) (k35 : Int32 → Int64 → Int32 → Int32 → Int64 → Int64 → Int32 → Mem → Option (Int32 × Mem)) (hk11 : ∀ (x1 : Int32) (x2 : Int64) (x4 : Int32) (x5 : Int32) (M : Mem), k11 x1 x2 x4 x5 M = some z → SW p l e rm_X7_matches s m args below meth c 0 0 (QX7_matches below D cy ad args s z) 11 (PH D cy ad iY s M) 11 [(0, .ref (ad 50)), (1, .int x1), (2, .long x2), (4, .int x4), (5, .int x5)] []) (hk35 : ∀ (x1 : Int32) (x2 : Int64) (x4 : Int32) (x5 : Int32) (x6 : Int64) (x8 : Int64) (x10 : Int32) (M : Mem), k35 x1 x2 x4 x5 x6 x8 x10 M = some z → SW p l e rm_X7_matches s m args below meth c 0 0 (QX7_matches below D cy ad args s z) 11 (PH D cy ad iY s M) 35 [(0, .ref (ad 50)), (1, .int x1), (2, .long x2), (4, .int x4), (5, .int x5), (6, .long x6), (8, .long x8), (10, .int x10)] []) (x1 : Int32) (x2 : Int64) (x4 : Int32) (x5 : Int32) (x6 : Int64) (x8 : Int64) (x10 : Int32) (M : Mem) (h : fX7_matches_L114 k11 k35 x1 x2 x4 x5 x6 x8 x10 M = some z) : SW p l e rm_X7_matches s m args below meth c 0 0 (QX7_matches below D cy ad args s z) 11 (PH D cy ad iY s M) 114 [(0, .ref (ad 50)), (1, .int x1), (2, .long x2), (4, .int x4), (5, .int x5), (6, .long x6), (8, .long x8), (10, .int x10)] [] := by
  have hx := X.1
  have hb := X.2.1
  unfold fX7_matches_L114 at h
  refine sw_iincN hx hb (k := 7) (x10 + 1) (fun x10_3 => [(10, .int x10_3), (0, .ref (ad 50)), (1, .int x1), (2, .long x2), (4, .int x4), (5, .int x5), (6, .long x6), (8, .long x8)]) dX7_matches_114 rfl (by rfl) (by decide) (fun _ => rfl) h (fun x10_3 h => ?_)
  refine sw_goto hx hb 35 dX7_matches_117 (by decide) ?_
  refine sw_sub (lv1 := [(0, .ref (ad 50)), (1, .int x1), (2, .long x2), (4, .int x4), (5, .int x5), (6, .long x6), (8, .long x8), (10, .int x10_3)]) [1, 2, 3, 4, 5, 6, 7, 0] rfl ?_
  exact hk35 x1 x2 x4 x5 x6 x8 x10_3 M h

set_option maxHeartbeats 4000000 in
set_option maxRecDepth 100000 in
theorem wX7_matches_H35 (X : CX p s m args meth c D cy ad iY cX7_matches 11 (wsG yX7_matches cX7_matches 11 (some .int)) RX7) (hr : meth.sig.returnType = (some .int)) (k11 : Int32 → Int64 → Int32 → Int32 → Mem → Option (Int32 × Mem)) (hk11 : ∀ (x1 : Int32) (x2 : Int64) (x4 : Int32) (x5 : Int32) (M : Mem), k11 x1 x2 x4 x5 M = some z → SW p l e rm_X7_matches s m args below meth c 0 0 (QX7_matches below D cy ad args s z) 11 (PH D cy ad iY s M) 11 [(0, .ref (ad 50)), (1, .int x1), (2, .long x2), (4, .int x4), (5, .int x5)] []) : ∀ (n : Nat) (x1 : Int32) (x2 : Int64) (x4 : Int32) (x5 : Int32) (x6 : Int64) (x8 : Int64) (x10 : Int32) (M : Mem), fX7_matches_H35 k11 n x1 x2 x4 x5 x6 x8 x10 M = some z → SW p l e rm_X7_matches s m args below meth c 0 0 (QX7_matches below D cy ad args s z) 11 (PH D cy ad iY s M) 35 [(0, .ref (ad 50)), (1, .int x1), (2, .long x2), (4, .int x4), (5, .int x5), (6, .long x6), (8, .long x8), (10, .int x10)] [] := by
  have hx := X.1
  have hb := X.2.1
  intro n
  induction n with
  | zero =>
    intro x1 x2 x4 x5 x6 x8 x10 M h
    have h : (none : Option (Int32 × Mem)) = some z := h
    cases h
  | succ n ih =>
    intro x1 x2 x4 x5 x6 x8 x10 M h
    rw [fX7_matches_H35] at h
    refine sw_iload hx hb dX7_matches_35 7 rfl ?_
    refine sw_aload_n hx hb dX7_matches_37 0 rfl rfl ?_
    refine sw_get X inG7 mi_50 (ce_7 (rfl : kd 50 = 7)) rfl 17 (by decide) (goodW wd476) rfl dX7_matches_38 ?_
    refine sw_icmp_ge hx hb 120 dX7_matches_41 (by decide) h (fun h => ?_) (fun h => ?_)
    · refine sw_lload hx hb dX7_matches_120 5 rfl ?_
      refine sw_aload_n hx hb dX7_matches_122 0 rfl rfl ?_
      refine sw_get X inG7 mi_50 (ce_7 (rfl : kd 50 = 7)) rfl 21 (by decide) (goodW wd478) rfl dX7_matches_123 ?_
      refine sw_land hx hb dX7_matches_126 ?_
      refine sw_lconst hx hb 0 dX7_matches_127 (by decide) ?_
      refine sw_lcmp hx hb dX7_matches_128 ?_
      refine sw_if_eq hx hb 141 dX7_matches_129 (by decide) h (fun h => ?_) (fun h => ?_)
      · refine sw_iload hx hb dX7_matches_141 3 rfl ?_
        refine sw_sub (lv1 := [(0, .ref (ad 50)), (1, .int x1), (5, .int x5), (8, .long x8)]) [0, 1, 4, 6] rfl ?_
        exact wX7_matches_L143 X hr k11 hk11 x1 x5 x8 x4 M h
      · refine sw_iload hx hb dX7_matches_132 4 rfl ?_
        refine sw_iconst hx hb 1 dX7_matches_134 (by decide) ?_
        refine sw_iadd hx hb dX7_matches_135 ?_
        refine sw_iload_n hx hb dX7_matches_136 1 rfl rfl ?_
        refine sw_isub hx hb dX7_matches_137 ?_
        refine sw_goto hx hb 143 dX7_matches_138 (by decide) ?_
        refine sw_sub (lv1 := [(0, .ref (ad 50)), (1, .int x1), (5, .int x5), (8, .long x8)]) [0, 1, 4, 6] rfl ?_
        exact wX7_matches_L143 X hr k11 hk11 x1 x5 x8 ((x5 + 1) - x1) M h
    · refine sw_lload_n hx hb dX7_matches_44 2 rfl rfl ?_
      refine sw_iload hx hb dX7_matches_45 7 rfl ?_
      refine sw_lshr hx hb dX7_matches_47 ?_
      refine sw_lconst hx hb 1 dX7_matches_48 (by decide) ?_
      refine sw_land hx hb dX7_matches_49 ?_
      refine sw_lconst hx hb 1 dX7_matches_50 (by decide) ?_
      refine sw_lcmp hx hb dX7_matches_51 ?_
      refine sw_if_ne hx hb 114 dX7_matches_52 (by decide) h (fun h => ?_) (fun h => ?_)
      · refine sw_sub (lv1 := [(0, .ref (ad 50)), (1, .int x1), (2, .long x2), (4, .int x4), (5, .int x5), (6, .long x6), (8, .long x8), (10, .int x10)]) [0, 1, 2, 3, 4, 5, 6, 7] rfl ?_
        exact wX7_matches_L114 X hr k11 (fX7_matches_H35 k11 n) hk11 ih x1 x2 x4 x5 x6 x8 x10 M h
      · refine sw_aload_n hx hb dX7_matches_55 0 rfl rfl ?_
        refine sw_get X inG7 mi_50 (ce_7 (rfl : kd 50 = 7)) rfl 18 (by decide) (goodW wd480) rfl dX7_matches_56 ?_
        refine sw_iconst hx hb 4 dX7_matches_59 (by decide) ?_
        refine sw_iload hx hb dX7_matches_60 7 rfl ?_
        refine sw_imul hx hb dX7_matches_62 ?_
        refine sw_aload_n hx hb dX7_matches_63 0 rfl rfl ?_
        refine sw_get X inG7 mi_50 (ce_7 (rfl : kd 50 = 7)) rfl 2 (by decide) (goodW wd409) rfl dX7_matches_64 ?_
        refine sw_iload hx hb dX7_matches_67 4 rfl ?_
        refine sw_iald X mi_53 (rfl : kd 53 = 9) dX7_matches_69 h (fun v_4 h => ?_)
        refine sw_bipush hx hb 64 dX7_matches_70 (by decide) ?_
        refine sw_idiv hx hb dX7_matches_72 (by decide) ?_
        refine sw_iadd hx hb dX7_matches_73 ?_
        refine sw_lald X mi_69 (rfl : kd 69 = 10) dX7_matches_74 h (fun v_5 h => ?_)
        refine sw_aload_n hx hb dX7_matches_75 0 rfl rfl ?_
        refine sw_get X inG7 mi_50 (ce_7 (rfl : kd 50 = 7)) rfl 2 (by decide) (goodW wd409) rfl dX7_matches_76 ?_
        refine sw_iload hx hb dX7_matches_79 4 rfl ?_
        refine sw_iald X mi_53 (rfl : kd 53 = 9) dX7_matches_81 h (fun v_6 h => ?_)
        refine sw_bipush hx hb 64 dX7_matches_82 (by decide) ?_
        refine sw_irem hx hb dX7_matches_84 (by decide) ?_
        refine sw_lshr hx hb dX7_matches_85 ?_
        refine sw_lconst hx hb 1 dX7_matches_86 (by decide) ?_
        refine sw_land hx hb dX7_matches_87 ?_
        refine sw_lconst hx hb 1 dX7_matches_88 (by decide) ?_
        refine sw_lcmp hx hb dX7_matches_89 ?_
        refine sw_if_ne hx hb 114 dX7_matches_90 (by decide) h (fun h => ?_) (fun h => ?_)
        · refine sw_sub (lv1 := [(0, .ref (ad 50)), (1, .int x1), (2, .long x2), (4, .int x4), (5, .int x5), (6, .long x6), (8, .long x8), (10, .int x10)]) [0, 1, 2, 3, 4, 5, 6, 7] rfl ?_
          exact wX7_matches_L114 X hr k11 (fX7_matches_H35 k11 n) hk11 ih x1 x2 x4 x5 x6 x8 x10 M h
        · refine sw_lload hx hb dX7_matches_93 5 rfl ?_
          refine sw_lconst hx hb 1 dX7_matches_95 (by decide) ?_
          refine sw_iload hx hb dX7_matches_96 7 rfl ?_
          refine sw_lshl hx hb dX7_matches_98 ?_
          refine sw_lor hx hb dX7_matches_99 ?_
          refine sw_lstoreN hx hb (fun x6_7 => [(6, .long x6_7), (0, .ref (ad 50)), (1, .int x1), (2, .long x2), (4, .int x4), (5, .int x5), (8, .long x8), (10, .int x10)]) dX7_matches_100 (by decide) (fun _ => rfl) h (fun x6_7 h => ?_)
          refine sw_lload hx hb dX7_matches_102 6 rfl ?_
          refine sw_aload_n hx hb dX7_matches_104 1 rfl rfl ?_
          refine sw_get X inG7 mi_50 (ce_7 (rfl : kd 50 = 7)) rfl 19 (by decide) (goodW wd479) rfl dX7_matches_105 ?_
          refine sw_iload hx hb dX7_matches_108 7 rfl ?_
          refine sw_lald X mi_70 (rfl : kd 70 = 10) dX7_matches_110 h (fun v_8 h => ?_)
          refine sw_lor hx hb dX7_matches_111 ?_
          refine sw_lstoreN hx hb (fun x8_9 => [(8, .long x8_9), (6, .long x6_7), (0, .ref (ad 50)), (1, .int x1), (2, .long x2), (4, .int x4), (5, .int x5), (10, .int x10)]) dX7_matches_112 (by decide) (fun _ => rfl) h (fun x8_9 h => ?_)
          refine sw_sub (lv1 := [(0, .ref (ad 50)), (1, .int x1), (2, .long x2), (4, .int x4), (5, .int x5), (6, .long x6_7), (8, .long x8_9), (10, .int x10)]) [2, 3, 4, 5, 6, 1, 0, 7] rfl ?_
          exact wX7_matches_L114 X hr k11 (fX7_matches_H35 k11 n) hk11 ih x1 x2 x4 x5 x6_7 x8_9 x10 M h

set_option maxHeartbeats 4000000 in
set_option maxRecDepth 100000 in
theorem wX7_matches_H11 (X : CX p s m args meth c D cy ad iY cX7_matches 11 (wsG yX7_matches cX7_matches 11 (some .int)) RX7) (hr : meth.sig.returnType = (some .int)) : ∀ (n : Nat) (x1 : Int32) (x2 : Int64) (x4 : Int32) (x5 : Int32) (M : Mem), fX7_matches_H11 n x1 x2 x4 x5 M = some z → SW p l e rm_X7_matches s m args below meth c 0 0 (QX7_matches below D cy ad args s z) 11 (PH D cy ad iY s M) 11 [(0, .ref (ad 50)), (1, .int x1), (2, .long x2), (4, .int x4), (5, .int x5)] [] := by
  have hx := X.1
  have hb := X.2.1
  intro n
  induction n with
  | zero =>
    intro x1 x2 x4 x5 M h
    have h : (none : Option (Int32 × Mem)) = some z := h
    cases h
  | succ n ih =>
    intro x1 x2 x4 x5 M h
    rw [fX7_matches_H11] at h
    refine sw_iload hx hb dX7_matches_11 4 rfl ?_
    refine sw_aload_n hx hb dX7_matches_13 0 rfl rfl ?_
    refine sw_get X inG7 mi_50 (ce_7 (rfl : kd 50 = 7)) rfl 3 (by decide) (goodW wd407) rfl dX7_matches_14 ?_
    refine sw_icmp_ge hx hb 154 dX7_matches_17 (by decide) h (fun h => ?_) (fun h => ?_)
    · refine sw_iload hx hb dX7_matches_154 3 rfl ?_
      exact sw_Iret X hr dX7_matches_156 h
    · refine sw_lload_n hx hb dX7_matches_20 2 rfl rfl ?_
      refine sw_lconst hx hb 0 dX7_matches_21 (by decide) ?_
      refine sw_lcmp hx hb dX7_matches_22 ?_
      refine sw_if_eq hx hb 154 dX7_matches_23 (by decide) h (fun h => ?_) (fun h => ?_)
      · refine sw_iload hx hb dX7_matches_154 3 rfl ?_
        exact sw_Iret X hr dX7_matches_156 h
      · refine sw_lconst hx hb 0 dX7_matches_26 (by decide) ?_
        refine sw_lstore hx hb [(6, .long 0), (0, .ref (ad 50)), (1, .int x1), (2, .long x2), (4, .int x4), (5, .int x5)] dX7_matches_27 (by decide) rfl ?_
        refine sw_lconst hx hb 0 dX7_matches_29 (by decide) ?_
        refine sw_lstore hx hb [(8, .long 0), (6, .long 0), (0, .ref (ad 50)), (1, .int x1), (2, .long x2), (4, .int x4), (5, .int x5)] dX7_matches_30 (by decide) rfl ?_
        refine sw_iconst hx hb 0 dX7_matches_32 (by decide) ?_
        refine sw_istore hx hb [(10, .int 0), (8, .long 0), (6, .long 0), (0, .ref (ad 50)), (1, .int x1), (2, .long x2), (4, .int x4), (5, .int x5)] dX7_matches_33 (by decide) rfl ?_
        refine sw_sub (lv1 := [(0, .ref (ad 50)), (1, .int x1), (2, .long x2), (4, .int x4), (5, .int x5), (6, .long 0), (8, .long 0), (10, .int 0)]) [3, 4, 5, 6, 7, 2, 1, 0] rfl ?_
        exact wX7_matches_H35 X hr (fX7_matches_H11 n) ih FU x1 x2 x4 x5 0 0 0 M h

set_option maxHeartbeats 4000000 in
set_option maxRecDepth 100000 in
theorem wX7_matches_E (X : CX p s m args meth c D cy ad iY cX7_matches 11 (wsG yX7_matches cX7_matches 11 (some .int)) RX7) (hr : meth.sig.returnType = (some .int)) (x1 : Int32) (M : Mem) (h : fX7_matches x1 M = some z) : SW p l e rm_X7_matches s m args below meth c 0 0 (QX7_matches below D cy ad args s z) 11 (PH D cy ad iY s M) 0 [(0, .ref (ad 50)), (1, .int x1)] [] := by
  have hx := X.1
  have hb := X.2.1
  unfold fX7_matches at h
  refine sw_aload_n hx hb dX7_matches_0 0 rfl rfl ?_
  refine sw_get X inG7 mi_50 (ce_7 (rfl : kd 50 = 7)) rfl 20 (by decide) (goodW wd477) rfl dX7_matches_1 ?_
  refine sw_lstore_nN hx hb (fun x2_1 => [(2, .long x2_1), (0, .ref (ad 50)), (1, .int x1)]) dX7_matches_4 rfl (by decide) (fun _ => rfl) h (fun x2_1 h => ?_)
  refine sw_iconst hx hb 0 dX7_matches_5 (by decide) ?_
  refine sw_istore hx hb [(4, .int 0), (2, .long x2_1), (0, .ref (ad 50)), (1, .int x1)] dX7_matches_6 (by decide) rfl ?_
  refine sw_iload_n hx hb dX7_matches_8 3 rfl rfl ?_
  refine sw_istore hx hb [(5, .int x1), (4, .int 0), (2, .long x2_1), (0, .ref (ad 50)), (1, .int x1)] dX7_matches_9 (by decide) rfl ?_
  refine sw_sub (lv1 := [(0, .ref (ad 50)), (1, .int x1), (2, .long x2_1), (4, .int 0), (5, .int x1)]) [3, 4, 2, 1, 0] rfl ?_
  exact wX7_matches_H11 X hr FU x1 x2_1 0 x1 M h

end
theorem okX7_matches (l : Launch) {D : va_G} {cy : Nat → ClassId} {ad : Nat → Nat} (hD : ∀ M : Mem, va_D (AA ad iY) (wl cy ad iY M)) (x1 : Int32) (M : Mem) (z : Int32 × Mem) (h : fX7_matches x1 M = some z) : CTI l yX7_matches (wsG yX7_matches cX7_matches 11 (some .int)) rm_X7_matches D cy ad iY [.ref (ad 50), .int x1] M z :=
  met_of (cc := cX7_matches) (maxL := 11) (ret := (some .int)) (own := RX7) (by decide) rfl rfl hD ndY (Nat.le_of_ble_eq_true rfl) (fun p e s m below meth c X hr => wX7_matches_E X hr x1 M h)
abbrev QX7_match (below : List Frame) (D : va_G) (cy : Nat → ClassId) (ad : Nat → Nat) (args : Array Value) (s : State) (z : Int32 × Mem) : State → Prop := MQ below (va_Qi (fun r u => r = z.1 ∧ u = z.2) (BB D cy ad iY) (AA ad iY)) args s 0 0 (AA ad iY)
section
variable {p : Program} {l : Launch} {e : Env} {s : State} {m : MethodId} {args : Array Value} {below : List Frame} {meth : Method} {c : Code} {D : va_G} {cy : Nat → ClassId} {ad : Nat → Nat} {z : Int32 × Mem}
set_option maxHeartbeats 4000000 in
set_option maxRecDepth 100000 in
theorem wX7_match_E (X : CX p s m args meth c D cy ad iY cX7_match 2 (wsG yX7_match cX7_match 2 (some .int)) RX7) (hr : meth.sig.returnType = (some .int)) (x1 : Int32) (M : Mem) (h : fX7_match x1 M = some z) : SW p l e rm_X7_match s m args below meth c 0 0 (QX7_match below D cy ad args s z) 2 (PH D cy ad iY s M) 0 [(0, .ref (ad 50)), (1, .int x1)] [] := by
  have hx := X.1
  have hb := X.2.1
  unfold fX7_match at h
  refine sw_iload_n hx hb dX7_match_0 1 rfl rfl ?_
  refine sw_iconst hx hb 0 dX7_match_1 (by decide) ?_
  refine sw_aload_n hx hb dX7_match_2 0 rfl rfl ?_
  refine sw_get X inG7 mi_50 (ce_7 (rfl : kd 50 = 7)) rfl 3 (by decide) (goodW wd407) rfl dX7_match_3 ?_
  refine sw_iconst hx hb 1 dX7_match_6 (by decide) ?_
  refine sw_isub hx hb dX7_match_7 ?_
  refine sw_callSI (As := [.int x1, .int 0, .int ((gI M 50 3) - 1)]) (rest := []) X (fun _ hz => okX7_isIn l X.2.2.2.2.2.2.1 x1 0 ((gI M 50 3) - 1) M _ hz) (cwX7_85 X.2.2.2.2.1 ⟨Nat.le_of_ble_eq_true rfl, Nat.le_of_ble_eq_true rfl⟩)  rfl rfl (Nat.le_of_ble_eq_true rfl) dX7_match_8 ⟨Nat.le_of_ble_eq_true rfl, Nat.le_of_ble_eq_true rfl⟩ h (fun v_2 M_1 _ h => ?_)
  refine sw_if_eq hx hb 22 dX7_match_11 (by decide) h (fun h => ?_) (fun h => ?_)
  · refine sw_iconst hx hb (-1) dX7_match_22 (by decide) ?_
    exact sw_Iret X hr dX7_match_23 h
  · refine sw_aload_n hx hb dX7_match_14 0 rfl rfl ?_
    refine sw_iload_n hx hb dX7_match_15 1 rfl rfl ?_
    refine sw_callVI (C := RX7) (As := [.int x1]) (rest := []) X mi_50 (ce_7 (rfl : kd 50 = 7)) rfl rfl (fun _ hz => okX7_matches l X.2.2.2.2.2.2.1 x1 M_1 _ hz) (cwX7_185 X.2.2.2.2.1 ⟨Nat.le_of_ble_eq_true rfl, Nat.le_of_ble_eq_true rfl⟩)  rfl rfl (Nat.le_of_ble_eq_true rfl) dX7_match_16 ⟨Nat.le_of_ble_eq_true rfl, Nat.le_of_ble_eq_true rfl⟩ h (fun v_4 M_3 _ h => ?_)
    refine sw_goto hx hb 23 dX7_match_19 (by decide) ?_
    exact sw_Iret X hr dX7_match_23 h

end
theorem okX7_match (l : Launch) {D : va_G} {cy : Nat → ClassId} {ad : Nat → Nat} (hD : ∀ M : Mem, va_D (AA ad iY) (wl cy ad iY M)) (x1 : Int32) (M : Mem) (z : Int32 × Mem) (h : fX7_match x1 M = some z) : CTI l yX7_match (wsG yX7_match cX7_match 2 (some .int)) rm_X7_match D cy ad iY [.ref (ad 50), .int x1] M z :=
  met_of (cc := cX7_match) (maxL := 2) (ret := (some .int)) (own := RX7) (by decide) rfl rfl hD ndY (Nat.le_of_ble_eq_true rfl) (fun p e s m below meth c X hr => wX7_match_E X hr x1 M h)
