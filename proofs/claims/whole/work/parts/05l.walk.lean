abbrev QX7_signOfSet (below : List Frame) (D : va_G) (cy : Nat → ClassId) (ad : Nat → Nat) (args : Array Value) (s : State) (z : Int32 × Mem) : State → Prop := MQ below (va_Qi (fun r u => r = z.1 ∧ u = z.2) (BB D cy ad iY) (AA ad iY)) args s 0 0 (AA ad iY)
section
variable {p : Program} {l : Launch} {e : Env} {s : State} {m : MethodId} {args : Array Value} {below : List Frame} {meth : Method} {c : Code} {D : va_G} {cy : Nat → ClassId} {ad : Nat → Nat} {z : Int32 × Mem}
set_option maxHeartbeats 4000000 in
set_option maxRecDepth 100000 in
theorem wX7_signOfSet_L110 (X : CX p s m args meth c D cy ad iY cX7_signOfSet 3 (wsG yX7_signOfSet cX7_signOfSet 3 (some .boolean)) RX7) (hr : meth.sig.returnType = (some .boolean)) (x2 : Int32) (y0 : Int32) (y1 : Int32) (M : Mem) (h : fX7_signOfSet_L110 x2 y0 y1 M = some z) : SW p l e rm_X7_signOfSet s m args below meth c 0 0 (QX7_signOfSet below D cy ad args s z) 3 (PH D cy ad iY s M) 110 [(2, .int x2)] [.int y0, .int y1, .ref (ad 50)] := by
  have hx := X.1
  have hb := X.2.1
  unfold fX7_signOfSet_L110 at h
  refine sw_iadd hx hb dX7_signOfSet_110 ?_
  refine sw_putI X tyX7 tyX7_ok nmX7 inG7 mi_50 (ce_7 (rfl : kd 50 = 7)) rfl 37 (by decide) (goodW wd410) rfl (by decide +kernel : parseFieldDescriptor _ = some .int) rfl rfl (Nat.le_of_ble_eq_true rfl) (pu_7_37 (rfl : kd 50 = 7) _) dX7_signOfSet_111 h (fun M_4 h => ?_)
  refine sw_iload_n hx hb dX7_signOfSet_114 0 rfl rfl ?_
  exact sw_Zret X hr dX7_signOfSet_115 h

set_option maxHeartbeats 4000000 in
set_option maxRecDepth 100000 in
theorem wX7_signOfSet_L95 (X : CX p s m args meth c D cy ad iY cX7_signOfSet 3 (wsG yX7_signOfSet cX7_signOfSet 3 (some .boolean)) RX7) (hr : meth.sig.returnType = (some .boolean)) (y0 : Int32) (M : Mem) (h : fX7_signOfSet_L95 y0 M = some z) : SW p l e rm_X7_signOfSet s m args below meth c 0 0 (QX7_signOfSet below D cy ad args s z) 3 (PH D cy ad iY s M) 95 [(0, .ref (ad 50))] [.int y0] := by
  have hx := X.1
  have hb := X.2.1
  unfold fX7_signOfSet_L95 at h
  refine sw_istore_n hx hb [(2, .int y0), (0, .ref (ad 50))] dX7_signOfSet_95 rfl (by decide) rfl ?_
  refine sw_aload_n hx hb dX7_signOfSet_96 1 rfl rfl ?_
  refine sw_dup hx hb dX7_signOfSet_97 rfl ?_
  refine sw_get X inG7 mi_50 (ce_7 (rfl : kd 50 = 7)) rfl 37 (by decide) (goodW wd410) rfl dX7_signOfSet_98 ?_
  refine sw_iload_n hx hb dX7_signOfSet_101 0 rfl rfl ?_
  refine sw_if_eq hx hb 109 dX7_signOfSet_102 (by decide) h (fun h => ?_) (fun h => ?_)
  · refine sw_iconst hx hb 0 dX7_signOfSet_109 (by decide) ?_
    refine sw_sub (lv1 := [(2, .int y0)]) [0] rfl ?_
    exact wX7_signOfSet_L110 X hr y0 0 (gI M 50 37) M h
  · refine sw_iconst hx hb 1 dX7_signOfSet_105 (by decide) ?_
    refine sw_goto hx hb 110 dX7_signOfSet_106 (by decide) ?_
    refine sw_sub (lv1 := [(2, .int y0)]) [0] rfl ?_
    exact wX7_signOfSet_L110 X hr y0 1 (gI M 50 37) M h

set_option maxHeartbeats 4000000 in
set_option maxRecDepth 100000 in
theorem wX7_signOfSet_L94 (X : CX p s m args meth c D cy ad iY cX7_signOfSet 3 (wsG yX7_signOfSet cX7_signOfSet 3 (some .boolean)) RX7) (hr : meth.sig.returnType = (some .boolean)) (M : Mem) (h : fX7_signOfSet_L94 M = some z) : SW p l e rm_X7_signOfSet s m args below meth c 0 0 (QX7_signOfSet below D cy ad args s z) 3 (PH D cy ad iY s M) 94 [(0, .ref (ad 50))] [] := by
  have hx := X.1
  have hb := X.2.1
  unfold fX7_signOfSet_L94 at h
  refine sw_iconst hx hb 0 dX7_signOfSet_94 (by decide) ?_
  refine sw_sub (lv1 := [(0, .ref (ad 50))]) [0] rfl ?_
  exact wX7_signOfSet_L95 X hr 0 M h

set_option maxHeartbeats 4000000 in
set_option maxRecDepth 100000 in
theorem wX7_signOfSet_L46 (X : CX p s m args meth c D cy ad iY cX7_signOfSet 3 (wsG yX7_signOfSet cX7_signOfSet 3 (some .boolean)) RX7) (hr : meth.sig.returnType = (some .boolean)) (y0 : Int32) (y1 : Int32) (M : Mem) (h : fX7_signOfSet_L46 y0 y1 M = some z) : SW p l e rm_X7_signOfSet s m args below meth c 0 0 (QX7_signOfSet below D cy ad args s z) 3 (PH D cy ad iY s M) 46 [(0, .ref (ad 50))] [.int y0, .int y1, .ref (ad 50)] := by
  have hx := X.1
  have hb := X.2.1
  unfold fX7_signOfSet_L46 at h
  refine sw_iadd hx hb dX7_signOfSet_46 ?_
  refine sw_putI X tyX7 tyX7_ok nmX7 inG7 mi_50 (ce_7 (rfl : kd 50 = 7)) rfl 37 (by decide) (goodW wd410) rfl (by decide +kernel : parseFieldDescriptor _ = some .int) rfl rfl (Nat.le_of_ble_eq_true rfl) (pu_7_37 (rfl : kd 50 = 7) _) dX7_signOfSet_47 h (fun M_9 h => ?_)
  refine sw_aload_n hx hb dX7_signOfSet_50 0 rfl rfl ?_
  refine sw_get X inG7 mi_50 (ce_7 (rfl : kd 50 = 7)) rfl 38 (by decide) (goodW wd438) rfl dX7_signOfSet_51 ?_
  refine sw_if_lt hx hb 61 dX7_signOfSet_54 (by decide) h (fun h => ?_) (fun h => ?_)
  · refine sw_iconst hx hb 0 dX7_signOfSet_61 (by decide) ?_
    exact sw_Zret X hr dX7_signOfSet_62 h
  · refine sw_iconst hx hb 1 dX7_signOfSet_57 (by decide) ?_
    refine sw_goto hx hb 62 dX7_signOfSet_58 (by decide) ?_
    exact sw_Zret X hr dX7_signOfSet_62 h

set_option maxHeartbeats 4000000 in
set_option maxRecDepth 100000 in
theorem wX7_signOfSet_E (X : CX p s m args meth c D cy ad iY cX7_signOfSet 3 (wsG yX7_signOfSet cX7_signOfSet 3 (some .boolean)) RX7) (hr : meth.sig.returnType = (some .boolean)) (M : Mem) (h : fX7_signOfSet M = some z) : SW p l e rm_X7_signOfSet s m args below meth c 0 0 (QX7_signOfSet below D cy ad args s z) 3 (PH D cy ad iY s M) 0 [(0, .ref (ad 50))] [] := by
  have hx := X.1
  have hb := X.2.1
  unfold fX7_signOfSet at h
  refine sw_aload_n hx hb dX7_signOfSet_0 0 rfl rfl ?_
  refine sw_callVI (C := RX7) (As := []) (rest := []) X mi_50 (ce_7 (rfl : kd 50 = 7)) rfl rfl (fun _ hz => okX7_peek l X.2.2.2.2.2.2.1 M _ hz) (cwX7_137 X.2.2.2.2.1 ⟨Nat.le_of_ble_eq_true rfl, Nat.le_of_ble_eq_true rfl⟩)  rfl rfl (Nat.le_of_ble_eq_true rfl) dX7_signOfSet_1 ⟨Nat.le_of_ble_eq_true rfl, Nat.le_of_ble_eq_true rfl⟩ h (fun v_2 M_1 _ h => ?_)
  refine sw_istore_n hx hb [(1, .int v_2), (0, .ref (ad 50))] dX7_signOfSet_4 rfl (by decide) rfl ?_
  refine sw_iload_n hx hb dX7_signOfSet_5 0 rfl rfl ?_
  refine sw_bipush hx hb 92 dX7_signOfSet_6 (by decide) ?_
  refine sw_icmp_ne hx hb 63 dX7_signOfSet_8 (by decide) h (fun h => ?_) (fun h => ?_)
  · refine sw_aload_n hx hb dX7_signOfSet_63 1 rfl rfl ?_
    refine sw_iload_n hx hb dX7_signOfSet_64 0 rfl rfl ?_
    refine sw_putI X tyX7 tyX7_ok nmX7 inG7 mi_50 (ce_7 (rfl : kd 50 = 7)) rfl 38 (by decide) (goodW wd438) rfl (by decide +kernel : parseFieldDescriptor _ = some .int) rfl rfl (Nat.le_of_ble_eq_true rfl) (pu_7_38 (rfl : kd 50 = 7) _) dX7_signOfSet_65 h (fun M_3 h => ?_)
    refine sw_iload_n hx hb dX7_signOfSet_68 0 rfl rfl ?_
    refine sw_if_lt hx hb 94 dX7_signOfSet_69 (by decide) h (fun h => ?_) (fun h => ?_)
    · refine sw_sub (lv1 := [(0, .ref (ad 50))]) [1] rfl ?_
      exact wX7_signOfSet_L94 X hr M_3 h
    · refine sw_iload_n hx hb dX7_signOfSet_72 0 rfl rfl ?_
      refine sw_bipush hx hb 93 dX7_signOfSet_73 (by decide) ?_
      refine sw_icmp_eq hx hb 94 dX7_signOfSet_75 (by decide) h (fun h => ?_) (fun h => ?_)
      · refine sw_sub (lv1 := [(0, .ref (ad 50))]) [1] rfl ?_
        exact wX7_signOfSet_L94 X hr M_3 h
      · refine sw_iload_n hx hb dX7_signOfSet_78 0 rfl rfl ?_
        refine sw_bipush hx hb 94 dX7_signOfSet_79 (by decide) ?_
        refine sw_icmp_eq hx hb 94 dX7_signOfSet_81 (by decide) h (fun h => ?_) (fun h => ?_)
        · refine sw_sub (lv1 := [(0, .ref (ad 50))]) [1] rfl ?_
          exact wX7_signOfSet_L94 X hr M_3 h
        · refine sw_iload_n hx hb dX7_signOfSet_84 0 rfl rfl ?_
          refine sw_bipush hx hb 45 dX7_signOfSet_85 (by decide) ?_
          refine sw_icmp_eq hx hb 94 dX7_signOfSet_87 (by decide) h (fun h => ?_) (fun h => ?_)
          · refine sw_sub (lv1 := [(0, .ref (ad 50))]) [1] rfl ?_
            exact wX7_signOfSet_L94 X hr M_3 h
          · refine sw_iconst hx hb 1 dX7_signOfSet_90 (by decide) ?_
            refine sw_goto hx hb 95 dX7_signOfSet_91 (by decide) ?_
            refine sw_sub (lv1 := [(0, .ref (ad 50))]) [1] rfl ?_
            exact wX7_signOfSet_L95 X hr 1 M_3 h
  · refine sw_aload_n hx hb dX7_signOfSet_11 1 rfl rfl ?_
    refine sw_dup hx hb dX7_signOfSet_12 rfl ?_
    refine sw_get X inG7 mi_50 (ce_7 (rfl : kd 50 = 7)) rfl 37 (by decide) (goodW wd410) rfl dX7_signOfSet_13 ?_
    refine sw_iconst hx hb 1 dX7_signOfSet_16 (by decide) ?_
    refine sw_iadd hx hb dX7_signOfSet_17 ?_
    refine sw_putI X tyX7 tyX7_ok nmX7 inG7 mi_50 (ce_7 (rfl : kd 50 = 7)) rfl 37 (by decide) (goodW wd410) rfl (by decide +kernel : parseFieldDescriptor _ = some .int) rfl rfl (Nat.le_of_ble_eq_true rfl) (pu_7_37 (rfl : kd 50 = 7) _) dX7_signOfSet_18 h (fun M_5 h => ?_)
    refine sw_aload_n hx hb dX7_signOfSet_21 1 rfl rfl ?_
    refine sw_aload_n hx hb dX7_signOfSet_22 1 rfl rfl ?_
    refine sw_callVI (C := RX7) (As := []) (rest := [.ref (ad 50)]) X mi_50 (ce_7 (rfl : kd 50 = 7)) rfl rfl (fun _ hz => okX7_peek l X.2.2.2.2.2.2.1 M_5 _ hz) (cwX7_137 X.2.2.2.2.1 ⟨Nat.le_of_ble_eq_true rfl, Nat.le_of_ble_eq_true rfl⟩)  rfl rfl (Nat.le_of_ble_eq_true rfl) dX7_signOfSet_23 ⟨Nat.le_of_ble_eq_true rfl, Nat.le_of_ble_eq_true rfl⟩ h (fun v_7 M_6 _ h => ?_)
    refine sw_putI X tyX7 tyX7_ok nmX7 inG7 mi_50 (ce_7 (rfl : kd 50 = 7)) rfl 38 (by decide) (goodW wd438) rfl (by decide +kernel : parseFieldDescriptor _ = some .int) rfl rfl (Nat.le_of_ble_eq_true rfl) (pu_7_38 (rfl : kd 50 = 7) _) dX7_signOfSet_26 h (fun M_8 h => ?_)
    refine sw_aload_n hx hb dX7_signOfSet_29 1 rfl rfl ?_
    refine sw_dup hx hb dX7_signOfSet_30 rfl ?_
    refine sw_get X inG7 mi_50 (ce_7 (rfl : kd 50 = 7)) rfl 37 (by decide) (goodW wd410) rfl dX7_signOfSet_31 ?_
    refine sw_aload_n hx hb dX7_signOfSet_34 1 rfl rfl ?_
    refine sw_get X inG7 mi_50 (ce_7 (rfl : kd 50 = 7)) rfl 38 (by decide) (goodW wd438) rfl dX7_signOfSet_35 ?_
    refine sw_if_ge hx hb 45 dX7_signOfSet_38 (by decide) h (fun h => ?_) (fun h => ?_)
    · refine sw_iconst hx hb 1 dX7_signOfSet_45 (by decide) ?_
      refine sw_sub (lv1 := [(0, .ref (ad 50))]) [1] rfl ?_
      exact wX7_signOfSet_L46 X hr 1 (gI M_8 50 37) M_8 h
    · refine sw_iconst hx hb 0 dX7_signOfSet_41 (by decide) ?_
      refine sw_goto hx hb 46 dX7_signOfSet_42 (by decide) ?_
      refine sw_sub (lv1 := [(0, .ref (ad 50))]) [1] rfl ?_
      exact wX7_signOfSet_L46 X hr 0 (gI M_8 50 37) M_8 h

end
theorem okX7_signOfSet (l : Launch) {D : va_G} {cy : Nat → ClassId} {ad : Nat → Nat} (hD : ∀ M : Mem, va_D (AA ad iY) (wl cy ad iY M)) (M : Mem) (z : Int32 × Mem) (h : fX7_signOfSet M = some z) : CTI l yX7_signOfSet (wsG yX7_signOfSet cX7_signOfSet 3 (some .boolean)) rm_X7_signOfSet D cy ad iY [.ref (ad 50)] M z :=
  met_of (cc := cX7_signOfSet) (maxL := 3) (ret := (some .boolean)) (own := RX7) (by decide) rfl rfl hD ndY (Nat.le_of_ble_eq_true rfl) (fun p e s m below meth c X hr => wX7_signOfSet_E X hr M h)
abbrev QX7_set (below : List Frame) (D : va_G) (cy : Nat → ClassId) (ad : Nat → Nat) (args : Array Value) (s : State) (z : Int32 × Mem) : State → Prop := MQ below (va_Qi (fun r u => r = z.1 ∧ u = z.2) (BB D cy ad iY) (AA ad iY)) args s 0 0 (AA ad iY)
section
variable {p : Program} {l : Launch} {e : Env} {s : State} {m : MethodId} {args : Array Value} {below : List Frame} {meth : Method} {c : Code} {D : va_G} {cy : Nat → ClassId} {ad : Nat → Nat} {z : Int32 × Mem}
set_option maxHeartbeats 4000000 in
set_option maxRecDepth 100000 in
theorem wX7_set_H168 (X : CX p s m args meth c D cy ad iY cX7_set 7 (wsG yX7_set cX7_set 7 (some .boolean)) RX7) (hr : meth.sig.returnType = (some .boolean)) : ∀ (n : Nat) (x1 : Int32) (x2 : Int32) (x4 : Int32) (M : Mem), fX7_set_H168 n x1 x2 x4 M = some z → SW p l e rm_X7_set s m args below meth c 0 0 (QX7_set below D cy ad args s z) 7 (PH D cy ad iY s M) 168 [(0, .ref (ad 50)), (1, .int x1), (2, .int x2), (4, .int x4)] [] := by
  have hx := X.1
  have hb := X.2.1
  intro n
  induction n with
  | zero =>
    intro x1 x2 x4 M h
    have h : (none : Option (Int32 × Mem)) = some z := h
    cases h
  | succ n ih =>
    intro x1 x2 x4 M h
    rw [fX7_set_H168] at h
    refine sw_iload hx hb dX7_set_168 3 rfl ?_
    refine sw_iconst hx hb 4 dX7_set_170 (by decide) ?_
    refine sw_icmp_ge hx hb 210 dX7_set_171 (by decide) h (fun h => ?_) (fun h => ?_)
    · refine sw_iconst hx hb 1 dX7_set_210 (by decide) ?_
      exact sw_Zret X hr dX7_set_211 h
    · refine sw_iload_n hx hb dX7_set_174 2 rfl rfl ?_
      refine sw_if_eq hx hb 210 dX7_set_175 (by decide) h (fun h => ?_) (fun h => ?_)
      · refine sw_iconst hx hb 1 dX7_set_210 (by decide) ?_
        exact sw_Zret X hr dX7_set_211 h
      · refine sw_aload_n hx hb dX7_set_178 0 rfl rfl ?_
        refine sw_get X inG7 mi_50 (ce_7 (rfl : kd 50 = 7)) rfl 23 (by decide) (goodW wd433) rfl dX7_set_179 ?_
        refine sw_iconst hx hb 4 dX7_set_182 (by decide) ?_
        refine sw_iload_n hx hb dX7_set_183 1 rfl rfl ?_
        refine sw_imul hx hb dX7_set_184 ?_
        refine sw_iload hx hb dX7_set_185 3 rfl ?_
        refine sw_iadd hx hb dX7_set_187 ?_
        refine sw_aload_n hx hb dX7_set_188 0 rfl rfl ?_
        refine sw_get X inG7 mi_50 (ce_7 (rfl : kd 50 = 7)) rfl 23 (by decide) (goodW wd433) rfl dX7_set_189 ?_
        refine sw_iconst hx hb 4 dX7_set_192 (by decide) ?_
        refine sw_iload_n hx hb dX7_set_193 1 rfl rfl ?_
        refine sw_imul hx hb dX7_set_194 ?_
        refine sw_iload hx hb dX7_set_195 3 rfl ?_
        refine sw_iadd hx hb dX7_set_197 ?_
        refine sw_lald X mi_74 (rfl : kd 74 = 10) dX7_set_198 h (fun v_5 h => ?_)
        refine sw_ldc2 X (goodW wd439) dX7_set_199 ?_
        refine sw_lxor hx hb dX7_set_202 ?_
        refine sw_last X mi_74 (rfl : kd 74 = 10) dX7_set_203 h (fun M_6 h => ?_)
        refine sw_iincN hx hb (k := 3) (x4 + 1) (fun x4_7 => [(4, .int x4_7), (0, .ref (ad 50)), (1, .int x1), (2, .int x2)]) dX7_set_204 rfl (by rfl) (by decide) (fun _ => rfl) h (fun x4_7 h => ?_)
        refine sw_goto hx hb 168 dX7_set_207 (by decide) ?_
        refine sw_sub (lv1 := [(0, .ref (ad 50)), (1, .int x1), (2, .int x2), (4, .int x4_7)]) [1, 2, 3, 0] rfl ?_
        exact ih x1 x2 x4_7 M_6 h

set_option maxHeartbeats 4000000 in
set_option maxRecDepth 100000 in
theorem wX7_set_L151 (X : CX p s m args meth c D cy ad iY cX7_set 7 (wsG yX7_set cX7_set 7 (some .boolean)) RX7) (hr : meth.sig.returnType = (some .boolean)) (k35 : Int32 → Int32 → Int32 → Mem → Option (Int32 × Mem)) (hk35 : ∀ (x1 : Int32) (x2 : Int32) (x3 : Int32) (M : Mem), k35 x1 x2 x3 M = some z → SW p l e rm_X7_set s m args below meth c 0 0 (QX7_set below D cy ad args s z) 7 (PH D cy ad iY s M) 35 [(0, .ref (ad 50)), (1, .int x1), (2, .int x2), (3, .int x3)] []) (x1 : Int32) (x2 : Int32) (y0 : Int32) (M : Mem) (h : fX7_set_L151 k35 x1 x2 y0 M = some z) : SW p l e rm_X7_set s m args below meth c 0 0 (QX7_set below D cy ad args s z) 7 (PH D cy ad iY s M) 151 [(0, .ref (ad 50)), (1, .int x1), (2, .int x2)] [.int y0] := by
  have hx := X.1
  have hb := X.2.1
  unfold fX7_set_L151 at h
  refine sw_istore_n hx hb [(3, .int y0), (0, .ref (ad 50)), (1, .int x1), (2, .int x2)] dX7_set_151 rfl (by decide) rfl ?_
  refine sw_goto hx hb 35 dX7_set_152 (by decide) ?_
  refine sw_sub (lv1 := [(0, .ref (ad 50)), (1, .int x1), (2, .int x2), (3, .int y0)]) [1, 2, 3, 0] rfl ?_
  exact hk35 x1 x2 y0 M h

set_option maxHeartbeats 4000000 in
set_option maxRecDepth 100000 in
theorem wX7_set_H117 (X : CX p s m args meth c D cy ad iY cX7_set 7 (wsG yX7_set cX7_set 7 (some .boolean)) RX7) (hr : meth.sig.returnType = (some .boolean)) (k35 : Int32 → Int32 → Int32 → Mem → Option (Int32 × Mem)) (hk35 : ∀ (x1 : Int32) (x2 : Int32) (x3 : Int32) (M : Mem), k35 x1 x2 x3 M = some z → SW p l e rm_X7_set s m args below meth c 0 0 (QX7_set below D cy ad args s z) 7 (PH D cy ad iY s M) 35 [(0, .ref (ad 50)), (1, .int x1), (2, .int x2), (3, .int x3)] []) : ∀ (n : Nat) (x1 : Int32) (x2 : Int32) (x5 : Int32) (x6 : Int32) (M : Mem), fX7_set_H117 k35 n x1 x2 x5 x6 M = some z → SW p l e rm_X7_set s m args below meth c 0 0 (QX7_set below D cy ad args s z) 7 (PH D cy ad iY s M) 117 [(0, .ref (ad 50)), (1, .int x1), (2, .int x2), (5, .int x5), (6, .int x6)] [] := by
  have hx := X.1
  have hb := X.2.1
  intro n
  induction n with
  | zero =>
    intro x1 x2 x5 x6 M h
    have h : (none : Option (Int32 × Mem)) = some z := h
    cases h
  | succ n ih =>
    intro x1 x2 x5 x6 M h
    rw [fX7_set_H117] at h
    refine sw_iload hx hb dX7_set_117 4 rfl ?_
    refine sw_iload hx hb dX7_set_119 3 rfl ?_
    refine sw_icmp_gt hx hb 137 dX7_set_121 (by decide) h (fun h => ?_) (fun h => ?_)
    · refine sw_aload_n hx hb dX7_set_137 0 rfl rfl ?_
      refine sw_callVI (C := RX7) (As := []) (rest := []) X mi_50 (ce_7 (rfl : kd 50 = 7)) rfl rfl (fun _ hz => okX7_peek l X.2.2.2.2.2.2.1 M _ hz) (cwX7_137 X.2.2.2.2.1 ⟨Nat.le_of_ble_eq_true rfl, Nat.le_of_ble_eq_true rfl⟩)  rfl rfl (Nat.le_of_ble_eq_true rfl) dX7_set_138 ⟨Nat.le_of_ble_eq_true rfl, Nat.le_of_ble_eq_true rfl⟩ h (fun v_14 M_13 _ h => ?_)
      refine sw_bipush hx hb 93 dX7_set_141 (by decide) ?_
      refine sw_icmp_eq hx hb 150 dX7_set_143 (by decide) h (fun h => ?_) (fun h => ?_)
      · refine sw_iconst hx hb 0 dX7_set_150 (by decide) ?_
        refine sw_sub (lv1 := [(0, .ref (ad 50)), (1, .int x1), (2, .int x2)]) [0, 1, 2] rfl ?_
        exact wX7_set_L151 X hr k35 hk35 x1 x2 0 M_13 h
      · refine sw_iconst hx hb 1 dX7_set_146 (by decide) ?_
        refine sw_goto hx hb 151 dX7_set_147 (by decide) ?_
        refine sw_sub (lv1 := [(0, .ref (ad 50)), (1, .int x1), (2, .int x2)]) [0, 1, 2] rfl ?_
        exact wX7_set_L151 X hr k35 hk35 x1 x2 1 M_13 h
    · refine sw_aload_n hx hb dX7_set_124 0 rfl rfl ?_
      refine sw_iload_n hx hb dX7_set_125 1 rfl rfl ?_
      refine sw_iload hx hb dX7_set_126 4 rfl ?_
      refine sw_callVV (C := RX7) (As := [.int x1, .int x6]) (rest := []) X mi_50 (ce_7 (rfl : kd 50 = 7)) rfl rfl (fun _ hz => okX7_takes l X.2.2.2.2.2.2.1 x1 x6 M _ hz) (cwX7_148 X.2.2.2.2.1 ⟨Nat.le_of_ble_eq_true rfl, Nat.le_of_ble_eq_true rfl⟩)  rfl rfl (Nat.le_of_ble_eq_true rfl) dX7_set_128 ⟨Nat.le_of_ble_eq_true rfl, Nat.le_of_ble_eq_true rfl⟩ h (fun M_15 _ h => ?_)
      refine sw_iincN hx hb (k := 4) (x6 + 1) (fun x6_17 => [(6, .int x6_17), (0, .ref (ad 50)), (1, .int x1), (2, .int x2), (5, .int x5)]) dX7_set_131 rfl (by rfl) (by decide) (fun _ => rfl) h (fun x6_17 h => ?_)
      refine sw_goto hx hb 117 dX7_set_134 (by decide) ?_
      refine sw_sub (lv1 := [(0, .ref (ad 50)), (1, .int x1), (2, .int x2), (5, .int x5), (6, .int x6_17)]) [1, 2, 3, 4, 0] rfl ?_
      exact ih x1 x2 x5 x6_17 M_15 h

set_option maxHeartbeats 4000000 in
set_option maxRecDepth 100000 in
theorem wX7_set_L113 (X : CX p s m args meth c D cy ad iY cX7_set 7 (wsG yX7_set cX7_set 7 (some .boolean)) RX7) (hr : meth.sig.returnType = (some .boolean)) (k35 : Int32 → Int32 → Int32 → Mem → Option (Int32 × Mem)) (hk35 : ∀ (x1 : Int32) (x2 : Int32) (x3 : Int32) (M : Mem), k35 x1 x2 x3 M = some z → SW p l e rm_X7_set s m args below meth c 0 0 (QX7_set below D cy ad args s z) 7 (PH D cy ad iY s M) 35 [(0, .ref (ad 50)), (1, .int x1), (2, .int x2), (3, .int x3)] []) (x1 : Int32) (x2 : Int32) (x4 : Int32) (x5 : Int32) (M : Mem) (h : fX7_set_L113 k35 x1 x2 x4 x5 M = some z) : SW p l e rm_X7_set s m args below meth c 0 0 (QX7_set below D cy ad args s z) 7 (PH D cy ad iY s M) 113 [(0, .ref (ad 50)), (1, .int x1), (2, .int x2), (4, .int x4), (5, .int x5)] [] := by
  have hx := X.1
  have hb := X.2.1
  unfold fX7_set_L113 at h
  refine sw_iload hx hb dX7_set_113 3 rfl ?_
  refine sw_istore hx hb [(6, .int x4), (0, .ref (ad 50)), (1, .int x1), (2, .int x2), (4, .int x4), (5, .int x5)] dX7_set_115 (by decide) rfl ?_
  refine sw_sub (lv1 := [(0, .ref (ad 50)), (1, .int x1), (2, .int x2), (5, .int x5), (6, .int x4)]) [1, 2, 3, 5, 0] rfl ?_
  exact wX7_set_H117 X hr k35 hk35 FU x1 x2 x5 x4 M h

set_option maxHeartbeats 4000000 in
set_option maxRecDepth 100000 in
theorem wX7_set_H35 (X : CX p s m args meth c D cy ad iY cX7_set 7 (wsG yX7_set cX7_set 7 (some .boolean)) RX7) (hr : meth.sig.returnType = (some .boolean)) : ∀ (n : Nat) (x1 : Int32) (x2 : Int32) (x3 : Int32) (M : Mem), fX7_set_H35 n x1 x2 x3 M = some z → SW p l e rm_X7_set s m args below meth c 0 0 (QX7_set below D cy ad args s z) 7 (PH D cy ad iY s M) 35 [(0, .ref (ad 50)), (1, .int x1), (2, .int x2), (3, .int x3)] [] := by
  have hx := X.1
  have hb := X.2.1
  intro n
  induction n with
  | zero =>
    intro x1 x2 x3 M h
    have h : (none : Option (Int32 × Mem)) = some z := h
    cases h
  | succ n ih =>
    intro x1 x2 x3 M h
    rw [fX7_set_H35] at h
    refine sw_iload_n hx hb dX7_set_35 3 rfl rfl ?_
    refine sw_if_eq hx hb 155 dX7_set_36 (by decide) h (fun h => ?_) (fun h => ?_)
    · refine sw_aload_n hx hb dX7_set_155 0 rfl rfl ?_
      refine sw_dup hx hb dX7_set_156 rfl ?_
      refine sw_get X inG7 mi_50 (ce_7 (rfl : kd 50 = 7)) rfl 37 (by decide) (goodW wd410) rfl dX7_set_157 ?_
      refine sw_iconst hx hb 1 dX7_set_160 (by decide) ?_
      refine sw_iadd hx hb dX7_set_161 ?_
      refine sw_putI X tyX7 tyX7_ok nmX7 inG7 mi_50 (ce_7 (rfl : kd 50 = 7)) rfl 37 (by decide) (goodW wd410) rfl (by decide +kernel : parseFieldDescriptor _ = some .int) rfl rfl (Nat.le_of_ble_eq_true rfl) (pu_7_37 (rfl : kd 50 = 7) _) dX7_set_162 h (fun M_4 h => ?_)
      refine sw_iconst hx hb 0 dX7_set_165 (by decide) ?_
      refine sw_istore hx hb [(4, .int 0), (0, .ref (ad 50)), (1, .int x1), (2, .int x2), (3, .int x3)] dX7_set_166 (by decide) rfl ?_
      refine sw_sub (lv1 := [(0, .ref (ad 50)), (1, .int x1), (2, .int x2), (4, .int 0)]) [1, 2, 3, 0] rfl ?_
      exact wX7_set_H168 X hr FU x1 x2 0 M_4 h
    · refine sw_aload_n hx hb dX7_set_39 0 rfl rfl ?_
      refine sw_callVI (C := RX7) (As := []) (rest := []) X mi_50 (ce_7 (rfl : kd 50 = 7)) rfl rfl (fun _ hz => okX7_signOfSet l X.2.2.2.2.2.2.1 M _ hz) (cwX7_144 X.2.2.2.2.1 ⟨Nat.le_of_ble_eq_true rfl, Nat.le_of_ble_eq_true rfl⟩)  rfl rfl (Nat.le_of_ble_eq_true rfl) dX7_set_40 ⟨Nat.le_of_ble_eq_true rfl, Nat.le_of_ble_eq_true rfl⟩ h (fun v_9 M_8 _ h => ?_)
      refine sw_if_ne hx hb 48 dX7_set_43 (by decide) h (fun h => ?_) (fun h => ?_)
      · refine sw_aload_n hx hb dX7_set_48 0 rfl rfl ?_
        refine sw_get X inG7 mi_50 (ce_7 (rfl : kd 50 = 7)) rfl 38 (by decide) (goodW wd438) rfl dX7_set_49 ?_
        refine sw_istoreN hx hb (fun x4_10 => [(4, .int x4_10), (0, .ref (ad 50)), (1, .int x1), (2, .int x2), (3, .int x3)]) dX7_set_52 (by decide) (fun _ => rfl) h (fun x4_10 h => ?_)
        refine sw_iload hx hb dX7_set_54 0 rfl ?_
        refine sw_istore hx hb [(5, .int x4_10), (4, .int x4_10), (0, .ref (ad 50)), (1, .int x1), (2, .int x2), (3, .int x3)] dX7_set_56 (by decide) rfl ?_
        refine sw_aload_n hx hb dX7_set_58 2 rfl rfl ?_
        refine sw_callVI (C := RX7) (As := []) (rest := []) X mi_50 (ce_7 (rfl : kd 50 = 7)) rfl rfl (fun _ hz => okX7_peek l X.2.2.2.2.2.2.1 M_8 _ hz) (cwX7_137 X.2.2.2.2.1 ⟨Nat.le_of_ble_eq_true rfl, Nat.le_of_ble_eq_true rfl⟩)  rfl rfl (Nat.le_of_ble_eq_true rfl) dX7_set_59 ⟨Nat.le_of_ble_eq_true rfl, Nat.le_of_ble_eq_true rfl⟩ h (fun v_12 M_11 _ h => ?_)
        refine sw_bipush hx hb 45 dX7_set_62 (by decide) ?_
        refine sw_icmp_ne hx hb 113 dX7_set_64 (by decide) h (fun h => ?_) (fun h => ?_)
        · refine sw_sub (lv1 := [(0, .ref (ad 50)), (1, .int x1), (2, .int x2), (4, .int x4_10), (5, .int x4_10)]) [2, 3, 4, 1, 0] rfl ?_
          exact wX7_set_L113 X hr (fX7_set_H35 n) ih x1 x2 x4_10 x4_10 M_11 h
        · refine sw_aload_n hx hb dX7_set_67 2 rfl rfl ?_
          refine sw_dup hx hb dX7_set_68 rfl ?_
          refine sw_get X inG7 mi_50 (ce_7 (rfl : kd 50 = 7)) rfl 37 (by decide) (goodW wd410) rfl dX7_set_69 ?_
          refine sw_iconst hx hb 1 dX7_set_72 (by decide) ?_
          refine sw_iadd hx hb dX7_set_73 ?_
          refine sw_putI X tyX7 tyX7_ok nmX7 inG7 mi_50 (ce_7 (rfl : kd 50 = 7)) rfl 37 (by decide) (goodW wd410) rfl (by decide +kernel : parseFieldDescriptor _ = some .int) rfl rfl (Nat.le_of_ble_eq_true rfl) (pu_7_37 (rfl : kd 50 = 7) _) dX7_set_74 h (fun M_18 h => ?_)
          refine sw_aload_n hx hb dX7_set_77 2 rfl rfl ?_
          refine sw_get X inG7 mi_50 (ce_7 (rfl : kd 50 = 7)) rfl 37 (by decide) (goodW wd410) rfl dX7_set_78 ?_
          refine sw_istoreN hx hb (fun x6_19 => [(6, .int x6_19), (5, .int x4_10), (4, .int x4_10), (0, .ref (ad 50)), (1, .int x1), (2, .int x2), (3, .int x3)]) dX7_set_81 (by decide) (fun _ => rfl) h (fun x6_19 h => ?_)
          refine sw_aload_n hx hb dX7_set_83 3 rfl rfl ?_
          refine sw_callVI (C := RX7) (As := []) (rest := []) X mi_50 (ce_7 (rfl : kd 50 = 7)) rfl rfl (fun _ hz => okX7_signOfSet l X.2.2.2.2.2.2.1 M_18 _ hz) (cwX7_144 X.2.2.2.2.1 ⟨Nat.le_of_ble_eq_true rfl, Nat.le_of_ble_eq_true rfl⟩)  rfl rfl (Nat.le_of_ble_eq_true rfl) dX7_set_84 ⟨Nat.le_of_ble_eq_true rfl, Nat.le_of_ble_eq_true rfl⟩ h (fun v_21 M_20 _ h => ?_)
          refine sw_if_ne hx hb 92 dX7_set_87 (by decide) h (fun h => ?_) (fun h => ?_)
          · refine sw_aload_n hx hb dX7_set_92 3 rfl rfl ?_
            refine sw_get X inG7 mi_50 (ce_7 (rfl : kd 50 = 7)) rfl 38 (by decide) (goodW wd438) rfl dX7_set_93 ?_
            refine sw_istoreN hx hb (fun x5_22 => [(5, .int x5_22), (6, .int x6_19), (4, .int x4_10), (0, .ref (ad 50)), (1, .int x1), (2, .int x2), (3, .int x3)]) dX7_set_96 (by decide) (fun _ => rfl) h (fun x5_22 h => ?_)
            refine sw_iload hx hb dX7_set_98 0 rfl ?_
            refine sw_iload hx hb dX7_set_100 2 rfl ?_
            refine sw_icmp_ge hx hb 113 dX7_set_102 (by decide) h (fun h => ?_) (fun h => ?_)
            · refine sw_sub (lv1 := [(0, .ref (ad 50)), (1, .int x1), (2, .int x2), (4, .int x4_10), (5, .int x5_22)]) [3, 4, 5, 2, 0] rfl ?_
              exact wX7_set_L113 X hr (fX7_set_H35 n) ih x1 x2 x4_10 x5_22 M_20 h
            · refine sw_aload_n hx hb dX7_set_105 3 rfl rfl ?_
              refine sw_iload hx hb dX7_set_106 1 rfl ?_
              refine sw_putI X tyX7 tyX7_ok nmX7 inG7 mi_50 (ce_7 (rfl : kd 50 = 7)) rfl 37 (by decide) (goodW wd410) rfl (by decide +kernel : parseFieldDescriptor _ = some .int) rfl rfl (Nat.le_of_ble_eq_true rfl) (pu_7_37 (rfl : kd 50 = 7) _) dX7_set_108 h (fun M_23 h => ?_)
              refine sw_iconst hx hb 0 dX7_set_111 (by decide) ?_
              exact sw_Zret X hr dX7_set_112 h
          · refine sw_iconst hx hb 0 dX7_set_90 (by decide) ?_
            exact sw_Zret X hr dX7_set_91 h
      · refine sw_iconst hx hb 0 dX7_set_46 (by decide) ?_
        exact sw_Zret X hr dX7_set_47 h

set_option maxHeartbeats 4000000 in
set_option maxRecDepth 100000 in
theorem wX7_set_L29 (X : CX p s m args meth c D cy ad iY cX7_set 7 (wsG yX7_set cX7_set 7 (some .boolean)) RX7) (hr : meth.sig.returnType = (some .boolean)) (x1 : Int32) (x2 : Int32) (y0 : Int32) (y1 : Int32) (M : Mem) (h : fX7_set_L29 x1 x2 y0 y1 M = some z) : SW p l e rm_X7_set s m args below meth c 0 0 (QX7_set below D cy ad args s z) 7 (PH D cy ad iY s M) 29 [(0, .ref (ad 50)), (1, .int x1), (2, .int x2)] [.int y0, .int y1, .ref (ad 50)] := by
  have hx := X.1
  have hb := X.2.1
  unfold fX7_set_L29 at h
  refine sw_iadd hx hb dX7_set_29 ?_
  refine sw_putI X tyX7 tyX7_ok nmX7 inG7 mi_50 (ce_7 (rfl : kd 50 = 7)) rfl 37 (by decide) (goodW wd410) rfl (by decide +kernel : parseFieldDescriptor _ = some .int) rfl rfl (Nat.le_of_ble_eq_true rfl) (pu_7_37 (rfl : kd 50 = 7) _) dX7_set_30 h (fun M_3 h => ?_)
  refine sw_iconst hx hb 1 dX7_set_33 (by decide) ?_
  refine sw_istore_n hx hb [(3, .int 1), (0, .ref (ad 50)), (1, .int x1), (2, .int x2)] dX7_set_34 rfl (by decide) rfl ?_
  refine sw_sub (lv1 := [(0, .ref (ad 50)), (1, .int x1), (2, .int x2), (3, .int 1)]) [1, 2, 3, 0] rfl ?_
  exact wX7_set_H35 X hr FU x1 x2 1 M_3 h

set_option maxHeartbeats 4000000 in
set_option maxRecDepth 100000 in
theorem wX7_set_L14 (X : CX p s m args meth c D cy ad iY cX7_set 7 (wsG yX7_set cX7_set 7 (some .boolean)) RX7) (hr : meth.sig.returnType = (some .boolean)) (x1 : Int32) (y0 : Int32) (M : Mem) (h : fX7_set_L14 x1 y0 M = some z) : SW p l e rm_X7_set s m args below meth c 0 0 (QX7_set below D cy ad args s z) 7 (PH D cy ad iY s M) 14 [(0, .ref (ad 50)), (1, .int x1)] [.int y0] := by
  have hx := X.1
  have hb := X.2.1
  unfold fX7_set_L14 at h
  refine sw_istore_n hx hb [(2, .int y0), (0, .ref (ad 50)), (1, .int x1)] dX7_set_14 rfl (by decide) rfl ?_
  refine sw_aload_n hx hb dX7_set_15 1 rfl rfl ?_
  refine sw_dup hx hb dX7_set_16 rfl ?_
  refine sw_get X inG7 mi_50 (ce_7 (rfl : kd 50 = 7)) rfl 37 (by decide) (goodW wd410) rfl dX7_set_17 ?_
  refine sw_iload_n hx hb dX7_set_20 0 rfl rfl ?_
  refine sw_if_eq hx hb 28 dX7_set_21 (by decide) h (fun h => ?_) (fun h => ?_)
  · refine sw_iconst hx hb 0 dX7_set_28 (by decide) ?_
    refine sw_sub (lv1 := [(0, .ref (ad 50)), (1, .int x1), (2, .int y0)]) [1, 2, 0] rfl ?_
    exact wX7_set_L29 X hr x1 y0 0 (gI M 50 37) M h
  · refine sw_iconst hx hb 1 dX7_set_24 (by decide) ?_
    refine sw_goto hx hb 29 dX7_set_25 (by decide) ?_
    refine sw_sub (lv1 := [(0, .ref (ad 50)), (1, .int x1), (2, .int y0)]) [1, 2, 0] rfl ?_
    exact wX7_set_L29 X hr x1 y0 1 (gI M 50 37) M h

set_option maxHeartbeats 4000000 in
set_option maxRecDepth 100000 in
theorem wX7_set_E (X : CX p s m args meth c D cy ad iY cX7_set 7 (wsG yX7_set cX7_set 7 (some .boolean)) RX7) (hr : meth.sig.returnType = (some .boolean)) (x1 : Int32) (M : Mem) (h : fX7_set x1 M = some z) : SW p l e rm_X7_set s m args below meth c 0 0 (QX7_set below D cy ad args s z) 7 (PH D cy ad iY s M) 0 [(0, .ref (ad 50)), (1, .int x1)] [] := by
  have hx := X.1
  have hb := X.2.1
  unfold fX7_set at h
  refine sw_aload_n hx hb dX7_set_0 0 rfl rfl ?_
  refine sw_callVI (C := RX7) (As := []) (rest := []) X mi_50 (ce_7 (rfl : kd 50 = 7)) rfl rfl (fun _ hz => okX7_peek l X.2.2.2.2.2.2.1 M _ hz) (cwX7_137 X.2.2.2.2.1 ⟨Nat.le_of_ble_eq_true rfl, Nat.le_of_ble_eq_true rfl⟩)  rfl rfl (Nat.le_of_ble_eq_true rfl) dX7_set_1 ⟨Nat.le_of_ble_eq_true rfl, Nat.le_of_ble_eq_true rfl⟩ h (fun v_2 M_1 _ h => ?_)
  refine sw_bipush hx hb 94 dX7_set_4 (by decide) ?_
  refine sw_icmp_ne hx hb 13 dX7_set_6 (by decide) h (fun h => ?_) (fun h => ?_)
  · refine sw_iconst hx hb 0 dX7_set_13 (by decide) ?_
    refine sw_sub (lv1 := [(0, .ref (ad 50)), (1, .int x1)]) [0, 1] rfl ?_
    exact wX7_set_L14 X hr x1 0 M_1 h
  · refine sw_iconst hx hb 1 dX7_set_9 (by decide) ?_
    refine sw_goto hx hb 14 dX7_set_10 (by decide) ?_
    refine sw_sub (lv1 := [(0, .ref (ad 50)), (1, .int x1)]) [0, 1] rfl ?_
    exact wX7_set_L14 X hr x1 1 M_1 h

end
theorem okX7_set (l : Launch) {D : va_G} {cy : Nat → ClassId} {ad : Nat → Nat} (hD : ∀ M : Mem, va_D (AA ad iY) (wl cy ad iY M)) (x1 : Int32) (M : Mem) (z : Int32 × Mem) (h : fX7_set x1 M = some z) : CTI l yX7_set (wsG yX7_set cX7_set 7 (some .boolean)) rm_X7_set D cy ad iY [.ref (ad 50), .int x1] M z :=
  met_of (cc := cX7_set) (maxL := 7) (ret := (some .boolean)) (own := RX7) (by decide) rfl rfl hD ndY (Nat.le_of_ble_eq_true rfl) (fun p e s m below meth c X hr => wX7_set_E X hr x1 M h)
abbrev QX7_plain (below : List Frame) (D : va_G) (cy : Nat → ClassId) (ad : Nat → Nat) (args : Array Value) (s : State) (z : Int32 × Mem) : State → Prop := MQ below (va_Qi (fun r u => r = z.1 ∧ u = z.2) (BB D cy ad iY) (AA ad iY)) args s 0 0 (AA ad iY)
section
variable {p : Program} {l : Launch} {e : Env} {s : State} {m : MethodId} {args : Array Value} {below : List Frame} {meth : Method} {c : Code} {D : va_G} {cy : Nat → ClassId} {ad : Nat → Nat} {z : Int32 × Mem}
set_option maxHeartbeats 4000000 in
set_option maxRecDepth 100000 in
theorem wX7_plain_L162 (X : CX p s m args meth c D cy ad iY cX7_plain 4 (wsG yX7_plain cX7_plain 4 (some .boolean)) RX7) (hr : meth.sig.returnType = (some .boolean)) (x2 : Int32) (M : Mem) (h : fX7_plain_L162 x2 M = some z) : SW p l e rm_X7_plain s m args below meth c 0 0 (QX7_plain below D cy ad args s z) 4 (PH D cy ad iY s M) 162 [(0, .ref (ad 50)), (2, .int x2)] [] := by
  have hx := X.1
  have hb := X.2.1
  unfold fX7_plain_L162 at h
  refine sw_aload_n hx hb dX7_plain_162 0 rfl rfl ?_
  refine sw_iconst hx hb 0 dX7_plain_163 (by decide) ?_
  refine sw_lconst hx hb 1 dX7_plain_164 (by decide) ?_
  refine sw_iload_n hx hb dX7_plain_165 1 rfl rfl ?_
  refine sw_lshl hx hb dX7_plain_166 ?_
  refine sw_lconst hx hb 1 dX7_plain_167 (by decide) ?_
  refine sw_iload_n hx hb dX7_plain_168 1 rfl rfl ?_
  refine sw_lshl hx hb dX7_plain_169 ?_
  refine sw_callVV (C := RX7) (As := [.int 0, .long (shl6 1 x2), .long (shl6 1 x2)]) (rest := []) X mi_50 (ce_7 (rfl : kd 50 = 7)) rfl rfl (fun _ hz => okX7_piece l X.2.2.2.2.2.2.1 0 (shl6 1 x2) (shl6 1 x2) M _ hz) (cwX7_160 X.2.2.2.2.1 ⟨Nat.le_of_ble_eq_true rfl, Nat.le_of_ble_eq_true rfl⟩)  rfl rfl (Nat.le_of_ble_eq_true rfl) dX7_plain_170 ⟨Nat.le_of_ble_eq_true rfl, Nat.le_of_ble_eq_true rfl⟩ h (fun M_7 _ h => ?_)
  refine sw_iconst hx hb 1 dX7_plain_173 (by decide) ?_
  exact sw_Zret X hr dX7_plain_174 h

set_option maxHeartbeats 4000000 in
set_option maxRecDepth 100000 in
theorem wX7_plain_L110 (X : CX p s m args meth c D cy ad iY cX7_plain 4 (wsG yX7_plain cX7_plain 4 (some .boolean)) RX7) (hr : meth.sig.returnType = (some .boolean)) (k90 : Int32 → Int32 → Mem → Option (Int32 × Mem)) (hk90 : ∀ (x2 : Int32) (x3 : Int32) (M : Mem), k90 x2 x3 M = some z → SW p l e rm_X7_plain s m args below meth c 0 0 (QX7_plain below D cy ad args s z) 4 (PH D cy ad iY s M) 90 [(0, .ref (ad 50)), (2, .int x2), (3, .int x3)] []) (x2 : Int32) (x3 : Int32) (M : Mem) (h : fX7_plain_L110 k90 x2 x3 M = some z) : SW p l e rm_X7_plain s m args below meth c 0 0 (QX7_plain below D cy ad args s z) 4 (PH D cy ad iY s M) 110 [(0, .ref (ad 50)), (2, .int x2), (3, .int x3)] [] := by
  have hx := X.1
  have hb := X.2.1
  unfold fX7_plain_L110 at h
  refine sw_iincN hx hb (k := 2) (x3 + 1) (fun x3_18 => [(3, .int x3_18), (0, .ref (ad 50)), (2, .int x2)]) dX7_plain_110 rfl (by rfl) (by decide) (fun _ => rfl) h (fun x3_18 h => ?_)
  refine sw_goto hx hb 90 dX7_plain_113 (by decide) ?_
  refine sw_sub (lv1 := [(0, .ref (ad 50)), (2, .int x2), (3, .int x3_18)]) [1, 2, 0] rfl ?_
  exact hk90 x2 x3_18 M h

set_option maxHeartbeats 4000000 in
set_option maxRecDepth 100000 in
theorem wX7_plain_H90 (X : CX p s m args meth c D cy ad iY cX7_plain 4 (wsG yX7_plain cX7_plain 4 (some .boolean)) RX7) (hr : meth.sig.returnType = (some .boolean)) : ∀ (n : Nat) (x2 : Int32) (x3 : Int32) (M : Mem), fX7_plain_H90 n x2 x3 M = some z → SW p l e rm_X7_plain s m args below meth c 0 0 (QX7_plain below D cy ad args s z) 4 (PH D cy ad iY s M) 90 [(0, .ref (ad 50)), (2, .int x2), (3, .int x3)] [] := by
  have hx := X.1
  have hb := X.2.1
  intro n
  induction n with
  | zero =>
    intro x2 x3 M h
    have h : (none : Option (Int32 × Mem)) = some z := h
    cases h
  | succ n ih =>
    intro x2 x3 M h
    rw [fX7_plain_H90] at h
    refine sw_iload_n hx hb dX7_plain_90 2 rfl rfl ?_
    refine sw_sipush hx hb 256 dX7_plain_91 (by decide) ?_
    refine sw_icmp_ge hx hb 116 dX7_plain_94 (by decide) h (fun h => ?_) (fun h => ?_)
    · refine sw_goto hx hb 162 dX7_plain_116 (by decide) ?_
      refine sw_sub (lv1 := [(0, .ref (ad 50)), (2, .int x2)]) [0, 1] rfl ?_
      exact wX7_plain_L162 X hr x2 M h
    · refine sw_iload_n hx hb dX7_plain_97 2 rfl rfl ?_
      refine sw_callSI (As := [.int x3]) (rest := []) X (fun _ hz => okX7_isBlank l X.2.2.2.2.2.2.1 x3 M _ hz) (cwX7_96 X.2.2.2.2.1 ⟨Nat.le_of_ble_eq_true rfl, Nat.le_of_ble_eq_true rfl⟩)  rfl rfl (Nat.le_of_ble_eq_true rfl) dX7_plain_98 ⟨Nat.le_of_ble_eq_true rfl, Nat.le_of_ble_eq_true rfl⟩ h (fun v_17 M_16 _ h => ?_)
      refine sw_if_ne hx hb 110 dX7_plain_101 (by decide) h (fun h => ?_) (fun h => ?_)
      · refine sw_sub (lv1 := [(0, .ref (ad 50)), (2, .int x2), (3, .int x3)]) [0, 1, 2] rfl ?_
        exact wX7_plain_L110 X hr (fX7_plain_H90 n) ih x2 x3 M_16 h
      · refine sw_aload_n hx hb dX7_plain_104 0 rfl rfl ?_
        refine sw_iload_n hx hb dX7_plain_105 1 rfl rfl ?_
        refine sw_iload_n hx hb dX7_plain_106 2 rfl rfl ?_
        refine sw_callVV (C := RX7) (As := [.int x2, .int x3]) (rest := []) X mi_50 (ce_7 (rfl : kd 50 = 7)) rfl rfl (fun _ hz => okX7_takes l X.2.2.2.2.2.2.1 x2 x3 M_16 _ hz) (cwX7_148 X.2.2.2.2.1 ⟨Nat.le_of_ble_eq_true rfl, Nat.le_of_ble_eq_true rfl⟩)  rfl rfl (Nat.le_of_ble_eq_true rfl) dX7_plain_107 ⟨Nat.le_of_ble_eq_true rfl, Nat.le_of_ble_eq_true rfl⟩ h (fun M_19 _ h => ?_)
        refine sw_sub (lv1 := [(0, .ref (ad 50)), (2, .int x2), (3, .int x3)]) [0, 1, 2] rfl ?_
        exact wX7_plain_L110 X hr (fX7_plain_H90 n) ih x2 x3 M_19 h

set_option maxHeartbeats 4000000 in
set_option maxRecDepth 100000 in
theorem wX7_plain_E (X : CX p s m args meth c D cy ad iY cX7_plain 4 (wsG yX7_plain cX7_plain 4 (some .boolean)) RX7) (hr : meth.sig.returnType = (some .boolean)) (x1 : Int32) (M : Mem) (h : fX7_plain x1 M = some z) : SW p l e rm_X7_plain s m args below meth c 0 0 (QX7_plain below D cy ad args s z) 4 (PH D cy ad iY s M) 0 [(0, .ref (ad 50)), (1, .int x1)] [] := by
  have hx := X.1
  have hb := X.2.1
  unfold fX7_plain at h
  refine sw_aload_n hx hb dX7_plain_0 0 rfl rfl ?_
  refine sw_get X inG7 mi_50 (ce_7 (rfl : kd 50 = 7)) rfl 22 (by decide) (goodW wd424) rfl dX7_plain_1 ?_
  refine sw_bipush hx hb 60 dX7_plain_4 (by decide) ?_
  refine sw_icmp_eq hx hb 45 dX7_plain_6 (by decide) h (fun h => ?_) (fun h => ?_)
  · refine sw_iconst hx hb 0 dX7_plain_45 (by decide) ?_
    exact sw_Zret X hr dX7_plain_46 h
  · refine sw_iload_n hx hb dX7_plain_9 1 rfl rfl ?_
    refine sw_bipush hx hb 124 dX7_plain_10 (by decide) ?_
    refine sw_icmp_eq hx hb 45 dX7_plain_12 (by decide) h (fun h => ?_) (fun h => ?_)
    · refine sw_iconst hx hb 0 dX7_plain_45 (by decide) ?_
      exact sw_Zret X hr dX7_plain_46 h
    · refine sw_iload_n hx hb dX7_plain_15 1 rfl rfl ?_
      refine sw_bipush hx hb 42 dX7_plain_16 (by decide) ?_
      refine sw_icmp_eq hx hb 45 dX7_plain_18 (by decide) h (fun h => ?_) (fun h => ?_)
      · refine sw_iconst hx hb 0 dX7_plain_45 (by decide) ?_
        exact sw_Zret X hr dX7_plain_46 h
      · refine sw_iload_n hx hb dX7_plain_21 1 rfl rfl ?_
        refine sw_bipush hx hb 43 dX7_plain_22 (by decide) ?_
        refine sw_icmp_eq hx hb 45 dX7_plain_24 (by decide) h (fun h => ?_) (fun h => ?_)
        · refine sw_iconst hx hb 0 dX7_plain_45 (by decide) ?_
          exact sw_Zret X hr dX7_plain_46 h
        · refine sw_iload_n hx hb dX7_plain_27 1 rfl rfl ?_
          refine sw_bipush hx hb 63 dX7_plain_28 (by decide) ?_
          refine sw_icmp_eq hx hb 45 dX7_plain_30 (by decide) h (fun h => ?_) (fun h => ?_)
          · refine sw_iconst hx hb 0 dX7_plain_45 (by decide) ?_
            exact sw_Zret X hr dX7_plain_46 h
          · refine sw_iload_n hx hb dX7_plain_33 1 rfl rfl ?_
            refine sw_bipush hx hb 93 dX7_plain_34 (by decide) ?_
            refine sw_icmp_eq hx hb 45 dX7_plain_36 (by decide) h (fun h => ?_) (fun h => ?_)
            · refine sw_iconst hx hb 0 dX7_plain_45 (by decide) ?_
              exact sw_Zret X hr dX7_plain_46 h
            · refine sw_iload_n hx hb dX7_plain_39 1 rfl rfl ?_
              refine sw_bipush hx hb 41 dX7_plain_40 (by decide) ?_
              refine sw_icmp_ne hx hb 47 dX7_plain_42 (by decide) h (fun h => ?_) (fun h => ?_)
              · refine sw_aload_n hx hb dX7_plain_47 0 rfl rfl ?_
                refine sw_get X inG7 mi_50 (ce_7 (rfl : kd 50 = 7)) rfl 22 (by decide) (goodW wd424) rfl dX7_plain_48 ?_
                refine sw_istore_nN hx hb (fun x2_1 => [(2, .int x2_1), (0, .ref (ad 50)), (1, .int x1)]) dX7_plain_51 rfl (by decide) (fun _ => rfl) h (fun x2_1 h => ?_)
                refine sw_aload_n hx hb dX7_plain_52 1 rfl rfl ?_
                refine sw_callVV (C := RX7) (As := []) (rest := []) X mi_50 (ce_7 (rfl : kd 50 = 7)) rfl rfl (fun _ hz => okX7_atom l X.2.2.2.2.2.2.1 M _ hz) (cwX7_154 X.2.2.2.2.1 ⟨Nat.le_of_ble_eq_true rfl, Nat.le_of_ble_eq_true rfl⟩)  rfl rfl (Nat.le_of_ble_eq_true rfl) dX7_plain_53 ⟨Nat.le_of_ble_eq_true rfl, Nat.le_of_ble_eq_true rfl⟩ h (fun M_2 _ h => ?_)
                refine sw_aload_n hx hb dX7_plain_56 1 rfl rfl ?_
                refine sw_dup hx hb dX7_plain_57 rfl ?_
                refine sw_get X inG7 mi_50 (ce_7 (rfl : kd 50 = 7)) rfl 37 (by decide) (goodW wd410) rfl dX7_plain_58 ?_
                refine sw_iconst hx hb 1 dX7_plain_61 (by decide) ?_
                refine sw_iadd hx hb dX7_plain_62 ?_
                refine sw_putI X tyX7 tyX7_ok nmX7 inG7 mi_50 (ce_7 (rfl : kd 50 = 7)) rfl 37 (by decide) (goodW wd410) rfl (by decide +kernel : parseFieldDescriptor _ = some .int) rfl rfl (Nat.le_of_ble_eq_true rfl) (pu_7_37 (rfl : kd 50 = 7) _) dX7_plain_63 h (fun M_4 h => ?_)
                refine sw_iload_n hx hb dX7_plain_66 2 rfl rfl ?_
                refine sw_bipush hx hb 91 dX7_plain_67 (by decide) ?_
                refine sw_icmp_ne hx hb 82 dX7_plain_69 (by decide) h (fun h => ?_) (fun h => ?_)
                · refine sw_iload_n hx hb dX7_plain_82 2 rfl rfl ?_
                  refine sw_bipush hx hb 46 dX7_plain_83 (by decide) ?_
                  refine sw_icmp_ne hx hb 119 dX7_plain_85 (by decide) h (fun h => ?_) (fun h => ?_)
                  · refine sw_iload_n hx hb dX7_plain_119 2 rfl rfl ?_
                    refine sw_bipush hx hb 92 dX7_plain_120 (by decide) ?_
                    refine sw_icmp_ne hx hb 156 dX7_plain_122 (by decide) h (fun h => ?_) (fun h => ?_)
                    · refine sw_aload_n hx hb dX7_plain_156 1 rfl rfl ?_
                      refine sw_iload_n hx hb dX7_plain_157 0 rfl rfl ?_
                      refine sw_iload_n hx hb dX7_plain_158 2 rfl rfl ?_
                      refine sw_callVV (C := RX7) (As := [.int x2_1, .int x1]) (rest := []) X mi_50 (ce_7 (rfl : kd 50 = 7)) rfl rfl (fun _ hz => okX7_takes l X.2.2.2.2.2.2.1 x2_1 x1 M_4 _ hz) (cwX7_148 X.2.2.2.2.1 ⟨Nat.le_of_ble_eq_true rfl, Nat.le_of_ble_eq_true rfl⟩)  rfl rfl (Nat.le_of_ble_eq_true rfl) dX7_plain_159 ⟨Nat.le_of_ble_eq_true rfl, Nat.le_of_ble_eq_true rfl⟩ h (fun M_5 _ h => ?_)
                      refine sw_sub (lv1 := [(0, .ref (ad 50)), (2, .int x2_1)]) [1, 0] rfl ?_
                      exact wX7_plain_L162 X hr x2_1 M_5 h
                    · refine sw_aload_n hx hb dX7_plain_125 1 rfl rfl ?_
                      refine sw_callVI (C := RX7) (As := []) (rest := []) X mi_50 (ce_7 (rfl : kd 50 = 7)) rfl rfl (fun _ hz => okX7_peek l X.2.2.2.2.2.2.1 M_4 _ hz) (cwX7_137 X.2.2.2.2.1 ⟨Nat.le_of_ble_eq_true rfl, Nat.le_of_ble_eq_true rfl⟩)  rfl rfl (Nat.le_of_ble_eq_true rfl) dX7_plain_126 ⟨Nat.le_of_ble_eq_true rfl, Nat.le_of_ble_eq_true rfl⟩ h (fun v_10 M_9 _ h => ?_)
                      refine sw_if_ge hx hb 134 dX7_plain_129 (by decide) h (fun h => ?_) (fun h => ?_)
                      · refine sw_aload_n hx hb dX7_plain_134 1 rfl rfl ?_
                        refine sw_iload_n hx hb dX7_plain_135 0 rfl rfl ?_
                        refine sw_aload_n hx hb dX7_plain_136 1 rfl rfl ?_
                        refine sw_callVI (C := RX7) (As := []) (rest := [.int x2_1, .ref (ad 50)]) X mi_50 (ce_7 (rfl : kd 50 = 7)) rfl rfl (fun _ hz => okX7_peek l X.2.2.2.2.2.2.1 M_9 _ hz) (cwX7_137 X.2.2.2.2.1 ⟨Nat.le_of_ble_eq_true rfl, Nat.le_of_ble_eq_true rfl⟩)  rfl rfl (Nat.le_of_ble_eq_true rfl) dX7_plain_137 ⟨Nat.le_of_ble_eq_true rfl, Nat.le_of_ble_eq_true rfl⟩ h (fun v_12 M_11 _ h => ?_)
                        refine sw_callVV (C := RX7) (As := [.int x2_1, .int v_12]) (rest := []) X mi_50 (ce_7 (rfl : kd 50 = 7)) rfl rfl (fun _ hz => okX7_takes l X.2.2.2.2.2.2.1 x2_1 v_12 M_11 _ hz) (cwX7_148 X.2.2.2.2.1 ⟨Nat.le_of_ble_eq_true rfl, Nat.le_of_ble_eq_true rfl⟩)  rfl rfl (Nat.le_of_ble_eq_true rfl) dX7_plain_140 ⟨Nat.le_of_ble_eq_true rfl, Nat.le_of_ble_eq_true rfl⟩ h (fun M_13 _ h => ?_)
                        refine sw_aload_n hx hb dX7_plain_143 1 rfl rfl ?_
                        refine sw_dup hx hb dX7_plain_144 rfl ?_
                        refine sw_get X inG7 mi_50 (ce_7 (rfl : kd 50 = 7)) rfl 37 (by decide) (goodW wd410) rfl dX7_plain_145 ?_
                        refine sw_iconst hx hb 1 dX7_plain_148 (by decide) ?_
                        refine sw_iadd hx hb dX7_plain_149 ?_
                        refine sw_putI X tyX7 tyX7_ok nmX7 inG7 mi_50 (ce_7 (rfl : kd 50 = 7)) rfl 37 (by decide) (goodW wd410) rfl (by decide +kernel : parseFieldDescriptor _ = some .int) rfl rfl (Nat.le_of_ble_eq_true rfl) (pu_7_37 (rfl : kd 50 = 7) _) dX7_plain_150 h (fun M_15 h => ?_)
                        refine sw_goto hx hb 162 dX7_plain_153 (by decide) ?_
                        refine sw_sub (lv1 := [(0, .ref (ad 50)), (2, .int x2_1)]) [1, 0] rfl ?_
                        exact wX7_plain_L162 X hr x2_1 M_15 h
                      · refine sw_iconst hx hb 0 dX7_plain_132 (by decide) ?_
                        exact sw_Zret X hr dX7_plain_133 h
                  · refine sw_iconst hx hb 0 dX7_plain_88 (by decide) ?_
                    refine sw_istore_n hx hb [(3, .int 0), (2, .int x2_1), (0, .ref (ad 50)), (1, .int x1)] dX7_plain_89 rfl (by decide) rfl ?_
                    refine sw_sub (lv1 := [(0, .ref (ad 50)), (2, .int x2_1), (3, .int 0)]) [2, 1, 0] rfl ?_
                    exact wX7_plain_H90 X hr FU x2_1 0 M_4 h
                · refine sw_aload_n hx hb dX7_plain_72 1 rfl rfl ?_
                  refine sw_iload_n hx hb dX7_plain_73 0 rfl rfl ?_
                  refine sw_callVI (C := RX7) (As := [.int x2_1]) (rest := []) X mi_50 (ce_7 (rfl : kd 50 = 7)) rfl rfl (fun _ hz => okX7_set l X.2.2.2.2.2.2.1 x2_1 M_4 _ hz) (cwX7_157 X.2.2.2.2.1 ⟨Nat.le_of_ble_eq_true rfl, Nat.le_of_ble_eq_true rfl⟩)  rfl rfl (Nat.le_of_ble_eq_true rfl) dX7_plain_74 ⟨Nat.le_of_ble_eq_true rfl, Nat.le_of_ble_eq_true rfl⟩ h (fun v_22 M_21 _ h => ?_)
                  refine sw_if_ne hx hb 162 dX7_plain_77 (by decide) h (fun h => ?_) (fun h => ?_)
                  · refine sw_sub (lv1 := [(0, .ref (ad 50)), (2, .int x2_1)]) [1, 0] rfl ?_
                    exact wX7_plain_L162 X hr x2_1 M_21 h
                  · refine sw_iconst hx hb 0 dX7_plain_80 (by decide) ?_
                    exact sw_Zret X hr dX7_plain_81 h
              · refine sw_iconst hx hb 0 dX7_plain_45 (by decide) ?_
                exact sw_Zret X hr dX7_plain_46 h

end
theorem okX7_plain (l : Launch) {D : va_G} {cy : Nat → ClassId} {ad : Nat → Nat} (hD : ∀ M : Mem, va_D (AA ad iY) (wl cy ad iY M)) (x1 : Int32) (M : Mem) (z : Int32 × Mem) (h : fX7_plain x1 M = some z) : CTI l yX7_plain (wsG yX7_plain cX7_plain 4 (some .boolean)) rm_X7_plain D cy ad iY [.ref (ad 50), .int x1] M z :=
  met_of (cc := cX7_plain) (maxL := 4) (ret := (some .boolean)) (own := RX7) (by decide) rfl rfl hD ndY (Nat.le_of_ble_eq_true rfl) (fun p e s m below meth c X hr => wX7_plain_E X hr x1 M h)
