abbrev QX4_readFrom (below : List Frame) (D : va_G) (cy : Nat → ClassId) (ad : Nat → Nat) (args : Array Value) (s : State) (z : Int32 × Mem) : State → Prop := MQ below (va_Qi (fun r u => r = z.1 ∧ u = z.2) (BB D cy ad iX) (AA ad iX)) args s 0 0 (AA ad iX)
section
variable {p : Program} {l : Launch} {e : Env} {s : State} {m : MethodId} {args : Array Value} {below : List Frame} {meth : Method} {c : Code} {D : va_G} {cy : Nat → ClassId} {ad : Nat → Nat} {z : Int32 × Mem}
set_option maxHeartbeats 4000000 in
set_option maxRecDepth 100000 in
theorem wX4_readFrom_L164 (X : CX p s m args meth c D cy ad iX cX4_readFrom 3 (wsG yX4_readFrom cX4_readFrom 3 (some .int)) RX4) (hr : meth.sig.returnType = (some .int)) (a1 : Nat) (h_a1 : kd a1 = 5) (M : Mem) (h : fX4_readFrom_L164 a1 M = some z) : SW p l e rm_X4_readFrom s m args below meth c 0 0 (QX4_readFrom below D cy ad args s z) 3 (PH D cy ad iX s M) 164 [(0, .ref (ad 17))] [] := by
  have hx := X.1
  have hb := X.2.1
  unfold fX4_readFrom_L164 at h
  refine sw_aload_n hx hb dX4_readFrom_164 0 rfl rfl ?_
  refine sw_callVV (C := RX4) (As := []) (rest := []) X mi_17 (ce_4 (rfl : kd 17 = 4)) rfl rfl (fun _ hz => okX4_end l X.2.2.2.2.2.2.1 M _ hz) (cwX4_72 X.2.2.2.2.1 ⟨Nat.le_of_ble_eq_true rfl, Nat.le_of_ble_eq_true rfl⟩)  rfl rfl (Nat.le_of_ble_eq_true rfl) dX4_readFrom_165 ⟨Nat.le_of_ble_eq_true rfl, Nat.le_of_ble_eq_true rfl⟩ h (fun M_3 _ h => ?_)
  refine sw_aload_n hx hb dX4_readFrom_168 0 rfl rfl ?_
  refine sw_get X inG4 mi_17 (ce_4 (rfl : kd 17 = 4)) rfl 7 (by decide) (goodW wd71) rfl dX4_readFrom_169 ?_
  exact sw_Iret X hr dX4_readFrom_172 h

set_option maxHeartbeats 4000000 in
set_option maxRecDepth 100000 in
theorem wX4_readFrom_L158 (X : CX p s m args meth c D cy ad iX cX4_readFrom 3 (wsG yX4_readFrom cX4_readFrom 3 (some .int)) RX4) (hr : meth.sig.returnType = (some .int)) (a1 : Nat) (h_a1 : kd a1 = 5) (k7 : Int32 → Mem → Option (Int32 × Mem)) (hk7 : ∀ (x2 : Int32) (M : Mem), k7 x2 M = some z → SW p l e rm_X4_readFrom s m args below meth c 0 0 (QX4_readFrom below D cy ad args s z) 3 (PH D cy ad iX s M) 7 [(0, .ref (ad 17)), (2, .int x2)] []) (x2 : Int32) (M : Mem) (h : fX4_readFrom_L158 k7 a1 x2 M = some z) : SW p l e rm_X4_readFrom s m args below meth c 0 0 (QX4_readFrom below D cy ad args s z) 3 (PH D cy ad iX s M) 158 [(0, .ref (ad 17)), (2, .int x2)] [] := by
  have hx := X.1
  have hb := X.2.1
  unfold fX4_readFrom_L158 at h
  refine sw_iincN hx hb (k := 1) (x2 + 1) (fun x2_11 => [(2, .int x2_11), (0, .ref (ad 17))]) dX4_readFrom_158 rfl (by rfl) (by decide) (fun _ => rfl) h (fun x2_11 h => ?_)
  refine sw_goto hx hb 7 dX4_readFrom_161 (by decide) ?_
  refine sw_sub (lv1 := [(0, .ref (ad 17)), (2, .int x2_11)]) [1, 0] rfl ?_
  exact hk7 x2_11 M h

set_option maxHeartbeats 4000000 in
set_option maxRecDepth 100000 in
theorem wX4_readFrom_L143 (X : CX p s m args meth c D cy ad iX cX4_readFrom 3 (wsG yX4_readFrom cX4_readFrom 3 (some .int)) RX4) (hr : meth.sig.returnType = (some .int)) (a1 : Nat) (h_a1 : kd a1 = 5) (k7 : Int32 → Mem → Option (Int32 × Mem)) (hk7 : ∀ (x2 : Int32) (M : Mem), k7 x2 M = some z → SW p l e rm_X4_readFrom s m args below meth c 0 0 (QX4_readFrom below D cy ad args s z) 3 (PH D cy ad iX s M) 7 [(0, .ref (ad 17)), (2, .int x2)] []) (x2 : Int32) (M : Mem) (h : fX4_readFrom_L143 k7 a1 x2 M = some z) : SW p l e rm_X4_readFrom s m args below meth c 0 0 (QX4_readFrom below D cy ad args s z) 3 (PH D cy ad iX s M) 143 [(0, .ref (ad 17)), (2, .int x2)] [] := by
  have hx := X.1
  have hb := X.2.1
  unfold fX4_readFrom_L143 at h
  refine sw_aload_n hx hb dX4_readFrom_143 0 rfl rfl ?_
  refine sw_aload_n hx hb dX4_readFrom_144 0 rfl rfl ?_
  refine sw_get X inG4 mi_17 (ce_4 (rfl : kd 17 = 4)) rfl 6 (by decide) (goodW wd70) rfl dX4_readFrom_145 ?_
  refine sw_putI X tyX4 tyX4_ok nmX4 inG4 mi_17 (ce_4 (rfl : kd 17 = 4)) rfl 7 (by decide) (goodW wd71) rfl (by decide +kernel : parseFieldDescriptor _ = some .int) rfl rfl (Nat.le_of_ble_eq_true rfl) (pu_4_7 (rfl : kd 17 = 4) _) dX4_readFrom_148 h (fun M_14 h => ?_)
  refine sw_goto hx hb 158 dX4_readFrom_151 (by decide) ?_
  refine sw_sub (lv1 := [(0, .ref (ad 17)), (2, .int x2)]) [0, 1] rfl ?_
  exact wX4_readFrom_L158 X hr a1 h_a1 k7 hk7 x2 M_14 h

set_option maxHeartbeats 4000000 in
set_option maxRecDepth 100000 in
theorem wX4_readFrom_H7 (X : CX p s m args meth c D cy ad iX cX4_readFrom 3 (wsG yX4_readFrom cX4_readFrom 3 (some .int)) RX4) (hr : meth.sig.returnType = (some .int)) (a1 : Nat) (h_a1 : kd a1 = 5) : ∀ (n : Nat) (x2 : Int32) (M : Mem), fX4_readFrom_H7 a1 n x2 M = some z → SW p l e rm_X4_readFrom s m args below meth c 0 0 (QX4_readFrom below D cy ad args s z) 3 (PH D cy ad iX s M) 7 [(0, .ref (ad 17)), (2, .int x2)] [] := by
  have hx := X.1
  have hb := X.2.1
  intro n
  induction n with
  | zero =>
    intro x2 M h
    have h : (none : Option (Int32 × Mem)) = some z := h
    cases h
  | succ n ih =>
    intro x2 M h
    rw [fX4_readFrom_H7] at h
    refine sw_iload_n hx hb dX4_readFrom_7 1 rfl rfl ?_
    refine sw_sipush hx hb 300 dX4_readFrom_8 (by decide) ?_
    refine sw_icmp_ge hx hb 164 dX4_readFrom_11 (by decide) h (fun h => ?_) (fun h => ?_)
    · refine sw_sub (lv1 := [(0, .ref (ad 17))]) [0] rfl ?_
      exact wX4_readFrom_L164 X hr a1 h_a1 M h
    · refine sw_aload_n hx hb dX4_readFrom_14 0 rfl rfl ?_
      refine sw_get X inG4 mi_17 (ce_4 (rfl : kd 17 = 4)) rfl 6 (by decide) (goodW wd70) rfl dX4_readFrom_15 ?_
      refine sw_aload_n hx hb dX4_readFrom_18 0 rfl rfl ?_
      refine sw_get X inG4 mi_17 (ce_4 (rfl : kd 17 = 4)) rfl 0 (by decide) (goodW wd62) rfl dX4_readFrom_19 ?_
      refine sw_callVI (C := RX5) (As := []) (rest := [.int (gI M 17 6)]) X mi_18 (ce_5 (rfl : kd 18 = 5)) rfl rfl (fun _ hz => okX5_size l X.2.2.2.2.2.2.1 18 (rfl : kd 18 = 5) M _ hz) (cwX4_53 X.2.2.2.2.1 ⟨Nat.le_of_ble_eq_true rfl, Nat.le_of_ble_eq_true rfl⟩)  rfl rfl (Nat.le_of_ble_eq_true rfl) dX4_readFrom_22 ⟨Nat.le_of_ble_eq_true rfl, Nat.le_of_ble_eq_true rfl⟩ h (fun v_6 M_5 _ h => ?_)
      refine sw_icmp_ge hx hb 164 dX4_readFrom_25 (by decide) h (fun h => ?_) (fun h => ?_)
      · refine sw_sub (lv1 := [(0, .ref (ad 17))]) [0] rfl ?_
        exact wX4_readFrom_L164 X hr a1 h_a1 M_5 h
      · refine sw_aload_n hx hb dX4_readFrom_28 0 rfl rfl ?_
        refine sw_get X inG4 mi_17 (ce_4 (rfl : kd 17 = 4)) rfl 7 (by decide) (goodW wd71) rfl dX4_readFrom_29 ?_
        refine sw_iconst hx hb (-1) dX4_readFrom_32 (by decide) ?_
        refine sw_icmp_ne hx hb 164 dX4_readFrom_33 (by decide) h (fun h => ?_) (fun h => ?_)
        · refine sw_sub (lv1 := [(0, .ref (ad 17))]) [0] rfl ?_
          exact wX4_readFrom_L164 X hr a1 h_a1 M_5 h
        · refine sw_aload_n hx hb dX4_readFrom_36 0 rfl rfl ?_
          refine sw_get X inG4 mi_17 (ce_4 (rfl : kd 17 = 4)) rfl 0 (by decide) (goodW wd62) rfl dX4_readFrom_37 ?_
          refine sw_aload_n hx hb dX4_readFrom_40 0 rfl rfl ?_
          refine sw_get X inG4 mi_17 (ce_4 (rfl : kd 17 = 4)) rfl 6 (by decide) (goodW wd70) rfl dX4_readFrom_41 ?_
          refine sw_callVI (C := RX5) (As := [.int (gI M_5 17 6)]) (rest := []) X mi_18 (ce_5 (rfl : kd 18 = 5)) rfl rfl (fun _ hz => okX5_at l X.2.2.2.2.2.2.1 18 (gI M_5 17 6) (rfl : kd 18 = 5) M_5 _ hz) (cwX4_57 X.2.2.2.2.1 ⟨Nat.le_of_ble_eq_true rfl, Nat.le_of_ble_eq_true rfl⟩)  rfl rfl (Nat.le_of_ble_eq_true rfl) dX4_readFrom_44 ⟨Nat.le_of_ble_eq_true rfl, Nat.le_of_ble_eq_true rfl⟩ h (fun v_8 M_7 _ h => ?_)
          refine ifc h (fun hc47_0 h => ?_) (fun hc47_0 h => ?_)
          · refine sw_lookup hx hb (off := 65) 112 dX4_readFrom_47 (by decide) (by rw [hc47_0]; decide +kernel) (by decide) ?_
            refine sw_aload_n hx hb dX4_readFrom_112 0 rfl rfl ?_
            refine sw_callVV (C := RX4) (As := []) (rest := []) X mi_17 (ce_4 (rfl : kd 17 = 4)) rfl rfl (fun _ hz => okX4_open l X.2.2.2.2.2.2.1 M_7 _ hz) (cwX4_60 X.2.2.2.2.1 ⟨Nat.le_of_ble_eq_true rfl, Nat.le_of_ble_eq_true rfl⟩)  rfl rfl (Nat.le_of_ble_eq_true rfl) dX4_readFrom_113 ⟨Nat.le_of_ble_eq_true rfl, Nat.le_of_ble_eq_true rfl⟩ h (fun M_9 _ h => ?_)
            refine sw_goto hx hb 158 dX4_readFrom_116 (by decide) ?_
            refine sw_sub (lv1 := [(0, .ref (ad 17)), (2, .int x2)]) [0, 1] rfl ?_
            exact wX4_readFrom_L158 X hr a1 h_a1 (fX4_readFrom_H7 a1 n) ih x2 M_9 h
          · skip
            refine ifc h (fun hc47_1 h => ?_) (fun hc47_1 h => ?_)
            · refine sw_lookup hx hb (off := 72) 119 dX4_readFrom_47 (by decide) (by rw [hc47_1]; decide +kernel) (by decide) ?_
              refine sw_aload_n hx hb dX4_readFrom_119 0 rfl rfl ?_
              refine sw_callVV (C := RX4) (As := []) (rest := []) X mi_17 (ce_4 (rfl : kd 17 = 4)) rfl rfl (fun _ hz => okX4_close l X.2.2.2.2.2.2.1 M_7 _ hz) (cwX4_63 X.2.2.2.2.1 ⟨Nat.le_of_ble_eq_true rfl, Nat.le_of_ble_eq_true rfl⟩)  rfl rfl (Nat.le_of_ble_eq_true rfl) dX4_readFrom_120 ⟨Nat.le_of_ble_eq_true rfl, Nat.le_of_ble_eq_true rfl⟩ h (fun M_12 _ h => ?_)
              refine sw_goto hx hb 158 dX4_readFrom_123 (by decide) ?_
              refine sw_sub (lv1 := [(0, .ref (ad 17)), (2, .int x2)]) [0, 1] rfl ?_
              exact wX4_readFrom_L158 X hr a1 h_a1 (fX4_readFrom_H7 a1 n) ih x2 M_12 h
            · skip
              refine ifc h (fun hc47_2 h => ?_) (fun hc47_2 h => ?_)
              · refine sw_lookup hx hb (off := 96) 143 dX4_readFrom_47 (by decide) (by rw [hc47_2]; decide +kernel) (by decide) ?_
                refine sw_sub (lv1 := [(0, .ref (ad 17)), (2, .int x2)]) [0, 1] rfl ?_
                exact wX4_readFrom_L143 X hr a1 h_a1 (fX4_readFrom_H7 a1 n) ih x2 M_7 h
              · skip
                refine ifc h (fun hc47_3 h => ?_) (fun hc47_3 h => ?_)
                · refine sw_lookup hx hb (off := 96) 143 dX4_readFrom_47 (by decide) (by rw [hc47_3]; decide +kernel) (by decide) ?_
                  refine sw_sub (lv1 := [(0, .ref (ad 17)), (2, .int x2)]) [0, 1] rfl ?_
                  exact wX4_readFrom_L143 X hr a1 h_a1 (fX4_readFrom_H7 a1 n) ih x2 M_7 h
                · skip
                  refine ifc h (fun hc47_4 h => ?_) (fun hc47_4 h => ?_)
                  · refine sw_lookup hx hb (off := 96) 143 dX4_readFrom_47 (by decide) (by rw [hc47_4]; decide +kernel) (by decide) ?_
                    refine sw_sub (lv1 := [(0, .ref (ad 17)), (2, .int x2)]) [0, 1] rfl ?_
                    exact wX4_readFrom_L143 X hr a1 h_a1 (fX4_readFrom_H7 a1 n) ih x2 M_7 h
                  · skip
                    refine ifc h (fun hc47_5 h => ?_) (fun hc47_5 h => ?_)
                    · refine sw_lookup hx hb (off := 96) 143 dX4_readFrom_47 (by decide) (by rw [hc47_5]; decide +kernel) (by decide) ?_
                      refine sw_sub (lv1 := [(0, .ref (ad 17)), (2, .int x2)]) [0, 1] rfl ?_
                      exact wX4_readFrom_L143 X hr a1 h_a1 (fX4_readFrom_H7 a1 n) ih x2 M_7 h
                    · skip
                      refine ifc h (fun hc47_6 h => ?_) (fun hc47_6 h => ?_)
                      · refine sw_lookup hx hb (off := 79) 126 dX4_readFrom_47 (by decide) (by rw [hc47_6]; decide +kernel) (by decide) ?_
                        refine sw_aload_n hx hb dX4_readFrom_126 0 rfl rfl ?_
                        refine sw_callVV (C := RX4) (As := []) (rest := []) X mi_17 (ce_4 (rfl : kd 17 = 4)) rfl rfl (fun _ hz => okX4_endRow l X.2.2.2.2.2.2.1 M_7 _ hz) (cwX4_66 X.2.2.2.2.1 ⟨Nat.le_of_ble_eq_true rfl, Nat.le_of_ble_eq_true rfl⟩)  rfl rfl (Nat.le_of_ble_eq_true rfl) dX4_readFrom_127 ⟨Nat.le_of_ble_eq_true rfl, Nat.le_of_ble_eq_true rfl⟩ h (fun M_15 _ h => ?_)
                        refine sw_aload_n hx hb dX4_readFrom_130 0 rfl rfl ?_
                        refine sw_dup hx hb dX4_readFrom_131 rfl ?_
                        refine sw_get X inG4 mi_17 (ce_4 (rfl : kd 17 = 4)) rfl 6 (by decide) (goodW wd70) rfl dX4_readFrom_132 ?_
                        refine sw_iconst hx hb 1 dX4_readFrom_135 (by decide) ?_
                        refine sw_iadd hx hb dX4_readFrom_136 ?_
                        refine sw_putI X tyX4 tyX4_ok nmX4 inG4 mi_17 (ce_4 (rfl : kd 17 = 4)) rfl 6 (by decide) (goodW wd70) rfl (by decide +kernel : parseFieldDescriptor _ = some .int) rfl rfl (Nat.le_of_ble_eq_true rfl) (pu_4_6 (rfl : kd 17 = 4) _) dX4_readFrom_137 h (fun M_17 h => ?_)
                        refine sw_goto hx hb 158 dX4_readFrom_140 (by decide) ?_
                        refine sw_sub (lv1 := [(0, .ref (ad 17)), (2, .int x2)]) [0, 1] rfl ?_
                        exact wX4_readFrom_L158 X hr a1 h_a1 (fX4_readFrom_H7 a1 n) ih x2 M_17 h
                      · skip
                        refine sw_lookup hx hb (off := 107) 154 dX4_readFrom_47 (by decide) ((lv_osw hc47_0 (show (40 : Int32).toInt = 40 from rfl)).trans ((lv_osw hc47_1 (show (41 : Int32).toInt = 41 from rfl)).trans ((lv_osw hc47_2 (show (42 : Int32).toInt = 42 from rfl)).trans ((lv_osw hc47_3 (show (43 : Int32).toInt = 43 from rfl)).trans ((lv_osw hc47_4 (show (63 : Int32).toInt = 63 from rfl)).trans ((lv_osw hc47_5 (show (93 : Int32).toInt = 93 from rfl)).trans ((lv_osw hc47_6 (show (124 : Int32).toInt = 124 from rfl)).trans (rfl)))))))) (by decide) ?_
                        refine sw_aload_n hx hb dX4_readFrom_154 0 rfl rfl ?_
                        refine sw_callVV (C := RX4) (As := []) (rest := []) X mi_17 (ce_4 (rfl : kd 17 = 4)) rfl rfl (fun _ hz => okX4_readAtom l X.2.2.2.2.2.2.1 M_7 _ hz) (cwX4_69 X.2.2.2.2.1 ⟨Nat.le_of_ble_eq_true rfl, Nat.le_of_ble_eq_true rfl⟩)  rfl rfl (Nat.le_of_ble_eq_true rfl) dX4_readFrom_155 ⟨Nat.le_of_ble_eq_true rfl, Nat.le_of_ble_eq_true rfl⟩ h (fun M_18 _ h => ?_)
                        refine sw_sub (lv1 := [(0, .ref (ad 17)), (2, .int x2)]) [0, 1] rfl ?_
                        exact wX4_readFrom_L158 X hr a1 h_a1 (fX4_readFrom_H7 a1 n) ih x2 M_18 h

set_option maxHeartbeats 4000000 in
set_option maxRecDepth 100000 in
theorem wX4_readFrom_E (X : CX p s m args meth c D cy ad iX cX4_readFrom 3 (wsG yX4_readFrom cX4_readFrom 3 (some .int)) RX4) (hr : meth.sig.returnType = (some .int)) (a1 : Nat) (h_a1 : kd a1 = 5) (M : Mem) (h : fX4_readFrom a1 M = some z) : SW p l e rm_X4_readFrom s m args below meth c 0 0 (QX4_readFrom below D cy ad args s z) 3 (PH D cy ad iX s M) 0 [(0, .ref (ad 17)), (1, .ref (ad a1))] [] := by
  have hx := X.1
  have hb := X.2.1
  unfold fX4_readFrom at h
  refine sw_aload_n hx hb dX4_readFrom_0 0 rfl rfl ?_
  refine sw_aload_n hx hb dX4_readFrom_1 1 rfl rfl ?_
  refine sw_callVV (C := RX4) (As := [.ref (ad a1)]) (rest := []) X mi_17 (ce_4 (rfl : kd 17 = 4)) rfl rfl (fun _ hz => okX4_begin l X.2.2.2.2.2.2.1 a1 h_a1 M _ hz) (cwX4_49 X.2.2.2.2.1 ⟨Nat.le_of_ble_eq_true rfl, Nat.le_of_ble_eq_true rfl⟩)  rfl rfl (Nat.le_of_ble_eq_true rfl) dX4_readFrom_2 ⟨Nat.le_of_ble_eq_true rfl, Nat.le_of_ble_eq_true rfl⟩ h (fun M_1 _ h => ?_)
  refine sw_iconst hx hb 0 dX4_readFrom_5 (by decide) ?_
  refine sw_istore_n hx hb [(2, .int 0), (0, .ref (ad 17)), (1, .ref (ad a1))] dX4_readFrom_6 rfl (by decide) rfl ?_
  refine sw_sub (lv1 := [(0, .ref (ad 17)), (2, .int 0)]) [1, 0] rfl ?_
  exact wX4_readFrom_H7 X hr a1 h_a1 FU 0 M_1 h

end
theorem okX4_readFrom (l : Launch) {D : va_G} {cy : Nat → ClassId} {ad : Nat → Nat} (hD : ∀ M : Mem, va_D (AA ad iX) (wl cy ad iX M)) (a1 : Nat) (h_a1 : kd a1 = 5) (M : Mem) (z : Int32 × Mem) (h : fX4_readFrom a1 M = some z) : CTI l yX4_readFrom (wsG yX4_readFrom cX4_readFrom 3 (some .int)) rm_X4_readFrom D cy ad iX [.ref (ad 17), .ref (ad a1)] M z :=
  met_of (cc := cX4_readFrom) (maxL := 3) (ret := (some .int)) (own := RX4) (by decide) rfl rfl hD ndX (Nat.le_of_ble_eq_true rfl) (fun p e s m below meth c X hr => wX4_readFrom_E X hr a1 h_a1 M h)
abbrev QX4_exchange (below : List Frame) (D : va_G) (cy : Nat → ClassId) (ad : Nat → Nat) (args : Array Value) (s : State) (z : Nat × Mem) : State → Prop := MQ below (va_Qr (fun u => u = z.2) (fun u a t => a = ad z.1 ∧ BB D cy ad iX u t) (AA ad iX)) args s 0 0 (AA ad iX)
section
variable {p : Program} {l : Launch} {e : Env} {s : State} {m : MethodId} {args : Array Value} {below : List Frame} {meth : Method} {c : Code} {D : va_G} {cy : Nat → ClassId} {ad : Nat → Nat} {z : Nat × Mem}
set_option maxHeartbeats 4000000 in
set_option maxRecDepth 100000 in
theorem wX4_exchange_E (X : CX p s m args meth c D cy ad iX cX4_exchange 3 (wsG yX4_exchange cX4_exchange 3 (some (.object "TokenMachines$Automaton"))) RX4) (hr : meth.sig.returnType = (some (.object "TokenMachines$Automaton"))) (a1 : Nat) (h_a1 : kd a1 = 0) (M : Mem) (h : fX4_exchange a1 M = some z) : SW p l e rm_X4_exchange s m args below meth c 0 0 (QX4_exchange below D cy ad args s z) 3 (PH D cy ad iX s M) 0 [(0, .ref (ad 17)), (1, .ref (ad a1))] [] := by
  have hx := X.1
  have hb := X.2.1
  unfold fX4_exchange at h
  refine sw_aload_n hx hb dX4_exchange_0 0 rfl rfl ?_
  refine sw_get X inG4 mi_17 (ce_4 (rfl : kd 17 = 4)) rfl 4 (by decide) (goodW wd64) rfl dX4_exchange_1 ?_
  obtain ⟨h_ra_1, h⟩ := ga_ok h
  generalize gR M 17 4 = ra_1 at h h_ra_1 ⊢
  refine sw_astore_n hx hb [(2, .ref (ad ra_1)), (0, .ref (ad 17)), (1, .ref (ad a1))] dX4_exchange_4 rfl (by decide) rfl ?_
  refine sw_aload_n hx hb dX4_exchange_5 1 rfl rfl ?_
  refine sw_aload_n hx hb dX4_exchange_6 2 rfl rfl ?_
  refine sw_putR X tyX4 tyX4_ok nmX4 inG4 mi_17 (ce_4 (rfl : kd 17 = 4)) rfl 4 (by decide) (goodW wd64) rfl (by decide +kernel : parseFieldDescriptor _ = some (.object RX0)) rfl rfl (Nat.le_of_ble_eq_true rfl) (pu_4_4 (rfl : kd 17 = 4) _) dX4_exchange_7 h (fun M_2 h => ?_)
  refine sw_aload_n hx hb dX4_exchange_10 0 rfl rfl ?_
  exact sw_Rret X hr dX4_exchange_11 h

end
theorem okX4_exchange (l : Launch) {D : va_G} {cy : Nat → ClassId} {ad : Nat → Nat} (hD : ∀ M : Mem, va_D (AA ad iX) (wl cy ad iX M)) (a1 : Nat) (h_a1 : kd a1 = 0) (M : Mem) (z : Nat × Mem) (h : fX4_exchange a1 M = some z) : CTR l yX4_exchange (wsG yX4_exchange cX4_exchange 3 (some (.object "TokenMachines$Automaton"))) rm_X4_exchange D cy ad iX [.ref (ad 17), .ref (ad a1)] M z :=
  met_of (cc := cX4_exchange) (maxL := 3) (ret := (some (.object "TokenMachines$Automaton"))) (own := RX4) (by decide) rfl rfl hD ndX (Nat.le_of_ble_eq_true rfl) (fun p e s m below meth c X hr => wX4_exchange_E X hr a1 h_a1 M h)
abbrev QX6_pattern (below : List Frame) (D : va_G) (cy : Nat → ClassId) (ad : Nat → Nat) (args : Array Value) (s : State) (z : Int32 × Mem) : State → Prop := MQ below (va_Qi (fun r u => r = z.1 ∧ u = z.2) (BB D cy ad iX) (AA ad iX)) args s 0 0 (AA ad iX)
section
variable {p : Program} {l : Launch} {e : Env} {s : State} {m : MethodId} {args : Array Value} {below : List Frame} {meth : Method} {c : Code} {D : va_G} {cy : Nat → ClassId} {ad : Nat → Nat} {z : Int32 × Mem}
set_option maxHeartbeats 4000000 in
set_option maxRecDepth 100000 in
theorem wX6_pattern_E (X : CX p s m args meth c D cy ad iX cX6_pattern 2 (wsG yX6_pattern cX6_pattern 2 (some .int)) RX6) (hr : meth.sig.returnType = (some .int)) (M : Mem) (h : fX6_pattern M = some z) : SW p l e rm_X6_pattern s m args below meth c 0 0 (QX6_pattern below D cy ad args s z) 2 (PH D cy ad iX s M) 0 [(0, .ref (ad 0))] [] := by
  have hx := X.1
  have hb := X.2.1
  unfold fX6_pattern at h
  refine sw_aload_n hx hb dX6_pattern_0 0 rfl rfl ?_
  refine sw_get X inG6 mi_0 (ce_6 (rfl : kd 0 = 6)) rfl 4 (by decide) (goodW wd176) rfl dX6_pattern_1 ?_
  refine sw_aload_n hx hb dX6_pattern_4 0 rfl rfl ?_
  refine sw_get X inG6 mi_0 (ce_6 (rfl : kd 0 = 6)) rfl 0 (by decide) (goodW wd2) rfl dX6_pattern_5 ?_
  refine sw_callVI (C := RX4) (As := [.ref (ad 1)]) (rest := []) X mi_17 (ce_4 (rfl : kd 17 = 4)) rfl rfl (fun _ hz => okX4_readFrom l X.2.2.2.2.2.2.1 1 (rfl : kd 1 = 5) M _ hz) (cwX6_66 X.2.2.2.2.1 ⟨Nat.le_of_ble_eq_true rfl, Nat.le_of_ble_eq_true rfl⟩)  rfl rfl (Nat.le_of_ble_eq_true rfl) dX6_pattern_8 ⟨Nat.le_of_ble_eq_true rfl, Nat.le_of_ble_eq_true rfl⟩ h (fun v_2 M_1 _ h => ?_)
  refine sw_istore_n hx hb [(1, .int v_2), (0, .ref (ad 0))] dX6_pattern_11 rfl (by decide) rfl ?_
  refine sw_iload_n hx hb dX6_pattern_12 0 rfl rfl ?_
  refine sw_iconst hx hb (-1) dX6_pattern_13 (by decide) ?_
  refine sw_icmp_eq hx hb 22 dX6_pattern_14 (by decide) h (fun h => ?_) (fun h => ?_)
  · refine sw_aload_n hx hb dX6_pattern_22 1 rfl rfl ?_
    refine sw_aload_n hx hb dX6_pattern_23 1 rfl rfl ?_
    refine sw_get X inG6 mi_0 (ce_6 (rfl : kd 0 = 6)) rfl 4 (by decide) (goodW wd176) rfl dX6_pattern_24 ?_
    refine sw_aload_n hx hb dX6_pattern_27 1 rfl rfl ?_
    refine sw_get X inG6 mi_0 (ce_6 (rfl : kd 0 = 6)) rfl 5 (by decide) (goodW wd181) rfl dX6_pattern_28 ?_
    obtain ⟨h_ra_3, h⟩ := ga_ok h
    generalize gR M_1 0 5 = ra_3 at h h_ra_3 ⊢
    refine sw_callVR (C := RX4) (As := [.ref (ad ra_3)]) (rest := [.ref (ad 0)]) X mi_17 (ce_4 (rfl : kd 17 = 4)) rfl rfl (fun _ hz => okX4_exchange l X.2.2.2.2.2.2.1 ra_3 h_ra_3 M_1 _ hz) (cwX6_70 X.2.2.2.2.1 ⟨Nat.le_of_ble_eq_true rfl, Nat.le_of_ble_eq_true rfl⟩)  rfl rfl (Nat.le_of_ble_eq_true rfl) dX6_pattern_31 ⟨Nat.le_of_ble_eq_true rfl, Nat.le_of_ble_eq_true rfl⟩ h (fun v_5 M_4 _ h => ?_)
    refine sw_putR X tyX6 tyX6_ok nmX6 inG6 mi_0 (ce_6 (rfl : kd 0 = 6)) rfl 5 (by decide) (goodW wd181) rfl (by decide +kernel : parseFieldDescriptor _ = some (.object RX0)) rfl rfl (Nat.le_of_ble_eq_true rfl) (pu_6_5 (rfl : kd 0 = 6) _) dX6_pattern_34 h (fun M_6 h => ?_)
    refine sw_aload_n hx hb dX6_pattern_37 1 rfl rfl ?_
    refine sw_get X inG6 mi_0 (ce_6 (rfl : kd 0 = 6)) rfl 5 (by decide) (goodW wd181) rfl dX6_pattern_38 ?_
    obtain ⟨h_ra_7, h⟩ := ga_ok h
    generalize gR M_6 0 5 = ra_7 at h h_ra_7 ⊢
    refine sw_callVI (C := RX0) (As := []) (rest := []) X (mm0 h_ra_7) (ce_0 h_ra_7) rfl rfl (fun _ hz => okX0_atoms l X.2.2.2.2.2.2.1 ra_7 h_ra_7 M_6 _ hz) (cwX6_74 X.2.2.2.2.1 ⟨Nat.le_of_ble_eq_true rfl, Nat.le_of_ble_eq_true rfl⟩)  rfl rfl (Nat.le_of_ble_eq_true rfl) dX6_pattern_41 ⟨Nat.le_of_ble_eq_true rfl, Nat.le_of_ble_eq_true rfl⟩ h (fun v_9 M_8 _ h => ?_)
    exact sw_Iret X hr dX6_pattern_44 h
  · refine sw_bipush hx hb (-10) dX6_pattern_17 (by decide) ?_
    refine sw_iload_n hx hb dX6_pattern_19 0 rfl rfl ?_
    refine sw_isub hx hb dX6_pattern_20 ?_
    exact sw_Iret X hr dX6_pattern_21 h

end
theorem okX6_pattern (l : Launch) {D : va_G} {cy : Nat → ClassId} {ad : Nat → Nat} (hD : ∀ M : Mem, va_D (AA ad iX) (wl cy ad iX M)) (M : Mem) (z : Int32 × Mem) (h : fX6_pattern M = some z) : CTI l yX6_pattern (wsG yX6_pattern cX6_pattern 2 (some .int)) rm_X6_pattern D cy ad iX [.ref (ad 0)] M z :=
  met_of (cc := cX6_pattern) (maxL := 2) (ret := (some .int)) (own := RX6) (by decide) rfl rfl hD ndX (Nat.le_of_ble_eq_true rfl) (fun p e s m below meth c X hr => wX6_pattern_E X hr M h)
abbrev QX6_isBlank (below : List Frame) (D : va_G) (cy : Nat → ClassId) (ad : Nat → Nat) (args : Array Value) (s : State) (z : Int32 × Mem) : State → Prop := MQ below (va_Qi (fun r u => r = z.1 ∧ u = z.2) (BB D cy ad iX) (AA ad iX)) args s 0 0 (AA ad iX)
section
variable {p : Program} {l : Launch} {e : Env} {s : State} {m : MethodId} {args : Array Value} {below : List Frame} {meth : Method} {c : Code} {D : va_G} {cy : Nat → ClassId} {ad : Nat → Nat} {z : Int32 × Mem}
set_option maxHeartbeats 4000000 in
set_option maxRecDepth 100000 in
theorem wX6_isBlank_L18 (X : CX p s m args meth c D cy ad iX cX6_isBlank 1 (wsG yX6_isBlank cX6_isBlank 1 (some .boolean)) RX6) (hr : meth.sig.returnType = (some .boolean)) (M : Mem) (h : fX6_isBlank_L18 M = some z) : SW p l e rm_X6_isBlank s m args below meth c 0 0 (QX6_isBlank below D cy ad args s z) 1 (PH D cy ad iX s M) 18 [] [] := by
  have hx := X.1
  have hb := X.2.1
  unfold fX6_isBlank_L18 at h
  refine sw_iconst hx hb 1 dX6_isBlank_18 (by decide) ?_
  refine sw_goto hx hb 23 dX6_isBlank_19 (by decide) ?_
  exact sw_Zret X hr dX6_isBlank_23 h

set_option maxHeartbeats 4000000 in
set_option maxRecDepth 100000 in
theorem wX6_isBlank_E (X : CX p s m args meth c D cy ad iX cX6_isBlank 1 (wsG yX6_isBlank cX6_isBlank 1 (some .boolean)) RX6) (hr : meth.sig.returnType = (some .boolean)) (x0 : Int32) (M : Mem) (h : fX6_isBlank x0 M = some z) : SW p l e rm_X6_isBlank s m args below meth c 0 0 (QX6_isBlank below D cy ad args s z) 1 (PH D cy ad iX s M) 0 [(0, .int x0)] [] := by
  have hx := X.1
  have hb := X.2.1
  unfold fX6_isBlank at h
  refine sw_iload_n hx hb dX6_isBlank_0 0 rfl rfl ?_
  refine sw_bipush hx hb 32 dX6_isBlank_1 (by decide) ?_
  refine sw_icmp_eq hx hb 18 dX6_isBlank_3 (by decide) h (fun h => ?_) (fun h => ?_)
  · refine sw_sub (lv1 := []) [] rfl ?_
    exact wX6_isBlank_L18 X hr M h
  · refine sw_iload_n hx hb dX6_isBlank_6 0 rfl rfl ?_
    refine sw_bipush hx hb 9 dX6_isBlank_7 (by decide) ?_
    refine sw_icmp_eq hx hb 18 dX6_isBlank_9 (by decide) h (fun h => ?_) (fun h => ?_)
    · refine sw_sub (lv1 := []) [] rfl ?_
      exact wX6_isBlank_L18 X hr M h
    · refine sw_iload_n hx hb dX6_isBlank_12 0 rfl rfl ?_
      refine sw_bipush hx hb 10 dX6_isBlank_13 (by decide) ?_
      refine sw_icmp_ne hx hb 22 dX6_isBlank_15 (by decide) h (fun h => ?_) (fun h => ?_)
      · refine sw_iconst hx hb 0 dX6_isBlank_22 (by decide) ?_
        exact sw_Zret X hr dX6_isBlank_23 h
      · refine sw_sub (lv1 := []) [] rfl ?_
        exact wX6_isBlank_L18 X hr M h

end
theorem okX6_isBlank (l : Launch) {D : va_G} {cy : Nat → ClassId} {ad : Nat → Nat} (hD : ∀ M : Mem, va_D (AA ad iX) (wl cy ad iX M)) (x0 : Int32) (M : Mem) (z : Int32 × Mem) (h : fX6_isBlank x0 M = some z) : CTI l yX6_isBlank (wsG yX6_isBlank cX6_isBlank 1 (some .boolean)) rm_X6_isBlank D cy ad iX [.int x0] M z :=
  met_of (cc := cX6_isBlank) (maxL := 1) (ret := (some .boolean)) (own := RX6) (by decide) rfl rfl hD ndX (Nat.le_of_ble_eq_true rfl) (fun p e s m below meth c X hr => wX6_isBlank_E X hr x0 M h)
abbrev QX5_hasBlank (below : List Frame) (D : va_G) (cy : Nat → ClassId) (ad : Nat → Nat) (args : Array Value) (s : State) (z : Int32 × Mem) : State → Prop := MQ below (va_Qi (fun r u => r = z.1 ∧ u = z.2) (BB D cy ad iX) (AA ad iX)) args s 0 0 (AA ad iX)
section
variable {p : Program} {l : Launch} {e : Env} {s : State} {m : MethodId} {args : Array Value} {below : List Frame} {meth : Method} {c : Code} {D : va_G} {cy : Nat → ClassId} {ad : Nat → Nat} {z : Int32 × Mem}
set_option maxHeartbeats 4000000 in
set_option maxRecDepth 100000 in
theorem wX5_hasBlank_H2 (X : CX p s m args meth c D cy ad iX cX5_hasBlank 2 (wsG yX5_hasBlank cX5_hasBlank 2 (some .boolean)) RX5) (hr : meth.sig.returnType = (some .boolean)) (o : Nat) (h_o : kd o = 5) : ∀ (n : Nat) (x1 : Int32) (M : Mem), fX5_hasBlank_H2 o n x1 M = some z → SW p l e rm_X5_hasBlank s m args below meth c 0 0 (QX5_hasBlank below D cy ad args s z) 2 (PH D cy ad iX s M) 2 [(0, .ref (ad o)), (1, .int x1)] [] := by
  have hx := X.1
  have hb := X.2.1
  intro n
  induction n with
  | zero =>
    intro x1 M h
    have h : (none : Option (Int32 × Mem)) = some z := h
    cases h
  | succ n ih =>
    intro x1 M h
    rw [fX5_hasBlank_H2] at h
    refine sw_iload_n hx hb dX5_hasBlank_2 1 rfl rfl ?_
    refine sw_aload_n hx hb dX5_hasBlank_3 0 rfl rfl ?_
    refine sw_get X inG5 (mm5 h_o) (ce_5 h_o) rfl 1 (by decide) (goodW wd0) rfl dX5_hasBlank_4 ?_
    refine sw_icmp_ge hx hb 29 dX5_hasBlank_7 (by decide) h (fun h => ?_) (fun h => ?_)
    · refine sw_iconst hx hb 0 dX5_hasBlank_29 (by decide) ?_
      exact sw_Zret X hr dX5_hasBlank_30 h
    · refine sw_aload_n hx hb dX5_hasBlank_10 0 rfl rfl ?_
      refine sw_iload_n hx hb dX5_hasBlank_11 1 rfl rfl ?_
      refine sw_callVI (C := RX5) (As := [.int x1]) (rest := []) X (mm5 h_o) (ce_5 h_o) rfl rfl (fun _ hz => okX5_at l X.2.2.2.2.2.2.1 o x1 h_o M _ hz) (cwX5_19 X.2.2.2.2.1 ⟨Nat.le_of_ble_eq_true rfl, Nat.le_of_ble_eq_true rfl⟩)  rfl rfl (Nat.le_of_ble_eq_true rfl) dX5_hasBlank_12 ⟨Nat.le_of_ble_eq_true rfl, Nat.le_of_ble_eq_true rfl⟩ h (fun v_2 M_1 _ h => ?_)
      refine sw_callNI (As := [.int v_2]) (rest := []) X (fun _ hz => okX6_isBlank l X.2.2.2.2.2.2.1 v_2 M_1 _ hz) (cwX5_30 X.2.2.2.2.1 X.2.2.2.2.2.2.2.2.2 ⟨Nat.le_of_ble_eq_true rfl, Nat.le_of_ble_eq_true rfl⟩)  rfl rfl (Nat.le_of_ble_eq_true rfl) dX5_hasBlank_15 ⟨Nat.le_of_ble_eq_true rfl, Nat.le_of_ble_eq_true rfl⟩ h (fun v_4 M_3 _ h => ?_)
      refine sw_if_eq hx hb 23 dX5_hasBlank_18 (by decide) h (fun h => ?_) (fun h => ?_)
      · refine sw_iincN hx hb (k := 1) (x1 + 1) (fun x1_5 => [(1, .int x1_5), (0, .ref (ad o))]) dX5_hasBlank_23 rfl (by rfl) (by decide) (fun _ => rfl) h (fun x1_5 h => ?_)
        refine sw_goto hx hb 2 dX5_hasBlank_26 (by decide) ?_
        refine sw_sub (lv1 := [(0, .ref (ad o)), (1, .int x1_5)]) [1, 0] rfl ?_
        exact ih x1_5 M_3 h
      · refine sw_iconst hx hb 1 dX5_hasBlank_21 (by decide) ?_
        exact sw_Zret X hr dX5_hasBlank_22 h

set_option maxHeartbeats 4000000 in
set_option maxRecDepth 100000 in
theorem wX5_hasBlank_E (X : CX p s m args meth c D cy ad iX cX5_hasBlank 2 (wsG yX5_hasBlank cX5_hasBlank 2 (some .boolean)) RX5) (hr : meth.sig.returnType = (some .boolean)) (o : Nat) (h_o : kd o = 5) (M : Mem) (h : fX5_hasBlank o M = some z) : SW p l e rm_X5_hasBlank s m args below meth c 0 0 (QX5_hasBlank below D cy ad args s z) 2 (PH D cy ad iX s M) 0 [(0, .ref (ad o))] [] := by
  have hx := X.1
  have hb := X.2.1
  unfold fX5_hasBlank at h
  refine sw_iconst hx hb 0 dX5_hasBlank_0 (by decide) ?_
  refine sw_istore_n hx hb [(1, .int 0), (0, .ref (ad o))] dX5_hasBlank_1 rfl (by decide) rfl ?_
  refine sw_sub (lv1 := [(0, .ref (ad o)), (1, .int 0)]) [1, 0] rfl ?_
  exact wX5_hasBlank_H2 X hr o h_o FU 0 M h

end
theorem okX5_hasBlank (l : Launch) {D : va_G} {cy : Nat → ClassId} {ad : Nat → Nat} (hD : ∀ M : Mem, va_D (AA ad iX) (wl cy ad iX M)) (o : Nat) (h_o : kd o = 5) (M : Mem) (z : Int32 × Mem) (h : fX5_hasBlank o M = some z) : CTI l yX5_hasBlank (wsG yX5_hasBlank cX5_hasBlank 2 (some .boolean)) rm_X5_hasBlank D cy ad iX [.ref (ad o)] M z :=
  met_of (cc := cX5_hasBlank) (maxL := 2) (ret := (some .boolean)) (own := RX5) (by decide) rfl rfl hD ndX (Nat.le_of_ble_eq_true rfl) (fun p e s m below meth c X hr => wX5_hasBlank_E X hr o h_o M h)
abbrev QX6_isCost (below : List Frame) (D : va_G) (cy : Nat → ClassId) (ad : Nat → Nat) (args : Array Value) (s : State) (z : Int32 × Mem) : State → Prop := MQ below (va_Qi (fun r u => r = z.1 ∧ u = z.2) (BB D cy ad iX) (AA ad iX)) args s 0 0 (AA ad iX)
section
variable {p : Program} {l : Launch} {e : Env} {s : State} {m : MethodId} {args : Array Value} {below : List Frame} {meth : Method} {c : Code} {D : va_G} {cy : Nat → ClassId} {ad : Nat → Nat} {z : Int32 × Mem}
set_option maxHeartbeats 4000000 in
set_option maxRecDepth 100000 in
theorem wX6_isCost_E (X : CX p s m args meth c D cy ad iX cX6_isCost 1 (wsG yX6_isCost cX6_isCost 1 (some .boolean)) RX6) (hr : meth.sig.returnType = (some .boolean)) (x0 : Int32) (M : Mem) (h : fX6_isCost x0 M = some z) : SW p l e rm_X6_isCost s m args below meth c 0 0 (QX6_isCost below D cy ad args s z) 1 (PH D cy ad iX s M) 0 [(0, .int x0)] [] := by
  have hx := X.1
  have hb := X.2.1
  unfold fX6_isCost at h
  refine sw_iload_n hx hb dX6_isCost_0 0 rfl rfl ?_
  refine sw_iconst hx hb 1 dX6_isCost_1 (by decide) ?_
  refine sw_icmp_lt hx hb 16 dX6_isCost_2 (by decide) h (fun h => ?_) (fun h => ?_)
  · refine sw_iconst hx hb 0 dX6_isCost_16 (by decide) ?_
    exact sw_Zret X hr dX6_isCost_17 h
  · refine sw_iload_n hx hb dX6_isCost_5 0 rfl rfl ?_
    refine sw_sipush hx hb 1000 dX6_isCost_6 (by decide) ?_
    refine sw_icmp_gt hx hb 16 dX6_isCost_9 (by decide) h (fun h => ?_) (fun h => ?_)
    · refine sw_iconst hx hb 0 dX6_isCost_16 (by decide) ?_
      exact sw_Zret X hr dX6_isCost_17 h
    · refine sw_iconst hx hb 1 dX6_isCost_12 (by decide) ?_
      refine sw_goto hx hb 17 dX6_isCost_13 (by decide) ?_
      exact sw_Zret X hr dX6_isCost_17 h

end
theorem okX6_isCost (l : Launch) {D : va_G} {cy : Nat → ClassId} {ad : Nat → Nat} (hD : ∀ M : Mem, va_D (AA ad iX) (wl cy ad iX M)) (x0 : Int32) (M : Mem) (z : Int32 × Mem) (h : fX6_isCost x0 M = some z) : CTI l yX6_isCost (wsG yX6_isCost cX6_isCost 1 (some .boolean)) rm_X6_isCost D cy ad iX [.int x0] M z :=
  met_of (cc := cX6_isCost) (maxL := 1) (ret := (some .boolean)) (own := RX6) (by decide) rfl rfl hD ndX (Nat.le_of_ble_eq_true rfl) (fun p e s m below meth c X hr => wX6_isCost_E X hr x0 M h)
abbrev QX1_standsAt (below : List Frame) (D : va_G) (cy : Nat → ClassId) (ad : Nat → Nat) (args : Array Value) (s : State) (z : Int32 × Mem) : State → Prop := MQ below (va_Qi (fun r u => r = z.1 ∧ u = z.2) (BB D cy ad iX) (AA ad iX)) args s 0 0 (AA ad iX)
section
variable {p : Program} {l : Launch} {e : Env} {s : State} {m : MethodId} {args : Array Value} {below : List Frame} {meth : Method} {c : Code} {D : va_G} {cy : Nat → ClassId} {ad : Nat → Nat} {z : Int32 × Mem}
set_option maxHeartbeats 4000000 in
set_option maxRecDepth 100000 in
theorem wX1_standsAt_H3 (X : CX p s m args meth c D cy ad iX cX1_standsAt 5 (wsG yX1_standsAt cX1_standsAt 5 (some .boolean)) RX1) (hr : meth.sig.returnType = (some .boolean)) (a2 : Nat) (h_a2 : kd a2 = 5) : ∀ (n : Nat) (x1 : Int32) (x3 : Int32) (x4 : Int32) (M : Mem), fX1_standsAt_H3 a2 n x1 x3 x4 M = some z → SW p l e rm_X1_standsAt s m args below meth c 0 0 (QX1_standsAt below D cy ad args s z) 5 (PH D cy ad iX s M) 3 [(0, .ref (ad 9)), (1, .int x1), (2, .ref (ad a2)), (3, .int x3), (4, .int x4)] [] := by
  have hx := X.1
  have hb := X.2.1
  intro n
  induction n with
  | zero =>
    intro x1 x3 x4 M h
    have h : (none : Option (Int32 × Mem)) = some z := h
    cases h
  | succ n ih =>
    intro x1 x3 x4 M h
    rw [fX1_standsAt_H3] at h
    refine sw_iload hx hb dX1_standsAt_3 4 rfl ?_
    refine sw_aload_n hx hb dX1_standsAt_5 0 rfl rfl ?_
    refine sw_get X inG1 mi_9 (ce_1 (rfl : kd 9 = 1)) rfl 1 (by decide) (goodW wd190) rfl dX1_standsAt_6 ?_
    refine sw_iload_n hx hb dX1_standsAt_9 1 rfl rfl ?_
    refine sw_iald X mi_11 (rfl : kd 11 = 9) dX1_standsAt_10 h (fun v_1 h => ?_)
    refine sw_icmp_ge hx hb 49 dX1_standsAt_11 (by decide) h (fun h => ?_) (fun h => ?_)
    · refine sw_iconst hx hb 1 dX1_standsAt_49 (by decide) ?_
      exact sw_Zret X hr dX1_standsAt_50 h
    · refine sw_aload_n hx hb dX1_standsAt_14 0 rfl rfl ?_
      refine sw_get X inG1 mi_9 (ce_1 (rfl : kd 9 = 1)) rfl 0 (by decide) (goodW wd191) rfl dX1_standsAt_15 ?_
      refine sw_iload_n hx hb dX1_standsAt_18 1 rfl rfl ?_
      refine sw_bipush hx hb 12 dX1_standsAt_19 (by decide) ?_
      refine sw_imul hx hb dX1_standsAt_21 ?_
      refine sw_iload hx hb dX1_standsAt_22 4 rfl ?_
      refine sw_iadd hx hb dX1_standsAt_24 ?_
      refine sw_bald X mi_10 (rfl : kd 10 = 8) dX1_standsAt_25 h (fun v_2 h => ?_)
      refine sw_sipush hx hb 255 dX1_standsAt_26 (by decide) ?_
      refine sw_iand hx hb dX1_standsAt_29 ?_
      refine sw_aload_n hx hb dX1_standsAt_30 2 rfl rfl ?_
      refine sw_iload_n hx hb dX1_standsAt_31 3 rfl rfl ?_
      refine sw_iload hx hb dX1_standsAt_32 4 rfl ?_
      refine sw_iadd hx hb dX1_standsAt_34 ?_
      refine sw_callVI (C := RX5) (As := [.int (x3 + x4)]) (rest := [.int (v_2 &&& 255)]) X (mm5 h_a2) (ce_5 h_a2) rfl rfl (fun _ hz => okX5_at l X.2.2.2.2.2.2.1 a2 (x3 + x4) h_a2 M _ hz) (cwX1_59 X.2.2.2.2.1 ⟨Nat.le_of_ble_eq_true rfl, Nat.le_of_ble_eq_true rfl⟩)  rfl rfl (Nat.le_of_ble_eq_true rfl) dX1_standsAt_35 ⟨Nat.le_of_ble_eq_true rfl, Nat.le_of_ble_eq_true rfl⟩ h (fun v_4 M_3 _ h => ?_)
      refine sw_icmp_eq hx hb 43 dX1_standsAt_38 (by decide) h (fun h => ?_) (fun h => ?_)
      · refine sw_iincN hx hb (k := 4) (x4 + 1) (fun x4_5 => [(4, .int x4_5), (0, .ref (ad 9)), (1, .int x1), (2, .ref (ad a2)), (3, .int x3)]) dX1_standsAt_43 rfl (by rfl) (by decide) (fun _ => rfl) h (fun x4_5 h => ?_)
        refine sw_goto hx hb 3 dX1_standsAt_46 (by decide) ?_
        refine sw_sub (lv1 := [(0, .ref (ad 9)), (1, .int x1), (2, .ref (ad a2)), (3, .int x3), (4, .int x4_5)]) [1, 2, 3, 4, 0] rfl ?_
        exact ih x1 x3 x4_5 M_3 h
      · refine sw_iconst hx hb 0 dX1_standsAt_41 (by decide) ?_
        exact sw_Zret X hr dX1_standsAt_42 h

set_option maxHeartbeats 4000000 in
set_option maxRecDepth 100000 in
theorem wX1_standsAt_E (X : CX p s m args meth c D cy ad iX cX1_standsAt 5 (wsG yX1_standsAt cX1_standsAt 5 (some .boolean)) RX1) (hr : meth.sig.returnType = (some .boolean)) (a2 : Nat) (h_a2 : kd a2 = 5) (x1 : Int32) (x3 : Int32) (M : Mem) (h : fX1_standsAt a2 x1 x3 M = some z) : SW p l e rm_X1_standsAt s m args below meth c 0 0 (QX1_standsAt below D cy ad args s z) 5 (PH D cy ad iX s M) 0 [(0, .ref (ad 9)), (1, .int x1), (2, .ref (ad a2)), (3, .int x3)] [] := by
  have hx := X.1
  have hb := X.2.1
  unfold fX1_standsAt at h
  refine sw_iconst hx hb 0 dX1_standsAt_0 (by decide) ?_
  refine sw_istore hx hb [(4, .int 0), (0, .ref (ad 9)), (1, .int x1), (2, .ref (ad a2)), (3, .int x3)] dX1_standsAt_1 (by decide) rfl ?_
  refine sw_sub (lv1 := [(0, .ref (ad 9)), (1, .int x1), (2, .ref (ad a2)), (3, .int x3), (4, .int 0)]) [1, 2, 3, 4, 0] rfl ?_
  exact wX1_standsAt_H3 X hr a2 h_a2 FU x1 x3 0 M h

end
theorem okX1_standsAt (l : Launch) {D : va_G} {cy : Nat → ClassId} {ad : Nat → Nat} (hD : ∀ M : Mem, va_D (AA ad iX) (wl cy ad iX M)) (a2 : Nat) (x1 : Int32) (x3 : Int32) (h_a2 : kd a2 = 5) (M : Mem) (z : Int32 × Mem) (h : fX1_standsAt a2 x1 x3 M = some z) : CTI l yX1_standsAt (wsG yX1_standsAt cX1_standsAt 5 (some .boolean)) rm_X1_standsAt D cy ad iX [.ref (ad 9), .int x1, .ref (ad a2), .int x3] M z :=
  met_of (cc := cX1_standsAt) (maxL := 5) (ret := (some .boolean)) (own := RX1) (by decide) rfl rfl hD ndX (Nat.le_of_ble_eq_true rfl) (fun p e s m below meth c X hr => wX1_standsAt_E X hr a2 h_a2 x1 x3 M h)
abbrev QX1_knows (below : List Frame) (D : va_G) (cy : Nat → ClassId) (ad : Nat → Nat) (args : Array Value) (s : State) (z : Int32 × Mem) : State → Prop := MQ below (va_Qi (fun r u => r = z.1 ∧ u = z.2) (BB D cy ad iX) (AA ad iX)) args s 0 0 (AA ad iX)
section
variable {p : Program} {l : Launch} {e : Env} {s : State} {m : MethodId} {args : Array Value} {below : List Frame} {meth : Method} {c : Code} {D : va_G} {cy : Nat → ClassId} {ad : Nat → Nat} {z : Int32 × Mem}
set_option maxHeartbeats 4000000 in
set_option maxRecDepth 100000 in
theorem wX1_knows_L35 (X : CX p s m args meth c D cy ad iX cX1_knows 3 (wsG yX1_knows cX1_knows 3 (some .boolean)) RX1) (hr : meth.sig.returnType = (some .boolean)) (a1 : Nat) (h_a1 : kd a1 = 5) (k2 : Int32 → Mem → Option (Int32 × Mem)) (hk2 : ∀ (x2 : Int32) (M : Mem), k2 x2 M = some z → SW p l e rm_X1_knows s m args below meth c 0 0 (QX1_knows below D cy ad args s z) 3 (PH D cy ad iX s M) 2 [(0, .ref (ad 9)), (1, .ref (ad a1)), (2, .int x2)] []) (x2 : Int32) (M : Mem) (h : fX1_knows_L35 k2 a1 x2 M = some z) : SW p l e rm_X1_knows s m args below meth c 0 0 (QX1_knows below D cy ad args s z) 3 (PH D cy ad iX s M) 35 [(0, .ref (ad 9)), (1, .ref (ad a1)), (2, .int x2)] [] := by
  have hx := X.1
  have hb := X.2.1
  unfold fX1_knows_L35 at h
  refine sw_iincN hx hb (k := 2) (x2 + 1) (fun x2_4 => [(2, .int x2_4), (0, .ref (ad 9)), (1, .ref (ad a1))]) dX1_knows_35 rfl (by rfl) (by decide) (fun _ => rfl) h (fun x2_4 h => ?_)
  refine sw_goto hx hb 2 dX1_knows_38 (by decide) ?_
  refine sw_sub (lv1 := [(0, .ref (ad 9)), (1, .ref (ad a1)), (2, .int x2_4)]) [1, 2, 0] rfl ?_
  exact hk2 x2_4 M h

set_option maxHeartbeats 4000000 in
set_option maxRecDepth 100000 in
theorem wX1_knows_H2 (X : CX p s m args meth c D cy ad iX cX1_knows 3 (wsG yX1_knows cX1_knows 3 (some .boolean)) RX1) (hr : meth.sig.returnType = (some .boolean)) (a1 : Nat) (h_a1 : kd a1 = 5) : ∀ (n : Nat) (x2 : Int32) (M : Mem), fX1_knows_H2 a1 n x2 M = some z → SW p l e rm_X1_knows s m args below meth c 0 0 (QX1_knows below D cy ad args s z) 3 (PH D cy ad iX s M) 2 [(0, .ref (ad 9)), (1, .ref (ad a1)), (2, .int x2)] [] := by
  have hx := X.1
  have hb := X.2.1
  intro n
  induction n with
  | zero =>
    intro x2 M h
    have h : (none : Option (Int32 × Mem)) = some z := h
    cases h
  | succ n ih =>
    intro x2 M h
    rw [fX1_knows_H2] at h
    refine sw_iload_n hx hb dX1_knows_2 2 rfl rfl ?_
    refine sw_aload_n hx hb dX1_knows_3 0 rfl rfl ?_
    refine sw_get X inG1 mi_9 (ce_1 (rfl : kd 9 = 1)) rfl 3 (by decide) (goodW wd193) rfl dX1_knows_4 ?_
    refine sw_icmp_ge hx hb 41 dX1_knows_7 (by decide) h (fun h => ?_) (fun h => ?_)
    · refine sw_iconst hx hb 0 dX1_knows_41 (by decide) ?_
      exact sw_Zret X hr dX1_knows_42 h
    · refine sw_aload_n hx hb dX1_knows_10 0 rfl rfl ?_
      refine sw_get X inG1 mi_9 (ce_1 (rfl : kd 9 = 1)) rfl 1 (by decide) (goodW wd190) rfl dX1_knows_11 ?_
      refine sw_iload_n hx hb dX1_knows_14 2 rfl rfl ?_
      refine sw_iald X mi_11 (rfl : kd 11 = 9) dX1_knows_15 h (fun v_1 h => ?_)
      refine sw_aload_n hx hb dX1_knows_16 1 rfl rfl ?_
      refine sw_callVI (C := RX5) (As := []) (rest := [.int v_1]) X (mm5 h_a1) (ce_5 h_a1) rfl rfl (fun _ hz => okX5_size l X.2.2.2.2.2.2.1 a1 h_a1 M _ hz) (cwX1_42 X.2.2.2.2.1 ⟨Nat.le_of_ble_eq_true rfl, Nat.le_of_ble_eq_true rfl⟩)  rfl rfl (Nat.le_of_ble_eq_true rfl) dX1_knows_17 ⟨Nat.le_of_ble_eq_true rfl, Nat.le_of_ble_eq_true rfl⟩ h (fun v_3 M_2 _ h => ?_)
      refine sw_icmp_ne hx hb 35 dX1_knows_20 (by decide) h (fun h => ?_) (fun h => ?_)
      · refine sw_sub (lv1 := [(0, .ref (ad 9)), (1, .ref (ad a1)), (2, .int x2)]) [0, 1, 2] rfl ?_
        exact wX1_knows_L35 X hr a1 h_a1 (fX1_knows_H2 a1 n) ih x2 M_2 h
      · refine sw_aload_n hx hb dX1_knows_23 0 rfl rfl ?_
        refine sw_iload_n hx hb dX1_knows_24 2 rfl rfl ?_
        refine sw_aload_n hx hb dX1_knows_25 1 rfl rfl ?_
        refine sw_iconst hx hb 0 dX1_knows_26 (by decide) ?_
        refine sw_callVI (C := RX1) (As := [.int x2, .ref (ad a1), .int 0]) (rest := []) X mi_9 (ce_1 (rfl : kd 9 = 1)) rfl rfl (fun _ hz => okX1_standsAt l X.2.2.2.2.2.2.1 a1 x2 0 h_a1 M_2 _ hz) (cwX1_63 X.2.2.2.2.1 ⟨Nat.le_of_ble_eq_true rfl, Nat.le_of_ble_eq_true rfl⟩)  rfl rfl (Nat.le_of_ble_eq_true rfl) dX1_knows_27 ⟨Nat.le_of_ble_eq_true rfl, Nat.le_of_ble_eq_true rfl⟩ h (fun v_6 M_5 _ h => ?_)
        refine sw_if_eq hx hb 35 dX1_knows_30 (by decide) h (fun h => ?_) (fun h => ?_)
        · refine sw_sub (lv1 := [(0, .ref (ad 9)), (1, .ref (ad a1)), (2, .int x2)]) [0, 1, 2] rfl ?_
          exact wX1_knows_L35 X hr a1 h_a1 (fX1_knows_H2 a1 n) ih x2 M_5 h
        · refine sw_iconst hx hb 1 dX1_knows_33 (by decide) ?_
          exact sw_Zret X hr dX1_knows_34 h

set_option maxHeartbeats 4000000 in
set_option maxRecDepth 100000 in
theorem wX1_knows_E (X : CX p s m args meth c D cy ad iX cX1_knows 3 (wsG yX1_knows cX1_knows 3 (some .boolean)) RX1) (hr : meth.sig.returnType = (some .boolean)) (a1 : Nat) (h_a1 : kd a1 = 5) (M : Mem) (h : fX1_knows a1 M = some z) : SW p l e rm_X1_knows s m args below meth c 0 0 (QX1_knows below D cy ad args s z) 3 (PH D cy ad iX s M) 0 [(0, .ref (ad 9)), (1, .ref (ad a1))] [] := by
  have hx := X.1
  have hb := X.2.1
  unfold fX1_knows at h
  refine sw_iconst hx hb 0 dX1_knows_0 (by decide) ?_
  refine sw_istore_n hx hb [(2, .int 0), (0, .ref (ad 9)), (1, .ref (ad a1))] dX1_knows_1 rfl (by decide) rfl ?_
  refine sw_sub (lv1 := [(0, .ref (ad 9)), (1, .ref (ad a1)), (2, .int 0)]) [1, 2, 0] rfl ?_
  exact wX1_knows_H2 X hr a1 h_a1 FU 0 M h

end
theorem okX1_knows (l : Launch) {D : va_G} {cy : Nat → ClassId} {ad : Nat → Nat} (hD : ∀ M : Mem, va_D (AA ad iX) (wl cy ad iX M)) (a1 : Nat) (h_a1 : kd a1 = 5) (M : Mem) (z : Int32 × Mem) (h : fX1_knows a1 M = some z) : CTI l yX1_knows (wsG yX1_knows cX1_knows 3 (some .boolean)) rm_X1_knows D cy ad iX [.ref (ad 9), .ref (ad a1)] M z :=
  met_of (cc := cX1_knows) (maxL := 3) (ret := (some .boolean)) (own := RX1) (by decide) rfl rfl hD ndX (Nat.le_of_ble_eq_true rfl) (fun p e s m below meth c X hr => wX1_knows_E X hr a1 h_a1 M h)
abbrev QX1_learn (below : List Frame) (D : va_G) (cy : Nat → ClassId) (ad : Nat → Nat) (args : Array Value) (s : State) (z : Int32 × Mem) : State → Prop := MQ below (va_Qi (fun r u => r = z.1 ∧ u = z.2) (BB D cy ad iX) (AA ad iX)) args s 0 0 (AA ad iX)
section
variable {p : Program} {l : Launch} {e : Env} {s : State} {m : MethodId} {args : Array Value} {below : List Frame} {meth : Method} {c : Code} {D : va_G} {cy : Nat → ClassId} {ad : Nat → Nat} {z : Int32 × Mem}
set_option maxHeartbeats 4000000 in
set_option maxRecDepth 100000 in
theorem wX1_learn_H58 (X : CX p s m args meth c D cy ad iX cX1_learn 5 (wsG yX1_learn cX1_learn 5 (some .int)) RX1) (hr : meth.sig.returnType = (some .int)) (a1 : Nat) (h_a1 : kd a1 = 5) : ∀ (n : Nat) (x2 : Int32) (x3 : Int32) (x4 : Int32) (M : Mem), fX1_learn_H58 a1 n x2 x3 x4 M = some z → SW p l e rm_X1_learn s m args below meth c 0 0 (QX1_learn below D cy ad args s z) 5 (PH D cy ad iX s M) 58 [(0, .ref (ad 9)), (1, .ref (ad a1)), (2, .int x2), (3, .int x3), (4, .int x4)] [] := by
  have hx := X.1
  have hb := X.2.1
  intro n
  induction n with
  | zero =>
    intro x2 x3 x4 M h
    have h : (none : Option (Int32 × Mem)) = some z := h
    cases h
  | succ n ih =>
    intro x2 x3 x4 M h
    rw [fX1_learn_H58] at h
    refine sw_iload hx hb dX1_learn_58 4 rfl ?_
    refine sw_iload_n hx hb dX1_learn_60 3 rfl rfl ?_
    refine sw_icmp_ge hx hb 92 dX1_learn_61 (by decide) h (fun h => ?_) (fun h => ?_)
    · refine sw_aload_n hx hb dX1_learn_92 0 rfl rfl ?_
      refine sw_get X inG1 mi_9 (ce_1 (rfl : kd 9 = 1)) rfl 1 (by decide) (goodW wd190) rfl dX1_learn_93 ?_
      refine sw_aload_n hx hb dX1_learn_96 0 rfl rfl ?_
      refine sw_get X inG1 mi_9 (ce_1 (rfl : kd 9 = 1)) rfl 3 (by decide) (goodW wd193) rfl dX1_learn_97 ?_
      refine sw_iload_n hx hb dX1_learn_100 3 rfl rfl ?_
      refine sw_iast X mi_11 (rfl : kd 11 = 9) dX1_learn_101 h (fun M_9 h => ?_)
      refine sw_aload_n hx hb dX1_learn_102 0 rfl rfl ?_
      refine sw_get X inG1 mi_9 (ce_1 (rfl : kd 9 = 1)) rfl 2 (by decide) (goodW wd210) rfl dX1_learn_103 ?_
      refine sw_aload_n hx hb dX1_learn_106 0 rfl rfl ?_
      refine sw_get X inG1 mi_9 (ce_1 (rfl : kd 9 = 1)) rfl 3 (by decide) (goodW wd193) rfl dX1_learn_107 ?_
      refine sw_iload_n hx hb dX1_learn_110 2 rfl rfl ?_
      refine sw_iast X mi_12 (rfl : kd 12 = 9) dX1_learn_111 h (fun M_10 h => ?_)
      refine sw_aload_n hx hb dX1_learn_112 0 rfl rfl ?_
      refine sw_dup hx hb dX1_learn_113 rfl ?_
      refine sw_get X inG1 mi_9 (ce_1 (rfl : kd 9 = 1)) rfl 3 (by decide) (goodW wd193) rfl dX1_learn_114 ?_
      refine sw_iconst hx hb 1 dX1_learn_117 (by decide) ?_
      refine sw_iadd hx hb dX1_learn_118 ?_
      refine sw_putI X tyX1 tyX1_ok nmX1 inG1 mi_9 (ce_1 (rfl : kd 9 = 1)) rfl 3 (by decide) (goodW wd193) rfl (by decide +kernel : parseFieldDescriptor _ = some .int) rfl rfl (Nat.le_of_ble_eq_true rfl) (pu_1_3 (rfl : kd 9 = 1) _) dX1_learn_119 h (fun M_11 h => ?_)
      refine sw_aload_n hx hb dX1_learn_122 0 rfl rfl ?_
      refine sw_get X inG1 mi_9 (ce_1 (rfl : kd 9 = 1)) rfl 3 (by decide) (goodW wd193) rfl dX1_learn_123 ?_
      refine sw_iconst hx hb 1 dX1_learn_126 (by decide) ?_
      refine sw_isub hx hb dX1_learn_127 ?_
      exact sw_Iret X hr dX1_learn_128 h
    · refine sw_aload_n hx hb dX1_learn_64 0 rfl rfl ?_
      refine sw_get X inG1 mi_9 (ce_1 (rfl : kd 9 = 1)) rfl 0 (by decide) (goodW wd191) rfl dX1_learn_65 ?_
      refine sw_aload_n hx hb dX1_learn_68 0 rfl rfl ?_
      refine sw_get X inG1 mi_9 (ce_1 (rfl : kd 9 = 1)) rfl 3 (by decide) (goodW wd193) rfl dX1_learn_69 ?_
      refine sw_bipush hx hb 12 dX1_learn_72 (by decide) ?_
      refine sw_imul hx hb dX1_learn_74 ?_
      refine sw_iload hx hb dX1_learn_75 4 rfl ?_
      refine sw_iadd hx hb dX1_learn_77 ?_
      refine sw_aload_n hx hb dX1_learn_78 1 rfl rfl ?_
      refine sw_iload hx hb dX1_learn_79 4 rfl ?_
      refine sw_callVI (C := RX5) (As := [.int x4]) (rest := [.int (((gI M 9 3) * 12) + x4), .ref (ad 10)]) X (mm5 h_a1) (ce_5 h_a1) rfl rfl (fun _ hz => okX5_at l X.2.2.2.2.2.2.1 a1 x4 h_a1 M _ hz) (cwX1_59 X.2.2.2.2.1 ⟨Nat.le_of_ble_eq_true rfl, Nat.le_of_ble_eq_true rfl⟩)  rfl rfl (Nat.le_of_ble_eq_true rfl) dX1_learn_81 ⟨Nat.le_of_ble_eq_true rfl, Nat.le_of_ble_eq_true rfl⟩ h (fun v_13 M_12 _ h => ?_)
      refine sw_i2b hx hb dX1_learn_84 ?_
      refine sw_bast X mi_10 (rfl : kd 10 = 8) dX1_learn_85 h (fun M_14 h => ?_)
      refine sw_iincN hx hb (k := 4) (x4 + 1) (fun x4_15 => [(4, .int x4_15), (0, .ref (ad 9)), (1, .ref (ad a1)), (2, .int x2), (3, .int x3)]) dX1_learn_86 rfl (by rfl) (by decide) (fun _ => rfl) h (fun x4_15 h => ?_)
      refine sw_goto hx hb 58 dX1_learn_89 (by decide) ?_
      refine sw_sub (lv1 := [(0, .ref (ad 9)), (1, .ref (ad a1)), (2, .int x2), (3, .int x3), (4, .int x4_15)]) [1, 2, 3, 4, 0] rfl ?_
      exact ih x2 x3 x4_15 M_14 h

set_option maxHeartbeats 4000000 in
set_option maxRecDepth 100000 in
theorem wX1_learn_E (X : CX p s m args meth c D cy ad iX cX1_learn 5 (wsG yX1_learn cX1_learn 5 (some .int)) RX1) (hr : meth.sig.returnType = (some .int)) (a1 : Nat) (h_a1 : kd a1 = 5) (x2 : Int32) (M : Mem) (h : fX1_learn a1 x2 M = some z) : SW p l e rm_X1_learn s m args below meth c 0 0 (QX1_learn below D cy ad args s z) 5 (PH D cy ad iX s M) 0 [(0, .ref (ad 9)), (1, .ref (ad a1)), (2, .int x2)] [] := by
  have hx := X.1
  have hb := X.2.1
  unfold fX1_learn at h
  refine sw_aload_n hx hb dX1_learn_0 1 rfl rfl ?_
  refine sw_callVI (C := RX5) (As := []) (rest := []) X (mm5 h_a1) (ce_5 h_a1) rfl rfl (fun _ hz => okX5_size l X.2.2.2.2.2.2.1 a1 h_a1 M _ hz) (cwX1_42 X.2.2.2.2.1 ⟨Nat.le_of_ble_eq_true rfl, Nat.le_of_ble_eq_true rfl⟩)  rfl rfl (Nat.le_of_ble_eq_true rfl) dX1_learn_1 ⟨Nat.le_of_ble_eq_true rfl, Nat.le_of_ble_eq_true rfl⟩ h (fun v_2 M_1 _ h => ?_)
  refine sw_istore_n hx hb [(3, .int v_2), (0, .ref (ad 9)), (1, .ref (ad a1)), (2, .int x2)] dX1_learn_4 rfl (by decide) rfl ?_
  refine sw_iload_n hx hb dX1_learn_5 0 rfl rfl ?_
  refine sw_iconst hx hb 1 dX1_learn_6 (by decide) ?_
  refine sw_icmp_lt hx hb 30 dX1_learn_7 (by decide) h (fun h => ?_) (fun h => ?_)
  · refine sw_iconst hx hb (-1) dX1_learn_30 (by decide) ?_
    exact sw_Iret X hr dX1_learn_31 h
  · refine sw_iload_n hx hb dX1_learn_10 0 rfl rfl ?_
    refine sw_bipush hx hb 12 dX1_learn_11 (by decide) ?_
    refine sw_icmp_gt hx hb 30 dX1_learn_13 (by decide) h (fun h => ?_) (fun h => ?_)
    · refine sw_iconst hx hb (-1) dX1_learn_30 (by decide) ?_
      exact sw_Iret X hr dX1_learn_31 h
    · refine sw_aload_n hx hb dX1_learn_16 2 rfl rfl ?_
      refine sw_callVI (C := RX5) (As := []) (rest := []) X (mm5 h_a1) (ce_5 h_a1) rfl rfl (fun _ hz => okX5_hasBlank l X.2.2.2.2.2.2.1 a1 h_a1 M_1 _ hz) (cwX1_47 X.2.2.2.2.1 ⟨Nat.le_of_ble_eq_true rfl, Nat.le_of_ble_eq_true rfl⟩)  rfl rfl (Nat.le_of_ble_eq_true rfl) dX1_learn_17 ⟨Nat.le_of_ble_eq_true rfl, Nat.le_of_ble_eq_true rfl⟩ h (fun v_4 M_3 _ h => ?_)
      refine sw_if_ne hx hb 30 dX1_learn_20 (by decide) h (fun h => ?_) (fun h => ?_)
      · refine sw_iconst hx hb (-1) dX1_learn_30 (by decide) ?_
        exact sw_Iret X hr dX1_learn_31 h
      · refine sw_iload_n hx hb dX1_learn_23 3 rfl rfl ?_
        refine sw_callNI (As := [.int x2]) (rest := []) X (fun _ hz => okX6_isCost l X.2.2.2.2.2.2.1 x2 M_3 _ hz) (cwX1_51 X.2.2.2.2.1 X.2.2.2.2.2.2.2.2.2 ⟨Nat.le_of_ble_eq_true rfl, Nat.le_of_ble_eq_true rfl⟩)  rfl rfl (Nat.le_of_ble_eq_true rfl) dX1_learn_24 ⟨Nat.le_of_ble_eq_true rfl, Nat.le_of_ble_eq_true rfl⟩ h (fun v_6 M_5 _ h => ?_)
        refine sw_if_ne hx hb 32 dX1_learn_27 (by decide) h (fun h => ?_) (fun h => ?_)
        · refine sw_aload_n hx hb dX1_learn_32 1 rfl rfl ?_
          refine sw_aload_n hx hb dX1_learn_33 2 rfl rfl ?_
          refine sw_callVI (C := RX1) (As := [.ref (ad a1)]) (rest := []) X mi_9 (ce_1 (rfl : kd 9 = 1)) rfl rfl (fun _ hz => okX1_knows l X.2.2.2.2.2.2.1 a1 h_a1 M_5 _ hz) (cwX1_55 X.2.2.2.2.1 ⟨Nat.le_of_ble_eq_true rfl, Nat.le_of_ble_eq_true rfl⟩)  rfl rfl (Nat.le_of_ble_eq_true rfl) dX1_learn_34 ⟨Nat.le_of_ble_eq_true rfl, Nat.le_of_ble_eq_true rfl⟩ h (fun v_8 M_7 _ h => ?_)
          refine sw_if_eq hx hb 43 dX1_learn_37 (by decide) h (fun h => ?_) (fun h => ?_)
          · refine sw_aload_n hx hb dX1_learn_43 1 rfl rfl ?_
            refine sw_get X inG1 mi_9 (ce_1 (rfl : kd 9 = 1)) rfl 3 (by decide) (goodW wd193) rfl dX1_learn_44 ?_
            refine sw_bipush hx hb 40 dX1_learn_47 (by decide) ?_
            refine sw_icmp_lt hx hb 55 dX1_learn_49 (by decide) h (fun h => ?_) (fun h => ?_)
            · refine sw_iconst hx hb 0 dX1_learn_55 (by decide) ?_
              refine sw_istore hx hb [(4, .int 0), (3, .int v_2), (0, .ref (ad 9)), (1, .ref (ad a1)), (2, .int x2)] dX1_learn_56 (by decide) rfl ?_
              refine sw_sub (lv1 := [(0, .ref (ad 9)), (1, .ref (ad a1)), (2, .int x2), (3, .int v_2), (4, .int 0)]) [2, 3, 4, 1, 0] rfl ?_
              exact wX1_learn_H58 X hr a1 h_a1 FU x2 v_2 0 M_7 h
            · refine sw_bipush hx hb (-3) dX1_learn_52 (by decide) ?_
              exact sw_Iret X hr dX1_learn_54 h
          · refine sw_bipush hx hb (-2) dX1_learn_40 (by decide) ?_
            exact sw_Iret X hr dX1_learn_42 h
        · refine sw_iconst hx hb (-1) dX1_learn_30 (by decide) ?_
          exact sw_Iret X hr dX1_learn_31 h

end
theorem okX1_learn (l : Launch) {D : va_G} {cy : Nat → ClassId} {ad : Nat → Nat} (hD : ∀ M : Mem, va_D (AA ad iX) (wl cy ad iX M)) (a1 : Nat) (x2 : Int32) (h_a1 : kd a1 = 5) (M : Mem) (z : Int32 × Mem) (h : fX1_learn a1 x2 M = some z) : CTI l yX1_learn (wsG yX1_learn cX1_learn 5 (some .int)) rm_X1_learn D cy ad iX [.ref (ad 9), .ref (ad a1), .int x2] M z :=
  met_of (cc := cX1_learn) (maxL := 5) (ret := (some .int)) (own := RX1) (by decide) rfl rfl hD ndX (Nat.le_of_ble_eq_true rfl) (fun p e s m below meth c X hr => wX1_learn_E X hr a1 h_a1 x2 M h)
abbrev QX6_word (below : List Frame) (D : va_G) (cy : Nat → ClassId) (ad : Nat → Nat) (args : Array Value) (s : State) (z : Int32 × Mem) : State → Prop := MQ below (va_Qi (fun r u => r = z.1 ∧ u = z.2) (BB D cy ad iX) (AA ad iX)) args s 0 0 (AA ad iX)
section
variable {p : Program} {l : Launch} {e : Env} {s : State} {m : MethodId} {args : Array Value} {below : List Frame} {meth : Method} {c : Code} {D : va_G} {cy : Nat → ClassId} {ad : Nat → Nat} {z : Int32 × Mem}
set_option maxHeartbeats 4000000 in
set_option maxRecDepth 100000 in
theorem wX6_word_E (X : CX p s m args meth c D cy ad iX cX6_word 3 (wsG yX6_word cX6_word 3 (some .int)) RX6) (hr : meth.sig.returnType = (some .int)) (x1 : Int32) (M : Mem) (h : fX6_word x1 M = some z) : SW p l e rm_X6_word s m args below meth c 0 0 (QX6_word below D cy ad args s z) 3 (PH D cy ad iX s M) 0 [(0, .ref (ad 0)), (1, .int x1)] [] := by
  have hx := X.1
  have hb := X.2.1
  unfold fX6_word at h
  refine sw_aload_n hx hb dX6_word_0 0 rfl rfl ?_
  refine sw_get X inG6 mi_0 (ce_6 (rfl : kd 0 = 6)) rfl 3 (by decide) (goodW wd211) rfl dX6_word_1 ?_
  refine sw_aload_n hx hb dX6_word_4 0 rfl rfl ?_
  refine sw_get X inG6 mi_0 (ce_6 (rfl : kd 0 = 6)) rfl 0 (by decide) (goodW wd2) rfl dX6_word_5 ?_
  refine sw_iload_n hx hb dX6_word_8 1 rfl rfl ?_
  refine sw_callVI (C := RX1) (As := [.ref (ad 1), .int x1]) (rest := []) X mi_9 (ce_1 (rfl : kd 9 = 1)) rfl rfl (fun _ hz => okX1_learn l X.2.2.2.2.2.2.1 1 x1 (rfl : kd 1 = 5) M _ hz) (cwX6_77 X.2.2.2.2.1 ⟨Nat.le_of_ble_eq_true rfl, Nat.le_of_ble_eq_true rfl⟩)  rfl rfl (Nat.le_of_ble_eq_true rfl) dX6_word_9 ⟨Nat.le_of_ble_eq_true rfl, Nat.le_of_ble_eq_true rfl⟩ h (fun v_2 M_1 _ h => ?_)
  refine sw_istore_n hx hb [(2, .int v_2), (0, .ref (ad 0)), (1, .int x1)] dX6_word_12 rfl (by decide) rfl ?_
  refine sw_aload_n hx hb dX6_word_13 1 rfl rfl ?_
  refine sw_get X inG6 mi_0 (ce_6 (rfl : kd 0 = 6)) rfl 0 (by decide) (goodW wd2) rfl dX6_word_14 ?_
  refine sw_callVV (C := RX5) (As := []) (rest := []) X mi_1 (ce_5 (rfl : kd 1 = 5)) rfl rfl (fun _ hz => okX5_clear l X.2.2.2.2.2.2.1 1 (rfl : kd 1 = 5) M_1 _ hz) (cwX6_81 X.2.2.2.2.1 ⟨Nat.le_of_ble_eq_true rfl, Nat.le_of_ble_eq_true rfl⟩)  rfl rfl (Nat.le_of_ble_eq_true rfl) dX6_word_17 ⟨Nat.le_of_ble_eq_true rfl, Nat.le_of_ble_eq_true rfl⟩ h (fun M_3 _ h => ?_)
  refine sw_iload_n hx hb dX6_word_20 0 rfl rfl ?_
  exact sw_Iret X hr dX6_word_21 h

end
theorem okX6_word (l : Launch) {D : va_G} {cy : Nat → ClassId} {ad : Nat → Nat} (hD : ∀ M : Mem, va_D (AA ad iX) (wl cy ad iX M)) (x1 : Int32) (M : Mem) (z : Int32 × Mem) (h : fX6_word x1 M = some z) : CTI l yX6_word (wsG yX6_word cX6_word 3 (some .int)) rm_X6_word D cy ad iX [.ref (ad 0), .int x1] M z :=
  met_of (cc := cX6_word) (maxL := 3) (ret := (some .int)) (own := RX6) (by decide) rfl rfl hD ndX (Nat.le_of_ble_eq_true rfl) (fun p e s m below meth c X hr => wX6_word_E X hr x1 M h)
abbrev QX1_exchangeStrangeCost (below : List Frame) (D : va_G) (cy : Nat → ClassId) (ad : Nat → Nat) (args : Array Value) (s : State) (z : Int32 × Mem) : State → Prop := MQ below (va_Qi (fun r u => r = z.1 ∧ u = z.2) (BB D cy ad iX) (AA ad iX)) args s 0 0 (AA ad iX)
section
variable {p : Program} {l : Launch} {e : Env} {s : State} {m : MethodId} {args : Array Value} {below : List Frame} {meth : Method} {c : Code} {D : va_G} {cy : Nat → ClassId} {ad : Nat → Nat} {z : Int32 × Mem}
set_option maxHeartbeats 4000000 in
set_option maxRecDepth 100000 in
theorem wX1_exchangeStrangeCost_E (X : CX p s m args meth c D cy ad iX cX1_exchangeStrangeCost 3 (wsG yX1_exchangeStrangeCost cX1_exchangeStrangeCost 3 (some .int)) RX1) (hr : meth.sig.returnType = (some .int)) (x1 : Int32) (M : Mem) (h : fX1_exchangeStrangeCost x1 M = some z) : SW p l e rm_X1_exchangeStrangeCost s m args below meth c 0 0 (QX1_exchangeStrangeCost below D cy ad args s z) 3 (PH D cy ad iX s M) 0 [(0, .ref (ad 9)), (1, .int x1)] [] := by
  have hx := X.1
  have hb := X.2.1
  unfold fX1_exchangeStrangeCost at h
  refine sw_aload_n hx hb dX1_exchangeStrangeCost_0 0 rfl rfl ?_
  refine sw_get X inG1 mi_9 (ce_1 (rfl : kd 9 = 1)) rfl 4 (by decide) (goodW wd217) rfl dX1_exchangeStrangeCost_1 ?_
  refine sw_istore_nN hx hb (fun x2_1 => [(2, .int x2_1), (0, .ref (ad 9)), (1, .int x1)]) dX1_exchangeStrangeCost_4 rfl (by decide) (fun _ => rfl) h (fun x2_1 h => ?_)
  refine sw_aload_n hx hb dX1_exchangeStrangeCost_5 1 rfl rfl ?_
  refine sw_iload_n hx hb dX1_exchangeStrangeCost_6 2 rfl rfl ?_
  refine sw_putI X tyX1 tyX1_ok nmX1 inG1 mi_9 (ce_1 (rfl : kd 9 = 1)) rfl 4 (by decide) (goodW wd217) rfl (by decide +kernel : parseFieldDescriptor _ = some .int) rfl rfl (Nat.le_of_ble_eq_true rfl) (pu_1_4 (rfl : kd 9 = 1) _) dX1_exchangeStrangeCost_7 h (fun M_2 h => ?_)
  refine sw_iload_n hx hb dX1_exchangeStrangeCost_10 0 rfl rfl ?_
  exact sw_Iret X hr dX1_exchangeStrangeCost_11 h

end
theorem okX1_exchangeStrangeCost (l : Launch) {D : va_G} {cy : Nat → ClassId} {ad : Nat → Nat} (hD : ∀ M : Mem, va_D (AA ad iX) (wl cy ad iX M)) (x1 : Int32) (M : Mem) (z : Int32 × Mem) (h : fX1_exchangeStrangeCost x1 M = some z) : CTI l yX1_exchangeStrangeCost (wsG yX1_exchangeStrangeCost cX1_exchangeStrangeCost 3 (some .int)) rm_X1_exchangeStrangeCost D cy ad iX [.ref (ad 9), .int x1] M z :=
  met_of (cc := cX1_exchangeStrangeCost) (maxL := 3) (ret := (some .int)) (own := RX1) (by decide) rfl rfl hD ndX (Nat.le_of_ble_eq_true rfl) (fun p e s m below meth c X hr => wX1_exchangeStrangeCost_E X hr x1 M h)
