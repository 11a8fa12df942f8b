abbrev rmi_X5_init : Room := { frames := 1, cells := 1, slots := 300, locals := 20 }
abbrev Wf_X5_init (cy : Nat → ClassId) (b : Nat) (u : Nat → Nat) : va_W := [(b, .inr (5, [.ref (u 0), .int 0])), ((u 0), .inl (cy 0, 300, .inl (fun _ => (0 : Int32))))]
set_option maxHeartbeats 4000000 in
set_option maxRecDepth 100000 in
theorem cX5_init_init (l : Launch) (D : va_G) (cy : Nat → ClassId) (b : Nat)  : CTC l yX5_init (wsG yX5_init cX5_init 1 none) rmi_X5_init D cy b (.inr (5, [.null, .int 0])) (Wf_X5_init cy b) 1 300 [] := by
  refine ctc_of (cc := cX5_init) (maxL := 1) (own := RX5) (by decide) (Or.inr trivial) rfl rfl (Nat.le_of_ble_eq_true rfl) ?_
  intro p e s m below meth c A hAe X hr
  have hx := X.1
  have hb := X.2.1
  have X : CR p s m _ meth c D cy cX5_init 1 (wsG yX5_init cX5_init 1 none) RX5 A "<init>" := X
  refine sw_sub (lv1 := [(0, .ref b)]) [0] rfl ?_
  refine sw_aload_n hx hb dX5_init_0 0 rfl rfl ?_
  refine rw_obj X (goodW wd562) (goodW wd563) (goodW wdobj) dX5_init_1 (Nat.le_of_ble_eq_true rfl) (Nat.le_of_ble_eq_true rfl) ?_
  refine sw_aload_n hx hb dX5_init_4 0 rfl rfl ?_
  refine sw_sipush hx hb 300 dX5_init_5 (by decide) ?_
  refine rw_newaB X 300 (goodW wd564) (by decide) (by decide) (by decide) (Nat.le_of_ble_eq_true rfl) (Nat.le_of_ble_eq_true rfl) rfl dX5_init_8 (fun q1 => ?_)
  refine sw_cs (k := 1) (n := 300) rfl rfl ?_
  refine rw_putF X [(b, .inr (5, [.ref q1, .int 0])), (q1, .inl (cy 0, 300, .inl (fun _ => (0 : Int32))))] tyX5 tyX5_ok nmX5 inG5 0 rfl rfl 0 (by decide) (goodW wd1) rfl rfl (by decide +kernel : parseFieldDescriptor _ = some (.array .byte)) rfl rfl (Nat.le_of_ble_eq_true rfl) rfl dX5_init_10 ?_
  refine sw_aload_n hx hb dX5_init_13 0 rfl rfl ?_
  refine sw_iconst hx hb 0 dX5_init_14 (by decide) ?_
  refine rw_put X [(b, .inr (5, [.ref q1, .int 0])), (q1, .inl (cy 0, 300, .inl (fun _ => (0 : Int32))))] tyX5 tyX5_ok nmX5 inG5 0 rfl rfl 1 (by decide) (goodW wd0) rfl (by decide +kernel : parseFieldDescriptor _ = some .int) rfl rfl (Nat.le_of_ble_eq_true rfl) rfl dX5_init_15 ?_
  exact rw_vret X (fun k => ([q1] : List Nat).getD k 0) [0, 1] hAe hr dX5_init_18 (by decide) rfl

abbrev rmi_X3_become : Room := { frames := 0, cells := 0, slots := 0, locals := 0 }
abbrev Wf_X3_become (cy : Nat → ClassId) (b : Nat) (x1 : Int64) (x3 : Int32) (u : Nat → Nat) : va_W := [(b, .inr (3, [.long x1, .long x1, .int x3]))]
set_option maxHeartbeats 4000000 in
set_option maxRecDepth 100000 in
theorem cX3_become_init (l : Launch) (D : va_G) (cy : Nat → ClassId) (b : Nat) (f0 f1 : Int64) (f2 : Int32) (x1 : Int64) (x3 : Int32) (hz : x3 = 0 ∨ x3 = 1) : CTC l yX3_become (wsG yX3_become cX3_become 4 none) rmi_X3_become D cy b (.inr (3, [.long f0, .long f1, .int f2])) (Wf_X3_become cy b x1 x3) 0 0 [.long x1, .int x3] := by
  refine ctc_of (cc := cX3_become) (maxL := 4) (own := RX3) (by decide) (Or.inr trivial) rfl rfl (Nat.le_of_ble_eq_true rfl) ?_
  intro p e s m below meth c A hAe X hr
  have hx := X.1
  have hb := X.2.1
  have X : CR p s m _ meth c D cy cX3_become 4 (wsG yX3_become cX3_become 4 none) RX3 A "become" := X
  refine sw_sub (lv1 := [(0, .ref b), (1, .long x1), (3, .int x3)]) [0, 1, 2] rfl ?_
  refine sw_aload_n hx hb dX3_become_0 0 rfl rfl ?_
  refine sw_lload_n hx hb dX3_become_1 1 rfl rfl ?_
  refine rw_put X [(b, .inr (3, [.long x1, .long f1, .int f2]))] tyX3 tyX3_ok nmX3 inG3 0 rfl rfl 0 (by decide) (goodW wd43) rfl (by decide +kernel : parseFieldDescriptor _ = some .long) rfl rfl (Nat.le_of_ble_eq_true rfl) rfl dX3_become_2 ?_
  refine sw_aload_n hx hb dX3_become_5 0 rfl rfl ?_
  refine sw_lload_n hx hb dX3_become_6 1 rfl rfl ?_
  refine rw_put X [(b, .inr (3, [.long x1, .long x1, .int f2]))] tyX3 tyX3_ok nmX3 inG3 0 rfl rfl 1 (by decide) (goodW wd44) rfl (by decide +kernel : parseFieldDescriptor _ = some .long) rfl rfl (Nat.le_of_ble_eq_true rfl) rfl dX3_become_7 ?_
  refine sw_aload_n hx hb dX3_become_10 0 rfl rfl ?_
  refine sw_iload_n hx hb dX3_become_11 2 rfl rfl ?_
  refine rw_put X [(b, .inr (3, [.long x1, .long x1, .int x3]))] tyX3 tyX3_ok nmX3 inG3 0 rfl rfl 2 (by decide) (goodW wd45) rfl (by decide +kernel : parseFieldDescriptor _ = some .boolean) (nar_z hz).1 (nar_z hz).2 (Nat.le_of_ble_eq_true rfl) rfl dX3_become_12 ?_
  exact rw_vret X (fun k => ([] : List Nat).getD k 0) [0] hAe hr dX3_become_15 (by decide) rfl

abbrev rmi_X3_init : Room := { frames := 1, cells := 0, slots := 0, locals := 23 }
abbrev Wf_X3_init (cy : Nat → ClassId) (b : Nat) (u : Nat → Nat) : va_W := [(b, .inr (3, [.long 0, .long 0, .int 0]))]
set_option maxHeartbeats 4000000 in
set_option maxRecDepth 100000 in
theorem cX3_init_init (l : Launch) (D : va_G) (cy : Nat → ClassId) (b : Nat)  : CTC l yX3_init (wsG yX3_init cX3_init 1 none) rmi_X3_init D cy b (.inr (3, [.long 0, .long 0, .int 0])) (Wf_X3_init cy b) 0 0 [] := by
  refine ctc_of (cc := cX3_init) (maxL := 1) (own := RX3) (by decide) (Or.inr trivial) rfl rfl (Nat.le_of_ble_eq_true rfl) ?_
  intro p e s m below meth c A hAe X hr
  have hx := X.1
  have hb := X.2.1
  have X : CR p s m _ meth c D cy cX3_init 1 (wsG yX3_init cX3_init 1 none) RX3 A "<init>" := X
  refine sw_sub (lv1 := [(0, .ref b)]) [0] rfl ?_
  refine sw_aload_n hx hb dX3_init_0 0 rfl rfl ?_
  refine rw_obj X (goodW wd565) (goodW wd563) (goodW wdobj) dX3_init_1 (Nat.le_of_ble_eq_true rfl) (Nat.le_of_ble_eq_true rfl) ?_
  refine sw_aload_n hx hb dX3_init_4 0 rfl rfl ?_
  refine sw_lconst hx hb 0 dX3_init_5 (by decide) ?_
  refine sw_iconst hx hb 0 dX3_init_6 (by decide) ?_
  refine rw_callV X (As := [.long 0, .int 0]) (rest := []) (wr := []) 0 [] rfl rfl rfl (cX3_become_init l D cy b 0 0 0 0 0 (Or.inl rfl)) (cwV 2 X.2.2.2.2.1 (goodGV wd46 wd47 wd48 wd49 wd50) rfl rfl rfl (by decide +kernel) ⟨Nat.le_of_ble_eq_true rfl, Nat.le_of_ble_eq_true rfl⟩) rfl rfl (by decide) (by decide) rfl rfl (Nat.le_of_ble_eq_true rfl) dX3_init_7 ⟨Nat.le_of_ble_eq_true rfl, Nat.le_of_ble_eq_true rfl⟩ (fun u1 => ?_)
  refine sw_cs (k := 0) (n := 0) rfl rfl ?_
  exact rw_vret X (fun k => ([] : List Nat).getD k 0) [0] hAe hr dX3_init_10 (by decide) rfl

abbrev rmi_X2_init : Room := { frames := 1, cells := 3, slots := 1200, locals := 20 }
abbrev Wf_X2_init (cy : Nat → ClassId) (b : Nat) (u : Nat → Nat) : va_W := [(b, .inr (2, [.ref (u 0), .ref (u 1), .ref (u 2), .int 0, .int 0, .int 300, .int 0, .int 0, .int (-1), .int (-1)])), ((u 0), .inl (cy 1, 400, .inl (fun _ => (0 : Int32)))), ((u 1), .inl (cy 1, 400, .inl (fun _ => (0 : Int32)))), ((u 2), .inl (cy 1, 400, .inl (fun _ => (0 : Int32))))]
set_option maxHeartbeats 4000000 in
set_option maxRecDepth 100000 in
theorem cX2_init_init (l : Launch) (D : va_G) (cy : Nat → ClassId) (b : Nat)  : CTC l yX2_init (wsG yX2_init cX2_init 1 none) rmi_X2_init D cy b (.inr (2, [.null, .null, .null, .int 0, .int 0, .int 0, .int 0, .int 0, .int 0, .int 0])) (Wf_X2_init cy b) 3 1200 [] := by
  refine ctc_of (cc := cX2_init) (maxL := 1) (own := RX2) (by decide) (Or.inr trivial) rfl rfl (Nat.le_of_ble_eq_true rfl) ?_
  intro p e s m below meth c A hAe X hr
  have hx := X.1
  have hb := X.2.1
  have X : CR p s m _ meth c D cy cX2_init 1 (wsG yX2_init cX2_init 1 none) RX2 A "<init>" := X
  refine sw_sub (lv1 := [(0, .ref b)]) [0] rfl ?_
  refine sw_aload_n hx hb dX2_init_0 0 rfl rfl ?_
  refine rw_obj X (goodW wd566) (goodW wd563) (goodW wdobj) dX2_init_1 (Nat.le_of_ble_eq_true rfl) (Nat.le_of_ble_eq_true rfl) ?_
  refine sw_aload_n hx hb dX2_init_4 0 rfl rfl ?_
  refine sw_sipush hx hb 400 dX2_init_5 (by decide) ?_
  refine rw_newaI X 400 (goodW wd567) (by decide) (by decide) (by decide) (Nat.le_of_ble_eq_true rfl) (Nat.le_of_ble_eq_true rfl) rfl dX2_init_8 (fun q1 => ?_)
  refine sw_cs (k := 1) (n := 400) rfl rfl ?_
  refine rw_putF X [(b, .inr (2, [.ref q1, .null, .null, .int 0, .int 0, .int 0, .int 0, .int 0, .int 0, .int 0])), (q1, .inl (cy 1, 400, .inl (fun _ => (0 : Int32))))] tyX2 tyX2_ok nmX2 inG2 0 rfl rfl 0 (by decide) (goodW wd244) rfl rfl (by decide +kernel : parseFieldDescriptor _ = some (.array .int)) rfl rfl (Nat.le_of_ble_eq_true rfl) rfl dX2_init_10 ?_
  refine sw_aload_n hx hb dX2_init_13 0 rfl rfl ?_
  refine sw_sipush hx hb 400 dX2_init_14 (by decide) ?_
  refine rw_newaI X 400 (goodW wd567) (by decide) (by decide) (by decide) (Nat.le_of_ble_eq_true rfl) (Nat.le_of_ble_eq_true rfl) rfl dX2_init_17 (fun q2 => ?_)
  refine sw_cs (k := 2) (n := 800) rfl rfl ?_
  refine rw_putF X [(b, .inr (2, [.ref q1, .ref q2, .null, .int 0, .int 0, .int 0, .int 0, .int 0, .int 0, .int 0])), (q1, .inl (cy 1, 400, .inl (fun _ => (0 : Int32)))), (q2, .inl (cy 1, 400, .inl (fun _ => (0 : Int32))))] tyX2 tyX2_ok nmX2 inG2 0 rfl rfl 1 (by decide) (goodW wd245) rfl rfl (by decide +kernel : parseFieldDescriptor _ = some (.array .int)) rfl rfl (Nat.le_of_ble_eq_true rfl) rfl dX2_init_19 ?_
  refine sw_aload_n hx hb dX2_init_22 0 rfl rfl ?_
  refine sw_sipush hx hb 400 dX2_init_23 (by decide) ?_
  refine rw_newaI X 400 (goodW wd567) (by decide) (by decide) (by decide) (Nat.le_of_ble_eq_true rfl) (Nat.le_of_ble_eq_true rfl) rfl dX2_init_26 (fun q3 => ?_)
  refine sw_cs (k := 3) (n := 1200) rfl rfl ?_
  refine rw_putF X [(b, .inr (2, [.ref q1, .ref q2, .ref q3, .int 0, .int 0, .int 0, .int 0, .int 0, .int 0, .int 0])), (q1, .inl (cy 1, 400, .inl (fun _ => (0 : Int32)))), (q2, .inl (cy 1, 400, .inl (fun _ => (0 : Int32)))), (q3, .inl (cy 1, 400, .inl (fun _ => (0 : Int32))))] tyX2 tyX2_ok nmX2 inG2 0 rfl rfl 2 (by decide) (goodW wd246) rfl rfl (by decide +kernel : parseFieldDescriptor _ = some (.array .int)) rfl rfl (Nat.le_of_ble_eq_true rfl) rfl dX2_init_28 ?_
  refine sw_aload_n hx hb dX2_init_31 0 rfl rfl ?_
  refine sw_sipush hx hb 300 dX2_init_32 (by decide) ?_
  refine rw_put X [(b, .inr (2, [.ref q1, .ref q2, .ref q3, .int 0, .int 0, .int 300, .int 0, .int 0, .int 0, .int 0])), (q1, .inl (cy 1, 400, .inl (fun _ => (0 : Int32)))), (q2, .inl (cy 1, 400, .inl (fun _ => (0 : Int32)))), (q3, .inl (cy 1, 400, .inl (fun _ => (0 : Int32))))] tyX2 tyX2_ok nmX2 inG2 0 rfl rfl 5 (by decide) (goodW wd224) rfl (by decide +kernel : parseFieldDescriptor _ = some .int) rfl rfl (Nat.le_of_ble_eq_true rfl) rfl dX2_init_35 ?_
  refine sw_aload_n hx hb dX2_init_38 0 rfl rfl ?_
  refine sw_iconst hx hb 0 dX2_init_39 (by decide) ?_
  refine rw_put X [(b, .inr (2, [.ref q1, .ref q2, .ref q3, .int 0, .int 0, .int 300, .int 0, .int 0, .int 0, .int 0])), (q1, .inl (cy 1, 400, .inl (fun _ => (0 : Int32)))), (q2, .inl (cy 1, 400, .inl (fun _ => (0 : Int32)))), (q3, .inl (cy 1, 400, .inl (fun _ => (0 : Int32))))] tyX2 tyX2_ok nmX2 inG2 0 rfl rfl 6 (by decide) (goodW wd225) rfl (by decide +kernel : parseFieldDescriptor _ = some .int) rfl rfl (Nat.le_of_ble_eq_true rfl) rfl dX2_init_40 ?_
  refine sw_aload_n hx hb dX2_init_43 0 rfl rfl ?_
  refine sw_iconst hx hb 0 dX2_init_44 (by decide) ?_
  refine rw_put X [(b, .inr (2, [.ref q1, .ref q2, .ref q3, .int 0, .int 0, .int 300, .int 0, .int 0, .int 0, .int 0])), (q1, .inl (cy 1, 400, .inl (fun _ => (0 : Int32)))), (q2, .inl (cy 1, 400, .inl (fun _ => (0 : Int32)))), (q3, .inl (cy 1, 400, .inl (fun _ => (0 : Int32))))] tyX2 tyX2_ok nmX2 inG2 0 rfl rfl 3 (by decide) (goodW wd21) rfl (by decide +kernel : parseFieldDescriptor _ = some .int) rfl rfl (Nat.le_of_ble_eq_true rfl) rfl dX2_init_45 ?_
  refine sw_aload_n hx hb dX2_init_48 0 rfl rfl ?_
  refine sw_iconst hx hb 0 dX2_init_49 (by decide) ?_
  refine rw_put X [(b, .inr (2, [.ref q1, .ref q2, .ref q3, .int 0, .int 0, .int 300, .int 0, .int 0, .int 0, .int 0])), (q1, .inl (cy 1, 400, .inl (fun _ => (0 : Int32)))), (q2, .inl (cy 1, 400, .inl (fun _ => (0 : Int32)))), (q3, .inl (cy 1, 400, .inl (fun _ => (0 : Int32))))] tyX2 tyX2_ok nmX2 inG2 0 rfl rfl 4 (by decide) (goodW wd22) rfl (by decide +kernel : parseFieldDescriptor _ = some .boolean) (nar_z (Or.inl rfl)).1 (nar_z (Or.inl rfl)).2 (Nat.le_of_ble_eq_true rfl) rfl dX2_init_50 ?_
  refine sw_aload_n hx hb dX2_init_53 0 rfl rfl ?_
  refine sw_iconst hx hb 0 dX2_init_54 (by decide) ?_
  refine rw_put X [(b, .inr (2, [.ref q1, .ref q2, .ref q3, .int 0, .int 0, .int 300, .int 0, .int 0, .int 0, .int 0])), (q1, .inl (cy 1, 400, .inl (fun _ => (0 : Int32)))), (q2, .inl (cy 1, 400, .inl (fun _ => (0 : Int32)))), (q3, .inl (cy 1, 400, .inl (fun _ => (0 : Int32))))] tyX2 tyX2_ok nmX2 inG2 0 rfl rfl 7 (by decide) (goodW wd231) rfl (by decide +kernel : parseFieldDescriptor _ = some .boolean) (nar_z (Or.inl rfl)).1 (nar_z (Or.inl rfl)).2 (Nat.le_of_ble_eq_true rfl) rfl dX2_init_55 ?_
  refine sw_aload_n hx hb dX2_init_58 0 rfl rfl ?_
  refine sw_iconst hx hb (-1) dX2_init_59 (by decide) ?_
  refine rw_put X [(b, .inr (2, [.ref q1, .ref q2, .ref q3, .int 0, .int 0, .int 300, .int 0, .int 0, .int (-1), .int 0])), (q1, .inl (cy 1, 400, .inl (fun _ => (0 : Int32)))), (q2, .inl (cy 1, 400, .inl (fun _ => (0 : Int32)))), (q3, .inl (cy 1, 400, .inl (fun _ => (0 : Int32))))] tyX2 tyX2_ok nmX2 inG2 0 rfl rfl 8 (by decide) (goodW wd232) rfl (by decide +kernel : parseFieldDescriptor _ = some .int) rfl rfl (Nat.le_of_ble_eq_true rfl) rfl dX2_init_60 ?_
  refine sw_aload_n hx hb dX2_init_63 0 rfl rfl ?_
  refine sw_iconst hx hb (-1) dX2_init_64 (by decide) ?_
  refine rw_put X [(b, .inr (2, [.ref q1, .ref q2, .ref q3, .int 0, .int 0, .int 300, .int 0, .int 0, .int (-1), .int (-1)])), (q1, .inl (cy 1, 400, .inl (fun _ => (0 : Int32)))), (q2, .inl (cy 1, 400, .inl (fun _ => (0 : Int32)))), (q3, .inl (cy 1, 400, .inl (fun _ => (0 : Int32))))] tyX2 tyX2_ok nmX2 inG2 0 rfl rfl 9 (by decide) (goodW wd233) rfl (by decide +kernel : parseFieldDescriptor _ = some .int) rfl rfl (Nat.le_of_ble_eq_true rfl) rfl dX2_init_65 ?_
  exact rw_vret X (fun k => ([q1, q2, q3] : List Nat).getD k 0) [0, 1, 2, 3] hAe hr dX2_init_68 (by decide) rfl

abbrev rmi_X1_init : Room := { frames := 1, cells := 7, slots := 1764, locals := 20 }
abbrev Wf_X1_init (cy : Nat → ClassId) (b : Nat) (u : Nat → Nat) : va_W := [(b, .inr (1, [.ref (u 0), .ref (u 1), .ref (u 2), .int 0, .int 100, .ref (u 3), .ref (u 4), .ref (u 5), .ref (u 6)])), ((u 0), .inl (cy 0, 480, .inl (fun _ => (0 : Int32)))), ((u 1), .inl (cy 1, 40, .inl (fun _ => (0 : Int32)))), ((u 2), .inl (cy 1, 40, .inl (fun _ => (0 : Int32)))), ((u 3), .inl (cy 1, 301, .inl (fun _ => (0 : Int32)))), ((u 4), .inl (cy 1, 301, .inl (fun _ => (0 : Int32)))), ((u 5), .inl (cy 1, 301, .inl (fun _ => (0 : Int32)))), ((u 6), .inl (cy 3, 301, .inl (fun _ => (0 : Int32))))]
set_option maxHeartbeats 4000000 in
set_option maxRecDepth 100000 in
theorem cX1_init_init (l : Launch) (D : va_G) (cy : Nat → ClassId) (b : Nat)  : CTC l yX1_init (wsG yX1_init cX1_init 1 none) rmi_X1_init D cy b (.inr (1, [.null, .null, .null, .int 0, .int 0, .null, .null, .null, .null])) (Wf_X1_init cy b) 7 1764 [] := by
  refine ctc_of (cc := cX1_init) (maxL := 1) (own := RX1) (by decide) (Or.inr trivial) rfl rfl (Nat.le_of_ble_eq_true rfl) ?_
  intro p e s m below meth c A hAe X hr
  have hx := X.1
  have hb := X.2.1
  have X : CR p s m _ meth c D cy cX1_init 1 (wsG yX1_init cX1_init 1 none) RX1 A "<init>" := X
  refine sw_sub (lv1 := [(0, .ref b)]) [0] rfl ?_
  refine sw_aload_n hx hb dX1_init_0 0 rfl rfl ?_
  refine rw_obj X (goodW wd568) (goodW wd563) (goodW wdobj) dX1_init_1 (Nat.le_of_ble_eq_true rfl) (Nat.le_of_ble_eq_true rfl) ?_
  refine sw_aload_n hx hb dX1_init_4 0 rfl rfl ?_
  refine sw_sipush hx hb 480 dX1_init_5 (by decide) ?_
  refine rw_newaB X 480 (goodW wd564) (by decide) (by decide) (by decide) (Nat.le_of_ble_eq_true rfl) (Nat.le_of_ble_eq_true rfl) rfl dX1_init_8 (fun q1 => ?_)
  refine sw_cs (k := 1) (n := 480) rfl rfl ?_
  refine rw_putF X [(b, .inr (1, [.ref q1, .null, .null, .int 0, .int 0, .null, .null, .null, .null])), (q1, .inl (cy 0, 480, .inl (fun _ => (0 : Int32))))] tyX1 tyX1_ok nmX1 inG1 0 rfl rfl 0 (by decide) (goodW wd191) rfl rfl (by decide +kernel : parseFieldDescriptor _ = some (.array .byte)) rfl rfl (Nat.le_of_ble_eq_true rfl) rfl dX1_init_10 ?_
  refine sw_aload_n hx hb dX1_init_13 0 rfl rfl ?_
  refine sw_bipush hx hb 40 dX1_init_14 (by decide) ?_
  refine rw_newaI X 40 (goodW wd567) (by decide) (by decide) (by decide) (Nat.le_of_ble_eq_true rfl) (Nat.le_of_ble_eq_true rfl) rfl dX1_init_16 (fun q2 => ?_)
  refine sw_cs (k := 2) (n := 520) rfl rfl ?_
  refine rw_putF X [(b, .inr (1, [.ref q1, .ref q2, .null, .int 0, .int 0, .null, .null, .null, .null])), (q1, .inl (cy 0, 480, .inl (fun _ => (0 : Int32)))), (q2, .inl (cy 1, 40, .inl (fun _ => (0 : Int32))))] tyX1 tyX1_ok nmX1 inG1 0 rfl rfl 1 (by decide) (goodW wd190) rfl rfl (by decide +kernel : parseFieldDescriptor _ = some (.array .int)) rfl rfl (Nat.le_of_ble_eq_true rfl) rfl dX1_init_18 ?_
  refine sw_aload_n hx hb dX1_init_21 0 rfl rfl ?_
  refine sw_bipush hx hb 40 dX1_init_22 (by decide) ?_
  refine rw_newaI X 40 (goodW wd567) (by decide) (by decide) (by decide) (Nat.le_of_ble_eq_true rfl) (Nat.le_of_ble_eq_true rfl) rfl dX1_init_24 (fun q3 => ?_)
  refine sw_cs (k := 3) (n := 560) rfl rfl ?_
  refine rw_putF X [(b, .inr (1, [.ref q1, .ref q2, .ref q3, .int 0, .int 0, .null, .null, .null, .null])), (q1, .inl (cy 0, 480, .inl (fun _ => (0 : Int32)))), (q2, .inl (cy 1, 40, .inl (fun _ => (0 : Int32)))), (q3, .inl (cy 1, 40, .inl (fun _ => (0 : Int32))))] tyX1 tyX1_ok nmX1 inG1 0 rfl rfl 2 (by decide) (goodW wd210) rfl rfl (by decide +kernel : parseFieldDescriptor _ = some (.array .int)) rfl rfl (Nat.le_of_ble_eq_true rfl) rfl dX1_init_26 ?_
  refine sw_aload_n hx hb dX1_init_29 0 rfl rfl ?_
  refine sw_iconst hx hb 0 dX1_init_30 (by decide) ?_
  refine rw_put X [(b, .inr (1, [.ref q1, .ref q2, .ref q3, .int 0, .int 0, .null, .null, .null, .null])), (q1, .inl (cy 0, 480, .inl (fun _ => (0 : Int32)))), (q2, .inl (cy 1, 40, .inl (fun _ => (0 : Int32)))), (q3, .inl (cy 1, 40, .inl (fun _ => (0 : Int32))))] tyX1 tyX1_ok nmX1 inG1 0 rfl rfl 3 (by decide) (goodW wd193) rfl (by decide +kernel : parseFieldDescriptor _ = some .int) rfl rfl (Nat.le_of_ble_eq_true rfl) rfl dX1_init_31 ?_
  refine sw_aload_n hx hb dX1_init_34 0 rfl rfl ?_
  refine sw_bipush hx hb 100 dX1_init_35 (by decide) ?_
  refine rw_put X [(b, .inr (1, [.ref q1, .ref q2, .ref q3, .int 0, .int 100, .null, .null, .null, .null])), (q1, .inl (cy 0, 480, .inl (fun _ => (0 : Int32)))), (q2, .inl (cy 1, 40, .inl (fun _ => (0 : Int32)))), (q3, .inl (cy 1, 40, .inl (fun _ => (0 : Int32))))] tyX1 tyX1_ok nmX1 inG1 0 rfl rfl 4 (by decide) (goodW wd217) rfl (by decide +kernel : parseFieldDescriptor _ = some .int) rfl rfl (Nat.le_of_ble_eq_true rfl) rfl dX1_init_37 ?_
  refine sw_aload_n hx hb dX1_init_40 0 rfl rfl ?_
  refine sw_sipush hx hb 301 dX1_init_41 (by decide) ?_
  refine rw_newaI X 301 (goodW wd567) (by decide) (by decide) (by decide) (Nat.le_of_ble_eq_true rfl) (Nat.le_of_ble_eq_true rfl) rfl dX1_init_44 (fun q4 => ?_)
  refine sw_cs (k := 4) (n := 861) rfl rfl ?_
  refine rw_putF X [(b, .inr (1, [.ref q1, .ref q2, .ref q3, .int 0, .int 100, .ref q4, .null, .null, .null])), (q1, .inl (cy 0, 480, .inl (fun _ => (0 : Int32)))), (q2, .inl (cy 1, 40, .inl (fun _ => (0 : Int32)))), (q3, .inl (cy 1, 40, .inl (fun _ => (0 : Int32)))), (q4, .inl (cy 1, 301, .inl (fun _ => (0 : Int32))))] tyX1 tyX1_ok nmX1 inG1 0 rfl rfl 5 (by decide) (goodW wd297) rfl rfl (by decide +kernel : parseFieldDescriptor _ = some (.array .int)) rfl rfl (Nat.le_of_ble_eq_true rfl) rfl dX1_init_46 ?_
  refine sw_aload_n hx hb dX1_init_49 0 rfl rfl ?_
  refine sw_sipush hx hb 301 dX1_init_50 (by decide) ?_
  refine rw_newaI X 301 (goodW wd567) (by decide) (by decide) (by decide) (Nat.le_of_ble_eq_true rfl) (Nat.le_of_ble_eq_true rfl) rfl dX1_init_53 (fun q5 => ?_)
  refine sw_cs (k := 5) (n := 1162) rfl rfl ?_
  refine rw_putF X [(b, .inr (1, [.ref q1, .ref q2, .ref q3, .int 0, .int 100, .ref q4, .ref q5, .null, .null])), (q1, .inl (cy 0, 480, .inl (fun _ => (0 : Int32)))), (q2, .inl (cy 1, 40, .inl (fun _ => (0 : Int32)))), (q3, .inl (cy 1, 40, .inl (fun _ => (0 : Int32)))), (q4, .inl (cy 1, 301, .inl (fun _ => (0 : Int32)))), (q5, .inl (cy 1, 301, .inl (fun _ => (0 : Int32))))] tyX1 tyX1_ok nmX1 inG1 0 rfl rfl 6 (by decide) (goodW wd298) rfl rfl (by decide +kernel : parseFieldDescriptor _ = some (.array .int)) rfl rfl (Nat.le_of_ble_eq_true rfl) rfl dX1_init_55 ?_
  refine sw_aload_n hx hb dX1_init_58 0 rfl rfl ?_
  refine sw_sipush hx hb 301 dX1_init_59 (by decide) ?_
  refine rw_newaI X 301 (goodW wd567) (by decide) (by decide) (by decide) (Nat.le_of_ble_eq_true rfl) (Nat.le_of_ble_eq_true rfl) rfl dX1_init_62 (fun q6 => ?_)
  refine sw_cs (k := 6) (n := 1463) rfl rfl ?_
  refine rw_putF X [(b, .inr (1, [.ref q1, .ref q2, .ref q3, .int 0, .int 100, .ref q4, .ref q5, .ref q6, .null])), (q1, .inl (cy 0, 480, .inl (fun _ => (0 : Int32)))), (q2, .inl (cy 1, 40, .inl (fun _ => (0 : Int32)))), (q3, .inl (cy 1, 40, .inl (fun _ => (0 : Int32)))), (q4, .inl (cy 1, 301, .inl (fun _ => (0 : Int32)))), (q5, .inl (cy 1, 301, .inl (fun _ => (0 : Int32)))), (q6, .inl (cy 1, 301, .inl (fun _ => (0 : Int32))))] tyX1 tyX1_ok nmX1 inG1 0 rfl rfl 7 (by decide) (goodW wd299) rfl rfl (by decide +kernel : parseFieldDescriptor _ = some (.array .int)) rfl rfl (Nat.le_of_ble_eq_true rfl) rfl dX1_init_64 ?_
  refine sw_aload_n hx hb dX1_init_67 0 rfl rfl ?_
  refine sw_sipush hx hb 301 dX1_init_68 (by decide) ?_
  refine rw_newaZ X 301 (goodW wd569) (by decide) (by decide) (by decide) (Nat.le_of_ble_eq_true rfl) (Nat.le_of_ble_eq_true rfl) rfl dX1_init_71 (fun q7 => ?_)
  refine sw_cs (k := 7) (n := 1764) rfl rfl ?_
  refine rw_putF X [(b, .inr (1, [.ref q1, .ref q2, .ref q3, .int 0, .int 100, .ref q4, .ref q5, .ref q6, .ref q7])), (q1, .inl (cy 0, 480, .inl (fun _ => (0 : Int32)))), (q2, .inl (cy 1, 40, .inl (fun _ => (0 : Int32)))), (q3, .inl (cy 1, 40, .inl (fun _ => (0 : Int32)))), (q4, .inl (cy 1, 301, .inl (fun _ => (0 : Int32)))), (q5, .inl (cy 1, 301, .inl (fun _ => (0 : Int32)))), (q6, .inl (cy 1, 301, .inl (fun _ => (0 : Int32)))), (q7, .inl (cy 3, 301, .inl (fun _ => (0 : Int32))))] tyX1 tyX1_ok nmX1 inG1 0 rfl rfl 8 (by decide) (goodW wd300) rfl rfl (by decide +kernel : parseFieldDescriptor _ = some (.array .boolean)) rfl rfl (Nat.le_of_ble_eq_true rfl) rfl dX1_init_73 ?_
  exact rw_vret X (fun k => ([q1, q2, q3, q4, q5, q6, q7] : List Nat).getD k 0) [0, 1, 2, 3, 4, 5, 6, 7] hAe hr dX1_init_76 (by decide) rfl

abbrev rmi_X0_init : Room := { frames := 1, cells := 2, slots := 316, locals := 20 }
abbrev Wf_X0_init (cy : Nat → ClassId) (b : Nat) (u : Nat → Nat) : va_W := [(b, .inr (0, [.ref (u 0), .ref (u 1), .int 0, .long 0, .long 0])), ((u 0), .inl (cy 2, 256, .inr (.inl (fun _ => (0 : Int64))))), ((u 1), .inl (cy 2, 60, .inr (.inl (fun _ => (0 : Int64)))))]
set_option maxHeartbeats 4000000 in
set_option maxRecDepth 100000 in
theorem cX0_init_init (l : Launch) (D : va_G) (cy : Nat → ClassId) (b : Nat)  : CTC l yX0_init (wsG yX0_init cX0_init 1 none) rmi_X0_init D cy b (.inr (0, [.null, .null, .int 0, .long 0, .long 0])) (Wf_X0_init cy b) 2 316 [] := by
  refine ctc_of (cc := cX0_init) (maxL := 1) (own := RX0) (by decide) (Or.inr trivial) rfl rfl (Nat.le_of_ble_eq_true rfl) ?_
  intro p e s m below meth c A hAe X hr
  have hx := X.1
  have hb := X.2.1
  have X : CR p s m _ meth c D cy cX0_init 1 (wsG yX0_init cX0_init 1 none) RX0 A "<init>" := X
  refine sw_sub (lv1 := [(0, .ref b)]) [0] rfl ?_
  refine sw_aload_n hx hb dX0_init_0 0 rfl rfl ?_
  refine rw_obj X (goodW wd570) (goodW wd563) (goodW wdobj) dX0_init_1 (Nat.le_of_ble_eq_true rfl) (Nat.le_of_ble_eq_true rfl) ?_
  refine sw_aload_n hx hb dX0_init_4 0 rfl rfl ?_
  refine sw_sipush hx hb 256 dX0_init_5 (by decide) ?_
  refine rw_newaJ X 256 (goodW wd571) (by decide) (by decide) (by decide) (Nat.le_of_ble_eq_true rfl) (Nat.le_of_ble_eq_true rfl) rfl dX0_init_8 (fun q1 => ?_)
  refine sw_cs (k := 1) (n := 256) rfl rfl ?_
  refine rw_putF X [(b, .inr (0, [.ref q1, .null, .int 0, .long 0, .long 0])), (q1, .inl (cy 2, 256, .inr (.inl (fun _ => (0 : Int64)))))] tyX0 tyX0_ok nmX0 inG0 0 rfl rfl 0 (by decide) (goodW wd34) rfl rfl (by decide +kernel : parseFieldDescriptor _ = some (.array .long)) rfl rfl (Nat.le_of_ble_eq_true rfl) rfl dX0_init_10 ?_
  refine sw_aload_n hx hb dX0_init_13 0 rfl rfl ?_
  refine sw_bipush hx hb 60 dX0_init_14 (by decide) ?_
  refine rw_newaJ X 60 (goodW wd571) (by decide) (by decide) (by decide) (Nat.le_of_ble_eq_true rfl) (Nat.le_of_ble_eq_true rfl) rfl dX0_init_16 (fun q2 => ?_)
  refine sw_cs (k := 2) (n := 316) rfl rfl ?_
  refine rw_putF X [(b, .inr (0, [.ref q1, .ref q2, .int 0, .long 0, .long 0])), (q1, .inl (cy 2, 256, .inr (.inl (fun _ => (0 : Int64))))), (q2, .inl (cy 2, 60, .inr (.inl (fun _ => (0 : Int64)))))] tyX0 tyX0_ok nmX0 inG0 0 rfl rfl 1 (by decide) (goodW wd39) rfl rfl (by decide +kernel : parseFieldDescriptor _ = some (.array .long)) rfl rfl (Nat.le_of_ble_eq_true rfl) rfl dX0_init_18 ?_
  refine sw_aload_n hx hb dX0_init_21 0 rfl rfl ?_
  refine sw_iconst hx hb 0 dX0_init_22 (by decide) ?_
  refine rw_put X [(b, .inr (0, [.ref q1, .ref q2, .int 0, .long 0, .long 0])), (q1, .inl (cy 2, 256, .inr (.inl (fun _ => (0 : Int64))))), (q2, .inl (cy 2, 60, .inr (.inl (fun _ => (0 : Int64)))))] tyX0 tyX0_ok nmX0 inG0 0 rfl rfl 2 (by decide) (goodW wd40) rfl (by decide +kernel : parseFieldDescriptor _ = some .int) rfl rfl (Nat.le_of_ble_eq_true rfl) rfl dX0_init_23 ?_
  refine sw_aload_n hx hb dX0_init_26 0 rfl rfl ?_
  refine sw_lconst hx hb 0 dX0_init_27 (by decide) ?_
  refine rw_put X [(b, .inr (0, [.ref q1, .ref q2, .int 0, .long 0, .long 0])), (q1, .inl (cy 2, 256, .inr (.inl (fun _ => (0 : Int64))))), (q2, .inl (cy 2, 60, .inr (.inl (fun _ => (0 : Int64)))))] tyX0 tyX0_ok nmX0 inG0 0 rfl rfl 3 (by decide) (goodW wd41) rfl (by decide +kernel : parseFieldDescriptor _ = some .long) rfl rfl (Nat.le_of_ble_eq_true rfl) rfl dX0_init_28 ?_
  refine sw_aload_n hx hb dX0_init_31 0 rfl rfl ?_
  refine sw_lconst hx hb 0 dX0_init_32 (by decide) ?_
  refine rw_put X [(b, .inr (0, [.ref q1, .ref q2, .int 0, .long 0, .long 0])), (q1, .inl (cy 2, 256, .inr (.inl (fun _ => (0 : Int64))))), (q2, .inl (cy 2, 60, .inr (.inl (fun _ => (0 : Int64)))))] tyX0 tyX0_ok nmX0 inG0 0 rfl rfl 4 (by decide) (goodW wd42) rfl (by decide +kernel : parseFieldDescriptor _ = some .long) rfl rfl (Nat.le_of_ble_eq_true rfl) rfl dX0_init_33 ?_
  exact rw_vret X (fun k => ([q1, q2] : List Nat).getD k 0) [0, 1, 2] hAe hr dX0_init_36 (by decide) rfl
