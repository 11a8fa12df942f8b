abbrev rm_X5_size : Room := { frames := 0, cells := 0, slots := 0, locals := 0 }
def fX5_size (o : Nat) (M : Mem) : Option (Int32 × Mem) :=
  some ((gI M o 1), M)
abbrev rm_X5_append : Room := { frames := 0, cells := 0, slots := 0, locals := 0 }
def fX5_append (o : Nat) (x1 : Int32) (M : Mem) : Option (Mem) :=
  if 300 ≤ (gI M o 1) then (some M)
  else (bast_ M (o + 1) (gI M o 1) ((x1 : Int32).toInt8.toInt32) fun M_1 =>
  lt_ (setI M_1 o 1 ((gI M_1 o 1) + 1)) fun M_2 =>
  some M_2)
abbrev rm_X6_feed : Room := { frames := 1, cells := 0, slots := 0, locals := 21 }
def fX6_feed_H34 : Nat → Int32 → Int64 → Int32 → Mem → Option (Int32 × Mem)
  | 0, _, _, _, _ => none
  | n + 1, x1, x2, x4, M => if x1 ≤ x4 then (bI_ (fX5_size 1 M) fun v_4 M_3 =>
  some (v_4, M_3))
  else (bV_ (fX5_append 1 ((((ushr6 x2 (8 * x4)) : Int64).toInt32) &&& 255) M) fun M_5 =>
  lt_ (x4 + 1) fun x4_7 =>
  (fX6_feed_H34 n) x1 x2 x4_7 M_5)
def fX6_feed (x1 : Int32) (x2 : Int64) (M : Mem) : Option (Int32 × Mem) :=
  if x1 < 1 then (some ((-1), M))
  else (if x1 ≤ 8 then (bI_ (fX5_size 1 M) fun v_2 M_1 =>
  if (v_2 + x1) ≤ 300 then (fX6_feed_H34 FU x1 x2 0 M_1)
  else (some ((-3), M_1)))
  else (some ((-1), M)))
abbrev rm_X5_at : Room := { frames := 0, cells := 0, slots := 0, locals := 0 }
def fX5_at (o : Nat) (x1 : Int32) (M : Mem) : Option (Int32 × Mem) :=
  if x1 < 0 then (some ((-1), M))
  else (if (gI M o 1) ≤ x1 then (some ((-1), M))
  else (bald_ M (o + 1) x1 fun v_1 =>
  some ((v_1 &&& 255), M)))
abbrev rm_X5_clear : Room := { frames := 0, cells := 0, slots := 0, locals := 0 }
def fX5_clear (o : Nat) (M : Mem) : Option (Mem) :=
  lt_ (setI M o 1 0) fun M_1 =>
  some M_1
abbrev rm_X5_takeOver : Room := { frames := 1, cells := 0, slots := 0, locals := 21 }
def fX5_takeOver_H7 (o : Nat) (a1 : Nat) : Nat → Int32 → Mem → Option (Mem)
  | 0, _, _ => none
  | n + 1, x2, M => if (gI M a1 1) ≤ x2 then (bV_ (fX5_clear a1 M) fun M_2 =>
  some M_2)
  else (bI_ (fX5_at a1 x2 M) fun v_5 M_4 =>
  bV_ (fX5_append o v_5 M_4) fun M_6 =>
  lt_ (x2 + 1) fun x2_8 =>
  (fX5_takeOver_H7 o a1 n) x2_8 M_6)
def fX5_takeOver (o : Nat) (a1 : Nat) (M : Mem) : Option (Mem) :=
  lt_ (setI M o 1 0) fun M_1 =>
  fX5_takeOver_H7 o a1 FU 0 M_1
abbrev rm_X2_clear : Room := { frames := 0, cells := 0, slots := 0, locals := 0 }
def fX2_clear (M : Mem) : Option (Mem) :=
  lt_ (setI M 5 3 0) fun M_1 =>
  sz_ M_1 5 4 0 fun M_2 =>
  some M_2
abbrev rm_X6_text : Room := { frames := 2, cells := 0, slots := 0, locals := 43 }
def fX6_text (M : Mem) : Option (Int32 × Mem) :=
  bV_ (fX5_takeOver 3 1 M) fun M_1 =>
  bV_ (fX2_clear M_1) fun M_3 =>
  bI_ (fX5_size 3 M_3) fun v_6 M_5 =>
  some (v_6, M_5)
abbrev rm_J7_fill_d0a16 : Room := { frames := 0, cells := 0, slots := 0, locals := 0 }
def fJ7_fill_d0a16_H6 (a0 : Nat) : Nat → Int64 → Int32 → Int32 → Mem → Option (Mem)
  | 0, _, _, _, _ => none
  | n + 1, x1, x3, x4, M => if x4 ≤ x3 then (some M)
  else (last_ M a0 x3 x1 fun M_2 =>
  lt_ (x3 + 1) fun x3_3 =>
  (fJ7_fill_d0a16_H6 a0 n) x1 x3_3 x4 M_2)
def fJ7_fill_d0a16 (a0 : Nat) (x1 : Int64) (M : Mem) : Option (Mem) :=
  lt_ (nI (ln a0)) fun x4_1 =>
  fJ7_fill_d0a16_H6 a0 FU x1 0 x4_1 M
abbrev rm_X0_clear : Room := { frames := 1, cells := 0, slots := 0, locals := 24 }
def fX0_clear (o : Nat) (M : Mem) : Option (Mem) :=
  bV_ (fJ7_fill_d0a16 (o + 1) 0 M) fun M_1 =>
  bV_ (fJ7_fill_d0a16 (o + 2) 0 M_1) fun M_3 =>
  lt_ (setI M_3 o 2 0) fun M_5 =>
  lt_ (setJ M_5 o 3 0) fun M_6 =>
  lt_ (setJ M_6 o 4 0) fun M_7 =>
  some M_7
abbrev rm_X3_become : Room := { frames := 0, cells := 0, slots := 0, locals := 0 }
def fX3_become (o : Nat) (x1 : Int64) (x3 : Int32) (M : Mem) : Option (Mem) :=
  lt_ (setJ M o 0 x1) fun M_1 =>
  lt_ (setJ M_1 o 1 x1) fun M_2 =>
  sz_ M_2 o 2 x3 fun M_3 =>
  some M_3
abbrev rm_X3_becomeNothing : Room := { frames := 1, cells := 0, slots := 0, locals := 23 }
def fX3_becomeNothing (o : Nat) (M : Mem) : Option (Mem) :=
  bV_ (fX3_become o 0 0 M) fun M_1 =>
  some M_1
abbrev rm_X3_becomeEmptyRow : Room := { frames := 1, cells := 0, slots := 0, locals := 23 }
def fX3_becomeEmptyRow (o : Nat) (M : Mem) : Option (Mem) :=
  bV_ (fX3_become o 0 1 M) fun M_1 =>
  some M_1
abbrev rm_X4_beginChoices : Room := { frames := 2, cells := 0, slots := 0, locals := 43 }
def fX4_beginChoices (M : Mem) : Option (Mem) :=
  aald_ 20 (gI M 17 5) fun pa_1 =>
  bV_ (fX3_becomeNothing pa_1 M) fun M_2 =>
  aald_ 30 (gI M_2 17 5) fun pa_4 =>
  bV_ (fX3_becomeEmptyRow pa_4 M_2) fun M_5 =>
  some M_5
abbrev rm_X4_begin : Room := { frames := 3, cells := 0, slots := 0, locals := 63 }
def fX4_begin (a1 : Nat) (M : Mem) : Option (Mem) :=
  bV_ (fX5_takeOver 18 a1 M) fun M_1 =>
  ga_ (gR M_1 17 4) fun ra_3 =>
  bV_ (fX0_clear ra_3 M_1) fun M_4 =>
  lt_ (setI M_4 17 6 0) fun M_6 =>
  lt_ (setI M_6 17 7 (-1)) fun M_7 =>
  lt_ (setI M_7 17 5 0) fun M_8 =>
  bV_ (fX4_beginChoices M_8) fun M_9 =>
  some M_9
abbrev rm_X4_open : Room := { frames := 3, cells := 0, slots := 0, locals := 63 }
def fX4_open (M : Mem) : Option (Mem) :=
  if (gI M 17 5) < 8 then (lt_ (setI M 17 5 ((gI M 17 5) + 1)) fun M_1 =>
  lt_ (setI M_1 17 6 ((gI M_1 17 6) + 1)) fun M_2 =>
  bV_ (fX4_beginChoices M_2) fun M_3 =>
  some M_3)
  else (lt_ (setI M 17 7 (gI M 17 6)) fun M_5 =>
  some M_5)
abbrev rm_X3_addChoice : Room := { frames := 0, cells := 0, slots := 0, locals := 0 }
def fX3_addChoice_L46 (o : Nat) (a1 : Nat) (y0 : Int32) (M : Mem) : Option (Mem) :=
  sz_ M o 2 y0 fun M_3 =>
  some M_3
def fX3_addChoice_L41 (o : Nat) (a1 : Nat) (M : Mem) : Option (Mem) :=
  fX3_addChoice_L46 o a1 1 M
def fX3_addChoice (o : Nat) (a1 : Nat) (M : Mem) : Option (Mem) :=
  lt_ (setJ M o 0 ((gJ M o 0) ||| (gJ M a1 0))) fun M_1 =>
  lt_ (setJ M_1 o 1 ((gJ M_1 o 1) ||| (gJ M_1 a1 1))) fun M_2 =>
  if (gI M_2 o 2) = 0 then (if (gI M_2 a1 2) = 0 then (fX3_addChoice_L46 o a1 0 M_2)
  else (fX3_addChoice_L41 o a1 M_2))
  else (fX3_addChoice_L41 o a1 M_2)
abbrev rm_X4_endRow : Room := { frames := 2, cells := 0, slots := 0, locals := 43 }
def fX4_endRow (M : Mem) : Option (Mem) :=
  aald_ 20 (gI M 17 5) fun pa_1 =>
  aald_ 30 (gI M 17 5) fun pa_2 =>
  bV_ (fX3_addChoice pa_1 pa_2 M) fun M_3 =>
  aald_ 30 (gI M_3 17 5) fun pa_5 =>
  bV_ (fX3_becomeEmptyRow pa_5 M_3) fun M_6 =>
  some M_6
abbrev rm_X3_becomeCopyOf : Room := { frames := 0, cells := 0, slots := 0, locals := 0 }
def fX3_becomeCopyOf (o : Nat) (a1 : Nat) (M : Mem) : Option (Mem) :=
  lt_ (setJ M o 0 (gJ M a1 0)) fun M_1 =>
  lt_ (setJ M_1 o 1 (gJ M_1 a1 1)) fun M_2 =>
  sz_ M_2 o 2 (gI M_2 a1 2) fun M_3 =>
  some M_3
abbrev rm_X0_connect : Room := { frames := 0, cells := 0, slots := 0, locals := 0 }
def fX0_connect_L34 (k3 : Int64 → Int64 → Int32 → Mem → Option (Mem)) (o : Nat) (x1 : Int64) (x3 : Int64) (x5 : Int32) (M : Mem) : Option (Mem) :=
  lt_ (x5 + 1) fun x5_1 =>
  k3 x1 x3 x5_1 M
def fX0_connect_H3 (o : Nat) : Nat → Int64 → Int64 → Int32 → Mem → Option (Mem)
  | 0, _, _, _, _ => none
  | n + 1, x1, x3, x5, M => if (gI M o 2) ≤ x5 then (some M)
  else (if (lg_cmp ((ushr6 x1 x5) &&& 1) 0) = 0 then (fX0_connect_L34 (fX0_connect_H3 o n) o x1 x3 x5 M)
  else (lald_ M (o + 2) x5 fun v_2 =>
  last_ M (o + 2) x5 (v_2 ||| x3) fun M_3 =>
  fX0_connect_L34 (fX0_connect_H3 o n) o x1 x3 x5 M_3))
def fX0_connect (o : Nat) (x1 : Int64) (x3 : Int64) (M : Mem) : Option (Mem) :=
  fX0_connect_H3 o FU x1 x3 0 M
abbrev rm_X3_addBehind : Room := { frames := 0, cells := 0, slots := 0, locals := 0 }
def fX3_addBehind_L67 (o : Nat) (a1 : Nat) (y0 : Int32) (M : Mem) : Option (Mem) :=
  sz_ M o 2 y0 fun M_2 =>
  some M_2
def fX3_addBehind_L66 (o : Nat) (a1 : Nat) (M : Mem) : Option (Mem) :=
  fX3_addBehind_L67 o a1 0 M
def fX3_addBehind_L44 (o : Nat) (a1 : Nat) (y0 : Int64) (M : Mem) : Option (Mem) :=
  lt_ (setJ M o 1 y0) fun M_1 =>
  if (gI M_1 o 2) = 0 then (fX3_addBehind_L66 o a1 M_1)
  else (if (gI M_1 a1 2) = 0 then (fX3_addBehind_L66 o a1 M_1)
  else (fX3_addBehind_L67 o a1 1 M_1))
def fX3_addBehind_L20 (o : Nat) (a1 : Nat) (M : Mem) : Option (Mem) :=
  if (gI M a1 2) = 0 then (fX3_addBehind_L44 o a1 (gJ M a1 1) M)
  else (fX3_addBehind_L44 o a1 ((gJ M o 1) ||| (gJ M a1 1)) M)
def fX3_addBehind (o : Nat) (a1 : Nat) (M : Mem) : Option (Mem) :=
  if (gI M o 2) = 0 then (fX3_addBehind_L20 o a1 M)
  else (lt_ (setJ M o 0 ((gJ M o 0) ||| (gJ M a1 0))) fun M_3 =>
  fX3_addBehind_L20 o a1 M_3)
abbrev rm_X4_endPiece : Room := { frames := 1, cells := 0, slots := 0, locals := 25 }
def fX4_endPiece_L103 (M : Mem) : Option (Mem) :=
  ga_ (gR M 17 4) fun ra_4 =>
  aald_ 30 (gI M 17 5) fun pa_5 =>
  bV_ (fX0_connect ra_4 (gJ M pa_5 1) (gJ M 40 0) M) fun M_6 =>
  aald_ 30 (gI M_6 17 5) fun pa_8 =>
  bV_ (fX3_addBehind pa_8 40 M_6) fun M_9 =>
  some M_9
def fX4_endPiece_L93 (M : Mem) : Option (Mem) :=
  lt_ (setI M 17 6 ((gI M 17 6) + 1)) fun M_3 =>
  fX4_endPiece_L103 M_3
def fX4_endPiece_L85 (x2 : Int32) (x3 : Int32) (M : Mem) : Option (Mem) :=
  if x2 = 0 then (if x3 = 0 then (fX4_endPiece_L103 M)
  else (fX4_endPiece_L93 M))
  else (fX4_endPiece_L93 M)
def fX4_endPiece_L73 (x2 : Int32) (x3 : Int32) (M : Mem) : Option (Mem) :=
  if x3 = 0 then (fX4_endPiece_L85 x2 x3 M)
  else (sz_ M 40 2 1 fun M_11 =>
  fX4_endPiece_L85 x2 x3 M_11)
def fX4_endPiece_L47 (x2 : Int32) (y0 : Int32) (M : Mem) : Option (Mem) :=
  if x2 = 0 then (fX4_endPiece_L73 x2 y0 M)
  else (ga_ (gR M 17 4) fun ra_12 =>
  bV_ (fX0_connect ra_12 (gJ M 40 1) (gJ M 40 0) M) fun M_13 =>
  fX4_endPiece_L73 x2 y0 M_13)
def fX4_endPiece_L42 (x2 : Int32) (M : Mem) : Option (Mem) :=
  fX4_endPiece_L47 x2 1 M
def fX4_endPiece_L29 (x1 : Int32) (y0 : Int32) (M : Mem) : Option (Mem) :=
  if x1 = 42 then (fX4_endPiece_L42 y0 M)
  else (if x1 = 63 then (fX4_endPiece_L42 y0 M)
  else (fX4_endPiece_L47 y0 0 M))
def fX4_endPiece_L24 (x1 : Int32) (M : Mem) : Option (Mem) :=
  fX4_endPiece_L29 x1 1 M
def fX4_endPiece (M : Mem) : Option (Mem) :=
  bI_ (fX5_at 18 (gI M 17 6) M) fun v_2 M_1 =>
  if v_2 = 42 then (fX4_endPiece_L24 v_2 M_1)
  else (if v_2 = 43 then (fX4_endPiece_L24 v_2 M_1)
  else (fX4_endPiece_L29 v_2 0 M_1))
abbrev rm_X4_close : Room := { frames := 3, cells := 0, slots := 0, locals := 63 }
def fX4_close (M : Mem) : Option (Mem) :=
  if 0 < (gI M 17 5) then (bV_ (fX4_endRow M) fun M_1 =>
  aald_ 20 (gI M_1 17 5) fun pa_3 =>
  bV_ (fX3_becomeCopyOf 40 pa_3 M_1) fun M_4 =>
  lt_ (setI M_4 17 5 ((gI M_4 17 5) - 1)) fun M_6 =>
  lt_ (setI M_6 17 6 ((gI M_6 17 6) + 1)) fun M_7 =>
  bV_ (fX4_endPiece M_7) fun M_8 =>
  some M_8)
  else (lt_ (setI M 17 7 (gI M 17 6)) fun M_10 =>
  some M_10)
abbrev rm_X0_atoms : Room := { frames := 0, cells := 0, slots := 0, locals := 0 }
def fX0_atoms (o : Nat) (M : Mem) : Option (Int32 × Mem) :=
  some ((gI M o 2), M)
abbrev rm_X0_addAtom : Room := { frames := 0, cells := 0, slots := 0, locals := 0 }
def fX0_addAtom (o : Nat) (M : Mem) : Option (Mem) :=
  if 60 ≤ (gI M o 2) then (some M)
  else (lt_ (setI M o 2 ((gI M o 2) + 1)) fun M_1 =>
  some M_1)
abbrev rm_X4_readSign : Room := { frames := 1, cells := 0, slots := 0, locals := 21 }
def fX4_readSign_L88 (x2 : Int32) (M : Mem) : Option (Int32 × Mem) :=
  lt_ (setI M 17 6 ((gI M 17 6) + 1)) fun M_3 =>
  some (x2, M_3)
def fX4_readSign_L72 (x2 : Int32) (M : Mem) : Option (Int32 × Mem) :=
  if x2 = (-1) then (bI_ (fX5_size 18 M) fun v_5 M_4 =>
  lt_ (setI M_4 17 7 v_5) fun M_6 =>
  fX4_readSign_L88 x2 M_6)
  else (fX4_readSign_L88 x2 M)
def fX4_readSign_L44 (x2 : Int32) (M : Mem) : Option (Int32 × Mem) :=
  if x2 = 92 then (lt_ (setI M 17 6 ((gI M 17 6) + 1)) fun M_7 =>
  bI_ (fX5_at 18 (gI M_7 17 6) M_7) fun v_9 M_8 =>
  fX4_readSign_L72 v_9 M_8)
  else (fX4_readSign_L72 x2 M)
def fX4_readSign_L34 (M : Mem) : Option (Int32 × Mem) :=
  lt_ (setI M 17 7 (gI M 17 6)) fun M_10 =>
  some ((-1), M_10)
def fX4_readSign (x1 : Int32) (M : Mem) : Option (Int32 × Mem) :=
  bI_ (fX5_at 18 (gI M 17 6) M) fun v_2 M_1 =>
  if x1 = 0 then (fX4_readSign_L44 v_2 M_1)
  else (if v_2 = 93 then (fX4_readSign_L34 M_1)
  else (if v_2 = 94 then (fX4_readSign_L34 M_1)
  else (if v_2 = 45 then (fX4_readSign_L34 M_1)
  else (fX4_readSign_L44 v_2 M_1))))
abbrev rm_X0_newest : Room := { frames := 0, cells := 0, slots := 0, locals := 0 }
def fX0_newest (o : Nat) (M : Mem) : Option (Int64 × Mem) :=
  if (gI M o 2) ≤ 0 then (some (0, M))
  else (some ((shl6 1 ((gI M o 2) - 1)), M))
abbrev rm_X0_allow : Room := { frames := 1, cells := 0, slots := 0, locals := 21 }
def fX0_allow_H15 (o : Nat) : Nat → Int32 → Int32 → Mem → Option (Mem)
  | 0, _, _, _ => none
  | n + 1, x3, x4, M => if x3 < x4 then (some M)
  else (lald_ M (o + 1) x4 fun v_3 =>
  bJ_ (fX0_newest o M) fun v_5 M_4 =>
  last_ M_4 (o + 1) x4 (v_3 ||| v_5) fun M_6 =>
  lt_ (x4 + 1) fun x4_7 =>
  (fX0_allow_H15 o n) x3 x4_7 M_6)
def fX0_allow (o : Nat) (x1 : Int32) (x2 : Int32) (M : Mem) : Option (Mem) :=
  lt_ (mmin_ x2 255) fun x3_1 =>
  lt_ (mmax_ x1 0) fun x4_2 =>
  fX0_allow_H15 o FU x3_1 x4_2 M
abbrev rm_X4_readRange : Room := { frames := 2, cells := 0, slots := 0, locals := 45 }
def fX4_readRange_L71 (x1 : Int32) (x2 : Int32) (M : Mem) : Option (Mem) :=
  if (gI M 17 7) = (-1) then (ga_ (gR M 17 4) fun ra_3 =>
  bV_ (fX0_allow ra_3 x1 x2 M) fun M_4 =>
  some M_4)
  else (some M)
def fX4_readRange (M : Mem) : Option (Mem) :=
  bI_ (fX4_readSign 1 M) fun v_2 M_1 =>
  if (gI M_1 17 7) = (-1) then (bI_ (fX5_at 18 (gI M_1 17 6) M_1) fun v_7 M_6 =>
  if v_7 = 45 then (lt_ (setI M_6 17 6 ((gI M_6 17 6) + 1)) fun M_8 =>
  lt_ (gI M_8 17 6) fun x3_9 =>
  bI_ (fX4_readSign 1 M_8) fun v_11 M_10 =>
  if (gI M_10 17 7) = (-1) then (if v_2 ≤ v_11 then (fX4_readRange_L71 v_2 v_11 M_10)
  else (lt_ (setI M_10 17 7 x3_9) fun M_12 =>
  fX4_readRange_L71 v_2 v_11 M_12))
  else (fX4_readRange_L71 v_2 v_11 M_10))
  else (fX4_readRange_L71 v_2 v_2 M_6))
  else (fX4_readRange_L71 v_2 v_2 M_1)
abbrev rm_X0_turnRound : Room := { frames := 1, cells := 0, slots := 0, locals := 20 }
def fX0_turnRound_H2 (o : Nat) : Nat → Int32 → Mem → Option (Mem)
  | 0, _, _ => none
  | n + 1, x1, M => if 256 ≤ x1 then (some M)
  else (lald_ M (o + 1) x1 fun v_1 =>
  bJ_ (fX0_newest o M) fun v_3 M_2 =>
  last_ M_2 (o + 1) x1 (v_1 ^^^ v_3) fun M_4 =>
  lt_ (x1 + 1) fun x1_5 =>
  (fX0_turnRound_H2 o n) x1_5 M_4)
def fX0_turnRound (o : Nat) (M : Mem) : Option (Mem) :=
  fX0_turnRound_H2 o FU 0 M
abbrev rm_X4_readSet : Room := { frames := 3, cells := 0, slots := 0, locals := 68 }
def fX4_readSet_L93 (x1 : Int32) (M : Mem) : Option (Mem) :=
  lt_ (setI M 17 6 ((gI M 17 6) + 1)) fun M_6 =>
  if x1 = 0 then (some M_6)
  else (ga_ (gR M_6 17 4) fun ra_7 =>
  bV_ (fX0_turnRound ra_7 M_6) fun M_8 =>
  some M_8)
def fX4_readSet_H52 : Nat → Int32 → Int32 → Mem → Option (Mem)
  | 0, _, _, _ => none
  | n + 1, x1, x2, M => if 300 ≤ x2 then (fX4_readSet_L93 x1 M)
  else (if (gI M 17 7) = (-1) then (bI_ (fX5_at 18 (gI M 17 6) M) fun v_11 M_10 =>
  if v_11 = 93 then (fX4_readSet_L93 x1 M_10)
  else (bV_ (fX4_readRange M_10) fun M_12 =>
  lt_ (x2 + 1) fun x2_14 =>
  (fX4_readSet_H52 n) x1 x2_14 M_12))
  else (fX4_readSet_L93 x1 M))
def fX4_readSet_L46 (x1 : Int32) (M : Mem) : Option (Mem) :=
  bV_ (fX4_readRange M) fun M_4 =>
  fX4_readSet_H52 FU x1 0 M_4
def fX4_readSet_L31 (y0 : Int32) (M : Mem) : Option (Mem) :=
  if y0 = 0 then (fX4_readSet_L46 y0 M)
  else (lt_ (setI M 17 6 ((gI M 17 6) + 1)) fun M_15 =>
  fX4_readSet_L46 y0 M_15)
def fX4_readSet (M : Mem) : Option (Mem) :=
  lt_ (setI M 17 6 ((gI M 17 6) + 1)) fun M_1 =>
  bI_ (fX5_at 18 (gI M_1 17 6) M_1) fun v_3 M_2 =>
  if v_3 = 94 then (fX4_readSet_L31 1 M_2)
  else (fX4_readSet_L31 0 M_2)
abbrev rm_X4_allowSolid : Room := { frames := 2, cells := 0, slots := 0, locals := 45 }
def fX4_allowSolid (M : Mem) : Option (Mem) :=
  ga_ (gR M 17 4) fun ra_1 =>
  bV_ (fX0_allow ra_1 32 32 M) fun M_2 =>
  ga_ (gR M_2 17 4) fun ra_4 =>
  bV_ (fX0_allow ra_4 9 10 M_2) fun M_5 =>
  ga_ (gR M_5 17 4) fun ra_7 =>
  bV_ (fX0_turnRound ra_7 M_5) fun M_8 =>
  some M_8
abbrev rm_X3_becomeAtom : Room := { frames := 1, cells := 0, slots := 0, locals := 23 }
def fX3_becomeAtom (o : Nat) (x1 : Int64) (M : Mem) : Option (Mem) :=
  bV_ (fX3_become o x1 0 M) fun M_1 =>
  some M_1
abbrev rm_X4_readAtom : Room := { frames := 4, cells := 0, slots := 0, locals := 90 }
def fX4_readAtom_L91 (M : Mem) : Option (Mem) :=
  if (gI M 17 7) = (-1) then (ga_ (gR M 17 4) fun ra_14 =>
  bJ_ (fX0_newest ra_14 M) fun v_16 M_15 =>
  bV_ (fX3_becomeAtom 40 v_16 M_15) fun M_17 =>
  bV_ (fX4_endPiece M_17) fun M_19 =>
  some M_19)
  else (some M)
def fX4_readAtom (M : Mem) : Option (Mem) :=
  ga_ (gR M 17 4) fun ra_1 =>
  bI_ (fX0_atoms ra_1 M) fun v_3 M_2 =>
  if v_3 < 60 then (ga_ (gR M_2 17 4) fun ra_4 =>
  bV_ (fX0_addAtom ra_4 M_2) fun M_5 =>
  bI_ (fX5_at 18 (gI M_5 17 6) M_5) fun v_8 M_7 =>
  if v_8 = 91 then (bV_ (fX4_readSet M_7) fun M_24 =>
  fX4_readAtom_L91 M_24)
  else (if v_8 = 46 then (lt_ (setI M_7 17 6 ((gI M_7 17 6) + 1)) fun M_21 =>
  bV_ (fX4_allowSolid M_21) fun M_22 =>
  fX4_readAtom_L91 M_22)
  else (bI_ (fX4_readSign 0 M_7) fun v_10 M_9 =>
  ga_ (gR M_9 17 4) fun ra_11 =>
  bV_ (fX0_allow ra_11 v_10 v_10 M_9) fun M_12 =>
  fX4_readAtom_L91 M_12)))
  else (lt_ (setI M_2 17 7 (gI M_2 17 6)) fun M_26 =>
  some M_26)
abbrev rm_X0_setEdges : Room := { frames := 0, cells := 0, slots := 0, locals := 0 }
def fX0_setEdges (o : Nat) (x1 : Int64) (x3 : Int64) (M : Mem) : Option (Mem) :=
  lt_ (setJ M o 3 x1) fun M_1 =>
  lt_ (setJ M_1 o 4 x3) fun M_2 =>
  some M_2
abbrev rm_X4_end : Room := { frames := 3, cells := 0, slots := 0, locals := 63 }
def fX4_end_L26 (M : Mem) : Option (Mem) :=
  bV_ (fX4_endRow M) fun M_1 =>
  ga_ (gR M_1 17 4) fun ra_3 =>
  aald_ 20 0 fun pa_4 =>
  aald_ 20 0 fun pa_5 =>
  bV_ (fX0_setEdges ra_3 (gJ M_1 pa_4 0) (gJ M_1 pa_5 1) M_1) fun M_6 =>
  some M_6
def fX4_end (M : Mem) : Option (Mem) :=
  if (gI M 17 7) = (-1) then (if (gI M 17 5) ≤ 0 then (fX4_end_L26 M)
  else (bI_ (fX5_size 18 M) fun v_9 M_8 =>
  lt_ (setI M_8 17 7 v_9) fun M_10 =>
  fX4_end_L26 M_10))
  else (fX4_end_L26 M)
abbrev rm_X4_readFrom : Room := { frames := 5, cells := 0, slots := 0, locals := 112 }
def fX4_readFrom_L164 (a1 : Nat) (M : Mem) : Option (Int32 × Mem) :=
  bV_ (fX4_end M) fun M_3 =>
  some ((gI M_3 17 7), M_3)
def fX4_readFrom_L158 (k7 : Int32 → Mem → Option (Int32 × Mem)) (a1 : Nat) (x2 : Int32) (M : Mem) : Option (Int32 × Mem) :=
  lt_ (x2 + 1) fun x2_11 =>
  k7 x2_11 M
def fX4_readFrom_L143 (k7 : Int32 → Mem → Option (Int32 × Mem)) (a1 : Nat) (x2 : Int32) (M : Mem) : Option (Int32 × Mem) :=
  lt_ (setI M 17 7 (gI M 17 6)) fun M_14 =>
  fX4_readFrom_L158 k7 a1 x2 M_14
def fX4_readFrom_H7 (a1 : Nat) : Nat → Int32 → Mem → Option (Int32 × Mem)
  | 0, _, _ => none
  | n + 1, x2, M => if 300 ≤ x2 then (fX4_readFrom_L164 a1 M)
  else (bI_ (fX5_size 18 M) fun v_6 M_5 =>
  if v_6 ≤ (gI M 17 6) then (fX4_readFrom_L164 a1 M_5)
  else (if (gI M_5 17 7) = (-1) then (bI_ (fX5_at 18 (gI M_5 17 6) M_5) fun v_8 M_7 =>
  if v_8 = 40 then (bV_ (fX4_open M_7) fun M_9 =>
  fX4_readFrom_L158 (fX4_readFrom_H7 a1 n) a1 x2 M_9)
  else (if v_8 = 41 then (bV_ (fX4_close M_7) fun M_12 =>
  fX4_readFrom_L158 (fX4_readFrom_H7 a1 n) a1 x2 M_12)
  else (if v_8 = 42 then (fX4_readFrom_L143 (fX4_readFrom_H7 a1 n) a1 x2 M_7)
  else (if v_8 = 43 then (fX4_readFrom_L143 (fX4_readFrom_H7 a1 n) a1 x2 M_7)
  else (if v_8 = 63 then (fX4_readFrom_L143 (fX4_readFrom_H7 a1 n) a1 x2 M_7)
  else (if v_8 = 93 then (fX4_readFrom_L143 (fX4_readFrom_H7 a1 n) a1 x2 M_7)
  else (if v_8 = 124 then (bV_ (fX4_endRow M_7) fun M_15 =>
  lt_ (setI M_15 17 6 ((gI M_15 17 6) + 1)) fun M_17 =>
  fX4_readFrom_L158 (fX4_readFrom_H7 a1 n) a1 x2 M_17)
  else (bV_ (fX4_readAtom M_7) fun M_18 =>
  fX4_readFrom_L158 (fX4_readFrom_H7 a1 n) a1 x2 M_18))))))))
  else (fX4_readFrom_L164 a1 M_5)))
def fX4_readFrom (a1 : Nat) (M : Mem) : Option (Int32 × Mem) :=
  bV_ (fX4_begin a1 M) fun M_1 =>
  fX4_readFrom_H7 a1 FU 0 M_1
abbrev rm_X4_exchange : Room := { frames := 0, cells := 0, slots := 0, locals := 0 }
def fX4_exchange (a1 : Nat) (M : Mem) : Option (Nat × Mem) :=
  ga_ (gR M 17 4) fun ra_1 =>
  lt_ (setR M 17 4 a1) fun M_2 =>
  some (ra_1, M_2)
abbrev rm_X6_pattern : Room := { frames := 6, cells := 0, slots := 0, locals := 134 }
def fX6_pattern (M : Mem) : Option (Int32 × Mem) :=
  bI_ (fX4_readFrom 1 M) fun v_2 M_1 =>
  if v_2 = (-1) then (ga_ (gR M_1 0 5) fun ra_3 =>
  bR_ (fX4_exchange ra_3 M_1) fun v_5 M_4 =>
  lt_ (setR M_4 0 5 v_5) fun M_6 =>
  ga_ (gR M_6 0 5) fun ra_7 =>
  bI_ (fX0_atoms ra_7 M_6) fun v_9 M_8 =>
  some (v_9, M_8))
  else (some (((-10) - v_2), M_1))
abbrev rm_X6_isBlank : Room := { frames := 0, cells := 0, slots := 0, locals := 0 }
def fX6_isBlank_L18 (M : Mem) : Option (Int32 × Mem) :=
  zr_ 1 M
def fX6_isBlank (x0 : Int32) (M : Mem) : Option (Int32 × Mem) :=
  if x0 = 32 then (fX6_isBlank_L18 M)
  else (if x0 = 9 then (fX6_isBlank_L18 M)
  else (if x0 = 10 then (fX6_isBlank_L18 M)
  else (zr_ 0 M)))
abbrev rm_X5_hasBlank : Room := { frames := 1, cells := 0, slots := 0, locals := 21 }
def fX5_hasBlank_H2 (o : Nat) : Nat → Int32 → Mem → Option (Int32 × Mem)
  | 0, _, _ => none
  | n + 1, x1, M => if (gI M o 1) ≤ x1 then (zr_ 0 M)
  else (bI_ (fX5_at o x1 M) fun v_2 M_1 =>
  bI_ (fX6_isBlank v_2 M_1) fun v_4 M_3 =>
  if v_4 = 0 then (lt_ (x1 + 1) fun x1_5 =>
  (fX5_hasBlank_H2 o n) x1_5 M_3)
  else (zr_ 1 M_3))
def fX5_hasBlank (o : Nat) (M : Mem) : Option (Int32 × Mem) :=
  fX5_hasBlank_H2 o FU 0 M
abbrev rm_X6_isCost : Room := { frames := 0, cells := 0, slots := 0, locals := 0 }
def fX6_isCost (x0 : Int32) (M : Mem) : Option (Int32 × Mem) :=
  if x0 < 1 then (zr_ 0 M)
  else (if 1000 < x0 then (zr_ 0 M)
  else (zr_ 1 M))
abbrev rm_X1_standsAt : Room := { frames := 1, cells := 0, slots := 0, locals := 21 }
def fX1_standsAt_H3 (a2 : Nat) : Nat → Int32 → Int32 → Int32 → Mem → Option (Int32 × Mem)
  | 0, _, _, _, _ => none
  | n + 1, x1, x3, x4, M => iald_ M 11 x1 fun v_1 =>
  if v_1 ≤ x4 then (zr_ 1 M)
  else (bald_ M 10 ((x1 * 12) + x4) fun v_2 =>
  bI_ (fX5_at a2 (x3 + x4) M) fun v_4 M_3 =>
  if (v_2 &&& 255) = v_4 then (lt_ (x4 + 1) fun x4_5 =>
  (fX1_standsAt_H3 a2 n) x1 x3 x4_5 M_3)
  else (zr_ 0 M_3))
def fX1_standsAt (a2 : Nat) (x1 : Int32) (x3 : Int32) (M : Mem) : Option (Int32 × Mem) :=
  fX1_standsAt_H3 a2 FU x1 x3 0 M
abbrev rm_X1_knows : Room := { frames := 2, cells := 0, slots := 0, locals := 45 }
def fX1_knows_L35 (k2 : Int32 → Mem → Option (Int32 × Mem)) (a1 : Nat) (x2 : Int32) (M : Mem) : Option (Int32 × Mem) :=
  lt_ (x2 + 1) fun x2_4 =>
  k2 x2_4 M
def fX1_knows_H2 (a1 : Nat) : Nat → Int32 → Mem → Option (Int32 × Mem)
  | 0, _, _ => none
  | n + 1, x2, M => if (gI M 9 3) ≤ x2 then (zr_ 0 M)
  else (iald_ M 11 x2 fun v_1 =>
  bI_ (fX5_size a1 M) fun v_3 M_2 =>
  if v_1 = v_3 then (bI_ (fX1_standsAt a1 x2 0 M_2) fun v_6 M_5 =>
  if v_6 = 0 then (fX1_knows_L35 (fX1_knows_H2 a1 n) a1 x2 M_5)
  else (zr_ 1 M_5))
  else (fX1_knows_L35 (fX1_knows_H2 a1 n) a1 x2 M_2))
def fX1_knows (a1 : Nat) (M : Mem) : Option (Int32 × Mem) :=
  fX1_knows_H2 a1 FU 0 M
abbrev rm_X1_learn : Room := { frames := 3, cells := 0, slots := 0, locals := 67 }
def fX1_learn_H58 (a1 : Nat) : Nat → Int32 → Int32 → Int32 → Mem → Option (Int32 × Mem)
  | 0, _, _, _, _ => none
  | n + 1, x2, x3, x4, M => if x3 ≤ x4 then (iast_ M 11 (gI M 9 3) x3 fun M_9 =>
  iast_ M_9 12 (gI M_9 9 3) x2 fun M_10 =>
  lt_ (setI M_10 9 3 ((gI M_10 9 3) + 1)) fun M_11 =>
  some (((gI M_11 9 3) - 1), M_11))
  else (bI_ (fX5_at a1 x4 M) fun v_13 M_12 =>
  bast_ M_12 10 (((gI M 9 3) * 12) + x4) ((v_13 : Int32).toInt8.toInt32) fun M_14 =>
  lt_ (x4 + 1) fun x4_15 =>
  (fX1_learn_H58 a1 n) x2 x3 x4_15 M_14)
def fX1_learn (a1 : Nat) (x2 : Int32) (M : Mem) : Option (Int32 × Mem) :=
  bI_ (fX5_size a1 M) fun v_2 M_1 =>
  if v_2 < 1 then (some ((-1), M_1))
  else (if 12 < v_2 then (some ((-1), M_1))
  else (bI_ (fX5_hasBlank a1 M_1) fun v_4 M_3 =>
  if v_4 = 0 then (bI_ (fX6_isCost x2 M_3) fun v_6 M_5 =>
  if v_6 = 0 then (some ((-1), M_5))
  else (bI_ (fX1_knows a1 M_5) fun v_8 M_7 =>
  if v_8 = 0 then (if (gI M_7 9 3) < 40 then (fX1_learn_H58 a1 FU x2 v_2 0 M_7)
  else (some ((-3), M_7)))
  else (some ((-2), M_7))))
  else (some ((-1), M_3))))
abbrev rm_X6_word : Room := { frames := 4, cells := 0, slots := 0, locals := 91 }
def fX6_word (x1 : Int32) (M : Mem) : Option (Int32 × Mem) :=
  bI_ (fX1_learn 1 x1 M) fun v_2 M_1 =>
  bV_ (fX5_clear 1 M_1) fun M_3 =>
  some (v_2, M_3)
abbrev rm_X1_exchangeStrangeCost : Room := { frames := 0, cells := 0, slots := 0, locals := 0 }
def fX1_exchangeStrangeCost (x1 : Int32) (M : Mem) : Option (Int32 × Mem) :=
  lt_ (gI M 9 4) fun x2_1 =>
  lt_ (setI M 9 4 x1) fun M_2 =>
  some (x2_1, M_2)
abbrev rm_X6_strange : Room := { frames := 1, cells := 0, slots := 0, locals := 22 }
def fX6_strange (x1 : Int32) (M : Mem) : Option (Int32 × Mem) :=
  bI_ (fX6_isCost x1 M) fun v_2 M_1 =>
  if v_2 = 0 then (some ((-1), M_1))
  else (bI_ (fX1_exchangeStrangeCost x1 M_1) fun v_4 M_3 =>
  some (v_4, M_3))
abbrev rm_X6_links : Room := { frames := 0, cells := 0, slots := 0, locals := 0 }
def fX6_links_L12 (x1 : Int32) (y0 : Int32) (M : Mem) : Option (Int32 × Mem) :=
  sz_ M 0 6 x1 fun M_1 =>
  some (y0, M_1)
def fX6_links (x1 : Int32) (M : Mem) : Option (Int32 × Mem) :=
  if (gI M 0 6) = 0 then (fX6_links_L12 x1 0 M)
  else (fX6_links_L12 x1 1 M)
abbrev rm_X2_exchangeLimit : Room := { frames := 0, cells := 0, slots := 0, locals := 0 }
def fX2_exchangeLimit (x1 : Int32) (x2 : Int32) (M : Mem) : Option (Int32 × Mem) :=
  lt_ (gI M 5 5) fun x3_1 =>
  lt_ (setI M 5 5 x1) fun M_2 =>
  lt_ (setI M_2 5 6 x2) fun M_3 =>
  some (x3_1, M_3)
abbrev rm_X6_longest : Room := { frames := 1, cells := 0, slots := 0, locals := 23 }
def fX6_longest_L23 (x1 : Int32) (x2 : Int32) (M : Mem) : Option (Int32 × Mem) :=
  bI_ (fX2_exchangeLimit x1 x2 M) fun v_2 M_1 =>
  some (v_2, M_1)
def fX6_longest (x1 : Int32) (x2 : Int32) (M : Mem) : Option (Int32 × Mem) :=
  if x1 < 1 then (some ((-1), M))
  else (if 300 < x1 then (some ((-1), M))
  else (if x2 = 0 then (fX6_longest_L23 x1 x2 M)
  else (if x2 = 1 then (fX6_longest_L23 x1 x2 M)
  else (some ((-1), M)))))
abbrev rm_X2_begin : Room := { frames := 1, cells := 0, slots := 0, locals := 20 }
def fX2_begin (x1 : Int32) (M : Mem) : Option (Mem) :=
  bV_ (fX2_clear M) fun M_1 =>
  sz_ M_1 5 7 x1 fun M_3 =>
  lt_ (setI M_3 5 8 (-1)) fun M_4 =>
  lt_ (setI M_4 5 9 (-1)) fun M_5 =>
  some M_5
abbrev rm_X0_fittingFor : Room := { frames := 0, cells := 0, slots := 0, locals := 0 }
def fX0_fittingFor (o : Nat) (x1 : Int32) (M : Mem) : Option (Int64 × Mem) :=
  if x1 < 0 then (some (0, M))
  else (if 256 ≤ x1 then (some (0, M))
  else (lald_ M (o + 1) x1 fun v_1 =>
  some (v_1, M)))
abbrev rm_X0_behind : Room := { frames := 0, cells := 0, slots := 0, locals := 0 }
def fX0_behind_L44 (k5 : Int64 → Int64 → Int32 → Mem → Option (Int64 × Mem)) (o : Nat) (x1 : Int64) (x3 : Int64) (x5 : Int32) (M : Mem) : Option (Int64 × Mem) :=
  lt_ (x5 + 1) fun x5_1 =>
  k5 x1 x3 x5_1 M
def fX0_behind_H5 (o : Nat) : Nat → Int64 → Int64 → Int32 → Mem → Option (Int64 × Mem)
  | 0, _, _, _, _ => none
  | n + 1, x1, x3, x5, M => if (gI M o 2) ≤ x5 then (some (x3, M))
  else (if (lg_cmp (ushr6 x1 x5) 0) = 0 then (some (x3, M))
  else (if (lg_cmp ((ushr6 x1 x5) &&& 1) 0) = 0 then (fX0_behind_L44 (fX0_behind_H5 o n) o x1 x3 x5 M)
  else (lald_ M (o + 2) x5 fun v_2 =>
  lt_ (x3 ||| v_2) fun x3_3 =>
  fX0_behind_L44 (fX0_behind_H5 o n) o x1 x3_3 x5 M)))
def fX0_behind (o : Nat) (x1 : Int64) (M : Mem) : Option (Int64 × Mem) :=
  fX0_behind_H5 o FU x1 0 0 M
abbrev rm_X0_longestFrom : Room := { frames := 1, cells := 0, slots := 0, locals := 25 }
def fX0_longestFrom_L61 (k11 : Int32 → Int32 → Int64 → Int32 → Mem → Option (Int32 × Mem)) (o : Nat) (a1 : Nat) (x2 : Int32) (x3 : Int32) (x6 : Int32) (x7 : Int64) (M : Mem) : Option (Int32 × Mem) :=
  bJ_ (fX0_behind o x7 M) fun v_10 M_9 =>
  lt_ (x6 + 1) fun x6_11 =>
  k11 x2 x3 v_10 x6_11 M_9
def fX0_longestFrom_H11 (o : Nat) (a1 : Nat) : Nat → Int32 → Int32 → Int64 → Int32 → Mem → Option (Int32 × Mem)
  | 0, _, _, _, _, _ => none
  | n + 1, x2, x3, x4, x6, M => bI_ (fX5_size a1 M) fun v_3 M_2 =>
  if v_3 ≤ x6 then (some (x3, M_2))
  else (if (lg_cmp x4 0) = 0 then (some (x3, M_2))
  else (bI_ (fX5_at a1 x6 M_2) fun v_5 M_4 =>
  bJ_ (fX0_fittingFor o v_5 M_4) fun v_7 M_6 =>
  lt_ (x4 &&& v_7) fun x7_8 =>
  if (lg_cmp (x7_8 &&& (gJ M_6 o 4)) 0) = 0 then (fX0_longestFrom_L61 (fX0_longestFrom_H11 o a1 n) o a1 x2 x3 x6 x7_8 M_6)
  else (lt_ ((x6 + 1) - x2) fun x3_12 =>
  fX0_longestFrom_L61 (fX0_longestFrom_H11 o a1 n) o a1 x2 x3_12 x6 x7_8 M_6)))
def fX0_longestFrom (o : Nat) (a1 : Nat) (x2 : Int32) (M : Mem) : Option (Int32 × Mem) :=
  lt_ (gJ M o 3) fun x4_1 =>
  fX0_longestFrom_H11 o a1 FU x2 0 x4_1 x2 M
abbrev rm_X2_put : Room := { frames := 0, cells := 0, slots := 0, locals := 0 }
def fX2_put (x1 : Int32) (x2 : Int32) (M : Mem) : Option (Mem) :=
  if (gI M 5 3) < 400 then (iast_ M 6 (gI M 5 3) x1 fun M_1 =>
  iast_ M_1 7 (gI M_1 5 3) x2 fun M_2 =>
  iast_ M_2 8 (gI M_2 5 3) (gI M_2 5 8) fun M_3 =>
  lt_ (setI M_3 5 3 ((gI M_3 5 3) + 1)) fun M_4 =>
  some M_4)
  else (sz_ M 5 4 1 fun M_5 =>
  some M_5)
abbrev rm_X2_addCut : Room := { frames := 1, cells := 0, slots := 0, locals := 22 }
def fX2_addCut_L36 (k2 : Int32 → Int32 → Int32 → Mem → Option (Mem)) (x1 : Int32) (x2 : Int32) (x3 : Int32) (M : Mem) : Option (Mem) :=
  bV_ (fX2_put x3 (mmin_ x2 (x3 + (gI M 5 5))) M) fun M_1 =>
  lt_ (x3 + (mmax_ 1 (gI M_1 5 5))) fun x3_3 =>
  k2 x1 x2 x3_3 M_1
def fX2_addCut_H2 : Nat → Int32 → Int32 → Int32 → Mem → Option (Mem)
  | 0, _, _, _, _ => none
  | n + 1, x1, x2, x3, M => if x2 ≤ x3 then (some M)
  else (if (gI M 5 4) = 0 then (if (gI M 5 7) = 0 then (if x3 ≤ x1 then (fX2_addCut_L36 (fX2_addCut_H2 n) x1 x2 x3 M)
  else (lt_ (setI M 5 8 ((gI M 5 8) + 1)) fun M_4 =>
  fX2_addCut_L36 (fX2_addCut_H2 n) x1 x2 x3 M_4))
  else (fX2_addCut_L36 (fX2_addCut_H2 n) x1 x2 x3 M))
  else (some M))
def fX2_addCut (x1 : Int32) (x2 : Int32) (M : Mem) : Option (Mem) :=
  fX2_addCut_H2 FU x1 x2 x1 M
abbrev rm_X2_add : Room := { frames := 2, cells := 0, slots := 0, locals := 45 }
def fX2_add_L25 (x1 : Int32) (x2 : Int32) (M : Mem) : Option (Mem) :=
  lt_ (setI M 5 9 x1) fun M_2 =>
  if (gI M_2 5 5) < (x2 - x1) then (if (gI M_2 5 6) = 0 then (bV_ (fX2_addCut x1 x2 M_2) fun M_3 =>
  some M_3)
  else (some M_2))
  else (bV_ (fX2_put x1 x2 M_2) fun M_5 =>
  some M_5)
def fX2_add_L15 (x1 : Int32) (x2 : Int32) (M : Mem) : Option (Mem) :=
  lt_ (setI M 5 8 ((gI M 5 8) + 1)) fun M_1 =>
  fX2_add_L25 x1 x2 M_1
def fX2_add (x1 : Int32) (x2 : Int32) (M : Mem) : Option (Mem) :=
  if (gI M 5 7) = 0 then (fX2_add_L15 x1 x2 M)
  else (if x1 = (gI M 5 9) then (fX2_add_L25 x1 x2 M)
  else (fX2_add_L15 x1 x2 M))
abbrev rm_X6_cutMatches : Room := { frames := 3, cells := 0, slots := 0, locals := 67 }
def fX6_cutMatches_L41 (k2 : Int32 → Mem → Option (Mem)) (x1 : Int32) (x2 : Int32) (M : Mem) : Option (Mem) :=
  lt_ (x1 + (mmax_ 1 x2)) fun x1_6 =>
  k2 x1_6 M
def fX6_cutMatches_H2 : Nat → Int32 → Mem → Option (Mem)
  | 0, _, _ => none
  | n + 1, x1, M => bI_ (fX5_size 3 M) fun v_2 M_1 =>
  if v_2 ≤ x1 then (some M_1)
  else (ga_ (gR M_1 0 5) fun ra_3 =>
  bI_ (fX0_longestFrom ra_3 3 x1 M_1) fun v_5 M_4 =>
  if v_5 ≤ 0 then (fX6_cutMatches_L41 (fX6_cutMatches_H2 n) x1 v_5 M_4)
  else (bV_ (fX2_add x1 (x1 + v_5) M_4) fun M_7 =>
  fX6_cutMatches_L41 (fX6_cutMatches_H2 n) x1 v_5 M_7))
def fX6_cutMatches (M : Mem) : Option (Mem) :=
  fX6_cutMatches_H2 FU 0 M
abbrev rm_X2_isOver : Room := { frames := 0, cells := 0, slots := 0, locals := 0 }
def fX2_isOver (M : Mem) : Option (Int32 × Mem) :=
  zr_ (gI M 5 4) M
abbrev rm_X6_isLetter : Room := { frames := 0, cells := 0, slots := 0, locals := 0 }
def fX6_isLetter_L24 (M : Mem) : Option (Int32 × Mem) :=
  zr_ 1 M
def fX6_isLetter_L12 (x0 : Int32) (M : Mem) : Option (Int32 × Mem) :=
  if x0 < 65 then (zr_ 0 M)
  else (if 90 < x0 then (zr_ 0 M)
  else (fX6_isLetter_L24 M))
def fX6_isLetter (x0 : Int32) (M : Mem) : Option (Int32 × Mem) :=
  if x0 < 97 then (fX6_isLetter_L12 x0 M)
  else (if x0 ≤ 122 then (fX6_isLetter_L24 M)
  else (fX6_isLetter_L12 x0 M))
abbrev rm_X6_isFigure : Room := { frames := 0, cells := 0, slots := 0, locals := 0 }
def fX6_isFigure (x0 : Int32) (M : Mem) : Option (Int32 × Mem) :=
  if x0 < 48 then (zr_ 0 M)
  else (if 57 < x0 then (zr_ 0 M)
  else (zr_ 1 M))
abbrev rm_X6_isOfWord : Room := { frames := 1, cells := 0, slots := 0, locals := 21 }
def fX6_isOfWord_L114 (M : Mem) : Option (Int32 × Mem) :=
  zr_ 1 M
def fX6_isOfWord_L87 (x2 : Int32) (x3 : Int32) (x4 : Int32) (M : Mem) : Option (Int32 × Mem) :=
  bI_ (fX6_isFigure x3 M) fun v_14 M_13 =>
  if v_14 = 0 then (zr_ 0 M_13)
  else (bI_ (fX6_isFigure x4 M_13) fun v_16 M_15 =>
  if v_16 = 0 then (zr_ 0 M_15)
  else (if x2 = 44 then (fX6_isOfWord_L114 M_15)
  else (if x2 = 46 then (fX6_isOfWord_L114 M_15)
  else (zr_ 0 M_15))))
def fX6_isOfWord_L81 (M : Mem) : Option (Int32 × Mem) :=
  zr_ 1 M
def fX6_isOfWord (x1 : Int32) (M : Mem) : Option (Int32 × Mem) :=
  bI_ (fX5_at 3 x1 M) fun v_2 M_1 =>
  bI_ (fX6_isLetter v_2 M_1) fun v_4 M_3 =>
  if v_4 = 0 then (bI_ (fX6_isFigure v_2 M_3) fun v_6 M_5 =>
  if v_6 = 0 then (if v_2 = 95 then (zr_ 1 M_5)
  else (bI_ (fX5_at 3 (x1 - 1) M_5) fun v_8 M_7 =>
  bI_ (fX5_at 3 (x1 + 1) M_7) fun v_10 M_9 =>
  bI_ (fX6_isLetter v_8 M_9) fun v_12 M_11 =>
  if v_12 = 0 then (fX6_isOfWord_L87 v_2 v_8 v_10 M_11)
  else (bI_ (fX6_isLetter v_10 M_11) fun v_18 M_17 =>
  if v_18 = 0 then (fX6_isOfWord_L87 v_2 v_8 v_10 M_17)
  else (if v_2 = 39 then (fX6_isOfWord_L81 M_17)
  else (if v_2 = 46 then (fX6_isOfWord_L81 M_17)
  else (zr_ 0 M_17))))))
  else (zr_ 1 M_5))
  else (zr_ 1 M_3)
abbrev rm_X6_isSolid : Room := { frames := 1, cells := 0, slots := 0, locals := 20 }
def fX6_isSolid (x0 : Int32) (M : Mem) : Option (Int32 × Mem) :=
  if x0 = (-1) then (zr_ 0 M)
  else (bI_ (fX6_isBlank x0 M) fun v_2 M_1 =>
  if v_2 = 0 then (zr_ 1 M_1)
  else (zr_ 0 M_1))
abbrev rm_X6_isOther : Room := { frames := 2, cells := 0, slots := 0, locals := 40 }
def fX6_isOther (x0 : Int32) (M : Mem) : Option (Int32 × Mem) :=
  bI_ (fX6_isSolid x0 M) fun v_2 M_1 =>
  if v_2 = 0 then (zr_ 0 M_1)
  else (bI_ (fX6_isLetter x0 M_1) fun v_4 M_3 =>
  if v_4 = 0 then (bI_ (fX6_isFigure x0 M_3) fun v_6 M_5 =>
  if v_6 = 0 then (zr_ 1 M_5)
  else (zr_ 0 M_5))
  else (zr_ 0 M_3))
abbrev rm_X6_isOfKind : Room := { frames := 3, cells := 0, slots := 0, locals := 60 }
def fX6_isOfKind_L52 (x2 : Int32) (M : Mem) : Option (Int32 × Mem) :=
  bI_ (fX5_at 3 x2 M) fun v_2 M_1 =>
  bI_ (fX6_isLetter v_2 M_1) fun v_4 M_3 =>
  zr_ v_4 M_3
def fX6_isOfKind_L82 (x2 : Int32) (M : Mem) : Option (Int32 × Mem) :=
  bI_ (fX5_at 3 x2 M) fun v_6 M_5 =>
  bI_ (fX6_isSolid v_6 M_5) fun v_8 M_7 =>
  zr_ v_8 M_7
def fX6_isOfKind (x1 : Int32) (x2 : Int32) (M : Mem) : Option (Int32 × Mem) :=
  if x1 = 0 then (fX6_isOfKind_L52 x2 M)
  else (if x1 = 1 then (fX6_isOfKind_L82 x2 M)
  else (if x1 = 2 then (bI_ (fX6_isOfWord x2 M) fun v_10 M_9 =>
  zr_ v_10 M_9)
  else (if x1 = 3 then (fX6_isOfKind_L82 x2 M)
  else (if x1 = 4 then (fX6_isOfKind_L82 x2 M)
  else (if x1 = 5 then (fX6_isOfKind_L52 x2 M)
  else (if x1 = 6 then (fX6_isOfKind_L52 x2 M)
  else (if x1 = 7 then (fX6_isOfKind_L82 x2 M)
  else (if x1 = 8 then (bI_ (fX5_at 3 x2 M) fun v_12 M_11 =>
  bI_ (fX6_isOther v_12 M_11) fun v_14 M_13 =>
  zr_ v_14 M_13)
  else (fX6_isOfKind_L82 x2 M)))))))))
abbrev rm_X6_endOfKind : Room := { frames := 4, cells := 0, slots := 0, locals := 82 }
def fX6_endOfKind_H2 : Nat → Int32 → Int32 → Mem → Option (Int32 × Mem)
  | 0, _, _, _ => none
  | n + 1, x1, x3, M => bI_ (fX5_size 3 M) fun v_2 M_1 =>
  if v_2 ≤ x3 then (some (x3, M_1))
  else (bI_ (fX6_isOfKind x1 x3 M_1) fun v_4 M_3 =>
  if v_4 = 0 then (some (x3, M_3))
  else (lt_ (x3 + 1) fun x3_5 =>
  (fX6_endOfKind_H2 n) x1 x3_5 M_3))
def fX6_endOfKind (x1 : Int32) (x2 : Int32) (M : Mem) : Option (Int32 × Mem) :=
  fX6_endOfKind_H2 FU x1 x2 M
abbrev rm_X6_isWebAt : Room := { frames := 1, cells := 0, slots := 0, locals := 21 }
def fX6_isWebAt (x1 : Int32) (M : Mem) : Option (Int32 × Mem) :=
  bI_ (fX5_at 3 x1 M) fun v_2 M_1 =>
  if v_2 = 119 then (bI_ (fX5_at 3 (x1 + 1) M_1) fun v_4 M_3 =>
  if v_4 = 119 then (bI_ (fX5_at 3 (x1 + 2) M_3) fun v_6 M_5 =>
  if v_6 = 119 then (bI_ (fX5_at 3 (x1 + 3) M_5) fun v_8 M_7 =>
  if v_8 = 46 then (zr_ 1 M_7)
  else (zr_ 0 M_7))
  else (zr_ 0 M_5))
  else (zr_ 0 M_3))
  else (zr_ 0 M_1)
abbrev rm_X6_isLinkAt : Room := { frames := 5, cells := 0, slots := 0, locals := 105 }
def fX6_isLinkAt_H50 : Nat → Int32 → Int32 → Mem → Option (Int32 × Mem)
  | 0, _, _, _ => none
  | n + 1, x2, x3, M => if (x2 - 1) ≤ x3 then (zr_ 0 M)
  else (bI_ (fX5_at 3 x3 M) fun v_5 M_4 =>
  if v_5 = 64 then (zr_ 1 M_4)
  else (lt_ (x3 + 1) fun x3_6 =>
  (fX6_isLinkAt_H50 n) x2 x3_6 M_4))
def fX6_isLinkAt_L46 (x1 : Int32) (x2 : Int32) (M : Mem) : Option (Int32 × Mem) :=
  lt_ (x1 + 1) fun x3_3 =>
  fX6_isLinkAt_H50 FU x2 x3_3 M
def fX6_isLinkAt_L22 (x1 : Int32) (M : Mem) : Option (Int32 × Mem) :=
  bI_ (fX6_endOfKind 1 x1 M) fun v_2 M_1 =>
  if (v_2 - x1) ≤ 4 then (fX6_isLinkAt_L46 x1 v_2 M_1)
  else (bI_ (fX6_isWebAt x1 M_1) fun v_8 M_7 =>
  if v_8 = 0 then (fX6_isLinkAt_L46 x1 v_2 M_7)
  else (zr_ 1 M_7))
def fX6_isLinkAt (x1 : Int32) (M : Mem) : Option (Int32 × Mem) :=
  if x1 ≤ 0 then (fX6_isLinkAt_L22 x1 M)
  else (bI_ (fX5_at 3 (x1 - 1) M) fun v_10 M_9 =>
  bI_ (fX6_isBlank v_10 M_9) fun v_12 M_11 =>
  if v_12 = 0 then (zr_ 0 M_11)
  else (fX6_isLinkAt_L22 x1 M_11))
abbrev rm_X6_cutPaths : Room := { frames := 3, cells := 0, slots := 0, locals := 67 }
def fX6_cutPaths_L31 (k4 : Int32 → Int32 → Int32 → Mem → Option (Mem)) (x1 : Int32) (x2 : Int32) (x3 : Int32) (M : Mem) : Option (Mem) :=
  lt_ (x3 + 1) fun x3_6 =>
  k4 x1 x2 x3_6 M
def fX6_cutPaths_H4 : Nat → Int32 → Int32 → Int32 → Mem → Option (Mem)
  | 0, _, _, _, _ => none
  | n + 1, x1, x2, x3, M => if x2 ≤ x3 then (bV_ (fX2_add x1 x2 M) fun M_2 =>
  some M_2)
  else (bI_ (fX5_at 3 x3 M) fun v_5 M_4 =>
  if v_5 = 47 then (bV_ (fX2_add x1 x3 M_4) fun M_7 =>
  fX6_cutPaths_L31 (fX6_cutPaths_H4 n) x1 x2 x3 M_7)
  else (fX6_cutPaths_L31 (fX6_cutPaths_H4 n) x1 x2 x3 M_4))
def fX6_cutPaths (x1 : Int32) (x2 : Int32) (M : Mem) : Option (Mem) :=
  lt_ (x1 + 1) fun x3_1 =>
  fX6_cutPaths_H4 FU x1 x2 x3_1 M
abbrev rm_X6_cutSizes : Room := { frames := 3, cells := 0, slots := 0, locals := 67 }
def fX6_cutSizes_H15 : Nat → Int32 → Int32 → Int32 → Mem → Option (Mem)
  | 0, _, _, _, _ => none
  | n + 1, x1, x5, x6, M => if x5 < x6 then (some M)
  else (bV_ (fX2_add x1 x6 M) fun M_3 =>
  lt_ (x6 + 1) fun x6_5 =>
  (fX6_cutSizes_H15 n) x1 x5 x6_5 M_3)
def fX6_cutSizes (x1 : Int32) (x2 : Int32) (x3 : Int32) (x4 : Int32) (M : Mem) : Option (Mem) :=
  lt_ (mmin_ x2 (x1 + x4)) fun x5_1 =>
  lt_ (x1 + x3) fun x6_2 =>
  fX6_cutSizes_H15 FU x1 x5_1 x6_2 M
abbrev rm_X1_tryPiece : Room := { frames := 0, cells := 0, slots := 0, locals := 0 }
def fX1_tryPiece_L92 (x1 : Int32) (x2 : Int32) (x4 : Int32) (x5 : Int32) (x6 : Int32) (M : Mem) : Option (Mem) :=
  if x6 = 0 then (some M)
  else (iast_ M 13 x1 x4 fun M_7 =>
  iast_ M_7 14 x1 x5 fun M_8 =>
  iast_ M_8 15 x1 x2 fun M_9 =>
  some M_9)
def fX1_tryPiece_L90 (x1 : Int32) (x2 : Int32) (x4 : Int32) (x5 : Int32) (y0 : Int32) (M : Mem) : Option (Mem) :=
  fX1_tryPiece_L92 x1 x2 x4 x5 y0 M
def fX1_tryPiece_L85 (x1 : Int32) (x2 : Int32) (x4 : Int32) (x5 : Int32) (M : Mem) : Option (Mem) :=
  fX1_tryPiece_L90 x1 x2 x4 x5 1 M
def fX1_tryPiece_L89 (x1 : Int32) (x2 : Int32) (x4 : Int32) (x5 : Int32) (M : Mem) : Option (Mem) :=
  fX1_tryPiece_L90 x1 x2 x4 x5 0 M
def fX1_tryPiece_L40 (x1 : Int32) (x2 : Int32) (x4 : Int32) (x5 : Int32) (y0 : Int32) (M : Mem) : Option (Mem) :=
  iald_ M 13 x1 fun v_6 =>
  if x4 = v_6 then (iald_ M 14 x1 fun v_10 =>
  if x5 < v_10 then (fX1_tryPiece_L85 x1 x2 x4 x5 M)
  else (iald_ M 14 x1 fun v_11 =>
  if x5 = v_11 then (iald_ M 15 x1 fun v_12 =>
  if x2 ≤ v_12 then (fX1_tryPiece_L89 x1 x2 x4 x5 M)
  else (fX1_tryPiece_L85 x1 x2 x4 x5 M))
  else (fX1_tryPiece_L89 x1 x2 x4 x5 M)))
  else (fX1_tryPiece_L92 x1 x2 x4 x5 y0 M)
def fX1_tryPiece (x1 : Int32) (x2 : Int32) (x3 : Int32) (M : Mem) : Option (Mem) :=
  iald_ M 13 (x1 + x2) fun v_1 =>
  lt_ (x3 + v_1) fun x4_2 =>
  iald_ M 14 (x1 + x2) fun v_3 =>
  lt_ (1 + v_3) fun x5_4 =>
  iald_ M 13 x1 fun v_5 =>
  if v_5 ≤ x4_2 then (fX1_tryPiece_L40 x1 x2 x4_2 x5_4 0 M)
  else (fX1_tryPiece_L40 x1 x2 x4_2 x5_4 1 M)
abbrev rm_X1_choose : Room := { frames := 2, cells := 0, slots := 0, locals := 45 }
def fX1_choose_L154 (a1 : Nat) (y0 : Int32) (y1 : Int32) (M : Mem) : Option (Mem) :=
  zast_ M 16 y1 y0 fun M_7 =>
  some M_7
def fX1_choose_L153 (a1 : Nat) (y0 : Int32) (M : Mem) : Option (Mem) :=
  fX1_choose_L154 a1 0 y0 M
def fX1_choose_L123 (k48 : Int32 → Int32 → Int32 → Int32 → Mem → Option (Mem)) (a1 : Nat) (x2 : Int32) (x3 : Int32) (x4 : Int32) (x5 : Int32) (M : Mem) : Option (Mem) :=
  lt_ (x5 + 1) fun x5_9 =>
  k48 x2 x3 x4 x5_9 M
def fX1_choose_L102 (k48 : Int32 → Int32 → Int32 → Int32 → Mem → Option (Mem)) (a1 : Nat) (x2 : Int32) (x3 : Int32) (x5 : Int32) (y0 : Int32) (M : Mem) : Option (Mem) :=
  iald_ M 11 x5 fun v_12 =>
  iald_ M 12 x5 fun v_13 =>
  bV_ (fX1_tryPiece x2 v_12 v_13 M) fun M_14 =>
  fX1_choose_L123 k48 a1 x2 x3 y0 x5 M_14
def fX1_choose_L97 (k48 : Int32 → Int32 → Int32 → Int32 → Mem → Option (Mem)) (a1 : Nat) (x2 : Int32) (x3 : Int32) (x5 : Int32) (M : Mem) : Option (Mem) :=
  fX1_choose_L102 k48 a1 x2 x3 x5 1 M
def fX1_choose_H48 (a1 : Nat) : Nat → Int32 → Int32 → Int32 → Int32 → Mem → Option (Mem)
  | 0, _, _, _, _, _ => none
  | n + 1, x2, x3, x4, x5, M => if (gI M 9 3) ≤ x5 then (iald_ M 15 x2 fun v_6 =>
  if v_6 = 1 then (if x4 = 0 then (fX1_choose_L154 a1 1 x2 M)
  else (fX1_choose_L153 a1 x2 M))
  else (fX1_choose_L153 a1 x2 M))
  else (iald_ M 11 x5 fun v_8 =>
  if (x3 - x2) < v_8 then (fX1_choose_L123 (fX1_choose_H48 a1 n) a1 x2 x3 x4 x5 M)
  else (bI_ (fX1_standsAt a1 x5 x2 M) fun v_11 M_10 =>
  if v_11 = 0 then (fX1_choose_L123 (fX1_choose_H48 a1 n) a1 x2 x3 x4 x5 M_10)
  else (if x4 = 0 then (iald_ M_10 11 x5 fun v_16 =>
  if v_16 = 1 then (fX1_choose_L97 (fX1_choose_H48 a1 n) a1 x2 x3 x5 M_10)
  else (fX1_choose_L102 (fX1_choose_H48 a1 n) a1 x2 x3 x5 0 M_10))
  else (fX1_choose_L97 (fX1_choose_H48 a1 n) a1 x2 x3 x5 M_10))))
def fX1_choose (a1 : Nat) (x2 : Int32) (x3 : Int32) (M : Mem) : Option (Mem) :=
  iald_ M 13 (x2 + 1) fun v_1 =>
  iast_ M 13 x2 ((gI M 9 4) + v_1) fun M_2 =>
  iald_ M_2 14 (x2 + 1) fun v_3 =>
  iast_ M_2 14 x2 (1 + v_3) fun M_4 =>
  iast_ M_4 15 x2 1 fun M_5 =>
  fX1_choose_H48 a1 FU x2 x3 0 0 M_5
abbrev rm_X1_solve : Room := { frames := 3, cells := 0, slots := 0, locals := 70 }
def fX1_solve_H37 (a1 : Nat) : Nat → Int32 → Int32 → Int32 → Mem → Option (Int32 × Mem)
  | 0, _, _, _, _ => none
  | n + 1, x2, x3, x4, M => if x4 < x2 then (iald_ M 13 x2 fun v_4 =>
  some (v_4, M))
  else (bV_ (fX1_choose a1 x4 x3 M) fun M_5 =>
  lt_ (x4 + (-1)) fun x4_7 =>
  (fX1_solve_H37 a1 n) x2 x3 x4_7 M_5)
def fX1_solve (a1 : Nat) (x2 : Int32) (x3 : Int32) (M : Mem) : Option (Int32 × Mem) :=
  if x2 < 0 then (some ((-1), M))
  else (if x3 < x2 then (some ((-1), M))
  else (if x3 ≤ 300 then (iast_ M 13 x3 0 fun M_1 =>
  iast_ M_1 14 x3 0 fun M_2 =>
  lt_ (x3 - 1) fun x4_3 =>
  fX1_solve_H37 a1 FU x2 x3 x4_3 M_2)
  else (some ((-1), M))))
abbrev rm_X1_isStrangeAt : Room := { frames := 0, cells := 0, slots := 0, locals := 0 }
def fX1_isStrangeAt (x1 : Int32) (M : Mem) : Option (Int32 × Mem) :=
  if x1 < 0 then (zr_ 0 M)
  else (if 300 < x1 then (zr_ 0 M)
  else (zald_ M 16 x1 fun v_1 =>
  if v_1 = 0 then (zr_ 0 M)
  else (zr_ 1 M)))
abbrev rm_X1_pieceAt : Room := { frames := 0, cells := 0, slots := 0, locals := 0 }
def fX1_pieceAt (x1 : Int32) (M : Mem) : Option (Int32 × Mem) :=
  if x1 < 0 then (some (0, M))
  else (if 300 < x1 then (some (0, M))
  else (iald_ M 15 x1 fun v_1 =>
  some (v_1, M)))
abbrev rm_X6_cutPieces : Room := { frames := 3, cells := 0, slots := 0, locals := 67 }
def fX6_cutPieces_L64 (k2 : Int32 → Int32 → Mem → Option (Mem)) (x2 : Int32) (x3 : Int32) (x4 : Int32) (M : Mem) : Option (Mem) :=
  bV_ (fX2_add x3 x4 M) fun M_7 =>
  k2 x2 x4 M_7
def fX6_cutPieces_H23 (k2 : Int32 → Int32 → Mem → Option (Mem)) : Nat → Int32 → Int32 → Int32 → Mem → Option (Mem)
  | 0, _, _, _, _ => none
  | n + 1, x2, x3, x4, M => if x2 ≤ x4 then (fX6_cutPieces_L64 k2 x2 x3 x4 M)
  else (bI_ (fX1_isStrangeAt x4 M) fun v_10 M_9 =>
  if v_10 = 0 then (fX6_cutPieces_L64 k2 x2 x3 x4 M_9)
  else (lt_ (x4 + 1) fun x4_11 =>
  (fX6_cutPieces_H23 k2 n) x2 x3 x4_11 M_9))
def fX6_cutPieces_H2 : Nat → Int32 → Int32 → Mem → Option (Mem)
  | 0, _, _, _ => none
  | n + 1, x2, x3, M => if x2 ≤ x3 then (some M)
  else (lt_ (x3 + 1) fun x4_1 =>
  bI_ (fX1_isStrangeAt x3 M) fun v_3 M_2 =>
  if v_3 = 0 then (bI_ (fX1_pieceAt x3 M_2) fun v_5 M_4 =>
  lt_ (mmax_ x4_1 (x3 + v_5)) fun x4_6 =>
  fX6_cutPieces_L64 (fX6_cutPieces_H2 n) x2 x3 x4_6 M_4)
  else (fX6_cutPieces_H23 (fX6_cutPieces_H2 n) FU x2 x3 x4_1 M_2))
def fX6_cutPieces (x1 : Int32) (x2 : Int32) (M : Mem) : Option (Mem) :=
  fX6_cutPieces_H2 FU x2 x1 M
abbrev rm_X6_cutPairs : Room := { frames := 3, cells := 0, slots := 0, locals := 67 }
def fX6_cutPairs_H18 : Nat → Int32 → Int32 → Mem → Option (Mem)
  | 0, _, _, _ => none
  | n + 1, x2, x3, M => if x2 ≤ (x3 + 1) then (some M)
  else (bV_ (fX2_add x3 (x3 + 2) M) fun M_1 =>
  lt_ (x3 + 1) fun x3_3 =>
  (fX6_cutPairs_H18 n) x2 x3_3 M_1)
def fX6_cutPairs_L16 (x1 : Int32) (x2 : Int32) (M : Mem) : Option (Mem) :=
  fX6_cutPairs_H18 FU x2 x1 M
def fX6_cutPairs (x1 : Int32) (x2 : Int32) (M : Mem) : Option (Mem) :=
  if (x2 - x1) = 1 then (bV_ (fX2_add x1 x2 M) fun M_4 =>
  fX6_cutPairs_L16 x1 x2 M_4)
  else (fX6_cutPairs_L16 x1 x2 M)
abbrev rm_X6_cutRow : Room := { frames := 4, cells := 0, slots := 0, locals := 94 }
def fX6_cutRow_L81 (M : Mem) : Option (Mem) :=
  some M
def fX6_cutRow_H48 : Nat → Int32 → Int32 → Int32 → Int32 → Mem → Option (Mem)
  | 0, _, _, _, _, _ => none
  | n + 1, x3, x4, x5, x6, M => if x3 ≤ x6 then (fX6_cutRow_L81 M)
  else (bI_ (fX2_isOver M) fun v_4 M_3 =>
  if v_4 = 0 then (bV_ (fX6_cutSizes x6 x3 x4 x5 M_3) fun M_5 =>
  lt_ (x6 + 1) fun x6_7 =>
  (fX6_cutRow_H48 n) x3 x4 x5 x6_7 M_5)
  else (fX6_cutRow_L81 M_3))
def fX6_cutRow (x1 : Int32) (x2 : Int32) (x3 : Int32) (x4 : Int32) (x5 : Int32) (M : Mem) : Option (Mem) :=
  if x1 = 4 then (bV_ (fX6_cutPaths x2 x3 M) fun M_1 =>
  some M_1)
  else (if x1 = 5 then (fX6_cutRow_H48 FU x3 x4 x5 x2 M)
  else (if x1 = 6 then (bV_ (fX6_cutSizes x2 x3 x4 x5 M) fun M_8 =>
  some M_8)
  else (if x1 = 7 then (bI_ (fX1_solve 3 x2 x3 M) fun v_11 M_10 =>
  bV_ (fX6_cutPieces x2 x3 M_10) fun M_12 =>
  some M_12)
  else (if x1 = 8 then (bV_ (fX6_cutPairs x2 x3 M) fun M_14 =>
  some M_14)
  else (bV_ (fX2_add x2 x3 M) fun M_16 =>
  some M_16)))))
abbrev rm_X6_cutRows : Room := { frames := 6, cells := 0, slots := 0, locals := 128 }
def fX6_cutRows_L89 (k3 : Int32 → Int32 → Int32 → Int32 → Mem → Option (Mem)) (x1 : Int32) (x2 : Int32) (x3 : Int32) (x4 : Int32) (x6 : Int32) (M : Mem) : Option (Mem) :=
  lt_ ((mmax_ x4 x6) + 1) fun x4_7 =>
  k3 x1 x2 x3 x4_7 M
def fX6_cutRows_L64 (k3 : Int32 → Int32 → Int32 → Int32 → Mem → Option (Mem)) (x1 : Int32) (x2 : Int32) (x3 : Int32) (x4 : Int32) (y0 : Int32) (M : Mem) : Option (Mem) :=
  bI_ (fX6_endOfKind y0 x4 M) fun v_6 M_5 =>
  if v_6 ≤ x4 then (fX6_cutRows_L89 k3 x1 x2 x3 x4 v_6 M_5)
  else (bV_ (fX6_cutRow x1 x4 v_6 x2 x3 M_5) fun M_8 =>
  fX6_cutRows_L89 k3 x1 x2 x3 x4 v_6 M_8)
def fX6_cutRows_L51 (k3 : Int32 → Int32 → Int32 → Int32 → Mem → Option (Mem)) (x1 : Int32) (x2 : Int32) (x3 : Int32) (x4 : Int32) (y0 : Int32) (M : Mem) : Option (Mem) :=
  if y0 = 0 then (fX6_cutRows_L64 k3 x1 x2 x3 x4 x1 M)
  else (fX6_cutRows_L64 k3 x1 x2 x3 x4 1 M)
def fX6_cutRows_L50 (k3 : Int32 → Int32 → Int32 → Int32 → Mem → Option (Mem)) (x1 : Int32) (x2 : Int32) (x3 : Int32) (x4 : Int32) (M : Mem) : Option (Mem) :=
  fX6_cutRows_L51 k3 x1 x2 x3 x4 0 M
def fX6_cutRows_H3 : Nat → Int32 → Int32 → Int32 → Int32 → Mem → Option (Mem)
  | 0, _, _, _, _, _ => none
  | n + 1, x1, x2, x3, x4, M => bI_ (fX5_size 3 M) fun v_2 M_1 =>
  if v_2 ≤ x4 then (some M_1)
  else (bI_ (fX2_isOver M_1) fun v_4 M_3 =>
  if v_4 = 0 then (if x1 = 2 then (if (gI M_3 0 6) = 0 then (fX6_cutRows_L50 (fX6_cutRows_H3 n) x1 x2 x3 x4 M_3)
  else (bI_ (fX6_isLinkAt x4 M_3) fun v_11 M_10 =>
  if v_11 = 0 then (fX6_cutRows_L50 (fX6_cutRows_H3 n) x1 x2 x3 x4 M_10)
  else (fX6_cutRows_L51 (fX6_cutRows_H3 n) x1 x2 x3 x4 1 M_10)))
  else (fX6_cutRows_L50 (fX6_cutRows_H3 n) x1 x2 x3 x4 M_3))
  else (some M_3))
def fX6_cutRows (x1 : Int32) (x2 : Int32) (x3 : Int32) (M : Mem) : Option (Mem) :=
  fX6_cutRows_H3 FU x1 x2 x3 0 M
abbrev rm_X2_size : Room := { frames := 0, cells := 0, slots := 0, locals := 0 }
def fX2_size (M : Mem) : Option (Int32 × Mem) :=
  some ((gI M 5 3), M)
abbrev rm_X6_tokens : Room := { frames := 7, cells := 0, slots := 0, locals := 154 }
def fX6_tokens_L102 (M : Mem) : Option (Int32 × Mem) :=
  bI_ (fX2_isOver M) fun v_6 M_5 =>
  if v_6 = 0 then (bI_ (fX2_size M_5) fun v_8 M_7 =>
  some (v_8, M_7))
  else (bV_ (fX2_clear M_5) fun M_9 =>
  some ((-3), M_9))
def fX6_tokens_L80 (x1 : Int32) (x2 : Int32) (x3 : Int32) (y0 : Int32) (M : Mem) : Option (Int32 × Mem) :=
  bV_ (fX2_begin y0 M) fun M_1 =>
  if x1 = 3 then (bV_ (fX6_cutMatches M_1) fun M_11 =>
  fX6_tokens_L102 M_11)
  else (bV_ (fX6_cutRows x1 x2 x3 M_1) fun M_3 =>
  fX6_tokens_L102 M_3)
def fX6_tokens_L75 (x1 : Int32) (x2 : Int32) (x3 : Int32) (M : Mem) : Option (Int32 × Mem) :=
  fX6_tokens_L80 x1 x2 x3 1 M
def fX6_tokens_L61 (x1 : Int32) (x2 : Int32) (x3 : Int32) (x4 : Int32) (M : Mem) : Option (Int32 × Mem) :=
  if x4 = 0 then (if x1 = 4 then (fX6_tokens_L75 x1 x2 x3 M)
  else (fX6_tokens_L80 x1 x2 x3 0 M))
  else (fX6_tokens_L75 x1 x2 x3 M)
def fX6_tokens_L28 (x1 : Int32) (x2 : Int32) (x3 : Int32) (y0 : Int32) (M : Mem) : Option (Int32 × Mem) :=
  if y0 = 0 then (fX6_tokens_L61 x1 x2 x3 y0 M)
  else (if x2 < 1 then (some ((-1), M))
  else (if 300 < x2 then (some ((-1), M))
  else (if x3 < x2 then (some ((-1), M))
  else (if x3 ≤ 300 then (fX6_tokens_L61 x1 x2 x3 y0 M)
  else (some ((-1), M))))))
def fX6_tokens_L23 (x1 : Int32) (x2 : Int32) (x3 : Int32) (M : Mem) : Option (Int32 × Mem) :=
  fX6_tokens_L28 x1 x2 x3 1 M
def fX6_tokens (x1 : Int32) (x2 : Int32) (x3 : Int32) (M : Mem) : Option (Int32 × Mem) :=
  if x1 < 0 then (some ((-1), M))
  else (if x1 ≤ 8 then (if x1 = 5 then (fX6_tokens_L23 x1 x2 x3 M)
  else (if x1 = 6 then (fX6_tokens_L23 x1 x2 x3 M)
  else (fX6_tokens_L28 x1 x2 x3 0 M)))
  else (some ((-1), M)))
abbrev rm_X2_has : Room := { frames := 0, cells := 0, slots := 0, locals := 0 }
def fX2_has (x1 : Int32) (M : Mem) : Option (Int32 × Mem) :=
  if x1 < 0 then (zr_ 0 M)
  else (if (gI M 5 3) ≤ x1 then (zr_ 0 M)
  else (zr_ 1 M))
abbrev rm_X2_placeOf : Room := { frames := 1, cells := 0, slots := 0, locals := 21 }
def fX2_placeOf (x1 : Int32) (M : Mem) : Option (Int32 × Mem) :=
  bI_ (fX2_has x1 M) fun v_2 M_1 =>
  if v_2 = 0 then (some ((-1), M_1))
  else (iald_ M_1 6 x1 fun v_3 =>
  some (v_3, M_1))
abbrev rm_X2_endOf : Room := { frames := 1, cells := 0, slots := 0, locals := 21 }
def fX2_endOf (x1 : Int32) (M : Mem) : Option (Int32 × Mem) :=
  bI_ (fX2_has x1 M) fun v_2 M_1 =>
  if v_2 = 0 then (some ((-1), M_1))
  else (iald_ M_1 7 x1 fun v_3 =>
  some (v_3, M_1))
abbrev rm_X2_positionOf : Room := { frames := 1, cells := 0, slots := 0, locals := 21 }
def fX2_positionOf (x1 : Int32) (M : Mem) : Option (Int32 × Mem) :=
  bI_ (fX2_has x1 M) fun v_2 M_1 =>
  if v_2 = 0 then (some ((-1), M_1))
  else (iald_ M_1 8 x1 fun v_3 =>
  some (v_3, M_1))
abbrev rm_X6_token : Room := { frames := 2, cells := 0, slots := 0, locals := 42 }
def fX6_token (x1 : Int32) (x2 : Int32) (M : Mem) : Option (Int32 × Mem) :=
  bI_ (fX2_has x1 M) fun v_2 M_1 =>
  if v_2 = 0 then (some ((-1), M_1))
  else (if x2 = 0 then (bI_ (fX2_placeOf x1 M_1) fun v_4 M_3 =>
  some (v_4, M_3))
  else (if x2 = 1 then (bI_ (fX2_endOf x1 M_1) fun v_6 M_5 =>
  some (v_6, M_5))
  else (if x2 = 2 then (bI_ (fX2_positionOf x1 M_1) fun v_8 M_7 =>
  some (v_8, M_7))
  else (some ((-1), M_1)))))
abbrev rm_X2_lengthOf : Room := { frames := 2, cells := 0, slots := 0, locals := 42 }
def fX2_lengthOf (x1 : Int32) (M : Mem) : Option (Int32 × Mem) :=
  bI_ (fX2_endOf x1 M) fun v_2 M_1 =>
  bI_ (fX2_placeOf x1 M_1) fun v_4 M_3 =>
  some ((v_2 - v_4), M_3)
abbrev rm_X6_sign : Room := { frames := 3, cells := 0, slots := 0, locals := 63 }
def fX6_sign (x1 : Int32) (x2 : Int32) (M : Mem) : Option (Int32 × Mem) :=
  bI_ (fX2_has x1 M) fun v_2 M_1 =>
  if v_2 = 0 then (some ((-1), M_1))
  else (if x2 < 0 then (some ((-1), M_1))
  else (bI_ (fX2_lengthOf x1 M_1) fun v_4 M_3 =>
  if x2 < v_4 then (bI_ (fX2_placeOf x1 M_3) fun v_6 M_5 =>
  bI_ (fX5_at 3 (v_6 + x2) M_5) fun v_8 M_7 =>
  some (v_8, M_7))
  else (some ((-1), M_3))))
abbrev rm_X6_same : Room := { frames := 3, cells := 0, slots := 0, locals := 63 }
def fX6_same_H50 : Nat → Int32 → Int32 → Int32 → Int32 → Mem → Option (Int32 × Mem)
  | 0, _, _, _, _, _ => none
  | n + 1, x1, x2, x3, x4, M => if x3 ≤ x4 then (some (1, M))
  else (bI_ (fX2_placeOf x1 M) fun v_10 M_9 =>
  bI_ (fX5_at 3 (v_10 + x4) M_9) fun v_12 M_11 =>
  bI_ (fX2_placeOf x2 M_11) fun v_14 M_13 =>
  bI_ (fX5_at 3 (v_14 + x4) M_13) fun v_16 M_15 =>
  if v_12 = v_16 then (lt_ (x4 + 1) fun x4_17 =>
  (fX6_same_H50 n) x1 x2 x3 x4_17 M_15)
  else (some (0, M_15)))
def fX6_same (x1 : Int32) (x2 : Int32) (M : Mem) : Option (Int32 × Mem) :=
  bI_ (fX2_has x1 M) fun v_2 M_1 =>
  if v_2 = 0 then (some ((-1), M_1))
  else (bI_ (fX2_has x2 M_1) fun v_4 M_3 =>
  if v_4 = 0 then (some ((-1), M_3))
  else (bI_ (fX2_lengthOf x1 M_3) fun v_6 M_5 =>
  bI_ (fX2_lengthOf x2 M_5) fun v_8 M_7 =>
  if v_6 = v_8 then (fX6_same_H50 FU x1 x2 v_6 0 M_7)
  else (some (0, M_7))))
abbrev rm_X6_cost : Room := { frames := 5, cells := 0, slots := 0, locals := 105 }
def fX6_cost_L54 (x1 : Int32) (x3 : Int32) (M : Mem) : Option (Int32 × Mem) :=
  bI_ (fX6_endOfKind 1 x1 M) fun v_6 M_5 =>
  bI_ (fX1_solve 3 x3 v_6 M_5) fun v_8 M_7 =>
  some (v_8, M_7)
def fX6_cost_H28 : Nat → Int32 → Int32 → Mem → Option (Int32 × Mem)
  | 0, _, _, _ => none
  | n + 1, x1, x3, M => if x3 ≤ 0 then (fX6_cost_L54 x1 x3 M)
  else (bI_ (fX5_at 3 (x3 - 1) M) fun v_10 M_9 =>
  bI_ (fX6_isSolid v_10 M_9) fun v_12 M_11 =>
  if v_12 = 0 then (fX6_cost_L54 x1 x3 M_11)
  else (lt_ (x3 + (-1)) fun x3_13 =>
  (fX6_cost_H28 n) x1 x3_13 M_11))
def fX6_cost (x1 : Int32) (M : Mem) : Option (Int32 × Mem) :=
  bI_ (fX5_at 3 x1 M) fun v_2 M_1 =>
  if v_2 = (-1) then (some ((-1), M_1))
  else (bI_ (fX6_isBlank v_2 M_1) fun v_4 M_3 =>
  if v_4 = 0 then (fX6_cost_H28 FU x1 x1 M_3)
  else (some ((-2), M_3)))
abbrev rm_X6_match : Room := { frames := 2, cells := 0, slots := 0, locals := 53 }
def fX6_match (x1 : Int32) (M : Mem) : Option (Int32 × Mem) :=
  bI_ (fX5_at 3 x1 M) fun v_2 M_1 =>
  if v_2 = (-1) then (some ((-1), M_1))
  else (ga_ (gR M_1 0 5) fun ra_3 =>
  bI_ (fX0_longestFrom ra_3 3 x1 M_1) fun v_5 M_4 =>
  some (v_5, M_4))
abbrev rm_X1_size : Room := { frames := 0, cells := 0, slots := 0, locals := 0 }
def fX1_size (M : Mem) : Option (Int32 × Mem) :=
  some ((gI M 9 3), M)
abbrev rm_X6_count : Room := { frames := 1, cells := 0, slots := 0, locals := 20 }
def fX6_count (x1 : Int32) (M : Mem) : Option (Int32 × Mem) :=
  if x1 = 0 then (bI_ (fX5_size 3 M) fun v_2 M_1 =>
  some (v_2, M_1))
  else (if x1 = 1 then (bI_ (fX2_size M) fun v_4 M_3 =>
  some (v_4, M_3))
  else (if x1 = 2 then (bI_ (fX5_size 1 M) fun v_6 M_5 =>
  some (v_6, M_5))
  else (if x1 = 3 then (ga_ (gR M 0 5) fun ra_7 =>
  bI_ (fX0_atoms ra_7 M) fun v_9 M_8 =>
  some (v_9, M_8))
  else (if x1 = 4 then (bI_ (fX1_size M) fun v_11 M_10 =>
  some (v_11, M_10))
  else (some ((-1), M))))))
abbrev rm_X7_isIn : Room := { frames := 0, cells := 0, slots := 0, locals := 0 }
def fX7_isIn (x0 : Int32) (x1 : Int32) (x2 : Int32) (M : Mem) : Option (Int32 × Mem) :=
  if x0 < x1 then (zr_ 0 M)
  else (if x2 < x0 then (zr_ 0 M)
  else (zr_ 1 M))
abbrev rm_X7_isLetter : Room := { frames := 1, cells := 0, slots := 0, locals := 22 }
def fX7_isLetter_L22 (M : Mem) : Option (Int32 × Mem) :=
  zr_ 1 M
def fX7_isLetter (x0 : Int32) (M : Mem) : Option (Int32 × Mem) :=
  bI_ (fX7_isIn x0 97 122 M) fun v_2 M_1 =>
  if v_2 = 0 then (bI_ (fX7_isIn x0 65 90 M_1) fun v_4 M_3 =>
  if v_4 = 0 then (zr_ 0 M_3)
  else (fX7_isLetter_L22 M_3))
  else (fX7_isLetter_L22 M_1)
abbrev rm_X7_isFigure : Room := { frames := 1, cells := 0, slots := 0, locals := 22 }
def fX7_isFigure (x0 : Int32) (M : Mem) : Option (Int32 × Mem) :=
  bI_ (fX7_isIn x0 48 57 M) fun v_2 M_1 =>
  zr_ v_2 M_1
abbrev rm_X7_isBlank : Room := { frames := 0, cells := 0, slots := 0, locals := 0 }
def fX7_isBlank_L18 (M : Mem) : Option (Int32 × Mem) :=
  zr_ 1 M
def fX7_isBlank (x0 : Int32) (M : Mem) : Option (Int32 × Mem) :=
  if x0 = 32 then (fX7_isBlank_L18 M)
  else (if x0 = 9 then (fX7_isBlank_L18 M)
  else (if x0 = 10 then (fX7_isBlank_L18 M)
  else (zr_ 0 M)))
abbrev rm_X7_isOther : Room := { frames := 2, cells := 0, slots := 0, locals := 42 }
def fX7_isOther (x0 : Int32) (M : Mem) : Option (Int32 × Mem) :=
  bI_ (fX7_isLetter x0 M) fun v_2 M_1 =>
  if v_2 = 0 then (bI_ (fX7_isFigure x0 M_1) fun v_4 M_3 =>
  if v_4 = 0 then (bI_ (fX7_isBlank x0 M_3) fun v_6 M_5 =>
  if v_6 = 0 then (zr_ 1 M_5)
  else (zr_ 0 M_5))
  else (zr_ 0 M_3))
  else (zr_ 0 M_1)
abbrev rm_X7_feed : Room := { frames := 1, cells := 0, slots := 0, locals := 22 }
def fX7_feed_H30 : Nat → Int32 → Int64 → Int32 → Mem → Option (Int32 × Mem)
  | 0, _, _, _, _ => none
  | n + 1, x1, x2, x4, M => if x1 ≤ x4 then (some ((gI M 50 1), M))
  else (iast_ M 51 (gI M 50 1) ((((shr6 x2 (8 * x4)) : Int64).toInt32) &&& 255) fun M_3 =>
  lt_ (setI M_3 50 1 ((gI M_3 50 1) + 1)) fun M_4 =>
  lt_ (x4 + 1) fun x4_5 =>
  (fX7_feed_H30 n) x1 x2 x4_5 M_4)
def fX7_feed (x1 : Int32) (x2 : Int64) (M : Mem) : Option (Int32 × Mem) :=
  bI_ (fX7_isIn x1 1 8 M) fun v_2 M_1 =>
  if v_2 = 0 then (some ((-1), M_1))
  else (if ((gI M_1 50 1) + x1) ≤ 300 then (fX7_feed_H30 FU x1 x2 0 M_1)
  else (some ((-3), M_1)))
abbrev rm_X7_text : Room := { frames := 0, cells := 0, slots := 0, locals := 0 }
def fX7_text_H20 : Nat → Int32 → Mem → Option (Int32 × Mem)
  | 0, _, _ => none
  | n + 1, x1, M => if (gI M 50 3) ≤ x1 then (some ((gI M 50 3), M))
  else (iald_ M 51 x1 fun v_4 =>
  iast_ M 53 x1 v_4 fun M_5 =>
  lt_ (x1 + 1) fun x1_6 =>
  (fX7_text_H20 n) x1_6 M_5)
def fX7_text (M : Mem) : Option (Int32 × Mem) :=
  lt_ (setI M 50 3 (gI M 50 1)) fun M_1 =>
  lt_ (setI M_1 50 1 0) fun M_2 =>
  lt_ (setI M_2 50 12 0) fun M_3 =>
  fX7_text_H20 FU 0 M_3
abbrev rm_X7_peek : Room := { frames := 0, cells := 0, slots := 0, locals := 0 }
def fX7_peek (M : Mem) : Option (Int32 × Mem) :=
  if (gI M 50 1) ≤ (gI M 50 37) then (some ((-1), M))
  else (iald_ M 51 (gI M 50 37) fun v_1 =>
  some (v_1, M))
abbrev rm_X7_begins : Room := { frames := 0, cells := 0, slots := 0, locals := 0 }
def fX7_begins (M : Mem) : Option (Mem) :=
  zast_ M 80 (gI M 50 36) 1 fun M_1 =>
  last_ M_1 81 (gI M_1 50 36) 0 fun M_2 =>
  last_ M_2 82 (gI M_2 50 36) 0 fun M_3 =>
  sz_ M_3 50 32 0 fun M_4 =>
  some M_4
abbrev rm_X7_opens : Room := { frames := 1, cells := 0, slots := 0, locals := 20 }
def fX7_opens (M : Mem) : Option (Mem) :=
  zast_ M 77 (gI M 50 36) 0 fun M_1 =>
  zast_ M_1 76 (gI M_1 50 36) 0 fun M_2 =>
  last_ M_2 78 (gI M_2 50 36) 0 fun M_3 =>
  last_ M_3 79 (gI M_3 50 36) 0 fun M_4 =>
  bV_ (fX7_begins M_4) fun M_5 =>
  some M_5
abbrev rm_X7_joins : Room := { frames := 0, cells := 0, slots := 0, locals := 0 }
def fX7_joins_L127 (y0 : Int64) (y1 : Int32) (M : Mem) : Option (Mem) :=
  last_ M 82 y1 y0 fun M_4 =>
  zald_ M_4 80 (gI M_4 50 36) fun v_5 =>
  zast_ M_4 80 (gI M_4 50 36) (v_5 &&& (gI M_4 50 33)) fun M_6 =>
  sz_ M_6 50 32 0 fun M_7 =>
  some M_7
def fX7_joins_L89 (y0 : Int64) (y1 : Int64) (y2 : Int32) (M : Mem) : Option (Mem) :=
  last_ M 81 y2 (y1 ||| y0) fun M_3 =>
  if (gI M_3 50 33) = 0 then (fX7_joins_L127 (gJ M_3 50 35) (gI M_3 50 36) M_3)
  else (lald_ M_3 82 (gI M_3 50 36) fun v_8 =>
  fX7_joins_L127 (v_8 ||| (gJ M_3 50 35)) (gI M_3 50 36) M_3)
def fX7_joins_L51 (k10 : Int32 → Mem → Option (Mem)) (x1 : Int32) (y0 : Int64) (y1 : Int64) (y2 : Int32) (M : Mem) : Option (Mem) :=
  last_ M 75 y2 (y1 ||| y0) fun M_11 =>
  lt_ (x1 + 1) fun x1_12 =>
  k10 x1_12 M_11
def fX7_joins_H10 : Nat → Int32 → Mem → Option (Mem)
  | 0, _, _ => none
  | n + 1, x1, M => if (gI M 50 22) ≤ x1 then (lald_ M 81 (gI M 50 36) fun v_1 =>
  zald_ M 80 (gI M 50 36) fun v_2 =>
  if v_2 = 0 then (fX7_joins_L89 0 v_1 (gI M 50 36) M)
  else (fX7_joins_L89 (gJ M 50 34) v_1 (gI M 50 36) M))
  else (lald_ M 75 x1 fun v_9 =>
  lald_ M 82 (gI M 50 36) fun v_10 =>
  if (lg_cmp ((shr6 v_10 x1) &&& 1) 1) = 0 then (fX7_joins_L51 (fX7_joins_H10 n) x1 (gJ M 50 34) v_9 x1 M)
  else (fX7_joins_L51 (fX7_joins_H10 n) x1 0 v_9 x1 M))
def fX7_joins (M : Mem) : Option (Mem) :=
  if (gI M 50 32) = 0 then (some M)
  else (fX7_joins_H10 FU 0 M)
abbrev rm_X7_closes : Room := { frames := 1, cells := 0, slots := 0, locals := 21 }
def fX7_closes (M : Mem) : Option (Mem) :=
  bV_ (fX7_joins M) fun M_1 =>
  zald_ M_1 76 (gI M_1 50 36) fun v_3 =>
  zald_ M_1 80 (gI M_1 50 36) fun v_4 =>
  zast_ M_1 76 (gI M_1 50 36) (v_3 ||| v_4) fun M_5 =>
  lald_ M_5 78 (gI M_5 50 36) fun v_6 =>
  lald_ M_5 81 (gI M_5 50 36) fun v_7 =>
  last_ M_5 78 (gI M_5 50 36) (v_6 ||| v_7) fun M_8 =>
  lald_ M_8 79 (gI M_8 50 36) fun v_9 =>
  lald_ M_8 82 (gI M_8 50 36) fun v_10 =>
  last_ M_8 79 (gI M_8 50 36) (v_9 ||| v_10) fun M_11 =>
  some M_11
abbrev rm_X7_piece : Room := { frames := 1, cells := 0, slots := 0, locals := 21 }
def fX7_piece (x1 : Int32) (x2 : Int64) (x4 : Int64) (M : Mem) : Option (Mem) :=
  bV_ (fX7_joins M) fun M_1 =>
  sz_ M_1 50 32 1 fun M_3 =>
  sz_ M_3 50 33 x1 fun M_4 =>
  lt_ (setJ M_4 50 34 x2) fun M_5 =>
  lt_ (setJ M_5 50 35 x4) fun M_6 =>
  some M_6
abbrev rm_X7_takes : Room := { frames := 0, cells := 0, slots := 0, locals := 0 }
def fX7_takes (x1 : Int32) (x2 : Int32) (M : Mem) : Option (Mem) :=
  lald_ M 74 ((4 * x1) + (x2 / 64)) fun v_1 =>
  last_ M 74 ((4 * x1) + (x2 / 64)) (v_1 ||| (shl6 1 (x2 - x2 / 64 * 64))) fun M_2 =>
  some M_2
abbrev rm_X7_atom : Room := { frames := 0, cells := 0, slots := 0, locals := 0 }
def fX7_atom_H2 : Nat → Int32 → Mem → Option (Mem)
  | 0, _, _ => none
  | n + 1, x1, M => if 4 ≤ x1 then (last_ M 75 (gI M 50 22) 0 fun M_1 =>
  lt_ (setI M_1 50 22 ((gI M_1 50 22) + 1)) fun M_2 =>
  some M_2)
  else (last_ M 74 ((4 * (gI M 50 22)) + x1) 0 fun M_3 =>
  lt_ (x1 + 1) fun x1_4 =>
  (fX7_atom_H2 n) x1_4 M_3)
def fX7_atom (M : Mem) : Option (Mem) :=
  fX7_atom_H2 FU 0 M
abbrev rm_X7_signOfSet : Room := { frames := 1, cells := 0, slots := 0, locals := 20 }
def fX7_signOfSet_L110 (x2 : Int32) (y0 : Int32) (y1 : Int32) (M : Mem) : Option (Int32 × Mem) :=
  lt_ (setI M 50 37 (y1 + y0)) fun M_4 =>
  zr_ x2 M_4
def fX7_signOfSet_L95 (y0 : Int32) (M : Mem) : Option (Int32 × Mem) :=
  if y0 = 0 then (fX7_signOfSet_L110 y0 0 (gI M 50 37) M)
  else (fX7_signOfSet_L110 y0 1 (gI M 50 37) M)
def fX7_signOfSet_L94 (M : Mem) : Option (Int32 × Mem) :=
  fX7_signOfSet_L95 0 M
def fX7_signOfSet_L46 (y0 : Int32) (y1 : Int32) (M : Mem) : Option (Int32 × Mem) :=
  lt_ (setI M 50 37 (y1 + y0)) fun M_9 =>
  if (gI M_9 50 38) < 0 then (zr_ 0 M_9)
  else (zr_ 1 M_9)
def fX7_signOfSet (M : Mem) : Option (Int32 × Mem) :=
  bI_ (fX7_peek M) fun v_2 M_1 =>
  if v_2 = 92 then (lt_ (setI M_1 50 37 ((gI M_1 50 37) + 1)) fun M_5 =>
  bI_ (fX7_peek M_5) fun v_7 M_6 =>
  lt_ (setI M_6 50 38 v_7) fun M_8 =>
  if 0 ≤ (gI M_8 50 38) then (fX7_signOfSet_L46 1 (gI M_8 50 37) M_8)
  else (fX7_signOfSet_L46 0 (gI M_8 50 37) M_8))
  else (lt_ (setI M_1 50 38 v_2) fun M_3 =>
  if v_2 < 0 then (fX7_signOfSet_L94 M_3)
  else (if v_2 = 93 then (fX7_signOfSet_L94 M_3)
  else (if v_2 = 94 then (fX7_signOfSet_L94 M_3)
  else (if v_2 = 45 then (fX7_signOfSet_L94 M_3)
  else (fX7_signOfSet_L95 1 M_3)))))
abbrev rm_X7_set : Room := { frames := 2, cells := 0, slots := 0, locals := 42 }
def fX7_set_H168 : Nat → Int32 → Int32 → Int32 → Mem → Option (Int32 × Mem)
  | 0, _, _, _, _ => none
  | n + 1, x1, x2, x4, M => if 4 ≤ x4 then (zr_ 1 M)
  else (if x2 = 0 then (zr_ 1 M)
  else (lald_ M 74 ((4 * x1) + x4) fun v_5 =>
  last_ M 74 ((4 * x1) + x4) (v_5 ^^^ (-1)) fun M_6 =>
  lt_ (x4 + 1) fun x4_7 =>
  (fX7_set_H168 n) x1 x2 x4_7 M_6))
def fX7_set_L151 (k35 : Int32 → Int32 → Int32 → Mem → Option (Int32 × Mem)) (x1 : Int32) (x2 : Int32) (y0 : Int32) (M : Mem) : Option (Int32 × Mem) :=
  k35 x1 x2 y0 M
def fX7_set_H117 (k35 : Int32 → Int32 → Int32 → Mem → Option (Int32 × Mem)) : Nat → Int32 → Int32 → Int32 → Int32 → Mem → Option (Int32 × Mem)
  | 0, _, _, _, _, _ => none
  | n + 1, x1, x2, x5, x6, M => if x5 < x6 then (bI_ (fX7_peek M) fun v_14 M_13 =>
  if v_14 = 93 then (fX7_set_L151 k35 x1 x2 0 M_13)
  else (fX7_set_L151 k35 x1 x2 1 M_13))
  else (bV_ (fX7_takes x1 x6 M) fun M_15 =>
  lt_ (x6 + 1) fun x6_17 =>
  (fX7_set_H117 k35 n) x1 x2 x5 x6_17 M_15)
def fX7_set_L113 (k35 : Int32 → Int32 → Int32 → Mem → Option (Int32 × Mem)) (x1 : Int32) (x2 : Int32) (x4 : Int32) (x5 : Int32) (M : Mem) : Option (Int32 × Mem) :=
  fX7_set_H117 k35 FU x1 x2 x5 x4 M
def fX7_set_H35 : Nat → Int32 → Int32 → Int32 → Mem → Option (Int32 × Mem)
  | 0, _, _, _, _ => none
  | n + 1, x1, x2, x3, M => if x3 = 0 then (lt_ (setI M 50 37 ((gI M 50 37) + 1)) fun M_4 =>
  fX7_set_H168 FU x1 x2 0 M_4)
  else (bI_ (fX7_signOfSet M) fun v_9 M_8 =>
  if v_9 = 0 then (zr_ 0 M_8)
  else (lt_ (gI M_8 50 38) fun x4_10 =>
  bI_ (fX7_peek M_8) fun v_12 M_11 =>
  if v_12 = 45 then (lt_ (setI M_11 50 37 ((gI M_11 50 37) + 1)) fun M_18 =>
  lt_ (gI M_18 50 37) fun x6_19 =>
  bI_ (fX7_signOfSet M_18) fun v_21 M_20 =>
  if v_21 = 0 then (zr_ 0 M_20)
  else (lt_ (gI M_20 50 38) fun x5_22 =>
  if x4_10 ≤ x5_22 then (fX7_set_L113 (fX7_set_H35 n) x1 x2 x4_10 x5_22 M_20)
  else (lt_ (setI M_20 50 37 x6_19) fun M_23 =>
  zr_ 0 M_23)))
  else (fX7_set_L113 (fX7_set_H35 n) x1 x2 x4_10 x4_10 M_11)))
def fX7_set_L29 (x1 : Int32) (x2 : Int32) (y0 : Int32) (y1 : Int32) (M : Mem) : Option (Int32 × Mem) :=
  lt_ (setI M 50 37 (y1 + y0)) fun M_3 =>
  fX7_set_H35 FU x1 x2 1 M_3
def fX7_set_L14 (x1 : Int32) (y0 : Int32) (M : Mem) : Option (Int32 × Mem) :=
  if y0 = 0 then (fX7_set_L29 x1 y0 0 (gI M 50 37) M)
  else (fX7_set_L29 x1 y0 1 (gI M 50 37) M)
def fX7_set (x1 : Int32) (M : Mem) : Option (Int32 × Mem) :=
  bI_ (fX7_peek M) fun v_2 M_1 =>
  if v_2 = 94 then (fX7_set_L14 x1 1 M_1)
  else (fX7_set_L14 x1 0 M_1)
abbrev rm_X7_plain : Room := { frames := 3, cells := 0, slots := 0, locals := 68 }
def fX7_plain_L162 (x2 : Int32) (M : Mem) : Option (Int32 × Mem) :=
  bV_ (fX7_piece 0 (shl6 1 x2) (shl6 1 x2) M) fun M_7 =>
  zr_ 1 M_7
def fX7_plain_L110 (k90 : Int32 → Int32 → Mem → Option (Int32 × Mem)) (x2 : Int32) (x3 : Int32) (M : Mem) : Option (Int32 × Mem) :=
  lt_ (x3 + 1) fun x3_18 =>
  k90 x2 x3_18 M
def fX7_plain_H90 : Nat → Int32 → Int32 → Mem → Option (Int32 × Mem)
  | 0, _, _, _ => none
  | n + 1, x2, x3, M => if 256 ≤ x3 then (fX7_plain_L162 x2 M)
  else (bI_ (fX7_isBlank x3 M) fun v_17 M_16 =>
  if v_17 = 0 then (bV_ (fX7_takes x2 x3 M_16) fun M_19 =>
  fX7_plain_L110 (fX7_plain_H90 n) x2 x3 M_19)
  else (fX7_plain_L110 (fX7_plain_H90 n) x2 x3 M_16))
def fX7_plain (x1 : Int32) (M : Mem) : Option (Int32 × Mem) :=
  if (gI M 50 22) = 60 then (zr_ 0 M)
  else (if x1 = 124 then (zr_ 0 M)
  else (if x1 = 42 then (zr_ 0 M)
  else (if x1 = 43 then (zr_ 0 M)
  else (if x1 = 63 then (zr_ 0 M)
  else (if x1 = 93 then (zr_ 0 M)
  else (if x1 = 41 then (zr_ 0 M)
  else (lt_ (gI M 50 22) fun x2_1 =>
  bV_ (fX7_atom M) fun M_2 =>
  lt_ (setI M_2 50 37 ((gI M_2 50 37) + 1)) fun M_4 =>
  if x1 = 91 then (bI_ (fX7_set x2_1 M_4) fun v_22 M_21 =>
  if v_22 = 0 then (zr_ 0 M_21)
  else (fX7_plain_L162 x2_1 M_21))
  else (if x1 = 46 then (fX7_plain_H90 FU x2_1 0 M_4)
  else (if x1 = 92 then (bI_ (fX7_peek M_4) fun v_10 M_9 =>
  if 0 ≤ v_10 then (bI_ (fX7_peek M_9) fun v_12 M_11 =>
  bV_ (fX7_takes x2_1 v_12 M_11) fun M_13 =>
  lt_ (setI M_13 50 37 ((gI M_13 50 37) + 1)) fun M_15 =>
  fX7_plain_L162 x2_1 M_15)
  else (zr_ 0 M_9))
  else (bV_ (fX7_takes x2_1 x1 M_4) fun M_5 =>
  fX7_plain_L162 x2_1 M_5))))))))))
abbrev rm_X7_reads : Room := { frames := 4, cells := 0, slots := 0, locals := 91 }
def fX7_reads_L324 (k19 : Mem → Option (Int32 × Mem)) (M : Mem) : Option (Int32 × Mem) :=
  k19 M
def fX7_reads_L314 (k19 : Mem → Option (Int32 × Mem)) (x1 : Int32) (M : Mem) : Option (Int32 × Mem) :=
  bI_ (fX7_plain x1 M) fun v_11 M_10 =>
  if v_11 = 0 then (zr_ 0 M_10)
  else (fX7_reads_L324 k19 M_10)
def fX7_reads_L149 (k19 : Mem → Option (Int32 × Mem)) (x1 : Int32) (M : Mem) : Option (Int32 × Mem) :=
  if x1 = 124 then (bV_ (fX7_closes M) fun M_29 =>
  bV_ (fX7_begins M_29) fun M_31 =>
  lt_ (setI M_31 50 37 ((gI M_31 50 37) + 1)) fun M_33 =>
  fX7_reads_L324 k19 M_33)
  else (if x1 = 40 then (if (gI M 50 36) = 8 then (zr_ 0 M)
  else (bV_ (fX7_joins M) fun M_23 =>
  lt_ (setI M_23 50 36 ((gI M_23 50 36) + 1)) fun M_25 =>
  bV_ (fX7_opens M_25) fun M_26 =>
  lt_ (setI M_26 50 37 ((gI M_26 50 37) + 1)) fun M_28 =>
  fX7_reads_L324 k19 M_28))
  else (if x1 = 41 then (if (gI M 50 36) ≤ 0 then (fX7_reads_L314 k19 x1 M)
  else (bV_ (fX7_closes M) fun M_12 =>
  lt_ (setI M_12 50 36 ((gI M_12 50 36) - 1)) fun M_14 =>
  sz_ M_14 50 32 1 fun M_15 =>
  zald_ M_15 76 ((gI M_15 50 36) + 1) fun v_16 =>
  sz_ M_15 50 33 v_16 fun M_17 =>
  lald_ M_17 78 ((gI M_17 50 36) + 1) fun v_18 =>
  lt_ (setJ M_17 50 34 v_18) fun M_19 =>
  lald_ M_19 79 ((gI M_19 50 36) + 1) fun v_20 =>
  lt_ (setJ M_19 50 35 v_20) fun M_21 =>
  lt_ (setI M_21 50 37 ((gI M_21 50 37) + 1)) fun M_22 =>
  fX7_reads_L324 k19 M_22))
  else (fX7_reads_L314 k19 x1 M)))
def fX7_reads_L128 (k19 : Mem → Option (Int32 × Mem)) (y0 : Int32) (y1 : Int32) (M : Mem) : Option (Int32 × Mem) :=
  sz_ M 50 33 (y1 ||| y0) fun M_34 =>
  bV_ (fX7_joins M_34) fun M_35 =>
  lt_ (setI M_35 50 37 ((gI M_35 50 37) + 1)) fun M_37 =>
  fX7_reads_L324 k19 M_37
def fX7_reads_L112 (k19 : Mem → Option (Int32 × Mem)) (x1 : Int32) (M : Mem) : Option (Int32 × Mem) :=
  if x1 = 43 then (fX7_reads_L128 k19 0 (gI M 50 33) M)
  else (fX7_reads_L128 k19 1 (gI M 50 33) M)
def fX7_reads_L104 (k19 : Mem → Option (Int32 × Mem)) (k62 : Int32 → Int32 → Mem → Option (Int32 × Mem)) (x1 : Int32) (x2 : Int32) (y0 : Int64) (y1 : Int64) (y2 : Int32) (M : Mem) : Option (Int32 × Mem) :=
  last_ M 75 y2 (y1 ||| y0) fun M_39 =>
  lt_ (x2 + 1) fun x2_40 =>
  k62 x1 x2_40 M_39
def fX7_reads_H62 (k19 : Mem → Option (Int32 × Mem)) : Nat → Int32 → Int32 → Mem → Option (Int32 × Mem)
  | 0, _, _, _ => none
  | n + 1, x1, x2, M => if (gI M 50 22) ≤ x2 then (fX7_reads_L112 k19 x1 M)
  else (if x1 = 63 then (fX7_reads_L112 k19 x1 M)
  else (lald_ M 75 x2 fun v_38 =>
  if (lg_cmp ((shr6 (gJ M 50 35) x2) &&& 1) 1) = 0 then (fX7_reads_L104 k19 (fX7_reads_H62 k19 n) x1 x2 (gJ M 50 34) v_38 x2 M)
  else (fX7_reads_L104 k19 (fX7_reads_H62 k19 n) x1 x2 0 v_38 x2 M)))
def fX7_reads_L53 (k19 : Mem → Option (Int32 × Mem)) (x1 : Int32) (M : Mem) : Option (Int32 × Mem) :=
  if (gI M 50 32) = 0 then (fX7_reads_L149 k19 x1 M)
  else (fX7_reads_H62 k19 FU x1 0 M)
def fX7_reads_H19 : Nat → Mem → Option (Int32 × Mem)
  | 0, _ => none
  | n + 1, M => if (gI M 50 1) ≤ (gI M 50 37) then (bV_ (fX7_closes M) fun M_6 =>
  if (gI M_6 50 36) = 0 then (zr_ 1 M_6)
  else (zr_ 0 M_6))
  else (bI_ (fX7_peek M) fun v_9 M_8 =>
  if v_9 = 42 then (fX7_reads_L53 (fX7_reads_H19 n) v_9 M_8)
  else (if v_9 = 43 then (fX7_reads_L53 (fX7_reads_H19 n) v_9 M_8)
  else (if v_9 = 63 then (fX7_reads_L53 (fX7_reads_H19 n) v_9 M_8)
  else (fX7_reads_L149 (fX7_reads_H19 n) v_9 M_8))))
def fX7_reads (M : Mem) : Option (Int32 × Mem) :=
  lt_ (setI M 50 22 0) fun M_1 =>
  lt_ (setI M_1 50 36 0) fun M_2 =>
  lt_ (setI M_2 50 37 0) fun M_3 =>
  bV_ (fX7_opens M_3) fun M_4 =>
  fX7_reads_H19 FU M_4
abbrev rm_X7_pattern : Room := { frames := 5, cells := 0, slots := 0, locals := 113 }
def fX7_pattern_H59 : Nat → Int32 → Mem → Option (Int32 × Mem)
  | 0, _, _ => none
  | n + 1, x2, M => if 60 ≤ x2 then (lald_ M 78 0 fun v_5 =>
  lt_ (setJ M 50 20 v_5) fun M_6 =>
  lald_ M_6 79 0 fun v_7 =>
  lt_ (setJ M_6 50 21 v_7) fun M_8 =>
  some ((gI M_8 50 17), M_8))
  else (lald_ M 75 x2 fun v_9 =>
  last_ M 70 x2 v_9 fun M_10 =>
  lt_ (x2 + 1) fun x2_11 =>
  (fX7_pattern_H59 n) x2_11 M_10)
def fX7_pattern_H32 : Nat → Int32 → Mem → Option (Int32 × Mem)
  | 0, _, _ => none
  | n + 1, x2, M => if 240 ≤ x2 then (fX7_pattern_H59 FU 0 M)
  else (lald_ M 74 x2 fun v_12 =>
  last_ M 69 x2 v_12 fun M_13 =>
  lt_ (x2 + 1) fun x2_14 =>
  (fX7_pattern_H32 n) x2_14 M_13)
def fX7_pattern (M : Mem) : Option (Int32 × Mem) :=
  bI_ (fX7_reads M) fun v_2 M_1 =>
  lt_ (setI M_1 50 1 0) fun M_3 =>
  if v_2 = 0 then (some (((-10) - (gI M_3 50 37)), M_3))
  else (lt_ (setI M_3 50 17 (gI M_3 50 22)) fun M_4 =>
  fX7_pattern_H32 FU 0 M_4)
abbrev rm_X7_matches : Room := { frames := 0, cells := 0, slots := 0, locals := 0 }
def fX7_matches_L143 (k11 : Int32 → Int64 → Int32 → Int32 → Mem → Option (Int32 × Mem)) (x1 : Int32) (x5 : Int32) (x8 : Int64) (y0 : Int32) (M : Mem) : Option (Int32 × Mem) :=
  lt_ (x5 + 1) fun x5_2 =>
  k11 x1 x8 y0 x5_2 M
def fX7_matches_L114 (k11 : Int32 → Int64 → Int32 → Int32 → Mem → Option (Int32 × Mem)) (k35 : Int32 → Int64 → Int32 → Int32 → Int64 → Int64 → Int32 → Mem → Option (Int32 × Mem)) (x1 : Int32) (x2 : Int64) (x4 : Int32) (x5 : Int32) (x6 : Int64) (x8 : Int64) (x10 : Int32) (M : Mem) : Option (Int32 × Mem) :=
  lt_ (x10 + 1) fun x10_3 =>
  k35 x1 x2 x4 x5 x6 x8 x10_3 M
def fX7_matches_H35 (k11 : Int32 → Int64 → Int32 → Int32 → Mem → Option (Int32 × Mem)) : Nat → Int32 → Int64 → Int32 → Int32 → Int64 → Int64 → Int32 → Mem → Option (Int32 × Mem)
  | 0, _, _, _, _, _, _, _, _ => none
  | n + 1, x1, x2, x4, x5, x6, x8, x10, M => if (gI M 50 17) ≤ x10 then (if (lg_cmp (x6 &&& (gJ M 50 21)) 0) = 0 then (fX7_matches_L143 k11 x1 x5 x8 x4 M)
  else (fX7_matches_L143 k11 x1 x5 x8 ((x5 + 1) - x1) M))
  else (if (lg_cmp ((shr6 x2 x10) &&& 1) 1) = 0 then (iald_ M 53 x5 fun v_4 =>
  lald_ M 69 ((4 * x10) + (v_4 / 64)) fun v_5 =>
  iald_ M 53 x5 fun v_6 =>
  if (lg_cmp ((shr6 v_5 (v_6 - v_6 / 64 * 64)) &&& 1) 1) = 0 then (lt_ (x6 ||| (shl6 1 x10)) fun x6_7 =>
  lald_ M 70 x10 fun v_8 =>
  lt_ (x8 ||| v_8) fun x8_9 =>
  fX7_matches_L114 k11 (fX7_matches_H35 k11 n) x1 x2 x4 x5 x6_7 x8_9 x10 M)
  else (fX7_matches_L114 k11 (fX7_matches_H35 k11 n) x1 x2 x4 x5 x6 x8 x10 M))
  else (fX7_matches_L114 k11 (fX7_matches_H35 k11 n) x1 x2 x4 x5 x6 x8 x10 M))
def fX7_matches_H11 : Nat → Int32 → Int64 → Int32 → Int32 → Mem → Option (Int32 × Mem)
  | 0, _, _, _, _, _ => none
  | n + 1, x1, x2, x4, x5, M => if (gI M 50 3) ≤ x5 then (some (x4, M))
  else (if (lg_cmp x2 0) = 0 then (some (x4, M))
  else (fX7_matches_H35 (fX7_matches_H11 n) FU x1 x2 x4 x5 0 0 0 M))
def fX7_matches (x1 : Int32) (M : Mem) : Option (Int32 × Mem) :=
  lt_ (gJ M 50 20) fun x2_1 =>
  fX7_matches_H11 FU x1 x2_1 0 x1 M
abbrev rm_X7_match : Room := { frames := 1, cells := 0, slots := 0, locals := 30 }
def fX7_match (x1 : Int32) (M : Mem) : Option (Int32 × Mem) :=
  bI_ (fX7_isIn x1 0 ((gI M 50 3) - 1) M) fun v_2 M_1 =>
  if v_2 = 0 then (some ((-1), M_1))
  else (bI_ (fX7_matches x1 M_1) fun v_4 M_3 =>
  some (v_4, M_3))
abbrev rm_X7_word : Room := { frames := 1, cells := 0, slots := 0, locals := 22 }
def fX7_word_H190 : Nat → Int32 → Int32 → Int32 → Mem → Option (Int32 × Mem)
  | 0, _, _, _, _ => none
  | n + 1, x1, x2, x4, M => if x2 ≤ x4 then (iast_ M 57 (gI M 50 4) x2 fun M_5 =>
  iast_ M_5 58 (gI M_5 50 4) x1 fun M_6 =>
  lt_ (setI M_6 50 4 ((gI M_6 50 4) + 1)) fun M_7 =>
  some (((gI M_7 50 4) - 1), M_7))
  else (iald_ M 51 x4 fun v_8 =>
  iast_ M 56 ((12 * (gI M 50 4)) + x4) v_8 fun M_9 =>
  lt_ (x4 + 1) fun x4_10 =>
  (fX7_word_H190 n) x1 x2 x4_10 M_9)
def fX7_word_L161 (k84 : Int32 → Int32 → Int32 → Mem → Option (Int32 × Mem)) (x1 : Int32) (x2 : Int32) (x4 : Int32) (x5 : Int32) (M : Mem) : Option (Int32 × Mem) :=
  if x5 = 0 then (lt_ (x4 + 1) fun x4_12 =>
  k84 x1 x2 x4_12 M)
  else (some ((-2), M))
def fX7_word_L153 (k84 : Int32 → Int32 → Int32 → Mem → Option (Int32 × Mem)) (k114 : Int32 → Int32 → Int32 → Int32 → Int32 → Mem → Option (Int32 × Mem)) (x1 : Int32) (x2 : Int32) (x4 : Int32) (x6 : Int32) (y0 : Int32) (M : Mem) : Option (Int32 × Mem) :=
  lt_ (x6 + 1) fun x6_15 =>
  k114 x1 x2 x4 y0 x6_15 M
def fX7_word_H114 (k84 : Int32 → Int32 → Int32 → Mem → Option (Int32 × Mem)) : Nat → Int32 → Int32 → Int32 → Int32 → Int32 → Mem → Option (Int32 × Mem)
  | 0, _, _, _, _, _, _ => none
  | n + 1, x1, x2, x4, x5, x6, M => if x2 ≤ x6 then (fX7_word_L161 k84 x1 x2 x4 x5 M)
  else (if x5 = 0 then (fX7_word_L161 k84 x1 x2 x4 x5 M)
  else (iald_ M 56 ((12 * x4) + x6) fun v_13 =>
  iald_ M 51 x6 fun v_14 =>
  if v_13 = v_14 then (fX7_word_L153 k84 (fX7_word_H114 k84 n) x1 x2 x4 x6 1 M)
  else (fX7_word_L153 k84 (fX7_word_H114 k84 n) x1 x2 x4 x6 0 M)))
def fX7_word_L109 (k84 : Int32 → Int32 → Int32 → Mem → Option (Int32 × Mem)) (x1 : Int32) (x2 : Int32) (x4 : Int32) (y0 : Int32) (M : Mem) : Option (Int32 × Mem) :=
  fX7_word_H114 k84 FU x1 x2 x4 y0 0 M
def fX7_word_H84 : Nat → Int32 → Int32 → Int32 → Mem → Option (Int32 × Mem)
  | 0, _, _, _, _ => none
  | n + 1, x1, x2, x4, M => if (gI M 50 4) ≤ x4 then (if (gI M 50 4) = 40 then (some ((-3), M))
  else (fX7_word_H190 FU x1 x2 0 M))
  else (iald_ M 57 x4 fun v_11 =>
  if v_11 = x2 then (fX7_word_L109 (fX7_word_H84 n) x1 x2 x4 1 M)
  else (fX7_word_L109 (fX7_word_H84 n) x1 x2 x4 0 M))
def fX7_word_L75 (x1 : Int32) (x2 : Int32) (x3 : Int32) (M : Mem) : Option (Int32 × Mem) :=
  if x3 = 0 then (some ((-1), M))
  else (fX7_word_H84 FU x1 x2 0 M)
def fX7_word_L68 (k40 : Int32 → Int32 → Int32 → Int32 → Mem → Option (Int32 × Mem)) (x1 : Int32) (x2 : Int32) (x4 : Int32) (y0 : Int32) (M : Mem) : Option (Int32 × Mem) :=
  lt_ (x4 + 1) fun x4_19 =>
  k40 x1 x2 y0 x4_19 M
def fX7_word_H40 : Nat → Int32 → Int32 → Int32 → Int32 → Mem → Option (Int32 × Mem)
  | 0, _, _, _, _, _ => none
  | n + 1, x1, x2, x3, x4, M => if x2 ≤ x4 then (fX7_word_L75 x1 x2 x3 M)
  else (if x3 = 0 then (fX7_word_L75 x1 x2 x3 M)
  else (iald_ M 51 x4 fun v_16 =>
  bI_ (fX7_isBlank v_16 M) fun v_18 M_17 =>
  if v_18 = 0 then (fX7_word_L68 (fX7_word_H40 n) x1 x2 x4 1 M_17)
  else (fX7_word_L68 (fX7_word_H40 n) x1 x2 x4 0 M_17)))
def fX7_word_L36 (x1 : Int32) (x2 : Int32) (y0 : Int32) (M : Mem) : Option (Int32 × Mem) :=
  fX7_word_H40 FU x1 x2 y0 0 M
def fX7_word_L35 (x1 : Int32) (x2 : Int32) (M : Mem) : Option (Int32 × Mem) :=
  fX7_word_L36 x1 x2 0 M
def fX7_word (x1 : Int32) (M : Mem) : Option (Int32 × Mem) :=
  lt_ (gI M 50 1) fun x2_1 =>
  lt_ (setI M 50 1 0) fun M_2 =>
  bI_ (fX7_isIn x2_1 1 12 M_2) fun v_4 M_3 =>
  if v_4 = 0 then (fX7_word_L35 x1 x2_1 M_3)
  else (bI_ (fX7_isIn x1 1 1000 M_3) fun v_21 M_20 =>
  if v_21 = 0 then (fX7_word_L35 x1 x2_1 M_20)
  else (fX7_word_L36 x1 x2_1 1 M_20))
abbrev rm_X7_strange : Room := { frames := 1, cells := 0, slots := 0, locals := 22 }
def fX7_strange (x1 : Int32) (M : Mem) : Option (Int32 × Mem) :=
  bI_ (fX7_isIn x1 1 1000 M) fun v_2 M_1 =>
  if v_2 = 0 then (some ((-1), M_1))
  else (lt_ (gI M_1 50 8) fun x2_3 =>
  lt_ (setI M_1 50 8 x1) fun M_4 =>
  some (x2_3, M_4))
abbrev rm_X7_wordAt : Room := { frames := 0, cells := 0, slots := 0, locals := 0 }
def fX7_wordAt_L89 (k3 : Int32 → Int32 → Int32 → Int32 → Mem → Option (Int32 × Mem)) (x1 : Int32) (x2 : Int32) (x3 : Int32) (x4 : Int32) (x5 : Int32) (M : Mem) : Option (Int32 × Mem) :=
  if x5 = 0 then (lt_ (x4 + 1) fun x4_2 =>
  k3 x1 x2 x3 x4_2 M)
  else (some (x4, M))
def fX7_wordAt_L81 (k3 : Int32 → Int32 → Int32 → Int32 → Mem → Option (Int32 × Mem)) (k40 : Int32 → Int32 → Int32 → Int32 → Int32 → Int32 → Mem → Option (Int32 × Mem)) (x1 : Int32) (x2 : Int32) (x3 : Int32) (x4 : Int32) (x6 : Int32) (y0 : Int32) (M : Mem) : Option (Int32 × Mem) :=
  lt_ (x6 + 1) fun x6_5 =>
  k40 x1 x2 x3 x4 y0 x6_5 M
def fX7_wordAt_H40 (k3 : Int32 → Int32 → Int32 → Int32 → Mem → Option (Int32 × Mem)) : Nat → Int32 → Int32 → Int32 → Int32 → Int32 → Int32 → Mem → Option (Int32 × Mem)
  | 0, _, _, _, _, _, _, _ => none
  | n + 1, x1, x2, x3, x4, x5, x6, M => if x2 ≤ x6 then (fX7_wordAt_L89 k3 x1 x2 x3 x4 x5 M)
  else (if x5 = 0 then (fX7_wordAt_L89 k3 x1 x2 x3 x4 x5 M)
  else (iald_ M 56 ((12 * x4) + x6) fun v_3 =>
  iald_ M 53 (x1 + x6) fun v_4 =>
  if v_3 = v_4 then (fX7_wordAt_L81 k3 (fX7_wordAt_H40 k3 n) x1 x2 x3 x4 x6 1 M)
  else (fX7_wordAt_L81 k3 (fX7_wordAt_H40 k3 n) x1 x2 x3 x4 x6 0 M)))
def fX7_wordAt_L35 (k3 : Int32 → Int32 → Int32 → Int32 → Mem → Option (Int32 × Mem)) (x1 : Int32) (x2 : Int32) (x3 : Int32) (x4 : Int32) (y0 : Int32) (M : Mem) : Option (Int32 × Mem) :=
  fX7_wordAt_H40 k3 FU x1 x2 x3 x4 y0 0 M
def fX7_wordAt_L34 (k3 : Int32 → Int32 → Int32 → Int32 → Mem → Option (Int32 × Mem)) (x1 : Int32) (x2 : Int32) (x3 : Int32) (x4 : Int32) (M : Mem) : Option (Int32 × Mem) :=
  fX7_wordAt_L35 k3 x1 x2 x3 x4 0 M
def fX7_wordAt_H3 : Nat → Int32 → Int32 → Int32 → Int32 → Mem → Option (Int32 × Mem)
  | 0, _, _, _, _, _ => none
  | n + 1, x1, x2, x3, x4, M => if (gI M 50 4) ≤ x4 then (some ((-2), M))
  else (iald_ M 57 x4 fun v_1 =>
  if v_1 = x2 then (if x3 < (x1 + x2) then (fX7_wordAt_L34 (fX7_wordAt_H3 n) x1 x2 x3 x4 M)
  else (fX7_wordAt_L35 (fX7_wordAt_H3 n) x1 x2 x3 x4 1 M))
  else (fX7_wordAt_L34 (fX7_wordAt_H3 n) x1 x2 x3 x4 M))
def fX7_wordAt (x1 : Int32) (x2 : Int32) (x3 : Int32) (M : Mem) : Option (Int32 × Mem) :=
  fX7_wordAt_H3 FU x1 x2 x3 0 M
abbrev rm_X7_ways : Room := { frames := 1, cells := 0, slots := 0, locals := 26 }
def fX7_ways_L206 (k18 : Int32 → Int32 → Int32 → Mem → Option (Mem)) (k34 : Int32 → Int32 → Int32 → Int32 → Mem → Option (Mem)) (x1 : Int32) (x2 : Int32) (x3 : Int32) (x4 : Int32) (M : Mem) : Option (Mem) :=
  lt_ (x4 + (-1)) fun x4_17 =>
  k34 x1 x2 x3 x4_17 M
def fX7_ways_L182 (k18 : Int32 → Int32 → Int32 → Mem → Option (Mem)) (k34 : Int32 → Int32 → Int32 → Int32 → Mem → Option (Mem)) (x1 : Int32) (x2 : Int32) (x3 : Int32) (x4 : Int32) (x6 : Int32) (x7 : Int32) (M : Mem) : Option (Mem) :=
  iast_ M 90 x3 x6 fun M_14 =>
  iast_ M_14 91 x3 x7 fun M_15 =>
  iast_ M_15 92 x3 x4 fun M_16 =>
  fX7_ways_L206 k18 k34 x1 x2 x3 x4 M_16
def fX7_ways_L113 (k18 : Int32 → Int32 → Int32 → Mem → Option (Mem)) (k34 : Int32 → Int32 → Int32 → Int32 → Mem → Option (Mem)) (x1 : Int32) (x2 : Int32) (x3 : Int32) (x4 : Int32) (x6 : Int32) (M : Mem) : Option (Mem) :=
  iald_ M 90 (x3 + x4) fun v_9 =>
  lt_ (x6 + v_9) fun x6_10 =>
  iald_ M 91 (x3 + x4) fun v_11 =>
  lt_ (1 + v_11) fun x7_12 =>
  iald_ M 92 x3 fun v_13 =>
  if v_13 = 0 then (fX7_ways_L182 k18 k34 x1 x2 x3 x4 x6_10 x7_12 M)
  else (iald_ M 90 x3 fun v_18 =>
  if x6_10 < v_18 then (fX7_ways_L182 k18 k34 x1 x2 x3 x4 x6_10 x7_12 M)
  else (iald_ M 90 x3 fun v_19 =>
  if x6_10 = v_19 then (iald_ M 91 x3 fun v_20 =>
  if v_20 ≤ x7_12 then (fX7_ways_L206 k18 k34 x1 x2 x3 x4 M)
  else (fX7_ways_L182 k18 k34 x1 x2 x3 x4 x6_10 x7_12 M))
  else (fX7_ways_L206 k18 k34 x1 x2 x3 x4 M)))
def fX7_ways_L98 (k18 : Int32 → Int32 → Int32 → Mem → Option (Mem)) (k34 : Int32 → Int32 → Int32 → Int32 → Mem → Option (Mem)) (x1 : Int32) (x2 : Int32) (x3 : Int32) (x4 : Int32) (x5 : Int32) (y0 : Int32) (M : Mem) : Option (Mem) :=
  if x5 = (-2) then (if x4 = 1 then (fX7_ways_L113 k18 k34 x1 x2 x3 x4 y0 M)
  else (fX7_ways_L206 k18 k34 x1 x2 x3 x4 M))
  else (fX7_ways_L113 k18 k34 x1 x2 x3 x4 y0 M)
def fX7_ways_L84 (k18 : Int32 → Int32 → Int32 → Mem → Option (Mem)) (k34 : Int32 → Int32 → Int32 → Int32 → Mem → Option (Mem)) (x1 : Int32) (x2 : Int32) (x3 : Int32) (x4 : Int32) (x5 : Int32) (M : Mem) : Option (Mem) :=
  iald_ M 58 x5 fun v_8 =>
  fX7_ways_L98 k18 k34 x1 x2 x3 x4 x5 v_8 M
def fX7_ways_H34 (k18 : Int32 → Int32 → Int32 → Mem → Option (Mem)) : Nat → Int32 → Int32 → Int32 → Int32 → Mem → Option (Mem)
  | 0, _, _, _, _, _ => none
  | n + 1, x1, x2, x3, x4, M => if x4 < 1 then (lt_ (x3 + (-1)) fun x3_5 =>
  k18 x1 x2 x3_5 M)
  else (bI_ (fX7_wordAt x3 x4 x2 M) fun v_7 M_6 =>
  if v_7 = (-2) then (fX7_ways_L98 k18 (fX7_ways_H34 k18 n) x1 x2 x3 x4 v_7 (gI M_6 50 8) M_6)
  else (if 1 < x4 then (fX7_ways_L84 k18 (fX7_ways_H34 k18 n) x1 x2 x3 x4 v_7 M_6)
  else (iald_ M_6 58 v_7 fun v_21 =>
  if (gI M_6 50 8) ≤ v_21 then (fX7_ways_L98 k18 (fX7_ways_H34 k18 n) x1 x2 x3 x4 v_7 (gI M_6 50 8) M_6)
  else (fX7_ways_L84 k18 (fX7_ways_H34 k18 n) x1 x2 x3 x4 v_7 M_6))))
def fX7_ways_H18 : Nat → Int32 → Int32 → Int32 → Mem → Option (Mem)
  | 0, _, _, _, _ => none
  | n + 1, x1, x2, x3, M => if x3 < x1 then (some M)
  else (iast_ M 92 x3 0 fun M_4 =>
  fX7_ways_H34 (fX7_ways_H18 n) FU x1 x2 x3 12 M_4)
def fX7_ways (x1 : Int32) (x2 : Int32) (M : Mem) : Option (Mem) :=
  iast_ M 90 x2 0 fun M_1 =>
  iast_ M_1 91 x2 0 fun M_2 =>
  lt_ (x2 - 1) fun x3_3 =>
  fX7_ways_H18 FU x1 x2 x3_3 M_2
abbrev rm_X7_isSolid : Room := { frames := 1, cells := 0, slots := 0, locals := 22 }
def fX7_isSolid (x1 : Int32) (M : Mem) : Option (Int32 × Mem) :=
  bI_ (fX7_isIn x1 0 ((gI M 50 3) - 1) M) fun v_2 M_1 =>
  if v_2 = 0 then (zr_ 0 M_1)
  else (iald_ M_1 53 x1 fun v_3 =>
  bI_ (fX7_isBlank v_3 M_1) fun v_5 M_4 =>
  if v_5 = 0 then (zr_ 1 M_4)
  else (zr_ 0 M_4))
abbrev rm_X7_cost : Room := { frames := 2, cells := 0, slots := 0, locals := 53 }
def fX7_cost_H51 : Nat → Int32 → Int32 → Mem → Option (Int32 × Mem)
  | 0, _, _, _ => none
  | n + 1, x2, x3, M => bI_ (fX7_isSolid x3 M) fun v_9 M_8 =>
  if v_9 = 0 then (bV_ (fX7_ways x2 x3 M_8) fun M_10 =>
  iald_ M_10 90 x2 fun v_12 =>
  some (v_12, M_10))
  else (lt_ (x3 + 1) fun x3_13 =>
  (fX7_cost_H51 n) x2 x3_13 M_8)
def fX7_cost_H33 : Nat → Int32 → Int32 → Mem → Option (Int32 × Mem)
  | 0, _, _, _ => none
  | n + 1, x1, x2, M => bI_ (fX7_isSolid (x2 - 1) M) fun v_7 M_6 =>
  if v_7 = 0 then (fX7_cost_H51 FU x2 x1 M_6)
  else (lt_ (x2 + (-1)) fun x2_14 =>
  (fX7_cost_H33 n) x1 x2_14 M_6)
def fX7_cost (x1 : Int32) (M : Mem) : Option (Int32 × Mem) :=
  bI_ (fX7_isIn x1 0 ((gI M 50 3) - 1) M) fun v_2 M_1 =>
  if v_2 = 0 then (some ((-1), M_1))
  else (iald_ M_1 53 x1 fun v_3 =>
  bI_ (fX7_isBlank v_3 M_1) fun v_5 M_4 =>
  if v_5 = 0 then (fX7_cost_H33 FU x1 x1 M_4)
  else (some ((-2), M_4)))
abbrev rm_X7_links : Room := { frames := 0, cells := 0, slots := 0, locals := 0 }
def fX7_links_L12 (x1 : Int32) (y0 : Int32) (M : Mem) : Option (Int32 × Mem) :=
  sz_ M 50 9 x1 fun M_1 =>
  some (y0, M_1)
def fX7_links (x1 : Int32) (M : Mem) : Option (Int32 × Mem) :=
  if (gI M 50 9) = 0 then (fX7_links_L12 x1 0 M)
  else (fX7_links_L12 x1 1 M)
abbrev rm_X7_longest : Room := { frames := 1, cells := 0, slots := 0, locals := 22 }
def fX7_longest (x1 : Int32) (x2 : Int32) (M : Mem) : Option (Int32 × Mem) :=
  bI_ (fX7_isIn x1 1 300 M) fun v_2 M_1 =>
  if v_2 = 0 then (some ((-1), M_1))
  else (bI_ (fX7_isIn x2 0 1 M_1) fun v_4 M_3 =>
  if v_4 = 0 then (some ((-1), M_3))
  else (lt_ (gI M_3 50 10) fun x3_5 =>
  lt_ (setI M_3 50 10 x1) fun M_6 =>
  lt_ (setI M_6 50 11 x2) fun M_7 =>
  some (x3_5, M_7)))
abbrev rm_X7_lays : Room := { frames := 0, cells := 0, slots := 0, locals := 0 }
def fX7_lays (x1 : Int32) (x2 : Int32) (x3 : Int32) (M : Mem) : Option (Mem) :=
  if (gI M 50 12) = 400 then (sz_ M 50 13 1 fun M_5 =>
  some M_5)
  else (iast_ M 65 (gI M 50 12) x1 fun M_1 =>
  iast_ M_1 66 (gI M_1 50 12) x2 fun M_2 =>
  iast_ M_2 67 (gI M_2 50 12) x3 fun M_3 =>
  lt_ (setI M_3 50 12 ((gI M_3 50 12) + 1)) fun M_4 =>
  some M_4)
abbrev rm_X7_tokenOf : Room := { frames := 1, cells := 0, slots := 0, locals := 23 }
def fX7_tokenOf_L130 (k75 : Int32 → Int32 → Int32 → Int32 → Mem → Option (Mem)) (x1 : Int32) (x2 : Int32) (x3 : Int32) (x4 : Int32) (y0 : Int32) (y1 : Int32) (M : Mem) : Option (Mem) :=
  bV_ (fX7_lays y1 y0 (gI M 50 43) M) fun M_6 =>
  lt_ (x4 + (gI M_6 50 10)) fun x4_8 =>
  k75 x1 x2 x3 x4_8 M_6
def fX7_tokenOf_L101 (k75 : Int32 → Int32 → Int32 → Int32 → Mem → Option (Mem)) (x1 : Int32) (x2 : Int32) (x3 : Int32) (x4 : Int32) (y0 : Int32) (y1 : Int32) (M : Mem) : Option (Mem) :=
  lt_ (setI M 50 43 (y1 + y0)) fun M_5 =>
  if x2 ≤ (x4 + (gI M_5 50 10)) then (fX7_tokenOf_L130 k75 x1 x2 x3 x4 x2 x4 M_5)
  else (fX7_tokenOf_L130 k75 x1 x2 x3 x4 (x4 + (gI M_5 50 10)) x4 M_5)
def fX7_tokenOf_L100 (k75 : Int32 → Int32 → Int32 → Int32 → Mem → Option (Mem)) (x1 : Int32) (x2 : Int32) (x3 : Int32) (x4 : Int32) (y0 : Int32) (M : Mem) : Option (Mem) :=
  fX7_tokenOf_L101 k75 x1 x2 x3 x4 0 y0 M
def fX7_tokenOf_H75 : Nat → Int32 → Int32 → Int32 → Int32 → Mem → Option (Mem)
  | 0, _, _, _, _, _ => none
  | n + 1, x1, x2, x3, x4, M => if x2 ≤ x4 then (some M)
  else (if x4 ≤ x1 then (fX7_tokenOf_L100 (fX7_tokenOf_H75 n) x1 x2 x3 x4 (gI M 50 43) M)
  else (if x3 = 0 then (fX7_tokenOf_L101 (fX7_tokenOf_H75 n) x1 x2 x3 x4 1 (gI M 50 43) M)
  else (fX7_tokenOf_L100 (fX7_tokenOf_H75 n) x1 x2 x3 x4 (gI M 50 43) M)))
def fX7_tokenOf_L33 (x1 : Int32) (x2 : Int32) (x3 : Int32) (y0 : Int32) (y1 : Int32) (M : Mem) : Option (Mem) :=
  lt_ (setI M 50 43 (y1 + y0)) fun M_3 =>
  lt_ (setI M_3 50 44 x1) fun M_4 =>
  if (gI M_4 50 10) < (x2 - x1) then (if (gI M_4 50 11) = 0 then (fX7_tokenOf_H75 FU x1 x2 x3 x1 M_4)
  else (some M_4))
  else (bV_ (fX7_lays x1 x2 (gI M_4 50 43) M_4) fun M_9 =>
  some M_9)
def fX7_tokenOf_L32 (x1 : Int32) (x2 : Int32) (x3 : Int32) (y0 : Int32) (M : Mem) : Option (Mem) :=
  fX7_tokenOf_L33 x1 x2 x3 1 y0 M
def fX7_tokenOf (x1 : Int32) (x2 : Int32) (M : Mem) : Option (Mem) :=
  bI_ (fX7_isIn (gI M 50 42) 4 6 M) fun v_2 M_1 =>
  if v_2 = 0 then (fX7_tokenOf_L32 x1 x2 v_2 (gI M_1 50 43) M_1)
  else (if x1 = (gI M_1 50 44) then (fX7_tokenOf_L33 x1 x2 v_2 0 (gI M_1 50 43) M_1)
  else (fX7_tokenOf_L32 x1 x2 v_2 (gI M_1 50 43) M_1))
abbrev rm_X7_isOfWord : Room := { frames := 2, cells := 0, slots := 0, locals := 42 }
def fX7_isOfWord_L148 (M : Mem) : Option (Int32 × Mem) :=
  zr_ 1 M
def fX7_isOfWord_L116 (x2 : Int32) (x5 : Int32) (y0 : Int32) (M : Mem) : Option (Int32 × Mem) :=
  bI_ (fX7_isLetter x2 M) fun v_7 M_6 =>
  if v_7 = 0 then (bI_ (fX7_isFigure x2 M_6) fun v_9 M_8 =>
  if v_9 = 0 then (if x2 = 95 then (fX7_isOfWord_L148 M_8)
  else (if x5 = 0 then (if y0 = 0 then (zr_ 0 M_8)
  else (fX7_isOfWord_L148 M_8))
  else (fX7_isOfWord_L148 M_8)))
  else (fX7_isOfWord_L148 M_8))
  else (fX7_isOfWord_L148 M_6)
def fX7_isOfWord_L115 (x2 : Int32) (x5 : Int32) (M : Mem) : Option (Int32 × Mem) :=
  fX7_isOfWord_L116 x2 x5 0 M
def fX7_isOfWord_L96 (x2 : Int32) (x3 : Int32) (x4 : Int32) (x5 : Int32) (M : Mem) : Option (Int32 × Mem) :=
  bI_ (fX7_isFigure x3 M) fun v_5 M_4 =>
  if v_5 = 0 then (fX7_isOfWord_L115 x2 x5 M_4)
  else (bI_ (fX7_isFigure x4 M_4) fun v_11 M_10 =>
  if v_11 = 0 then (fX7_isOfWord_L115 x2 x5 M_10)
  else (fX7_isOfWord_L116 x2 x5 1 M_10))
def fX7_isOfWord_L82 (x2 : Int32) (x3 : Int32) (x4 : Int32) (y0 : Int32) (M : Mem) : Option (Int32 × Mem) :=
  if x2 = 44 then (fX7_isOfWord_L96 x2 x3 x4 y0 M)
  else (if x2 = 46 then (fX7_isOfWord_L96 x2 x3 x4 y0 M)
  else (fX7_isOfWord_L115 x2 y0 M))
def fX7_isOfWord_L81 (x2 : Int32) (x3 : Int32) (x4 : Int32) (M : Mem) : Option (Int32 × Mem) :=
  fX7_isOfWord_L82 x2 x3 x4 0 M
def fX7_isOfWord_L62 (x2 : Int32) (x3 : Int32) (x4 : Int32) (M : Mem) : Option (Int32 × Mem) :=
  bI_ (fX7_isLetter x3 M) fun v_3 M_2 =>
  if v_3 = 0 then (fX7_isOfWord_L81 x2 x3 x4 M_2)
  else (bI_ (fX7_isLetter x4 M_2) fun v_13 M_12 =>
  if v_13 = 0 then (fX7_isOfWord_L81 x2 x3 x4 M_12)
  else (fX7_isOfWord_L82 x2 x3 x4 1 M_12))
def fX7_isOfWord_L48 (x2 : Int32) (x3 : Int32) (y0 : Int32) (M : Mem) : Option (Int32 × Mem) :=
  if x2 = 39 then (fX7_isOfWord_L62 x2 x3 y0 M)
  else (if x2 = 46 then (fX7_isOfWord_L62 x2 x3 y0 M)
  else (fX7_isOfWord_L81 x2 x3 y0 M))
def fX7_isOfWord_L24 (x1 : Int32) (x2 : Int32) (y0 : Int32) (M : Mem) : Option (Int32 × Mem) :=
  if (gI M 50 3) ≤ (x1 + 1) then (fX7_isOfWord_L48 x2 y0 32 M)
  else (iald_ M 53 (x1 + 1) fun v_14 =>
  fX7_isOfWord_L48 x2 y0 v_14 M)
def fX7_isOfWord (x1 : Int32) (M : Mem) : Option (Int32 × Mem) :=
  iald_ M 53 x1 fun v_1 =>
  if x1 ≤ 0 then (fX7_isOfWord_L24 x1 v_1 32 M)
  else (iald_ M 53 (x1 - 1) fun v_15 =>
  fX7_isOfWord_L24 x1 v_1 v_15 M)
abbrev rm_X7_isOfRow : Room := { frames := 3, cells := 0, slots := 0, locals := 68 }
def fX7_isOfRow_L31 (x2 : Int32) (M : Mem) : Option (Int32 × Mem) :=
  bI_ (fX7_isLetter x2 M) fun v_3 M_2 =>
  zr_ v_3 M_2
def fX7_isOfRow_L77 (x2 : Int32) (M : Mem) : Option (Int32 × Mem) :=
  bI_ (fX7_isBlank x2 M) fun v_5 M_4 =>
  if v_5 = 0 then (zr_ 1 M_4)
  else (zr_ 0 M_4)
def fX7_isOfRow (x1 : Int32) (M : Mem) : Option (Int32 × Mem) :=
  iald_ M 53 x1 fun v_1 =>
  if (gI M 50 42) = 0 then (fX7_isOfRow_L31 v_1 M)
  else (if (gI M 50 42) = 5 then (fX7_isOfRow_L31 v_1 M)
  else (if (gI M 50 42) = 6 then (fX7_isOfRow_L31 v_1 M)
  else (if (gI M 50 42) = 8 then (bI_ (fX7_isOther v_1 M) fun v_9 M_8 =>
  zr_ v_9 M_8)
  else (if (gI M 50 42) = 2 then (if (gI M 50 9) = 0 then (bI_ (fX7_isOfWord x1 M) fun v_7 M_6 =>
  zr_ v_7 M_6)
  else (fX7_isOfRow_L77 v_1 M))
  else (fX7_isOfRow_L77 v_1 M)))))
abbrev rm_X7_isLink : Room := { frames := 0, cells := 0, slots := 0, locals := 0 }
def fX7_isLink_L102 (M : Mem) : Option (Int32 × Mem) :=
  zr_ 1 M
def fX7_isLink_L33 (k7 : Int32 → Int32 → Int32 → Int32 → Mem → Option (Int32 × Mem)) (x1 : Int32) (x2 : Int32) (x4 : Int32) (y0 : Int32) (y1 : Int32) (M : Mem) : Option (Int32 × Mem) :=
  lt_ (y1 ||| y0) fun x3_7 =>
  lt_ (x4 + 1) fun x4_8 =>
  k7 x1 x2 x3_7 x4_8 M
def fX7_isLink_H7 : Nat → Int32 → Int32 → Int32 → Int32 → Mem → Option (Int32 × Mem)
  | 0, _, _, _, _, _ => none
  | n + 1, x1, x2, x3, x4, M => if (x2 - 1) ≤ x4 then (if x3 = 0 then (if (x2 - x1) ≤ 4 then (zr_ 0 M)
  else (iald_ M 53 x1 fun v_2 =>
  if v_2 = 119 then (iald_ M 53 (x1 + 1) fun v_3 =>
  if v_3 = 119 then (iald_ M 53 (x1 + 2) fun v_4 =>
  if v_4 = 119 then (iald_ M 53 (x1 + 3) fun v_5 =>
  if v_5 = 46 then (fX7_isLink_L102 M)
  else (zr_ 0 M))
  else (zr_ 0 M))
  else (zr_ 0 M))
  else (zr_ 0 M)))
  else (fX7_isLink_L102 M))
  else (iald_ M 53 x4 fun v_6 =>
  if v_6 = 64 then (fX7_isLink_L33 (fX7_isLink_H7 n) x1 x2 x4 1 x3 M)
  else (fX7_isLink_L33 (fX7_isLink_H7 n) x1 x2 x4 0 x3 M))
def fX7_isLink (x1 : Int32) (x2 : Int32) (M : Mem) : Option (Int32 × Mem) :=
  lt_ (x1 + 1) fun x4_1 =>
  fX7_isLink_H7 FU x1 x2 0 x4_1 M
abbrev rm_X7_wordsWithin : Room := { frames := 3, cells := 0, slots := 0, locals := 68 }
def fX7_wordsWithin_L58 (k2 : Int32 → Int32 → Mem → Option (Mem)) (x2 : Int32) (y0 : Int32) (M : Mem) : Option (Mem) :=
  k2 x2 y0 M
def fX7_wordsWithin_L44 (k2 : Int32 → Int32 → Mem → Option (Mem)) (x2 : Int32) (x3 : Int32) (x4 : Int32) (M : Mem) : Option (Mem) :=
  if x4 ≤ x3 then (fX7_wordsWithin_L58 k2 x2 (x3 + 1) M)
  else (fX7_wordsWithin_L58 k2 x2 x4 M)
def fX7_wordsWithin_L31 (k2 : Int32 → Int32 → Mem → Option (Mem)) (x2 : Int32) (x3 : Int32) (x4 : Int32) (M : Mem) : Option (Mem) :=
  if x4 ≤ x3 then (fX7_wordsWithin_L44 k2 x2 x3 x4 M)
  else (bV_ (fX7_tokenOf x3 x4 M) fun M_1 =>
  fX7_wordsWithin_L44 k2 x2 x3 x4 M_1)
def fX7_wordsWithin_H10 (k2 : Int32 → Int32 → Mem → Option (Mem)) : Nat → Int32 → Int32 → Int32 → Mem → Option (Mem)
  | 0, _, _, _, _ => none
  | n + 1, x2, x3, x4, M => if x2 ≤ x4 then (fX7_wordsWithin_L31 k2 x2 x3 x4 M)
  else (bI_ (fX7_isOfWord x4 M) fun v_4 M_3 =>
  if v_4 = 0 then (fX7_wordsWithin_L31 k2 x2 x3 x4 M_3)
  else (lt_ (x4 + 1) fun x4_5 =>
  (fX7_wordsWithin_H10 k2 n) x2 x3 x4_5 M_3))
def fX7_wordsWithin_H2 : Nat → Int32 → Int32 → Mem → Option (Mem)
  | 0, _, _, _ => none
  | n + 1, x2, x3, M => if x2 ≤ x3 then (some M)
  else (fX7_wordsWithin_H10 (fX7_wordsWithin_H2 n) FU x2 x3 x3 M)
def fX7_wordsWithin (x1 : Int32) (x2 : Int32) (M : Mem) : Option (Mem) :=
  fX7_wordsWithin_H2 FU x2 x1 M
abbrev rm_X7_paths : Room := { frames := 2, cells := 0, slots := 0, locals := 47 }
def fX7_paths_L26 (k4 : Int32 → Int32 → Int32 → Mem → Option (Mem)) (x1 : Int32) (x2 : Int32) (x3 : Int32) (M : Mem) : Option (Mem) :=
  lt_ (x3 + 1) fun x3_5 =>
  k4 x1 x2 x3_5 M
def fX7_paths_H4 : Nat → Int32 → Int32 → Int32 → Mem → Option (Mem)
  | 0, _, _, _, _ => none
  | n + 1, x1, x2, x3, M => if x2 ≤ x3 then (bV_ (fX7_tokenOf x1 x2 M) fun M_2 =>
  some M_2)
  else (iald_ M 53 x3 fun v_4 =>
  if v_4 = 47 then (bV_ (fX7_tokenOf x1 x3 M) fun M_6 =>
  fX7_paths_L26 (fX7_paths_H4 n) x1 x2 x3 M_6)
  else (fX7_paths_L26 (fX7_paths_H4 n) x1 x2 x3 M))
def fX7_paths (x1 : Int32) (x2 : Int32) (M : Mem) : Option (Mem) :=
  lt_ (x1 + 1) fun x3_1 =>
  fX7_paths_H4 FU x1 x2 x3_1 M
abbrev rm_X7_isStrange : Room := { frames := 1, cells := 0, slots := 0, locals := 26 }
def fX7_isStrange (x1 : Int32) (x2 : Int32) (M : Mem) : Option (Int32 × Mem) :=
  iald_ M 92 x1 fun v_1 =>
  if v_1 = 1 then (bI_ (fX7_wordAt x1 1 x2 M) fun v_3 M_2 =>
  if v_3 = (-2) then (zr_ 1 M_2)
  else (zr_ 0 M_2))
  else (zr_ 0 M)
abbrev rm_X7_dictionary : Room := { frames := 2, cells := 0, slots := 0, locals := 53 }
def fX7_dictionary_L54 (k8 : Int32 → Int32 → Mem → Option (Mem)) (x2 : Int32) (x3 : Int32) (x4 : Int32) (M : Mem) : Option (Mem) :=
  bV_ (fX7_tokenOf x3 x4 M) fun M_7 =>
  k8 x2 x4 M_7
def fX7_dictionary_H32 (k8 : Int32 → Int32 → Mem → Option (Mem)) : Nat → Int32 → Int32 → Int32 → Mem → Option (Mem)
  | 0, _, _, _, _ => none
  | n + 1, x2, x3, x4, M => if x2 ≤ x4 then (fX7_dictionary_L54 k8 x2 x3 x4 M)
  else (bI_ (fX7_isStrange x4 x2 M) fun v_10 M_9 =>
  if v_10 = 0 then (fX7_dictionary_L54 k8 x2 x3 x4 M_9)
  else (lt_ (x4 + 1) fun x4_11 =>
  (fX7_dictionary_H32 k8 n) x2 x3 x4_11 M_9))
def fX7_dictionary_H8 : Nat → Int32 → Int32 → Mem → Option (Mem)
  | 0, _, _, _ => none
  | n + 1, x2, x3, M => if x2 ≤ x3 then (some M)
  else (iald_ M 92 x3 fun v_3 =>
  lt_ (x3 + v_3) fun x4_4 =>
  bI_ (fX7_isStrange x3 x2 M) fun v_6 M_5 =>
  if v_6 = 0 then (fX7_dictionary_L54 (fX7_dictionary_H8 n) x2 x3 x4_4 M_5)
  else (fX7_dictionary_H32 (fX7_dictionary_H8 n) FU x2 x3 x4_4 M_5))
def fX7_dictionary (x1 : Int32) (x2 : Int32) (M : Mem) : Option (Mem) :=
  bV_ (fX7_ways x1 x2 M) fun M_1 =>
  fX7_dictionary_H8 FU x2 x1 M_1
abbrev rm_X7_row : Room := { frames := 4, cells := 0, slots := 0, locals := 92 }
def fX7_row_L73 (x1 : Int32) (x2 : Int32) (M : Mem) : Option (Mem) :=
  bV_ (fX7_tokenOf x1 x2 M) fun M_1 =>
  some M_1
def fX7_row_L211 (x1 : Int32) (x2 : Int32) (M : Mem) : Option (Mem) :=
  bV_ (fX7_tokenOf x1 x2 M) fun M_7 =>
  some M_7
def fX7_row_L156 (M : Mem) : Option (Mem) :=
  some M
def fX7_row_L150 (k94 : Int32 → Int32 → Int32 → Int32 → Int32 → Mem → Option (Mem)) (x1 : Int32) (x2 : Int32) (x3 : Int32) (x4 : Int32) (x5 : Int32) (M : Mem) : Option (Mem) :=
  lt_ (x5 + 1) fun x5_11 =>
  k94 x1 x2 x3 x4 x5_11 M
def fX7_row_H117 (k94 : Int32 → Int32 → Int32 → Int32 → Int32 → Mem → Option (Mem)) : Nat → Int32 → Int32 → Int32 → Int32 → Int32 → Int32 → Mem → Option (Mem)
  | 0, _, _, _, _, _, _, _ => none
  | n + 1, x1, x2, x3, x4, x5, x6, M => if x4 < x6 then (fX7_row_L150 k94 x1 x2 x3 x4 x5 M)
  else (if x2 < (x5 + x6) then (fX7_row_L150 k94 x1 x2 x3 x4 x5 M)
  else (bV_ (fX7_tokenOf x5 (x5 + x6) M) fun M_12 =>
  lt_ (x6 + 1) fun x6_14 =>
  (fX7_row_H117 k94 n) x1 x2 x3 x4 x5 x6_14 M_12))
def fX7_row_L114 (k94 : Int32 → Int32 → Int32 → Int32 → Int32 → Mem → Option (Mem)) (x1 : Int32) (x2 : Int32) (x3 : Int32) (x4 : Int32) (x5 : Int32) (M : Mem) : Option (Mem) :=
  fX7_row_H117 k94 FU x1 x2 x3 x4 x5 x3 M
def fX7_row_H94 : Nat → Int32 → Int32 → Int32 → Int32 → Int32 → Mem → Option (Mem)
  | 0, _, _, _, _, _, _ => none
  | n + 1, x1, x2, x3, x4, x5, M => if x2 ≤ x5 then (fX7_row_L156 M)
  else (if (gI M 50 42) = 5 then (fX7_row_L114 (fX7_row_H94 n) x1 x2 x3 x4 x5 M)
  else (if x5 = x1 then (fX7_row_L114 (fX7_row_H94 n) x1 x2 x3 x4 x5 M)
  else (fX7_row_L156 M)))
def fX7_row_L91 (x1 : Int32) (x2 : Int32) (x3 : Int32) (x4 : Int32) (M : Mem) : Option (Mem) :=
  fX7_row_H94 FU x1 x2 x3 x4 x1 M
def fX7_row_H171 : Nat → Int32 → Int32 → Int32 → Mem → Option (Mem)
  | 0, _, _, _, _ => none
  | n + 1, x1, x2, x5, M => if x2 ≤ (x5 + 1) then (if x2 = (x1 + 1) then (bV_ (fX7_tokenOf x1 x2 M) fun M_17 =>
  some M_17)
  else (some M))
  else (bV_ (fX7_tokenOf x5 (x5 + 2) M) fun M_19 =>
  lt_ (x5 + 1) fun x5_21 =>
  (fX7_row_H171 n) x1 x2 x5_21 M_19)
def fX7_row (x1 : Int32) (x2 : Int32) (x3 : Int32) (x4 : Int32) (M : Mem) : Option (Mem) :=
  if (gI M 50 42) = 2 then (if (gI M 50 9) = 0 then (fX7_row_L73 x1 x2 M)
  else (bI_ (fX7_isLink x1 x2 M) fun v_4 M_3 =>
  if v_4 = 0 then (bV_ (fX7_wordsWithin x1 x2 M_3) fun M_5 =>
  some M_5)
  else (fX7_row_L73 x1 x2 M_3)))
  else (if (gI M 50 42) = 3 then (fX7_row_L211 x1 x2 M)
  else (if (gI M 50 42) = 4 then (bV_ (fX7_paths x1 x2 M) fun M_9 =>
  some M_9)
  else (if (gI M 50 42) = 5 then (fX7_row_L91 x1 x2 x3 x4 M)
  else (if (gI M 50 42) = 6 then (fX7_row_L91 x1 x2 x3 x4 M)
  else (if (gI M 50 42) = 7 then (bV_ (fX7_dictionary x1 x2 M) fun M_15 =>
  some M_15)
  else (if (gI M 50 42) = 8 then (fX7_row_H171 FU x1 x2 x1 M)
  else (fX7_row_L211 x1 x2 M)))))))
abbrev rm_X7_tokens : Room := { frames := 5, cells := 0, slots := 0, locals := 118 }
def fX7_tokens_L183 (y0 : Int32) (M : Mem) : Option (Int32 × Mem) :=
  lt_ (setI M 50 12 y0) fun M_12 =>
  if (gI M_12 50 13) = 0 then (some ((gI M_12 50 12), M_12))
  else (some ((-3), M_12))
def fX7_tokens_L162 (k73 : Int32 → Int32 → Int32 → Int32 → Mem → Option (Int32 × Mem)) (x1 : Int32) (x2 : Int32) (x3 : Int32) (y0 : Int32) (M : Mem) : Option (Int32 × Mem) :=
  k73 x1 x2 x3 y0 M
def fX7_tokens_L146 (k73 : Int32 → Int32 → Int32 → Int32 → Mem → Option (Int32 × Mem)) (x1 : Int32) (x2 : Int32) (x3 : Int32) (x4 : Int32) (x5 : Int32) (M : Mem) : Option (Int32 × Mem) :=
  if x5 ≤ x4 then (fX7_tokens_L162 k73 x1 x2 x3 (x4 + 1) M)
  else (fX7_tokens_L162 k73 x1 x2 x3 x5 M)
def fX7_tokens_L129 (k73 : Int32 → Int32 → Int32 → Int32 → Mem → Option (Int32 × Mem)) (x1 : Int32) (x2 : Int32) (x3 : Int32) (x4 : Int32) (x5 : Int32) (M : Mem) : Option (Int32 × Mem) :=
  if x5 ≤ x4 then (fX7_tokens_L146 k73 x1 x2 x3 x4 x5 M)
  else (bV_ (fX7_row x4 x5 x2 x3 M) fun M_13 =>
  fX7_tokens_L146 k73 x1 x2 x3 x4 x5 M_13)
def fX7_tokens_H105 (k73 : Int32 → Int32 → Int32 → Int32 → Mem → Option (Int32 × Mem)) : Nat → Int32 → Int32 → Int32 → Int32 → Int32 → Mem → Option (Int32 × Mem)
  | 0, _, _, _, _, _, _ => none
  | n + 1, x1, x2, x3, x4, x5, M => if (gI M 50 3) ≤ x5 then (fX7_tokens_L129 k73 x1 x2 x3 x4 x5 M)
  else (bI_ (fX7_isOfRow x5 M) fun v_16 M_15 =>
  if v_16 = 0 then (fX7_tokens_L129 k73 x1 x2 x3 x4 x5 M_15)
  else (lt_ (x5 + 1) fun x5_17 =>
  (fX7_tokens_H105 k73 n) x1 x2 x3 x4 x5_17 M_15))
def fX7_tokens_H73 : Nat → Int32 → Int32 → Int32 → Int32 → Mem → Option (Int32 × Mem)
  | 0, _, _, _, _, _ => none
  | n + 1, x1, x2, x3, x4, M => if (gI M 50 3) ≤ x4 then (if (gI M 50 13) = 0 then (fX7_tokens_L183 (gI M 50 12) M)
  else (fX7_tokens_L183 0 M))
  else (if x1 = 3 then (bI_ (fX7_matches x4 M) fun v_19 M_18 =>
  lt_ (x4 + v_19) fun x5_20 =>
  fX7_tokens_L129 (fX7_tokens_H73 n) x1 x2 x3 x4 x5_20 M_18)
  else (fX7_tokens_H105 (fX7_tokens_H73 n) FU x1 x2 x3 x4 x4 M))
def fX7_tokens_L45 (x1 : Int32) (x2 : Int32) (x3 : Int32) (M : Mem) : Option (Int32 × Mem) :=
  lt_ (setI M 50 42 x1) fun M_7 =>
  lt_ (setI M_7 50 12 0) fun M_8 =>
  sz_ M_8 50 13 0 fun M_9 =>
  lt_ (setI M_9 50 43 (-1)) fun M_10 =>
  lt_ (setI M_10 50 44 (-1)) fun M_11 =>
  fX7_tokens_H73 FU x1 x2 x3 0 M_11
def fX7_tokens_L21 (x1 : Int32) (x2 : Int32) (x3 : Int32) (M : Mem) : Option (Int32 × Mem) :=
  bI_ (fX7_isIn x2 1 300 M) fun v_4 M_3 =>
  if v_4 = 0 then (some ((-1), M_3))
  else (bI_ (fX7_isIn x3 x2 300 M_3) fun v_6 M_5 =>
  if v_6 = 0 then (some ((-1), M_5))
  else (fX7_tokens_L45 x1 x2 x3 M_5))
def fX7_tokens (x1 : Int32) (x2 : Int32) (x3 : Int32) (M : Mem) : Option (Int32 × Mem) :=
  bI_ (fX7_isIn x1 0 8 M) fun v_2 M_1 =>
  if v_2 = 0 then (some ((-1), M_1))
  else (if x1 = 5 then (fX7_tokens_L21 x1 x2 x3 M_1)
  else (if x1 = 6 then (fX7_tokens_L21 x1 x2 x3 M_1)
  else (fX7_tokens_L45 x1 x2 x3 M_1)))
abbrev rm_X7_isToken : Room := { frames := 1, cells := 0, slots := 0, locals := 22 }
def fX7_isToken (x1 : Int32) (M : Mem) : Option (Int32 × Mem) :=
  bI_ (fX7_isIn x1 0 ((gI M 50 12) - 1) M) fun v_2 M_1 =>
  zr_ v_2 M_1
abbrev rm_X7_token : Room := { frames := 2, cells := 0, slots := 0, locals := 43 }
def fX7_token (x1 : Int32) (x2 : Int32) (M : Mem) : Option (Int32 × Mem) :=
  bI_ (fX7_isToken x1 M) fun v_2 M_1 =>
  if v_2 = 0 then (some ((-1), M_1))
  else (bI_ (fX7_isIn x2 0 2 M_1) fun v_4 M_3 =>
  if v_4 = 0 then (some ((-1), M_3))
  else (if x2 = 0 then (iald_ M_3 65 x1 fun v_7 =>
  some (v_7, M_3))
  else (if x2 = 1 then (iald_ M_3 66 x1 fun v_6 =>
  some (v_6, M_3))
  else (iald_ M_3 67 x1 fun v_5 =>
  some (v_5, M_3)))))
abbrev rm_X7_sign : Room := { frames := 2, cells := 0, slots := 0, locals := 43 }
def fX7_sign (x1 : Int32) (x2 : Int32) (M : Mem) : Option (Int32 × Mem) :=
  bI_ (fX7_isToken x1 M) fun v_2 M_1 =>
  if v_2 = 0 then (some ((-1), M_1))
  else (iald_ M_1 66 x1 fun v_3 =>
  iald_ M_1 65 x1 fun v_4 =>
  bI_ (fX7_isIn x2 0 ((v_3 - v_4) - 1) M_1) fun v_6 M_5 =>
  if v_6 = 0 then (some ((-1), M_5))
  else (iald_ M_5 65 x1 fun v_7 =>
  iald_ M_5 53 (v_7 + x2) fun v_8 =>
  some (v_8, M_5)))
abbrev rm_X7_same : Room := { frames := 2, cells := 0, slots := 0, locals := 43 }
def fX7_same_L114 (x4 : Int32) (M : Mem) : Option (Int32 × Mem) :=
  if x4 = 0 then (some (0, M))
  else (some (1, M))
def fX7_same_L106 (k59 : Int32 → Int32 → Int32 → Int32 → Int32 → Mem → Option (Int32 × Mem)) (x1 : Int32) (x2 : Int32) (x3 : Int32) (x5 : Int32) (y0 : Int32) (M : Mem) : Option (Int32 × Mem) :=
  lt_ (x5 + 1) fun x5_14 =>
  k59 x1 x2 x3 y0 x5_14 M
def fX7_same_H59 : Nat → Int32 → Int32 → Int32 → Int32 → Int32 → Mem → Option (Int32 × Mem)
  | 0, _, _, _, _, _, _ => none
  | n + 1, x1, x2, x3, x4, x5, M => if x3 ≤ x5 then (fX7_same_L114 x4 M)
  else (if x4 = 0 then (fX7_same_L114 x4 M)
  else (iald_ M 65 x1 fun v_10 =>
  iald_ M 53 (v_10 + x5) fun v_11 =>
  iald_ M 65 x2 fun v_12 =>
  iald_ M 53 (v_12 + x5) fun v_13 =>
  if v_11 = v_13 then (fX7_same_L106 (fX7_same_H59 n) x1 x2 x3 x5 1 M)
  else (fX7_same_L106 (fX7_same_H59 n) x1 x2 x3 x5 0 M)))
def fX7_same_L54 (x1 : Int32) (x2 : Int32) (x3 : Int32) (y0 : Int32) (M : Mem) : Option (Int32 × Mem) :=
  fX7_same_H59 FU x1 x2 x3 y0 0 M
def fX7_same (x1 : Int32) (x2 : Int32) (M : Mem) : Option (Int32 × Mem) :=
  bI_ (fX7_isToken x1 M) fun v_2 M_1 =>
  if v_2 = 0 then (some ((-1), M_1))
  else (bI_ (fX7_isToken x2 M_1) fun v_4 M_3 =>
  if v_4 = 0 then (some ((-1), M_3))
  else (iald_ M_3 66 x1 fun v_5 =>
  iald_ M_3 65 x1 fun v_6 =>
  lt_ (v_5 - v_6) fun x3_7 =>
  iald_ M_3 66 x2 fun v_8 =>
  iald_ M_3 65 x2 fun v_9 =>
  if x3_7 = (v_8 - v_9) then (fX7_same_L54 x1 x2 x3_7 1 M_3)
  else (fX7_same_L54 x1 x2 x3_7 0 M_3)))
abbrev rm_X7_count : Room := { frames := 0, cells := 0, slots := 0, locals := 0 }
def fX7_count (x1 : Int32) (M : Mem) : Option (Int32 × Mem) :=
  if x1 = 0 then (some ((gI M 50 3), M))
  else (if x1 = 1 then (some ((gI M 50 12), M))
  else (if x1 = 2 then (some ((gI M 50 1), M))
  else (if x1 = 3 then (some ((gI M 50 17), M))
  else (if x1 = 4 then (some ((gI M 50 4), M))
  else (some ((-1), M))))))
