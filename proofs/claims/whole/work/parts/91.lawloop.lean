theorem law_idx {L j : Nat} {i : Int32} (hj : i = nI j ∧ j ≤ L + 4) (hL : L ≤ 2048) (hend : ¬ nI L - 4 < i) : vp_in i L ∧ vp_in (i + 1) L ∧ vp_in (i + 2) L ∧ vp_in (i + 3) L ∧ j + 3 < L ∧ i + 4 = nI (j + 4) := by
  obtain ⟨rfl, hj⟩ := hj
  have h1 : (nI L - nI 4).toInt = (L : Int) - 4 := pk_sub_toInt (by omega) (by omega)
  have h2 : (nI j).toInt = (j : Int) := nI_toInt (by omega)
  have h4 : (4 : Int32) = nI 4 := rfl
  rw [h4, Int32.lt_iff_toInt_lt, h1, h2] at hend
  have h3 : j + 3 < L := by omega
  refine ⟨vp_in_nI (by omega) (by omega), ?_, ?_, ?_, h3, ?_⟩
  · rw [show (1 : Int32) = nI 1 from rfl, nI_add]; exact vp_in_nI (by omega) (by omega)
  · rw [show (2 : Int32) = nI 2 from rfl, nI_add]; exact vp_in_nI (by omega) (by omega)
  · rw [show (3 : Int32) = nI 3 from rfl, nI_add]; exact vp_in_nI (by omega) (by omega)
  · rw [h4, nI_add]
set_option maxHeartbeats 8000000 in
set_option maxRecDepth 100000 in
theorem law_loop {p : Program} {l : Launch} {e : Env} {s : State} {m : MethodId} {below : List Frame} {meth : Method} {c : Code} {D : va_G} {cy : Nat → ClassId} {ad : Nat → Nat} {b L : Nat} {xs : Nat → Int32} (Rel : Mem → Mem → Prop) (S : SimAll Rel) (hL : L ≤ 2048) (X : CLw p s m meth c D cy ad b L xs) (hr : meth.sig.returnType = ret) (hlocks : meth.locks = false) :
    ∀ (n j : Nat) (i : Int32) (Mx My : Mem), L + 4 < j + n → (i = nI j ∧ j ≤ L + 4) → Rel Mx My → SW p l e room_1 s m #[Value.ref b] below meth c 70 8592 (lw_Z below #[Value.ref b] s) 4 (LH D cy ad s Mx My) 18 [(0, .ref b), (1, .ref (ad 0)), (2, .ref (ad 50)), (3, .int i)] [] := by
  have hx := X.1
  have hb := X.2.1
  intro n
  induction n with
  | zero =>
    intro j i Mx My h1 h2 hRel
    exact absurd h1 (by omega)
  | succ n ih =>
    intro j i Mx My hjn hj hRel
    have nxt0 : ∀ (Mx1 My1 : Mem), Rel Mx1 My1 → j + 4 ≤ L + 4 → i + 4 = nI (j + 4) → SW p l e room_1 s m #[Value.ref b] below meth c 70 8592 (lw_Z below #[Value.ref b] s) 4 (LH D cy ad s Mx1 My1) 522 [(0, .ref b), (1, .ref (ad 0)), (2, .ref (ad 50)), (3, .int i)] [] := by
      intro Mx1 My1 hR1 hle hst
      refine sw_iinc hx hb (k := 3) (nI (j + 4)) [(3, .int (nI (j + 4))), (0, .ref b), (1, .ref (ad 0)), (2, .ref (ad 50))] dL_law_522 rfl (by rw [← hst]; rfl) (by decide) rfl ?_
      refine sw_goto hx hb 18 dL_law_525 (by decide) ?_
      refine sw_sub (lv1 := [(0, .ref b), (1, .ref (ad 0)), (2, .ref (ad 50)), (3, .int (nI (j + 4)))]) [1, 2, 3, 0] rfl ?_
      exact ih (j + 4) (nI (j + 4)) Mx1 My1 (by omega) ⟨rfl, hle⟩ hR1
    refine sw_iload_n hx hb dL_law_18 3 rfl rfl ?_
    refine sw_aload_n hx hb dL_law_19 0 rfl rfl ?_
    refine lr_slen X dL_law_20 ?_
    refine sw_iconst hx hb 4 dL_law_21 (by decide) ?_
    refine sw_isub hx hb dL_law_22 ?_
    by_cases hend : nI L - 4 < i
    · refine sw_icmp_gt hx hb 528 dL_law_23 (by decide) (E1 := some ()) (E2 := none) (r := ()) (if_pos hend) (fun _ => ?_) (fun h => by cases h)
      refine sw_iconst hx hb 1 dL_law_528 (by decide) ?_
      intro H locs ls hΦ hl
      refine va_forget (fun q hq => hΦ.2.2.2.2 q hq) ?_
      refine W.widen (k := 600000) (n := 7302249) (Nat.le_of_ble_eq_true rfl) (Nat.le_of_ble_eq_true rfl) ?_
      exact lw_ret hx hb hr hlocks dL_law_529
    · obtain ⟨hi0, hi1, hi2, hi3, hlt, hstep⟩ := law_idx hj hL hend
      have nxt_ := fun (Mx1 My1 : Mem) (h : Rel Mx1 My1) => nxt0 Mx1 My1 h (by omega) hstep
      refine sw_icmp_gt hx hb 528 dL_law_23 (by decide) (E1 := none) (E2 := some ()) (r := ()) (if_neg hend) (fun h => by cases h) (fun _ => ?_)
      refine sw_aload_n hx hb dL_law_26 0 rfl rfl ?_
      refine sw_iload_n hx hb dL_law_27 3 rfl rfl ?_
      refine lr_sld X hi0 dL_law_28 ?_
      refine sw_bipush hx hb 15 dL_law_29 (by decide) ?_
      refine sw_iand hx hb dL_law_31 ?_
      by_cases hc0 : (xs i.toNatClampNeg &&& 15) = 0
      · refine sw_tableIn hx hb (off := 72) 104 dL_law_32 (by rw [hc0]; decide) (by rw [hc0]; decide) (by rw [hc0]; decide +kernel) (by decide) ?_
        refine sw_aload_n hx hb dL_law_104 1 rfl rfl ?_
        refine sw_aload_n hx hb dL_law_105 0 rfl rfl ?_
        refine sw_iload_n hx hb dL_law_106 3 rfl rfl ?_
        refine sw_iconst hx hb 1 dL_law_107 (by decide) ?_
        refine sw_iadd hx hb dL_law_108 ?_
        refine lr_sld X hi1 dL_law_109 ?_
        refine sw_aload_n hx hb dL_law_110 0 rfl rfl ?_
        refine sw_iload_n hx hb dL_law_111 3 rfl rfl ?_
        refine sw_iconst hx hb 2 dL_law_112 (by decide) ?_
        refine sw_iadd hx hb dL_law_113 ?_
        refine lr_sld X hi2 dL_law_114 ?_
        refine sw_i2l hx hb dL_law_115 ?_
        refine sw_bipush hx hb 32 dL_law_116 (by decide) ?_
        refine sw_lshl hx hb dL_law_118 ?_
        refine sw_aload_n hx hb dL_law_119 0 rfl rfl ?_
        refine sw_iload_n hx hb dL_law_120 3 rfl rfl ?_
        refine sw_iconst hx hb 3 dL_law_121 (by decide) ?_
        refine sw_iadd hx hb dL_law_122 ?_
        refine lr_sld X hi3 dL_law_123 ?_
        refine sw_i2l hx hb dL_law_124 ?_
        refine lr_ldc2 X wd721 dL_law_125 ?_
        refine sw_land hx hb dL_law_128 ?_
        refine sw_lor hx hb dL_law_129 ?_
        obtain ⟨v, Mx1, My1, hf1, hf2, hRel⟩ := S.1 Mx My (xs (i + 1).toNatClampNeg) ((shl6 (((xs (i + 2).toNatClampNeg) : Int32).toInt64) 32) ||| ((((xs (i + 3).toNatClampNeg) : Int32).toInt64) &&& 4294967295)) hRel
        refine lr_callX X (As := [.int (xs (i + 1).toNatClampNeg), .long ((shl6 (((xs (i + 2).toNatClampNeg) : Int32).toInt64) 32) ||| ((((xs (i + 3).toNatClampNeg) : Int32).toInt64) &&& 4294967295))]) (rest := []) (fun _ hz => okX6_feed l X.2.2.2.2.2.2.2.2.2.1 (xs (i + 1).toNatClampNeg) ((shl6 (((xs (i + 2).toNatClampNeg) : Int32).toInt64) 32) ||| ((((xs (i + 3).toNatClampNeg) : Int32).toInt64) &&& 4294967295)) Mx _ hz) hf1 (lcw_15 X.2.2.2.2.1 ⟨Nat.le_of_ble_eq_true rfl, Nat.le_of_ble_eq_true rfl⟩) rfl rfl (Nat.le_of_ble_eq_true rfl) dL_law_130 ⟨Nat.le_of_ble_eq_true rfl, Nat.le_of_ble_eq_true rfl⟩ ?_
        refine sw_aload_n hx hb dL_law_133 2 rfl rfl ?_
        refine sw_aload_n hx hb dL_law_134 0 rfl rfl ?_
        refine sw_iload_n hx hb dL_law_135 3 rfl rfl ?_
        refine sw_iconst hx hb 1 dL_law_136 (by decide) ?_
        refine sw_iadd hx hb dL_law_137 ?_
        refine lr_sld X hi1 dL_law_138 ?_
        refine sw_aload_n hx hb dL_law_139 0 rfl rfl ?_
        refine sw_iload_n hx hb dL_law_140 3 rfl rfl ?_
        refine sw_iconst hx hb 2 dL_law_141 (by decide) ?_
        refine sw_iadd hx hb dL_law_142 ?_
        refine lr_sld X hi2 dL_law_143 ?_
        refine sw_i2l hx hb dL_law_144 ?_
        refine sw_bipush hx hb 32 dL_law_145 (by decide) ?_
        refine sw_lshl hx hb dL_law_147 ?_
        refine sw_aload_n hx hb dL_law_148 0 rfl rfl ?_
        refine sw_iload_n hx hb dL_law_149 3 rfl rfl ?_
        refine sw_iconst hx hb 3 dL_law_150 (by decide) ?_
        refine sw_iadd hx hb dL_law_151 ?_
        refine lr_sld X hi3 dL_law_152 ?_
        refine sw_i2l hx hb dL_law_153 ?_
        refine lr_ldc2 X wd721 dL_law_154 ?_
        refine sw_land hx hb dL_law_157 ?_
        refine sw_lor hx hb dL_law_158 ?_
        refine lr_callY X (As := [.int (xs (i + 1).toNatClampNeg), .long ((shl6 (((xs (i + 2).toNatClampNeg) : Int32).toInt64) 32) ||| ((((xs (i + 3).toNatClampNeg) : Int32).toInt64) &&& 4294967295))]) (rest := [.int v]) (fun _ hz => okX7_feed l X.2.2.2.2.2.2.2.2.2.2.1 (xs (i + 1).toNatClampNeg) ((shl6 (((xs (i + 2).toNatClampNeg) : Int32).toInt64) 32) ||| ((((xs (i + 3).toNatClampNeg) : Int32).toInt64) &&& 4294967295)) My _ hz) hf2 (lcw_19 X.2.2.2.2.1 ⟨Nat.le_of_ble_eq_true rfl, Nat.le_of_ble_eq_true rfl⟩) rfl rfl (Nat.le_of_ble_eq_true rfl) dL_law_159 ⟨Nat.le_of_ble_eq_true rfl, Nat.le_of_ble_eq_true rfl⟩ ?_
        refine sw_icmp_eq hx hb 522 dL_law_162 (by decide) (E1 := some ()) (E2 := none) (r := ()) (if_pos rfl) (fun _ => ?_) (fun h => by cases h)
        exact nxt_ Mx1 My1 hRel
      · skip
        by_cases hc1 : (xs i.toNatClampNeg &&& 15) = 1
        · refine sw_tableIn hx hb (off := 135) 167 dL_law_32 (by rw [hc1]; decide) (by rw [hc1]; decide) (by rw [hc1]; decide +kernel) (by decide) ?_
          refine sw_aload_n hx hb dL_law_167 1 rfl rfl ?_
          obtain ⟨v, Mx1, My1, hf1, hf2, hRel⟩ := S.2.1 Mx My hRel
          refine lr_callX X (As := []) (rest := []) (fun _ hz => okX6_text l X.2.2.2.2.2.2.2.2.2.1 Mx _ hz) hf1 (lcw_20 X.2.2.2.2.1 ⟨Nat.le_of_ble_eq_true rfl, Nat.le_of_ble_eq_true rfl⟩) rfl rfl (Nat.le_of_ble_eq_true rfl) dL_law_168 ⟨Nat.le_of_ble_eq_true rfl, Nat.le_of_ble_eq_true rfl⟩ ?_
          refine sw_aload_n hx hb dL_law_171 2 rfl rfl ?_
          refine lr_callY X (As := []) (rest := [.int v]) (fun _ hz => okX7_text l X.2.2.2.2.2.2.2.2.2.2.1 My _ hz) hf2 (lcw_24 X.2.2.2.2.1 ⟨Nat.le_of_ble_eq_true rfl, Nat.le_of_ble_eq_true rfl⟩) rfl rfl (Nat.le_of_ble_eq_true rfl) dL_law_172 ⟨Nat.le_of_ble_eq_true rfl, Nat.le_of_ble_eq_true rfl⟩ ?_
          refine sw_icmp_eq hx hb 522 dL_law_175 (by decide) (E1 := some ()) (E2 := none) (r := ()) (if_pos rfl) (fun _ => ?_) (fun h => by cases h)
          exact nxt_ Mx1 My1 hRel
        · skip
          by_cases hc2 : (xs i.toNatClampNeg &&& 15) = 2
          · refine sw_tableIn hx hb (off := 148) 180 dL_law_32 (by rw [hc2]; decide) (by rw [hc2]; decide) (by rw [hc2]; decide +kernel) (by decide) ?_
            refine sw_aload_n hx hb dL_law_180 1 rfl rfl ?_
            obtain ⟨v, Mx1, My1, hf1, hf2, hRel⟩ := S.2.2.1 Mx My hRel
            refine lr_callX X (As := []) (rest := []) (fun _ hz => okX6_pattern l X.2.2.2.2.2.2.2.2.2.1 Mx _ hz) hf1 (lcw_25 X.2.2.2.2.1 ⟨Nat.le_of_ble_eq_true rfl, Nat.le_of_ble_eq_true rfl⟩) rfl rfl (Nat.le_of_ble_eq_true rfl) dL_law_181 ⟨Nat.le_of_ble_eq_true rfl, Nat.le_of_ble_eq_true rfl⟩ ?_
            refine sw_aload_n hx hb dL_law_184 2 rfl rfl ?_
            refine lr_callY X (As := []) (rest := [.int v]) (fun _ hz => okX7_pattern l X.2.2.2.2.2.2.2.2.2.2.1 My _ hz) hf2 (lcw_28 X.2.2.2.2.1 ⟨Nat.le_of_ble_eq_true rfl, Nat.le_of_ble_eq_true rfl⟩) rfl rfl (Nat.le_of_ble_eq_true rfl) dL_law_185 ⟨Nat.le_of_ble_eq_true rfl, Nat.le_of_ble_eq_true rfl⟩ ?_
            refine sw_icmp_eq hx hb 522 dL_law_188 (by decide) (E1 := some ()) (E2 := none) (r := ()) (if_pos rfl) (fun _ => ?_) (fun h => by cases h)
            exact nxt_ Mx1 My1 hRel
          · skip
            by_cases hc3 : (xs i.toNatClampNeg &&& 15) = 3
            · refine sw_tableIn hx hb (off := 161) 193 dL_law_32 (by rw [hc3]; decide) (by rw [hc3]; decide) (by rw [hc3]; decide +kernel) (by decide) ?_
              refine sw_aload_n hx hb dL_law_193 1 rfl rfl ?_
              refine sw_aload_n hx hb dL_law_194 0 rfl rfl ?_
              refine sw_iload_n hx hb dL_law_195 3 rfl rfl ?_
              refine sw_iconst hx hb 1 dL_law_196 (by decide) ?_
              refine sw_iadd hx hb dL_law_197 ?_
              refine lr_sld X hi1 dL_law_198 ?_
              obtain ⟨v, Mx1, My1, hf1, hf2, hRel⟩ := S.2.2.2.1 Mx My (xs (i + 1).toNatClampNeg) hRel
              refine lr_callX X (As := [.int (xs (i + 1).toNatClampNeg)]) (rest := []) (fun _ hz => okX6_word l X.2.2.2.2.2.2.2.2.2.1 (xs (i + 1).toNatClampNeg) Mx _ hz) hf1 (lcw_29 X.2.2.2.2.1 ⟨Nat.le_of_ble_eq_true rfl, Nat.le_of_ble_eq_true rfl⟩) rfl rfl (Nat.le_of_ble_eq_true rfl) dL_law_199 ⟨Nat.le_of_ble_eq_true rfl, Nat.le_of_ble_eq_true rfl⟩ ?_
              refine sw_aload_n hx hb dL_law_202 2 rfl rfl ?_
              refine sw_aload_n hx hb dL_law_203 0 rfl rfl ?_
              refine sw_iload_n hx hb dL_law_204 3 rfl rfl ?_
              refine sw_iconst hx hb 1 dL_law_205 (by decide) ?_
              refine sw_iadd hx hb dL_law_206 ?_
              refine lr_sld X hi1 dL_law_207 ?_
              refine lr_callY X (As := [.int (xs (i + 1).toNatClampNeg)]) (rest := [.int v]) (fun _ hz => okX7_word l X.2.2.2.2.2.2.2.2.2.2.1 (xs (i + 1).toNatClampNeg) My _ hz) hf2 (lcw_33 X.2.2.2.2.1 ⟨Nat.le_of_ble_eq_true rfl, Nat.le_of_ble_eq_true rfl⟩) rfl rfl (Nat.le_of_ble_eq_true rfl) dL_law_208 ⟨Nat.le_of_ble_eq_true rfl, Nat.le_of_ble_eq_true rfl⟩ ?_
              refine sw_icmp_eq hx hb 522 dL_law_211 (by decide) (E1 := some ()) (E2 := none) (r := ()) (if_pos rfl) (fun _ => ?_) (fun h => by cases h)
              exact nxt_ Mx1 My1 hRel
            · skip
              by_cases hc4 : (xs i.toNatClampNeg &&& 15) = 4
              · refine sw_tableIn hx hb (off := 184) 216 dL_law_32 (by rw [hc4]; decide) (by rw [hc4]; decide) (by rw [hc4]; decide +kernel) (by decide) ?_
                refine sw_aload_n hx hb dL_law_216 1 rfl rfl ?_
                refine sw_aload_n hx hb dL_law_217 0 rfl rfl ?_
                refine sw_iload_n hx hb dL_law_218 3 rfl rfl ?_
                refine sw_iconst hx hb 1 dL_law_219 (by decide) ?_
                refine sw_iadd hx hb dL_law_220 ?_
                refine lr_sld X hi1 dL_law_221 ?_
                obtain ⟨v, Mx1, My1, hf1, hf2, hRel⟩ := S.2.2.2.2.1 Mx My (xs (i + 1).toNatClampNeg) hRel
                refine lr_callX X (As := [.int (xs (i + 1).toNatClampNeg)]) (rest := []) (fun _ hz => okX6_strange l X.2.2.2.2.2.2.2.2.2.1 (xs (i + 1).toNatClampNeg) Mx _ hz) hf1 (lcw_34 X.2.2.2.2.1 ⟨Nat.le_of_ble_eq_true rfl, Nat.le_of_ble_eq_true rfl⟩) rfl rfl (Nat.le_of_ble_eq_true rfl) dL_law_222 ⟨Nat.le_of_ble_eq_true rfl, Nat.le_of_ble_eq_true rfl⟩ ?_
                refine sw_aload_n hx hb dL_law_225 2 rfl rfl ?_
                refine sw_aload_n hx hb dL_law_226 0 rfl rfl ?_
                refine sw_iload_n hx hb dL_law_227 3 rfl rfl ?_
                refine sw_iconst hx hb 1 dL_law_228 (by decide) ?_
                refine sw_iadd hx hb dL_law_229 ?_
                refine lr_sld X hi1 dL_law_230 ?_
                refine lr_callY X (As := [.int (xs (i + 1).toNatClampNeg)]) (rest := [.int v]) (fun _ hz => okX7_strange l X.2.2.2.2.2.2.2.2.2.2.1 (xs (i + 1).toNatClampNeg) My _ hz) hf2 (lcw_37 X.2.2.2.2.1 ⟨Nat.le_of_ble_eq_true rfl, Nat.le_of_ble_eq_true rfl⟩) rfl rfl (Nat.le_of_ble_eq_true rfl) dL_law_231 ⟨Nat.le_of_ble_eq_true rfl, Nat.le_of_ble_eq_true rfl⟩ ?_
                refine sw_icmp_eq hx hb 522 dL_law_234 (by decide) (E1 := some ()) (E2 := none) (r := ()) (if_pos rfl) (fun _ => ?_) (fun h => by cases h)
                exact nxt_ Mx1 My1 hRel
              · skip
                by_cases hc5 : (xs i.toNatClampNeg &&& 15) = 5
                · refine sw_tableIn hx hb (off := 207) 239 dL_law_32 (by rw [hc5]; decide) (by rw [hc5]; decide) (by rw [hc5]; decide +kernel) (by decide) ?_
                  by_cases hv : xs (i + 1).toNatClampNeg = 0
                  · refine sw_aload_n hx hb dL_law_239 1 rfl rfl ?_
                    refine sw_aload_n hx hb dL_law_240 0 rfl rfl ?_
                    refine sw_iload_n hx hb dL_law_241 3 rfl rfl ?_
                    refine sw_iconst hx hb 1 dL_law_242 (by decide) ?_
                    refine sw_iadd hx hb dL_law_243 ?_
                    refine lr_sld X hi1 dL_law_244 ?_
                    refine sw_if_eq hx hb 252 dL_law_245 (by decide) (E1 := some ()) (E2 := none) (r := ()) (if_pos hv) (fun _ => ?_) (fun h => by cases h)
                    refine sw_iconst hx hb 0 dL_law_252 (by decide) ?_
                    obtain ⟨v, Mx1, My1, hf1, hf2, hRel⟩ := S.2.2.2.2.2.1 Mx My 0 hRel (Or.inl rfl)
                    refine lr_callX X (As := [.int 0]) (rest := []) (fun _ hz => okX6_links l X.2.2.2.2.2.2.2.2.2.1 0 Mx _ hz) hf1 (lcw_38 X.2.2.2.2.1 ⟨Nat.le_of_ble_eq_true rfl, Nat.le_of_ble_eq_true rfl⟩) rfl rfl (Nat.le_of_ble_eq_true rfl) dL_law_253 ⟨Nat.le_of_ble_eq_true rfl, Nat.le_of_ble_eq_true rfl⟩ ?_
                    refine sw_aload_n hx hb dL_law_256 2 rfl rfl ?_
                    refine sw_aload_n hx hb dL_law_257 0 rfl rfl ?_
                    refine sw_iload_n hx hb dL_law_258 3 rfl rfl ?_
                    refine sw_iconst hx hb 1 dL_law_259 (by decide) ?_
                    refine sw_iadd hx hb dL_law_260 ?_
                    refine lr_sld X hi1 dL_law_261 ?_
                    refine sw_if_eq hx hb 269 dL_law_262 (by decide) (E1 := some ()) (E2 := none) (r := ()) (if_pos hv) (fun _ => ?_) (fun h => by cases h)
                    refine sw_iconst hx hb 0 dL_law_269 (by decide) ?_
                    refine lr_callY X (As := [.int 0]) (rest := [.int v]) (fun _ hz => okX7_links l X.2.2.2.2.2.2.2.2.2.2.1 0 My _ hz) hf2 (lcw_42 X.2.2.2.2.1 ⟨Nat.le_of_ble_eq_true rfl, Nat.le_of_ble_eq_true rfl⟩) rfl rfl (Nat.le_of_ble_eq_true rfl) dL_law_270 ⟨Nat.le_of_ble_eq_true rfl, Nat.le_of_ble_eq_true rfl⟩ ?_
                    refine sw_icmp_eq hx hb 522 dL_law_273 (by decide) (E1 := some ()) (E2 := none) (r := ()) (if_pos rfl) (fun _ => ?_) (fun h => by cases h)
                    exact nxt_ Mx1 My1 hRel
                  · refine sw_aload_n hx hb dL_law_239 1 rfl rfl ?_
                    refine sw_aload_n hx hb dL_law_240 0 rfl rfl ?_
                    refine sw_iload_n hx hb dL_law_241 3 rfl rfl ?_
                    refine sw_iconst hx hb 1 dL_law_242 (by decide) ?_
                    refine sw_iadd hx hb dL_law_243 ?_
                    refine lr_sld X hi1 dL_law_244 ?_
                    refine sw_if_eq hx hb 252 dL_law_245 (by decide) (E1 := none) (E2 := some ()) (r := ()) (if_neg hv) (fun h => by cases h) (fun _ => ?_)
                    refine sw_iconst hx hb 1 dL_law_248 (by decide) ?_
                    refine sw_goto hx hb 253 dL_law_249 (by decide) ?_
                    obtain ⟨v, Mx1, My1, hf1, hf2, hRel⟩ := S.2.2.2.2.2.1 Mx My 1 hRel (Or.inr rfl)
                    refine lr_callX X (As := [.int 1]) (rest := []) (fun _ hz => okX6_links l X.2.2.2.2.2.2.2.2.2.1 1 Mx _ hz) hf1 (lcw_38 X.2.2.2.2.1 ⟨Nat.le_of_ble_eq_true rfl, Nat.le_of_ble_eq_true rfl⟩) rfl rfl (Nat.le_of_ble_eq_true rfl) dL_law_253 ⟨Nat.le_of_ble_eq_true rfl, Nat.le_of_ble_eq_true rfl⟩ ?_
                    refine sw_aload_n hx hb dL_law_256 2 rfl rfl ?_
                    refine sw_aload_n hx hb dL_law_257 0 rfl rfl ?_
                    refine sw_iload_n hx hb dL_law_258 3 rfl rfl ?_
                    refine sw_iconst hx hb 1 dL_law_259 (by decide) ?_
                    refine sw_iadd hx hb dL_law_260 ?_
                    refine lr_sld X hi1 dL_law_261 ?_
                    refine sw_if_eq hx hb 269 dL_law_262 (by decide) (E1 := none) (E2 := some ()) (r := ()) (if_neg hv) (fun h => by cases h) (fun _ => ?_)
                    refine sw_iconst hx hb 1 dL_law_265 (by decide) ?_
                    refine sw_goto hx hb 270 dL_law_266 (by decide) ?_
                    refine lr_callY X (As := [.int 1]) (rest := [.int v]) (fun _ hz => okX7_links l X.2.2.2.2.2.2.2.2.2.2.1 1 My _ hz) hf2 (lcw_42 X.2.2.2.2.1 ⟨Nat.le_of_ble_eq_true rfl, Nat.le_of_ble_eq_true rfl⟩) rfl rfl (Nat.le_of_ble_eq_true rfl) dL_law_270 ⟨Nat.le_of_ble_eq_true rfl, Nat.le_of_ble_eq_true rfl⟩ ?_
                    refine sw_icmp_eq hx hb 522 dL_law_273 (by decide) (E1 := some ()) (E2 := none) (r := ()) (if_pos rfl) (fun _ => ?_) (fun h => by cases h)
                    exact nxt_ Mx1 My1 hRel
                · skip
                  by_cases hc6 : (xs i.toNatClampNeg &&& 15) = 6
                  · refine sw_tableIn hx hb (off := 246) 278 dL_law_32 (by rw [hc6]; decide) (by rw [hc6]; decide) (by rw [hc6]; decide +kernel) (by decide) ?_
                    refine sw_aload_n hx hb dL_law_278 1 rfl rfl ?_
                    refine sw_aload_n hx hb dL_law_279 0 rfl rfl ?_
                    refine sw_iload_n hx hb dL_law_280 3 rfl rfl ?_
                    refine sw_iconst hx hb 1 dL_law_281 (by decide) ?_
                    refine sw_iadd hx hb dL_law_282 ?_
                    refine lr_sld X hi1 dL_law_283 ?_
                    refine sw_aload_n hx hb dL_law_284 0 rfl rfl ?_
                    refine sw_iload_n hx hb dL_law_285 3 rfl rfl ?_
                    refine sw_iconst hx hb 2 dL_law_286 (by decide) ?_
                    refine sw_iadd hx hb dL_law_287 ?_
                    refine lr_sld X hi2 dL_law_288 ?_
                    obtain ⟨v, Mx1, My1, hf1, hf2, hRel⟩ := S.2.2.2.2.2.2.1 Mx My (xs (i + 1).toNatClampNeg) (xs (i + 2).toNatClampNeg) hRel
                    refine lr_callX X (As := [.int (xs (i + 1).toNatClampNeg), .int (xs (i + 2).toNatClampNeg)]) (rest := []) (fun _ hz => okX6_longest l X.2.2.2.2.2.2.2.2.2.1 (xs (i + 1).toNatClampNeg) (xs (i + 2).toNatClampNeg) Mx _ hz) hf1 (lcw_43 X.2.2.2.2.1 ⟨Nat.le_of_ble_eq_true rfl, Nat.le_of_ble_eq_true rfl⟩) rfl rfl (Nat.le_of_ble_eq_true rfl) dL_law_289 ⟨Nat.le_of_ble_eq_true rfl, Nat.le_of_ble_eq_true rfl⟩ ?_
                    refine sw_aload_n hx hb dL_law_292 2 rfl rfl ?_
                    refine sw_aload_n hx hb dL_law_293 0 rfl rfl ?_
                    refine sw_iload_n hx hb dL_law_294 3 rfl rfl ?_
                    refine sw_iconst hx hb 1 dL_law_295 (by decide) ?_
                    refine sw_iadd hx hb dL_law_296 ?_
                    refine lr_sld X hi1 dL_law_297 ?_
                    refine sw_aload_n hx hb dL_law_298 0 rfl rfl ?_
                    refine sw_iload_n hx hb dL_law_299 3 rfl rfl ?_
                    refine sw_iconst hx hb 2 dL_law_300 (by decide) ?_
                    refine sw_iadd hx hb dL_law_301 ?_
                    refine lr_sld X hi2 dL_law_302 ?_
                    refine lr_callY X (As := [.int (xs (i + 1).toNatClampNeg), .int (xs (i + 2).toNatClampNeg)]) (rest := [.int v]) (fun _ hz => okX7_longest l X.2.2.2.2.2.2.2.2.2.2.1 (xs (i + 1).toNatClampNeg) (xs (i + 2).toNatClampNeg) My _ hz) hf2 (lcw_47 X.2.2.2.2.1 ⟨Nat.le_of_ble_eq_true rfl, Nat.le_of_ble_eq_true rfl⟩) rfl rfl (Nat.le_of_ble_eq_true rfl) dL_law_303 ⟨Nat.le_of_ble_eq_true rfl, Nat.le_of_ble_eq_true rfl⟩ ?_
                    refine sw_icmp_eq hx hb 522 dL_law_306 (by decide) (E1 := some ()) (E2 := none) (r := ()) (if_pos rfl) (fun _ => ?_) (fun h => by cases h)
                    exact nxt_ Mx1 My1 hRel
                  · skip
                    by_cases hc7 : (xs i.toNatClampNeg &&& 15) = 7
                    · refine sw_tableIn hx hb (off := 279) 311 dL_law_32 (by rw [hc7]; decide) (by rw [hc7]; decide) (by rw [hc7]; decide +kernel) (by decide) ?_
                      refine sw_aload_n hx hb dL_law_311 1 rfl rfl ?_
                      refine sw_aload_n hx hb dL_law_312 0 rfl rfl ?_
                      refine sw_iload_n hx hb dL_law_313 3 rfl rfl ?_
                      refine sw_iconst hx hb 1 dL_law_314 (by decide) ?_
                      refine sw_iadd hx hb dL_law_315 ?_
                      refine lr_sld X hi1 dL_law_316 ?_
                      refine sw_aload_n hx hb dL_law_317 0 rfl rfl ?_
                      refine sw_iload_n hx hb dL_law_318 3 rfl rfl ?_
                      refine sw_iconst hx hb 2 dL_law_319 (by decide) ?_
                      refine sw_iadd hx hb dL_law_320 ?_
                      refine lr_sld X hi2 dL_law_321 ?_
                      refine sw_aload_n hx hb dL_law_322 0 rfl rfl ?_
                      refine sw_iload_n hx hb dL_law_323 3 rfl rfl ?_
                      refine sw_iconst hx hb 3 dL_law_324 (by decide) ?_
                      refine sw_iadd hx hb dL_law_325 ?_
                      refine lr_sld X hi3 dL_law_326 ?_
                      obtain ⟨v, Mx1, My1, hf1, hf2, hRel⟩ := S.2.2.2.2.2.2.2.1 Mx My (xs (i + 1).toNatClampNeg) (xs (i + 2).toNatClampNeg) (xs (i + 3).toNatClampNeg) hRel
                      refine lr_callX X (As := [.int (xs (i + 1).toNatClampNeg), .int (xs (i + 2).toNatClampNeg), .int (xs (i + 3).toNatClampNeg)]) (rest := []) (fun _ hz => okX6_tokens l X.2.2.2.2.2.2.2.2.2.1 (xs (i + 1).toNatClampNeg) (xs (i + 2).toNatClampNeg) (xs (i + 3).toNatClampNeg) Mx _ hz) hf1 (lcw_48 X.2.2.2.2.1 ⟨Nat.le_of_ble_eq_true rfl, Nat.le_of_ble_eq_true rfl⟩) rfl rfl (Nat.le_of_ble_eq_true rfl) dL_law_327 ⟨Nat.le_of_ble_eq_true rfl, Nat.le_of_ble_eq_true rfl⟩ ?_
                      refine sw_aload_n hx hb dL_law_330 2 rfl rfl ?_
                      refine sw_aload_n hx hb dL_law_331 0 rfl rfl ?_
                      refine sw_iload_n hx hb dL_law_332 3 rfl rfl ?_
                      refine sw_iconst hx hb 1 dL_law_333 (by decide) ?_
                      refine sw_iadd hx hb dL_law_334 ?_
                      refine lr_sld X hi1 dL_law_335 ?_
                      refine sw_aload_n hx hb dL_law_336 0 rfl rfl ?_
                      refine sw_iload_n hx hb dL_law_337 3 rfl rfl ?_
                      refine sw_iconst hx hb 2 dL_law_338 (by decide) ?_
                      refine sw_iadd hx hb dL_law_339 ?_
                      refine lr_sld X hi2 dL_law_340 ?_
                      refine sw_aload_n hx hb dL_law_341 0 rfl rfl ?_
                      refine sw_iload_n hx hb dL_law_342 3 rfl rfl ?_
                      refine sw_iconst hx hb 3 dL_law_343 (by decide) ?_
                      refine sw_iadd hx hb dL_law_344 ?_
                      refine lr_sld X hi3 dL_law_345 ?_
                      refine lr_callY X (As := [.int (xs (i + 1).toNatClampNeg), .int (xs (i + 2).toNatClampNeg), .int (xs (i + 3).toNatClampNeg)]) (rest := [.int v]) (fun _ hz => okX7_tokens l X.2.2.2.2.2.2.2.2.2.2.1 (xs (i + 1).toNatClampNeg) (xs (i + 2).toNatClampNeg) (xs (i + 3).toNatClampNeg) My _ hz) hf2 (lcw_52 X.2.2.2.2.1 ⟨Nat.le_of_ble_eq_true rfl, Nat.le_of_ble_eq_true rfl⟩) rfl rfl (Nat.le_of_ble_eq_true rfl) dL_law_346 ⟨Nat.le_of_ble_eq_true rfl, Nat.le_of_ble_eq_true rfl⟩ ?_
                      refine sw_icmp_eq hx hb 522 dL_law_349 (by decide) (E1 := some ()) (E2 := none) (r := ()) (if_pos rfl) (fun _ => ?_) (fun h => by cases h)
                      exact nxt_ Mx1 My1 hRel
                    · skip
                      by_cases hc8 : (xs i.toNatClampNeg &&& 15) = 8
                      · refine sw_tableIn hx hb (off := 322) 354 dL_law_32 (by rw [hc8]; decide) (by rw [hc8]; decide) (by rw [hc8]; decide +kernel) (by decide) ?_
                        refine sw_aload_n hx hb dL_law_354 1 rfl rfl ?_
                        refine sw_aload_n hx hb dL_law_355 0 rfl rfl ?_
                        refine sw_iload_n hx hb dL_law_356 3 rfl rfl ?_
                        refine sw_iconst hx hb 1 dL_law_357 (by decide) ?_
                        refine sw_iadd hx hb dL_law_358 ?_
                        refine lr_sld X hi1 dL_law_359 ?_
                        refine sw_aload_n hx hb dL_law_360 0 rfl rfl ?_
                        refine sw_iload_n hx hb dL_law_361 3 rfl rfl ?_
                        refine sw_iconst hx hb 2 dL_law_362 (by decide) ?_
                        refine sw_iadd hx hb dL_law_363 ?_
                        refine lr_sld X hi2 dL_law_364 ?_
                        obtain ⟨v, Mx1, My1, hf1, hf2, hRel⟩ := S.2.2.2.2.2.2.2.2.1 Mx My (xs (i + 1).toNatClampNeg) (xs (i + 2).toNatClampNeg) hRel
                        refine lr_callX X (As := [.int (xs (i + 1).toNatClampNeg), .int (xs (i + 2).toNatClampNeg)]) (rest := []) (fun _ hz => okX6_token l X.2.2.2.2.2.2.2.2.2.1 (xs (i + 1).toNatClampNeg) (xs (i + 2).toNatClampNeg) Mx _ hz) hf1 (lcw_53 X.2.2.2.2.1 ⟨Nat.le_of_ble_eq_true rfl, Nat.le_of_ble_eq_true rfl⟩) rfl rfl (Nat.le_of_ble_eq_true rfl) dL_law_365 ⟨Nat.le_of_ble_eq_true rfl, Nat.le_of_ble_eq_true rfl⟩ ?_
                        refine sw_aload_n hx hb dL_law_368 2 rfl rfl ?_
                        refine sw_aload_n hx hb dL_law_369 0 rfl rfl ?_
                        refine sw_iload_n hx hb dL_law_370 3 rfl rfl ?_
                        refine sw_iconst hx hb 1 dL_law_371 (by decide) ?_
                        refine sw_iadd hx hb dL_law_372 ?_
                        refine lr_sld X hi1 dL_law_373 ?_
                        refine sw_aload_n hx hb dL_law_374 0 rfl rfl ?_
                        refine sw_iload_n hx hb dL_law_375 3 rfl rfl ?_
                        refine sw_iconst hx hb 2 dL_law_376 (by decide) ?_
                        refine sw_iadd hx hb dL_law_377 ?_
                        refine lr_sld X hi2 dL_law_378 ?_
                        refine lr_callY X (As := [.int (xs (i + 1).toNatClampNeg), .int (xs (i + 2).toNatClampNeg)]) (rest := [.int v]) (fun _ hz => okX7_token l X.2.2.2.2.2.2.2.2.2.2.1 (xs (i + 1).toNatClampNeg) (xs (i + 2).toNatClampNeg) My _ hz) hf2 (lcw_56 X.2.2.2.2.1 ⟨Nat.le_of_ble_eq_true rfl, Nat.le_of_ble_eq_true rfl⟩) rfl rfl (Nat.le_of_ble_eq_true rfl) dL_law_379 ⟨Nat.le_of_ble_eq_true rfl, Nat.le_of_ble_eq_true rfl⟩ ?_
                        refine sw_icmp_eq hx hb 522 dL_law_382 (by decide) (E1 := some ()) (E2 := none) (r := ()) (if_pos rfl) (fun _ => ?_) (fun h => by cases h)
                        exact nxt_ Mx1 My1 hRel
                      · skip
                        by_cases hc9 : (xs i.toNatClampNeg &&& 15) = 9
                        · refine sw_tableIn hx hb (off := 355) 387 dL_law_32 (by rw [hc9]; decide) (by rw [hc9]; decide) (by rw [hc9]; decide +kernel) (by decide) ?_
                          refine sw_aload_n hx hb dL_law_387 1 rfl rfl ?_
                          refine sw_aload_n hx hb dL_law_388 0 rfl rfl ?_
                          refine sw_iload_n hx hb dL_law_389 3 rfl rfl ?_
                          refine sw_iconst hx hb 1 dL_law_390 (by decide) ?_
                          refine sw_iadd hx hb dL_law_391 ?_
                          refine lr_sld X hi1 dL_law_392 ?_
                          refine sw_aload_n hx hb dL_law_393 0 rfl rfl ?_
                          refine sw_iload_n hx hb dL_law_394 3 rfl rfl ?_
                          refine sw_iconst hx hb 2 dL_law_395 (by decide) ?_
                          refine sw_iadd hx hb dL_law_396 ?_
                          refine lr_sld X hi2 dL_law_397 ?_
                          obtain ⟨v, Mx1, My1, hf1, hf2, hRel⟩ := S.2.2.2.2.2.2.2.2.2.1 Mx My (xs (i + 1).toNatClampNeg) (xs (i + 2).toNatClampNeg) hRel
                          refine lr_callX X (As := [.int (xs (i + 1).toNatClampNeg), .int (xs (i + 2).toNatClampNeg)]) (rest := []) (fun _ hz => okX6_sign l X.2.2.2.2.2.2.2.2.2.1 (xs (i + 1).toNatClampNeg) (xs (i + 2).toNatClampNeg) Mx _ hz) hf1 (lcw_57 X.2.2.2.2.1 ⟨Nat.le_of_ble_eq_true rfl, Nat.le_of_ble_eq_true rfl⟩) rfl rfl (Nat.le_of_ble_eq_true rfl) dL_law_398 ⟨Nat.le_of_ble_eq_true rfl, Nat.le_of_ble_eq_true rfl⟩ ?_
                          refine sw_aload_n hx hb dL_law_401 2 rfl rfl ?_
                          refine sw_aload_n hx hb dL_law_402 0 rfl rfl ?_
                          refine sw_iload_n hx hb dL_law_403 3 rfl rfl ?_
                          refine sw_iconst hx hb 1 dL_law_404 (by decide) ?_
                          refine sw_iadd hx hb dL_law_405 ?_
                          refine lr_sld X hi1 dL_law_406 ?_
                          refine sw_aload_n hx hb dL_law_407 0 rfl rfl ?_
                          refine sw_iload_n hx hb dL_law_408 3 rfl rfl ?_
                          refine sw_iconst hx hb 2 dL_law_409 (by decide) ?_
                          refine sw_iadd hx hb dL_law_410 ?_
                          refine lr_sld X hi2 dL_law_411 ?_
                          refine lr_callY X (As := [.int (xs (i + 1).toNatClampNeg), .int (xs (i + 2).toNatClampNeg)]) (rest := [.int v]) (fun _ hz => okX7_sign l X.2.2.2.2.2.2.2.2.2.2.1 (xs (i + 1).toNatClampNeg) (xs (i + 2).toNatClampNeg) My _ hz) hf2 (lcw_60 X.2.2.2.2.1 ⟨Nat.le_of_ble_eq_true rfl, Nat.le_of_ble_eq_true rfl⟩) rfl rfl (Nat.le_of_ble_eq_true rfl) dL_law_412 ⟨Nat.le_of_ble_eq_true rfl, Nat.le_of_ble_eq_true rfl⟩ ?_
                          refine sw_icmp_eq hx hb 522 dL_law_415 (by decide) (E1 := some ()) (E2 := none) (r := ()) (if_pos rfl) (fun _ => ?_) (fun h => by cases h)
                          exact nxt_ Mx1 My1 hRel
                        · skip
                          by_cases hc10 : (xs i.toNatClampNeg &&& 15) = 10
                          · refine sw_tableIn hx hb (off := 388) 420 dL_law_32 (by rw [hc10]; decide) (by rw [hc10]; decide) (by rw [hc10]; decide +kernel) (by decide) ?_
                            refine sw_aload_n hx hb dL_law_420 1 rfl rfl ?_
                            refine sw_aload_n hx hb dL_law_421 0 rfl rfl ?_
                            refine sw_iload_n hx hb dL_law_422 3 rfl rfl ?_
                            refine sw_iconst hx hb 1 dL_law_423 (by decide) ?_
                            refine sw_iadd hx hb dL_law_424 ?_
                            refine lr_sld X hi1 dL_law_425 ?_
                            refine sw_aload_n hx hb dL_law_426 0 rfl rfl ?_
                            refine sw_iload_n hx hb dL_law_427 3 rfl rfl ?_
                            refine sw_iconst hx hb 2 dL_law_428 (by decide) ?_
                            refine sw_iadd hx hb dL_law_429 ?_
                            refine lr_sld X hi2 dL_law_430 ?_
                            obtain ⟨v, Mx1, My1, hf1, hf2, hRel⟩ := S.2.2.2.2.2.2.2.2.2.2.1 Mx My (xs (i + 1).toNatClampNeg) (xs (i + 2).toNatClampNeg) hRel
                            refine lr_callX X (As := [.int (xs (i + 1).toNatClampNeg), .int (xs (i + 2).toNatClampNeg)]) (rest := []) (fun _ hz => okX6_same l X.2.2.2.2.2.2.2.2.2.1 (xs (i + 1).toNatClampNeg) (xs (i + 2).toNatClampNeg) Mx _ hz) hf1 (lcw_61 X.2.2.2.2.1 ⟨Nat.le_of_ble_eq_true rfl, Nat.le_of_ble_eq_true rfl⟩) rfl rfl (Nat.le_of_ble_eq_true rfl) dL_law_431 ⟨Nat.le_of_ble_eq_true rfl, Nat.le_of_ble_eq_true rfl⟩ ?_
                            refine sw_aload_n hx hb dL_law_434 2 rfl rfl ?_
                            refine sw_aload_n hx hb dL_law_435 0 rfl rfl ?_
                            refine sw_iload_n hx hb dL_law_436 3 rfl rfl ?_
                            refine sw_iconst hx hb 1 dL_law_437 (by decide) ?_
                            refine sw_iadd hx hb dL_law_438 ?_
                            refine lr_sld X hi1 dL_law_439 ?_
                            refine sw_aload_n hx hb dL_law_440 0 rfl rfl ?_
                            refine sw_iload_n hx hb dL_law_441 3 rfl rfl ?_
                            refine sw_iconst hx hb 2 dL_law_442 (by decide) ?_
                            refine sw_iadd hx hb dL_law_443 ?_
                            refine lr_sld X hi2 dL_law_444 ?_
                            refine lr_callY X (As := [.int (xs (i + 1).toNatClampNeg), .int (xs (i + 2).toNatClampNeg)]) (rest := [.int v]) (fun _ hz => okX7_same l X.2.2.2.2.2.2.2.2.2.2.1 (xs (i + 1).toNatClampNeg) (xs (i + 2).toNatClampNeg) My _ hz) hf2 (lcw_64 X.2.2.2.2.1 ⟨Nat.le_of_ble_eq_true rfl, Nat.le_of_ble_eq_true rfl⟩) rfl rfl (Nat.le_of_ble_eq_true rfl) dL_law_445 ⟨Nat.le_of_ble_eq_true rfl, Nat.le_of_ble_eq_true rfl⟩ ?_
                            refine sw_icmp_eq hx hb 522 dL_law_448 (by decide) (E1 := some ()) (E2 := none) (r := ()) (if_pos rfl) (fun _ => ?_) (fun h => by cases h)
                            exact nxt_ Mx1 My1 hRel
                          · skip
                            by_cases hc11 : (xs i.toNatClampNeg &&& 15) = 11
                            · refine sw_tableIn hx hb (off := 421) 453 dL_law_32 (by rw [hc11]; decide) (by rw [hc11]; decide) (by rw [hc11]; decide +kernel) (by decide) ?_
                              refine sw_aload_n hx hb dL_law_453 1 rfl rfl ?_
                              refine sw_aload_n hx hb dL_law_454 0 rfl rfl ?_
                              refine sw_iload_n hx hb dL_law_455 3 rfl rfl ?_
                              refine sw_iconst hx hb 1 dL_law_456 (by decide) ?_
                              refine sw_iadd hx hb dL_law_457 ?_
                              refine lr_sld X hi1 dL_law_458 ?_
                              obtain ⟨v, Mx1, My1, hf1, hf2, hRel⟩ := S.2.2.2.2.2.2.2.2.2.2.2.1 Mx My (xs (i + 1).toNatClampNeg) hRel
                              refine lr_callX X (As := [.int (xs (i + 1).toNatClampNeg)]) (rest := []) (fun _ hz => okX6_cost l X.2.2.2.2.2.2.2.2.2.1 (xs (i + 1).toNatClampNeg) Mx _ hz) hf1 (lcw_65 X.2.2.2.2.1 ⟨Nat.le_of_ble_eq_true rfl, Nat.le_of_ble_eq_true rfl⟩) rfl rfl (Nat.le_of_ble_eq_true rfl) dL_law_459 ⟨Nat.le_of_ble_eq_true rfl, Nat.le_of_ble_eq_true rfl⟩ ?_
                              refine sw_aload_n hx hb dL_law_462 2 rfl rfl ?_
                              refine sw_aload_n hx hb dL_law_463 0 rfl rfl ?_
                              refine sw_iload_n hx hb dL_law_464 3 rfl rfl ?_
                              refine sw_iconst hx hb 1 dL_law_465 (by decide) ?_
                              refine sw_iadd hx hb dL_law_466 ?_
                              refine lr_sld X hi1 dL_law_467 ?_
                              refine lr_callY X (As := [.int (xs (i + 1).toNatClampNeg)]) (rest := [.int v]) (fun _ hz => okX7_cost l X.2.2.2.2.2.2.2.2.2.2.1 (xs (i + 1).toNatClampNeg) My _ hz) hf2 (lcw_68 X.2.2.2.2.1 ⟨Nat.le_of_ble_eq_true rfl, Nat.le_of_ble_eq_true rfl⟩) rfl rfl (Nat.le_of_ble_eq_true rfl) dL_law_468 ⟨Nat.le_of_ble_eq_true rfl, Nat.le_of_ble_eq_true rfl⟩ ?_
                              refine sw_icmp_eq hx hb 522 dL_law_471 (by decide) (E1 := some ()) (E2 := none) (r := ()) (if_pos rfl) (fun _ => ?_) (fun h => by cases h)
                              exact nxt_ Mx1 My1 hRel
                            · skip
                              by_cases hc12 : (xs i.toNatClampNeg &&& 15) = 12
                              · refine sw_tableIn hx hb (off := 444) 476 dL_law_32 (by rw [hc12]; decide) (by rw [hc12]; decide) (by rw [hc12]; decide +kernel) (by decide) ?_
                                refine sw_aload_n hx hb dL_law_476 1 rfl rfl ?_
                                refine sw_aload_n hx hb dL_law_477 0 rfl rfl ?_
                                refine sw_iload_n hx hb dL_law_478 3 rfl rfl ?_
                                refine sw_iconst hx hb 1 dL_law_479 (by decide) ?_
                                refine sw_iadd hx hb dL_law_480 ?_
                                refine lr_sld X hi1 dL_law_481 ?_
                                obtain ⟨v, Mx1, My1, hf1, hf2, hRel⟩ := S.2.2.2.2.2.2.2.2.2.2.2.2.1 Mx My (xs (i + 1).toNatClampNeg) hRel
                                refine lr_callX X (As := [.int (xs (i + 1).toNatClampNeg)]) (rest := []) (fun _ hz => okX6_match l X.2.2.2.2.2.2.2.2.2.1 (xs (i + 1).toNatClampNeg) Mx _ hz) hf1 (lcw_69 X.2.2.2.2.1 ⟨Nat.le_of_ble_eq_true rfl, Nat.le_of_ble_eq_true rfl⟩) rfl rfl (Nat.le_of_ble_eq_true rfl) dL_law_482 ⟨Nat.le_of_ble_eq_true rfl, Nat.le_of_ble_eq_true rfl⟩ ?_
                                refine sw_aload_n hx hb dL_law_485 2 rfl rfl ?_
                                refine sw_aload_n hx hb dL_law_486 0 rfl rfl ?_
                                refine sw_iload_n hx hb dL_law_487 3 rfl rfl ?_
                                refine sw_iconst hx hb 1 dL_law_488 (by decide) ?_
                                refine sw_iadd hx hb dL_law_489 ?_
                                refine lr_sld X hi1 dL_law_490 ?_
                                refine lr_callY X (As := [.int (xs (i + 1).toNatClampNeg)]) (rest := [.int v]) (fun _ hz => okX7_match l X.2.2.2.2.2.2.2.2.2.2.1 (xs (i + 1).toNatClampNeg) My _ hz) hf2 (lcw_72 X.2.2.2.2.1 ⟨Nat.le_of_ble_eq_true rfl, Nat.le_of_ble_eq_true rfl⟩) rfl rfl (Nat.le_of_ble_eq_true rfl) dL_law_491 ⟨Nat.le_of_ble_eq_true rfl, Nat.le_of_ble_eq_true rfl⟩ ?_
                                refine sw_icmp_eq hx hb 522 dL_law_494 (by decide) (E1 := some ()) (E2 := none) (r := ()) (if_pos rfl) (fun _ => ?_) (fun h => by cases h)
                                exact nxt_ Mx1 My1 hRel
                              · skip
                                by_cases hc13 : (xs i.toNatClampNeg &&& 15) = 13
                                · refine sw_tableIn hx hb (off := 467) 499 dL_law_32 (by rw [hc13]; decide) (by rw [hc13]; decide) (by rw [hc13]; decide +kernel) (by decide) ?_
                                  refine sw_aload_n hx hb dL_law_499 1 rfl rfl ?_
                                  refine sw_aload_n hx hb dL_law_500 0 rfl rfl ?_
                                  refine sw_iload_n hx hb dL_law_501 3 rfl rfl ?_
                                  refine sw_iconst hx hb 1 dL_law_502 (by decide) ?_
                                  refine sw_iadd hx hb dL_law_503 ?_
                                  refine lr_sld X hi1 dL_law_504 ?_
                                  obtain ⟨v, Mx1, My1, hf1, hf2, hRel⟩ := S.2.2.2.2.2.2.2.2.2.2.2.2.2 Mx My (xs (i + 1).toNatClampNeg) hRel
                                  refine lr_callX X (As := [.int (xs (i + 1).toNatClampNeg)]) (rest := []) (fun _ hz => okX6_count l X.2.2.2.2.2.2.2.2.2.1 (xs (i + 1).toNatClampNeg) Mx _ hz) hf1 (lcw_73 X.2.2.2.2.1 ⟨Nat.le_of_ble_eq_true rfl, Nat.le_of_ble_eq_true rfl⟩) rfl rfl (Nat.le_of_ble_eq_true rfl) dL_law_505 ⟨Nat.le_of_ble_eq_true rfl, Nat.le_of_ble_eq_true rfl⟩ ?_
                                  refine sw_aload_n hx hb dL_law_508 2 rfl rfl ?_
                                  refine sw_aload_n hx hb dL_law_509 0 rfl rfl ?_
                                  refine sw_iload_n hx hb dL_law_510 3 rfl rfl ?_
                                  refine sw_iconst hx hb 1 dL_law_511 (by decide) ?_
                                  refine sw_iadd hx hb dL_law_512 ?_
                                  refine lr_sld X hi1 dL_law_513 ?_
                                  refine lr_callY X (As := [.int (xs (i + 1).toNatClampNeg)]) (rest := [.int v]) (fun _ hz => okX7_count l X.2.2.2.2.2.2.2.2.2.2.1 (xs (i + 1).toNatClampNeg) My _ hz) hf2 (lcw_76 X.2.2.2.2.1 ⟨Nat.le_of_ble_eq_true rfl, Nat.le_of_ble_eq_true rfl⟩) rfl rfl (Nat.le_of_ble_eq_true rfl) dL_law_514 ⟨Nat.le_of_ble_eq_true rfl, Nat.le_of_ble_eq_true rfl⟩ ?_
                                  refine sw_icmp_eq hx hb 522 dL_law_517 (by decide) (E1 := some ()) (E2 := none) (r := ()) (if_pos rfl) (fun _ => ?_) (fun h => by cases h)
                                  exact nxt_ Mx1 My1 hRel
                                · skip
                                  refine sw_tableOut hx hb 522 dL_law_32 (by have q0 := lv_neT hc0 (show (0 : Int32).toInt = 0 from rfl); have q1 := lv_neT hc1 (show (1 : Int32).toInt = 1 from rfl); have q2 := lv_neT hc2 (show (2 : Int32).toInt = 2 from rfl); have q3 := lv_neT hc3 (show (3 : Int32).toInt = 3 from rfl); have q4 := lv_neT hc4 (show (4 : Int32).toInt = 4 from rfl); have q5 := lv_neT hc5 (show (5 : Int32).toInt = 5 from rfl); have q6 := lv_neT hc6 (show (6 : Int32).toInt = 6 from rfl); have q7 := lv_neT hc7 (show (7 : Int32).toInt = 7 from rfl); have q8 := lv_neT hc8 (show (8 : Int32).toInt = 8 from rfl); have q9 := lv_neT hc9 (show (9 : Int32).toInt = 9 from rfl); have q10 := lv_neT hc10 (show (10 : Int32).toInt = 10 from rfl); have q11 := lv_neT hc11 (show (11 : Int32).toInt = 11 from rfl); have q12 := lv_neT hc12 (show (12 : Int32).toInt = 12 from rfl); have q13 := lv_neT hc13 (show (13 : Int32).toInt = 13 from rfl); omega) (by decide) ?_
                                  exact nxt_ Mx My hRel

