def R_law : String := "TokenMachinesLaw"
def lw_P (b : Addr) (xs : List Int32) (args : Array Value) (s : State) : Prop := args = #[.ref b] ∧ s.IntsAt b xs ∧ xs.length ≤ 2048 ∧ (Jvm.Cond.and given_1 narrow_1).before args s = true
def lw_Q (_ : Array Value) (s : State) (o : Outcome) (t : State) : Prop := o = .returned (some (.int 1)) ∧ Framed s o t [] 600000 7302249
def lw_Z (below : List Frame) (a : Array Value) (s : State) : State → Prop := fun t => ∃ o, t.status = .running ∧ Ended t below o ∧ lw_Q a s o t
/-- the law's own end, with 1 on the stack, nothing written that was there before, its room as the claim has it -/
theorem lw_ret {p : Program} {l : Launch} {e : Env} {s : State} {m : MethodId} {below : List Frame} {meth : Method} {c : Code} {b : Nat} (hx : p.tables.exec = Jvm.exec) (hb : c.code = code) (hr : meth.sig.returnType = ret) (hlocks : meth.locks = false) {pc : Nat} {H : Heap} {ls : Array Slot} (hdg : decode code pc = .ok (.ireturn, 1)) : W p l e room_1 s m #[Value.ref b] below meth c H [] 600000 7302249 (lw_Z below #[Value.ref b] s) (F0 m pc ls [.int 1]) := by
  intro T hT X
  obtain ⟨fs, hret, hrun, hended, hW, hframe⟩ := X.leave (v := some (.int 1)) (hlocks := hlocks) (fun h => by rw [hr] at h; cases h)
  have hmeth' : T.vm.method? m = some meth := X.method'
  refine ⟨T.setFrames fs, ?_, .returned (some (.int 1)), hrun, hended, rfl, ⟨_, rfl⟩, hW, hframe⟩
  jvm_step X.here [X.here.top, hx, hb, hdg, hmeth', hr, ret, narrow_b1]
  (try refine ⟨rfl, ?_⟩); (try refine ⟨rfl, ?_⟩)
  first | (intro acts; rw [hret _ acts rfl rfl rfl]) | rw [hret _ _ rfl rfl rfl]
  exact Steps.refl _
/-- what holds at the law's entry: the machine, the code, the tables' words (any of lw_tbl by 'hts w (by decide +kernel)'), the script of L ints xs at the cell b, what the Statement gives of the start (any of its parts by flat_of_before) -/
def lw_At (p : Program) (s : State) (m : MethodId) (meth : Method) (c : Code) (b L : Nat) (xs : Nat → Int32) : Prop :=
  p.tables.exec = Jvm.exec ∧ c.code = code ∧ meth.sig.returnType = ret ∧ c.maxLocals = 4 ∧ s.vm.findClass R_law = some m.cls ∧ (∀ w ∈ lw_tbl, w.before #[Value.ref b] s = true) ∧ va_X b L xs s s.heap ∧ b < s.heap.size ∧ meth.locks = false ∧ (Jvm.Cond.and given_1 narrow_1).before #[Value.ref b] s = true

def LH (D : va_G) (cy : Nat → ClassId) (ad : Nat → Nat) (s : State) (Mx My : Mem) : Heap → List Loc → Prop := fun H locs => va_P D vwCl (wl cy ad iX Mx) H ∧ va_P D vwCl (wl cy ad iY My) H ∧ va_S (fun q => s.heap.size ≤ q) s.heap H locs
def CLw (p : Program) (s : State) (m : MethodId) (meth : Method) (c : Code) (D : va_G) (cy : Nat → ClassId) (ad : Nat → Nat) (b L : Nat) (xs : Nat → Int32) : Prop :=
  p.tables.exec = Jvm.exec ∧ c.code = code ∧ c.maxLocals = 4 ∧ s.vm.findClass RL = some m.cls ∧ (∀ w ∈ lw_tbl, w.before #[Value.ref b] s = true) ∧ va_X b L xs s s.heap ∧ b < s.heap.size ∧ va_K D vwCl (tyL cy) s ∧ NWs s ∧ (∀ M : Mem, va_D (AA ad iX) (wl cy ad iX M)) ∧ (∀ M : Mem, va_D (AA ad iY) (wl cy ad iY M)) ∧ (∀ a, a ∈ iX → ∀ b, b ∈ iY → ad a ≠ ad b) ∧ (∀ a, a ∈ iX → s.heap.size ≤ ad a) ∧ (∀ a, a ∈ iY → s.heap.size ≤ ad a)
theorem goodLV {y1 : MethodName} {b1 : ByteArray} {n1 idx : Nat} {r1 : Option FieldType} {own C : String} (hc : Cond.code y1 b1 n1 r1 ∈ GG) (h1 : Cond.methodLink own idx y1 ∈ GG) (h2 : Cond.instanceMethod y1 ∈ GG) (h3 : Cond.selects C y1 y1 ∈ GG) (h4 : Cond.initialized C ∈ GG) : GoodIn lw_tbl (wsV own idx C y1 (wsG y1 b1 n1 r1)) := by
  intro w hw
  rcases List.mem_append.mp hw with h | h
  · simp only [List.mem_cons, List.not_mem_nil, or_false] at h
    rcases h with rfl | rfl | rfl | rfl
    · exact ⟨GG_tbl h1, GG_good h1⟩
    · exact ⟨GG_tbl h2, GG_good h2⟩
    · exact ⟨GG_tbl h3, GG_good h3⟩
    · exact ⟨GG_tbl h4, GG_good h4⟩
  · rcases List.mem_cons.mp h with rfl | h
    · exact ⟨GG_tbl hc, GG_good hc⟩
    · exact ⟨GG_tbl h, GG_good h⟩
theorem goodLG {y1 : MethodName} {b1 : ByteArray} {n1 : Nat} {r1 : Option FieldType} (hc : Cond.code y1 b1 n1 r1 ∈ GG) : GoodIn lw_tbl (wsG y1 b1 n1 r1) := by
  intro w h
  rcases List.mem_cons.mp h with rfl | h
  · exact ⟨GG_tbl hc, GG_good hc⟩
  · exact ⟨GG_tbl h, GG_good h⟩
section LR
variable {p : Program} {l : Launch} {e : Env} {R : Room} {s : State} {m : MethodId} {below : List Frame} {meth : Method} {c : Code} {cells slots : Nat} {Q : State → Prop} {pc : Nat} {lv : List (Nat × Value)} {rest : List Value} {D : va_G} {cy : Nat → ClassId} {ad : Nat → Nat} {b L : Nat} {xs : Nat → Int32} {Mx My : Mem}
theorem lr_sld (X : CLw p s m meth c D cy ad b L xs) {i : Int32} (hi : vp_in i L) (hdg : decode code pc = .ok (.iaload, 1)) (kk : SW p l e R s m #[Value.ref b] below meth c cells slots Q 4 (LH D cy ad s Mx My) (pc + 1) lv (.int (xs i.toNatClampNeg) :: rest)) : SW p l e R s m #[Value.ref b] below meth c cells slots Q 4 (LH D cy ad s Mx My) pc lv (.int i :: .ref b :: rest) := by
  intro H locs ls hΦ hl
  obtain ⟨hx, hb, hml, hown, hts, hX, hbl, hK, hNW, hDX, hDY, hdis, hgX, hgY⟩ := X
  exact va_sld hx hb hX hbl (A := fun q => s.heap.size ≤ q) (Nat.not_le.mpr hbl) hΦ.2.2 hi hdg (kk H locs ls hΦ hl)
theorem lr_slen (X : CLw p s m meth c D cy ad b L xs) (hdg : decode code pc = .ok (.arraylength, 1)) (kk : SW p l e R s m #[Value.ref b] below meth c cells slots Q 4 (LH D cy ad s Mx My) (pc + 1) lv (.int (nI L) :: rest)) : SW p l e R s m #[Value.ref b] below meth c cells slots Q 4 (LH D cy ad s Mx My) pc lv (.ref b :: rest) := by
  intro H locs ls hΦ hl
  obtain ⟨hx, hb, hml, hown, hts, hX, hbl, hK, hNW, hDX, hDY, hdis, hgX, hgY⟩ := X
  exact va_slen hx hb hX hbl (A := fun q => s.heap.size ≤ q) (Nat.not_le.mpr hbl) hΦ.2.2 hdg (kk H locs ls hΦ hl)
theorem lr_ldc2 (X : CLw p s m meth c D cy ad b L xs) {index : Nat} {v : Int64} (hc : Cond.constantLong RL index v ∈ GG) (hdg : decode code pc = .ok (.ldc2_w index, 3)) (kk : SW p l e R s m #[Value.ref b] below meth c cells slots Q 4 (LH D cy ad s Mx My) (pc + 3) lv (.long v :: rest)) : SW p l e R s m #[Value.ref b] below meth c cells slots Q 4 (LH D cy ad s Mx My) pc lv rest := fun H locs ls hΦ hl => lv_ldc2 X.1 X.2.1 X.2.2.2.1 (X.2.2.2.2.1 _ (GG_tbl hc)) hdg (kk H locs ls hΦ hl)
theorem lr_callX (X : CLw p s m meth c D cy ad b L xs) {y : MethodName} {bytes : ByteArray} {maxL n index : Nat} {ret : Option FieldType} {ws : List Cond} {rm : Room} {As st0 : List Value} {f : Option (Int32 × Mem)} {v : Int32} {M1 : Mem} (hM : ∀ z, f = some z → CTI l y ws rm D cy ad iX (.ref (ad 0) :: As) Mx z) (hf : f = some (v, M1)) (cw : CallW R s #[Value.ref b] RL RX6 index y bytes maxL ret ws rm 0 0 n) (hn : As.length = n) (hst : st0 = As.reverse ++ .ref (ad 0) :: rest) (hW : (rest.map fun v => v.category).sum ≤ 8) (hdg : decode code pc = .ok (.invokevirtual index, 3)) (hfit : cells + 0 ≤ R.cells ∧ slots + 0 ≤ R.slots) (kk : SW p l e R s m #[Value.ref b] below meth c cells slots Q 4 (LH D cy ad s M1 My) (pc + 3) lv (.int v :: rest)) : SW p l e R s m #[Value.ref b] below meth c cells slots Q 4 (LH D cy ad s Mx My) pc lv st0 := by
  intro H locs ls hΦ hl
  obtain ⟨hx, hb, hml, hown, hts, hX, hbl, hK, hNW, hDX, hDY, hdis, hgX, hgY⟩ := X
  obtain ⟨q0, hq⟩ := ids_at mi_0
  have hr := va_recv (tys := tyL cy) hK hΦ.1 (ci := 6) (q := (RX6, TX6, 7)) rfl ((wl_at hq).trans (congrArg (fun e => some (ad 0, e)) (ce_6 rfl)))
  have hrun := va_runV (g := F0 m pc ls st0) (As := As) (rest := rest) (cells := cells) (slots := slots) (H := H) (locs := locs) (below := below) (meth := meth) (e := e) ⟨hx, hb, hml, hown, hts⟩ (hM _ hf) cw ⟨PB.blind, hr, fun U hU hW => ⟨rfl, by rw [hU]; exact hΦ.1, va_K.moved hW.alike hK, NWs.warm hW hNW⟩⟩ rfl hn hl.1 hst (lv_room hW) hdg hfit
  refine va_calli hrun hΦ.2.2 (fun q _ h => ?_) (fun q h => ?_) (fun rr u t H1 locs1 ht hvm hw hB hz1 hk1 hS => ?_)
  · obtain ⟨a, ha, rfl⟩ := h
    exact hgX a ha
  · obtain ⟨a, ha, rfl⟩ := h
    exact hgX a ha
  · subst ht
    obtain ⟨h1, h2⟩ := hw
    dsimp only at h1 h2
    subst h1; subst h2
    have hoth : va_P D vwCl (wl cy ad iY My) t.heap := hΦ.2.1.kept (fun k q hk => by
      refine hk1 q.1 ((hΦ.2.1 k q hk).lt) ?_
      rintro ⟨a, ha, e1⟩
      have hmem := List.mem_of_getElem? hk
      obtain ⟨a2, ha2, rfl⟩ := List.mem_map.mp hmem
      exact hdis a ha a2 ha2 e1.symm)
    exact kk t.heap locs1 ls ⟨hB, hoth, hS⟩ hl
theorem lr_callY (X : CLw p s m meth c D cy ad b L xs) {y : MethodName} {bytes : ByteArray} {maxL n index : Nat} {ret : Option FieldType} {ws : List Cond} {rm : Room} {As st0 : List Value} {f : Option (Int32 × Mem)} {v : Int32} {M1 : Mem} (hM : ∀ z, f = some z → CTI l y ws rm D cy ad iY (.ref (ad 50) :: As) My z) (hf : f = some (v, M1)) (cw : CallW R s #[Value.ref b] RL RX7 index y bytes maxL ret ws rm 0 0 n) (hn : As.length = n) (hst : st0 = As.reverse ++ .ref (ad 50) :: rest) (hW : (rest.map fun v => v.category).sum ≤ 8) (hdg : decode code pc = .ok (.invokevirtual index, 3)) (hfit : cells + 0 ≤ R.cells ∧ slots + 0 ≤ R.slots) (kk : SW p l e R s m #[Value.ref b] below meth c cells slots Q 4 (LH D cy ad s Mx M1) (pc + 3) lv (.int v :: rest)) : SW p l e R s m #[Value.ref b] below meth c cells slots Q 4 (LH D cy ad s Mx My) pc lv st0 := by
  intro H locs ls hΦ hl
  obtain ⟨hx, hb, hml, hown, hts, hX, hbl, hK, hNW, hDX, hDY, hdis, hgX, hgY⟩ := X
  obtain ⟨q0, hq⟩ := ids_at mi_50
  have hr := va_recv (tys := tyL cy) hK hΦ.2.1 (ci := 7) (q := (RX7, TX7, 45)) rfl ((wl_at hq).trans (congrArg (fun e => some (ad 50, e)) (ce_7 rfl)))
  have hrun := va_runV (g := F0 m pc ls st0) (As := As) (rest := rest) (cells := cells) (slots := slots) (H := H) (locs := locs) (below := below) (meth := meth) (e := e) ⟨hx, hb, hml, hown, hts⟩ (hM _ hf) cw ⟨PB.blind, hr, fun U hU hW => ⟨rfl, by rw [hU]; exact hΦ.2.1, va_K.moved hW.alike hK, NWs.warm hW hNW⟩⟩ rfl hn hl.1 hst (lv_room hW) hdg hfit
  refine va_calli hrun hΦ.2.2 (fun q _ h => ?_) (fun q h => ?_) (fun rr u t H1 locs1 ht hvm hw hB hz1 hk1 hS => ?_)
  · obtain ⟨a, ha, rfl⟩ := h
    exact hgY a ha
  · obtain ⟨a, ha, rfl⟩ := h
    exact hgY a ha
  · subst ht
    obtain ⟨h1, h2⟩ := hw
    dsimp only at h1 h2
    subst h1; subst h2
    have hoth : va_P D vwCl (wl cy ad iX Mx) t.heap := hΦ.1.kept (fun k q hk => by
      refine hk1 q.1 ((hΦ.1 k q hk).lt) ?_
      rintro ⟨a, ha, e1⟩
      have hmem := List.mem_of_getElem? hk
      obtain ⟨a2, ha2, rfl⟩ := List.mem_map.mp hmem
      exact hdis a2 ha2 a ha e1)
    exact kk t.heap locs1 ls ⟨hoth, hB, hS⟩ hl
end LR
theorem lcw_15 {R : Room} {s : State} {args : Array Value} (hts : ∀ w ∈ lw_tbl, w.before args s = true) (hR : rm_X6_feed.frames + 1 ≤ R.frames ∧ 8 + (5 + 11) + rm_X6_feed.locals ≤ R.locals) : CallW R s args RL RX6 15 yX6_feed cX6_feed 5 (some .int) (wsG yX6_feed cX6_feed 5 (some .int)) rm_X6_feed 0 0 2 := cwV 2 hts (goodLV wd609 wd610 wd611 wd612 wd188) rfl rfl rfl (by decide +kernel) hR
theorem lcw_19 {R : Room} {s : State} {args : Array Value} (hts : ∀ w ∈ lw_tbl, w.before args s = true) (hR : rm_X7_feed.frames + 1 ≤ R.frames ∧ 8 + (5 + 11) + rm_X7_feed.locals ≤ R.locals) : CallW R s args RL RX7 19 yX7_feed cX7_feed 5 (some .int) (wsG yX7_feed cX7_feed 5 (some .int)) rm_X7_feed 0 0 2 := cwV 2 hts (goodLV wd613 wd614 wd615 wd616 wd394) rfl rfl rfl (by decide +kernel) hR
theorem lcw_20 {R : Room} {s : State} {args : Array Value} (hts : ∀ w ∈ lw_tbl, w.before args s = true) (hR : rm_X6_text.frames + 1 ≤ R.frames ∧ 8 + (1 + 11) + rm_X6_text.locals ≤ R.locals) : CallW R s args RL RX6 20 yX6_text cX6_text 1 (some .int) (wsG yX6_text cX6_text 1 (some .int)) rm_X6_text 0 0 0 := cwV 0 hts (goodLV wd617 wd618 wd619 wd620 wd188) rfl rfl rfl (by decide +kernel) hR
theorem lcw_24 {R : Room} {s : State} {args : Array Value} (hts : ∀ w ∈ lw_tbl, w.before args s = true) (hR : rm_X7_text.frames + 1 ≤ R.frames ∧ 8 + (2 + 11) + rm_X7_text.locals ≤ R.locals) : CallW R s args RL RX7 24 yX7_text cX7_text 2 (some .int) (wsG yX7_text cX7_text 2 (some .int)) rm_X7_text 0 0 0 := cwV 0 hts (goodLV wd621 wd622 wd623 wd624 wd394) rfl rfl rfl (by decide +kernel) hR
theorem lcw_25 {R : Room} {s : State} {args : Array Value} (hts : ∀ w ∈ lw_tbl, w.before args s = true) (hR : rm_X6_pattern.frames + 1 ≤ R.frames ∧ 8 + (2 + 11) + rm_X6_pattern.locals ≤ R.locals) : CallW R s args RL RX6 25 yX6_pattern cX6_pattern 2 (some .int) (wsG yX6_pattern cX6_pattern 2 (some .int)) rm_X6_pattern 0 0 0 := cwV 0 hts (goodLV wd625 wd626 wd627 wd628 wd188) rfl rfl rfl (by decide +kernel) hR
theorem lcw_28 {R : Room} {s : State} {args : Array Value} (hts : ∀ w ∈ lw_tbl, w.before args s = true) (hR : rm_X7_pattern.frames + 1 ≤ R.frames ∧ 8 + (3 + 11) + rm_X7_pattern.locals ≤ R.locals) : CallW R s args RL RX7 28 yX7_pattern cX7_pattern 3 (some .int) (wsG yX7_pattern cX7_pattern 3 (some .int)) rm_X7_pattern 0 0 0 := cwV 0 hts (goodLV wd629 wd630 wd631 wd632 wd394) rfl rfl rfl (by decide +kernel) hR
theorem lcw_29 {R : Room} {s : State} {args : Array Value} (hts : ∀ w ∈ lw_tbl, w.before args s = true) (hR : rm_X6_word.frames + 1 ≤ R.frames ∧ 8 + (3 + 11) + rm_X6_word.locals ≤ R.locals) : CallW R s args RL RX6 29 yX6_word cX6_word 3 (some .int) (wsG yX6_word cX6_word 3 (some .int)) rm_X6_word 0 0 1 := cwV 1 hts (goodLV wd633 wd634 wd635 wd636 wd188) rfl rfl rfl (by decide +kernel) hR
theorem lcw_33 {R : Room} {s : State} {args : Array Value} (hts : ∀ w ∈ lw_tbl, w.before args s = true) (hR : rm_X7_word.frames + 1 ≤ R.frames ∧ 8 + (7 + 11) + rm_X7_word.locals ≤ R.locals) : CallW R s args RL RX7 33 yX7_word cX7_word 7 (some .int) (wsG yX7_word cX7_word 7 (some .int)) rm_X7_word 0 0 1 := cwV 1 hts (goodLV wd637 wd638 wd639 wd640 wd394) rfl rfl rfl (by decide +kernel) hR
theorem lcw_34 {R : Room} {s : State} {args : Array Value} (hts : ∀ w ∈ lw_tbl, w.before args s = true) (hR : rm_X6_strange.frames + 1 ≤ R.frames ∧ 8 + (2 + 11) + rm_X6_strange.locals ≤ R.locals) : CallW R s args RL RX6 34 yX6_strange cX6_strange 2 (some .int) (wsG yX6_strange cX6_strange 2 (some .int)) rm_X6_strange 0 0 1 := cwV 1 hts (goodLV wd641 wd642 wd643 wd644 wd188) rfl rfl rfl (by decide +kernel) hR
theorem lcw_37 {R : Room} {s : State} {args : Array Value} (hts : ∀ w ∈ lw_tbl, w.before args s = true) (hR : rm_X7_strange.frames + 1 ≤ R.frames ∧ 8 + (3 + 11) + rm_X7_strange.locals ≤ R.locals) : CallW R s args RL RX7 37 yX7_strange cX7_strange 3 (some .int) (wsG yX7_strange cX7_strange 3 (some .int)) rm_X7_strange 0 0 1 := cwV 1 hts (goodLV wd645 wd646 wd647 wd648 wd394) rfl rfl rfl (by decide +kernel) hR
theorem lcw_38 {R : Room} {s : State} {args : Array Value} (hts : ∀ w ∈ lw_tbl, w.before args s = true) (hR : rm_X6_links.frames + 1 ≤ R.frames ∧ 8 + (3 + 11) + rm_X6_links.locals ≤ R.locals) : CallW R s args RL RX6 38 yX6_links cX6_links 3 (some .int) (wsG yX6_links cX6_links 3 (some .int)) rm_X6_links 0 0 1 := cwV 1 hts (goodLV wd649 wd650 wd651 wd652 wd188) rfl rfl rfl (by decide +kernel) hR
theorem lcw_42 {R : Room} {s : State} {args : Array Value} (hts : ∀ w ∈ lw_tbl, w.before args s = true) (hR : rm_X7_links.frames + 1 ≤ R.frames ∧ 8 + (3 + 11) + rm_X7_links.locals ≤ R.locals) : CallW R s args RL RX7 42 yX7_links cX7_links 3 (some .int) (wsG yX7_links cX7_links 3 (some .int)) rm_X7_links 0 0 1 := cwV 1 hts (goodLV wd653 wd654 wd655 wd656 wd394) rfl rfl rfl (by decide +kernel) hR
theorem lcw_43 {R : Room} {s : State} {args : Array Value} (hts : ∀ w ∈ lw_tbl, w.before args s = true) (hR : rm_X6_longest.frames + 1 ≤ R.frames ∧ 8 + (3 + 11) + rm_X6_longest.locals ≤ R.locals) : CallW R s args RL RX6 43 yX6_longest cX6_longest 3 (some .int) (wsG yX6_longest cX6_longest 3 (some .int)) rm_X6_longest 0 0 2 := cwV 2 hts (goodLV wd657 wd658 wd659 wd660 wd188) rfl rfl rfl (by decide +kernel) hR
theorem lcw_47 {R : Room} {s : State} {args : Array Value} (hts : ∀ w ∈ lw_tbl, w.before args s = true) (hR : rm_X7_longest.frames + 1 ≤ R.frames ∧ 8 + (4 + 11) + rm_X7_longest.locals ≤ R.locals) : CallW R s args RL RX7 47 yX7_longest cX7_longest 4 (some .int) (wsG yX7_longest cX7_longest 4 (some .int)) rm_X7_longest 0 0 2 := cwV 2 hts (goodLV wd661 wd662 wd663 wd664 wd394) rfl rfl rfl (by decide +kernel) hR
theorem lcw_48 {R : Room} {s : State} {args : Array Value} (hts : ∀ w ∈ lw_tbl, w.before args s = true) (hR : rm_X6_tokens.frames + 1 ≤ R.frames ∧ 8 + (5 + 11) + rm_X6_tokens.locals ≤ R.locals) : CallW R s args RL RX6 48 yX6_tokens cX6_tokens 5 (some .int) (wsG yX6_tokens cX6_tokens 5 (some .int)) rm_X6_tokens 0 0 3 := cwV 3 hts (goodLV wd665 wd666 wd667 wd668 wd188) rfl rfl rfl (by decide +kernel) hR
theorem lcw_52 {R : Room} {s : State} {args : Array Value} (hts : ∀ w ∈ lw_tbl, w.before args s = true) (hR : rm_X7_tokens.frames + 1 ≤ R.frames ∧ 8 + (6 + 11) + rm_X7_tokens.locals ≤ R.locals) : CallW R s args RL RX7 52 yX7_tokens cX7_tokens 6 (some .int) (wsG yX7_tokens cX7_tokens 6 (some .int)) rm_X7_tokens 0 0 3 := cwV 3 hts (goodLV wd669 wd670 wd671 wd672 wd394) rfl rfl rfl (by decide +kernel) hR
theorem lcw_53 {R : Room} {s : State} {args : Array Value} (hts : ∀ w ∈ lw_tbl, w.before args s = true) (hR : rm_X6_token.frames + 1 ≤ R.frames ∧ 8 + (3 + 11) + rm_X6_token.locals ≤ R.locals) : CallW R s args RL RX6 53 yX6_token cX6_token 3 (some .int) (wsG yX6_token cX6_token 3 (some .int)) rm_X6_token 0 0 2 := cwV 2 hts (goodLV wd673 wd674 wd675 wd676 wd188) rfl rfl rfl (by decide +kernel) hR
theorem lcw_56 {R : Room} {s : State} {args : Array Value} (hts : ∀ w ∈ lw_tbl, w.before args s = true) (hR : rm_X7_token.frames + 1 ≤ R.frames ∧ 8 + (3 + 11) + rm_X7_token.locals ≤ R.locals) : CallW R s args RL RX7 56 yX7_token cX7_token 3 (some .int) (wsG yX7_token cX7_token 3 (some .int)) rm_X7_token 0 0 2 := cwV 2 hts (goodLV wd677 wd678 wd679 wd680 wd394) rfl rfl rfl (by decide +kernel) hR
theorem lcw_57 {R : Room} {s : State} {args : Array Value} (hts : ∀ w ∈ lw_tbl, w.before args s = true) (hR : rm_X6_sign.frames + 1 ≤ R.frames ∧ 8 + (3 + 11) + rm_X6_sign.locals ≤ R.locals) : CallW R s args RL RX6 57 yX6_sign cX6_sign 3 (some .int) (wsG yX6_sign cX6_sign 3 (some .int)) rm_X6_sign 0 0 2 := cwV 2 hts (goodLV wd681 wd682 wd683 wd684 wd188) rfl rfl rfl (by decide +kernel) hR
theorem lcw_60 {R : Room} {s : State} {args : Array Value} (hts : ∀ w ∈ lw_tbl, w.before args s = true) (hR : rm_X7_sign.frames + 1 ≤ R.frames ∧ 8 + (3 + 11) + rm_X7_sign.locals ≤ R.locals) : CallW R s args RL RX7 60 yX7_sign cX7_sign 3 (some .int) (wsG yX7_sign cX7_sign 3 (some .int)) rm_X7_sign 0 0 2 := cwV 2 hts (goodLV wd685 wd686 wd687 wd688 wd394) rfl rfl rfl (by decide +kernel) hR
theorem lcw_61 {R : Room} {s : State} {args : Array Value} (hts : ∀ w ∈ lw_tbl, w.before args s = true) (hR : rm_X6_same.frames + 1 ≤ R.frames ∧ 8 + (5 + 11) + rm_X6_same.locals ≤ R.locals) : CallW R s args RL RX6 61 yX6_same cX6_same 5 (some .int) (wsG yX6_same cX6_same 5 (some .int)) rm_X6_same 0 0 2 := cwV 2 hts (goodLV wd689 wd690 wd691 wd692 wd188) rfl rfl rfl (by decide +kernel) hR
theorem lcw_64 {R : Room} {s : State} {args : Array Value} (hts : ∀ w ∈ lw_tbl, w.before args s = true) (hR : rm_X7_same.frames + 1 ≤ R.frames ∧ 8 + (6 + 11) + rm_X7_same.locals ≤ R.locals) : CallW R s args RL RX7 64 yX7_same cX7_same 6 (some .int) (wsG yX7_same cX7_same 6 (some .int)) rm_X7_same 0 0 2 := cwV 2 hts (goodLV wd693 wd694 wd695 wd696 wd394) rfl rfl rfl (by decide +kernel) hR
theorem lcw_65 {R : Room} {s : State} {args : Array Value} (hts : ∀ w ∈ lw_tbl, w.before args s = true) (hR : rm_X6_cost.frames + 1 ≤ R.frames ∧ 8 + (4 + 11) + rm_X6_cost.locals ≤ R.locals) : CallW R s args RL RX6 65 yX6_cost cX6_cost 4 (some .int) (wsG yX6_cost cX6_cost 4 (some .int)) rm_X6_cost 0 0 1 := cwV 1 hts (goodLV wd697 wd698 wd699 wd700 wd188) rfl rfl rfl (by decide +kernel) hR
theorem lcw_68 {R : Room} {s : State} {args : Array Value} (hts : ∀ w ∈ lw_tbl, w.before args s = true) (hR : rm_X7_cost.frames + 1 ≤ R.frames ∧ 8 + (4 + 11) + rm_X7_cost.locals ≤ R.locals) : CallW R s args RL RX7 68 yX7_cost cX7_cost 4 (some .int) (wsG yX7_cost cX7_cost 4 (some .int)) rm_X7_cost 0 0 1 := cwV 1 hts (goodLV wd701 wd702 wd703 wd704 wd394) rfl rfl rfl (by decide +kernel) hR
theorem lcw_69 {R : Room} {s : State} {args : Array Value} (hts : ∀ w ∈ lw_tbl, w.before args s = true) (hR : rm_X6_match.frames + 1 ≤ R.frames ∧ 8 + (2 + 11) + rm_X6_match.locals ≤ R.locals) : CallW R s args RL RX6 69 yX6_match cX6_match 2 (some .int) (wsG yX6_match cX6_match 2 (some .int)) rm_X6_match 0 0 1 := cwV 1 hts (goodLV wd705 wd706 wd707 wd708 wd188) rfl rfl rfl (by decide +kernel) hR
theorem lcw_72 {R : Room} {s : State} {args : Array Value} (hts : ∀ w ∈ lw_tbl, w.before args s = true) (hR : rm_X7_match.frames + 1 ≤ R.frames ∧ 8 + (2 + 11) + rm_X7_match.locals ≤ R.locals) : CallW R s args RL RX7 72 yX7_match cX7_match 2 (some .int) (wsG yX7_match cX7_match 2 (some .int)) rm_X7_match 0 0 1 := cwV 1 hts (goodLV wd709 wd710 wd711 wd712 wd394) rfl rfl rfl (by decide +kernel) hR
theorem lcw_73 {R : Room} {s : State} {args : Array Value} (hts : ∀ w ∈ lw_tbl, w.before args s = true) (hR : rm_X6_count.frames + 1 ≤ R.frames ∧ 8 + (2 + 11) + rm_X6_count.locals ≤ R.locals) : CallW R s args RL RX6 73 yX6_count cX6_count 2 (some .int) (wsG yX6_count cX6_count 2 (some .int)) rm_X6_count 0 0 1 := cwV 1 hts (goodLV wd713 wd714 wd715 wd716 wd188) rfl rfl rfl (by decide +kernel) hR
theorem lcw_76 {R : Room} {s : State} {args : Array Value} (hts : ∀ w ∈ lw_tbl, w.before args s = true) (hR : rm_X7_count.frames + 1 ≤ R.frames ∧ 8 + (2 + 11) + rm_X7_count.locals ≤ R.locals) : CallW R s args RL RX7 76 yX7_count cX7_count 2 (some .int) (wsG yX7_count cX7_count 2 (some .int)) rm_X7_count 0 0 1 := cwV 1 hts (goodLV wd717 wd718 wd719 wd720 wd394) rfl rfl rfl (by decide +kernel) hR
def Sim_feed (Rel : Mem → Mem → Prop) : Prop := ∀ (Mx My : Mem) (x1 : Int32) (x2 : Int64), Rel Mx My → ∃ (v : Int32) (Mx1 My1 : Mem), fX6_feed x1 x2 Mx = some (v, Mx1) ∧ fX7_feed x1 x2 My = some (v, My1) ∧ Rel Mx1 My1
def Sim_text (Rel : Mem → Mem → Prop) : Prop := ∀ (Mx My : Mem), Rel Mx My → ∃ (v : Int32) (Mx1 My1 : Mem), fX6_text Mx = some (v, Mx1) ∧ fX7_text My = some (v, My1) ∧ Rel Mx1 My1
def Sim_pattern (Rel : Mem → Mem → Prop) : Prop := ∀ (Mx My : Mem), Rel Mx My → ∃ (v : Int32) (Mx1 My1 : Mem), fX6_pattern Mx = some (v, Mx1) ∧ fX7_pattern My = some (v, My1) ∧ Rel Mx1 My1
def Sim_word (Rel : Mem → Mem → Prop) : Prop := ∀ (Mx My : Mem) (x1 : Int32), Rel Mx My → ∃ (v : Int32) (Mx1 My1 : Mem), fX6_word x1 Mx = some (v, Mx1) ∧ fX7_word x1 My = some (v, My1) ∧ Rel Mx1 My1
def Sim_strange (Rel : Mem → Mem → Prop) : Prop := ∀ (Mx My : Mem) (x1 : Int32), Rel Mx My → ∃ (v : Int32) (Mx1 My1 : Mem), fX6_strange x1 Mx = some (v, Mx1) ∧ fX7_strange x1 My = some (v, My1) ∧ Rel Mx1 My1
def Sim_links (Rel : Mem → Mem → Prop) : Prop := ∀ (Mx My : Mem) (x1 : Int32), Rel Mx My → x1 = 0 ∨ x1 = 1 → ∃ (v : Int32) (Mx1 My1 : Mem), fX6_links x1 Mx = some (v, Mx1) ∧ fX7_links x1 My = some (v, My1) ∧ Rel Mx1 My1
def Sim_longest (Rel : Mem → Mem → Prop) : Prop := ∀ (Mx My : Mem) (x1 : Int32) (x2 : Int32), Rel Mx My → ∃ (v : Int32) (Mx1 My1 : Mem), fX6_longest x1 x2 Mx = some (v, Mx1) ∧ fX7_longest x1 x2 My = some (v, My1) ∧ Rel Mx1 My1
def Sim_tokens (Rel : Mem → Mem → Prop) : Prop := ∀ (Mx My : Mem) (x1 : Int32) (x2 : Int32) (x3 : Int32), Rel Mx My → ∃ (v : Int32) (Mx1 My1 : Mem), fX6_tokens x1 x2 x3 Mx = some (v, Mx1) ∧ fX7_tokens x1 x2 x3 My = some (v, My1) ∧ Rel Mx1 My1
def Sim_token (Rel : Mem → Mem → Prop) : Prop := ∀ (Mx My : Mem) (x1 : Int32) (x2 : Int32), Rel Mx My → ∃ (v : Int32) (Mx1 My1 : Mem), fX6_token x1 x2 Mx = some (v, Mx1) ∧ fX7_token x1 x2 My = some (v, My1) ∧ Rel Mx1 My1
def Sim_sign (Rel : Mem → Mem → Prop) : Prop := ∀ (Mx My : Mem) (x1 : Int32) (x2 : Int32), Rel Mx My → ∃ (v : Int32) (Mx1 My1 : Mem), fX6_sign x1 x2 Mx = some (v, Mx1) ∧ fX7_sign x1 x2 My = some (v, My1) ∧ Rel Mx1 My1
def Sim_same (Rel : Mem → Mem → Prop) : Prop := ∀ (Mx My : Mem) (x1 : Int32) (x2 : Int32), Rel Mx My → ∃ (v : Int32) (Mx1 My1 : Mem), fX6_same x1 x2 Mx = some (v, Mx1) ∧ fX7_same x1 x2 My = some (v, My1) ∧ Rel Mx1 My1
def Sim_cost (Rel : Mem → Mem → Prop) : Prop := ∀ (Mx My : Mem) (x1 : Int32), Rel Mx My → ∃ (v : Int32) (Mx1 My1 : Mem), fX6_cost x1 Mx = some (v, Mx1) ∧ fX7_cost x1 My = some (v, My1) ∧ Rel Mx1 My1
def Sim_match (Rel : Mem → Mem → Prop) : Prop := ∀ (Mx My : Mem) (x1 : Int32), Rel Mx My → ∃ (v : Int32) (Mx1 My1 : Mem), fX6_match x1 Mx = some (v, Mx1) ∧ fX7_match x1 My = some (v, My1) ∧ Rel Mx1 My1
def Sim_count (Rel : Mem → Mem → Prop) : Prop := ∀ (Mx My : Mem) (x1 : Int32), Rel Mx My → ∃ (v : Int32) (Mx1 My1 : Mem), fX6_count x1 Mx = some (v, Mx1) ∧ fX7_count x1 My = some (v, My1) ∧ Rel Mx1 My1
def SimAll (Rel : Mem → Mem → Prop) : Prop := Sim_feed Rel ∧ Sim_text Rel ∧ Sim_pattern Rel ∧ Sim_word Rel ∧ Sim_strange Rel ∧ Sim_links Rel ∧ Sim_longest Rel ∧ Sim_tokens Rel ∧ Sim_token Rel ∧ Sim_sign Rel ∧ Sim_same Rel ∧ Sim_cost Rel ∧ Sim_match Rel ∧ Sim_count Rel
