theorem tm1 {w : Cond} {i : Nat} (h : tables_1_1[i]? = some w) : w ∈ lw_tbl := List.mem_append_right _ (List.mem_append_left _ (List.mem_of_getElem? h))
theorem tm2 {w : Cond} {i : Nat} (h : tables_1_2[i]? = some w) : w ∈ lw_tbl := List.mem_append_right _ (List.mem_append_right _ (List.mem_append_left _ (List.mem_of_getElem? h)))
theorem tm3 {w : Cond} {i : Nat} (h : tables_1_3[i]? = some w) : w ∈ lw_tbl := List.mem_append_right _ (List.mem_append_right _ (List.mem_append_right _ (List.mem_append_left _ (List.mem_of_getElem? h))))
theorem tm4 {w : Cond} {i : Nat} (h : tables_1_4[i]? = some w) : w ∈ lw_tbl := List.mem_append_right _ (List.mem_append_right _ (List.mem_append_right _ (List.mem_append_right _ (List.mem_of_getElem? h))))
theorem inL0 : ∀ w ∈ wsX00, w ∈ lw_tbl := by
  intro w hw
  obtain ⟨k, hk, rfl⟩ := List.mem_map.mp hw
  exact GG_tbl (lay0 k (List.mem_range.mp hk))
theorem inL1 : ∀ w ∈ wsX10, w ∈ lw_tbl := by
  intro w hw
  obtain ⟨k, hk, rfl⟩ := List.mem_map.mp hw
  exact GG_tbl (lay1 k (List.mem_range.mp hk))
theorem inL2 : ∀ w ∈ wsX20, w ∈ lw_tbl := by
  intro w hw
  obtain ⟨k, hk, rfl⟩ := List.mem_map.mp hw
  exact GG_tbl (lay2 k (List.mem_range.mp hk))
theorem inL3 : ∀ w ∈ wsX30, w ∈ lw_tbl := by
  intro w hw
  obtain ⟨k, hk, rfl⟩ := List.mem_map.mp hw
  exact GG_tbl (lay3 k (List.mem_range.mp hk))
theorem inL4 : ∀ w ∈ wsX40, w ∈ lw_tbl := by
  intro w hw
  obtain ⟨k, hk, rfl⟩ := List.mem_map.mp hw
  exact GG_tbl (lay4 k (List.mem_range.mp hk))
theorem inL5 : ∀ w ∈ wsX50, w ∈ lw_tbl := by
  intro w hw
  obtain ⟨k, hk, rfl⟩ := List.mem_map.mp hw
  exact GG_tbl (lay5 k (List.mem_range.mp hk))
theorem inL6 : ∀ w ∈ wsX60, w ∈ lw_tbl := by
  intro w hw
  obtain ⟨k, hk, rfl⟩ := List.mem_map.mp hw
  exact GG_tbl (lay6 k (List.mem_range.mp hk))
theorem inL7 : ∀ w ∈ wsX70, w ∈ lw_tbl := by
  intro w hw
  obtain ⟨k, hk, rfl⟩ := List.mem_map.mp hw
  exact GG_tbl (lay7 k (List.mem_range.mp hk))
theorem gc_yX6_init : Cond.code yX6_init cX6_init 1 none ∈ GG := gm1 (i := 15) rfl (by decide +kernel)
theorem gc_yX7_init : Cond.code yX7_init cX7_init 1 none ∈ GG := gm3 (i := 127) rfl (by decide +kernel)
theorem lt0 : Cond.instantiable RX0 5 ∈ lw_tbl := tm1 (i := 139) (by decide +kernel)
theorem lt1 : Cond.instantiable RX1 9 ∈ lw_tbl := tm1 (i := 72) (by decide +kernel)
theorem lt2 : Cond.instantiable RX2 10 ∈ lw_tbl := tm1 (i := 34) (by decide +kernel)
theorem lt3 : Cond.instantiable RX3 3 ∈ lw_tbl := tm1 (i := 116) (by decide +kernel)
theorem lt4 : Cond.instantiable RX4 8 ∈ lw_tbl := tm1 (i := 107) (by decide +kernel)
theorem lt5 : Cond.instantiable RX5 2 ∈ lw_tbl := tm1 (i := 20) (by decide +kernel)
theorem lt6 : Cond.instantiable RX6 7 ∈ lw_tbl := tm1 (i := 12) (by decide +kernel)
theorem lt7 : Cond.instantiable RX7 45 ∈ lw_tbl := tm3 (i := 124) (by decide +kernel)
theorem lt8 : Cond.arrayClass .byte ∈ lw_tbl := tm1 (i := 32) (by decide +kernel)
theorem lt9 : Cond.arrayClass .int ∈ lw_tbl := tm1 (i := 70) (by decide +kernel)
theorem lt10 : Cond.arrayClass .long ∈ lw_tbl := tm1 (i := 160) (by decide +kernel)
theorem lt11 : Cond.arrayClass .boolean ∈ lw_tbl := tm1 (i := 105) (by decide +kernel)
theorem lt12 : Cond.arrayOver (.object RX3) ∈ lw_tbl := tm1 (i := 115) (by decide +kernel)
theorem lt13 : Cond.fieldLinkNest "TokenMachines$PatternReader" 84 "TokenMachines$Part" "first" "J" "TokenMachines" ∈ lw_tbl := tm1 (i := 126) (by decide +kernel)
theorem lt14 : Cond.fieldLinkNest "TokenMachines$PatternReader" 88 "TokenMachines$Part" "last" "J" "TokenMachines" ∈ lw_tbl := tm1 (i := 128) (by decide +kernel)
theorem lt15 : Cond.fieldLinkNest "TokenMachines$PatternReader" 114 "TokenMachines$Part" "mayBeEmpty" "Z" "TokenMachines" ∈ lw_tbl := tm1 (i := 130) (by decide +kernel)
theorem lt16 : Cond.methodLinkNest "TokenMachines$Signs" 30 yX6_isBlank "TokenMachines" ∈ lw_tbl := tm2 (i := 146) (by decide +kernel)
theorem lt17 : Cond.methodLinkNest "TokenMachines$Dictionary" 51 yX6_isCost "TokenMachines" ∈ lw_tbl := tm2 (i := 149) (by decide +kernel)
theorem lt18 : Cond.classLink RL 7 RX6 ∈ lw_tbl := tm1 (i := 11) (by decide +kernel)
theorem lt19 : Cond.classLink RL 10 RX7 ∈ lw_tbl := tm3 (i := 123) (by decide +kernel)
theorem lt20 : Cond.initialized RX6 ∈ lw_tbl := tm1 (i := 1) (by decide +kernel)
theorem lt21 : Cond.initialized RX7 ∈ lw_tbl := tm1 (i := 8) (by decide +kernel)
theorem lt22 : Cond.methodLink RL 9 yX6_init ∈ lw_tbl := tm1 (i := 13) (by decide +kernel)
theorem lt23 : Cond.methodLink RL 12 yX7_init ∈ lw_tbl := tm3 (i := 125) (by decide +kernel)
theorem lt24 : Cond.instanceMethod yX6_init ∈ lw_tbl := tm1 (i := 14) (by decide +kernel)
theorem lt25 : Cond.instanceMethod yX7_init ∈ lw_tbl := tm3 (i := 126) (by decide +kernel)
def adT (q1 : Nat) (u1 : Nat → Nat) (q2 : Nat) (u2 : Nat → Nat) : Nat → Nat := fun o => ([q1, u1 0, u1 1, u1 2, u1 3, u1 4, u1 5, u1 6, u1 7, u1 8, u1 9, u1 10, u1 11, u1 12, u1 13, u1 14, u1 15, u1 16, u1 17, u1 18, u1 19, u1 21, u1 23, u1 25, u1 27, u1 29, u1 31, u1 33, u1 35, u1 37, u1 20, u1 22, u1 24, u1 26, u1 28, u1 30, u1 32, u1 34, u1 36, u1 38, u1 39, u1 40, u1 41, u1 42, u1 43, u1 44, u1 45, 0, 0, 0, q2, u2 0, 0, u2 1, 0, 0, u2 2, u2 3, u2 4, 0, 0, 0, 0, 0, 0, u2 5, u2 6, u2 7, 0, u2 8, u2 9, 0, 0, 0, u2 10, u2 11, u2 12, u2 13, u2 14, u2 15, u2 16, u2 17, u2 18, 0, 0, 0, 0, 0, 0, 0, u2 19, u2 20, u2 21] : List Nat).getD o 0
def M0x : Mem := (fun o k => if o = 5 ∧ k = 5 then 300 else if o = 5 ∧ k = 8 then (-1) else if o = 5 ∧ k = 9 then (-1) else if o = 9 ∧ k = 4 then 100 else if o = 17 ∧ k = 7 then (-1) else 0, fun _ _ => 0, fun o _ => if o = 0 then 44 else 41)
def M0y : Mem := (fun o k => if o = 50 ∧ k = 8 then 100 else if o = 50 ∧ k = 10 then 300 else 0, fun _ _ => 0, fun _ _ => 0)
theorem wl_P {D : va_G} {cy : Nat → ClassId} {ad : Nat → Nat} {ids : List Nat} {M : Mem} {H : Heap} (h : ∀ o, o ∈ ids → va_at D vwCl (ad o, ce cy ad M o) H) : va_P D vwCl (wl cy ad ids M) H := by
  intro k q hk
  obtain ⟨o, ho, rfl⟩ := List.mem_map.mp (List.mem_of_getElem? hk)
  exact h o ho
theorem wl_D {cy : Nat → ClassId} {ad : Nat → Nat} {ids : List Nat} {M : Mem} (hN : ids.Nodup) (hi : ∀ a, a ∈ ids → ∀ b, b ∈ ids → ad a = ad b → a = b) : va_D (AA ad ids) (wl cy ad ids M) := by
  refine ⟨fun i j p q hp hq hpq => ?_, fun k q hk => ?_⟩
  · simp only [wl, List.getElem?_map, Option.map_eq_some_iff] at hp hq
    obtain ⟨a, ha, rfl⟩ := hp
    obtain ⟨b, hb, rfl⟩ := hq
    have e := hi a (List.mem_of_getElem? ha) b (List.mem_of_getElem? hb) hpq
    subst e
    obtain ⟨h1, e1⟩ := List.getElem?_eq_some_iff.mp ha
    obtain ⟨h2, e2⟩ := List.getElem?_eq_some_iff.mp hb
    exact (List.getElem_inj hN).mp (e1.trans e2.symm)
  · obtain ⟨o, ho, rfl⟩ := List.mem_map.mp (List.mem_of_getElem? hk)
    exact ⟨o, ho, rfl⟩
theorem at_q {D : va_G} {cA : ClassId} {a n : Nat} {f g : Nat → Option Nat} {H : Heap} (h : va_at D vwCl (a, .inl (cA, n, .inr (.inr (.inr (.inr f))))) H) (hfg : ∀ j, j < n → f j = g j) : va_at D vwCl (a, .inl (cA, n, .inr (.inr (.inr (.inr g))))) H := by
  have h1 : H[a]? = some (vp_cell cA (n, .inr (.inr (.inr (.inr f))))) := h
  show H[a]? = some (vp_cell cA (n, .inr (.inr (.inr (.inr g)))))
  rw [h1, vp_cell_q, vp_cell_q]
  unfold arrV
  congr 2
  apply congrArg
  funext j
  show va_rf (f j.1) = va_rf (g j.1)
  rw [hfg j.1 j.2]
theorem adr_inj {A : Nat → Prop} {ws : va_W} {ad : Nat → Nat} {ids : List Nat} (σ : List Nat) (hD : va_D A ws) (hσ : (ids.zip σ).all (fun x => (ws[x.2]?.map Prod.fst) == some (ad x.1)) = true) : True := trivial
def sgT (o : Nat) : Nat := ([0, 1, 2, 3, 4, 5, 6, 7, 8, 9, 10, 11, 12, 13, 14, 15, 16, 17, 18, 19, 20, 22, 24, 26, 28, 30, 32, 34, 36, 38, 21, 23, 25, 27, 29, 31, 33, 35, 37, 39, 40, 41, 42, 43, 44, 45, 46, 0, 0, 0, 47, 48, 0, 49, 0, 0, 50, 51, 52, 0, 0, 0, 0, 0, 0, 53, 54, 55, 0, 56, 57, 0, 0, 0, 58, 59, 60, 61, 62, 63, 64, 65, 66, 0, 0, 0, 0, 0, 0, 0, 67, 68, 69] : List Nat).getD o 0
theorem sg_inj : ∀ a, a ∈ iX ++ iY → ∀ b, b ∈ iX ++ iY → sgT a = sgT b → a = b := by decide +kernel
set_option maxRecDepth 100000 in
set_option maxHeartbeats 4000000 in
theorem ws_ad (cy : Nat → ClassId) (q1 : Nat) (u1 : Nat → Nat) (q2 : Nat) (u2 : Nat → Nat) : ∀ a, a ∈ iX ++ iY → ∃ e, (Wf_X6_init cy q1 u1 ++ Wf_X7_init cy q2 u2)[sgT a]? = some (adT q1 u1 q2 u2 a, e) := by
  intro a ha
  simp only [iX, iY, List.cons_append, List.nil_append, List.mem_cons, List.not_mem_nil, or_false] at ha
  rcases ha with rfl | rfl | rfl | rfl | rfl | rfl | rfl | rfl | rfl | rfl | rfl | rfl | rfl | rfl | rfl | rfl | rfl | rfl | rfl | rfl | rfl | rfl | rfl | rfl | rfl | rfl | rfl | rfl | rfl | rfl | rfl | rfl | rfl | rfl | rfl | rfl | rfl | rfl | rfl | rfl | rfl | rfl | rfl | rfl | rfl | rfl | rfl | rfl | rfl | rfl | rfl | rfl | rfl | rfl | rfl | rfl | rfl | rfl | rfl | rfl | rfl | rfl | rfl | rfl | rfl | rfl | rfl | rfl | rfl | rfl
  all_goals exact ⟨_, rfl⟩
set_option maxRecDepth 100000 in
set_option maxHeartbeats 4000000 in
theorem ws_X {D : va_G} {cy : Nat → ClassId} {q1 : Nat} {u1 : Nat → Nat} {q2 : Nat} {u2 : Nat → Nat} {H : Heap} (hP : va_P D vwCl (Wf_X6_init cy q1 u1 ++ Wf_X7_init cy q2 u2) H) : ∀ a, a ∈ iX → va_at D vwCl (adT q1 u1 q2 u2 a, ce cy (adT q1 u1 q2 u2) M0x a) H := by
  intro a ha
  simp only [iX, List.mem_cons, List.not_mem_nil, or_false] at ha
  rcases ha with rfl | rfl | rfl | rfl | rfl | rfl | rfl | rfl | rfl | rfl | rfl | rfl | rfl | rfl | rfl | rfl | rfl | rfl | rfl | rfl | rfl | rfl | rfl | rfl | rfl | rfl | rfl | rfl | rfl | rfl | rfl | rfl | rfl | rfl | rfl | rfl | rfl | rfl | rfl | rfl | rfl | rfl | rfl | rfl | rfl | rfl | rfl
  · exact hP 0 _ rfl
  · exact hP 1 _ rfl
  · exact hP 2 _ rfl
  · exact hP 3 _ rfl
  · exact hP 4 _ rfl
  · exact hP 5 _ rfl
  · exact hP 6 _ rfl
  · exact hP 7 _ rfl
  · exact hP 8 _ rfl
  · exact hP 9 _ rfl
  · exact hP 10 _ rfl
  · exact hP 11 _ rfl
  · exact hP 12 _ rfl
  · exact hP 13 _ rfl
  · exact hP 14 _ rfl
  · exact hP 15 _ rfl
  · exact hP 16 _ rfl
  · exact hP 17 _ rfl
  · exact hP 18 _ rfl
  · exact hP 19 _ rfl
  · exact at_q (hP 20 _ rfl) (fun j hj => by
      have hj : j < 9 := hj
      rcases (show j = 0 ∨ j = 1 ∨ j = 2 ∨ j = 3 ∨ j = 4 ∨ j = 5 ∨ j = 6 ∨ j = 7 ∨ j = 8 by omega) with rfl | rfl | rfl | rfl | rfl | rfl | rfl | rfl | rfl <;> rfl)
  · exact hP 22 _ rfl
  · exact hP 24 _ rfl
  · exact hP 26 _ rfl
  · exact hP 28 _ rfl
  · exact hP 30 _ rfl
  · exact hP 32 _ rfl
  · exact hP 34 _ rfl
  · exact hP 36 _ rfl
  · exact hP 38 _ rfl
  · exact at_q (hP 21 _ rfl) (fun j hj => by
      have hj : j < 9 := hj
      rcases (show j = 0 ∨ j = 1 ∨ j = 2 ∨ j = 3 ∨ j = 4 ∨ j = 5 ∨ j = 6 ∨ j = 7 ∨ j = 8 by omega) with rfl | rfl | rfl | rfl | rfl | rfl | rfl | rfl | rfl <;> rfl)
  · exact hP 23 _ rfl
  · exact hP 25 _ rfl
  · exact hP 27 _ rfl
  · exact hP 29 _ rfl
  · exact hP 31 _ rfl
  · exact hP 33 _ rfl
  · exact hP 35 _ rfl
  · exact hP 37 _ rfl
  · exact hP 39 _ rfl
  · exact hP 40 _ rfl
  · exact hP 41 _ rfl
  · exact hP 42 _ rfl
  · exact hP 43 _ rfl
  · exact hP 44 _ rfl
  · exact hP 45 _ rfl
  · exact hP 46 _ rfl
set_option maxRecDepth 100000 in
set_option maxHeartbeats 4000000 in
theorem ws_Y {D : va_G} {cy : Nat → ClassId} {q1 : Nat} {u1 : Nat → Nat} {q2 : Nat} {u2 : Nat → Nat} {H : Heap} (hP : va_P D vwCl (Wf_X6_init cy q1 u1 ++ Wf_X7_init cy q2 u2) H) : ∀ a, a ∈ iY → va_at D vwCl (adT q1 u1 q2 u2 a, ce cy (adT q1 u1 q2 u2) M0y a) H := by
  intro a ha
  simp only [iY, List.mem_cons, List.not_mem_nil, or_false] at ha
  rcases ha with rfl | rfl | rfl | rfl | rfl | rfl | rfl | rfl | rfl | rfl | rfl | rfl | rfl | rfl | rfl | rfl | rfl | rfl | rfl | rfl | rfl | rfl | rfl
  · exact hP 47 _ rfl
  · exact hP 48 _ rfl
  · exact hP 49 _ rfl
  · exact hP 50 _ rfl
  · exact hP 51 _ rfl
  · exact hP 52 _ rfl
  · exact hP 53 _ rfl
  · exact hP 54 _ rfl
  · exact hP 55 _ rfl
  · exact hP 56 _ rfl
  · exact hP 57 _ rfl
  · exact hP 58 _ rfl
  · exact hP 59 _ rfl
  · exact hP 60 _ rfl
  · exact hP 61 _ rfl
  · exact hP 62 _ rfl
  · exact hP 63 _ rfl
  · exact hP 64 _ rfl
  · exact hP 65 _ rfl
  · exact hP 66 _ rfl
  · exact hP 67 _ rfl
  · exact hP 68 _ rfl
  · exact hP 69 _ rfl
set_option maxHeartbeats 8000000 in
set_option maxRecDepth 100000 in
theorem whole_open (Rel : Mem → Mem → Prop) (S : SimAll Rel) (h0 : Rel M0x M0y) {p : Program} {e : Env} {s : State} {m : MethodId} {below : List Frame} {meth : Method} {c : Code} (l : Launch) {b L : Nat} {xs : Nat → Int32} (hL : L ≤ 2048) (C0 : lw_At p s m meth c b L xs) : W p l e room_1 s m #[Value.ref b] below meth c s.heap [] 0 0 (lw_Z below #[Value.ref b] s) (entryFrame m ([Value.ref b] : List Value).toArray 4) := by
  obtain ⟨hx, hb, hr, hml, hown, hts, hX, hbl, hlocks, hgv⟩ := id C0
  obtain ⟨c0, iS0, hKn0⟩ := u_known (C := RX0) (T := TX0) (N := 5) (n := 5) hts inL0 (hts (.instantiable RX0 5) lt0)
  obtain ⟨c1, iS1, hKn1⟩ := u_known (C := RX1) (T := TX1) (N := 9) (n := 9) hts inL1 (hts (.instantiable RX1 9) lt1)
  obtain ⟨c2, iS2, hKn2⟩ := u_known (C := RX2) (T := TX2) (N := 10) (n := 10) hts inL2 (hts (.instantiable RX2 10) lt2)
  obtain ⟨c3, iS3, hKn3⟩ := u_known (C := RX3) (T := TX3) (N := 3) (n := 3) hts inL3 (hts (.instantiable RX3 3) lt3)
  obtain ⟨c4, iS4, hKn4⟩ := u_known (C := RX4) (T := TX4) (N := 8) (n := 8) hts inL4 (hts (.instantiable RX4 8) lt4)
  obtain ⟨c5, iS5, hKn5⟩ := u_known (C := RX5) (T := TX5) (N := 2) (n := 2) hts inL5 (hts (.instantiable RX5 2) lt5)
  obtain ⟨c6, iS6, hKn6⟩ := u_known (C := RX6) (T := TX6) (N := 7) (n := 7) hts inL6 (hts (.instantiable RX6 7) lt6)
  obtain ⟨c7, iS7, hKn7⟩ := u_known (C := RX7) (T := TX7) (N := 45) (n := 45) hts inL7 (hts (.instantiable RX7 45) lt7)
  obtain ⟨a0, ka0, ma0, fa0, ga0, ha0⟩ := Cond.arrayClass_spec (hts _ lt8)
  obtain ⟨a1, ka1, ma1, fa1, ga1, ha1⟩ := Cond.arrayClass_spec (hts _ lt9)
  obtain ⟨a2, ka2, ma2, fa2, ga2, ha2⟩ := Cond.arrayClass_spec (hts _ lt10)
  obtain ⟨a3, ka3, ma3, fa3, ga3, ha3⟩ := Cond.arrayClass_spec (hts _ lt11)
  obtain ⟨m4, a4, k4, f4, _, g4, hk4, n4⟩ := Cond.arrayOver_spec (hts _ lt12)
  obtain ⟨dC, dI, hKc⟩ : ∃ (dC : Nat → ClassId) (dI : Nat → Nat → Nat), ∀ (k : Nat) (q : vw_C), vwCl[k]? = some q → u_Kn s q.1 q.2.1 q.2.2 (dC k) (dI k) := by
    refine ⟨fun k => if k = 0 then c0 else if k = 1 then c1 else if k = 2 then c2 else if k = 3 then c3 else if k = 4 then c4 else if k = 5 then c5 else if k = 6 then c6 else c7, fun k => if k = 0 then iS0 else if k = 1 then iS1 else if k = 2 then iS2 else if k = 3 then iS3 else if k = 4 then iS4 else if k = 5 then iS5 else if k = 6 then iS6 else iS7, ?_⟩
    intro k q hq
    match k, hq with
    | 0, hq => cases hq; exact hKn0
    | 1, hq => cases hq; exact hKn1
    | 2, hq => cases hq; exact hKn2
    | 3, hq => cases hq; exact hKn3
    | 4, hq => cases hq; exact hKn4
    | 5, hq => cases hq; exact hKn5
    | 6, hq => cases hq; exact hKn6
    | 7, hq => cases hq; exact hKn7
    | k + 8, hq => simp [vwCl] at hq
  obtain ⟨cy, e0, e1, e2, e3, e4⟩ : ∃ cy : Nat → ClassId, cy 0 = a0 ∧ cy 1 = a1 ∧ cy 2 = a2 ∧ cy 3 = a3 ∧ cy 4 = a4 := ⟨fun k => if k = 0 then a0 else if k = 1 then a1 else if k = 2 then a2 else if k = 3 then a3 else a4, rfl, rfl, rfl, rfl, rfl⟩
  have hK : va_K (dC, dI) vwCl (tyL cy) s := by
    refine ⟨hKc, fun k q hq => ?_⟩
    match k, hq with
    | 0, hq => cases hq; rw [e0]; exact ⟨fun n z => ⟨fun k h => (by cases h), ka0, ga0, ma0, ha0⟩, fa0⟩
    | 1, hq => cases hq; rw [e1]; exact ⟨fun n z => ⟨fun k h => (by cases h), ka1, ga1, ma1, ha1⟩, fa1⟩
    | 2, hq => cases hq; rw [e2]; exact ⟨fun n z => ⟨fun k h => (by cases h), ka2, ga2, ma2, ha2⟩, fa2⟩
    | 3, hq => cases hq; rw [e3]; exact ⟨fun n z => ⟨fun k h => (by cases h), ka3, ga3, ma3, ha3⟩, fa3⟩
    | 4, hq => cases hq; rw [e4]; exact ⟨fun n z => ⟨fun k h => (by cases h), k4, g4, m4, hk4⟩, k4, m4, g4, hk4, f4, n4⟩
    | k + 5, hq => simp [tyL] at hq
  have hAO : va_AO RX3 s := va_AO.of (hts _ lt12)
  have hNW : NWs s := by
    intro w hw
    simp only [NWL, List.mem_cons, List.not_mem_nil, or_false] at hw
    rcases hw with rfl | rfl | rfl | rfl | rfl
    · exact va_Nw.of rfl (hts _ lt15)
    · exact va_Nw.of rfl (hts _ lt13)
    · exact va_Nw.of rfl (hts _ lt14)
    · exact va_Nw.of rfl (hts _ lt17)
    · exact va_Nw.of rfl (hts _ lt16)
  have X : CR p s m #[Value.ref b] meth c (dC, dI) cy code 4 lw_tbl RL (fun q => s.heap.size ≤ q) meth.name := ⟨hx, hb, hml, hown, hts, hK, fun _ h => h, hlocks, rfl, hAO⟩
  have hl := lv_entry ([.ref b]) (n := 4) (Nat.le_of_ble_eq_true rfl)
  rw [lg_entry_eq]
  have main : SW p l e room_1 s m #[Value.ref b] below meth c 0 0 (lw_Z below #[Value.ref b] s) 4 (RH (dC, dI) [] (fun q => s.heap.size ≤ q) s) 0 [(0, .ref b)] [] := by
    refine rw_new X (ci := 6) (fs := [.null, .null, .null, .null, .null, .null, .int 0]) tyX6 tyX6_ok inL6 lt18 lt6 lt20 rfl rfl (fun j hj => by rcases (show j = 0 ∨ j = 1 ∨ j = 2 ∨ j = 3 ∨ j = 4 ∨ j = 5 ∨ j = 6 by omega) with rfl | rfl | rfl | rfl | rfl | rfl | rfl <;> rfl) (Nat.le_of_ble_eq_true rfl) (Nat.le_of_ble_eq_true rfl) dL_law_0 (fun q1 => ?_)
    refine sw_dup hx hb dL_law_3 rfl ?_
    refine rw_callI X (As := []) (rest := [.ref q1]) (wr := []) 0 [] (cX6_init_init l (dC, dI) cy q1) (cwI 0 hts (goodLG gc_yX6_init) rfl rfl rfl (hts _ lt20) (hts _ lt22) (hts _ lt24) rfl (by decide +kernel) ⟨Nat.le_of_ble_eq_true rfl, Nat.le_of_ble_eq_true rfl⟩) rfl rfl (by decide) (by decide) rfl rfl (Nat.le_of_ble_eq_true rfl) dL_law_4 ⟨Nat.le_of_ble_eq_true rfl, Nat.le_of_ble_eq_true rfl⟩ (fun u1 => ?_)
    refine sw_astore_n hx hb [(1, .ref q1), (0, .ref b)] dL_law_7 rfl (by decide) rfl ?_
    refine rw_new X (ci := 7) (fs := [.null, .int 0, .null, .int 0, .int 0, .null, .null, .null, .int 0, .int 0, .int 0, .int 0, .int 0, .int 0, .null, .null, .null, .int 0, .null, .null, .long 0, .long 0, .int 0, .null, .null, .null, .null, .null, .null, .null, .null, .null, .int 0, .int 0, .long 0, .long 0, .int 0, .int 0, .int 0, .null, .null, .null, .int 0, .int 0, .int 0]) tyX7 tyX7_ok inL7 lt19 lt7 lt21 rfl rfl (fun j hj => by rcases (show j = 0 ∨ j = 1 ∨ j = 2 ∨ j = 3 ∨ j = 4 ∨ j = 5 ∨ j = 6 ∨ j = 7 ∨ j = 8 ∨ j = 9 ∨ j = 10 ∨ j = 11 ∨ j = 12 ∨ j = 13 ∨ j = 14 ∨ j = 15 ∨ j = 16 ∨ j = 17 ∨ j = 18 ∨ j = 19 ∨ j = 20 ∨ j = 21 ∨ j = 22 ∨ j = 23 ∨ j = 24 ∨ j = 25 ∨ j = 26 ∨ j = 27 ∨ j = 28 ∨ j = 29 ∨ j = 30 ∨ j = 31 ∨ j = 32 ∨ j = 33 ∨ j = 34 ∨ j = 35 ∨ j = 36 ∨ j = 37 ∨ j = 38 ∨ j = 39 ∨ j = 40 ∨ j = 41 ∨ j = 42 ∨ j = 43 ∨ j = 44 by omega) with rfl | rfl | rfl | rfl | rfl | rfl | rfl | rfl | rfl | rfl | rfl | rfl | rfl | rfl | rfl | rfl | rfl | rfl | rfl | rfl | rfl | rfl | rfl | rfl | rfl | rfl | rfl | rfl | rfl | rfl | rfl | rfl | rfl | rfl | rfl | rfl | rfl | rfl | rfl | rfl | rfl | rfl | rfl | rfl | rfl <;> rfl) (Nat.le_of_ble_eq_true rfl) (Nat.le_of_ble_eq_true rfl) dL_law_8 (fun q2 => ?_)
    refine sw_dup hx hb dL_law_11 rfl ?_
    refine rw_callI X (As := []) (rest := [.ref q2]) (wr := Wf_X6_init cy q1 u1) 47 [0, 1, 2, 3, 4, 5, 6, 7, 8, 9, 10, 11, 12, 13, 14, 15, 16, 17, 18, 19, 20, 21, 22, 23, 24, 25, 26, 27, 28, 29, 30, 31, 32, 33, 34, 35, 36, 37, 38, 39, 40, 41, 42, 43, 44, 45, 46] (cX7_init_init l (dC, dI) cy q2) (cwI 0 hts (goodLG gc_yX7_init) rfl rfl rfl (hts _ lt21) (hts _ lt23) (hts _ lt25) rfl (by decide +kernel) ⟨Nat.le_of_ble_eq_true rfl, Nat.le_of_ble_eq_true rfl⟩) rfl rfl (by decide) (by decide) rfl rfl (Nat.le_of_ble_eq_true rfl) dL_law_12 ⟨Nat.le_of_ble_eq_true rfl, Nat.le_of_ble_eq_true rfl⟩ (fun u2 => ?_)
    refine sw_astore_n hx hb [(2, .ref q2), (1, .ref q1), (0, .ref b)] dL_law_15 rfl (by decide) rfl ?_
    refine sw_iconst hx hb 0 dL_law_16 (by decide) ?_
    refine sw_istore_n hx hb [(3, .int 0), (2, .ref q2), (1, .ref q1), (0, .ref b)] dL_law_17 rfl (by decide) rfl ?_
    refine sw_sub (lv1 := [(0, .ref b), (1, .ref q1), (2, .ref q2), (3, .int 0)]) [3, 2, 1, 0] rfl ?_
    refine sw_cs (k := 70) (n := 8592) rfl rfl ?_
    intro H locs ls hΦ hl
    obtain ⟨hP, hD, hS⟩ := hΦ
    have hinj : ∀ a, a ∈ iX ++ iY → ∀ b, b ∈ iX ++ iY → adT q1 u1 q2 u2 a = adT q1 u1 q2 u2 b → a = b := by
      intro a ha b hb hab
      obtain ⟨ea, h1⟩ := ws_ad cy q1 u1 q2 u2 a ha
      obtain ⟨eb, h2⟩ := ws_ad cy q1 u1 q2 u2 b hb
      exact sg_inj a ha b hb (hD.1 _ _ _ _ h1 h2 hab)
    have hge : ∀ a, a ∈ iX ++ iY → s.heap.size ≤ adT q1 u1 q2 u2 a := by
      intro a ha
      obtain ⟨ea, h1⟩ := ws_ad cy q1 u1 q2 u2 a ha
      exact hD.2 _ _ h1
    have hdisj : ∀ a, a ∈ iX → ∀ b, b ∈ iY → a ≠ b := by decide +kernel
    have XL : CLw p s m meth c (dC, dI) cy (adT q1 u1 q2 u2) b L xs := ⟨hx, hb, hml, hown, hts, hX, hbl, hK, hNW, fun M => wl_D ndX (fun a ha b hb h => hinj a (List.mem_append_left _ ha) b (List.mem_append_left _ hb) h), fun M => wl_D ndY (fun a ha b hb h => hinj a (List.mem_append_right _ ha) b (List.mem_append_right _ hb) h), fun a ha b hb h => hdisj a ha b hb (hinj a (List.mem_append_left _ ha) b (List.mem_append_right _ hb) h), fun a ha => hge a (List.mem_append_left _ ha), fun a ha => hge a (List.mem_append_right _ ha)⟩
    exact law_loop Rel S hL XL hr hlocks (L + 5) 0 0 M0x M0y (by omega) ⟨rfl, by omega⟩ h0 H locs ls ⟨wl_P (ws_X hP), wl_P (ws_Y hP), hS⟩ hl
  exact main s.heap [] _ ⟨fun k q h => by simp at h, ⟨fun i j p q h => by simp at h, fun k q h => by simp at h⟩, va_S.rf⟩ hl

