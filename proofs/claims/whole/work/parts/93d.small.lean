/-! strange, links, longest, count, token, sign, same -/
theorem isCost_ok (x : Int32) (M : Mem) : fX6_isCost x M = some (bz (decide (1 ≤ x ∧ x ≤ 1000)), M) := isIn_ok x 1 1000 M
theorem sim_strange : Sim_strange Rel := by
  intro Mx My x1 hR
  unfold fX6_strange fX7_strange
  rw [isCost_ok, isIn_ok, bI_s, bI_s]
  by_cases c : 1 ≤ x1 ∧ x1 ≤ 1000
  · rw [decide_eq_true c, bz_t, if_neg n10, if_neg n10]
    obtain ⟨m, h1, h2, rfl⟩ := rng (lo := 1) (hi := 1000) c.1 c.2 (by omega) (by omega)
    obtain ⟨h1p, h2p, h3, h4, h5⟩ := hR
    obtain ⟨⟨c0, q1, q2, q3, q4⟩, q5, q6, q7⟩ := h4
    refine ⟨nI c0, setI Mx 9 4 (nI m), setI My 50 8 (nI m), ?_, ?_, ?_⟩
    · rw [fX1_exchangeStrangeCost, lt_eq, lt_eq, bI_s, q3]
    · rw [lt_eq, lt_eq, q4]
    · have hx : SameBut (fun a k => a == 9 && k == 4) Mx (setI Mx 9 4 (nI m)) := SameBut.refl.setI rfl
      have hy : SameBut (fun a k => a == 50 && k == 8) My (setI My 50 8 (nI m)) := SameBut.refl.setI rfl
      refine ⟨h1p.move (hx.1 1 1 rfl) (fun k => hx.1 2 k rfl) (hy.1 50 1 rfl) (fun k => hy.1 51 k rfl), h2p.move (hx.1 3 1 rfl) (fun k => hx.1 4 k rfl) (hx.1 5 3 rfl) (fun k => hx.1 6 k rfl) (fun k => hx.1 7 k rfl) (fun k => hx.1 8 k rfl) (hy.1 50 3 rfl) (fun k => hy.1 53 k rfl) (hy.1 50 12 rfl) (fun k => hy.1 65 k rfl) (fun k => hy.1 66 k rfl) (fun k => hy.1 67 k rfl), h3.move (hx.1 9 3 rfl) (fun k => hx.1 10 k rfl) (fun k => hx.1 11 k rfl) (fun k => hx.1 12 k rfl) (hy.1 50 4 rfl) (fun k => hy.1 56 k rfl) (fun k => hy.1 57 k rfl) (fun k => hy.1 58 k rfl), ⟨⟨m, h1, h2, gI_eq, gI_eq⟩, by rw [hx.1 0 6 rfl, hy.1 50 9 rfl]; exact q5, by rw [hx.1 5 5 rfl, hy.1 50 10 rfl]; exact q6, by rw [hx.1 5 6 rfl, hy.1 50 11 rfl]; exact q7⟩, ?_⟩
      obtain ⟨a, a2, p1, p2, p3, -⟩ := id h5
      refine h5.move (hx.2.2 0 5 rfl) (hx.2.2 17 4 rfl) (fun k => hx.1 _ k ?_) (fun a k q4 q5 _ _ _ => hx.2.1 a k ?_) (hy.1 50 17 rfl) (hy.2.1 50 20 rfl) (hy.2.1 50 21 rfl) (fun k => hy.2.1 69 k rfl) (fun k => hy.2.1 70 k rfl)
      · rw [p2]; rcases p1 with ⟨rfl, -⟩ | ⟨rfl, -⟩ <;> rfl
      · simp; omega
  · rw [decide_eq_false c, bz_f, if_pos z00, if_pos z00]
    exact ⟨_, _, _, rfl, rfl, hR⟩
theorem sim_links : Sim_links Rel := by
  intro Mx My x1 hR hz
  obtain ⟨h1, h2, h3, h4, h5⟩ := hR
  obtain ⟨q4, ⟨b, q5, q6⟩, q7, q8⟩ := h4
  obtain ⟨c, rfl⟩ : ∃ c : Bool, x1 = bz c := bz_of hz
  refine ⟨bz b, setI Mx 0 6 (bz c), setI My 50 9 (bz c), ?_, ?_, ?_⟩
  · unfold fX6_links fX6_links_L12
    rw [q5, sz_b, sz_b]; cases b <;> rfl
  · unfold fX7_links fX7_links_L12
    rw [q6, sz_b, sz_b]; cases b <;> rfl
  · have hx : SameBut (fun a k => a == 0 && k == 6) Mx (setI Mx 0 6 (bz c)) := SameBut.refl.setI rfl
    have hy : SameBut (fun a k => a == 50 && k == 9) My (setI My 50 9 (bz c)) := SameBut.refl.setI rfl
    refine ⟨h1.move (hx.1 1 1 rfl) (fun k => hx.1 2 k rfl) (hy.1 50 1 rfl) (fun k => hy.1 51 k rfl), h2.move (hx.1 3 1 rfl) (fun k => hx.1 4 k rfl) (hx.1 5 3 rfl) (fun k => hx.1 6 k rfl) (fun k => hx.1 7 k rfl) (fun k => hx.1 8 k rfl) (hy.1 50 3 rfl) (fun k => hy.1 53 k rfl) (hy.1 50 12 rfl) (fun k => hy.1 65 k rfl) (fun k => hy.1 66 k rfl) (fun k => hy.1 67 k rfl), h3.move (hx.1 9 3 rfl) (fun k => hx.1 10 k rfl) (fun k => hx.1 11 k rfl) (fun k => hx.1 12 k rfl) (hy.1 50 4 rfl) (fun k => hy.1 56 k rfl) (fun k => hy.1 57 k rfl) (fun k => hy.1 58 k rfl), ⟨by rw [hx.1 9 4 rfl, hy.1 50 8 rfl]; exact q4, ⟨c, gI_eq, gI_eq⟩, by rw [hx.1 5 5 rfl, hy.1 50 10 rfl]; exact q7, by rw [hx.1 5 6 rfl, hy.1 50 11 rfl]; exact q8⟩, ?_⟩
    obtain ⟨a, a2, p1, p2, p3, -⟩ := id h5
    refine h5.move (hx.2.2 0 5 rfl) (hx.2.2 17 4 rfl) (fun k => hx.1 _ k ?_) (fun a k q4 q5 _ _ _ => hx.2.1 a k ?_) (hy.1 50 17 rfl) (hy.2.1 50 20 rfl) (hy.2.1 50 21 rfl) (fun k => hy.2.1 69 k rfl) (fun k => hy.2.1 70 k rfl)
    · rw [p2]; rcases p1 with ⟨rfl, -⟩ | ⟨rfl, -⟩ <;> rfl
    · simp; omega
theorem sim_longest : Sim_longest Rel := by
  intro Mx My x1 x2 hR
  unfold fX6_longest fX7_longest
  rw [isIn_ok, bI_s, isIn_ok, bI_s]
  by_cases c : 1 ≤ x1 ∧ x1 ≤ 300
  · rw [if_neg (Int32.not_lt.mpr c.1), if_neg (Int32.not_lt.mpr c.2), decide_eq_true c, bz_t, if_neg n10]
    obtain ⟨m, h1, h2, rfl⟩ := rng (lo := 1) (hi := 300) c.1 c.2 (by omega) (by omega)
    by_cases c2 : x2 = 0 ∨ x2 = 1
    · obtain ⟨d, rfl⟩ : ∃ d : Bool, x2 = bz d := bz_of c2
      obtain ⟨h1p, h2p, h3, h4, h5⟩ := hR
      obtain ⟨q4, q5, ⟨m0, q6, q7, q8, q9⟩, q10⟩ := h4
      refine ⟨nI m0, setI (setI Mx 5 5 (nI m)) 5 6 (bz d), setI (setI My 50 10 (nI m)) 50 11 (bz d), ?_, ?_, ?_⟩
      · have e : fX6_longest_L23 (nI m) (bz d) Mx = some (nI m0, setI (setI Mx 5 5 (nI m)) 5 6 (bz d)) := by
          unfold fX6_longest_L23 fX2_exchangeLimit
          rw [lt_eq, lt_eq, lt_eq, bI_s, q8]
        rw [e]; cases d <;> rfl
      · rw [decide_eq_true (show (0 : Int32) ≤ bz d ∧ bz d ≤ 1 by cases d <;> decide), bz_t, if_neg n10, lt_eq, lt_eq, lt_eq, q9]
      · have hx : SameBut (fun a k => a == 5 && (k == 5 || k == 6)) Mx (setI (setI Mx 5 5 (nI m)) 5 6 (bz d)) := (SameBut.refl.setI rfl).setI rfl
        have hy : SameBut (fun a k => a == 50 && (k == 10 || k == 11)) My (setI (setI My 50 10 (nI m)) 50 11 (bz d)) := (SameBut.refl.setI rfl).setI rfl
        refine ⟨h1p.move (hx.1 1 1 rfl) (fun k => hx.1 2 k rfl) (hy.1 50 1 rfl) (fun k => hy.1 51 k rfl), h2p.move (hx.1 3 1 rfl) (fun k => hx.1 4 k rfl) (hx.1 5 3 rfl) (fun k => hx.1 6 k rfl) (fun k => hx.1 7 k rfl) (fun k => hx.1 8 k rfl) (hy.1 50 3 rfl) (fun k => hy.1 53 k rfl) (hy.1 50 12 rfl) (fun k => hy.1 65 k rfl) (fun k => hy.1 66 k rfl) (fun k => hy.1 67 k rfl), h3.move (hx.1 9 3 rfl) (fun k => hx.1 10 k rfl) (fun k => hx.1 11 k rfl) (fun k => hx.1 12 k rfl) (hy.1 50 4 rfl) (fun k => hy.1 56 k rfl) (fun k => hy.1 57 k rfl) (fun k => hy.1 58 k rfl), ⟨by rw [hx.1 9 4 rfl, hy.1 50 8 rfl]; exact q4, by rw [hx.1 0 6 rfl, hy.1 50 9 rfl]; exact q5, ⟨m, h1, h2, by rw [gI_nk (by decide), gI_eq], by rw [gI_nk (by decide), gI_eq]⟩, ⟨d, gI_eq, gI_eq⟩⟩, ?_⟩
        obtain ⟨a, a2, p1, p2, p3, -⟩ := id h5
        refine h5.move (hx.2.2 0 5 rfl) (hx.2.2 17 4 rfl) (fun k => hx.1 _ k ?_) (fun a k q4 q5 _ _ _ => hx.2.1 a k ?_) (hy.1 50 17 rfl) (hy.2.1 50 20 rfl) (hy.2.1 50 21 rfl) (fun k => hy.2.1 69 k rfl) (fun k => hy.2.1 70 k rfl)
        · rw [p2]; rcases p1 with ⟨rfl, -⟩ | ⟨rfl, -⟩ <;> rfl
        · simp; omega
    · have c3 : ¬ (0 ≤ x2 ∧ x2 ≤ 1) := by
        rintro ⟨d1, d2⟩
        obtain ⟨j, e1, e2, rfl⟩ := rng (lo := 0) (hi := 1) d1 d2 (by omega) (by omega)
        rcases (show j = 0 ∨ j = 1 by omega) with rfl | rfl
        · exact c2 (Or.inl rfl)
        · exact c2 (Or.inr rfl)
      rw [if_neg (fun q => c2 (Or.inl q)), if_neg (fun q => c2 (Or.inr q)), decide_eq_false c3, bz_f, if_pos z00]
      exact ⟨_, _, _, rfl, rfl, hR⟩
  · have e : (if x1 < 1 then (some ((-1 : Int32), Mx)) else (if 300 < x1 then (some ((-1), Mx)) else (if x2 = 0 then (fX6_longest_L23 x1 x2 Mx) else (if x2 = 1 then (fX6_longest_L23 x1 x2 Mx) else (some ((-1), Mx)))))) = some (-1, Mx) := by
      by_cases c1 : x1 < 1
      · rw [if_pos c1]
      · rw [if_neg c1, if_pos (Int32.not_le.mp (fun q => c ⟨Int32.not_lt.mp c1, q⟩))]
    rw [e, decide_eq_false c, bz_f, if_pos z00]
    exact ⟨_, _, _, rfl, rfl, hR⟩
theorem sim_count : Sim_count Rel := by
  intro Mx My x1 hR
  obtain ⟨n0, -, hx0, hy0, -⟩ := hR.1
  obtain ⟨n, -, hx1, hy1, -, k, -, hx2, hy2, -⟩ := hR.2.1
  obtain ⟨w, -, hx3, hy3, -⟩ := hR.2.2.1
  obtain ⟨a, a2, h1, h2, h3, t, -, hx4, hy4, -⟩ := hR.2.2.2.2
  have hk : kd (gR Mx 0 5) = 0 := by rw [h2]; rcases h1 with ⟨rfl, -⟩ | ⟨rfl, -⟩ <;> rfl
  unfold fX6_count fX7_count
  simp only [fX5_size, fX2_size, fX1_size, fX0_atoms, bI_s, ga_, hk, if_true]
  rw [h2, hx0, hy0, hx1, hy1, hx2, hy2, hx3, hy3, hx4, hy4]
  by_cases c0 : x1 = 0
  · rw [if_pos c0, if_pos c0]; exact ⟨_, _, _, rfl, rfl, hR⟩
  rw [if_neg c0, if_neg c0]
  by_cases c1 : x1 = 1
  · rw [if_pos c1, if_pos c1]; exact ⟨_, _, _, rfl, rfl, hR⟩
  rw [if_neg c1, if_neg c1]
  by_cases c2 : x1 = 2
  · rw [if_pos c2, if_pos c2]; exact ⟨_, _, _, rfl, rfl, hR⟩
  rw [if_neg c2, if_neg c2]
  by_cases c3 : x1 = 3
  · rw [if_pos c3, if_pos c3]; exact ⟨_, _, _, rfl, rfl, hR⟩
  rw [if_neg c3, if_neg c3]
  by_cases c4 : x1 = 4
  · rw [if_pos c4, if_pos c4]; exact ⟨_, _, _, rfl, rfl, hR⟩
  rw [if_neg c4, if_neg c4]; exact ⟨_, _, _, rfl, rfl, hR⟩
/-! tokens' reads -/
theorem has_ok {k : Nat} (hk : k ≤ 400) {M : Mem} (h : gI M 5 3 = nI k) (x : Int32) : fX2_has x M = some (bz (decide (∃ j, j < k ∧ x = nI j)), M) := by
  unfold fX2_has
  rw [h]
  rcases pk_ix x (n := k) (by omega) with c | c | ⟨j, c1, rfl⟩
  · rw [if_pos c, decide_eq_false]
    · rfl
    · rintro ⟨j, hj, rfl⟩; exact absurd c (nI_pos (by omega))
  · have c0 : ¬ ∃ j, j < k ∧ x = nI j := by rintro ⟨j, hj, rfl⟩; exact absurd c (nI_ge hj (by omega))
    rw [if_pos c, decide_eq_false c0]
    split <;> rfl
  · rw [if_neg (nI_pos (by omega)), if_neg (nI_ge c1 (by omega)), decide_eq_true ⟨j, c1, rfl⟩]
    rfl
theorem isTok_ok {k : Nat} (hk : k ≤ 400) {M : Mem} (h : gI M 50 12 = nI k) (x : Int32) : fX7_isToken x M = some (bz (decide (∃ j, j < k ∧ x = nI j)), M) := by
  unfold fX7_isToken
  rw [isIn_ok, bI_s, zr_b, h]
  congr 3
  apply decide_eq_decide.mpr
  constructor
  · rintro ⟨h1, h2⟩
    have hk0 : k ≠ 0 := by
      rintro rfl
      have : (0 : Int32) ≤ nI 0 - 1 := Int32.le_trans h1 h2
      exact absurd this (by decide)
    have e : nI k - 1 = nI (k - 1) := by
      have := nI_pred (k - 1)
      rwa [show k - 1 + 1 = k by omega] at this
    rw [e] at h2
    obtain ⟨j, -, h4, rfl⟩ := rng (lo := 0) (hi := k - 1) h1 h2 (by omega) (by omega)
    exact ⟨j, by omega, rfl⟩
  · rintro ⟨j, hj, rfl⟩
    have e : nI k - 1 = nI (k - 1) := by
      have := nI_pred (k - 1)
      rwa [show k - 1 + 1 = k by omega] at this
    rw [e]
    exact ⟨nI_pos' (by omega), nI_le (by omega) (by omega)⟩
theorem placeOf_ok {k j : Nat} (hk : k ≤ 400) {M : Mem} (h : gI M 5 3 = nI k) (hj : j < k) : fX2_placeOf (nI j) M = some (gI M 6 j, M) := by
  unfold fX2_placeOf
  rw [has_ok hk h, bI_s, decide_eq_true ⟨j, hj, rfl⟩, bz_t, if_neg n10, iald_n (show j < 400 by omega) (by decide)]
theorem endOf_ok {k j : Nat} (hk : k ≤ 400) {M : Mem} (h : gI M 5 3 = nI k) (hj : j < k) : fX2_endOf (nI j) M = some (gI M 7 j, M) := by
  unfold fX2_endOf
  rw [has_ok hk h, bI_s, decide_eq_true ⟨j, hj, rfl⟩, bz_t, if_neg n10, iald_n (show j < 400 by omega) (by decide)]
theorem positionOf_ok {k j : Nat} (hk : k ≤ 400) {M : Mem} (h : gI M 5 3 = nI k) (hj : j < k) : fX2_positionOf (nI j) M = some (gI M 8 j, M) := by
  unfold fX2_positionOf
  rw [has_ok hk h, bI_s, decide_eq_true ⟨j, hj, rfl⟩, bz_t, if_neg n10, iald_n (show j < 400 by omega) (by decide)]
theorem sim_token : Sim_token Rel := by
  intro Mx My x1 x2 hR
  obtain ⟨n, hn, hx1, hy1, ht, k, hk, hx2, hy2, hT⟩ := hR.2.1
  unfold fX6_token fX7_token
  rw [has_ok hk hx2, isTok_ok hk hy2, bI_s, bI_s]
  by_cases c : ∃ j, j < k ∧ x1 = nI j
  · rw [decide_eq_true c, bz_t, if_neg n10, if_neg n10, isIn_ok, bI_s]
    obtain ⟨j, hj, rfl⟩ := c
    obtain ⟨a, e, q1, q2, q3, q4, q5, q6, q7⟩ := hT j hj
    rw [placeOf_ok hk hx2 hj, endOf_ok hk hx2 hj, positionOf_ok hk hx2 hj, bI_s, bI_s, bI_s, iald_n (show j < 400 by omega) (by decide), iald_n (show j < 400 by omega) (by decide), iald_n (show j < 400 by omega) (by decide), q3, q4, q5, q6, q7]
    by_cases c0 : x2 = 0
    · subst c0; exact ⟨_, _, _, rfl, rfl, hR⟩
    by_cases c1 : x2 = 1
    · subst c1; exact ⟨_, _, _, rfl, rfl, hR⟩
    by_cases c2 : x2 = 2
    · subst c2; exact ⟨_, _, _, rfl, rfl, hR⟩
    rw [if_neg c0, if_neg c1, if_neg c2, decide_eq_false, bz_f, if_pos z00]
    · exact ⟨_, _, _, rfl, rfl, hR⟩
    · rintro ⟨d1, d2⟩
      obtain ⟨i, e1, e2, rfl⟩ := rng (lo := 0) (hi := 2) d1 d2 (by omega) (by omega)
      rcases (show i = 0 ∨ i = 1 ∨ i = 2 by omega) with rfl | rfl | rfl
      · exact c0 rfl
      · exact c1 rfl
      · exact c2 rfl
  · rw [decide_eq_false c, bz_f, if_pos z00, if_pos z00]
    exact ⟨_, _, _, rfl, rfl, hR⟩
theorem lenOf_ok {k j a e : Nat} (hk : k ≤ 400) {M : Mem} (h : gI M 5 3 = nI k) (hj : j < k) (h1 : gI M 6 j = nI a) (h2 : gI M 7 j = nI e) (hae : a ≤ e) : fX2_lengthOf (nI j) M = some (nI (e - a), M) := by
  unfold fX2_lengthOf
  rw [endOf_ok hk h hj, bI_s, placeOf_ok hk h hj, bI_s, h1, h2, pk_sub hae]
theorem sim_sign : Sim_sign Rel := by
  intro Mx My x1 x2 hR
  obtain ⟨n, hn, hx1, hy1, ht, k, hk, hx2, hy2, hT⟩ := hR.2.1
  unfold fX6_sign fX7_sign
  rw [has_ok hk hx2, isTok_ok hk hy2, bI_s, bI_s]
  by_cases c : ∃ j, j < k ∧ x1 = nI j
  · rw [decide_eq_true c, bz_t, if_neg n10, if_neg n10]
    obtain ⟨j, hj, rfl⟩ := c
    obtain ⟨a, e, q1, q2, q3, q4, q5, q6, q7⟩ := hT j hj
    rw [lenOf_ok hk hx2 hj q3 q5 q1, bI_s, placeOf_ok hk hx2 hj, bI_s, iald_n (show j < 400 by omega) (by decide), iald_n (show j < 400 by omega) (by decide), isIn_ok, bI_s, iald_n (show j < 400 by omega) (by decide), q3, q4, q6, pk_sub q1]
    by_cases c1 : ∃ i, i < e - a ∧ x2 = nI i
    · obtain ⟨i, hi, rfl⟩ := c1
      rw [if_neg (nI_pos (by omega)), if_pos (nI_lt hi (by omega)), nI_add, at_ok rfl hx1 hn, bI_s, atv_in (by omega) hn, show nI (e - a) - 1 = nI (e - a - 1) by (have := nI_pred (e - a - 1); rwa [show e - a - 1 + 1 = e - a by omega] at this), decide_eq_true ⟨nI_pos' (by omega), nI_le (by omega) (by omega)⟩, bz_t, if_neg n10, iald_n (show a + i < 300 by omega) (by decide), ht (a + i) (by omega)]
      exact ⟨_, _, _, rfl, rfl, hR⟩
    · have e1 : (if x2 < 0 then (some ((-1 : Int32), Mx)) else (if x2 < nI (e - a) then (bI_ (fX5_at 3 (nI a + x2) Mx) fun v_8 M_7 => some (v_8, M_7)) else (some ((-1), Mx)))) = some (-1, Mx) := by
        by_cases d : x2 < 0
        · rw [if_pos d]
        · rw [if_neg d, if_neg]
          intro d2
          rcases pk_ix x2 (n := e - a) (by omega) with z | z | z
          · exact d z
          · exact absurd d2 (Int32.not_lt.mpr z)
          · exact c1 z
      have e2 : ¬ (0 ≤ x2 ∧ x2 ≤ nI (e - a) - 1) := by
        rintro ⟨d1, d2⟩
        have hk0 : e - a ≠ 0 := by
          intro z; rw [z] at d2
          exact absurd (Int32.le_trans d1 d2) (by decide)
        rw [show nI (e - a) - 1 = nI (e - a - 1) by (have := nI_pred (e - a - 1); rwa [show e - a - 1 + 1 = e - a by omega] at this)] at d2
        obtain ⟨i, -, e4, rfl⟩ := rng (lo := 0) (hi := e - a - 1) d1 d2 (by omega) (by omega)
        exact c1 ⟨i, by omega, rfl⟩
      rw [e1, decide_eq_false e2, bz_f, if_pos z00]
      exact ⟨_, _, _, rfl, rfl, hR⟩
  · rw [decide_eq_false c, bz_f, if_pos z00, if_pos z00]
    exact ⟨_, _, _, rfl, rfl, hR⟩
theorem sameX {n k j q a a2 m : Nat} (hn : n ≤ 300) (hk : k ≤ 400) {M : Mem} (ht : gI M 3 1 = nI n) (h : gI M 5 3 = nI k) (hj : j < k) (hq : q < k) (h1 : gI M 6 j = nI a) (h2 : gI M 6 q = nI a2) (ha : a + m ≤ n) (ha2 : a2 + m ≤ n) : ∀ (f i : Nat), i ≤ m → m < i + f → fX6_same_H50 f (nI j) (nI q) (nI m) (nI i) M = some (dz (∀ z, i ≤ z → z < m → bt M 3 (a + z) = bt M 3 (a2 + z)), M) := by
  intro f
  induction f with
  | zero => intro i h1 h2; omega
  | succ f ih =>
    intro i hi hf
    rw [fX6_same_H50]
    by_cases c : m ≤ i
    · rw [if_pos (nI_le c (by omega)), dz_t (fun z z1 z2 => by omega)]
    · have b1 := bt_lt M 3 (a + i)
      have b2 := bt_lt M 3 (a2 + i)
      rw [if_neg (nI_ge (by omega) (by omega)), placeOf_ok hk h hj, bI_s, h1, nI_add, at_ok rfl ht hn, bI_s, atv_in (by omega) hn, placeOf_ok hk h hq, bI_s, h2, nI_add, at_ok rfl ht hn, bI_s, atv_in (by omega) hn, lt_eq, show (1 : Int32) = nI 1 from rfl, nI_add, ih (i + 1) (by omega) (by omega)]
      by_cases d : bt M 3 (a + i) = bt M 3 (a2 + i)
      · rw [if_pos (by rw [d])]
        congr 2
        apply dz_c
        constructor
        · intro g z z1 z2
          by_cases z3 : z = i
          · rw [z3]; exact d
          · exact g z (by omega) z2
        · intro g z z1 z2
          exact g z (by omega) z2
      · rw [if_neg (fun z => d ((nI_eq (by omega) (by omega)).mp z)), dz_f (fun g => d (g i (by omega) (by omega)))]
theorem sameY {n j q a a2 m : Nat} (hn : n ≤ 300) {M : Mem} (b : Nat → Nat) (hb : ∀ z, b z < 256) (ht : ∀ z, z < n → gI M 53 z = nI (b z)) (hj : j < 400) (hq : q < 400) (h1 : gI M 65 j = nI a) (h2 : gI M 65 q = nI a2) (ha : a + m ≤ n) (ha2 : a2 + m ≤ n) : ∀ (f i : Nat), i ≤ m → m < i + f → fX7_same_H59 f (nI j) (nI q) (nI m) 1 (nI i) M = some (dz (∀ z, i ≤ z → z < m → b (a + z) = b (a2 + z)), M) := by
  intro f
  induction f with
  | zero => intro i h1 h2; omega
  | succ f ih =>
    intro i hi hf
    rw [fX7_same_H59]
    by_cases c : m ≤ i
    · rw [if_pos (nI_le c (by omega)), dz_t (fun z z1 z2 => by omega)]; rfl
    · have b1 := hb (a + i)
      have b2 := hb (a2 + i)
      rw [if_neg (nI_ge (by omega) (by omega)), if_neg (by decide), iald_n hj (by decide), h1, nI_add, iald_n (show a + i < 300 by omega) (by decide), ht (a + i) (by omega), iald_n hq (by decide), h2, nI_add, iald_n (show a2 + i < 300 by omega) (by decide), ht (a2 + i) (by omega)]
      unfold fX7_same_L106
      rw [lt_eq, show (1 : Int32) = nI 1 from rfl, nI_add, lt_eq]
      by_cases d : b (a + i) = b (a2 + i)
      · rw [if_pos (by rw [d])]
        refine (ih (i + 1) (by omega) (by omega)).trans ?_
        congr 2
        apply dz_c
        constructor
        · intro g z z1 z2
          by_cases z3 : z = i
          · rw [z3]; exact d
          · exact g z (by omega) z2
        · intro g z z1 z2
          exact g z (by omega) z2
      · rw [if_neg (fun z => d ((nI_eq (by omega) (by omega)).mp z)), dz_f (fun g => d (g i (by omega) (by omega)))]
        cases f with
        | zero => omega
        | succ f =>
          rw [fX7_same_H59]
          have e : fX7_same_L114 0 M = some (0, M) := rfl
          rw [if_pos (show (0 : Int32) = 0 from rfl), e]
          split <;> rfl
theorem sim_same : Sim_same Rel := by
  intro Mx My x1 x2 hR
  obtain ⟨n, hn, hx1, hy1, ht, k, hk, hx2, hy2, hT⟩ := hR.2.1
  unfold fX6_same fX7_same
  rw [has_ok hk hx2, isTok_ok hk hy2, bI_s, bI_s]
  by_cases c : ∃ j, j < k ∧ x1 = nI j
  · rw [decide_eq_true c, bz_t, if_neg n10, if_neg n10, has_ok hk hx2, isTok_ok hk hy2, bI_s, bI_s]
    obtain ⟨j, hj, rfl⟩ := c
    by_cases c2 : ∃ j, j < k ∧ x2 = nI j
    · rw [decide_eq_true c2, bz_t, if_neg n10, if_neg n10]
      obtain ⟨q, hq, rfl⟩ := c2
      obtain ⟨a, e, q1, q2, q3, q4, q5, q6, q7⟩ := hT j hj
      obtain ⟨a2, e2, r1, r2, r3, r4, r5, r6, r7⟩ := hT q hq
      rw [lenOf_ok hk hx2 hj q3 q5 q1, bI_s, lenOf_ok hk hx2 hq r3 r5 r1, bI_s, iald_n (show j < 400 by omega) (by decide), iald_n (show j < 400 by omega) (by decide), lt_eq, iald_n (show q < 400 by omega) (by decide), iald_n (show q < 400 by omega) (by decide), q4, q6, r4, r6, pk_sub q1, pk_sub r1]
      by_cases d : e - a = e2 - a2
      · rw [if_pos (by rw [d]), if_pos (by rw [d])]
        unfold fX7_same_L54
        rw [show (0 : Int32) = nI 0 from rfl, sameX hn hk hx1 hx2 hj hq q3 r3 (by omega) (by omega) FU 0 (by omega) (by unfold FU; omega)]
        refine ⟨_, _, _, rfl, sameY hn (bt Mx 3) (bt_lt Mx 3) ht (by omega) (by omega) q4 r4 (by omega) (by omega) FU 0 (by omega) (by unfold FU; omega), hR⟩
      · rw [if_neg (fun z => d ((nI_eq (by omega) (by omega)).mp z)), if_neg (fun z => d ((nI_eq (by omega) (by omega)).mp z))]
        refine ⟨0, Mx, My, rfl, ?_, hR⟩
        show fX7_same_H59 (99999 + 1) _ _ _ 0 0 My = _
        rw [fX7_same_H59]
        have e : fX7_same_L114 0 My = some (0, My) := rfl
        rw [if_pos (show (0 : Int32) = 0 from rfl), e]
        split <;> rfl
    · rw [decide_eq_false c2, bz_f, if_pos z00, if_pos z00]
      exact ⟨_, _, _, rfl, rfl, hR⟩
  · rw [decide_eq_false c, bz_f, if_pos z00, if_pos z00]
    exact ⟨_, _, _, rfl, rfl, hR⟩
