/-! rows of signs, and cost -/
theorem solX {s : Nat} (hs : s < 256) (M : Mem) : fX6_isSolid (nI s) M = some (bz (!isBl s), M) := by
  unfold fX6_isSolid
  rw [if_neg (fun z => absurd (show nI s < 0 by rw [z]; decide) (nI_pos (by omega))), blX hs, bI_s]
  cases isBl s <;> rfl
theorem solN (M : Mem) : fX6_isSolid (-1) M = some (0, M) := rfl
def rs (b : Nat → Nat) : Nat → Nat
  | 0 => 0
  | j + 1 => if isBl (b j) then j + 1 else rs b j
theorem rs_le (b : Nat → Nat) : ∀ j, rs b j ≤ j := by
  intro j
  induction j with
  | zero => exact Nat.le_refl 0
  | succ j ih => rw [rs]; split <;> omega
def ek (K : Nat → Bool) : Nat → Nat → Nat
  | 0, i => i
  | d + 1, i => if K i then ek K d (i + 1) else i
theorem ek_ge (K : Nat → Bool) : ∀ d i, i ≤ ek K d i ∧ ek K d i ≤ i + d := by
  intro d
  induction d with
  | zero => intro i; exact ⟨Nat.le_refl i, Nat.le_refl i⟩
  | succ d ih =>
    intro i
    rw [ek]
    have := ih (i + 1)
    split <;> omega
theorem endX {n : Nat} {K : Nat → Bool} {way : Int32} {M : Mem} (hn : n ≤ 300) (h : gI M 3 1 = nI n) (hK : ∀ i, i < n → fX6_isOfKind way (nI i) M = some (bz (K i), M)) : ∀ (f i : Nat), i ≤ n → n < i + f → fX6_endOfKind_H2 f way (nI i) M = some (nI (ek K (n - i) i), M) := by
  intro f
  induction f with
  | zero => intro i q1 q2; omega
  | succ f ih =>
    intro i q1 q2
    rw [fX6_endOfKind_H2, fX5_size, bI_s, h]
    by_cases c : n ≤ i
    · rw [if_pos (nI_le c (by omega)), show n - i = 0 by omega]; rfl
    · rw [if_neg (nI_ge (by omega) (by omega)), hK i (by omega), bI_s, lt_eq, show (1 : Int32) = nI 1 from rfl, nI_add, ih (i + 1) (by omega) (by omega), show n - i = (n - (i + 1)) + 1 by omega, ek]
      by_cases d : K i = true
      · rw [d, bz_t, if_neg n10, if_pos rfl]
      · rw [show K i = false by simpa using d, bz_f, if_pos z00]; rfl
theorem end_ok {n i : Nat} {K : Nat → Bool} {way : Int32} {M : Mem} (hn : n ≤ 300) (h : gI M 3 1 = nI n) (hi : i ≤ n) (hK : ∀ i, i < n → fX6_isOfKind way (nI i) M = some (bz (K i), M)) : fX6_endOfKind way (nI i) M = some (nI (ek K (n - i) i), M) := endX hn h hK FU i hi (by unfold FU; omega)
def KS (b : Nat → Nat) : Nat → Bool := fun i => !isBl (b i)
theorem kind82 {n i : Nat} {M : Mem} (hn : n ≤ 300) (h : gI M 3 1 = nI n) (hi : i < n) : fX6_isOfKind_L82 (nI i) M = some (bz (KS (bt M 3) i), M) := by
  unfold fX6_isOfKind_L82
  rw [at_ok rfl h hn, bI_s, atv_in hi hn, solX (bt_lt M 3 i), bI_s, zr_b]; rfl
theorem kind1 {n i : Nat} {M : Mem} (hn : n ≤ 300) (h : gI M 3 1 = nI n) (hi : i < n) : fX6_isOfKind 1 (nI i) M = some (bz (KS (bt M 3) i), M) := by
  unfold fX6_isOfKind
  rw [if_neg n10, if_pos rfl, kind82 hn h hi]
theorem solY {n i : Nat} {b : Nat → Nat} {M : Mem} (hn : n ≤ 300) (h : gI M 50 3 = nI n) (hb : ∀ j, b j < 256) (ht : ∀ j, j < n → gI M 53 j = nI (b j)) (hi : i < n) : fX7_isSolid (nI i) M = some (bz (KS b i), M) := by
  unfold fX7_isSolid
  rw [isIn_ok, bI_s, h, decide_eq_true ⟨nI_pos' (by omega), by rw [show nI n - 1 = nI (n - 1) by (have := nI_pred (n - 1); rwa [show n - 1 + 1 = n by omega] at this)]; exact nI_le (by omega) (by omega)⟩, bz_t, if_neg n10, iald_n (show i < 300 by omega) (by decide), ht i hi, blY (hb i), bI_s]
  unfold KS
  cases isBl (b i) <;> rfl
theorem solYout {n : Nat} {M : Mem} {x : Int32} (hn : n ≤ 300) (h : gI M 50 3 = nI n) (hx : x < 0 ∨ nI n ≤ x) : fX7_isSolid x M = some (0, M) := by
  unfold fX7_isSolid
  rw [isIn_ok, bI_s, h, decide_eq_false, bz_f, if_pos z00]
  · rfl
  · rintro ⟨d1, d2⟩
    rcases hx with c | c
    · exact absurd c (Int32.not_lt.mpr d1)
    · have h := Int32.le_trans c d2
      by_cases n0 : n = 0
      · subst n0; exact absurd h (by decide)
      · rw [show nI n - 1 = nI (n - 1) by (have := nI_pred (n - 1); rwa [show n - 1 + 1 = n by omega] at this)] at h
        exact absurd h (nI_ge (by omega) (by omega))
theorem pred_nI {j : Nat} : nI (j + 1) - 1 = nI j := nI_pred j
theorem backX {n pl : Nat} {M : Mem} (hn : n ≤ 300) (h : gI M 3 1 = nI n) : ∀ (f j : Nat), j ≤ n → j < f → fX6_cost_H28 f (nI pl) (nI j) M = fX6_cost_L54 (nI pl) (nI (rs (bt M 3) j)) M := by
  intro f
  induction f with
  | zero => intro j q1 q2; omega
  | succ f ih =>
    intro j q1 q2
    rw [fX6_cost_H28]
    cases j with
    | zero => rw [if_pos (show nI 0 ≤ 0 by decide)]; rfl
    | succ j =>
      rw [if_neg (show ¬ nI (j + 1) ≤ 0 from nI_nle (by omega) (by omega)), pred_nI, at_ok rfl h hn, bI_s, atv_in (by omega) hn, solX (bt_lt M 3 j), bI_s, lt_eq, pk_m1, ih j (by omega) (by omega), rs]
      by_cases d : isBl (bt M 3 j) = true
      · rw [d]; rfl
      · rw [show isBl (bt M 3 j) = false by simpa using d]
        rw [if_neg (show ¬ bz (!false) = 0 from n10), if_neg (by decide)]
theorem backY {n pl : Nat} {b : Nat → Nat} {M : Mem} (hn : n ≤ 300) (h : gI M 50 3 = nI n) (hb : ∀ j, b j < 256) (ht : ∀ j, j < n → gI M 53 j = nI (b j)) : ∀ (f j : Nat), j ≤ n → j < f → fX7_cost_H33 f (nI pl) (nI j) M = fX7_cost_H51 FU (nI (rs b j)) (nI pl) M := by
  intro f
  induction f with
  | zero => intro j q1 q2; omega
  | succ f ih =>
    intro j q1 q2
    rw [fX7_cost_H33]
    cases j with
    | zero => rw [solYout hn h (Or.inl (by decide)), bI_s, if_pos z00, rs]
    | succ j =>
      rw [pred_nI, solY hn h hb ht (by omega), bI_s, lt_eq, pk_m1, ih j (by omega) (by omega), rs]
      unfold KS
      by_cases d : isBl (b j) = true
      · rw [d, if_pos (show bz (!true) = 0 from rfl), if_pos rfl]
      · rw [show isBl (b j) = false by simpa using d]
        rw [if_neg (show ¬ bz (!false) = 0 from n10), if_neg (by decide)]
theorem forthY {n fi : Nat} {b : Nat → Nat} {M : Mem} (hn : n ≤ 300) (h : gI M 50 3 = nI n) (hb : ∀ j, b j < 256) (ht : ∀ j, j < n → gI M 53 j = nI (b j)) : ∀ (f j : Nat), j ≤ n → n < j + f → fX7_cost_H51 f (nI fi) (nI j) M = bV_ (fX7_ways (nI fi) (nI (ek (KS b) (n - j) j)) M) fun M_10 => iald_ M_10 90 (nI fi) fun v_12 => some (v_12, M_10) := by
  intro f
  induction f with
  | zero => intro j q1 q2; omega
  | succ f ih =>
    intro j q1 q2
    rw [fX7_cost_H51]
    by_cases c : n ≤ j
    · rw [solYout hn h (Or.inr (nI_le c (by omega))), bI_s, if_pos z00, show n - j = 0 by omega]; rfl
    · rw [solY hn h hb ht (by omega), bI_s, lt_eq, show (1 : Int32) = nI 1 from rfl, nI_add, ih (j + 1) (by omega) (by omega), show n - j = (n - (j + 1)) + 1 by omega, ek]
      by_cases d : KS b j = true
      · rw [d, bz_t, if_neg n10, if_pos rfl]
      · rw [show KS b j = false by simpa using d, bz_f, if_pos z00]; rfl
theorem Rel.dict {Mx My : Mem} (h : Rel Mx My) : ∃ n w st len cst, DX n w st len cst (fun k j => bt Mx 9 (12 * k + j)) (bt Mx 3) Mx ∧ DY n w st len cst (fun k j => bt Mx 9 (12 * k + j)) (bt Mx 3) My := by
  obtain ⟨-, ⟨n, t1, t2, t3, t4, -⟩, ⟨w, d1, d2, d3, len, cst, d4, d5⟩, ⟨⟨st, s1, s2, s3, s4⟩, -⟩, -⟩ := h
  refine ⟨n, w, st, len, cst, ⟨t1, t2, d1, d2, s1, s2, s3, fun k hk => ?_, fun _ _ => rfl, fun _ => rfl⟩, ⟨t1, t3, d1, d3, s1, s2, s4, fun k hk => ?_, fun k j hk hj => ?_, t4, bt_lt Mx 3, fun k j => bt_lt Mx 9 _, d5⟩⟩
  · obtain ⟨q1, q2, q3, q4, q5, q6, q7, q8, q9⟩ := d4 k hk
    exact ⟨q1, q2, q3, q5, q6, q7⟩
  · obtain ⟨q1, q2, q3, q4, q5, q6, q7, q8, q9⟩ := d4 k hk
    exact ⟨q1, q2, q4, q5, q6, q8⟩
  · exact (d4 k hk).2.2.2.2.2.2.2.2 j hj
theorem Rel.keepDict {Mx My Mx1 My1 : Mem} (h : Rel Mx My) (hx : SameBut SD Mx Mx1) (hy : SameBut SE My My1) : Rel Mx1 My1 := by
  obtain ⟨h1, h2, h3, h4, h5⟩ := h
  refine ⟨h1.move (hx.1 1 1 rfl) (fun k => hx.1 2 k rfl) (hy.1 50 1 rfl) (fun k => hy.1 51 k rfl), h2.move (hx.1 3 1 rfl) (fun k => hx.1 4 k rfl) (hx.1 5 3 rfl) (fun k => hx.1 6 k rfl) (fun k => hx.1 7 k rfl) (fun k => hx.1 8 k rfl) (hy.1 50 3 rfl) (fun k => hy.1 53 k rfl) (hy.1 50 12 rfl) (fun k => hy.1 65 k rfl) (fun k => hy.1 66 k rfl) (fun k => hy.1 67 k rfl), h3.move (hx.1 9 3 rfl) (fun k => hx.1 10 k rfl) (fun k => hx.1 11 k rfl) (fun k => hx.1 12 k rfl) (hy.1 50 4 rfl) (fun k => hy.1 56 k rfl) (fun k => hy.1 57 k rfl) (fun k => hy.1 58 k rfl), h4.move (hx.1 9 4 rfl) (hx.1 0 6 rfl) (hx.1 5 5 rfl) (hx.1 5 6 rfl) (hy.1 50 8 rfl) (hy.1 50 9 rfl) (hy.1 50 10 rfl) (hy.1 50 11 rfl), ?_⟩
  obtain ⟨a, a2, q1, q2, q3, -⟩ := id h5
  refine h5.move (hx.2.2 0 5 rfl) (hx.2.2 17 4 rfl) (fun k => hx.1 _ k ?_) (fun a k q4 q5 _ _ _ => hx.2.1 a k ?_) (hy.1 50 17 rfl) (hy.2.1 50 20 rfl) (hy.2.1 50 21 rfl) (fun k => hy.2.1 69 k rfl) (fun k => hy.2.1 70 k rfl)
  · rw [q2]; rcases q1 with ⟨rfl, -⟩ | ⟨rfl, -⟩ <;> rfl
  · simp [SD]; omega
theorem sim_cost : Sim_cost Rel := by
  intro Mx My x1 hR
  obtain ⟨n, w, st, len, cst, hDX, hDY⟩ := hR.dict
  have hn := hDX.1
  have hx1 := hDX.2.1
  have hy1 := hDY.2.1
  have ht := hDY.2.2.2.2.2.2.2.2.2.1
  unfold fX6_cost fX7_cost
  rw [at_ok rfl hx1 hn, bI_s, isIn_ok, bI_s, hy1]
  rcases pk_ix x1 (n := n) (by omega) with c | c | ⟨j, c1, rfl⟩
  · rw [show atv n (bt Mx 3) x1 = -1 by (unfold atv; rw [if_pos c]), if_pos rfl, decide_eq_false (fun q => absurd c (Int32.not_lt.mpr q.1)), bz_f, if_pos z00]
    exact ⟨_, _, _, rfl, rfl, hR⟩
  · rw [show atv n (bt Mx 3) x1 = -1 by (unfold atv; by_cases d : x1 < 0; rw [if_pos d]; rw [if_neg d, if_pos c]), if_pos rfl, decide_eq_false, bz_f, if_pos z00]
    · exact ⟨_, _, _, rfl, rfl, hR⟩
    · rintro ⟨d1, d2⟩
      have h := Int32.le_trans c d2
      by_cases n0 : n = 0
      · subst n0
        exact absurd h (by decide)
      · rw [show nI n - 1 = nI (n - 1) by (have := nI_pred (n - 1); rwa [show n - 1 + 1 = n by omega] at this)] at h
        exact absurd h (nI_ge (by omega) (by omega))
  · have hb := bt_lt Mx 3 j
    rw [atv_in c1 hn, if_neg (fun z => absurd (show nI (bt Mx 3 j) < 0 by rw [z]; decide) (nI_pos (by omega))), decide_eq_true ⟨nI_pos' (by omega), by rw [show nI n - 1 = nI (n - 1) by (have := nI_pred (n - 1); rwa [show n - 1 + 1 = n by omega] at this)]; exact nI_le (by omega) (by omega)⟩, bz_t, if_neg n10, blX hb, bI_s, iald_n (show j < 300 by omega) (by decide), ht j c1, blY hb, bI_s]
    by_cases d : isBl (bt Mx 3 j) = true
    · rw [d, bz_t, if_neg n10, if_neg n10]
      exact ⟨_, _, _, rfl, rfl, hR⟩
    · rw [show isBl (bt Mx 3 j) = false by simpa using d, bz_f, if_pos z00, if_pos z00, backX hn hx1 FU j (by omega) (by unfold FU; omega), backY hn hy1 (bt_lt Mx 3) ht FU j (by omega) (by unfold FU; omega), forthY hn hy1 (bt_lt Mx 3) ht FU j (by omega) (by unfold FU; omega)]
      unfold fX6_cost_L54
      have hr := rs_le (bt Mx 3) j
      have he := ek_ge (KS (bt Mx 3)) (n - j) j
      rw [end_ok (K := KS (bt Mx 3)) hn hx1 (by omega) (fun i hi => kind1 hn hx1 hi), bI_s]
      obtain ⟨M1, S, P, F, r1, r2, r3, r4, r5⟩ := solve_ok (pl := rs (bt Mx 3) j) (en := ek (KS (bt Mx 3)) (n - j) j) (by omega) (by omega) hDX
      obtain ⟨M2, S2, P2, F2, s1, s2, s3, s4, s5⟩ := ways_ok (pl := rs (bt Mx 3) j) (en := ek (KS (bt Mx 3)) (n - j) j) (by omega) (by omega) hDY
      have u := Solved.uniq (fun k hk => (hDX.2.2.2.2.2.2.2.1 k hk).1) r3 s3 (rs (bt Mx 3) j) (by omega) (by omega)
      rw [r1, bI_s, s1, bV_s, iald_n (show rs (bt Mx 3) j < 301 by omega) (by decide), (s4 _ (by omega) (by omega)).1, u.1]
      exact ⟨_, _, _, rfl, rfl, hR.keepDict r2 s2⟩
