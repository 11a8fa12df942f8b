/-! match: the automaton, by sets of bits -/
def orL (B : Nat → Int64) (S : Int64) : Nat → Nat → Int64 → Int64
  | 0, _, acc => acc
  | n + 1, k, acc => orL B S n (k + 1) (if bit S k then acc ||| B k else acc)
theorem orL_none {B : Nat → Int64} {S : Int64} : ∀ (n k : Nat) (acc : Int64), (∀ j, k ≤ j → bit S j = false) → orL B S n k acc = acc := by
  intro n
  induction n with
  | zero => intro k acc h; rfl
  | succ n ih =>
    intro k acc h
    rw [orL, h k (Nat.le_refl k)]
    exact ih (k + 1) acc (fun j hj => h j (by omega))
theorem ushr_0 {x : Int64} {k : Nat} (hk : k < 64) (h : ushr6 x (nI k) = 0) : ∀ j, k ≤ j → bit x j = false := by
  intro j hj
  have := bit_ushr x (j - k) hk
  rw [h, bit_0] at this
  rw [this, show k + (j - k) = j by omega]
theorem behindX {o t : Nat} (ho : kd o = 0) (ht : t ≤ 60) {M : Mem} (h1 : gI M o 2 = nI t) (S : Int64) : ∀ (f i : Nat) (acc : Int64), i ≤ t → t < i + f → fX0_behind_H5 o f S acc (nI i) M = some (orL (gJ M (o + 2)) S (t - i) i acc, M) := by
  intro f
  induction f with
  | zero => intro i acc q1 q2; omega
  | succ f ih =>
    intro i acc q1 q2
    rw [fX0_behind_H5, h1]
    by_cases c : t ≤ i
    · rw [if_pos (nI_le c (by omega)), show t - i = 0 by omega]; rfl
    · rw [if_neg (nI_ge (by omega) (by omega))]
      by_cases c2 : lg_cmp (ushr6 S (nI i)) 0 = 0
      · rw [if_pos c2, orL_none _ _ _ (ushr_0 (by omega) ((lg_e _ _).mp c2))]
      · rw [if_neg c2, show t - i = (t - (i + 1)) + 1 by omega, orL]
        unfold fX0_behind_L44
        rw [lt_eq, show (1 : Int32) = nI 1 from rfl, nI_add, lald_n (by rw [nb0 ho]; omega) (by rw [nb0 ho]; omega), lt_eq, lt_eq, ih (i + 1) _ (by omega) (by omega), ih (i + 1) _ (by omega) (by omega)]
        by_cases c4 : bit S i = true
        · rw [if_neg (fun z => by rw [(tst_u S (by omega)).mp z] at c4; cases c4), if_pos c4]
        · rw [if_pos ((tst_u S (by omega)).mpr (by simpa using c4)), if_neg c4]
/-- the longest row from a place on -/
def mrun (pl : Nat) (b : Nat → Nat) (t : Nat) (ft : Nat → Int64) (B : Nat → Int64) (en : Int64) : Nat → Nat → Nat → Int64 → Nat
  | 0, _, best, _ => best
  | d + 1, at_, best, op => if op = 0 then best else mrun pl b t ft B en d (at_ + 1) (if (op &&& ft (b at_)) &&& en = 0 then best else at_ + 1 - pl) (orL B (op &&& ft (b at_)) t 0 0)
theorem longX {o t n pl : Nat} (ho : kd o = 0) (ht : t ≤ 60) (hn : n ≤ 300) {M : Mem} (h1 : gI M o 2 = nI t) (h2 : gI M 3 1 = nI n) : ∀ (f at_ best : Nat) (op : Int64), pl ≤ at_ → at_ ≤ n → n < at_ + f → fX0_longestFrom_H11 o 3 f (nI pl) (nI best) op (nI at_) M = some (nI (mrun pl (bt M 3) t (gJ M (o + 1)) (gJ M (o + 2)) (gJ M o 4) (n - at_) at_ best op), M) := by
  intro f
  induction f with
  | zero => intro at_ best op q0 q1 q2; omega
  | succ f ih =>
    intro at_ best op q0 q1 q2
    rw [fX0_longestFrom_H11, fX5_size, bI_s, h2]
    by_cases c : n ≤ at_
    · rw [if_pos (nI_le c (by omega)), show n - at_ = 0 by omega]; rfl
    · rw [if_neg (nI_ge (by omega) (by omega)), show n - at_ = (n - (at_ + 1)) + 1 by omega, mrun]
      by_cases c2 : op = 0
      · rw [if_pos ((lg_e _ _).mpr c2), if_pos c2]
      · have hb := bt_lt M 3 at_
        rw [if_neg (fun z => c2 ((lg_e _ _).mp z)), if_neg c2, at_ok rfl h2 hn, bI_s, atv_in (by omega) hn]
        unfold fX0_fittingFor
        rw [if_neg (show ¬ nI (bt M 3 at_) < 0 from nI_pos (by omega)), if_neg (show ¬ (256 : Int32) ≤ nI (bt M 3 at_) from nI_ge (b := 256) hb (by omega)), lald_n (by rw [na0 ho]; exact hb) (by rw [na0 ho]; omega), bJ_s, lt_eq]
        unfold fX0_longestFrom_L61 fX0_behind
        have hbe := behindX ho ht h1 (op &&& gJ M (o + 1) (bt M 3 at_)) FU 0 0 (by omega) (by unfold FU; omega)
        rw [show t - 0 = t by omega] at hbe
        rw [show (nI 0 : Int32) = 0 from rfl] at hbe
        simp only [hbe, bJ_s, lt_eq]
        rw [show (1 : Int32) = nI 1 from rfl, nI_add, pk_sub (show pl ≤ at_ + 1 by omega), ih (at_ + 1) _ _ (by omega) (by omega) (by omega), ih (at_ + 1) _ _ (by omega) (by omega) (by omega)]
        by_cases c3 : (op &&& gJ M (o + 1) (bt M 3 at_)) &&& gJ M o 4 = 0
        · rw [if_pos ((lg_e _ _).mpr c3), if_pos c3]
        · rw [if_neg (fun z => c3 ((lg_e _ _).mp z)), if_neg c3]

theorem inY {t n pl at_ best : Nat} {S may : Int64} {ft : Int64} {b : Nat → Nat} {M : Mem} (k11 : Int32 → Int64 → Int32 → Int32 → Mem → Option (Int32 × Mem)) (ht : t ≤ 60) (hn : n ≤ 300) (hpl : pl ≤ at_) (hat : at_ < n) (hb : b at_ < 256) (h1 : gI M 50 17 = nI t) (h3 : gI M 53 at_ = nI (b at_)) (hS : S = may &&& ft) (hft : ∀ k, bit ft k = (decide (k < t) && bit (gJ M 69 (4 * k + b at_ / 64)) (b at_ % 64))) : ∀ (f i : Nat) (x6 x8 : Int64), i ≤ t → t < i + f → (∀ z, z < 64 → bit x6 z = (decide (z < i) && bit S z)) → fX7_matches_H35 k11 f (nI pl) may (nI best) (nI at_) x6 x8 (nI i) M = k11 (nI pl) (orL (gJ M 70) S (t - i) i x8) (nI (if S &&& gJ M 50 21 = 0 then best else at_ + 1 - pl)) (nI (at_ + 1)) M := by
  intro f
  induction f with
  | zero => intro i x6 x8 q0 q1; omega
  | succ f ih =>
    intro i x6 x8 q0 q1 q2
    rw [fX7_matches_H35, h1]
    by_cases c : t ≤ i
    · have e6 : x6 = S := by
        apply bit_ext
        intro z hz
        rw [q2 z hz]
        by_cases hz2 : z < i
        · simp [hz2]
        · rw [hS, bit_and, hft, decide_eq_false (show ¬ z < t by omega)]
          simp
      unfold fX7_matches_L143
      rw [if_pos (nI_le c (by omega)), lt_eq, lt_eq, show (1 : Int32) = nI 1 from rfl, nI_add, pk_sub (show pl ≤ at_ + 1 by omega), show t - i = 0 by omega, e6, orL]
      by_cases c3 : S &&& gJ M 50 21 = 0
      · rw [if_pos ((lg_e _ _).mpr c3), if_pos c3]
      · rw [if_neg (fun z => c3 ((lg_e _ _).mp z)), if_neg c3]
    · unfold fX7_matches_L114
      simp only [lt_eq]
      rw [if_neg (nI_ge (by omega) (by omega)), iald_n (show at_ < 300 by omega) (by decide), h3, show (64 : Int32) = nI 64 from rfl, pk_div (by omega) (by omega) (by omega), show (4 : Int32) = nI 4 from rfl, pk_mul, nI_add, lald_n (show 4 * i + b at_ / 64 < 240 by omega) (by decide), iald_n (show at_ < 300 by omega) (by decide), h3, pk_rem (by omega) (by omega) (by omega), lald_n (show i < 60 by omega) (by decide), show (1 : Int32) = nI 1 from rfl, nI_add]
      have hSi : bit S i = (bit may i && bit (gJ M 69 (4 * i + b at_ / 64)) (b at_ % 64)) := by
        rw [hS, bit_and, hft, decide_eq_true (show i < t by omega)]; simp
      have stay : bit S i = false → ∀ z, z < 64 → bit x6 z = (decide (z < i + 1) && bit S z) := by
        intro hs z hz
        rw [q2 z hz]
        by_cases hz2 : z = i
        · subst hz2; simp [hs]
        · by_cases hz3 : z < i
          · simp [hz3, show z < i + 1 by omega]
          · simp [hz3, show ¬ z < i + 1 by omega]
      rw [show t - i = (t - (i + 1)) + 1 by omega, orL]
      by_cases c4 : bit may i = true
      · rw [if_pos ((tst_s may (by omega)).mpr c4)]
        by_cases c5 : bit (gJ M 69 (4 * i + b at_ / 64)) (b at_ % 64) = true
        · have hs : bit S i = true := by rw [hSi, c4, c5]; rfl
          rw [if_pos ((tst_s _ (by omega)).mpr c5), ih (i + 1) _ _ (by omega) (by omega), if_pos hs]
          intro z hz
          rw [bit_or, bit_shl1 (by omega) hz, q2 z hz]
          by_cases hz2 : z = i
          · subst hz2; simp [hs]
          · by_cases hz3 : z < i
            · simp [hz2, hz3, show z < i + 1 by omega]
            · simp [hz2, hz3, show ¬ z < i + 1 by omega]
        · have hs : bit S i = false := by rw [hSi]; simp [c5]
          rw [if_neg (fun z => c5 ((tst_s _ (by omega)).mp z)), ih (i + 1) _ _ (by omega) (by omega) (stay hs), if_neg (show ¬ bit S i = true by simp [hs])]
      · have hs : bit S i = false := by rw [hSi]; simp [c4]
        rw [if_neg (fun z => c4 ((tst_s _ (by omega)).mp z)), ih (i + 1) _ _ (by omega) (by omega) (stay hs), if_neg (show ¬ bit S i = true by simp [hs])]
theorem longY {t n pl : Nat} {ft : Nat → Int64} {b : Nat → Nat} (ht : t ≤ 60) (hn : n ≤ 300) {M : Mem} (hb : ∀ z, b z < 256) (h1 : gI M 50 17 = nI t) (h2 : gI M 50 3 = nI n) (h3 : ∀ z, z < n → gI M 53 z = nI (b z)) (hft : ∀ c k, c < 256 → bit (ft c) k = (decide (k < t) && bit (gJ M 69 (4 * k + c / 64)) (c % 64))) : ∀ (f at_ best : Nat) (op : Int64), pl ≤ at_ → at_ ≤ n → n < at_ + f → fX7_matches_H11 f (nI pl) op (nI best) (nI at_) M = some (nI (mrun pl b t ft (gJ M 70) (gJ M 50 21) (n - at_) at_ best op), M) := by
  intro f
  induction f with
  | zero => intro at_ best op q0 q1 q2; omega
  | succ f ih =>
    intro at_ best op q0 q1 q2
    rw [fX7_matches_H11, h2]
    by_cases c : n ≤ at_
    · rw [if_pos (nI_le c (by omega)), show n - at_ = 0 by omega]; rfl
    · rw [if_neg (nI_ge (by omega) (by omega)), show n - at_ = (n - (at_ + 1)) + 1 by omega, mrun]
      by_cases c2 : op = 0
      · rw [if_pos ((lg_e _ _).mpr c2), if_pos c2]
      · rw [if_neg (fun z => c2 ((lg_e _ _).mp z)), if_neg c2]
        have := inY (fX7_matches_H11 f) (best := best) ht hn q0 (show at_ < n by omega) (hb at_) h1 (h3 at_ (by omega)) (S := op &&& ft (b at_)) rfl (fun k => hft (b at_) k (hb at_)) FU 0 0 0 (by omega) (by unfold FU; omega) (fun z hz => by rw [bit_0]; simp)
        rw [show (nI 0 : Int32) = 0 from rfl, show t - 0 = t by omega] at this
        rw [this, ih (at_ + 1) _ _ (by omega) (by omega) (by omega)]
theorem mrun_congr {pl t : Nat} {b : Nat → Nat} {ft B B1 : Nat → Int64} {en : Int64} (hB : ∀ k, k < t → B k = B1 k) : ∀ (d at_ best : Nat) (op : Int64), mrun pl b t ft B en d at_ best op = mrun pl b t ft B1 en d at_ best op := by
  have h0 : ∀ (S : Int64) (n k : Nat) (acc : Int64), k + n ≤ t → orL B S n k acc = orL B1 S n k acc := by
    intro S n
    induction n with
    | zero => intro k acc h; rfl
    | succ n ih =>
      intro k acc h
      rw [orL, orL, hB k (by omega), ih (k + 1) _ (by omega)]
  intro d
  induction d with
  | zero => intro at_ best op; rfl
  | succ d ih =>
    intro at_ best op
    rw [mrun, mrun, h0 _ t 0 0 (by omega), ih]
/-- both machines from a place on -/
theorem matches_both {Mx My : Mem} (hT : RTx Mx My) (hA : RAu Mx My) {n pl : Nat} (hn : gI Mx 3 1 = nI n) (hn2 : n ≤ 300) (hpl : pl ≤ n) : ∃ v, v ≤ n - pl ∧ fX0_longestFrom (gR Mx 0 5) 3 (nI pl) Mx = some (nI v, Mx) ∧ fX7_matches (nI pl) My = some (nI v, My) := by
  obtain ⟨n1, q1, q2, q3, q4, -⟩ := hT
  have e : n1 = n := (nI_eq (by omega) (by omega)).mp (q2.symm.trans hn)
  subst e
  obtain ⟨a, a2, h1, h2, h3, t, h4, h5, h6, h7, h8, h9, h10⟩ := hA
  have hk : kd a = 0 := by rcases h1 with ⟨rfl, -⟩ | ⟨rfl, -⟩ <;> rfl
  have hlen : ∀ (d at_ best : Nat) (op : Int64), pl ≤ at_ → at_ + d = n1 → best ≤ n1 - pl → mrun pl (bt Mx 3) t (gJ Mx (a + 1)) (gJ Mx (a + 2)) (gJ Mx a 4) d at_ best op ≤ n1 - pl := by
    intro d
    induction d with
    | zero => intro at_ best op _ _ hb; exact hb
    | succ d ih =>
      intro at_ best op w1 w2 w3
      rw [mrun]
      by_cases c : op = 0
      · rw [if_pos c]; exact w3
      · rw [if_neg c]
        refine ih _ _ _ (by omega) (by omega) ?_
        split <;> omega
  refine ⟨mrun pl (bt Mx 3) t (gJ Mx (a + 1)) (gJ Mx (a + 2)) (gJ Mx a 4) (n1 - pl) pl 0 (gJ Mx a 3), hlen _ _ _ _ (by omega) (by omega) (by omega), ?_, ?_⟩
  · unfold fX0_longestFrom
    rw [lt_eq, h2, show (0 : Int32) = nI 0 from rfl, longX hk h4 q1 h5 q2 FU pl 0 _ (by omega) (by omega) (by unfold FU; omega)]
  · unfold fX7_matches
    rw [lt_eq, show (0 : Int32) = nI 0 from rfl, longY (ft := gJ Mx (a + 1)) (b := bt Mx 3) h4 q1 (bt_lt Mx 3) h6 q3 q4 h10 FU pl 0 _ (by omega) (by omega) (by unfold FU; omega), mrun_congr (fun k hk => h9 k hk), h8, h7]
theorem sim_match : Sim_match Rel := by
  intro Mx My x1 hR
  obtain ⟨n, hn, hx1, hy1, ht, -⟩ := id hR.2.1
  have hk : kd (gR Mx 0 5) = 0 := by
    obtain ⟨a, a2, h1, h2, -⟩ := hR.2.2.2.2
    rw [h2]; rcases h1 with ⟨rfl, -⟩ | ⟨rfl, -⟩ <;> rfl
  unfold fX6_match fX7_match
  rw [at_ok rfl hx1 hn, bI_s, isIn_ok, bI_s, hy1]
  rcases pk_ix x1 (n := n) (by omega) with c | c | ⟨j, c1, rfl⟩
  · rw [show atv n (bt Mx 3) x1 = -1 by (unfold atv; rw [if_pos c]), if_pos rfl, decide_eq_false (fun q => absurd c (Int32.not_lt.mpr q.1)), bz_f, if_pos z00]
    exact ⟨_, _, _, rfl, rfl, hR⟩
  · rw [show atv n (bt Mx 3) x1 = -1 by (unfold atv; by_cases d : x1 < 0; rw [if_pos d]; rw [if_neg d, if_pos c]), if_pos rfl, decide_eq_false, bz_f, if_pos z00]
    · exact ⟨_, _, _, rfl, rfl, hR⟩
    · rintro ⟨d1, d2⟩
      have h := Int32.le_trans c d2
      by_cases n0 : n = 0
      · subst n0
        exact absurd h (by decide)
      · rw [show nI n - 1 = nI (n - 1) by (have := nI_pred (n - 1); rwa [show n - 1 + 1 = n by omega] at this)] at h
        exact absurd h (nI_ge (by omega) (by omega))
  · obtain ⟨v, hv, e1, e2⟩ := matches_both hR.2.1 hR.2.2.2.2 hx1 hn (show j ≤ n by omega)
    have hb := bt_lt Mx 3 j
    rw [atv_in c1 hn, if_neg (fun z => absurd (show nI (bt Mx 3 j) < 0 by rw [z]; decide) (nI_pos (by omega))), decide_eq_true ⟨nI_pos' (by omega), by rw [show nI n - 1 = nI (n - 1) by (have := nI_pred (n - 1); rwa [show n - 1 + 1 = n by omega] at this)]; exact nI_le (by omega) (by omega)⟩, bz_t, if_neg n10, e2, bI_s]
    rw [ga_k hk, e1, bI_s]
    exact ⟨_, _, _, rfl, rfl, hR⟩
