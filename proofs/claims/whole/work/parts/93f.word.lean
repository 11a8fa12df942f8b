/-! signs -/
def isBl (s : Nat) : Bool := s == 32 || s == 9 || s == 10
def isLe (s : Nat) : Bool := (decide (97 ≤ s) && decide (s ≤ 122)) || (decide (65 ≤ s) && decide (s ≤ 90))
def isFi (s : Nat) : Bool := decide (48 ≤ s) && decide (s ≤ 57)
theorem blX {s : Nat} (hs : s < 256) (M : Mem) : fX6_isBlank (nI s) M = some (bz (isBl s), M) := by
  unfold fX6_isBlank fX6_isBlank_L18
  simp (disch := omega) only [lit, nI_eq]
  by_cases h1 : s = 32
  · subst h1; rfl
  · rw [if_neg h1]
    by_cases h2 : s = 9
    · subst h2; rfl
    · rw [if_neg h2]
      by_cases h3 : s = 10
      · subst h3; rfl
      · rw [if_neg h3, show isBl s = false by simp [isBl, h1, h2, h3]]; rfl
theorem blY {s : Nat} (hs : s < 256) (M : Mem) : fX7_isBlank (nI s) M = some (bz (isBl s), M) := blX hs M
/-! word -/
theorem hasBl {o n : Nat} (ho : kd o = 5) (hn : n ≤ 300) {M : Mem} (h : gI M o 1 = nI n) : ∀ (f i : Nat), i ≤ n → n < i + f → fX5_hasBlank_H2 o f (nI i) M = some (dz (∃ j, i ≤ j ∧ j < n ∧ isBl (bt M o j) = true), M) := by
  intro f
  induction f with
  | zero => intro i q1 q2; omega
  | succ f ih =>
    intro i q1 q2
    rw [fX5_hasBlank_H2, h]
    by_cases c : n ≤ i
    · rw [if_pos (nI_le c (by omega)), dz_f (by rintro ⟨j, w1, w2, -⟩; omega)]; rfl
    · rw [if_neg (nI_ge (by omega) (by omega)), at_ok ho h hn, bI_s, atv_in (by omega) hn, blX (bt_lt M o i), bI_s, lt_eq, show (1 : Int32) = nI 1 from rfl, nI_add, ih (i + 1) (by omega) (by omega)]
      by_cases d : isBl (bt M o i) = true
      · rw [d, bz_t, if_neg n10, dz_t ⟨i, by omega, by omega, d⟩]; rfl
      · rw [show isBl (bt M o i) = false by simpa using d, bz_f, if_pos z00]
        congr 2
        apply dz_c
        constructor
        · rintro ⟨j, w1, w2, w3⟩; exact ⟨j, by omega, w2, w3⟩
        · rintro ⟨j, w1, w2, w3⟩
          by_cases hj : j = i
          · subst hj; exact absurd w3 d
          · exact ⟨j, by omega, w2, w3⟩
theorem bt9 (M : Mem) (j : Nat) : gI M 10 j &&& 255 = nI (bt M 9 j) := bt_eq M 9 j
theorem standsX {o n k m p : Nat} (ho : kd o = 5) (hn : n ≤ 300) (hk : k < 40) (hm : m ≤ 12) (hp : p ≤ 300) {M : Mem} (h : gI M o 1 = nI n) (h2 : gI M 11 k = nI m) : ∀ (f i : Nat), i ≤ m → m < i + f → fX1_standsAt_H3 o f (nI k) (nI p) (nI i) M = some (dz (∀ j, i ≤ j → j < m → p + j < n ∧ bt M 9 (12 * k + j) = bt M o (p + j)), M) := by
  intro f
  induction f with
  | zero => intro i q1 q2; omega
  | succ f ih =>
    intro i q1 q2
    rw [fX1_standsAt_H3, iald_n (show k < 40 from hk) (by decide), h2]
    by_cases c : m ≤ i
    · rw [if_pos (nI_le c (by omega)), dz_t (fun j w1 w2 => by omega)]; rfl
    · have b1 := bt_lt M 9 (12 * k + i)
      have b2 := bt_lt M o (p + i)
      rw [if_neg (nI_ge (by omega) (by omega)), show (12 : Int32) = nI 12 from rfl, pk_mul, nI_add, show k * 12 + i = 12 * k + i by omega, bald_n (show 12 * k + i < 480 by omega) (by decide), nI_add, at_ok ho h hn, bI_s, bt9, lt_eq, show (1 : Int32) = nI 1 from rfl, nI_add, ih (i + 1) (by omega) (by omega)]
      by_cases d : p + i < n
      · rw [atv_in d hn]
        by_cases d2 : bt M 9 (12 * k + i) = bt M o (p + i)
        · rw [if_pos (by rw [d2])]
          congr 2
          apply dz_c
          constructor
          · intro g j w1 w2
            by_cases hj : j = i
            · subst hj; exact ⟨d, d2⟩
            · exact g j (by omega) w2
          · intro g j w1 w2; exact g j (by omega) w2
        · rw [if_neg (fun z => d2 ((nI_eq (by omega) (by omega)).mp z)), dz_f (fun g => d2 (g i (by omega) (by omega)).2)]; rfl
      · rw [atv_out (by omega) (by omega), if_neg (fun z => absurd (show nI (bt M 9 (12 * k + i)) < 0 by rw [z]; decide) (nI_pos (by omega))), dz_f (fun g => d (g i (by omega) (by omega)).1)]; rfl
theorem stands_ok {o n k m p : Nat} (ho : kd o = 5) (hn : n ≤ 300) (hk : k < 40) (hm : m ≤ 12) (hp : p ≤ 300) {M : Mem} (h : gI M o 1 = nI n) (h2 : gI M 11 k = nI m) : fX1_standsAt o (nI k) (nI p) M = some (dz (∀ j, j < m → p + j < n ∧ bt M 9 (12 * k + j) = bt M o (p + j)), M) := by
  unfold fX1_standsAt
  rw [show (0 : Int32) = nI 0 from rfl, standsX ho hn hk hm hp h h2 FU 0 (by omega) (by unfold FU; omega)]
  congr 2
  apply dz_c
  exact ⟨fun g j w => g j (by omega) w, fun g j _ w => g j w⟩
theorem knowsX {o n w : Nat} {len : Nat → Nat} (ho : kd o = 5) (hn : n ≤ 300) (hw : w ≤ 40) {M : Mem} (h : gI M o 1 = nI n) (h1 : gI M 9 3 = nI w) (h2 : ∀ k, k < w → 1 ≤ len k ∧ len k ≤ 12 ∧ gI M 11 k = nI (len k)) : ∀ (f i : Nat), i ≤ w → w < i + f → fX1_knows_H2 o f (nI i) M = some (dz (∃ k, i ≤ k ∧ k < w ∧ len k = n ∧ ∀ j, j < n → bt M 9 (12 * k + j) = bt M o j), M) := by
  intro f
  induction f with
  | zero => intro i q1 q2; omega
  | succ f ih =>
    intro i q1 q2
    rw [fX1_knows_H2, h1]
    by_cases c : w ≤ i
    · rw [if_pos (nI_le c (by omega)), dz_f (by rintro ⟨k, w1, w2, -⟩; omega)]; rfl
    · obtain ⟨l1, l2, l3⟩ := h2 i (by omega)
      unfold fX1_knows_L35
      simp only [lt_eq]
      rw [if_neg (nI_ge (by omega) (by omega)), iald_n (show i < 40 by omega) (by decide), l3, fX5_size, bI_s, h, show (0 : Int32) = nI 0 from rfl, stands_ok ho hn (by omega) l2 (by omega) h l3, bI_s, show (1 : Int32) = nI 1 from rfl, nI_add, ih (i + 1) (by omega) (by omega)]
      have step : ¬ (len i = n ∧ ∀ j, j < n → bt M 9 (12 * i + j) = bt M o j) → dz (∃ k, i + 1 ≤ k ∧ k < w ∧ len k = n ∧ ∀ j, j < n → bt M 9 (12 * k + j) = bt M o j) = dz (∃ k, i ≤ k ∧ k < w ∧ len k = n ∧ ∀ j, j < n → bt M 9 (12 * k + j) = bt M o j) := by
        intro hno
        apply dz_c
        constructor
        · rintro ⟨k, w1, w2, w3⟩; exact ⟨k, by omega, w2, w3⟩
        · rintro ⟨k, w1, w2, w3⟩
          by_cases hk : k = i
          · subst hk; exact absurd w3 hno
          · exact ⟨k, by omega, w2, w3⟩
      by_cases d : len i = n
      · rw [if_pos (by rw [d])]
        by_cases d2 : ∀ j, j < len i → 0 + j < n ∧ bt M 9 (12 * i + j) = bt M o (0 + j)
        · rw [dz_t d2, if_neg (show ¬ (1 : Int32) = nI 0 from n10), dz_t ⟨i, by omega, by omega, d, fun j hj => by have := (d2 j (by omega)).2; rwa [show 0 + j = j by omega] at this⟩]; rfl
        · rw [dz_f d2, if_pos (show (0 : Int32) = nI 0 from rfl), step]
          rintro ⟨-, g⟩
          exact d2 (fun j hj => ⟨by omega, by rw [show 0 + j = j by omega]; exact g j (by omega)⟩)
      · rw [if_neg (fun z => d ((nI_eq (by omega) (by omega)).mp z)), step (fun g => d g.1)]
/-- the class's new word is laid down -/
theorem layX {o n w : Nat} {cst : Int32} (ho : kd o = 5) (ho9 : o + 1 ≠ 10 ∧ o ≠ 10) (hn : n ≤ 12) (hw : w < 40) : ∀ (f i : Nat) (M : Mem), i ≤ n → n < i + f → gI M o 1 = nI n → gI M 9 3 = nI w → ∃ M1, fX1_learn_H58 o f cst (nI n) (nI i) M = some (nI w, M1) ∧ SameBut (fun a k => a == 10 || a == 11 || a == 12 || (a == 9 && k == 3)) M M1 ∧ gI M1 9 3 = nI (w + 1) ∧ (∀ k, gI M1 11 k = if k = w then nI n else gI M 11 k) ∧ (∀ k, gI M1 12 k = if k = w then cst else gI M 12 k) ∧ ∀ j, bt M1 9 j = if 12 * w + i ≤ j ∧ j < 12 * w + n then bt M o (j - 12 * w) else bt M 9 j := by
  intro f
  induction f with
  | zero => intro i M q1 q2; omega
  | succ f ih =>
    intro i M q1 q2 h1 h2
    rw [fX1_learn_H58]
    by_cases c : n ≤ i
    · rw [if_pos (nI_le c (by omega)), h2, iast_n (show w < 40 from hw) (by decide), gI_ne (by decide), h2, iast_n (show w < 40 from hw) (by decide), lt_eq, gI_eq, gI_ne (by decide), gI_ne (by decide), h2, show (1 : Int32) = nI 1 from rfl, nI_add, pk_sub (by omega), show w + 1 - 1 = w by omega]
      refine ⟨_, rfl, ((SameBut.refl.setI rfl).setI rfl).setI rfl, gI_eq, fun k => ?_, fun k => ?_, fun j => ?_⟩
      · rw [gI_ne (by decide), gI_ne (by decide), gI_at]
      · rw [gI_ne (by decide), gI_at, gI_ne (by decide)]
      · rw [if_neg (by omega)]
        exact bt_congr (fun k => by rw [gI_ne (by decide), gI_ne (by decide), gI_ne (by decide)]) j
    · rw [if_neg (nI_ge (by omega) (by omega)), at_ok ho h1 (by omega), bI_s, atv_in (by omega) (by omega), h2, show (12 : Int32) = nI 12 from rfl, pk_mul, nI_add, show w * 12 + i = 12 * w + i by omega, bast_n (show 12 * w + i < 480 by omega) (by decide), lt_eq, show (1 : Int32) = nI 1 from rfl, nI_add]
      have hb2 : ∀ j, nI (bt (setI M 10 (12 * w + i) (nI (bt M o i)).toInt8.toInt32.toInt8.toInt32) 9 j) = if j = 12 * w + i then nI (bt M o i) else nI (bt M 9 j) := by
        intro j
        rw [← bt9, gI_at, ← bt9]
        by_cases hj : j = 12 * w + i
        · rw [if_pos hj, if_pos hj, bp_b, bp_b, pk_andN (k := 8) (by have := bt_lt M o i; omega) (by decide), Nat.mod_eq_of_lt (by have := bt_lt M o i; omega)]
        · rw [if_neg hj, if_neg hj]
      obtain ⟨M1, r1, r2, r3, r4, r5, r6⟩ := ih (i + 1) (setI M 10 (12 * w + i) (nI (bt M o i)).toInt8.toInt32.toInt8.toInt32) (by omega) (by omega) (by rw [gI_ne ho9.2]; exact h1) (by rw [gI_ne (by decide)]; exact h2)
      refine ⟨M1, r1, SameBut.trans (SameBut.refl.setI rfl) r2, r3, fun k => by rw [r4, gI_ne (by decide)], fun k => by rw [r5, gI_ne (by decide)], fun j => ?_⟩
      have b1 := bt_lt M o i
      have b2 := bt_lt M 9 j
      have b3 := bt_lt (setI M 10 (12 * w + i) (nI (bt M o i)).toInt8.toInt32.toInt8.toInt32) 9 j
      have e := hb2 j
      rw [r6 j, bt_congr (M := M) (o := o) (fun k => gI_ne ho9.1)]
      by_cases hj : j = 12 * w + i
      · rw [if_pos hj] at e
        rw [if_neg (by omega), if_pos (by omega), (nI_eq (by omega) (by omega)).mp e, show j - 12 * w = i by omega]
      · rw [if_neg hj] at e
        rw [(nI_eq (by omega) (by omega)).mp e]
        by_cases hj2 : 12 * w + (i + 1) ≤ j ∧ j < 12 * w + n
        · rw [if_pos hj2, if_pos (by omega)]
        · rw [if_neg hj2, if_neg (by omega)]
theorem layY {n w : Nat} {cst : Int32} (hn : n ≤ 12) (hw : w < 40) : ∀ (f i : Nat) (M : Mem), i ≤ n → n < i + f → gI M 50 4 = nI w → ∃ M1, fX7_word_H190 f cst (nI n) (nI i) M = some (nI w, M1) ∧ SameBut (fun a k => a == 56 || a == 57 || a == 58 || (a == 50 && k == 4)) M M1 ∧ gI M1 50 4 = nI (w + 1) ∧ (∀ k, gI M1 57 k = if k = w then nI n else gI M 57 k) ∧ (∀ k, gI M1 58 k = if k = w then cst else gI M 58 k) ∧ ∀ j, gI M1 56 j = if 12 * w + i ≤ j ∧ j < 12 * w + n then gI M 51 (j - 12 * w) else gI M 56 j := by
  intro f
  induction f with
  | zero => intro i M q1 q2; omega
  | succ f ih =>
    intro i M q1 q2 h2
    rw [fX7_word_H190]
    by_cases c : n ≤ i
    · rw [if_pos (nI_le c (by omega)), h2, iast_n (show w < 40 from hw) (by decide), gI_ne (by decide), h2, iast_n (show w < 40 from hw) (by decide), lt_eq, gI_eq, gI_ne (by decide), gI_ne (by decide), h2, show (1 : Int32) = nI 1 from rfl, nI_add, pk_sub (by omega), show w + 1 - 1 = w by omega]
      refine ⟨_, rfl, ((SameBut.refl.setI rfl).setI rfl).setI rfl, gI_eq, fun k => ?_, fun k => ?_, fun j => ?_⟩
      · rw [gI_ne (by decide), gI_ne (by decide), gI_at]
      · rw [gI_ne (by decide), gI_at, gI_ne (by decide)]
      · rw [if_neg (by omega), gI_ne (by decide), gI_ne (by decide), gI_ne (by decide)]
    · rw [if_neg (nI_ge (by omega) (by omega)), iald_n (show i < 300 by omega) (by decide), h2, show (12 : Int32) = nI 12 from rfl, pk_mul, nI_add, iast_n (show 12 * w + i < 480 by omega) (by decide), lt_eq, show (1 : Int32) = nI 1 from rfl, nI_add]
      obtain ⟨M1, r1, r2, r3, r4, r5, r6⟩ := ih (i + 1) (setI M 56 (12 * w + i) (gI M 51 i)) (by omega) (by omega) (by rw [gI_ne (by decide)]; exact h2)
      refine ⟨M1, r1, SameBut.trans (SameBut.refl.setI rfl) r2, r3, fun k => by rw [r4, gI_ne (by decide)], fun k => by rw [r5, gI_ne (by decide)], fun j => ?_⟩
      rw [r6 j, gI_ne (by decide), gI_at]
      by_cases hj : j = 12 * w + i
      · rw [if_neg (by omega), if_pos hj, if_pos (by omega), show j - 12 * w = i by omega]
      · rw [if_neg hj]
        by_cases hj2 : 12 * w + (i + 1) ≤ j ∧ j < 12 * w + n
        · rw [if_pos hj2, if_pos (by omega)]
        · rw [if_neg hj2, if_neg (by omega)]

/-! the reference's word -/
theorem wb0 (f : Nat) (x1 x2 x4 : Int32) (M : Mem) : fX7_word_H40 (f + 1) x1 x2 0 x4 M = some (-1, M) := by
  rw [fX7_word_H40]
  have e : fX7_word_L75 x1 x2 0 M = some (-1, M) := rfl
  rw [e, if_pos z00]
  split <;> rfl
theorem wblY {n : Nat} {b : Nat → Nat} {x1 : Int32} (hn : n ≤ 12) (hb : ∀ j, b j < 256) {M : Mem} (h : ∀ j, j < n → gI M 51 j = nI (b j)) : ∀ (f i : Nat), i ≤ n → n + 1 < i + f → ((∃ j, i ≤ j ∧ j < n ∧ isBl (b j) = true) → fX7_word_H40 f x1 (nI n) 1 (nI i) M = some (-1, M)) ∧ ((¬ ∃ j, i ≤ j ∧ j < n ∧ isBl (b j) = true) → fX7_word_H40 f x1 (nI n) 1 (nI i) M = fX7_word_H84 FU x1 (nI n) 0 M) := by
  intro f
  induction f with
  | zero => intro i q1 q2; omega
  | succ f ih =>
    intro i q1 q2
    rw [fX7_word_H40]
    by_cases c : n ≤ i
    · rw [if_pos (nI_le c (by omega))]
      refine ⟨fun g => ?_, fun _ => by unfold fX7_word_L75; rw [if_neg n10]⟩
      obtain ⟨j, w1, w2, -⟩ := g
      omega
    · rw [if_neg (nI_ge (by omega) (by omega)), if_neg n10, iald_n (show i < 300 by omega) (by decide), h i (by omega), blY (hb i), bI_s]
      unfold fX7_word_L68
      rw [lt_eq, lt_eq, show (1 : Int32) = nI 1 from rfl, nI_add]
      obtain ⟨f1, rfl⟩ : ∃ f1, f = f1 + 1 := ⟨f - 1, by omega⟩
      obtain ⟨g1, g2⟩ := ih (i + 1) (by omega) (by omega)
      by_cases d : isBl (b i) = true
      · rw [d, bz_t, if_neg n10, wb0]
        exact ⟨fun _ => rfl, fun g => absurd ⟨i, by omega, by omega, d⟩ g⟩
      · rw [show isBl (b i) = false by simpa using d, bz_f, if_pos z00]
        constructor
        · rintro ⟨j, w1, w2, w3⟩
          have : j ≠ i := by rintro rfl; exact d w3
          exact g1 ⟨j, by omega, w2, w3⟩
        · intro g
          exact g2 (fun ⟨j, w1, w2, w3⟩ => g ⟨j, by omega, w2, w3⟩)
theorem wc0 (k84 : Int32 → Int32 → Int32 → Mem → Option (Int32 × Mem)) (f : Nat) (x1 x2 x6 : Int32) (k : Nat) (M : Mem) : fX7_word_H114 k84 (f + 1) x1 x2 (nI k) 0 x6 M = k84 x1 x2 (nI (k + 1)) M := by
  rw [fX7_word_H114]
  have e : fX7_word_L161 k84 x1 x2 (nI k) 0 M = k84 x1 x2 (nI (k + 1)) M := by
    unfold fX7_word_L161
    rw [if_pos z00, lt_eq, show (1 : Int32) = nI 1 from rfl, nI_add]
  rw [e, if_pos z00]
  split <;> rfl
theorem wcmpY {n k : Nat} {b L : Nat → Nat} {x1 : Int32} (k84 : Int32 → Int32 → Int32 → Mem → Option (Int32 × Mem)) (hn : n ≤ 12) (hk : k < 40) (hb : ∀ j, b j < 256) (hL : ∀ j, L j < 256) {M : Mem} (h : ∀ j, j < n → gI M 51 j = nI (b j)) (h2 : ∀ j, j < n → gI M 56 (12 * k + j) = nI (L j)) : ∀ (f i : Nat), i ≤ n → n + 1 < i + f → ((∀ j, i ≤ j → j < n → L j = b j) → fX7_word_H114 k84 f x1 (nI n) (nI k) 1 (nI i) M = some (-2, M)) ∧ ((¬ ∀ j, i ≤ j → j < n → L j = b j) → fX7_word_H114 k84 f x1 (nI n) (nI k) 1 (nI i) M = k84 x1 (nI n) (nI (k + 1)) M) := by
  intro f
  induction f with
  | zero => intro i q1 q2; omega
  | succ f ih =>
    intro i q1 q2
    rw [fX7_word_H114]
    by_cases c : n ≤ i
    · rw [if_pos (nI_le c (by omega))]
      exact ⟨fun g => rfl, fun g => absurd (fun j w1 w2 => by omega) g⟩
    · have b1 := hb i
      have b2 := hL i
      unfold fX7_word_L153
      simp only [lt_eq]
      rw [if_neg (nI_ge (by omega) (by omega)), if_neg n10, show (12 : Int32) = nI 12 from rfl, pk_mul, nI_add, iald_n (show 12 * k + i < 480 by omega) (by decide), iald_n (show i < 300 by omega) (by decide), h i (by omega), h2 i (by omega), show (1 : Int32) = nI 1 from rfl, nI_add]
      obtain ⟨f1, rfl⟩ : ∃ f1, f = f1 + 1 := ⟨f - 1, by omega⟩
      obtain ⟨g1, g2⟩ := ih (i + 1) (by omega) (by omega)
      by_cases d : L i = b i
      · rw [if_pos (by rw [d])]
        constructor
        · intro g; exact g1 (fun j w1 w2 => g j (by omega) w2)
        · intro g
          refine g2 (fun g3 => g (fun j w1 w2 => ?_))
          by_cases hj : j = i
          · rw [hj]; exact d
          · exact g3 j (by omega) w2
      · rw [if_neg (fun z => d ((nI_eq (by omega) (by omega)).mp z)), wc0]
        exact ⟨fun g => absurd (g i (by omega) (by omega)) d, fun _ => rfl⟩
theorem wfindY {n w : Nat} {b : Nat → Nat} {len : Nat → Nat} {L : Nat → Nat → Nat} {x1 : Int32} (hn : n ≤ 12) (hw : w ≤ 40) (hb : ∀ j, b j < 256) (hL : ∀ k j, L k j < 256) {M : Mem} (h0 : gI M 50 4 = nI w) (h : ∀ j, j < n → gI M 51 j = nI (b j)) (h1 : ∀ k, k < w → len k ≤ 12 ∧ gI M 57 k = nI (len k)) (h2 : ∀ k j, k < w → j < len k → gI M 56 (12 * k + j) = nI (L k j)) : ∀ (f i : Nat), i ≤ w → w < i + f → ((∃ k, i ≤ k ∧ k < w ∧ len k = n ∧ ∀ j, j < n → L k j = b j) → fX7_word_H84 f x1 (nI n) (nI i) M = some (-2, M)) ∧ ((¬ ∃ k, i ≤ k ∧ k < w ∧ len k = n ∧ ∀ j, j < n → L k j = b j) → fX7_word_H84 f x1 (nI n) (nI i) M = if w = 40 then some (-3, M) else fX7_word_H190 FU x1 (nI n) 0 M) := by
  intro f
  induction f with
  | zero => intro i q1 q2; omega
  | succ f ih =>
    intro i q1 q2
    rw [fX7_word_H84, h0]
    by_cases c : w ≤ i
    · rw [if_pos (nI_le c (by omega))]
      constructor
      · rintro ⟨k, w1, w2, -⟩; omega
      · intro _
        by_cases d : w = 40
        · rw [if_pos d, if_pos (by rw [d]; rfl)]
        · rw [if_neg d, if_neg (fun z => d ((nI_eq (by omega) (by omega)).mp (z.trans (lit 40))))]
    · obtain ⟨l1, l2⟩ := h1 i (by omega)
      unfold fX7_word_L109
      rw [if_neg (nI_ge (by omega) (by omega)), iald_n (show i < 40 by omega) (by decide), l2]
      obtain ⟨g1, g2⟩ := ih (i + 1) (by omega) (by omega)
      by_cases d : len i = n
      · rw [if_pos (by rw [d])]
        obtain ⟨c1, c2⟩ := wcmpY (x1 := x1) (fX7_word_H84 f) hn (show i < 40 by omega) hb (hL i) h (fun j hj => h2 i j (by omega) (by omega)) FU 0 (by omega) (by unfold FU; omega)
        by_cases d2 : ∀ j, 0 ≤ j → j < n → L i j = b j
        · rw [show (nI 0 : Int32) = 0 from rfl] at c1
          rw [c1 d2]
          exact ⟨fun _ => rfl, fun g => absurd ⟨i, by omega, by omega, d, fun j hj => d2 j (by omega) hj⟩ g⟩
        · rw [show (nI 0 : Int32) = 0 from rfl] at c2
          rw [c2 d2]
          constructor
          · rintro ⟨k, w1, w2, w3, w4⟩
            have : k ≠ i := by rintro rfl; exact d2 (fun j _ hj => w4 j hj)
            exact g1 ⟨k, by omega, w2, w3, w4⟩
          · intro g
            exact g2 (fun ⟨k, w1, w2, w3, w4⟩ => g ⟨k, by omega, w2, w3, w4⟩)
      · rw [if_neg (fun z => d ((nI_eq (by omega) (by omega)).mp z))]
        have e : fX7_word_H114 (fX7_word_H84 f) FU x1 (nI n) (nI i) 0 0 M = fX7_word_H84 f x1 (nI n) (nI (i + 1)) M := wc0 _ 99999 _ _ _ _ _
        rw [e]
        constructor
        · rintro ⟨k, w1, w2, w3, w4⟩
          have : k ≠ i := by rintro rfl; exact d w3
          exact g1 ⟨k, by omega, w2, w3, w4⟩
        · intro g
          exact g2 (fun ⟨k, w1, w2, w3, w4⟩ => g ⟨k, by omega, w2, w3, w4⟩)

theorem word_BAD {x1 : Int32} {n : Nat} {M : Mem} : fX7_word_L35 x1 (nI n) M = some (-1, M) := wb0 99999 x1 (nI n) 0 M
theorem Rel.keepWord {Mx My Mx1 My1 : Mem} (h : Rel Mx My) (hd : RDi Mx1 My1) (t1 : gI Mx1 1 1 = 0) (t2 : gI My1 50 1 = 0) (hx : SameBut (fun a k => (a == 1 && k == 1) || a == 10 || a == 11 || a == 12 || (a == 9 && k == 3)) Mx Mx1) (hy : SameBut (fun a k => (a == 50 && (k == 1 || k == 4)) || a == 56 || a == 57 || a == 58) My My1) : Rel Mx1 My1 := by
  obtain ⟨-, h2, -, h4, h5⟩ := h
  refine ⟨⟨0, by omega, t1, t2, fun j hj => absurd hj (by omega)⟩, h2.move (hx.1 3 1 rfl) (fun k => hx.1 4 k rfl) (hx.1 5 3 rfl) (fun k => hx.1 6 k rfl) (fun k => hx.1 7 k rfl) (fun k => hx.1 8 k rfl) (hy.1 50 3 rfl) (fun k => hy.1 53 k rfl) (hy.1 50 12 rfl) (fun k => hy.1 65 k rfl) (fun k => hy.1 66 k rfl) (fun k => hy.1 67 k rfl), hd, h4.move (hx.1 9 4 rfl) (hx.1 0 6 rfl) (hx.1 5 5 rfl) (hx.1 5 6 rfl) (hy.1 50 8 rfl) (hy.1 50 9 rfl) (hy.1 50 10 rfl) (hy.1 50 11 rfl), ?_⟩
  obtain ⟨a, a2, q1, q2, q3, -⟩ := id h5
  refine h5.move (hx.2.2 0 5 rfl) (hx.2.2 17 4 rfl) (fun k => hx.1 _ k ?_) (fun a k q4 q5 _ _ _ => hx.2.1 a k ?_) (hy.1 50 17 rfl) (hy.2.1 50 20 rfl) (hy.2.1 50 21 rfl) (fun k => hy.2.1 69 k rfl) (fun k => hy.2.1 70 k rfl)
  · rw [q2]; rcases q1 with ⟨rfl, -⟩ | ⟨rfl, -⟩ <;> rfl
  · simp; omega
theorem sim_word : Sim_word Rel := by
  intro Mx My x1 hR
  obtain ⟨n, hn, hx, hy, ht⟩ := hR.1
  obtain ⟨w, hw, hwx, hwy, len, cst, hd, hdist⟩ := id hR.2.2.1
  have hlt : w ≠ 40 → w < 40 := fun h => by omega
  have kept : ∀ v : Int32, fX1_learn 1 x1 Mx = some (v, Mx) → fX7_word x1 My = some (v, setI My 50 1 0) → ∃ (v : Int32) (Mx1 My1 : Mem), fX6_word x1 Mx = some (v, Mx1) ∧ fX7_word x1 My = some (v, My1) ∧ Rel Mx1 My1 := by
    intro v e1 e2
    refine ⟨v, setI Mx 1 1 0, setI My 50 1 0, ?_, e2, ?_⟩
    · unfold fX6_word fX5_clear
      rw [e1, bI_s, lt_eq, bV_s]
    · have sx : SameBut (fun a k => (a == 1 && k == 1) || a == 10 || a == 11 || a == 12 || (a == 9 && k == 3)) Mx (setI Mx 1 1 0) := SameBut.refl.setI rfl
      have sy : SameBut (fun a k => (a == 50 && (k == 1 || k == 4)) || a == 56 || a == 57 || a == 58) My (setI My 50 1 0) := SameBut.refl.setI rfl
      exact hR.keepWord (hR.2.2.1.move (gI_ne (by decide)) (fun k => gI_ne (by decide)) (fun k => gI_ne (by decide)) (fun k => gI_ne (by decide)) (gI_nk (by decide)) (fun k => gI_ne (by decide)) (fun k => gI_ne (by decide)) (fun k => gI_ne (by decide))) gI_eq gI_eq sx sy
  by_cases c1 : 1 ≤ n ∧ n ≤ 12
  · have y0 : fX7_word x1 My = if bz (decide (1 ≤ x1 ∧ x1 ≤ 1000)) = 0 then fX7_word_L35 x1 (nI n) (setI My 50 1 0) else fX7_word_L36 x1 (nI n) 1 (setI My 50 1 0) := by
      unfold fX7_word
      rw [lt_eq, lt_eq, hy, isIn_ok, bI_s, decide_eq_true ⟨nI_le (a := 1) c1.1 (by omega), nI_le (b := 12) c1.2 (by omega)⟩, bz_t, if_neg n10, isIn_ok, bI_s]
    have x0 : fX1_learn 1 x1 Mx = bI_ (fX5_hasBlank 1 Mx) fun v_4 M_3 => if v_4 = 0 then (bI_ (fX6_isCost x1 M_3) fun v_6 M_5 => if v_6 = 0 then (some ((-1), M_5)) else (bI_ (fX1_knows 1 M_5) fun v_8 M_7 => if v_8 = 0 then (if (gI M_7 9 3) < 40 then (fX1_learn_H58 1 FU x1 (nI n) 0 M_7) else (some ((-3), M_7))) else (some ((-2), M_7)))) else (some ((-1), M_3)) := by
      unfold fX1_learn
      rw [fX5_size, bI_s, hx, if_neg (show ¬ nI n < 1 from nI_nlt (b := 1) c1.1 (by omega)), if_neg (show ¬ (12 : Int32) < nI n from nI_nlt (a := 12) c1.2 (by omega))]
    have hbl : fX5_hasBlank 1 Mx = some (dz (∃ j, 0 ≤ j ∧ j < n ∧ isBl (bt Mx 1 j) = true), Mx) := hasBl rfl hn hx FU 0 (by omega) (by unfold FU; omega)
    rw [hbl, bI_s, isCost_ok, bI_s] at x0
    have hkn : fX1_knows 1 Mx = some (dz (∃ k, 0 ≤ k ∧ k < w ∧ len k = n ∧ ∀ j, j < n → bt Mx 9 (12 * k + j) = bt Mx 1 j), Mx) := knowsX rfl hn hw hx hwx (fun k hk => ⟨(hd k hk).1, (hd k hk).2.1, (hd k hk).2.2.1⟩) FU 0 (by omega) (by unfold FU; omega)
    rw [hkn, bI_s, hwx] at x0
    by_cases c2 : 1 ≤ x1 ∧ x1 ≤ 1000
    · rw [decide_eq_true c2, bz_t, if_neg n10] at x0 y0
      have tp : ∀ j, j < n → gI (setI My 50 1 0) 51 j = nI (bt Mx 1 j) := fun j hj => by rw [gI_ne (by decide)]; exact ht j hj
      obtain ⟨b1, b2⟩ := wblY (x1 := x1) c1.2 (bt_lt Mx 1) tp FU 0 (by omega) (by unfold FU; omega)
      have e36 : fX7_word_L36 x1 (nI n) 1 (setI My 50 1 0) = fX7_word_H40 FU x1 (nI n) 1 (nI 0) (setI My 50 1 0) := rfl
      rw [e36] at y0
      by_cases c3 : ∃ j, 0 ≤ j ∧ j < n ∧ isBl (bt Mx 1 j) = true
      · rw [dz_t c3, if_neg n10] at x0
        exact kept _ x0 (y0.trans (b1 c3))
      · rw [dz_f c3, if_pos z00] at x0
        rw [b2 c3] at y0
        obtain ⟨d1, d2⟩ := wfindY (x1 := x1) (b := bt Mx 1) (len := len) (L := fun k j => bt Mx 9 (12 * k + j)) (M := setI My 50 1 0) c1.2 hw (bt_lt Mx 1) (fun k j => bt_lt Mx 9 _) (by rw [gI_nk (by decide)]; exact hwy) tp (fun k hk => ⟨(hd k hk).2.1, by rw [gI_ne (by decide)]; exact (hd k hk).2.2.2.1⟩) (fun k j hk hj => by rw [gI_ne (by decide)]; exact (hd k hk).2.2.2.2.2.2.2.2 j hj) FU 0 (by omega) (by unfold FU; omega)
        rw [show (nI 0 : Int32) = 0 from rfl] at d1 d2
        by_cases c4 : ∃ k, 0 ≤ k ∧ k < w ∧ len k = n ∧ ∀ j, j < n → bt Mx 9 (12 * k + j) = bt Mx 1 j
        · rw [dz_t c4, if_neg n10] at x0
          exact kept _ x0 (y0.trans (d1 c4))
        · rw [dz_f c4, if_pos z00] at x0
          rw [d2 c4] at y0
          by_cases c5 : w = 40
          · rw [if_pos c5] at y0
            rw [if_neg (show ¬ nI w < 40 by rw [c5]; decide)] at x0
            exact kept _ x0 y0
          · rw [if_neg c5] at y0
            rw [if_pos (show nI w < 40 from nI_lt (b := 40) (hlt c5) (by decide))] at x0
            obtain ⟨m, m1, m2, rfl⟩ := rng (lo := 1) (hi := 1000) c2.1 c2.2 (by omega) (by omega)
            obtain ⟨M1, r1, r2, r3, r4, r5, r6⟩ := layX (o := 1) (cst := nI m) rfl (by decide) c1.2 (hlt c5) FU 0 Mx (by omega) (by unfold FU; omega) hx hwx
            obtain ⟨M2, s1, s2, s3, s4, s5, s6⟩ := layY (cst := nI m) c1.2 (hlt c5) FU 0 (setI My 50 1 0) (by omega) (by unfold FU; omega) (by rw [gI_nk (by decide)]; exact hwy)
            rw [show (nI 0 : Int32) = 0 from rfl] at r1 s1
            rw [r1] at x0
            rw [s1] at y0
            refine ⟨nI w, setI M1 1 1 0, M2, ?_, y0, ?_⟩
            · unfold fX6_word fX5_clear
              rw [x0, bI_s, lt_eq, bV_s]
            · have sx : SameBut (fun a k => (a == 1 && k == 1) || a == 10 || a == 11 || a == 12 || (a == 9 && k == 3)) Mx (setI M1 1 1 0) := (r2.mono (fun a k h => by simp at h ⊢; omega)).setI rfl
              have sy : SameBut (fun a k => (a == 50 && (k == 1 || k == 4)) || a == 56 || a == 57 || a == 58) My M2 := SameBut.trans (SameBut.refl.setI rfl) (s2.mono (fun a k h => by simp at h ⊢; omega))
              have bt1 : ∀ j, bt (setI M1 1 1 0) 9 j = if 12 * w + 0 ≤ j ∧ j < 12 * w + n then bt Mx 1 (j - 12 * w) else bt Mx 9 j := fun j => by rw [bt_congr (M := M1) (o := 9) (fun k => gI_ne (by decide)), r6 j]
              refine hR.keepWord ⟨w + 1, hlt c5, by rw [gI_ne (by decide)]; exact r3, s3, fun k => if k = w then n else len k, fun k => if k = w then m else cst k, fun k hk => ?_, fun k q hkq hq hl => ?_⟩ gI_eq (by rw [s2.1 50 1 rfl]; exact gI_eq) sx sy
              · by_cases hkw : k = w
                · subst hkw
                  simp only [if_pos]
                  refine ⟨c1.1, c1.2, by rw [gI_ne (by decide), r4, if_pos rfl], by rw [s4, if_pos rfl], m1, m2, by rw [gI_ne (by decide), r5, if_pos rfl], by rw [s5, if_pos rfl], fun j hj => ?_⟩
                  rw [s6, if_pos (by omega), bt1, if_pos (by omega), show 12 * k + j - 12 * k = j by omega]
                  exact tp j hj
                · have hk2 : k < w := by omega
                  obtain ⟨u1, u2, u3, u4, u5, u6, u7, u8, u9⟩ := hd k hk2
                  simp only [if_neg hkw]
                  refine ⟨u1, u2, by rw [gI_ne (by decide), r4, if_neg hkw]; exact u3, by rw [s4, if_neg hkw, gI_ne (by decide)]; exact u4, u5, u6, by rw [gI_ne (by decide), r5, if_neg hkw]; exact u7, by rw [s5, if_neg hkw, gI_ne (by decide)]; exact u8, fun j hj => ?_⟩
                  rw [s6, if_neg (by omega), bt1, if_neg (by omega), gI_ne (by decide)]
                  exact u9 j hj
              · have hk2 : k < w := by omega
                have hkw : k ≠ w := by omega
                simp only [if_neg hkw] at hl ⊢
                obtain ⟨u1, u2, -⟩ := hd k hk2
                by_cases hqw : q = w
                · subst hqw
                  simp only [if_pos] at hl
                  refine Classical.byContradiction (fun hno => c4 ⟨k, by omega, hk2, hl, fun j hj => ?_⟩)
                  refine Classical.byContradiction (fun hne => hno ⟨j, by omega, ?_⟩)
                  rw [bt1, if_neg (by omega), bt1, if_pos (by omega), show 12 * q + j - 12 * q = j by omega]
                  exact hne
                · simp only [if_neg hqw] at hl
                  obtain ⟨j, j1, j2⟩ := hdist k q hkq (by omega) hl
                  refine ⟨j, j1, ?_⟩
                  rw [bt1, if_neg (by omega), bt1, if_neg (by omega)]
                  exact j2
    · rw [decide_eq_false c2, bz_f, if_pos z00] at y0
      have e : fX1_learn 1 x1 Mx = some (-1, Mx) := by
        rw [x0, decide_eq_false c2, bz_f, if_pos z00]
        split <;> rfl
      exact kept _ e (y0.trans word_BAD)
  · refine kept (-1) ?_ ?_
    · unfold fX1_learn
      rw [fX5_size, bI_s, hx]
      by_cases d : n < 1
      · rw [if_pos (show nI n < 1 from nI_lt (b := 1) d (by omega))]
      · rw [if_neg (show ¬ nI n < 1 from nI_nlt (b := 1) (by omega) (by omega)), if_pos (show (12 : Int32) < nI n from nI_lt (a := 12) (by omega) (by omega))]
    · unfold fX7_word
      rw [lt_eq, lt_eq, hy, isIn_ok, bI_s, decide_eq_false, bz_f, if_pos z00]
      · exact word_BAD
      · rintro ⟨d1, d2⟩
        exact c1 ⟨(nI_leI (a := 1) (by omega) (by omega)).mp d1, (nI_leI (b := 12) (by omega) (by omega)).mp d2⟩
