/-! the reference's cheapest way -/
def SE : Nat → Nat → Bool := fun a _ => a == 90 || a == 91 || a == 92
def SEi (i : Nat) : Nat → Nat → Bool := fun a k => (a == 90 || a == 91 || a == 92) && k == i
theorem SEi_SE {i a k : Nat} (h : SE a k = false) : SEi i a k = false := by unfold SE SEi at *; simp at *; omega
def DY (n w st : Nat) (len cst : Nat → Nat) (L : Nat → Nat → Nat) (b : Nat → Nat) (M : Mem) : Prop := n ≤ 300 ∧ gI M 50 3 = nI n ∧ w ≤ 40 ∧ gI M 50 4 = nI w ∧ 1 ≤ st ∧ st ≤ 1000 ∧ gI M 50 8 = nI st ∧ (∀ k, k < w → 1 ≤ len k ∧ len k ≤ 12 ∧ gI M 57 k = nI (len k) ∧ 1 ≤ cst k ∧ cst k ≤ 1000 ∧ gI M 58 k = nI (cst k)) ∧ (∀ k j, k < w → j < len k → gI M 56 (12 * k + j) = nI (L k j)) ∧ (∀ j, j < n → gI M 53 j = nI (b j)) ∧ (∀ j, b j < 256) ∧ (∀ k j, L k j < 256) ∧ ∀ k q, k < q → q < w → len k = len q → ∃ j, j < len k ∧ L k j ≠ L q j
theorem DY.move {n w st : Nat} {len cst : Nat → Nat} {L : Nat → Nat → Nat} {b : Nat → Nat} {M M1 : Mem} (h : DY n w st len cst L b M) (hs : SameBut SE M M1) : DY n w st len cst L b M1 := by
  obtain ⟨h1, h2, h3, h4, h5, h6, h7, h8, h9, h10, h11⟩ := h
  refine ⟨h1, (hs.1 50 3 rfl).trans h2, h3, (hs.1 50 4 rfl).trans h4, h5, h6, (hs.1 50 8 rfl).trans h7, fun k hk => ?_, fun k j hk hj => (hs.1 56 _ rfl).trans (h9 k j hk hj), fun j hj => (hs.1 53 j rfl).trans (h10 j hj), h11⟩
  obtain ⟨q1, q2, q3, q4, q5, q6⟩ := h8 k hk
  exact ⟨q1, q2, (hs.1 57 k rfl).trans q3, q4, q5, (hs.1 58 k rfl).trans q6⟩
theorem DY.one {n w st : Nat} {len cst : Nat → Nat} {L : Nat → Nat → Nat} {b : Nat → Nat} {M : Mem} (h : DY n w st len cst L b M) {en i k q : Nat} (hk : k < w) (hq : q < w) (hl : len k = len q) (m1 : matW len L b en k i) (m2 : matW len L b en q i) : k = q := by
  have hd := h.2.2.2.2.2.2.2.2.2.2.2.2
  rcases Nat.lt_trichotomy k q with c | c | c
  · obtain ⟨j, j1, j2⟩ := hd k q c hq hl
    exact absurd ((m1.2 j j1).trans (m2.2 j (by omega)).symm) j2
  · exact c
  · obtain ⟨j, j1, j2⟩ := hd q k c hk hl.symm
    exact absurd ((m2.2 j j1).trans (m1.2 j (by omega)).symm) j2
theorem wa0 (k3 : Int32 → Int32 → Int32 → Int32 → Mem → Option (Int32 × Mem)) (f : Nat) (x1 x2 x3 x6 : Int32) (k : Nat) (M : Mem) : fX7_wordAt_H40 k3 (f + 1) x1 x2 x3 (nI k) 0 x6 M = k3 x1 x2 x3 (nI (k + 1)) M := by
  rw [fX7_wordAt_H40]
  have e : fX7_wordAt_L89 k3 x1 x2 x3 (nI k) 0 M = k3 x1 x2 x3 (nI (k + 1)) M := by
    unfold fX7_wordAt_L89
    rw [if_pos z00, lt_eq, show (1 : Int32) = nI 1 from rfl, nI_add]
  rw [e, if_pos z00]
  split <;> rfl
theorem waC {i m k en : Nat} {b L : Nat → Nat} (k3 : Int32 → Int32 → Int32 → Int32 → Mem → Option (Int32 × Mem)) (hm : m ≤ 12) (hk : k < 40) (hi : i + m ≤ 300) (hb : ∀ j, b j < 256) (hL : ∀ j, L j < 256) {M : Mem} (h : ∀ j, j < m → gI M 53 (i + j) = nI (b (i + j))) (h2 : ∀ j, j < m → gI M 56 (12 * k + j) = nI (L j)) : ∀ (f z : Nat), z ≤ m → m + 1 < z + f → ((∀ j, z ≤ j → j < m → L j = b (i + j)) → fX7_wordAt_H40 k3 f (nI i) (nI m) (nI en) (nI k) 1 (nI z) M = some (nI k, M)) ∧ ((¬ ∀ j, z ≤ j → j < m → L j = b (i + j)) → fX7_wordAt_H40 k3 f (nI i) (nI m) (nI en) (nI k) 1 (nI z) M = k3 (nI i) (nI m) (nI en) (nI (k + 1)) M) := by
  intro f
  induction f with
  | zero => intro z q1 q2; omega
  | succ f ih =>
    intro z q1 q2
    rw [fX7_wordAt_H40]
    by_cases c : m ≤ z
    · rw [if_pos (nI_le c (by omega))]
      exact ⟨fun g => by unfold fX7_wordAt_L89; rw [if_neg n10], fun g => absurd (fun j w1 w2 => by omega) g⟩
    · have b1 := hb (i + z)
      have b2 := hL z
      unfold fX7_wordAt_L81
      simp only [lt_eq]
      rw [if_neg (nI_ge (by omega) (by omega)), if_neg n10, show (12 : Int32) = nI 12 from rfl, pk_mul, nI_add, iald_n (show 12 * k + z < 480 by omega) (by decide), nI_add, iald_n (show i + z < 300 by omega) (by decide), h z (by omega), h2 z (by omega), show (1 : Int32) = nI 1 from rfl, nI_add]
      obtain ⟨f1, rfl⟩ : ∃ f1, f = f1 + 1 := ⟨f - 1, by omega⟩
      obtain ⟨g1, g2⟩ := ih (z + 1) (by omega) (by omega)
      by_cases d : L z = b (i + z)
      · rw [if_pos (by rw [d])]
        constructor
        · intro g; exact g1 (fun j w1 w2 => g j (by omega) w2)
        · intro g
          refine g2 (fun g3 => g (fun j w1 w2 => ?_))
          by_cases hj : j = z
          · rw [hj]; exact d
          · exact g3 j (by omega) w2
      · rw [if_neg (fun y => d ((nI_eq (by omega) (by omega)).mp y)), wa0]
        exact ⟨fun g => absurd (g z (by omega) (by omega)) d, fun _ => rfl⟩
theorem waY {n w st en i m : Nat} {len cst : Nat → Nat} {L : Nat → Nat → Nat} {b : Nat → Nat} {M : Mem} (hD : DY n w st len cst L b M) (hen : en ≤ n) (hi : i < en) (hm : 1 ≤ m ∧ m ≤ 12) : ∀ (f k : Nat), k ≤ w → w < k + f → (∀ q, k ≤ q → q < w → matW len L b en q i → len q = m → fX7_wordAt_H3 f (nI i) (nI m) (nI en) (nI k) M = some (nI q, M)) ∧ ((∀ q, k ≤ q → q < w → matW len L b en q i → len q = m → False) → fX7_wordAt_H3 f (nI i) (nI m) (nI en) (nI k) M = some (-2, M)) := by
  obtain ⟨h1, h2, h3, h4, h5, h6, h7, h8, h9, h10, h11, h12, h13⟩ := id hD
  intro f
  induction f with
  | zero => intro k q1 q2; omega
  | succ f ih =>
    intro k q1 q2
    rw [fX7_wordAt_H3, h4]
    by_cases c : w ≤ k
    · rw [if_pos (nI_le c (by omega))]
      exact ⟨fun q w1 w2 => by omega, fun _ => rfl⟩
    · obtain ⟨l1, l2, l3, -⟩ := h8 k (by omega)
      obtain ⟨g1, g2⟩ := ih (k + 1) (by omega) (by omega)
      have skip0 : ¬ (matW len L b en k i ∧ len k = m) → ∀ R : Option (Int32 × Mem), R = fX7_wordAt_H3 f (nI i) (nI m) (nI en) (nI (k + 1)) M → (∀ q, k ≤ q → q < w → matW len L b en q i → len q = m → R = some (nI q, M)) ∧ ((∀ q, k ≤ q → q < w → matW len L b en q i → len q = m → False) → R = some (-2, M)) := by
        intro hno R hR
        rw [hR]
        constructor
        · intro q w1 w2 w3 w4
          have : q ≠ k := by rintro rfl; exact hno ⟨w3, w4⟩
          exact g1 q (by omega) w2 w3 w4
        · intro g
          exact g2 (fun q w1 w2 w3 w4 => g q (by omega) w2 w3 w4)
      unfold fX7_wordAt_L34 fX7_wordAt_L35
      rw [if_neg (nI_ge (by omega) (by omega)), iald_n (show k < 40 by omega) (by decide), l3]
      have e0 : fX7_wordAt_H40 (fX7_wordAt_H3 f) FU (nI i) (nI m) (nI en) (nI k) 0 0 M = fX7_wordAt_H3 f (nI i) (nI m) (nI en) (nI (k + 1)) M := wa0 _ 99999 _ _ _ _ _ _
      by_cases d : len k = m
      · rw [if_pos (by rw [d]), nI_add]
        by_cases d2 : en < i + m
        · rw [if_pos (nI_lt d2 (by omega))]
          exact skip0 (fun g => by have := g.1.1; omega) _ e0
        · rw [if_neg (nI_nlt (by omega) (by omega))]
          obtain ⟨c1, c2⟩ := waC (i := i) (en := en) (b := b) (L := L k) (fX7_wordAt_H3 f) hm.2 (show k < 40 by omega) (by omega) h11 (h12 k) (fun j hj => h10 (i + j) (by omega)) (fun j hj => h9 k j (by omega) (by omega)) FU 0 (by omega) (by unfold FU; omega)
          rw [show (nI 0 : Int32) = 0 from rfl] at c1 c2
          by_cases d3 : ∀ j, 0 ≤ j → j < m → L k j = b (i + j)
          · rw [c1 d3]
            have hmk : matW len L b en k i := ⟨by omega, fun j hj => d3 j (by omega) (by omega)⟩
            constructor
            · intro q w1 w2 w3 w4
              rw [hD.one (by omega) w2 (by omega) hmk w3]
            · intro g
              exact absurd d (fun z => g k (by omega) (by omega) hmk z)
          · exact skip0 (fun g => d3 (fun j _ hj => g.1.2 j (by omega))) _ (c2 d3)
      · rw [if_neg (fun z => d ((nI_eq (by omega) (by omega)).mp z))]
        exact skip0 (fun g => d g.2) _ e0
/-- a candidate of a length is held against the best so far -/
theorem heldY {i m c s1 p1 pl en : Nat} {M : Mem} (k18 : Int32 → Int32 → Int32 → Mem → Option Mem) (k34 : Int32 → Int32 → Int32 → Int32 → Mem → Option Mem) (hm : 1 ≤ m) (hi : i + m ≤ 300) (h0 : c + s1 < 2 ^ 30) (h1 : p1 < 2 ^ 30) (e1 : gI M 90 (i + m) = nI s1) (e2 : gI M 91 (i + m) = nI p1) : (gI M 92 i = 0 → fX7_ways_L113 k18 k34 (nI pl) (nI en) (nI i) (nI m) (nI c) M = k34 (nI pl) (nI en) (nI i) (nI (m - 1)) (setI (setI (setI M 90 i (nI (c + s1))) 91 i (nI (1 + p1))) 92 i (nI m))) ∧ ∀ s p l, gI M 90 i = nI s → gI M 91 i = nI p → gI M 92 i = nI l → s < 2 ^ 30 → p < 2 ^ 30 → l < 2 ^ 30 → m < l → (bet (c + s1) (1 + p1) m s p l → fX7_ways_L113 k18 k34 (nI pl) (nI en) (nI i) (nI m) (nI c) M = k34 (nI pl) (nI en) (nI i) (nI (m - 1)) (setI (setI (setI M 90 i (nI (c + s1))) 91 i (nI (1 + p1))) 92 i (nI m))) ∧ (¬ bet (c + s1) (1 + p1) m s p l → fX7_ways_L113 k18 k34 (nI pl) (nI en) (nI i) (nI m) (nI c) M = k34 (nI pl) (nI en) (nI i) (nI (m - 1)) M) := by
  have em : nI m + (-1) = nI (m - 1) := sb_m1 (by omega)
  have yes : fX7_ways_L182 k18 k34 (nI pl) (nI en) (nI i) (nI m) (nI (c + s1)) (nI (1 + p1)) M = k34 (nI pl) (nI en) (nI i) (nI (m - 1)) (setI (setI (setI M 90 i (nI (c + s1))) 91 i (nI (1 + p1))) 92 i (nI m)) := by
    unfold fX7_ways_L182 fX7_ways_L206
    rw [iast_n (show i < 301 by omega) (by decide), iast_n (show i < 301 by omega) (by decide), iast_n (show i < 301 by omega) (by decide), lt_eq, em]
  have no : fX7_ways_L206 k18 k34 (nI pl) (nI en) (nI i) (nI m) M = k34 (nI pl) (nI en) (nI i) (nI (m - 1)) M := by
    unfold fX7_ways_L206
    rw [lt_eq, em]
  unfold fX7_ways_L113
  simp only [lt_eq]
  rw [nI_add, iald_n (show i + m < 301 by omega) (by decide), iald_n (show i + m < 301 by omega) (by decide), iald_n (show i < 301 by omega) (by decide)]
  simp only [iald_n (show i < ln 90 by show i < 301; omega) (by decide), iald_n (show i < ln 91 by show i < 301; omega) (by decide)]
  rw [e1, e2, nI_add, show (1 : Int32) + nI p1 = nI (1 + p1) from nI_add 1 p1, yes, no]
  constructor
  · intro h
    rw [if_pos h]
  · intro s p l a1 a2 a3 b1 b2 b3 hml
    rw [a1, a2, a3, if_neg (show ¬ nI l = 0 from nI_ne0 (by omega) (by omega))]
    simp (disch := omega) only [nI_leI, nI_ltI, nI_eq]
    unfold bet
    constructor
    · intro h
      by_cases d1 : c + s1 < s
      · rw [if_pos d1]
      · rw [if_neg d1, if_pos (by omega), if_neg (by omega)]
    · intro h
      rw [if_neg (by omega)]
      by_cases d1 : c + s1 = s
      · rw [if_pos d1, if_pos (by omega)]
      · rw [if_neg d1]
def CurW (w : Nat) (len cst : Nat → Nat) (L : Nat → Nat → Nat) (b : Nat → Nat) (en : Nat) (S P : Nat → Nat) (i m : Nat) (M : Mem) : Prop := (gI M 92 i = 0 ∧ ∀ k, k < w → matW len L b en k i → len k ≤ m) ∨ ∃ s p l, gI M 90 i = nI s ∧ gI M 91 i = nI p ∧ gI M 92 i = nI l ∧ m < l ∧ l ≤ 12 ∧ s < 2 ^ 30 ∧ p < 2 ^ 30 ∧ (∃ k, k < w ∧ matW len L b en k i ∧ s = cst k + S (i + len k) ∧ p = 1 + P (i + len k) ∧ l = len k) ∧ ∀ k, k < w → matW len L b en k i → m < len k → ¬ bet (cst k + S (i + len k)) (1 + P (i + len k)) (len k) s p l
theorem end0 (k18 : Int32 → Int32 → Int32 → Mem → Option Mem) (f i : Nat) (x1 x2 : Int32) (M : Mem) : fX7_ways_H34 k18 (f + 1) x1 x2 (nI i) (nI 0) M = k18 x1 x2 (nI i - 1) M := by
  rw [fX7_ways_H34, if_pos (show nI 0 < 1 by decide), lt_eq, show nI i + (-1) = nI i - 1 from (Int32.sub_eq_add_neg _ _).symm]
theorem inW {n w st en i pl : Nat} {len cst : Nat → Nat} {L : Nat → Nat → Nat} {b : Nat → Nat} {S P : Nat → Nat} (k18 : Int32 → Int32 → Int32 → Mem → Option Mem) (hen : en ≤ n) (hi : i < en) (hS : ∀ j, i < j → j ≤ en → S j ≤ 1000 * (en - j) ∧ P j ≤ en - j) : ∀ (m f : Nat) (M : Mem), m + 1 ≤ 12 → m + 1 < f → DY n w st len cst L b M → (∀ j, i < j → j ≤ en → gI M 90 j = nI (S j) ∧ gI M 91 j = nI (P j)) → CurW w len cst L b en S P i (m + 1) M → ∃ M1 s p l, fX7_ways_H34 k18 f (nI pl) (nI en) (nI i) (nI (m + 1)) M = k18 (nI pl) (nI en) (nI i - 1) M1 ∧ SameBut (SEi i) M M1 ∧ gI M1 90 i = nI s ∧ gI M1 91 i = nI p ∧ gI M1 92 i = nI l ∧ BestW w st len cst L b en S P i s p l := by
  intro m
  induction m with
  | zero =>
    intro f M hm hf hD hA hC
    obtain ⟨h1, h2, h3, h4, h5, h6, h7, h8, h9, h10, h11, h12, h13⟩ := id hD
    obtain ⟨f, rfl⟩ : ∃ f1, f = f1 + 1 := ⟨f - 1, by omega⟩
    obtain ⟨f, rfl⟩ : ∃ f1, f = f1 + 1 := ⟨f - 1, by omega⟩
    have ha := hA (i + 1) (by omega) (by omega)
    have hb := hS (i + 1) (by omega) (by omega)
    -- the candidate of one sign
    have cand : ∃ c, c ≤ 1000 ∧ fX7_ways_H34 k18 (f + 1 + 1) (nI pl) (nI en) (nI i) (nI (0 + 1)) M = fX7_ways_L113 k18 (fX7_ways_H34 k18 (f + 1)) (nI pl) (nI en) (nI i) (nI 1) (nI c) M ∧ (c = st ∨ ∃ k, k < w ∧ matW len L b en k i ∧ len k = 1 ∧ c = cst k) ∧ c ≤ st ∧ ∀ k, k < w → matW len L b en k i → len k = 1 → c ≤ cst k := by
      rw [fX7_ways_H34, if_neg (show ¬ nI (0 + 1) < 1 by decide)]
      obtain ⟨g1, g2⟩ := waY (m := 0 + 1) hD hen hi (by omega) FU 0 (by omega) (by unfold FU; omega)
      unfold fX7_wordAt
      rw [show (0 : Int32) = nI 0 from rfl]
      by_cases c : ∃ q, q < w ∧ matW len L b en q i ∧ len q = 1
      · obtain ⟨q, c1, c2, c3⟩ := c
        obtain ⟨l1, l2, l3, l4, l5, l6⟩ := h8 q c1
        rw [g1 q (by omega) c1 c2 c3, bI_s, if_neg (show ¬ nI q = -2 from fun z => absurd (show nI q < 0 by rw [z]; decide) (nI_pos (by omega))), if_neg (show ¬ (1 : Int32) < nI (0 + 1) by decide), iald_n (show q < 40 by omega) (by decide), l6, h7]
        unfold fX7_ways_L84 fX7_ways_L98
        rw [iald_n (show q < 40 by omega) (by decide), l6, if_neg (show ¬ nI q = -2 from fun z => absurd (show nI q < 0 by rw [z]; decide) (nI_pos (by omega))), if_neg (show ¬ nI q = -2 from fun z => absurd (show nI q < 0 by rw [z]; decide) (nI_pos (by omega)))]
        by_cases d : st ≤ cst q
        · rw [if_pos (nI_le d (by omega))]
          exact ⟨st, h6, rfl, Or.inl rfl, Nat.le_refl _, fun k k1 k2 k3 => by rw [hD.one k1 c1 (by omega) k2 c2]; exact d⟩
        · rw [if_neg (nI_ge (by omega) (by omega))]
          exact ⟨cst q, l5, rfl, Or.inr ⟨q, c1, c2, c3, rfl⟩, by omega, fun k k1 k2 k3 => by rw [hD.one k1 c1 (by omega) k2 c2]; exact Nat.le_refl _⟩
      · rw [g2 (fun q w1 w2 w3 w4 => c ⟨q, w2, w3, w4⟩), bI_s, if_pos rfl, h7]
        unfold fX7_ways_L98
        rw [if_pos rfl, if_pos (show nI (0 + 1) = 1 from rfl)]
        exact ⟨st, h6, rfl, Or.inl rfl, Nat.le_refl _, fun k k1 k2 k3 => absurd ⟨k, k1, k2, k3⟩ c⟩
    obtain ⟨c, c0, c1, c2, c3, c4⟩ := cand
    obtain ⟨t1, t2⟩ := heldY (i := i) (m := 1) (c := c) (pl := pl) (en := en) k18 (fX7_ways_H34 k18 (f + 1)) (by omega) (by omega) (by omega) (by omega) ha.1 ha.2
    have isC : (c + S (i + 1) = st + S (i + 1) ∧ 1 + P (i + 1) = 1 + P (i + 1) ∧ 1 = 1) ∨ ∃ k, k < w ∧ matW len L b en k i ∧ c + S (i + 1) = cst k + S (i + len k) ∧ 1 + P (i + 1) = 1 + P (i + len k) ∧ 1 = len k := by
      rcases c2 with e | ⟨k, k1, k2, k3, e⟩
      · exact Or.inl ⟨by rw [e], rfl, rfl⟩
      · exact Or.inr ⟨k, k1, k2, by rw [k3, e], by rw [k3], k3.symm⟩
    have nst : ¬ bet (st + S (i + 1)) (1 + P (i + 1)) 1 (c + S (i + 1)) (1 + P (i + 1)) 1 := by unfold bet; omega
    have n1 : ∀ k, k < w → matW len L b en k i → len k = 1 → ¬ bet (cst k + S (i + len k)) (1 + P (i + len k)) (len k) (c + S (i + 1)) (1 + P (i + 1)) 1 := by
      intro k k1 k2 k3
      have := c4 k k1 k2 k3
      rw [k3]; unfold bet; omega
    have sm : SameBut (SEi i) M (setI (setI (setI M 90 i (nI (c + S (i + 1)))) 91 i (nI (1 + P (i + 1)))) 92 i (nI 1)) := ((SameBut.refl.setI (by simp [SEi])).setI (by simp [SEi])).setI (by simp [SEi])
    rcases hC with ⟨a1, a2⟩ | ⟨s, p, l, a1, a2, a3, a4, a5, a6, a7, a8, a9⟩
    · refine ⟨_, c + S (i + 1), 1 + P (i + 1), 1, (c1.trans (t1 a1)).trans (end0 _ _ _ _ _ _), sm, by rw [gI_ne (by decide), gI_ne (by decide), gI_eq], by rw [gI_ne (by decide), gI_eq], gI_eq, isC, nst, fun k k1 k2 => ?_⟩
      have := a2 k k1 k2
      have := (h8 k k1).1
      exact n1 k k1 k2 (by omega)
    · obtain ⟨u1, u2⟩ := t2 s p l a1 a2 a3 a6 a7 (by omega) (by omega)
      by_cases d : bet (c + S (i + 1)) (1 + P (i + 1)) 1 s p l
      · refine ⟨_, c + S (i + 1), 1 + P (i + 1), 1, (c1.trans (u1 d)).trans (end0 _ _ _ _ _ _), sm, by rw [gI_ne (by decide), gI_ne (by decide), gI_eq], by rw [gI_ne (by decide), gI_eq], gI_eq, isC, nst, fun k k1 k2 => ?_⟩
        by_cases e : len k = 1
        · exact n1 k k1 k2 e
        · exact bet_nt (a9 k k1 k2 (by have := (h8 k k1).1; omega)) d
      · refine ⟨M, s, p, l, (c1.trans (u2 d)).trans (end0 _ _ _ _ _ _), SameBut.refl, a1, a2, a3, Or.inr a8, bet_nn nst d, fun k k1 k2 => ?_⟩
        by_cases e : len k = 1
        · exact bet_nn (n1 k k1 k2 e) d
        · exact a9 k k1 k2 (by have := (h8 k k1).1; omega)
  | succ m ih =>
    intro f M hm hf hD hA hC
    obtain ⟨h1, h2, h3, h4, h5, h6, h7, h8, h9, h10, h11, h12, h13⟩ := id hD
    obtain ⟨f, rfl⟩ : ∃ f1, f = f1 + 1 := ⟨f - 1, by omega⟩
    rw [fX7_ways_H34, if_neg (show ¬ nI (m + 1 + 1) < 1 from nI_nlt (b := 1) (by omega) (by omega))]
    obtain ⟨g1, g2⟩ := waY (m := m + 1 + 1) hD hen hi (by omega) FU 0 (by omega) (by unfold FU; omega)
    unfold fX7_wordAt
    rw [show (0 : Int32) = nI 0 from rfl]
    by_cases c : ∃ q, q < w ∧ matW len L b en q i ∧ len q = m + 1 + 1
    · obtain ⟨q, c1, c2, c3⟩ := c
      obtain ⟨l1, l2, l3, l4, l5, l6⟩ := h8 q c1
      have hle := c2.1
      have ha := hA (i + (m + 1 + 1)) (by omega) (by omega)
      have hb := hS (i + (m + 1 + 1)) (by omega) (by omega)
      rw [g1 q (by omega) c1 c2 c3, bI_s, if_neg (show ¬ nI q = -2 from fun z => absurd (show nI q < 0 by rw [z]; decide) (nI_pos (by omega))), if_pos (show (1 : Int32) < nI (m + 1 + 1) from nI_lt (a := 1) (by omega) (by omega))]
      unfold fX7_ways_L84 fX7_ways_L98
      rw [iald_n (show q < 40 by omega) (by decide), l6, if_neg (show ¬ nI q = -2 from fun z => absurd (show nI q < 0 by rw [z]; decide) (nI_pos (by omega)))]
      obtain ⟨t1, t2⟩ := heldY (i := i) (m := m + 1 + 1) (c := cst q) (pl := pl) (en := en) k18 (fX7_ways_H34 k18 f) (by omega) (by omega) (by omega) (by omega) ha.1 ha.2
      have sm : SameBut (SEi i) M (setI (setI (setI M 90 i (nI (cst q + S (i + (m + 1 + 1))))) 91 i (nI (1 + P (i + (m + 1 + 1))))) 92 i (nI (m + 1 + 1))) := ((SameBut.refl.setI (by simp [SEi])).setI (by simp [SEi])).setI (by simp [SEi])
      have isC : ∃ k, k < w ∧ matW len L b en k i ∧ cst q + S (i + (m + 1 + 1)) = cst k + S (i + len k) ∧ 1 + P (i + (m + 1 + 1)) = 1 + P (i + len k) ∧ m + 1 + 1 = len k := ⟨q, c1, c2, by rw [c3], by rw [c3], c3.symm⟩
      have n1 : ∀ k, k < w → matW len L b en k i → len k = m + 1 + 1 → ¬ bet (cst k + S (i + len k)) (1 + P (i + len k)) (len k) (cst q + S (i + (m + 1 + 1))) (1 + P (i + (m + 1 + 1))) (m + 1 + 1) := by
        intro k k1 k2 k3
        rw [hD.one k1 c1 (by omega) k2 c2, c3]; exact bet_irr
      have next : (∀ k, k < w → matW len L b en k i → m + 1 < len k → ¬ bet (cst k + S (i + len k)) (1 + P (i + len k)) (len k) (cst q + S (i + (m + 1 + 1))) (1 + P (i + (m + 1 + 1))) (m + 1 + 1)) → ∃ M1 s p l, fX7_ways_H34 k18 f (nI pl) (nI en) (nI i) (nI (m + 1 + 1 - 1)) (setI (setI (setI M 90 i (nI (cst q + S (i + (m + 1 + 1))))) 91 i (nI (1 + P (i + (m + 1 + 1))))) 92 i (nI (m + 1 + 1))) = k18 (nI pl) (nI en) (nI i - 1) M1 ∧ SameBut (SEi i) M M1 ∧ gI M1 90 i = nI s ∧ gI M1 91 i = nI p ∧ gI M1 92 i = nI l ∧ BestW w st len cst L b en S P i s p l := by
        intro hall
        obtain ⟨M1, s, p, l, r1, r2, r3⟩ := ih f _ (by omega) (by omega) (hD.move (sm.mono (fun a k h => SEi_SE h))) (fun j j1 j2 => by rw [sm.1 90 j (by simp [SEi]; omega), sm.1 91 j (by simp [SEi]; omega)]; exact hA j j1 j2) (Or.inr ⟨_, _, _, by rw [gI_ne (by decide), gI_ne (by decide), gI_eq], by rw [gI_ne (by decide), gI_eq], gI_eq, by omega, by omega, by omega, by omega, isC, hall⟩)
        exact ⟨M1, s, p, l, r1, sm.trans r2, r3⟩
      rcases hC with ⟨a1, a2⟩ | ⟨s, p, l, a1, a2, a3, a4, a5, a6, a7, a8, a9⟩
      · rw [t1 a1]
        refine next (fun k k1 k2 k3 => n1 k k1 k2 ?_)
        have := a2 k k1 k2
        omega
      · obtain ⟨u1, u2⟩ := t2 s p l a1 a2 a3 a6 a7 (by omega) (by omega)
        by_cases d : bet (cst q + S (i + (m + 1 + 1))) (1 + P (i + (m + 1 + 1))) (m + 1 + 1) s p l
        · rw [u1 d]
          refine next (fun k k1 k2 k3 => ?_)
          by_cases e : len k = m + 1 + 1
          · exact n1 k k1 k2 e
          · exact bet_nt (a9 k k1 k2 (by omega)) d
        · rw [u2 d]
          refine ih f M (by omega) (by omega) hD hA (Or.inr ⟨s, p, l, a1, a2, a3, by omega, a5, a6, a7, a8, fun k k1 k2 k3 => ?_⟩)
          by_cases e : len k = m + 1 + 1
          · exact bet_nn (n1 k k1 k2 e) d
          · exact a9 k k1 k2 (by omega)
    · rw [g2 (fun q w1 w2 w3 w4 => c ⟨q, w2, w3, w4⟩), bI_s, if_pos rfl]
      unfold fX7_ways_L98 fX7_ways_L206
      rw [if_pos rfl, if_neg (show ¬ nI (m + 1 + 1) = 1 from fun z => absurd ((nI_eq (b := 1) (by omega) (by omega)).mp z) (by omega)), lt_eq, show nI (m + 1 + 1) + (-1) = nI (m + 1) from sb_m1 (by omega)]
      refine ih f M (by omega) (by omega) hD hA ?_
      rcases hC with ⟨a1, a2⟩ | ⟨s, p, l, a1, a2, a3, a4, a5, a6, a7, a8, a9⟩
      · refine Or.inl ⟨a1, fun k k1 k2 => ?_⟩
        have := a2 k k1 k2
        have : len k ≠ m + 1 + 1 := fun e => c ⟨k, k1, k2, e⟩
        omega
      · refine Or.inr ⟨s, p, l, a1, a2, a3, by omega, a5, a6, a7, a8, fun k k1 k2 k3 => a9 k k1 k2 ?_⟩
        have : len k ≠ m + 1 + 1 := fun e => c ⟨k, k1, k2, e⟩
        omega
theorem waysY {n w st pl en : Nat} {len cst : Nat → Nat} {L : Nat → Nat → Nat} {b : Nat → Nat} (hen : en ≤ n) (hpl : pl ≤ en) : ∀ (f t : Nat) (S P F : Nat → Nat) (M : Mem), pl ≤ t → t ≤ en → t < pl + f → DY n w st len cst L b M → Solved n w st len cst L b t en S P F → (∀ j, t ≤ j → j ≤ en → gI M 90 j = nI (S j) ∧ gI M 91 j = nI (P j)) → (∀ j, t ≤ j → j < en → gI M 92 j = nI (F j)) → ∃ (M1 : Mem) (S P F : Nat → Nat), fX7_ways_H18 f (nI pl) (nI en) (nI t - 1) M = some M1 ∧ SameBut SE M M1 ∧ Solved n w st len cst L b pl en S P F ∧ (∀ j, pl ≤ j → j ≤ en → gI M1 90 j = nI (S j) ∧ gI M1 91 j = nI (P j)) ∧ ∀ j, pl ≤ j → j < en → gI M1 92 j = nI (F j) := by
  intro f
  induction f with
  | zero => intro t S P F M q1 q2 q3; omega
  | succ f ih =>
    intro t S P F M q1 q2 q3 hD hSol hA hB
    obtain ⟨h1, h2, h3, h4, h5, h6, h7, h8, -⟩ := id hD
    rw [fX7_ways_H18]
    by_cases c : t = pl
    · subst c
      rw [if_pos (by
        by_cases z : t = 0
        · subst z; decide
        · rw [show nI t - 1 = nI (t - 1) by (have := nI_pred (t - 1); rwa [show t - 1 + 1 = t by omega] at this)]
          exact nI_lt (by omega) (by omega))]
      exact ⟨M, S, P, F, rfl, SameBut.refl, hSol, hA, hB⟩
    · have et : nI t - 1 = nI (t - 1) := by (have := nI_pred (t - 1); rwa [show t - 1 + 1 = t by omega] at this)
      rw [et, if_neg (nI_nlt (by omega) (by omega)), iast_n (show t - 1 < 301 by omega) (by decide)]
      have sm0 : SameBut (SEi (t - 1)) M (setI M 92 (t - 1) 0) := SameBut.refl.setI (by simp [SEi])
      obtain ⟨M1, s1, p1, l1, r1, r2, r3, r4, r5, r7⟩ := inW (i := t - 1) (pl := pl) (S := S) (P := P) (fX7_ways_H18 f) hen (by omega) (fun j j1 j2 => hSol.2.2.1 j (by omega) j2) 11 FU (setI M 92 (t - 1) 0) (by omega) (by unfold FU; omega) (hD.move (sm0.mono (fun a k h => SEi_SE h))) (fun j j1 j2 => by rw [gI_ne (by decide), gI_ne (by decide)]; exact hA j (by omega) j2) (Or.inl ⟨gI_eq, fun k k1 k2 => by have := (h8 k k1).2.1; omega⟩)
      rw [show nI (11 + 1) = (12 : Int32) from rfl] at r1
      rw [r1]
      have r2 := sm0.trans r2
      have hl : ∀ k, k < w → 1 ≤ len k := fun k hk => (h8 k hk).1
      have bd := r7.bound h6 (fun q hq => ⟨(h8 q hq).1, (h8 q hq).2.1, (h8 q hq).2.2.2.2.1⟩) (by omega) (fun j j1 j2 => hSol.2.2.1 j (by omega) j2)
      obtain ⟨M2, S2, P2, F2, u1, u2, u3⟩ := ih (t - 1) (fun j => if j = t - 1 then s1 else S j) (fun j => if j = t - 1 then p1 else P j) (fun j => if j = t - 1 then l1 else F j) M1 (by omega) (by omega) (by omega) (hD.move (r2.mono (fun a k h => SEi_SE h))) (by
        refine ⟨?_, ?_, fun j j1 j2 => ?_, fun j j1 j2 => ?_⟩
        · simp only [if_neg (show ¬ en = t - 1 by omega)]; exact hSol.1
        · simp only [if_neg (show ¬ en = t - 1 by omega)]; exact hSol.2.1
        · by_cases e : j = t - 1
          · simp only [if_pos e]; rw [e]; exact ⟨bd.1, bd.2.1⟩
          · simp only [if_neg e]; exact hSol.2.2.1 j (by omega) j2
        · have cg : ∀ z, j < z → z ≤ en → S z = (if z = t - 1 then s1 else S z) ∧ P z = (if z = t - 1 then p1 else P z) := fun z z1 z2 => by rw [if_neg (by omega), if_neg (by omega)]; exact ⟨rfl, rfl⟩
          by_cases e : j = t - 1
          · simp only [if_pos e]
            rw [← e] at r7
            exact r7.congr hl j2 cg
          · simp only [if_neg e]
            exact (hSol.2.2.2 j (by omega) j2).congr hl j2 cg) (fun j j1 j2 => by
          by_cases e : j = t - 1
          · subst e; simp only [if_true]; exact ⟨r3, r4⟩
          · simp only [if_neg e]
            rw [r2.1 90 j (by simp [SEi]; omega), r2.1 91 j (by simp [SEi]; omega)]
            exact hA j (by omega) j2) (fun j j1 j2 => by
          by_cases e : j = t - 1
          · subst e; simp only [if_true]; exact r5
          · simp only [if_neg e]
            rw [r2.1 92 j (by simp [SEi]; omega)]
            exact hB j (by omega) j2)
      exact ⟨M2, S2, P2, F2, u1, SameBut.trans (r2.mono (fun a k h => SEi_SE h)) u2, u3⟩
theorem ways_ok {n w st pl en : Nat} {len cst : Nat → Nat} {L : Nat → Nat → Nat} {b : Nat → Nat} {M : Mem} (hen : en ≤ n) (hpl : pl ≤ en) (hD : DY n w st len cst L b M) : ∃ (M1 : Mem) (S P F : Nat → Nat), fX7_ways (nI pl) (nI en) M = some M1 ∧ SameBut SE M M1 ∧ Solved n w st len cst L b pl en S P F ∧ (∀ j, pl ≤ j → j ≤ en → gI M1 90 j = nI (S j) ∧ gI M1 91 j = nI (P j)) ∧ ∀ j, pl ≤ j → j < en → gI M1 92 j = nI (F j) := by
  have hn := hD.1
  unfold fX7_ways
  rw [iast_n (show en < 301 by omega) (by decide), iast_n (show en < 301 by omega) (by decide), lt_eq]
  have sm : SameBut SE M (setI (setI M 90 en 0) 91 en 0) := (SameBut.refl.setI rfl).setI rfl
  obtain ⟨M1, S, P, F, r1, r2, r3⟩ := waysY (pl := pl) hen hpl FU en (fun _ => 0) (fun _ => 0) (fun _ => 0) _ hpl (Nat.le_refl _) (by unfold FU; omega) (hD.move sm) ⟨rfl, rfl, fun j j1 j2 => by simp, fun j j1 j2 => absurd j2 (by omega)⟩ (fun j j1 j2 => by
    have e : j = en := by omega
    subst e
    exact ⟨by rw [gI_ne (by decide), gI_eq]; rfl, by rw [gI_eq]; rfl⟩) (fun j j1 j2 => absurd j2 (by omega))
  exact ⟨M1, S, P, F, r1, sm.trans r2, r3⟩
