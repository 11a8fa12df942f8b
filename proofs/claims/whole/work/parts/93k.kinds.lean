/-! kinds of signs and rows -/
theorem isLe_iff {s : Nat} : isLe s = true ↔ (97 ≤ s ∧ s ≤ 122) ∨ (65 ≤ s ∧ s ≤ 90) := by simp [isLe]
theorem isFi_iff {s : Nat} : isFi s = true ↔ 48 ≤ s ∧ s ≤ 57 := by simp [isFi]
theorem isBl_iff {s : Nat} : isBl s = true ↔ s = 32 ∨ s = 9 ∨ s = 10 := by simp [isBl, or_assoc]
theorem nof {b : Bool} {P : Prop} (h : b = false) (g : b = true ↔ P) : ¬ P := fun q => absurd (h.symm.trans (g.mpr q)) (by decide)
theorem leX {s : Nat} (hs : s < 256) (M : Mem) : fX6_isLetter (nI s) M = some (bz (isLe s), M) := by
  unfold fX6_isLetter fX6_isLetter_L12 fX6_isLetter_L24
  simp (disch := omega) only [lit, nI_ltI, nI_leI]
  cases h : isLe s with
  | true =>
    rcases isLe_iff.mp h with c | c
    · rw [if_neg (by omega), if_pos (by omega)]; rfl
    · rw [if_pos (by omega), if_neg (by omega), if_neg (by omega)]; rfl
  | false =>
    have h2 := nof h isLe_iff
    by_cases c1 : s < 97
    · rw [if_pos c1]
      by_cases c2 : s < 65
      · rw [if_pos c2]; rfl
      · rw [if_neg c2, if_pos (by omega)]; rfl
    · rw [if_neg c1, if_neg (by omega), if_neg (by omega), if_pos (by omega)]; rfl
theorem fiX {s : Nat} (hs : s < 256) (M : Mem) : fX6_isFigure (nI s) M = some (bz (isFi s), M) := by
  unfold fX6_isFigure
  simp (disch := omega) only [lit, nI_ltI, nI_leI]
  cases h : isFi s with
  | true =>
    have h2 := isFi_iff.mp h
    rw [if_neg (by omega), if_neg (by omega)]; rfl
  | false =>
    have h2 := nof h isFi_iff
    by_cases c1 : s < 48
    · rw [if_pos c1]; rfl
    · rw [if_neg c1, if_pos (by omega)]; rfl
theorem leN (M : Mem) : fX6_isLetter (-1) M = some (0, M) := rfl
theorem fiN (M : Mem) : fX6_isFigure (-1) M = some (0, M) := rfl
theorem isinY {s lo hi : Nat} (hs : s < 256) (hl : lo < 256) (hh : hi < 256) (M : Mem) : fX7_isIn (nI s) (nI lo) (nI hi) M = some (bz (decide (lo ≤ s ∧ s ≤ hi)), M) := by
  rw [isIn_ok]
  simp (disch := omega) only [nI_leI]
theorem leY {s : Nat} (hs : s < 256) (M : Mem) : fX7_isLetter (nI s) M = some (bz (isLe s), M) := by
  unfold fX7_isLetter
  simp only [lit]
  rw [isinY hs (by omega) (by omega), bI_s, isinY hs (by omega) (by omega), bI_s]
  cases h : isLe s with
  | true =>
    by_cases c : 97 ≤ s ∧ s ≤ 122
    · rw [decide_eq_true c]; rfl
    · have h2 := isLe_iff.mp h
      rw [decide_eq_false c, decide_eq_true (show 65 ≤ s ∧ s ≤ 90 by omega)]; rfl
  | false =>
    have h2 := nof h isLe_iff
    rw [decide_eq_false (show ¬ (97 ≤ s ∧ s ≤ 122) by omega), decide_eq_false (show ¬ (65 ≤ s ∧ s ≤ 90) by omega)]; rfl
theorem fiY {s : Nat} (hs : s < 256) (M : Mem) : fX7_isFigure (nI s) M = some (bz (isFi s), M) := by
  unfold fX7_isFigure
  simp only [lit]
  rw [isinY hs (by omega) (by omega), bI_s, zr_b, show decide (48 ≤ s ∧ s ≤ 57) = isFi s by simp [isFi]]
def isOt (s : Nat) : Bool := !isBl s && !isLe s && !isFi s
theorem otX {s : Nat} (hs : s < 256) (M : Mem) : fX6_isOther (nI s) M = some (bz (isOt s), M) := by
  unfold fX6_isOther isOt
  rw [solX hs, bI_s, leX hs, bI_s, fiX hs, bI_s]
  cases isBl s <;> cases isLe s <;> cases isFi s <;> rfl
theorem otY {s : Nat} (hs : s < 256) (M : Mem) : fX7_isOther (nI s) M = some (bz (isOt s), M) := by
  unfold fX7_isOther isOt
  rw [leY hs, bI_s, fiY hs, bI_s, blY hs, bI_s]
  cases isBl s <;> cases isLe s <;> cases isFi s <;> rfl
def bef (b : Nat → Nat) (i : Nat) : Nat := if i = 0 then 32 else b (i - 1)
def beh (n : Nat) (b : Nat → Nat) (i : Nat) : Nat := if i + 1 < n then b (i + 1) else 32
def KW (n : Nat) (b : Nat → Nat) (i : Nat) : Bool := isLe (b i) || isFi (b i) || b i == 95 || ((b i == 39 || b i == 46) && isLe (bef b i) && isLe (beh n b i)) || ((b i == 44 || b i == 46) && isFi (bef b i) && isFi (beh n b i))
theorem bef_lt {b : Nat → Nat} (hb : ∀ j, b j < 256) (i : Nat) : bef b i < 256 := by unfold bef; split; omega; exact hb _
theorem beh_lt {n : Nat} {b : Nat → Nat} (hb : ∀ j, b j < 256) (i : Nat) : beh n b i < 256 := by unfold beh; split; exact hb _; omega
theorem befX {n i : Nat} {b : Nat → Nat} (hb : ∀ j, b j < 256) (hn : n ≤ 300) (hi : i < n) (M : Mem) : fX6_isLetter (atv n b (nI i - 1)) M = some (bz (isLe (bef b i)), M) ∧ fX6_isFigure (atv n b (nI i - 1)) M = some (bz (isFi (bef b i)), M) := by
  cases i with
  | zero => rw [show atv n b (nI 0 - 1) = -1 by (unfold atv; rw [if_pos (by decide)])]; exact ⟨leN M, fiN M⟩
  | succ i => rw [pred_nI, atv_in (by omega) hn, show bef b (i + 1) = b i from rfl]; exact ⟨leX (hb i) M, fiX (hb i) M⟩
theorem behX {n i : Nat} {b : Nat → Nat} (hb : ∀ j, b j < 256) (hn : n ≤ 300) (hi : i < n) (M : Mem) : fX6_isLetter (atv n b (nI i + 1)) M = some (bz (isLe (beh n b i)), M) ∧ fX6_isFigure (atv n b (nI i + 1)) M = some (bz (isFi (beh n b i)), M) := by
  rw [show (1 : Int32) = nI 1 from rfl, nI_add]
  unfold beh
  by_cases c : i + 1 < n
  · rw [if_pos c, atv_in c hn]; exact ⟨leX (hb _) M, fiX (hb _) M⟩
  · rw [if_neg c, atv_out (by omega) (by omega)]; exact ⟨leN M, fiN M⟩
theorem le_fi (s : Nat) : isLe s = true → isFi s = false := by
  intro h
  have := isLe_iff.mp h
  cases c : isFi s with
  | false => rfl
  | true => have := isFi_iff.mp c; omega
theorem w_dec (s : Nat) (p1 p2 p3 p4 : Bool) (hd : p1 = true → p2 = false) (l f : Bool) (M : Mem) : (if bz l = 0 then (if bz f = 0 then (if s = 95 then zr_ 1 M else if bz p1 = 0 then (if bz p2 = 0 then zr_ 0 M else if bz p4 = 0 then zr_ 0 M else if s = 44 then zr_ 1 M else if s = 46 then zr_ 1 M else zr_ 0 M) else if bz p3 = 0 then (if bz p2 = 0 then zr_ 0 M else if bz p4 = 0 then zr_ 0 M else if s = 44 then zr_ 1 M else if s = 46 then zr_ 1 M else zr_ 0 M) else if s = 39 then zr_ 1 M else if s = 46 then zr_ 1 M else zr_ 0 M) else zr_ 1 M) else zr_ 1 M) = some (bz (l || f || s == 95 || ((s == 39 || s == 46) && p1 && p3) || ((s == 44 || s == 46) && p2 && p4)), M) := by
  simp only [bz_0, zr_0, zr_1]
  cases l
  · cases f
    · by_cases d95 : s = 95
      · subst d95; rfl
      · have d95b : (s == 95) = false := by simpa using d95
        rw [if_pos rfl, if_pos rfl, if_neg d95, d95b]
        by_cases d39 : s = 39
        · subst d39; revert hd; cases p1 <;> cases p2 <;> cases p3 <;> cases p4 <;> simp [bz]
        · by_cases d44 : s = 44
          · subst d44; revert hd; cases p1 <;> cases p2 <;> cases p3 <;> cases p4 <;> simp [bz]
          · by_cases d46 : s = 46
            · subst d46; revert hd; cases p1 <;> cases p2 <;> cases p3 <;> cases p4 <;> simp [bz]
            · simp [d39, d44, d46, bz]
    · rfl
  · rfl
theorem wX {n i : Nat} {M : Mem} (hn : n ≤ 300) (h : gI M 3 1 = nI n) (hi : i < n) : fX6_isOfWord (nI i) M = some (bz (KW n (bt M 3) i), M) := by
  have hb := bt_lt M 3
  unfold fX6_isOfWord fX6_isOfWord_L87 fX6_isOfWord_L81 fX6_isOfWord_L114 KW
  obtain ⟨a1, a2⟩ := befX hb hn hi M
  obtain ⟨c1, c2⟩ := behX hb hn hi M
  simp only [at_ok rfl h hn, bI_s, a1, a2, c1, c2]
  rw [atv_in hi hn, leX (hb i), bI_s, fiX (hb i), bI_s]
  have e39 : nI (bt M 3 i) = 39 ↔ bt M 3 i = 39 := nI_eq (b := 39) (by have := hb i; omega) (by omega)
  have e44 : nI (bt M 3 i) = 44 ↔ bt M 3 i = 44 := nI_eq (b := 44) (by have := hb i; omega) (by omega)
  have e46 : nI (bt M 3 i) = 46 ↔ bt M 3 i = 46 := nI_eq (b := 46) (by have := hb i; omega) (by omega)
  have e95 : nI (bt M 3 i) = 95 ↔ bt M 3 i = 95 := nI_eq (b := 95) (by have := hb i; omega) (by omega)
  simp only [e39, e44, e46, e95]
  simp only [at_ok rfl h hn, bI_s, a1, a2, c1, c2]
  exact w_dec _ _ _ _ _ (le_fi _) _ _ M
theorem wY {n i : Nat} {b : Nat → Nat} {M : Mem} (hn : n ≤ 300) (h : gI M 50 3 = nI n) (hb : ∀ j, b j < 256) (ht : ∀ j, j < n → gI M 53 j = nI (b j)) (hi : i < n) : fX7_isOfWord (nI i) M = some (bz (KW n b i), M) := by
  unfold fX7_isOfWord
  have h24 : fX7_isOfWord_L24 (nI i) (nI (b i)) (nI (bef b i)) M = some (bz (KW n b i), M) := by
    have h48 : fX7_isOfWord_L48 (nI (b i)) (nI (bef b i)) (nI (beh n b i)) M = some (bz (KW n b i), M) := by
      unfold fX7_isOfWord_L48 fX7_isOfWord_L62 fX7_isOfWord_L81 fX7_isOfWord_L82 fX7_isOfWord_L96 fX7_isOfWord_L115 fX7_isOfWord_L116 fX7_isOfWord_L148 KW
      have e39 : nI (b i) = 39 ↔ b i = 39 := nI_eq (b := 39) (by have := hb i; omega) (by omega)
      have e44 : nI (b i) = 44 ↔ b i = 44 := nI_eq (b := 44) (by have := hb i; omega) (by omega)
      have e46 : nI (b i) = 46 ↔ b i = 46 := nI_eq (b := 46) (by have := hb i; omega) (by omega)
      have e95 : nI (b i) = 95 ↔ b i = 95 := nI_eq (b := 95) (by have := hb i; omega) (by omega)
      simp only [leY (bef_lt hb i), leY (beh_lt hb i), fiY (bef_lt hb i), fiY (beh_lt hb i), leY (hb i), fiY (hb i), bI_s, e39, e44, e46, e95]
      generalize isLe (bef b i) = p1
      generalize isFi (bef b i) = p2
      generalize isLe (beh n b i) = p3
      generalize isFi (beh n b i) = p4
      generalize b i = s
      simp only [bz_0, zr_0, zr_1, if_true, n10, if_false, if_pos z00]
      by_cases d39 : s = 39
      · subst d39; cases p1 <;> cases p2 <;> cases p3 <;> cases p4 <;> rfl
      · by_cases d44 : s = 44
        · subst d44; cases p1 <;> cases p2 <;> cases p3 <;> cases p4 <;> rfl
        · by_cases d46 : s = 46
          · subst d46; cases p1 <;> cases p2 <;> cases p3 <;> cases p4 <;> rfl
          · rw [if_neg d39, if_neg d46, if_neg d44, if_neg d46, show (s == 39) = false by simpa using d39, show (s == 46) = false by simpa using d46, show (s == 44) = false by simpa using d44]
            by_cases d95 : s = 95
            · subst d95; rfl
            · rw [if_neg d95, show (s == 95) = false by simpa using d95]
              cases isLe s <;> cases isFi s <;> rfl
    unfold fX7_isOfWord_L24
    rw [h, show (1 : Int32) = nI 1 from rfl, nI_add]
    unfold beh at h48
    by_cases c : i + 1 < n
    · rw [if_neg (nI_ge c (by omega)), iald_n (show i + 1 < 300 by omega) (by decide), ht (i + 1) c]
      rw [if_pos c] at h48
      exact h48
    · rw [if_pos (nI_le (by omega) (by omega))]
      rw [if_neg c] at h48
      exact h48
  rw [iald_n (show i < 300 by omega) (by decide), ht i hi]
  unfold bef at h24
  cases i with
  | zero => rw [if_pos (show nI 0 ≤ 0 by decide)]; exact h24
  | succ i =>
    rw [if_neg (nI_nle (by omega) (by omega)), pred_nI, iald_n (show i < 300 by omega) (by decide), ht i (by omega)]
    exact h24
