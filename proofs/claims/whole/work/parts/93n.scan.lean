/-! the scan for rows -/
def KK (n : Nat) (b : Nat → Nat) (way : Nat) : Nat → Bool := fun i => if way = 0 ∨ way = 5 ∨ way = 6 then isLe (b i) else if way = 8 then isOt (b i) else if way = 2 then KW n b i else KS b i
theorem kindX {n i way : Nat} {b : Nat → Nat} {M : Mem} (hT : TX n b M) (hi : i < n) (hw : way ≤ 8) : fX6_isOfKind (nI way) (nI i) M = some (bz (KK n b way i), M) := by
  have h82 : fX6_isOfKind_L82 (nI i) M = some (bz (KS b i), M) := by rw [← hT.eqf]; exact kind82 hT.1 hT.2.1 hi
  have h52 : fX6_isOfKind_L52 (nI i) M = some (bz (isLe (b i)), M) := by
    unfold fX6_isOfKind_L52
    rw [hT.at hi, bI_s, leX (hT.lt i), bI_s, zr_b]
  have h2 : fX6_isOfWord (nI i) M = some (bz (KW n b i), M) := by rw [← hT.eqf]; exact wX hT.1 hT.2.1 hi
  have : way = 0 ∨ way = 1 ∨ way = 2 ∨ way = 3 ∨ way = 4 ∨ way = 5 ∨ way = 6 ∨ way = 7 ∨ way = 8 := by omega
  rcases this with rfl | rfl | rfl | rfl | rfl | rfl | rfl | rfl | rfl
  · exact h52
  · exact h82
  · show bI_ (fX6_isOfWord (nI i) M) _ = _
    rw [h2, bI_s, zr_b]; rfl
  · exact h82
  · exact h82
  · exact h52
  · exact h52
  · exact h82
  · show bI_ (fX5_at 3 (nI i) M) _ = _
    rw [hT.at hi, bI_s, otX (hT.lt i), bI_s, zr_b]; rfl
def KM (lk : Bool) (n : Nat) (b : Nat → Nat) (way : Nat) : Nat → Bool := if way = 2 ∧ lk = true then KS b else KK n b way
theorem kindY {n i way : Nat} {b : Nat → Nat} {lk : Bool} {M : Mem} (hT : TY n b M) (hi : i < n) (hw : way ≤ 8) (hW : gI M 50 42 = nI way) (hL : gI M 50 9 = bz lk) : fX7_isOfRow (nI i) M = some (bz (KM lk n b way i), M) := by
  obtain ⟨t1, t2, t3, t4⟩ := hT
  have h77 : fX7_isOfRow_L77 (nI (b i)) M = some (bz (KS b i), M) := by
    unfold fX7_isOfRow_L77 KS
    rw [blY (t3 i), bI_s]
    cases isBl (b i) <;> rfl
  have h31 : fX7_isOfRow_L31 (nI (b i)) M = some (bz (isLe (b i)), M) := by
    unfold fX7_isOfRow_L31
    rw [leY (t3 i), bI_s, zr_b]
  have h2 := wY t1 t2 t3 t4 hi
  unfold fX7_isOfRow
  rw [iald_n (show i < 300 by omega) (by decide), t4 i hi, hW, hL]
  have : way = 0 ∨ way = 1 ∨ way = 2 ∨ way = 3 ∨ way = 4 ∨ way = 5 ∨ way = 6 ∨ way = 7 ∨ way = 8 := by omega
  unfold KM
  rcases this with rfl | rfl | rfl | rfl | rfl | rfl | rfl | rfl | rfl
  · exact h31
  · exact h77
  · cases lk
    · show bI_ (fX7_isOfWord (nI i) M) _ = _
      rw [h2, bI_s, zr_b]; rfl
    · exact h77
  · exact h77
  · exact h77
  · exact h31
  · exact h31
  · exact h77
  · show bI_ (fX7_isOther (nI (b i)) M) _ = _
    rw [otY (t3 i), bI_s, zr_b]; rfl
def scE (n : Nat) (K : Nat → Bool) (R : Nat → Nat → List (Nat × Nat)) (i : Nat) : List (Nat × Nat) :=
  if h : i < n then (if h2 : i < ek K (n - i) i then R i (ek K (n - i) i) ++ scE n K R (ek K (n - i) i) else scE n K R (i + 1)) else []
termination_by n - i
def clE (n : Nat) (KC : Nat → Nat → Bool) (R : Nat → Nat → List (Nat × Nat)) (i : Nat) : List (Nat × Nat) :=
  if h : i < n then (if i < ek (KC i) (n - i) i then R i (ek (KC i) (n - i) i) else []) ++ clE n KC R (max i (ek (KC i) (n - i) i) + 1) else []
termination_by n - i
theorem scE_end {n : Nat} {K : Nat → Bool} {R : Nat → Nat → List (Nat × Nat)} {i : Nat} (h : n ≤ i) : scE n K R i = [] := by rw [scE, dif_neg (by omega)]
theorem clE_end {n : Nat} {KC : Nat → Nat → Bool} {R : Nat → Nat → List (Nat × Nat)} {i : Nat} (h : n ≤ i) : clE n KC R i = [] := by rw [clE, dif_neg (by omega)]
theorem ek_stop (K : Nat → Bool) : ∀ (d i : Nat), ek K d i < i + d → K (ek K d i) = false := by
  intro d
  induction d with
  | zero => intro i h; rw [ek] at h; omega
  | succ d ih =>
    intro i h
    rw [ek] at h ⊢
    by_cases c : K i = true
    · rw [if_pos c] at h ⊢; exact ih (i + 1) (by omega)
    · rw [if_neg c]; simpa using c
theorem ek_in (K : Nat → Bool) : ∀ (d i j : Nat), i ≤ j → j < ek K d i → K j = true := by
  intro d
  induction d with
  | zero => intro i j h1 h2; rw [ek] at h2; omega
  | succ d ih =>
    intro i j h1 h2
    rw [ek] at h2
    by_cases c : K i = true
    · rw [if_pos c] at h2
      by_cases e : j = i
      · rw [e]; exact c
      · exact ih (i + 1) j (by omega) h2
    · rw [if_neg c] at h2; omega
theorem ek_none {K : Nat → Bool} {d i : Nat} (h : K i = false) : ek K d i = i := by
  cases d with
  | zero => rfl
  | succ d => rw [ek, if_neg (by rw [h]; decide)]
theorem ek_uniq {K : Nat → Bool} : ∀ (d i e : Nat), i ≤ e → e ≤ i + d → (∀ j, i ≤ j → j < e → K j = true) → (e < i + d → K e = false) → ek K d i = e := by
  intro d
  induction d with
  | zero => intro i e h1 h2 _ _; rw [ek]; omega
  | succ d ih =>
    intro i e h1 h2 h3 h4
    rw [ek]
    by_cases c : i = e
    · subst c
      rw [if_neg (by rw [h4 (by omega)]; decide)]
    · rw [if_pos (h3 i (by omega) (by omega))]
      exact ih (i + 1) e (by omega) (by omega) (fun j g1 g2 => h3 j (by omega) g2) (fun g => h4 (by omega))
theorem scE_skip {n : Nat} {K : Nat → Bool} {R : Nat → Nat → List (Nat × Nat)} {i : Nat} (h : K i = false) : scE n K R i = scE n K R (i + 1) := by
  by_cases c : i < n
  · rw [scE, dif_pos c, dif_neg (by rw [ek_none h]; omega)]
  · rw [scE_end (by omega), scE_end (by omega)]
theorem scE_step {n : Nat} {K : Nat → Bool} {R : Nat → Nat → List (Nat × Nat)} {i : Nat} (h : i < n) (h2 : i < ek K (n - i) i) : scE n K R i = R i (ek K (n - i) i) ++ scE n K R (ek K (n - i) i) := by rw [scE, dif_pos h, dif_pos h2]
theorem clE_step {n : Nat} {KC : Nat → Nat → Bool} {R : Nat → Nat → List (Nat × Nat)} {i : Nat} (h : i < n) : clE n KC R i = (if i < ek (KC i) (n - i) i then R i (ek (KC i) (n - i) i) else []) ++ clE n KC R (max i (ek (KC i) (n - i) i) + 1) := by rw [clE, dif_pos h]
theorem scE_after {n : Nat} {K : Nat → Bool} {R : Nat → Nat → List (Nat × Nat)} {i : Nat} (h : i ≤ n) : scE n K R (ek K (n - i) i) = scE n K R (ek K (n - i) i + 1) := by
  have h1 := ek_ge K (n - i) i
  by_cases c : ek K (n - i) i < n
  · exact scE_skip (ek_stop K _ _ (by omega))
  · rw [scE_end (by omega), scE_end (by omega)]
theorem cl_sc {n : Nat} {K : Nat → Bool} {R : Nat → Nat → List (Nat × Nat)} : ∀ (d i : Nat), n ≤ i + d → clE n (fun _ => K) R i = scE n K R i := by
  intro d
  induction d with
  | zero => intro i h; rw [clE_end (by omega), scE_end (by omega)]
  | succ d ih =>
    intro i h
    by_cases c : i < n
    · have h1 := ek_ge K (n - i) i
      rw [clE_step c]
      by_cases e : i < ek K (n - i) i
      · rw [if_pos e, scE_step c e, scE_after (by omega), Nat.max_eq_right (by omega), ih _ (by omega)]
      · have e2 : ek K (n - i) i = i := by omega
        rw [if_neg e, e2, Nat.max_self, ih _ (by omega), List.nil_append]
        exact (scE_skip (by have := ek_stop K (n - i) i (by omega); rwa [e2] at this)).symm
    · rw [clE_end (by omega), scE_end (by omega)]
/-! links -/
def hasA (b : Nat → Nat) : Nat → Nat → Bool
  | 0, _ => false
  | d + 1, i => b i == 64 || hasA b d (i + 1)
def webA (b : Nat → Nat) (i : Nat) : Bool := b i == 119 && b (i + 1) == 119 && b (i + 2) == 119 && b (i + 3) == 46
def LINK (b : Nat → Nat) (i e : Nat) : Bool := (decide (i + 4 < e) && webA b i) || hasA b (e - 1 - (i + 1)) (i + 1)
def LKb (n : Nat) (b : Nat → Nat) (i : Nat) : Bool := (decide (i = 0) || isBl (b (i - 1))) && LINK b i (ek (KS b) (n - i) i)
def oneE : Nat → Nat → List (Nat × Nat) := fun p e => [(p, e)]
theorem KW_KS {n : Nat} {b : Nat → Nat} {i : Nat} (h : KW n b i = true) : KS b i = true := by
  unfold KS
  cases c : isBl (b i) with
  | false => rfl
  | true =>
    exfalso
    rcases isBl_iff.mp c with e | e | e <;> · unfold KW at h; rw [e] at h; simp [isLe, isFi] at h
theorem KS_bl {b : Nat → Nat} {i : Nat} (h : KS b i = true) : isBl (b i) = false := by unfold KS at h; simpa using h
theorem KS_nb {b : Nat → Nat} {i : Nat} (h : KS b i = false) : isBl (b i) = true := by unfold KS at h; simpa using h
theorem LINK_no {b : Nat → Nat} {i : Nat} : LINK b i i = false := by
  unfold LINK
  rw [show i - 1 - (i + 1) = 0 by omega, decide_eq_false (by omega)]; rfl
def KC (lk : Bool) (n : Nat) (b : Nat → Nat) (way : Nat) : Nat → Nat → Bool := fun i => if way = 2 ∧ lk = true ∧ LKb n b i = true then KS b else KK n b way
def RM (n : Nat) (b : Nat → Nat) : Nat → Nat → List (Nat × Nat) := fun p e => if LINK b p e = true then [(p, e)] else scE e (KW n b) oneE p
theorem KC_t {n : Nat} {b : Nat → Nat} {i : Nat} (h : LKb n b i = true) : KC true n b 2 i = KS b := by unfold KC; rw [if_pos ⟨rfl, rfl, h⟩]
theorem KC_f {n : Nat} {b : Nat → Nat} {i : Nat} (h : LKb n b i = false) : KC true n b 2 i = KW n b := by
  unfold KC; rw [if_neg (by rw [h]; simp)]; rfl
theorem KW_out {n : Nat} {b : Nat → Nat} {e : Nat} (h : KS b e = false) : KW n b e = false := by
  cases c : KW n b e with
  | false => rfl
  | true => rw [KW_KS c] at h; cases h
theorem ekW {n : Nat} {b : Nat → Nat} {j e : Nat} (hj : j ≤ e) (he : e ≤ n) (h : e < n → KS b e = false) : ek (KW n b) (n - j) j = ek (KW n b) (e - j) j := by
  have g := ek_ge (KW n b) (e - j) j
  refine ek_uniq (n - j) j (ek (KW n b) (e - j) j) g.1 (by omega) (fun z h1 h2 => ek_in (KW n b) (e - j) j z h1 h2) (fun q => ?_)
  by_cases c : ek (KW n b) (e - j) j < e
  · exact ek_stop (KW n b) (e - j) j (by omega)
  · rw [show ek (KW n b) (e - j) j = e by omega]
    exact KW_out (h (by omega))
theorem cl_links {n : Nat} {b : Nat → Nat} : ∀ (d : Nat), (∀ i, n ≤ i + d → (i = 0 ∨ n < i ∨ KS b (i - 1) = false) → clE n (KC true n b 2) oneE i = scE n (KS b) (RM n b) i) ∧ ∀ j e, n ≤ j + d → j ≤ e → e ≤ n → (∀ z, j ≤ z → z < e → KS b z = true) → (e < n → KS b e = false) → (j < n → LKb n b j = false) → clE n (KC true n b 2) oneE j = scE e (KW n b) oneE j ++ scE n (KS b) (RM n b) e := by
  intro d
  induction d with
  | zero =>
    refine ⟨fun i h _ => by rw [clE_end (by omega), scE_end (by omega)], fun j e h1 h2 h3 _ _ _ => ?_⟩
    rw [clE_end (by omega), scE_end (by omega), scE_end (by omega)]; rfl
  | succ d ih =>
    have hB : ∀ j e, n ≤ j + (d + 1) → j ≤ e → e ≤ n → (∀ z, j ≤ z → z < e → KS b z = true) → (e < n → KS b e = false) → (j < n → LKb n b j = false) → clE n (KC true n b 2) oneE j = scE e (KW n b) oneE j ++ scE n (KS b) (RM n b) e := by
      intro j e h1 h2 h3 h4 h5 h6
      by_cases c : j < n
      · have hk := KC_f (h6 c)
        have g := ek_ge (KW n b) (e - j) j
        rw [clE_step c, hk, ekW h2 h3 h5]
        -- the next one, within the row or behind it
        have next : ∀ q, j ≤ q → q ≤ e → (q < e → KW n b q = false) → clE n (KC true n b 2) oneE (q + 1) = scE e (KW n b) oneE q ++ scE n (KS b) (RM n b) e := by
          intro q g1 g2 g3
          by_cases c2 : q < e
          · rw [scE_skip (g3 c2)]
            refine ih.2 (q + 1) e (by omega) (by omega) h3 (fun z w1 w2 => h4 z (by omega) w2) h5 (fun _ => ?_)
            unfold LKb
            rw [decide_eq_false (by omega), show q + 1 - 1 = q from rfl, KS_bl (h4 q g1 c2)]; rfl
          · have e1 : q = e := by omega
            subst e1
            rw [scE_end (Nat.le_refl q), List.nil_append]
            by_cases c3 : q < n
            · rw [scE_skip (h5 c3)]
              exact ih.1 (q + 1) (by omega) (Or.inr (Or.inr (h5 c3)))
            · rw [clE_end (by omega), scE_end (by omega)]
        by_cases c1 : j < ek (KW n b) (e - j) j
        · rw [if_pos c1, Nat.max_eq_right (by omega), next _ (by omega) (by omega) (fun q => ek_stop (KW n b) (e - j) j (by omega)), scE_step (show j < e by omega) c1, List.append_assoc]
        · have e1 : ek (KW n b) (e - j) j = j := by omega
          rw [if_neg c1, e1, Nat.max_self, List.nil_append, next j (by omega) h2 (fun q => by have := ek_stop (KW n b) (e - j) j (by omega); rwa [e1] at this)]
      · rw [clE_end (by omega), scE_end (by omega), scE_end (by omega)]; rfl
    refine ⟨fun i h hb => ?_, hB⟩
    by_cases c : i < n
    · have g := ek_ge (KS b) (n - i) i
      have hpre : (decide (i = 0) || isBl (b (i - 1))) = true := by
        rcases hb with e | e | e
        · simp [e]
        · omega
        · simp [KS_nb e]
      cases hk : LKb n b i with
      | true =>
        have hl : LINK b i (ek (KS b) (n - i) i) = true := by unfold LKb at hk; rw [hpre] at hk; simpa using hk
        have c1 : i < ek (KS b) (n - i) i := by
          by_cases c1 : i < ek (KS b) (n - i) i
          · exact c1
          · rw [show ek (KS b) (n - i) i = i by omega, LINK_no] at hl; cases hl
        rw [clE_step c, KC_t hk, if_pos c1, Nat.max_eq_right (by omega), scE_step c c1, scE_after (by omega)]
        have : RM n b i (ek (KS b) (n - i) i) = oneE i (ek (KS b) (n - i) i) := by unfold RM; rw [if_pos hl]; rfl
        rw [this]
        congr 1
        refine ih.1 _ (by omega) ?_
        by_cases c2 : ek (KS b) (n - i) i < n
        · exact Or.inr (Or.inr (ek_stop (KS b) (n - i) i (by omega)))
        · exact Or.inr (Or.inl (by omega))
      | false =>
        have hl : LINK b i (ek (KS b) (n - i) i) = false := by unfold LKb at hk; rw [hpre] at hk; simpa using hk
        have hh := hB i (ek (KS b) (n - i) i) h g.1 (by omega) (fun z w1 w2 => ek_in (KS b) (n - i) i z w1 w2) (fun q => ek_stop (KS b) (n - i) i (by omega)) (fun _ => hk)
        rw [hh]
        by_cases c1 : i < ek (KS b) (n - i) i
        · rw [scE_step c c1]
          have : RM n b i (ek (KS b) (n - i) i) = scE (ek (KS b) (n - i) i) (KW n b) oneE i := by unfold RM; rw [if_neg (by rw [hl]; decide)]
          rw [this]
        · have e1 : ek (KS b) (n - i) i = i := by omega
          rw [e1, scE_end (Nat.le_refl i)]; rfl
    · rw [clE_end (by omega), scE_end (by omega)]
