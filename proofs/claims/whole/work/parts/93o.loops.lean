/-! the loops over rows, both sides -/
theorem webX {n i : Nat} {b : Nat → Nat} {M : Mem} (hT : TX n b M) (hi : i + 3 < n) : fX6_isWebAt (nI i) M = some (bz (webA b i), M) := by
  have hn := hT.1
  unfold fX6_isWebAt webA
  simp only [show (1 : Int32) = nI 1 from rfl, show (2 : Int32) = nI 2 from rfl, show (3 : Int32) = nI 3 from rfl, nI_add]
  rw [hT.at (by omega), bI_s, hT.at (by omega), bI_s, hT.at (by omega), bI_s, hT.at (by omega), bI_s]
  have e0 : nI (b i) = 119 ↔ b i = 119 := nI_eq (b := 119) (by have := hT.lt i; omega) (by omega)
  have e1 : nI (b (i + 1)) = 119 ↔ b (i + 1) = 119 := nI_eq (b := 119) (by have := hT.lt (i + 1); omega) (by omega)
  have e2 : nI (b (i + 2)) = 119 ↔ b (i + 2) = 119 := nI_eq (b := 119) (by have := hT.lt (i + 2); omega) (by omega)
  have e3 : nI (b (i + 3)) = 46 ↔ b (i + 3) = 46 := nI_eq (b := 46) (by have := hT.lt (i + 3); omega) (by omega)
  simp only [e0, e1, e2, e3]
  by_cases c0 : b i = 119 <;> by_cases c1 : b (i + 1) = 119 <;> by_cases c2 : b (i + 2) = 119 <;> by_cases c3 : b (i + 3) = 46 <;> simp [c0, c1, c2, c3, bz, zr_] <;> decide
theorem hasX {n e : Nat} {b : Nat → Nat} {M : Mem} (hT : TX n b M) (he : e ≤ n) : ∀ (f j : Nat), j ≤ 302 → e ≤ j + f → 0 < f → fX6_isLinkAt_H50 f (nI e) (nI j) M = some (bz (hasA b (e - 1 - j) j), M) := by
  have hn := hT.1
  intro f
  induction f with
  | zero => intro j q1 q2 q3; omega
  | succ f ih =>
    intro j q1 q2 q3
    rw [fX6_isLinkAt_H50]
    by_cases c : e - 1 ≤ j
    · rw [show e - 1 - j = 0 by omega, if_pos]
      · rfl
      · cases e with
        | zero => exact Int32.le_trans (show nI 0 - 1 ≤ 0 by decide) (nI_pos' (by omega))
        | succ e => rw [pred_nI]; exact nI_le (by omega) (by omega)
    · obtain ⟨e, rfl⟩ : ∃ e1, e = e1 + 1 := ⟨e - 1, by omega⟩
      rw [pred_nI, if_neg (nI_ge (by omega) (by omega)), hT.at (by omega), bI_s, show e + 1 - 1 - j = (e + 1 - 1 - (j + 1)) + 1 by omega, hasA, lt_eq, show (1 : Int32) = nI 1 from rfl, nI_add]
      have e64 : nI (b j) = 64 ↔ b j = 64 := nI_eq (b := 64) (by have := hT.lt j; omega) (by omega)
      by_cases d : b j = 64
      · rw [if_pos (e64.mpr d), d]; rfl
      · rw [if_neg (fun z => d (e64.mp z)), pred_nI.symm, pred_nI, ih (j + 1) (by omega) (by omega) (by omega), show (b j == 64) = false by simpa using d]; rfl
theorem lnkX {n i : Nat} {b : Nat → Nat} {M : Mem} (hT : TX n b M) (hi : i < n) : fX6_isLinkAt (nI i) M = some (bz (LKb n b i), M) := by
  have hn := hT.1
  have g := ek_ge (KS b) (n - i) i
  have h22 : fX6_isLinkAt_L22 (nI i) M = some (bz (LINK b i (ek (KS b) (n - i) i)), M) := by
    unfold fX6_isLinkAt_L22
    rw [end_ok (K := KS b) hn hT.2.1 (by omega) (fun z hz => by rw [← hT.eqf]; exact kind1 hn hT.2.1 hz), bI_s, pk_sub g.1]
    generalize hE : ek (KS b) (n - i) i = e at g ⊢
    have h46 : fX6_isLinkAt_L46 (nI i) (nI e) M = some (bz (hasA b (e - 1 - (i + 1)) (i + 1)), M) := by
      unfold fX6_isLinkAt_L46
      rw [lt_eq, show (1 : Int32) = nI 1 from rfl, nI_add]
      exact hasX hT (by omega) FU (i + 1) (by omega) (by unfold FU; omega) (by unfold FU; omega)
    unfold LINK
    by_cases c : e - i ≤ 4
    · rw [if_pos (show nI (e - i) ≤ 4 from nI_le (b := 4) c (by omega)), h46, decide_eq_false (by omega)]; rfl
    · rw [if_neg (show ¬ nI (e - i) ≤ 4 from nI_ge (a := 4) (by omega) (by omega)), webX hT (by omega), bI_s, h46, decide_eq_true (by omega)]
      cases webA b i <;> rfl
  unfold fX6_isLinkAt LKb
  cases i with
  | zero => rw [if_pos (show nI 0 ≤ 0 by decide), h22]; rfl
  | succ i =>
    rw [if_neg (nI_nle (by omega) (by omega)), pred_nI, hT.at (by omega), bI_s, blX (hT.lt i), bI_s, h22, decide_eq_false (by omega), show i + 1 - 1 = i from rfl]
    cases isBl (b i) <;> rfl
section
variable {sh : Bool} {lim : Nat} {rule : Bool} {n w st : Nat} {len cst : Nat → Nat} {L : Nat → Nat → Nat} {b : Nat → Nat} {lk : Bool}
theorem clX {a m way : Nat} {x2 x3 : Int32} (hw : way ≤ 8) (hx : way = 5 ∨ way = 6 → x2 = nI a ∧ x3 = nI m ∧ a ≤ m ∧ m ≤ 300) : ∀ (f i : Nat) (σ : TS) (M : Mem), i ≤ n + 1 → n < i + f → 0 < f → PX sh lim rule M → DX n w st len cst L b M → gI M 0 6 = bz lk → RX σ M → OX sh lim rule SX (clE n (KC lk n b way) (rowE n w st len cst L b a m way) i) σ M (fX6_cutRows_H3 f (nI way) x2 x3 (nI i) M) := by
  intro f
  induction f with
  | zero => intro i σ M q1 q2 q3; omega
  | succ f ih =>
    intro i σ M q1 q2 q3 hP hD hL hR
    have hT := hD.tx
    have hn := hT.1
    rw [fX6_cutRows_H3, fX5_size, bI_s, hT.2.1]
    by_cases c : n ≤ i
    · rw [if_pos (nI_le c (by omega)), clE_end c]
      exact OX.nil hR
    · rw [if_neg (nI_ge (by omega) (by omega)), over_ok hR, bI_s]
      cases o : σ.2.1 with
      | true => rw [if_neg (show ¬ bz true = 0 from n10)]; exact OX.over o hR
      | false =>
        rw [if_pos (show bz false = 0 from rfl), clE_step (by omega)]
        have main : ∀ y : Int32, fX6_endOfKind y (nI i) M = some (nI (ek (KC lk n b way i) (n - i) i), M) → OX sh lim rule SX ((if i < ek (KC lk n b way i) (n - i) i then rowE n w st len cst L b a m way i (ek (KC lk n b way i) (n - i) i) else []) ++ clE n (KC lk n b way) (rowE n w st len cst L b a m way) (max i (ek (KC lk n b way i) (n - i) i) + 1)) σ M (fX6_cutRows_L64 (fX6_cutRows_H3 f) (nI way) x2 x3 (nI i) y M) := by
          intro y hy
          have g := ek_ge (KC lk n b way i) (n - i) i
          unfold fX6_cutRows_L64 fX6_cutRows_L89
          rw [hy, bI_s]
          generalize ek (KC lk n b way i) (n - i) i = e at g ⊢
          simp only [lt_eq, max_ok (show i < 2 ^ 31 by omega) (show e < 2 ^ 31 by omega), show (1 : Int32) = nI 1 from rfl, nI_add]
          by_cases d : e ≤ i
          · rw [if_pos (nI_le d (by omega)), if_neg (by omega), List.nil_append]
            exact ih _ σ M (by omega) (by omega) (by omega) hP hD hL hR
          · rw [if_neg (nI_ge (by omega) (by omega)), if_pos (by omega)]
            exact (rowX (by omega) (by omega) hw hx hP hD hR).bind (fun M1 r1 s1 => ih _ _ M1 (by omega) (by omega) (by omega) (hP.moveX s1) (hD.moveX s1) ((s1.1 0 6 rfl).trans hL) r1)
        have plain : (way = 2 ∧ lk = true ∧ LKb n b i = true → False) → fX6_endOfKind (nI way) (nI i) M = some (nI (ek (KC lk n b way i) (n - i) i), M) := by
          intro hh
          have : KC lk n b way i = KK n b way := by unfold KC; rw [if_neg hh]
          rw [this]
          exact end_ok hn hT.2.1 (by omega) (fun z hz => kindX hT hz hw)
        have e2 : nI way = 2 ↔ way = 2 := nI_eq (b := 2) (by omega) (by omega)
        unfold fX6_cutRows_L50 fX6_cutRows_L51
        simp only [n10, if_true, if_false]
        by_cases c2 : way = 2
        · rw [if_pos (e2.mpr c2), hL]
          cases lk with
          | false => rw [if_pos (show bz false = 0 from rfl)]; exact main _ (plain (fun q => absurd q.2.1 (by decide)))
          | true =>
            rw [if_neg (show ¬ bz true = 0 from n10), lnkX hT (by omega), bI_s]
            cases hk : LKb n b i with
            | false => rw [if_pos (show bz false = 0 from rfl)]; exact main _ (plain (fun q => absurd (hk.symm.trans q.2.2) (by decide)))
            | true =>
              rw [if_neg (show ¬ bz true = 0 from n10)]
              refine main 1 ?_
              have : KC true n b way i = KS b := by unfold KC; rw [if_pos ⟨c2, rfl, hk⟩]
              rw [this]
              exact end_ok hn hT.2.1 (by omega) (fun z hz => by rw [← hT.eqf]; exact kind1 hn hT.2.1 hz)
        · rw [if_neg (fun z => c2 (e2.mp z))]
          exact main _ (plain (fun q => c2 q.1))
/-! the reference -/
theorem lnkY {i e : Nat} {M : Mem} (hT : TY n b M) (hi : i < e) (he : e ≤ n) : ∀ (f j : Nat) (c : Bool), j ≤ 302 → e ≤ j + f → 0 < f → fX7_isLink_H7 f (nI i) (nI e) (bz c) (nI j) M = some (bz (c || hasA b (e - 1 - j) j || (decide (i + 4 < e) && webA b i)), M) := by
  obtain ⟨t1, t2, t3, t4⟩ := hT
  intro f
  induction f with
  | zero => intro j c q1 q2 q3; omega
  | succ f ih =>
    intro j c q1 q2 q3
    rw [fX7_isLink_H7]
    obtain ⟨e, rfl⟩ : ∃ e1, e = e1 + 1 := ⟨e - 1, by omega⟩
    rw [pred_nI]
    by_cases d : e ≤ j
    · rw [if_pos (nI_le d (by omega)), show e + 1 - 1 - j = 0 by omega, hasA]
      cases c with
      | true => rw [if_neg (show ¬ bz true = 0 from n10)]; rfl
      | false =>
        rw [if_pos (show bz false = 0 from rfl), pk_sub (by omega)]
        by_cases g : e + 1 - i ≤ 4
        · rw [if_pos (show nI (e + 1 - i) ≤ 4 from nI_le (b := 4) g (by omega)), decide_eq_false (by omega)]; rfl
        · rw [if_neg (show ¬ nI (e + 1 - i) ≤ 4 from nI_ge (a := 4) (by omega) (by omega)), decide_eq_true (by omega)]
          simp only [show (1 : Int32) = nI 1 from rfl, show (2 : Int32) = nI 2 from rfl, show (3 : Int32) = nI 3 from rfl, nI_add]
          rw [iald_n (show i < 300 by omega) (by decide), t4 i (by omega), iald_n (show i + 1 < 300 by omega) (by decide), t4 (i + 1) (by omega), iald_n (show i + 2 < 300 by omega) (by decide), t4 (i + 2) (by omega), iald_n (show i + 3 < 300 by omega) (by decide), t4 (i + 3) (by omega)]
          have e0 : nI (b i) = 119 ↔ b i = 119 := nI_eq (b := 119) (by have := t3 i; omega) (by omega)
          have e1 : nI (b (i + 1)) = 119 ↔ b (i + 1) = 119 := nI_eq (b := 119) (by have := t3 (i + 1); omega) (by omega)
          have e2 : nI (b (i + 2)) = 119 ↔ b (i + 2) = 119 := nI_eq (b := 119) (by have := t3 (i + 2); omega) (by omega)
          have e3 : nI (b (i + 3)) = 46 ↔ b (i + 3) = 46 := nI_eq (b := 46) (by have := t3 (i + 3); omega) (by omega)
          simp only [e0, e1, e2, e3]
          unfold webA fX7_isLink_L102
          by_cases c0 : b i = 119 <;> by_cases c1 : b (i + 1) = 119 <;> by_cases c2 : b (i + 2) = 119 <;> by_cases c3 : b (i + 3) = 46 <;> simp [c0, c1, c2, c3, bz, zr_]
    · rw [if_neg (nI_ge (by omega) (by omega)), iald_n (show j < 300 by omega) (by decide), t4 j (by omega), show e + 1 - 1 - j = (e + 1 - 1 - (j + 1)) + 1 by omega, hasA]
      have e64 : nI (b j) = 64 ↔ b j = 64 := nI_eq (b := 64) (by have := t3 j; omega) (by omega)
      unfold fX7_isLink_L33
      simp only [lt_eq]
      rw [show nI j + 1 = nI (j + 1) from nI_add j 1]
      by_cases g : b j = 64
      · rw [if_pos (e64.mpr g), g, show bz c ||| 1 = bz true by cases c <;> rfl, ih (j + 1) true (by omega) (by omega) (by omega)]
        cases c <;> rfl
      · rw [if_neg (fun z => g (e64.mp z)), show bz c ||| 0 = bz c by cases c <;> rfl, ih (j + 1) c (by omega) (by omega) (by omega), show (b j == 64) = false by simpa using g]
        rfl
theorem link_ok {i e : Nat} {M : Mem} (hT : TY n b M) (hi : i < e) (he : e ≤ n) : fX7_isLink (nI i) (nI e) M = some (bz (LINK b i e), M) := by
  have hn := hT.1
  unfold fX7_isLink LINK
  rw [lt_eq, show (1 : Int32) = nI 1 from rfl, nI_add, show (0 : Int32) = bz false from rfl, lnkY hT hi he FU (i + 1) false (by omega) (by unfold FU; omega) (by unfold FU; omega), Bool.false_or, Bool.or_comm]
theorem wrunY {en i : Nat} {M : Mem} (k2 : Int32 → Int32 → Mem → Option Mem) (hT : TY n b M) (hen : en ≤ n) : ∀ (f z : Nat), z ≤ en → en < z + f → fX7_wordsWithin_H10 k2 f (nI en) (nI i) (nI z) M = fX7_wordsWithin_L31 k2 (nI en) (nI i) (nI (ek (KW n b) (en - z) z)) M := by
  have hn := hT.1
  intro f
  induction f with
  | zero => intro z q1 q2; omega
  | succ f ih =>
    intro z q1 q2
    rw [fX7_wordsWithin_H10]
    by_cases c : en ≤ z
    · rw [if_pos (nI_le c (by omega)), show en - z = 0 by omega]; rfl
    · rw [if_neg (nI_ge (by omega) (by omega)), wY hn hT.2.1 hT.2.2.1 hT.2.2.2 (by omega), bI_s, show en - z = (en - (z + 1)) + 1 by omega, ek, lt_eq, show (1 : Int32) = nI 1 from rfl, nI_add, ih (z + 1) (by omega) (by omega)]
      cases KW n b z
      · rfl
      · rfl
theorem wwY {en : Nat} (hen : en ≤ n) : ∀ (f i : Nat) (σ : TS) (M : Mem), i ≤ en → en < i + f → PY sh lim rule M → TY n b M → RY σ M → OY n sh lim rule SG (scE en (KW n b) oneE i) σ M (fX7_wordsWithin_H2 f (nI en) (nI i) M) := by
  intro f
  induction f with
  | zero => intro i σ M q1 q2; omega
  | succ f ih =>
    intro i σ M q1 q2 hP hT hR
    have hn := hT.1
    rw [fX7_wordsWithin_H2]
    by_cases c : en ≤ i
    · rw [if_pos (nI_le c (by omega)), scE_end c]
      exact OY.nil hR
    · have g := ek_ge (KW n b) (en - i) i
      rw [if_neg (nI_ge (by omega) (by omega)), wrunY _ hT hen FU i (by omega) (by unfold FU; omega)]
      unfold fX7_wordsWithin_L31 fX7_wordsWithin_L44 fX7_wordsWithin_L58
      by_cases d : i < ek (KW n b) (en - i) i
      · rw [scE_step (by omega) d]
        generalize ek (KW n b) (en - i) i = e at g d ⊢
        simp only [if_neg (nI_ge d (show e < 2 ^ 31 by omega))]
        exact (OY.one (p := i) (e := e) (by omega) (by omega) hn hP hR).bind (fun M1 r1 s1 => ih e _ M1 (by omega) (by omega) (hP.move s1) (hT.move s1) r1)
      · have e1 : ek (KW n b) (en - i) i = i := by omega
        have e2 := ek_stop (KW n b) (en - i) i (by omega)
        rw [e1] at e2 ⊢
        rw [if_pos (nI_le (Nat.le_refl i) (by omega)), if_pos (nI_le (Nat.le_refl i) (by omega)), scE_skip e2, show nI i + 1 = nI (i + 1) from nI_add i 1]
        exact ih (i + 1) σ M (by omega) (by omega) hP hT hR
noncomputable def RW (lk : Bool) (n w st : Nat) (len cst : Nat → Nat) (L : Nat → Nat → Nat) (b : Nat → Nat) (a m way : Nat) : Nat → Nat → List (Nat × Nat) := if way = 2 ∧ lk = true then RM n b else rowE n w st len cst L b a m way
theorem rwY {a m way pl en : Nat} {x4 x5 : Int32} {σ : TS} {M : Mem} (hen : en ≤ n) (hpl : pl < en) (hw : way ≤ 8) (hlk : gI M 50 9 = bz lk) (hW : gI M 50 42 = nI way) (hx : way = 5 ∨ way = 6 → x4 = nI a ∧ x5 = nI m ∧ a ≤ m ∧ m ≤ 300) (hP : PY sh lim rule M) (hD : DY n w st len cst L b M) (hR : RY σ M) : OY n sh lim rule SY (RW lk n w st len cst L b a m way pl en) σ M (fX7_row (nI pl) (nI en) x4 x5 M) := by
  have hn := hD.1
  unfold RW
  by_cases c : way = 2 ∧ lk = true
  · obtain ⟨rfl, rfl⟩ := id c
    rw [if_pos c]
    unfold fX7_row fX7_row_L73 RM
    rw [hW, if_pos (show nI 2 = 2 from rfl), hlk, if_neg (show ¬ bz true = 0 from n10), link_ok hD.ty hpl hen, bI_s]
    cases g : LINK b pl en with
    | true =>
      rw [if_neg (show ¬ bz true = 0 from n10), if_pos rfl]
      exact (OY.one (by omega) hen hn hP hR).up.ret
    | false =>
      rw [if_pos (show bz false = 0 from rfl), if_neg (by decide)]
      unfold fX7_wordsWithin
      exact (wwY hen FU pl σ M (by omega) (by unfold FU; omega) hP hD.ty hR).up.ret
  · rw [if_neg c]
    exact rowY hen hpl hw (fun e => by rw [hlk]; cases lk with | false => rfl | true => exact absurd ⟨e, rfl⟩ c) hW hx hP hD hR
def finY (M : Mem) : Option (Int32 × Mem) := if gI M 50 13 = 0 then fX7_tokens_L183 (gI M 50 12) M else fX7_tokens_L183 0 M
def OZ (n : Nat) (sh : Bool) (lim : Nat) (rule : Bool) (E : List (Nat × Nat)) (σ : TS) (M : Mem) (r : Option (Int32 × Mem)) : Prop := ∃ M1, r = finY M1 ∧ RY (addsA sh lim rule E σ) M1 ∧ SameBut SY M M1 ∧ ∀ q ∈ E, q.1 ≤ q.2 ∧ q.2 ≤ n
theorem OZ.bind {E E2 : List (Nat × Nat)} {σ : TS} {M : Mem} {r : Option Mem} {k : Mem → Option (Int32 × Mem)} (h : OY n sh lim rule SY E σ M r) (g : ∀ M1, RY (addsA sh lim rule E σ) M1 → SameBut SY M M1 → OZ n sh lim rule E2 (addsA sh lim rule E σ) M1 (k M1)) : OZ n sh lim rule (E ++ E2) σ M (bV_ r k) := by
  obtain ⟨M1, rfl, h2, h3, h4⟩ := h
  obtain ⟨M2, g1, g2, g3, g4⟩ := g M1 h2 h3
  exact ⟨M2, by rw [bV_s]; exact g1, by rw [addsA_app]; exact g2, h3.trans g3, fun q hq => (List.mem_append.mp hq).elim (h4 q) (g4 q)⟩
theorem krunY {way i : Nat} {x1 x2 x3 : Int32} {M : Mem} (k73 : Int32 → Int32 → Int32 → Int32 → Mem → Option (Int32 × Mem)) (hT : TY n b M) (hw : way ≤ 8) (hW : gI M 50 42 = nI way) (hlk : gI M 50 9 = bz lk) : ∀ (f z : Nat), z ≤ n → n < z + f → fX7_tokens_H105 k73 f x1 x2 x3 (nI i) (nI z) M = fX7_tokens_L129 k73 x1 x2 x3 (nI i) (nI (ek (KM lk n b way) (n - z) z)) M := by
  have hn := hT.1
  intro f
  induction f with
  | zero => intro z q1 q2; omega
  | succ f ih =>
    intro z q1 q2
    rw [fX7_tokens_H105, hT.2.1]
    by_cases c : n ≤ z
    · rw [if_pos (nI_le c (by omega)), show n - z = 0 by omega]; rfl
    · rw [if_neg (nI_ge (by omega) (by omega)), kindY hT (by omega) hw hW hlk, bI_s, show n - z = (n - (z + 1)) + 1 by omega, ek, lt_eq, show (1 : Int32) = nI 1 from rfl, nI_add, ih (z + 1) (by omega) (by omega)]
      cases KM lk n b way z
      · rfl
      · rfl
theorem scY {a m way : Nat} {x2 x3 : Int32} (hw : way ≤ 8) (hw3 : way ≠ 3) (hx : way = 5 ∨ way = 6 → x2 = nI a ∧ x3 = nI m ∧ a ≤ m ∧ m ≤ 300) : ∀ (f i : Nat) (σ : TS) (M : Mem), i ≤ n → n < i + f → PY sh lim rule M → DY n w st len cst L b M → gI M 50 9 = bz lk → gI M 50 42 = nI way → RY σ M → OZ n sh lim rule (scE n (KM lk n b way) (RW lk n w st len cst L b a m way) i) σ M (fX7_tokens_H73 f (nI way) x2 x3 (nI i) M) := by
  intro f
  induction f with
  | zero => intro i σ M q1 q2; omega
  | succ f ih =>
    intro i σ M q1 q2 hP hD hL hW hR
    have hT := hD.ty
    have hn := hT.1
    rw [fX7_tokens_H73, hT.2.1]
    by_cases c : n ≤ i
    · rw [if_pos (nI_le c (by omega)), scE_end c]
      exact ⟨M, rfl, hR, SameBut.refl, fun q hq => absurd hq (by simp)⟩
    · have g := ek_ge (KM lk n b way) (n - i) i
      rw [if_neg (nI_ge (by omega) (by omega)), if_neg (show ¬ nI way = 3 from fun z => hw3 ((nI_eq (b := 3) (by omega) (by omega)).mp z)), krunY _ hT hw hW hL FU i (by omega) (by unfold FU; omega)]
      unfold fX7_tokens_L129 fX7_tokens_L146 fX7_tokens_L162
      by_cases d : i < ek (KM lk n b way) (n - i) i
      · rw [scE_step (by omega) d]
        generalize ek (KM lk n b way) (n - i) i = e at g d ⊢
        simp only [if_neg (nI_ge d (show e < 2 ^ 31 by omega))]
        exact OZ.bind (rwY (by omega) d hw hL hW hx hP hD hR) (fun M1 r1 s1 => ih e _ M1 (by omega) (by omega) (hP.moveY s1) (hD.moveY s1) ((s1.1 50 9 rfl).trans hL) ((s1.1 50 42 rfl).trans hW) r1)
      · have e1 : ek (KM lk n b way) (n - i) i = i := by omega
        have e2 := ek_stop (KM lk n b way) (n - i) i (by omega)
        rw [e1] at e2 ⊢
        rw [if_pos (nI_le (Nat.le_refl i) (by omega)), if_pos (nI_le (Nat.le_refl i) (by omega)), scE_skip e2, show nI i + 1 = nI (i + 1) from nI_add i 1]
        exact ih (i + 1) σ M (by omega) (by omega) hP hD hL hW hR
end
