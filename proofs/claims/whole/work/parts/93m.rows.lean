/-! pieces, pairs, and the row of each way -/
noncomputable def Qd (P : Prop) : Bool := @decide P (Classical.propDecidable P)
theorem Qd_t {P : Prop} : Qd P = true ↔ P := by unfold Qd; exact @decide_eq_true_iff P (Classical.propDecidable P)
theorem dz_Q (P : Prop) : dz P = bz (Qd P) := by
  by_cases h : P
  · rw [dz_t h, Qd_t.mpr h]; rfl
  · rw [dz_f h, show Qd P = false by (cases c : Qd P with | false => rfl | true => exact absurd (Qd_t.mp c) h)]; rfl
section
variable {sh : Bool} {lim : Nat} {rule : Bool} {n w st : Nat} {len cst : Nat → Nat} {L : Nat → Nat → Nat} {b : Nat → Nat}
noncomputable def Fof (n w st : Nat) (len cst : Nat → Nat) (L : Nat → Nat → Nat) (b : Nat → Nat) (pl en : Nat) : Nat → Nat := Classical.epsilon (fun F => ∃ S P, Solved n w st len cst L b pl en S P F)
theorem Fof_eq {pl en : Nat} {S P F : Nat → Nat} (hl : ∀ k, k < w → 1 ≤ len k) (h : Solved n w st len cst L b pl en S P F) (j : Nat) (h1 : pl ≤ j) (h2 : j < en) : Fof n w st len cst L b pl en j = F j := by
  obtain ⟨S1, P1, g⟩ := Classical.epsilon_spec (p := fun F => ∃ S P, Solved n w st len cst L b pl en S P F) ⟨F, S, P, h⟩
  exact ((Solved.uniq hl g h j h1 (by omega)).2.2 h2)
noncomputable def Qof (n w st : Nat) (len cst : Nat → Nat) (L : Nat → Nat → Nat) (b : Nat → Nat) (pl en : Nat) : Nat → Bool := fun j => Qd (Fof n w st len cst L b pl en j = 1 ∧ ¬ ∃ q, q < w ∧ matW len L b en q j ∧ len q = 1)
def nxE (F : Nat → Nat) (Q : Nat → Bool) (en i : Nat) : Nat := if Q i = true then ek Q (en - (i + 1)) (i + 1) else i + F i
def pcE (F : Nat → Nat) (Q : Nat → Bool) (en : Nat) : Nat → Nat → List (Nat × Nat)
  | 0, _ => []
  | d + 1, i => if en ≤ i then [] else (i, nxE F Q en i) :: pcE F Q en d (nxE F Q en i)
theorem nxE_in {F : Nat → Nat} {Q : Nat → Bool} {en i : Nat} (hi : i < en) (h1 : 1 ≤ F i) (h2 : i + F i ≤ en) : i < nxE F Q en i ∧ nxE F Q en i ≤ en := by
  unfold nxE
  split
  · have := ek_ge Q (en - (i + 1)) (i + 1)
    omega
  · omega
theorem strX {j : Nat} {c : Bool} {M : Mem} (hj : j ≤ 300) (h : gI M 16 j = bz c) : fX1_isStrangeAt (nI j) M = some (bz c, M) := by
  unfold fX1_isStrangeAt
  rw [if_neg (nI_pos (by omega)), if_neg (show ¬ (300 : Int32) < nI j from nI_nlt (a := 300) (by omega) (by omega)), zald_n (show j < 301 by omega) (by decide), h]
  cases c <;> rfl
theorem pieX {j v : Nat} {M : Mem} (hj : j ≤ 300) (h : gI M 15 j = nI v) : fX1_pieceAt (nI j) M = some (nI v, M) := by
  unfold fX1_pieceAt
  rw [if_neg (nI_pos (by omega)), if_neg (show ¬ (300 : Int32) < nI j from nI_nlt (a := 300) (by omega) (by omega)), iald_n (show j < 301 by omega) (by decide), h]
theorem runX {Q : Nat → Bool} {pl en i : Nat} {M : Mem} (k2 : Int32 → Int32 → Mem → Option Mem) (hen : en ≤ 300) (hQ : ∀ j, pl ≤ j → j < en → gI M 16 j = bz (Q j)) : ∀ (f z : Nat), pl ≤ z → z ≤ en → en < z + f → fX6_cutPieces_H23 k2 f (nI en) (nI i) (nI z) M = fX6_cutPieces_L64 k2 (nI en) (nI i) (nI (ek Q (en - z) z)) M := by
  intro f
  induction f with
  | zero => intro z q1 q2 q3; omega
  | succ f ih =>
    intro z q1 q2 q3
    rw [fX6_cutPieces_H23]
    by_cases c : en ≤ z
    · rw [if_pos (nI_le c (by omega)), show en - z = 0 by omega]; rfl
    · rw [if_neg (nI_ge (by omega) (by omega)), strX (by omega) (hQ z q1 (by omega)), bI_s, show en - z = (en - (z + 1)) + 1 by omega, ek, lt_eq, show (1 : Int32) = nI 1 from rfl, nI_add, ih (z + 1) (by omega) (by omega) (by omega)]
      cases Q z
      · rfl
      · rfl
theorem pcX {F : Nat → Nat} {Q : Nat → Bool} {pl en : Nat} (hen : en ≤ 300) (hF : ∀ j, pl ≤ j → j < en → 1 ≤ F j ∧ j + F j ≤ en) : ∀ (f d i : Nat) (σ : TS) (M : Mem), pl ≤ i → i ≤ en → en < i + f → en ≤ i + d → PX sh lim rule M → (∀ j, pl ≤ j → j < en → gI M 15 j = nI (F j) ∧ gI M 16 j = bz (Q j)) → RX σ M → OX sh lim rule SF (pcE F Q en d i) σ M (fX6_cutPieces_H2 f (nI en) (nI i) M) := by
  intro f
  induction f with
  | zero => intro d i σ M q1 q2 q3; omega
  | succ f ih =>
    intro d i σ M q1 q2 q3 q4 hP hA hR
    rw [fX6_cutPieces_H2]
    by_cases c : en ≤ i
    · rw [if_pos (nI_le c (by omega))]
      have : pcE F Q en d i = [] := by
        cases d with
        | zero => rfl
        | succ d => rw [pcE, if_pos c]
      rw [this]
      exact OX.nil hR
    · obtain ⟨d, rfl⟩ : ∃ d1, d = d1 + 1 := ⟨d - 1, by omega⟩
      obtain ⟨f1, f2⟩ := hF i q1 (by omega)
      have hx := nxE_in (Q := Q) (show i < en by omega) f1 f2
      rw [if_neg (nI_ge (by omega) (by omega)), lt_eq, strX (by omega) (hA i q1 (by omega)).2, bI_s, pcE, if_neg c]
      have fin : OX sh lim rule SF ((i, nxE F Q en i) :: pcE F Q en d (nxE F Q en i)) σ M (fX6_cutPieces_L64 (fX6_cutPieces_H2 f) (nI en) (nI i) (nI (nxE F Q en i)) M) := by
        unfold fX6_cutPieces_L64
        exact (OX.one (p := i) (e := nxE F Q en i) (by omega) (by omega) hP hR).bind (fun M1 r1 s1 => ih d (nxE F Q en i) _ M1 (by omega) (by omega) (by omega) (by omega) (hP.move s1) (fun j h1 h2 => ⟨(s1.1 15 j rfl).trans (hA j h1 h2).1, (s1.1 16 j rfl).trans (hA j h1 h2).2⟩) r1)
      cases g : Q i with
      | false =>
        rw [if_pos (show bz false = 0 from rfl), pieX (by omega) (hA i q1 (by omega)).1, bI_s, lt_eq, show (1 : Int32) = nI 1 from rfl, nI_add, nI_add, max_ok (by omega) (by omega), Nat.max_eq_right (by omega)]
        unfold nxE at fin ⊢
        rw [if_neg (show ¬ Q i = true by rw [g]; decide)] at fin ⊢
        exact fin
      | true =>
        rw [if_neg (show ¬ bz true = 0 from n10), show (1 : Int32) = nI 1 from rfl, nI_add, runX (Q := Q) (pl := pl) _ hen (fun j h1 h2 => (hA j h1 h2).2) FU (i + 1) (by omega) (by omega) (by unfold FU; omega)]
        unfold nxE at fin ⊢
        rw [if_pos g] at fin ⊢
        exact fin
theorem strY {en j v : Nat} {M : Mem} (hD : DY n w st len cst L b M) (hen : en ≤ n) (hj : j < en) (h : gI M 92 j = nI v) (hv : v ≤ 300) : fX7_isStrange (nI j) (nI en) M = some (bz (Qd (v = 1 ∧ ¬ ∃ q, q < w ∧ matW len L b en q j ∧ len q = 1)), M) := by
  have hn := hD.1
  unfold fX7_isStrange
  rw [iald_n (show j < 301 by omega) (by decide), h]
  by_cases c : v = 1
  · subst c
    rw [if_pos (show nI 1 = 1 from rfl)]
    unfold fX7_wordAt
    have hw := hD.2.2.1
    obtain ⟨a1, a2⟩ := waY (m := 1) hD hen hj (by omega) FU 0 (by omega) (by unfold FU; omega)
    by_cases e : ∃ q, q < w ∧ matW len L b en q j ∧ len q = 1
    · obtain ⟨q, e1, e2, e3⟩ := id e
      rw [show (1 : Int32) = nI 1 from rfl, show (0 : Int32) = nI 0 from rfl, a1 q (by omega) e1 e2 e3, bI_s, if_neg (fun z => absurd (show nI q < 0 by rw [z]; decide) (nI_pos (by omega))), ← dz_Q, dz_f (fun z => z.2 e)]
      rfl
    · rw [show (1 : Int32) = nI 1 from rfl, show (0 : Int32) = nI 0 from rfl, a2 (fun q _ e1 e2 e3 => e ⟨q, e1, e2, e3⟩), bI_s, if_pos rfl, ← dz_Q, dz_t ⟨rfl, e⟩]
      rfl
  · rw [if_neg (show ¬ nI v = 1 from fun z => c ((nI_eq (b := 1) (by omega) (by omega)).mp z)), ← dz_Q, dz_f (fun z => c z.1)]
    rfl
theorem runY {Q : Nat → Bool} {pl en i : Nat} {M : Mem} (k8 : Int32 → Int32 → Mem → Option Mem) (hen : en ≤ 300) (hQ : ∀ j, pl ≤ j → j < en → fX7_isStrange (nI j) (nI en) M = some (bz (Q j), M)) : ∀ (f z : Nat), pl ≤ z → z ≤ en → en < z + f → fX7_dictionary_H32 k8 f (nI en) (nI i) (nI z) M = fX7_dictionary_L54 k8 (nI en) (nI i) (nI (ek Q (en - z) z)) M := by
  intro f
  induction f with
  | zero => intro z q1 q2 q3; omega
  | succ f ih =>
    intro z q1 q2 q3
    rw [fX7_dictionary_H32]
    by_cases c : en ≤ z
    · rw [if_pos (nI_le c (by omega)), show en - z = 0 by omega]; rfl
    · rw [if_neg (nI_ge (by omega) (by omega)), hQ z q1 (by omega), bI_s, show en - z = (en - (z + 1)) + 1 by omega, ek, lt_eq, show (1 : Int32) = nI 1 from rfl, nI_add, ih (z + 1) (by omega) (by omega) (by omega)]
      cases Q z
      · rfl
      · rfl
theorem DY.moveG {M M1 : Mem} (h : DY n w st len cst L b M) (hs : SameBut SG M M1) : DY n w st len cst L b M1 := h.moveY (sSG hs)
theorem pcY {F : Nat → Nat} {Q : Nat → Bool} {pl en : Nat} (hen : en ≤ n) (hF : ∀ j, pl ≤ j → j < en → 1 ≤ F j ∧ j + F j ≤ en) (hQ : ∀ j, pl ≤ j → j < en → Q j = Qd (F j = 1 ∧ ¬ ∃ q, q < w ∧ matW len L b en q j ∧ len q = 1)) : ∀ (f d i : Nat) (σ : TS) (M : Mem), pl ≤ i → i ≤ en → en < i + f → en ≤ i + d → PY sh lim rule M → DY n w st len cst L b M → (∀ j, pl ≤ j → j < en → gI M 92 j = nI (F j)) → RY σ M → OY n sh lim rule SG (pcE F Q en d i) σ M (fX7_dictionary_H8 f (nI en) (nI i) M) := by
  intro f
  induction f with
  | zero => intro d i σ M q1 q2 q3; omega
  | succ f ih =>
    intro d i σ M q1 q2 q3 q4 hP hD hA hR
    have hn := hD.1
    rw [fX7_dictionary_H8]
    by_cases c : en ≤ i
    · rw [if_pos (nI_le c (by omega))]
      have : pcE F Q en d i = [] := by
        cases d with
        | zero => rfl
        | succ d => rw [pcE, if_pos c]
      rw [this]
      exact OY.nil hR
    · obtain ⟨d, rfl⟩ : ∃ d1, d = d1 + 1 := ⟨d - 1, by omega⟩
      obtain ⟨f1, f2⟩ := hF i q1 (by omega)
      have hx := nxE_in (Q := Q) (show i < en by omega) f1 f2
      have hS : ∀ j, pl ≤ j → j < en → fX7_isStrange (nI j) (nI en) M = some (bz (Q j), M) := fun j h1 h2 => by
        rw [strY hD hen h2 (hA j h1 h2) (by have := hF j h1 h2; omega), hQ j h1 h2]
      rw [if_neg (nI_ge (by omega) (by omega)), iald_n (show i < 301 by omega) (by decide), hA i q1 (by omega), lt_eq, nI_add, hS i q1 (by omega), bI_s, pcE, if_neg c]
      have fin : OY n sh lim rule SG ((i, nxE F Q en i) :: pcE F Q en d (nxE F Q en i)) σ M (fX7_dictionary_L54 (fX7_dictionary_H8 f) (nI en) (nI i) (nI (nxE F Q en i)) M) := by
        unfold fX7_dictionary_L54
        exact (OY.one (p := i) (e := nxE F Q en i) (by omega) (by omega) hn hP hR).bind (fun M1 r1 s1 => ih d (nxE F Q en i) _ M1 (by omega) (by omega) (by omega) (by omega) (hP.move s1) (hD.moveG s1) (fun j h1 h2 => (s1.1 92 j rfl).trans (hA j h1 h2)) r1)
      cases g : Q i with
      | false =>
        rw [if_pos (show bz false = 0 from rfl)]
        unfold nxE at fin ⊢
        rw [if_neg (show ¬ Q i = true by rw [g]; decide)] at fin ⊢
        exact fin
      | true =>
        have g2 := Qd_t.mp ((hQ i q1 (by omega)).symm.trans g)
        rw [if_neg (show ¬ bz true = 0 from n10), g2.1, runY (Q := Q) (pl := pl) _ (by omega) hS FU (i + 1) (by omega) (by omega) (by unfold FU; omega)]
        unfold nxE at fin ⊢
        rw [if_pos g] at fin ⊢
        exact fin
/-! pairs -/
def prE : Nat → Nat → List (Nat × Nat)
  | 0, _ => []
  | d + 1, i => (i, i + 2) :: prE d (i + 1)
theorem prX {en : Nat} (hen : en ≤ 300) : ∀ (f i : Nat) (σ : TS) (M : Mem), i ≤ en → en < i + f → PX sh lim rule M → RX σ M → OX sh lim rule SF (prE (en - 1 - i) i) σ M (fX6_cutPairs_H18 f (nI en) (nI i) M) := by
  intro f
  induction f with
  | zero => intro i σ M q1 q2; omega
  | succ f ih =>
    intro i σ M q1 q2 hP hR
    rw [fX6_cutPairs_H18]
    simp only [lt_eq, show (1 : Int32) = nI 1 from rfl, show (2 : Int32) = nI 2 from rfl, nI_add]
    by_cases c : en ≤ i + 1
    · rw [if_pos (nI_le c (by omega)), show en - 1 - i = 0 by omega]
      exact OX.nil hR
    · rw [if_neg (nI_ge (by omega) (by omega)), show en - 1 - i = (en - 1 - (i + 1)) + 1 by omega, prE]
      exact (OX.one (p := i) (e := i + 2) (by omega) (by omega) hP hR).bind (fun M1 r1 s1 => ih (i + 1) _ M1 (by omega) (by omega) (hP.move s1) r1)
def pairE (pl en : Nat) : List (Nat × Nat) := if en = pl + 1 then [(pl, en)] else prE (en - 1 - pl) pl
theorem pairX {pl en : Nat} {σ : TS} {M : Mem} (hen : en ≤ 300) (hpl : pl < en) (hP : PX sh lim rule M) (hR : RX σ M) : OX sh lim rule SF (pairE pl en) σ M (fX6_cutPairs (nI pl) (nI en) M) := by
  unfold fX6_cutPairs fX6_cutPairs_L16 pairE
  rw [pk_sub (by omega)]
  by_cases c : en = pl + 1
  · rw [if_pos (show nI (en - pl) = 1 by rw [show en - pl = 1 by omega]; rfl), if_pos c]
    have h := (OX.one (p := pl) (e := en) (by omega) (by omega) hP hR).bind (k := fun M1 => fX6_cutPairs_H18 FU (nI en) (nI pl) M1) (fun M1 r1 s1 => prX hen FU pl _ M1 (by omega) (by unfold FU; omega) (hP.move s1) r1)
    rw [show en - 1 - pl = 0 by omega] at h
    exact h
  · rw [if_neg (show ¬ nI (en - pl) = 1 from fun z => absurd ((nI_eq (b := 1) (by omega) (by omega)).mp z) (by omega)), if_neg c]
    exact prX hen FU pl σ M (by omega) (by unfold FU; omega) hP hR
theorem prY {pl en : Nat} (hn : n ≤ 300) (hen : en ≤ n) (hpl : pl < en) : ∀ (f i : Nat) (σ : TS) (M : Mem), pl ≤ i → i ≤ en → en < i + f → PY sh lim rule M → RY σ M → OY n sh lim rule SG (prE (en - 1 - i) i ++ (if en = pl + 1 then [(pl, en)] else [])) σ M (fX7_row_H171 f (nI pl) (nI en) (nI i) M) := by
  intro f
  induction f with
  | zero => intro i σ M q1 q2 q3; omega
  | succ f ih =>
    intro i σ M q1 q2 q3 hP hR
    rw [fX7_row_H171]
    simp only [lt_eq, show (1 : Int32) = nI 1 from rfl, show (2 : Int32) = nI 2 from rfl, nI_add]
    by_cases c : en ≤ i + 1
    · rw [if_pos (nI_le c (by omega)), show en - 1 - i = 0 by omega]
      by_cases d : en = pl + 1
      · rw [if_pos (show nI en = nI (pl + 1) by rw [d]), if_pos d]
        exact (OY.one (p := pl) (e := en) (by omega) hen hn hP hR).ret
      · rw [if_neg (show ¬ nI en = nI (pl + 1) from fun z => d ((nI_eq (by omega) (by omega)).mp z)), if_neg d]
        exact OY.nil hR
    · rw [if_neg (nI_ge (by omega) (by omega)), show en - 1 - i = (en - 1 - (i + 1)) + 1 by omega, prE]
      exact (OY.one (p := i) (e := i + 2) (by omega) (by omega) hn hP hR).bind (fun M1 r1 s1 => ih (i + 1) _ M1 (by omega) (by omega) (by omega) (hP.move s1) r1)
theorem pairY {pl en : Nat} {σ : TS} {M : Mem} (hn : n ≤ 300) (hen : en ≤ n) (hpl : pl < en) (hP : PY sh lim rule M) (hR : RY σ M) : OY n sh lim rule SG (pairE pl en) σ M (fX7_row_H171 FU (nI pl) (nI en) (nI pl) M) := by
  have h := prY (sh := sh) (lim := lim) (rule := rule) hn hen hpl FU pl σ M (by omega) (by omega) (by unfold FU; omega) hP hR
  unfold pairE
  by_cases c : en = pl + 1
  · rw [if_pos c] at h ⊢
    rw [show en - 1 - pl = 0 by omega] at h
    exact h
  · rw [if_neg c] at h ⊢
    rw [List.append_nil] at h
    exact h
/-! the row of a way -/
noncomputable def rowE (n w st : Nat) (len cst : Nat → Nat) (L : Nat → Nat → Nat) (b : Nat → Nat) (a m way pl en : Nat) : List (Nat × Nat) :=
  if way = 4 then pathE b pl en (en - (pl + 1)) (pl + 1) else if way = 5 then rowsE a m en (en - pl) pl else if way = 6 then szE a m en pl else if way = 7 then pcE (Fof n w st len cst L b pl en) (Qof n w st len cst L b pl en) en (en - pl) pl else if way = 8 then pairE pl en else [(pl, en)]
theorem RX.moveD {σ : TS} {M M1 : Mem} (h : RX σ M) (hs : SameBut SD M M1) : RX σ M1 := by
  refine ⟨fun q => ⟨(hs.1 5 4 rfl).trans (h.1 q).1, (hs.1 5 3 rfl).trans (h.1 q).2⟩, fun q => ?_⟩
  obtain ⟨h1, h2, h3, h4, h5, h6⟩ := h.2 q
  exact ⟨(hs.1 5 4 rfl).trans h1, (hs.1 5 3 rfl).trans h2, h3, (hs.1 5 8 rfl).trans h4, (hs.1 5 9 rfl).trans h5, fun j hj => ⟨(hs.1 6 j rfl).trans (h6 j hj).1, (hs.1 7 j rfl).trans (h6 j hj).2.1, (hs.1 8 j rfl).trans (h6 j hj).2.2⟩⟩
theorem RY.moveD {σ : TS} {M M1 : Mem} (h : RY σ M) (hs : SameBut SE M M1) : RY σ M1 := by
  refine ⟨fun q => ⟨(hs.1 50 13 rfl).trans (h.1 q).1, (hs.1 50 12 rfl).trans (h.1 q).2⟩, fun q => ?_⟩
  obtain ⟨h1, h2, h3, h4, h5, h6⟩ := h.2 q
  exact ⟨(hs.1 50 13 rfl).trans h1, (hs.1 50 12 rfl).trans h2, h3, (hs.1 50 43 rfl).trans h4, (hs.1 50 44 rfl).trans h5, fun j hj => ⟨(hs.1 65 j rfl).trans (h6 j hj).1, (hs.1 66 j rfl).trans (h6 j hj).2.1, (hs.1 67 j rfl).trans (h6 j hj).2.2⟩⟩
theorem SDX {M M1 : Mem} (h : SameBut SD M M1) : SameBut SX M M1 := h.mono (fun _ _ q => SX_SD q)
theorem SEY {M M1 : Mem} (h : SameBut SE M M1) : SameBut SY M M1 := h.mono (fun _ _ q => SY_SE q)
theorem Solved.in {pl en : Nat} {S P F : Nat → Nat} (hst : st ≤ 1000) (hl : ∀ k, k < w → 1 ≤ len k ∧ len k ≤ 12 ∧ cst k ≤ 1000) (h : Solved n w st len cst L b pl en S P F) (j : Nat) (h1 : pl ≤ j) (h2 : j < en) : 1 ≤ F j ∧ j + F j ≤ en := by
  obtain ⟨a1, a2, a3, a4⟩ := h
  have := BestW.bound hst hl h2 (fun z g1 g2 => a3 z (by omega) g2) (a4 j h1 h2)
  exact ⟨this.2.2.1, this.2.2.2.2⟩
theorem rowX {a m way pl en : Nat} {x4 x5 : Int32} {σ : TS} {M : Mem} (hen : en ≤ n) (hpl : pl < en) (hw : way ≤ 8) (hx : way = 5 ∨ way = 6 → x4 = nI a ∧ x5 = nI m ∧ a ≤ m ∧ m ≤ 300) (hP : PX sh lim rule M) (hD : DX n w st len cst L b M) (hR : RX σ M) : OX sh lim rule SX (rowE n w st len cst L b a m way pl en) σ M (fX6_cutRow (nI way) (nI pl) (nI en) x4 x5 M) := by
  have hn := hD.1
  unfold fX6_cutRow rowE
  simp (disch := omega) only [lit, nI_eq]
  by_cases c4 : way = 4
  · rw [if_pos c4, if_pos c4]
    unfold fX6_cutPaths
    rw [lt_eq, show (1 : Int32) = nI 1 from rfl, nI_add]
    exact (pathX hen (by omega) FU (pl + 1) σ M (by omega) (by omega) (by unfold FU; omega) hP hD.tx hR).up.ret
  · rw [if_neg c4, if_neg c4]
    by_cases c5 : way = 5
    · obtain ⟨rfl, rfl, g1, g2⟩ := hx (Or.inl c5)
      rw [if_pos c5, if_pos c5]
      exact (rowsX (by omega) (by omega) g2 FU pl σ M (by omega) (by unfold FU; omega) hP hR).up
    · rw [if_neg c5, if_neg c5]
      by_cases c6 : way = 6
      · obtain ⟨rfl, rfl, g1, g2⟩ := hx (Or.inr c6)
        rw [if_pos c6, if_pos c6]
        exact (szX (by omega) (by omega) (by omega) g2 hP hR).up.ret
      · rw [if_neg c6, if_neg c6]
        by_cases c7 : way = 7
        · rw [if_pos c7, if_pos c7]
          obtain ⟨M1, S, P, F, r1, r2, r3, r4, r5⟩ := solve_ok (pl := pl) (en := en) hen (by omega) hD
          rw [r1, bI_s]
          have hl := fun k hk => (hD.2.2.2.2.2.2.2.1 k hk).1
          have hl2 := fun k hk => (⟨(hD.2.2.2.2.2.2.2.1 k hk).1, (hD.2.2.2.2.2.2.2.1 k hk).2.1, (hD.2.2.2.2.2.2.2.1 k hk).2.2.2.2.1⟩ : 1 ≤ len k ∧ len k ≤ 12 ∧ cst k ≤ 1000)
          have hE := Fof_eq hl r3
          have hin := Solved.in hD.2.2.2.2.2.1 hl2 r3
          unfold fX6_cutPieces
          obtain ⟨M2, s1, s2, s3⟩ := (pcX (sh := sh) (lim := lim) (rule := rule) (F := Fof n w st len cst L b pl en) (Q := Qof n w st len cst L b pl en) (pl := pl) (en := en) (by omega) (fun j h1 h2 => by rw [hE j h1 h2]; exact hin j h1 h2) FU (en - pl) pl σ M1 (by omega) (by omega) (by unfold FU; omega) (by omega) (hP.moveX (SDX r2)) (fun j h1 h2 => ⟨by rw [hE j h1 h2]; exact (r5 j h1 h2).1, by unfold Qof; rw [← dz_Q, hE j h1 h2]; exact (r5 j h1 h2).2⟩) (hR.moveD r2)).ret
          exact ⟨M2, s1, s2, (SDX r2).trans (sSF s3)⟩
        · rw [if_neg c7, if_neg c7]
          by_cases c8 : way = 8
          · rw [if_pos c8, if_pos c8]
            exact (pairX (by omega) hpl hP hR).up.ret
          · rw [if_neg c8, if_neg c8]
            exact (OX.one (by omega) (by omega) hP hR).up.ret
theorem rowY {a m way pl en : Nat} {x4 x5 : Int32} {σ : TS} {M : Mem} (hen : en ≤ n) (hpl : pl < en) (hw : way ≤ 8) (hlk : way = 2 → gI M 50 9 = 0) (hW : gI M 50 42 = nI way) (hx : way = 5 ∨ way = 6 → x4 = nI a ∧ x5 = nI m ∧ a ≤ m ∧ m ≤ 300) (hP : PY sh lim rule M) (hD : DY n w st len cst L b M) (hR : RY σ M) : OY n sh lim rule SY (rowE n w st len cst L b a m way pl en) σ M (fX7_row (nI pl) (nI en) x4 x5 M) := by
  have hn := hD.1
  unfold fX7_row rowE fX7_row_L73 fX7_row_L211
  rw [hW]
  have e2 : nI way = 2 ↔ way = 2 := nI_eq (b := 2) (by omega) (by omega)
  have e3 : nI way = 3 ↔ way = 3 := nI_eq (b := 3) (by omega) (by omega)
  have e4 : nI way = 4 ↔ way = 4 := nI_eq (b := 4) (by omega) (by omega)
  have e5 : nI way = 5 ↔ way = 5 := nI_eq (b := 5) (by omega) (by omega)
  have e6 : nI way = 6 ↔ way = 6 := nI_eq (b := 6) (by omega) (by omega)
  have e7 : nI way = 7 ↔ way = 7 := nI_eq (b := 7) (by omega) (by omega)
  have e8 : nI way = 8 ↔ way = 8 := nI_eq (b := 8) (by omega) (by omega)
  simp only [e2, e3, e4, e5, e6, e7, e8]
  have one : OY n sh lim rule SY [(pl, en)] σ M (bV_ (fX7_tokenOf (nI pl) (nI en) M) fun M_1 => some M_1) := (OY.one (by omega) hen hn hP hR).up.ret
  by_cases c2 : way = 2
  · rw [if_pos c2, if_pos (hlk c2), if_neg (by omega), if_neg (by omega), if_neg (by omega), if_neg (by omega), if_neg (by omega)]
    exact one
  · rw [if_neg c2]
    by_cases c3 : way = 3
    · rw [if_pos c3, if_neg (by omega), if_neg (by omega), if_neg (by omega), if_neg (by omega), if_neg (by omega)]
      exact one
    · rw [if_neg c3]
      by_cases c4 : way = 4
      · rw [if_pos c4, if_pos c4]
        unfold fX7_paths
        rw [lt_eq, show (1 : Int32) = nI 1 from rfl, nI_add]
        exact (pathY hen (by omega) FU (pl + 1) σ M (by omega) (by omega) (by unfold FU; omega) hP hD.ty hR).up.ret
      · rw [if_neg c4, if_neg c4]
        by_cases c5 : way = 5
        · obtain ⟨rfl, rfl, g1, g2⟩ := hx (Or.inl c5)
          rw [if_pos c5, if_pos c5]
          have h := rowsY (sh := sh) (lim := lim) (rule := rule) (pl := pl) hn hen g1 g2 (Or.inl c5) FU pl σ M (by omega) (by omega) (by unfold FU; omega) hW hP hR
          rw [if_pos c5] at h
          exact h.up
        · rw [if_neg c5, if_neg c5]
          by_cases c6 : way = 6
          · obtain ⟨rfl, rfl, g1, g2⟩ := hx (Or.inr c6)
            rw [if_pos c6, if_pos c6]
            have h := rowsY (sh := sh) (lim := lim) (rule := rule) (pl := pl) hn hen g1 g2 (Or.inr c6) FU pl σ M (by omega) (by omega) (by unfold FU; omega) hW hP hR
            rw [if_neg c5, if_pos (show pl = pl ∧ pl < en from ⟨rfl, hpl⟩)] at h
            exact h.up
          · rw [if_neg c6, if_neg c6]
            by_cases c7 : way = 7
            · rw [if_pos c7, if_pos c7]
              unfold fX7_dictionary
              obtain ⟨M1, S, P, F, r1, r2, r3, r4, r5⟩ := ways_ok (pl := pl) (en := en) hen (by omega) hD
              rw [r1, bV_s]
              have hl := fun k hk => (hD.2.2.2.2.2.2.2.1 k hk).1
              have hl2 := fun k hk => (⟨(hD.2.2.2.2.2.2.2.1 k hk).1, (hD.2.2.2.2.2.2.2.1 k hk).2.1, (hD.2.2.2.2.2.2.2.1 k hk).2.2.2.2.1⟩ : 1 ≤ len k ∧ len k ≤ 12 ∧ cst k ≤ 1000)
              have hE := Fof_eq hl r3
              have hin := Solved.in hD.2.2.2.2.2.1 hl2 r3
              obtain ⟨M2, s1, s2, s3, s4⟩ := (pcY (sh := sh) (lim := lim) (rule := rule) (F := Fof n w st len cst L b pl en) (Q := Qof n w st len cst L b pl en) (pl := pl) (en := en) hen (fun j h1 h2 => by rw [hE j h1 h2]; exact hin j h1 h2) (fun j h1 h2 => rfl) FU (en - pl) pl σ M1 (by omega) (by omega) (by unfold FU; omega) (by omega) (hP.moveY (SEY r2)) (hD.move r2) (fun j h1 h2 => by rw [hE j h1 h2]; exact r5 j h1 h2) (hR.moveD r2)).ret
              exact ⟨M2, s1, s2, (SEY r2).trans (sSG s3), s4⟩
            · rw [if_neg c7, if_neg c7]
              by_cases c8 : way = 8
              · rw [if_pos c8, if_pos c8]
                exact (pairY hn hen hpl hP hR).up
              · rw [if_neg c8, if_neg c8]
                exact one
end
